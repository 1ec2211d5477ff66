section
/-! Steps that write rows; rows' lengths; words; the script; all steps. -/
section SOK4
variable {E : TEnv} {ms : MOD} {ph : PHI} {n pc c s : Nat} {rg : RG} {cs : List LF} {alo : List (Nat × AV)} {ast : List AV} {tc : TC} {cB sB : LF} {ρ : Nat → Int} {lo : List (Nat × KV)} {st : List KV} {w : KW} {L : List (Nat × AS)}
theorem aisI_inl {v : AV} (h : aisI v = true) : ∃ g, v = .inl g := by
  cases v with
  | inl g => exact ⟨g, rfl⟩
  | inr q => cases h
/-- a place written, all told -/
theorem s_wr (hE : kEok E) (hph : phW ph) (hT : kTW E w) (hG : aG E ph ρ n rg cs alo ast tc cB sB lo st w c s) {a t : Nat} {oa : Option Nat} {e : KE} {x : KV} {l h : Int} {f : LF} {rest : List AV} {st3 : List KV} {o : Option KF} {len : Nat} (hS : aSt E n ρ rest st3) (ha : a < E.1) (hf : lwf n f) (he : kwg w a = some e) (hk : (lev ρ f).toNat < (khd e).2.2) (i1 : 0 ≤ lev ρ f) (i4 : l ≤ lev ρ f) (i5 : lev ρ f ≤ h) (hc : kcan (khd e).1 x) (hv : vOK E (ksg (E.2.2 (E.2.1 a)).2 (lev ρ f).toNat) x) (hta : E.2.1 a = t) (hoa : ∀ a', oa = some a' → a' = a) (hm : amods ms t l h = true) (ho : o = some (pc + len, lo, st3, kws w a (kput1 e (lev ρ f).toNat x), c, s))
    {tc1 : TC} (htc : tc1 = atdelA rg a f l h tc ∨ tc1 = atdelT E rg t l h tc ∨ ∃ v', tc1 = ((a, f), v') :: atdelA rg a f l h tc ∧ aR E n ρ v' x) (hL : (match aqw E ph rg cs t oa l h f tc1 with
      | some tc' => some [(pc + len, n, rg, cs, alo, rest, tc', cB, sB)]
      | none => none) = some L) : aOk E ms ph ρ n w L o := by
  split at hL
  · rename_i tc' hq
    cases hL
    have hwv := fun b j => wval_put (v := x) he hk hc b j
    have hA : ∀ b j : Nat, ¬ (b = a ∧ (j : Int) = lev ρ f) → wval (kws w a (kput1 e (lev ρ f).toNat x)) b j = wval w b j := fun b j hne => by
      rw [hwv, if_neg]
      rintro ⟨rfl, rfl⟩
      exact hne ⟨rfl, by omega⟩
    have ha2 : a < 2000000 := Nat.lt_trans ha (Nat.lt_trans hE.1 (by decide))
    have ht60 : t < 60 := by rw [← hta]; exact hE.2.1 a ha
    have hp : ∀ p ∈ ph, 2000000 ≤ p.1 := fun p hp => (hph.1 p hp).1
    have key : tcE E n ρ tc1 (kws w a (kput1 e (lev ρ f).toNat x)) ∧ qI ph ρ tc1 w := by
      rcases htc with rfl | rfl | ⟨v', rfl, hr⟩
      · exact ⟨tcA_put hG.1.2.1 i4 i5 hA tc hG.2.2.2.1, qI_mono (mkA ha2 tc) hp hG.2.2.2.2⟩
      · refine ⟨tcT_put hG.1.2.1 (fun b j hne => hA b j ?_) tc hG.2.2.2.1, qI_mono (mkT hE ht60 tc) hp hG.2.2.2.2⟩
        rintro ⟨rfl, z⟩
        exact hne ⟨hta, by omega, by omega⟩
      · refine ⟨tcE_cons (tcA_put hG.1.2.1 i4 i5 hA tc hG.2.2.2.1) ha hf i1 ?_ hr, qI_mono (fun e he hge => List.mem_cons_of_mem _ (mkA ha2 tc e he hge)) hp hG.2.2.2.2⟩
        rw [hwv, if_pos ⟨rfl, rfl⟩]
    exact aOk_mk ho (kStp_put hT ha he hk hc hv hta (by omega) (by omega) hm) List.mem_cons_self ρ (fun _ _ => rfl) (Nat.le_refl _) ⟨hG.1, hG.2.1, hS, aqw_ok hE hph hG.1 hf ha hta hoa i1 i4 i5 hA key.1 key.2 hq⟩
  · cases hL
theorem s_stx0 (hE : kEok E) (hph : phW ph) (hT : kTW E w) (hG : aG E ph ρ n rg cs alo ast tc cB sB lo st w c s) {ok : Nat → Bool} {nar : Nat → Int32 → Int32} (hn : ok 0 = true → ∀ a, nar 0 a = a) {o : Option KF} (ho : ∀ (x : Int32) (i : Int) (a : Nat) (e : KE) (t m : Nat) r, st = .inl (.int x) :: .inl (.int (Int32.ofInt i)) :: .inl (.ref a) :: r → kwg w a = some e → khd e = (0, t, m) → ok t = true → kinB (Int32.ofInt i) m = true → 0 ≤ i → i ≤ 2147483647 → o = some (pc + 1, lo, r, kws w a (kput1 e i.toNat (.inl (.int (nar t x)))), c, s)) (h : astx E ms ph 0 ok nar pc n rg cs alo ast tc cB sB = some L) : aOk E ms ph ρ n w L o := by
  unfold astx at h
  split at h
  · rename_i v f r rest
    obtain ⟨vv, st1, rfl, hv, hS1⟩ := aSt_cons hG.2.2.1
    obtain ⟨vf, st2, rfl, hf, hS2⟩ := aSt_cons hS1
    obtain ⟨vr, st3, rfl, hr, hS⟩ := aSt_cons hS2
    have ef := hf.2
    subst ef
    split at h
    · rename_i t oa hrec
      obtain ⟨a, rfl, ha, hta, hoa⟩ := arec_ok hE hrec hr
      obtain ⟨hb, h⟩ := kcond_inv h
      simp only [Bool.and_eq_true] at hb
      obtain ⟨b1, b2⟩ := hb
      split at h
      · rename_i l u hi
        obtain ⟨i1, i2, i3, i4, i5⟩ := aidx_ok hG.1 hi
        have hlt : (lev ρ f).toNat < (E.2.2 (E.2.1 a)).1.2.2 := by rw [hta]; omega
        obtain ⟨e, v0, g1, g2, g3, g4, g5⟩ := wval_ty hT ha hlt
        rw [hta] at g2
        have hk : (lev ρ f).toNat < (khd e).2.2 := by rw [g2, ← hta]; exact hlt
        rw [ct_of (b := 0) b1] at g2
        simp only at h
        split at h
        · rename_i v' hv'
          obtain ⟨hbz, hz2⟩ := kcond_inv h
          simp only [Bool.and_eq_true] at hbz
          obtain ⟨c1, c2, c3⟩ := hbz
          obtain ⟨g, rfl⟩ := aisI_inl c2
          have ev := hv.2
          subst ev
          have ho2 := ho _ (lev ρ f) a e _ _ st3 rfl g1 g2 b2 (i32_in i1 i2 i3) i1 i2
          have h0 : (khd e).1 = 0 := by rw [g2]
          have hcan : kcan (khd e).1 (.inl (.int (nar (E.2.2 t).1.2.1 (Int32.ofInt (lev ρ g))))) := by rw [h0]; exact ⟨_, rfl⟩
          have key : (v' = .inr (9, 0) ∧ ksall l u (fun x => Nat.beq x.1 0 && (ile x.2.1 (-2147483648) && ile 2147483647 x.2.2)) (E.2.2 t).2 = true) ∨ ∃ g', v' = .inl g' ∧ aR E n ρ (.inl g') (.inl (.int (nar (E.2.2 t).1.2.1 (Int32.ofInt (lev ρ g))))) := by
            cases q0 : Nat.beq (E.2.2 t).1.2.1 0 with
            | true =>
              rw [q0] at hv'
              cases hv'
              refine Or.inr ⟨g, rfl, hv.1, ?_⟩
              rw [kb_t q0, hn (by rw [← kb_t q0]; exact b2)]
            | false =>
              rw [q0] at hv'
              simp only [cond_false] at hv'
              split at hv'
              · rename_i hg
                cases hv'
                refine Or.inr ⟨_, rfl, lwf_c _ _, ?_⟩
                rw [lev_c, i32_to, lev_k ρ hg]
              · obtain ⟨hb, hv'⟩ := kcond_inv hv'
                cases hv'
                exact Or.inl ⟨rfl, hb⟩
          rcases key with ⟨rfl, hall⟩ | ⟨g', rfl, hg'⟩
          · have hvo : vOK E (ksg (E.2.2 (E.2.1 a)).2 (lev ρ f).toNat) (.inl (.int (nar (E.2.2 t).1.2.1 (Int32.ofInt (lev ρ g))))) := by
              rw [hta]
              have hz := ksall_ok (p := fun x => Nat.beq x.1 0 && (ile x.2.1 (-2147483648) && ile 2147483647 x.2.2)) _ hall (lev ρ f).toNat (by omega) (by omega)
              simp only [Bool.and_eq_true] at hz
              have h1 := ile_ok hz.2.1
              have h2 := ile_ok hz.2.2
              have h3 := i32_lo (nar (E.2.2 t).1.2.1 (Int32.ofInt (lev ρ g)))
              have h4 := i32_hi (nar (E.2.2 t).1.2.1 (Int32.ofInt (lev ρ g)))
              exact (vOK0 (kb_t hz.1)).mpr ⟨_, rfl, by omega, by omega⟩
            cases oa with
            | some a0 =>
              have hz := hoa a0 rfl
              subst hz
              exact s_wr hE hph hT hG hS ha hf.1 g1 hk i1 i4 i5 hcan hvo hta hoa c3 ho2 (Or.inl rfl) hz2
            | none => exact s_wr hE hph hT hG hS ha hf.1 g1 hk i1 i4 i5 hcan hvo hta hoa c3 ho2 (Or.inr (Or.inl rfl)) hz2
          · have hvo : vOK E (ksg (E.2.2 (E.2.1 a)).2 (lev ρ f).toNat) (.inl (.int (nar (E.2.2 t).1.2.1 (Int32.ofInt (lev ρ g))))) := by
              rw [hta]
              exact afit_ok hG.1.2.1 (ksall_ok (p := afit E rg (.inl g')) _ c1 (lev ρ f).toNat (by omega) (by omega)) hg'
            cases oa with
            | some a0 =>
              have hz := hoa a0 rfl
              subst hz
              exact s_wr hE hph hT hG hS ha hf.1 g1 hk i1 i4 i5 hcan hvo hta hoa c3 ho2 (Or.inr (Or.inr ⟨_, rfl, hg'⟩)) hz2
            | none => exact s_wr hE hph hT hG hS ha hf.1 g1 hk i1 i4 i5 hcan hvo hta hoa c3 ho2 (Or.inr (Or.inl rfl)) hz2
        · cases h
      · cases h
    · cases h
  · cases h
theorem s_stx1 (hE : kEok E) (hph : phW ph) (hT : kTW E w) (hG : aG E ph ρ n rg cs alo ast tc cB sB lo st w c s) {ok : Nat → Bool} {nar : Nat → Int32 → Int32} {o : Option KF} (ho : ∀ (x : Int64) (i : Int) (a : Nat) (e : KE) (t m : Nat) r, st = .inl (.long x) :: .inl (.int (Int32.ofInt i)) :: .inl (.ref a) :: r → kwg w a = some e → khd e = (1, t, m) → ok t = true → kinB (Int32.ofInt i) m = true → 0 ≤ i → i ≤ 2147483647 → o = some (pc + 1, lo, r, kws w a (kput1 e i.toNat (.inl (.long x))), c, s)) (h : astx E ms ph 1 ok nar pc n rg cs alo ast tc cB sB = some L) : aOk E ms ph ρ n w L o := by
  unfold astx at h
  split at h
  · rename_i v f r rest
    obtain ⟨vv, st1, rfl, hv, hS1⟩ := aSt_cons hG.2.2.1
    obtain ⟨vf, st2, rfl, hf, hS2⟩ := aSt_cons hS1
    obtain ⟨vr, st3, rfl, hr, hS⟩ := aSt_cons hS2
    have ef := hf.2
    subst ef
    split at h
    · rename_i t oa hrec
      obtain ⟨a, rfl, ha, hta, hoa⟩ := arec_ok hE hrec hr
      obtain ⟨hb, h⟩ := kcond_inv h
      simp only [Bool.and_eq_true] at hb
      obtain ⟨b1, b2⟩ := hb
      split at h
      · rename_i l u hi
        obtain ⟨i1, i2, i3, i4, i5⟩ := aidx_ok hG.1 hi
        have hlt : (lev ρ f).toNat < (E.2.2 (E.2.1 a)).1.2.2 := by rw [hta]; omega
        obtain ⟨e, v0, g1, g2, g3, g4, g5⟩ := wval_ty hT ha hlt
        rw [hta] at g2
        have hk : (lev ρ f).toNat < (khd e).2.2 := by rw [g2, ← hta]; exact hlt
        rw [ct_of (b := 0) b1] at g2
        simp only at h
        obtain ⟨hbz, hz2⟩ := kcond_inv h
        simp only [Bool.and_eq_true] at hbz
        obtain ⟨c1, c2, c3⟩ := hbz
        obtain ⟨x, rfl⟩ := aisG_ok c2 hv
        have ho2 := ho _ (lev ρ f) a e _ _ st3 rfl g1 g2 b2 (i32_in i1 i2 i3) i1 i2
        have h0 : (khd e).1 = 1 := by rw [g2]
        have hcan : kcan (khd e).1 (.inl (.long x)) := by rw [h0]; exact ⟨_, rfl⟩
        rcases v with g | ⟨q1, q2⟩
        · cases c2
        · have q9 : q1 = 1 := kb_t c2
          subst q9
          have hvo : vOK E (ksg (E.2.2 (E.2.1 a)).2 (lev ρ f).toNat) (.inl (.long x)) := by
            rw [hta]
            exact afit_ok hG.1.2.1 (ksall_ok (p := afit E rg (.inr (1, q2))) _ c1 (lev ρ f).toNat (by omega) (by omega)) hv
          cases oa with
          | some a0 =>
            have hz := hoa a0 rfl
            subst hz
            exact s_wr hE hph hT hG hS ha hf.1 g1 hk i1 i4 i5 hcan hvo hta hoa c3 ho2 (Or.inr (Or.inr ⟨_, rfl, hv⟩)) hz2
          | none => exact s_wr hE hph hT hG hS ha hf.1 g1 hk i1 i4 i5 hcan hvo hta hoa c3 ho2 (Or.inr (Or.inl rfl)) hz2
      · cases h
    · cases h
  · cases h
theorem wval_set {w : KW} {a : Nat} {e e' : KE} (h : kwg w a = some e) (b j : Nat) : wval (kws w a e') b j = if b = a then kev e' j else wval w b j := by
  unfold wval
  rw [kwg_kws h]
  by_cases h1 : b = a
  · rw [if_pos h1, if_pos h1]
  · rw [if_neg h1, if_neg h1]
theorem kTW_set (hT : kTW E w) {a : Nat} {e e' : KE} (h : kwg w a = some e) (hh : khd e' = khd e) (hv : ∀ k, k < (E.2.2 (E.2.1 a)).1.2.2 → ∃ v, kev e' k = some v ∧ vOK E (ksg (E.2.2 (E.2.1 a)).2 k) v) : kTW E (kws w a e') := by
  refine ⟨by rw [kfr_set]; exact hT.1, fun b hb => ?_⟩
  rw [kwg_kws h]
  by_cases h1 : b = a
  · subst h1
    rw [if_pos rfl]
    obtain ⟨e0, h2, h3, h4⟩ := hT.2 b hb
    rw [h] at h2
    cases h2
    exact ⟨_, rfl, hh.trans h3, hv⟩
  · rw [if_neg h1]
    exact hT.2 b hb
theorem s_cpy (hE : kEok E) (hph : phW ph) (hT : kTW E w) (hG : aG E ph ρ n rg cs alo ast tc cB sB lo st w c s) (h : acpy E ms ph pc n rg cs alo ast tc cB sB = some L) : aOk E ms ph ρ n w L (kcopy pc lo st w c s) := by
  unfold acpy at h
  split at h
  · rename_i fc fd r1 fs r0 rest
    obtain ⟨v1, st1, rfl, hv1, hS1⟩ := aSt_cons hG.2.2.1
    obtain ⟨v2, st2, rfl, hv2, hS2⟩ := aSt_cons hS1
    obtain ⟨v3, st3, rfl, hv3, hS3⟩ := aSt_cons hS2
    obtain ⟨v4, st4, rfl, hv4, hS4⟩ := aSt_cons hS3
    obtain ⟨v5, st5, rfl, hv5, hS⟩ := aSt_cons hS4
    have q1 := hv1.2
    have q2 := hv2.2
    have q4 := hv4.2
    subst q1 q2 q4
    split at h
    · rename_i t0 z0 t1 oa e1 e2 e3 hr0 hr1
      obtain ⟨a0, rfl, ha0, hta0, -⟩ := arec_ok hE hr0 hv5
      obtain ⟨a1, rfl, ha1, hta1, hoa⟩ := arec_ok hE hr1 hv3
      obtain ⟨hb, h⟩ := kcond_inv h
      simp only [Bool.and_eq_true] at hb
      obtain ⟨b1, b2, b3, b4, b5, b6, b7, b8, b9, b10, b11, b12⟩ := hb
      have d1 := iz_ok b1
      have d2 := iz_ok b2
      have d3 := of_decide_eq_true b3
      have d4 : (E.2.2 t0).1.2.2 < 100000 := Nat.ble_eq.mp b4
      have d5 := kb_t b5
      have d6 := kb_t b6
      have d7 := kb_t b7
      obtain ⟨x0, g1, g2, g3⟩ := hT.2 a0 ha0
      obtain ⟨x1, k1, k2, k3⟩ := hT.2 a1 ha1
      rw [hta0] at g2 g3
      rw [hta1] at k2 k3
      have hcat : Nat.ble (kcats st5) 8 = true := by rw [(aSt_ok _ _ hS).2]; exact b12
      have m1 : decide ((Int32.ofInt (lev ρ fs) : Int32) = 0) = true := by rw [lev_k ρ e3, d2]; rfl
      have m2 : decide ((Int32.ofInt (lev ρ fd) : Int32) = 0) = true := by rw [lev_k ρ e2, d1]; rfl
      have m3 : (!decide ((Int32.ofInt (lev ρ fc) : Int32) < 0)) = true := by
        rw [lev_k ρ e1, d3]
        have := (i32_lt (a := ((E.2.2 t0).1.2.2 : Int)) (b := 0) (by omega) (by omega) (by omega) (by omega))
        have hz : ¬ Int32.ofInt ((E.2.2 t0).1.2.2 : Int) < (0 : Int32) := fun q => absurd (this.mp q) (by omega)
        rw [decide_eq_false hz]
        rfl
      have m4 : (Int32.ofInt (lev ρ fc)).toNatClampNeg = (E.2.2 t0).1.2.2 := by
        rw [lev_k ρ e1, d3, i32_clamp (by omega) (by omega)]
        omega
      -- the copied row
      have main : ∀ (y : KE), khd y = (E.2.2 t1).1 → (∀ k, kev y k = kev x0 k) → (∀ k, (E.2.2 t1).1.2.2 ≤ k → kev x0 k = none ∧ kev x1 k = none) → kcopy pc lo (.inl (.int (Int32.ofInt (lev ρ fc))) :: .inl (.int (Int32.ofInt (lev ρ fd))) :: .inl (.ref a1) :: .inl (.int (Int32.ofInt (lev ρ fs))) :: .inl (.ref a0) :: st5) w c s = some (pc + 3, lo, st5, kws w a1 y, c, s) → aOk E ms ph ρ n w L (kcopy pc lo (.inl (.int (Int32.ofInt (lev ρ fc))) :: .inl (.int (Int32.ofInt (lev ρ fd))) :: .inl (.ref a1) :: .inl (.int (Int32.ofInt (lev ρ fs))) :: .inl (.ref a0) :: st5) w c s) := fun y y1 y2 y3 ho => by
        have hout : ∀ b j : Nat, ¬ (b = a1 ∧ (j : Int) ≥ 0 ∧ (j : Int) ≤ ((E.2.2 t0).1.2.2 : Int) - 1) → wval (kws w a1 y) b j = wval w b j := fun b j hne => by
          rw [wval_set k1]
          by_cases h1 : b = a1
          · rw [if_pos h1]
            have hj : (E.2.2 t1).1.2.2 ≤ j := Nat.le_of_not_lt fun q => hne ⟨h1, by omega, by omega⟩
            rw [y2, (y3 j hj).1, h1]
            unfold wval
            rw [k1]
            exact (y3 j hj).2.symm
          · rw [if_neg h1]
        have hin : ∀ j : Nat, (j : Int) ≤ ((E.2.2 t0).1.2.2 : Int) - 1 → kmod E ms a1 j := fun j hj => amods_ok b10 hta1 (by omega) hj
        have hst : kStp E ms w (kws w a1 y) := by
          refine ⟨kTW_set hT k1 (y1.trans k2.symm) (fun k hk => ?_), fun b j _ hn => hout b j ?_⟩
          · rw [hta1] at hk ⊢
            rw [y2]
            obtain ⟨v, f1, f2⟩ := g3 k (by rw [d5]; exact hk)
            refine ⟨v, f1, ?_⟩
            rcases Bool.or_eq_true_iff.mp b9 with q | q
            · rw [← kb_t q]; exact f2
            · split at q
              · rename_i pa pb ea eb
                rw [ea] at f2
                rw [eb]
                exact vsub_ok q f2
              · cases q
          · rintro ⟨rfl, -, z2⟩
            exact hn (hin j z2)
        have ht60 : t1 < 60 := by rw [← hta1]; exact hE.2.1 a1 ha1
        cases h
        refine aOk_mk ho hst List.mem_cons_self ρ (fun _ _ => rfl) (Nat.le_refl _) ⟨hG.1, hG.2.1, hS, tcT_put (w := w) hG.1.2.1 (fun b j hne => hout b j ?_) tc hG.2.2.2.1, qI_mono (mkT hE ht60 tc) (fun p hp => (hph.1 p hp).1) (qI_un b11 (fun b j hne => hout b j ?_) hG.2.2.2.2)⟩
        · rintro ⟨rfl, z1, z2⟩
          exact hne ⟨hta1, z1, z2⟩
        · rintro ⟨rfl, -, -⟩
          exact hne hta1
      have g2' := g2
      have k2' := k2
      rw [show (E.2.2 t0).1 = ((E.2.2 t0).1.1, (E.2.2 t0).1.2.1, (E.2.2 t0).1.2.2) from rfl] at g2
      rw [show (E.2.2 t1).1 = ((E.2.2 t1).1.1, (E.2.2 t1).1.2.1, (E.2.2 t1).1.2.2) from rfl, ← d5, ← d6, ← d7] at k2
      have hct : (E.2.2 t1).1 = ((E.2.2 t0).1.1, (E.2.2 t0).1.2.1, (E.2.2 t0).1.2.2) := by rw [← k2', k2]
      rcases Bool.or_eq_true_iff.mp b8 with q | q
      · simp only [Bool.and_eq_true] at q
        have p1 := kb_t q.1
        have p2 := kb_t q.2
        rw [p1, p2] at g2 k2
        obtain ⟨l0, dd0, rfl⟩ := khd0 g2
        obtain ⟨l1, dd1, rfl⟩ := khd0 k2
        refine main (.inl (0, (E.2.2 t0).1.2.2, .inl (l0, dd0))) ?_ (fun _ => rfl) (fun k hk => ?_) ?_
        · rw [hct, p1, p2]; rfl
        · have hz : Nat.blt k (E.2.2 t0).1.2.2 = false := by
            cases z : Nat.blt k (E.2.2 t0).1.2.2 with
            | false => rfl
            | true => have := Nat.ble_eq.mp z; omega
          exact ⟨by show (bif Nat.blt k (E.2.2 t0).1.2.2 then _ else none) = none; rw [hz]; rfl, by show (bif Nat.blt k (E.2.2 t0).1.2.2 then _ else none) = none; rw [hz]; rfl⟩
        · unfold kcopy
          simp only [g1, k1]
          rw [m1, m2, m3, m4, Nat.beq_refl, Nat.beq_refl, hcat]
          rfl
      · simp only [Bool.and_eq_true] at q
        have p1 := kb_t q.1
        have p2 := kb_t q.2
        rw [p1, p2] at g2 k2
        obtain ⟨l0, dd0, rfl⟩ := khd1 g2
        obtain ⟨l1, dd1, rfl⟩ := khd1 k2
        refine main (.inl (1, (E.2.2 t0).1.2.2, .inr (.inl (l0, dd0)))) ?_ (fun _ => rfl) (fun k hk => ?_) ?_
        · rw [hct, p1, p2]; rfl
        · have hz : Nat.blt k (E.2.2 t0).1.2.2 = false := by
            cases z : Nat.blt k (E.2.2 t0).1.2.2 with
            | false => rfl
            | true => have := Nat.ble_eq.mp z; omega
          exact ⟨by show (bif Nat.blt k (E.2.2 t0).1.2.2 then _ else none) = none; rw [hz]; rfl, by show (bif Nat.blt k (E.2.2 t0).1.2.2 then _ else none) = none; rw [hz]; rfl⟩
        · unfold kcopy
          simp only [g1, k1]
          rw [m1, m2, m3, m4, Nat.beq_refl, Nat.beq_refl, hcat]
          rfl
    · cases h
  · cases h
end SOK4
end
section
/-! Rows' lengths, words, the script, all steps. -/
section SOK5
variable {E : TEnv} {ms : MOD} {ph : PHI} {n pc c s : Nat} {rg : RG} {cs : List LF} {alo : List (Nat × AV)} {ast : List AV} {tc : TC} {cB sB : LF} {ρ : Nat → Int} {lo : List (Nat × KV)} {st : List KV} {w : KW} {L : List (Nat × AS)}
/-- the words' labels -/
def kEw (E : TEnv) : Prop := ∀ a, 1000100 ≤ a → a ≤ 1000129 → E.2.1 a = 60
/-- the script's length is the first unknown; from the place of the second unknown on its six ints are the next ones -/
def kScA (sc : Bool) (n : Nat) (ρ : Nat → Int) (rgk : List (Int × Int)) (L0 : Nat) : Prop := sc = true → 8 ≤ n ∧ L0 = rgk.length + 1 ∧ ρ 0 = (rgk.length : Int) ∧ (∀ q ∈ rgk, q.1 = q.2) ∧ ∀ (j : Nat) (q : Int × Int), j < 6 → rgk[(ρ 1 + (j : Int)).toNat]? = some q → ρ (2 + j) = q.1
theorem kScA.ag {sc : Bool} {n m : Nat} {ρ ρ' : Nat → Int} {rgk : List (Int × Int)} {L0 : Nat} (h : kScA sc n ρ rgk L0) (hn : n ≤ m) (ha : ∀ i, i < n → ρ' i = ρ i) : kScA sc m ρ' rgk L0 := fun hs => by
  obtain ⟨a1, a2, a3, a4, a5⟩ := h hs
  refine ⟨Nat.le_trans a1 hn, a2, by rw [ha 0 (by omega)]; exact a3, a4, fun j q hj hq => ?_⟩
  rw [ha 1 (by omega)] at hq
  rw [ha (2 + j) (by omega)]
  exact a5 j q hj hq
theorem awin_ok {f : LF} {ρ : Nat → Int} (h : awin f = true) : lev ρ f = ρ 1 + f.1 ∧ 0 ≤ f.1 ∧ f.1 ≤ 5 := by
  obtain ⟨c, l⟩ := f
  unfold awin at h
  split at h
  · rename_i q hq
    have hq : l = [q] := hq
    subst hq
    simp only [Bool.and_eq_true] at h
    obtain ⟨h1, h2, h3, h4, h5⟩ := h
    obtain ⟨v, k⟩ := q
    have e1 : v = 1 := kb_t h1
    have h2 : (1 : Int) ≤ k := ile_ok h2
    have h3 : k ≤ 1 := ile_ok h3
    have e2 : k = 1 := Int.le_antisymm h3 h2
    subst e1 e2
    refine ⟨?_, ile_ok h4, ile_ok h5⟩
    show c + (1 * ρ 1 + 0) = ρ 1 + c
    omega
  · cases h
theorem kokN_w {N a : Nat} (h : 1000000 ≤ a) : kokN N a = true := by
  unfold kokN
  rw [show Nat.ble 1000000 a = true from Nat.ble_eq.mpr h, Bool.or_true]
theorem aR_lab {a : Nat} (h : 1000000 ≤ a) : aR E n ρ (.inr (2, a)) (.inl (.ref a)) := ⟨fun q => (nomatch q), (vOK2 (t := (2, (a : Int), 0)) rfl).mpr ⟨rfl, kokN_w h⟩⟩
theorem aR_labI {a : Nat} {v : KV} (h : aR E n ρ (.inr (2, a)) v) : v = .inl (.ref a) := ((vOK2 (t := (2, (a : Int), 0)) rfl).mp h.2).1
theorem kscr_no (hE : kEok E) {a : Nat} (ha : a < E.1) : kscr (.inl (.ref a)) = false := kb_n (fun z => absurd (Nat.lt_trans ha hE.1) (by rw [z]; decide))
theorem kald_row (hE : kEok E) {rgk : List (Int × Int)} {L0 : Nat} {ok : Nat → Bool} {x : Int} {a : Nat} {e : KE} {t m : Nat} {v : KV} {r : List KV} (ha : a < E.1) (g1 : kwg w a = some e) (g2 : khd e = (0, t, m)) (b2 : ok t = true) (b3 : kinB (Int32.ofInt x) m = true) (i1 : 0 ≤ x) (i2 : x ≤ 2147483647) (g3 : kev e x.toNat = some v) : kald rgk L0 ok pc lo (.inl (.int (Int32.ofInt x)) :: .inl (.ref a) :: r) w c s = some (pc + 1, lo, v :: r, w, c, s) := by
  obtain ⟨l, d, rfl⟩ := khd0 g2
  unfold kald
  simp only [g1]
  rw [kscr_no hE ha, b2, b3, i32_clamp i1 i2]
  simp only [Bool.false_and, cond_false, Bool.and_true, cond_true]
  have g3 : (bif Nat.blt x.toNat m then some (kofI (kget l d x.toNat)) else none) = some v := g3
  obtain ⟨-, g3⟩ := kcond_inv g3
  rw [Option.some.inj g3]
theorem klald_row {x : Int} {a : Nat} {e : KE} {t m : Nat} {v : KV} {r : List KV} (g1 : kwg w a = some e) (g2 : khd e = (1, t, m)) (b2 : Nat.beq t 1 = true) (b3 : kinB (Int32.ofInt x) m = true) (i1 : 0 ≤ x) (i2 : x ≤ 2147483647) (g3 : kev e x.toNat = some v) : klald pc lo (.inl (.int (Int32.ofInt x)) :: .inl (.ref a) :: r) w c s = some (pc + 1, lo, v :: r, w, c, s) := by
  obtain ⟨l, d, rfl⟩ := khd1 g2
  unfold klald
  simp only [g1]
  rw [b2, b3, i32_clamp i1 i2]
  simp only [Bool.and_true, cond_true]
  have g3 : (bif Nat.blt x.toNat m then some (Sum.inl (.long (kget l d x.toNat)) : KV) else none) = some v := g3
  obtain ⟨-, g3⟩ := kcond_inv g3
  rw [Option.some.inj g3]
theorem kaald_row {x : Int} {a : Nat} {e : KE} {t m : Nat} {v : KV} {r : List KV} (g1 : kwg w a = some e) (g2 : khd e = (2, t, m)) (b2 : (Nat.beq t 5 || Nat.beq t 6) = true) (b3 : kinB (Int32.ofInt x) m = true) (i1 : 0 ≤ x) (i2 : x ≤ 2147483647) (g3 : kev e x.toNat = some v) : kaald pc lo (.inl (.int (Int32.ofInt x)) :: .inl (.ref a) :: r) w c s = some (pc + 1, lo, v :: r, w, c, s) := by
  obtain ⟨l, rfl⟩ := khd2 g2
  unfold kaald
  simp only [g1]
  rw [b2, b3, i32_clamp i1 i2]
  simp only [Bool.and_true, cond_true]
  have g3 : (bif Nat.blt x.toNat m then some (kofR (kget l none x.toNat)) else none) = some v := g3
  obtain ⟨-, g3⟩ := kcond_inv g3
  rw [Option.some.inj g3]
theorem s_len (hE : kEok E) (hT : kTW E w) (hG : aG E ph ρ n rg cs alo ast tc cB sB lo st w c s) {sc : Bool} {rgk : List (Int × Int)} {L0 : Nat} (hsc : kScA sc n ρ rgk L0) (h : alen E sc pc n rg cs alo ast tc cB sB = some L) : aOk E ms ph ρ n w L (kwal L0 pc lo st w c s) := by
  unfold alen at h
  split at h
  · rename_i r rest
    obtain ⟨vr, st', rfl, hr, hS⟩ := aSt_cons hG.2.2.1
    have hG' : aG E ph ρ n rg cs alo rest tc cB sB lo st' w c s := ⟨hG.1, hG.2.1, hS, hG.2.2.2⟩
    split at h
    · have e := aR_labI hr
      subst e
      exact s_const hT hG' (x := 30) rfl h
    · have e := aR_labI hr
      subst e
      obtain ⟨hs, h⟩ := kcond_inv h
      obtain ⟨s1, s2, s3, -⟩ := hsc hs
      refine s_push hT hG' (a := .inl (lfv 0)) ⟨lwf_v (by omega), rfl⟩ ?_ h
      rw [lev_v, s3, s2]
      rfl
    · split at h
      · rename_i t oa hrec
        obtain ⟨a, rfl, ha, hta, -⟩ := arec_ok hE hrec hr
        obtain ⟨hb, h⟩ := kcond_inv h
        simp only [Bool.and_eq_true] at hb
        obtain ⟨b1, b2, b3⟩ := hb
        obtain ⟨e, g1, g2, -⟩ := hT.2 a ha
        rw [hta] at g2
        have hh : (khd e).1 ≤ 2 := by rw [g2]; exact Nat.ble_eq.mp b1
        rcases e with ⟨ty, m, d⟩ | ⟨ci, fs⟩
        · have k2 : (khd (.inl (ty, m, d))).2 = (ty, m) := by
            rcases d with ⟨l, d⟩ | ⟨l, d⟩ | l <;> rfl
          rw [g2] at k2
          rw [k2] at b2
          refine s_push hT hG' (a := .inl (lfc ((E.2.2 t).1.2.2 : Int))) ⟨lwf_c _ _, rfl⟩ ?_ h
          rw [lev_c, k2]
          have q1 : Nat.beq a 1000050 = false := kb_n (fun z => absurd (Nat.lt_trans ha hE.1) (by rw [z]; decide))
          unfold kwal
          simp only
          rw [q1]
          simp only [cond_false]
          unfold kalen
          simp only
          rw [kscr_no hE ha, g1]
          simp only [Bool.false_and, cond_false]
          rw [b2]
          rfl
        · exact absurd hh (show ¬ (9 ≤ 2) by decide)
      · cases h
  · cases h
theorem s_wld (hE : kEok E) (hW : kEw E) (hT : kTW E w) (hG : aG E ph ρ n rg cs alo ast tc cB sB lo st w c s) (h : awld E pc n rg cs alo ast tc cB sB = some L) : aOk E ms ph ρ n w L (kwald pc lo st w c s) := by
  unfold awld at h
  split at h
  · rename_i f rest
    obtain ⟨vf, st1, rfl, hf, hS1⟩ := aSt_cons hG.2.2.1
    obtain ⟨vr, st2, rfl, hr, hS⟩ := aSt_cons hS1
    have hG' : aG E ph ρ n rg cs alo rest tc cB sB lo st2 w c s := ⟨hG.1, hG.2.1, hS, hG.2.2.2⟩
    have e := aR_labI hr
    have ef := hf.2
    subst e ef
    split at h
    · rename_i q hi
      obtain ⟨i1, i2, i3, -, -⟩ := aidx_ok (l := q.1) (h := q.2) hG.1 hi
      refine s_push hT hG' (a := .inr (3, 60)) (v := .inl (.ref (1000100 + (lev ρ f).toNat))) ⟨fun q => (nomatch q), (vOK3 (t := (3, ((60 : Nat) : Int), 0)) rfl).mpr ⟨_, rfl, kokN_w (by omega), hW _ (by omega) (by omega)⟩⟩ ?_ h
      unfold kwald
      simp only
      rw [i32_in i1 i2 i3, i32_clamp i1 i2]
      rfl
    · cases h
  · refine s_ldx hE hT hG (fun x a e t m v r e0 ha g1 g2 b2 b3 i1 i2 _ g3 => ?_) h
    subst e0
    have q1 : Nat.beq a 1000050 = false := kb_n (fun z => absurd (Nat.lt_trans ha hE.1) (by rw [z]; decide))
    unfold kwald
    simp only
    rw [q1]
    exact kaald_row g1 g2 b2 b3 i1 i2 g3
theorem s_sld (hE : kEok E) (hT : kTW E w) (hG : aG E ph ρ n rg cs alo ast tc cB sB lo st w c s) {sc : Bool} {rgk : List (Int × Int)} {L0 : Nat} (hsc : kScA sc n ρ rgk L0) (h : asld E sc pc n rg cs alo ast tc cB sB = some L) : aOk E ms ph ρ n w L (kald rgk L0 (fun t => Nat.beq t 0) pc lo st w c s) := by
  unfold asld at h
  split at h
  · rename_i f rest
    obtain ⟨vf, st1, rfl, hf, hS1⟩ := aSt_cons hG.2.2.1
    obtain ⟨vr, st2, rfl, hr, hS⟩ := aSt_cons hS1
    have hG' : aG E ph ρ n rg cs alo rest tc cB sB lo st2 w c s := ⟨hG.1, hG.2.1, hS, hG.2.2.2⟩
    have e := aR_labI hr
    have ef := hf.2
    subst e ef
    obtain ⟨hb, h⟩ := kcond_inv h
    simp only [Bool.and_eq_true] at hb
    obtain ⟨b1, b2, b3, b4⟩ := hb
    obtain ⟨s1, s2, s3, s4, s5⟩ := hsc b1
    have r1 := l32_ok hG.1.2.1 b2
    have r2 := lle_ok hG.1.2.1 hG.1.2.2.1 b3
    have r3 := lle_ok hG.1.2.1 hG.1.2.2.1 b4
    rw [lev_neg] at r2
    rw [lev_add, lev_sub, lev_v, lev_c, s3] at r3
    have hlt : (lev ρ f).toNat < rgk.length := by omega
    obtain ⟨q, hq⟩ : ∃ q, rgk[(lev ρ f).toNat]? = some q := ⟨_, List.getElem?_eq_getElem hlt⟩
    have hqq := s4 q (List.mem_of_getElem? hq)
    have key : kald rgk L0 (fun t => Nat.beq t 0) pc lo (.inl (.int (Int32.ofInt (lev ρ f))) :: .inl (.ref 1000000) :: st2) w c s = some (pc + 1, lo, .inl (.int (Int32.ofInt q.1)) :: st2, w, c, s) := by
      unfold kald
      simp only
      rw [show kscr (.inl (.ref 1000000)) = true from rfl, s2, i32_in (by omega) (by omega) (by omega), i32_clamp (by omega) (by omega)]
      simp only [Bool.and_true, cond_true]
      unfold kscl
      rw [hq]
      obtain ⟨q1, q2⟩ := q
      have hqq : q1 = q2 := hqq
      subst hqq
      simp only
      simp only [decide_true, cond_true]
    cases hw : awin f with
    | true =>
      rw [hw] at h
      simp only [cond_true] at h
      obtain ⟨w1, w2, w3⟩ := awin_ok (ρ := ρ) hw
      have e2 : ρ 1 + ((f.1.toNat : Nat) : Int) = lev ρ f := by rw [w1]; omega
      have e3 := s5 f.1.toNat q (by omega) (by rw [e2]; exact hq)
      refine s_push hT hG' (a := .inl (lfv (2 + f.1.toNat))) ⟨lwf_v (by omega), rfl⟩ ?_ h
      rw [lev_v, e3]
      exact key
    | false =>
      rw [hw] at h
      simp only [cond_false] at h
      exact s_any hT hG' (x := Int32.ofInt q.1) key h
  · refine s_ldx hE hT hG (fun x a e t m v r e0 ha g1 g2 b2 b3 i1 i2 _ g3 => ?_) h
    subst e0
    exact kald_row hE ha g1 g2 b2 b3 i1 i2 g3
theorem kast_row {ok : Nat → Bool} {nar : Nat → Int32 → Int32} {y : Int32} {x : Int} {a : Nat} {e : KE} {t m : Nat} {r : List KV} (g1 : kwg w a = some e) (g2 : khd e = (0, t, m)) (b2 : ok t = true) (b3 : kinB (Int32.ofInt x) m = true) (i1 : 0 ≤ x) (i2 : x ≤ 2147483647) : kast ok nar pc lo (.inl (.int y) :: .inl (.int (Int32.ofInt x)) :: .inl (.ref a) :: r) w c s = some (pc + 1, lo, r, kws w a (kput1 e x.toNat (.inl (.int (nar t y)))), c, s) := by
  obtain ⟨l, d, rfl⟩ := khd0 g2
  unfold kast
  simp only [g1]
  rw [b2, b3, i32_clamp i1 i2]
  rfl
theorem klast_row {y : Int64} {x : Int} {a : Nat} {e : KE} {t m : Nat} {r : List KV} (g1 : kwg w a = some e) (g2 : khd e = (1, t, m)) (b2 : Nat.beq t 1 = true) (b3 : kinB (Int32.ofInt x) m = true) (i1 : 0 ≤ x) (i2 : x ≤ 2147483647) : klast pc lo (.inl (.long y) :: .inl (.int (Int32.ofInt x)) :: .inl (.ref a) :: r) w c s = some (pc + 1, lo, r, kws w a (kput1 e x.toNat (.inl (.long y))), c, s) := by
  obtain ⟨l, d, rfl⟩ := khd1 g2
  unfold klast
  simp only [g1]
  rw [b2, b3, i32_clamp i1 i2]
  rfl
end SOK5
end
section
/-! Every step of ado is right for kdx. -/
theorem ado_ok {E : TEnv} {ms : MOD} {ph : PHI} {n pc c s : Nat} {rg : RG} {cs : List LF} {alo : List (Nat × AV)} {ast : List AV} {tc : TC} {cB sB : LF} {ρ : Nat → Int} {lo : List (Nat × KV)} {st : List KV} {w : KW} {L : List (Nat × AS)} (hE : kEok E) (hW : kEw E) (hph : phW ph) (hT : kTW E w) (hG : aG E ph ρ n rg cs alo ast tc cB sB lo st w c s) {sc : Bool} {rgk : List (Int × Int)} {L0 nL Rc Rs : Nat} (hsc : kScA sc n ρ rgk L0) {X : KO} {call : Nat → List KV → KW → Option (Option KV × KW)} {x : KX} {ig : Instr} (h : ado E ms ph sc nL Rc Rs ig x pc n rg cs alo ast tc cB sB = some L) : aOk E ms ph ρ n w L (kdx ig X call rgk L0 nL Rc Rs x pc lo st w c s) := by
  cases ig
  case iconst z => exact s_const hT hG (x := Int32.ofInt z) rfl h
  case bipush z => exact s_const hT hG (x := (Int8.ofInt z).toInt32) rfl h
  case sipush z => exact s_const hT hG (x := (Int16.ofInt z).toInt32) rfl h
  case lconst z => exact s_push hT hG (v := .inl (.long (Int64.ofNat z.val))) (aR_longE (lenc z.val) (lenc_ok _)) rfl h
  case ldc2_w i => exact s_push hT hG (v := .inl (.long (Int64.ofNat x.1))) (aR_longE (lenc x.1) (lenc_ok _)) rfl h
  case aconst_null => exact s_push hT hG (a := .inr (5, 0)) (v := .inl .null) ⟨fun q => (nomatch q), (vOK5 (t := (5, ((0 : Nat) : Int), 0)) rfl).mpr rfl⟩ rfl h
  case ldc i =>
    have h : (bif Nat.beq x.2.1 1 then some [(pc + 2, n, rg, cs, alo, (.inr (2, 1000200 + x.1) : AV) :: ast, tc, cB, sB)] else some [(pc + 2, n, rg, cs, alo, .inl (lfc (Int32.ofNat x.1).toInt) :: ast, tc, cB, sB)]) = some L := h
    show aOk E ms ph ρ n w L (bif Nat.beq x.2.1 1 then some (pc + 2, lo, .inl (.ref (1000200 + x.1)) :: st, w, c, s) else some (pc + 2, lo, .inl (.int (Int32.ofNat x.1)) :: st, w, c, s))
    cases q : Nat.beq x.2.1 1 with
    | true => rw [q] at h; exact s_push hT hG (aR_lab (by omega)) rfl h
    | false => rw [q] at h; exact s_const hT hG rfl h
  case ldc_w i => exact s_const hT hG (x := Int32.ofNat x.1) rfl h
  case getstatic i => exact s_push hT hG (a := .inr (2, 1000001 + x.1)) (aR_lab (by omega)) rfl h
  case iload_n i => exact s_load hT hG (fun a v h1 h2 => aisI_ok h1 h2) h
  case iload i => exact s_load hT hG (fun a v h1 h2 => aisI_ok h1 h2) h
  case aload_n i => exact s_load hT hG (fun a v h1 h2 => aisQ_k h1 h2) h
  case aload i => exact s_load hT hG (fun a v h1 h2 => aisQ_k h1 h2) h
  case lload_n i => exact s_load hT hG (fun a v h1 h2 => aisG_k h1 h2) h
  case lload i => exact s_load hT hG (fun a v h1 h2 => aisG_k h1 h2) h
  case istore_n i => exact s_store hT hG (fun a v h1 h2 => aisI_ok h1 h2) h
  case istore i => exact s_store hT hG (fun a v h1 h2 => aisI_ok h1 h2) h
  case astore_n i => exact s_store hT hG (fun a v h1 h2 => aisQ_k h1 h2) h
  case astore i => exact s_store hT hG (fun a v h1 h2 => aisQ_k h1 h2) h
  case lstore_n i => exact s_store2 hT hG h
  case lstore i => exact s_store2 hT hG h
  case iinc i z => exact s_inc hT hG h
  case iadd => exact s_op2 (k := 0) hT hG (fun _ _ _ => rfl) (fun q => (nomatch q)) (fun q => (nomatch q)) (fun q => (nomatch q)) (fun q => (nomatch q)) (fun x y rest e => by subst e; rfl) h
  case isub => exact s_op2 (k := 1) hT hG (fun q => (nomatch q)) (fun _ _ _ => rfl) (fun q => (nomatch q)) (fun q => (nomatch q)) (fun q => (nomatch q)) (fun x y rest e => by subst e; rfl) h
  case imul => exact s_op2 (k := 2) hT hG (fun q => (nomatch q)) (fun q => (nomatch q)) (fun _ _ _ => rfl) (fun q => (nomatch q)) (fun q => (nomatch q)) (fun x y rest e => by subst e; rfl) h
  case iand => exact s_op2 (k := 3) hT hG (fun q => (nomatch q)) (fun q => (nomatch q)) (fun q => (nomatch q)) (fun _ _ _ => rfl) (fun q => (nomatch q)) (fun x y rest e => by subst e; rfl) h
  case iushr => exact s_op2 (k := 4) hT hG (fun q => (nomatch q)) (fun q => (nomatch q)) (fun q => (nomatch q)) (fun q => (nomatch q)) (fun _ _ _ => rfl) (fun x y rest e => by subst e; rfl) h
  case ishl => exact s_op2 (k := 9) (f := fun a b => a <<< (b &&& 31)) hT hG (fun q => (nomatch q)) (fun q => (nomatch q)) (fun q => (nomatch q)) (fun q => (nomatch q)) (fun q => (nomatch q)) (fun x y rest e => by subst e; rfl) h
  case ior => exact s_op2 (k := 9) hT hG (fun q => (nomatch q)) (fun q => (nomatch q)) (fun q => (nomatch q)) (fun q => (nomatch q)) (fun q => (nomatch q)) (fun x y rest e => by subst e; rfl) h
  case ixor => exact s_op2 (k := 9) hT hG (fun q => (nomatch q)) (fun q => (nomatch q)) (fun q => (nomatch q)) (fun q => (nomatch q)) (fun q => (nomatch q)) (fun x y rest e => by subst e; rfl) h
  case ishr => exact s_op2 (k := 9) (f := fun a b => a >>> (b &&& 31)) hT hG (fun q => (nomatch q)) (fun q => (nomatch q)) (fun q => (nomatch q)) (fun q => (nomatch q)) (fun q => (nomatch q)) (fun x y rest e => by subst e; rfl) h
  case ineg =>
    have h : (match (generalizing := false) ast with
      | .inl f :: rest => aform 1 (lfneg f) pc n rg cs alo rest tc cB sB
      | _ => none) = some L := h
    split at h
    · exact s_neg hT hG h
    · cases h
  case irem => exact s_rem hT hG h
  case i2b => exact s_op1 (f := fun a => a.toInt8.toInt32) hT hG (fun x rest e => by subst e; rfl) h
  case i2c => exact s_op1 (f := fun a => (a.toUInt32 % 65536).toInt32) hT hG (fun x rest e => by subst e; rfl) h
  case i2l => exact s_i2l hT hG h
  case l2i => exact s_l2i hT hG h
  case ladd => exact s_L2 (k := 0) hT hG (fun _ _ _ => rfl) (fun q => (nomatch q)) (fun q => (nomatch q)) h
  case lsub => exact s_L2 (k := 1) hT hG (fun q => (nomatch q)) (fun _ _ _ => rfl) (fun q => (nomatch q)) h
  case lmul => exact s_L2 (k := 2) hT hG (fun q => (nomatch q)) (fun q => (nomatch q)) (fun _ _ _ => rfl) h
  case ldiv => exact s_ldv hT hG h
  case lrem => exact s_lrm hT hG h
  case lushr => exact s_lsr hT hG h
  case lcmp => exact s_cmpL hT hG h
  case dup =>
    have h : (match (generalizing := false) ast with
      | a :: rest => bif Nat.beq (acat a) 1 then some [(pc + 1, n, rg, cs, alo, a :: a :: rest, tc, cB, sB)] else none
      | _ => none) = some L := h
    split at h
    · rename_i a rest
      obtain ⟨hb, h⟩ := kcond_inv h
      obtain ⟨v, st', rfl, hv, hS⟩ := aSt_cons hG.2.2.1
      refine s_push hT (len := 1) hG hv ?_ h
      show (bif Nat.beq (kcat v) 1 then _ else none) = _
      rw [aR_cat hv, hb]
      rfl
    · cases h
  case dup2 =>
    have h : (match (generalizing := false) ast with
      | a :: b :: rest => bif Nat.beq (acat a) 1 && Nat.beq (acat b) 1 then some [(pc + 1, n, rg, cs, alo, a :: b :: a :: b :: rest, tc, cB, sB)] else none
      | _ => none) = some L := h
    split at h
    · rename_i a b rest _
      obtain ⟨hb, h⟩ := kcond_inv h
      obtain ⟨v, st1, rfl, hv, hS1⟩ := aSt_cons hG.2.2.1
      obtain ⟨u, st2, rfl, hu, hS⟩ := aSt_cons hS1
      refine s_push hT (len := 1) (ast := b :: a :: b :: rest) (st := u :: v :: u :: st2) ⟨hG.1, hG.2.1, ⟨hu, hG.2.2.1⟩, hG.2.2.2⟩ hv ?_ h
      show (bif Nat.beq (kcat v) 1 && Nat.beq (kcat u) 1 then _ else none) = _
      rw [aR_cat hv, aR_cat hu, hb]
      rfl
    · cases h
  case pop =>
    have h : (match (generalizing := false) ast with
      | a :: rest => bif Nat.beq (acat a) 1 then some [(pc + 1, n, rg, cs, alo, rest, tc, cB, sB)] else none
      | _ => none) = some L := h
    split at h
    · rename_i a rest
      obtain ⟨hb, h⟩ := kcond_inv h
      obtain ⟨v, st', rfl, hv, hS⟩ := aSt_cons hG.2.2.1
      cases h
      refine aOk_mk (o := kpop pc lo (v :: st') w c s) ?_ (kStp.rf hT) List.mem_cons_self ρ (fun _ _ => rfl) (Nat.le_refl _) ⟨hG.1, hG.2.1, hS, hG.2.2.2⟩
      show (bif Nat.beq (kcat v) 1 then _ else none) = _
      rw [aR_cat hv, hb]
      rfl
    · cases h
  case goto off =>
    have h : (match (generalizing := false) ktg pc off with
      | some t => some [(t, n, rg, cs, alo, ast, tc, cB, sB)]
      | none => none) = some L := h
    split at h
    · rename_i t ht
      cases h
      refine aOk_mk (pc' := t) ?_ (kStp.rf hT) List.mem_cons_self ρ (fun _ _ => rfl) (Nat.le_refl _) hG
      show (match (generalizing := false) ktg pc off with
        | some t => some (t, lo, st, w, c, s)
        | none => none) = _
      rw [ht]
    · cases h
  case ifCond cnd off =>
    have h : (match (generalizing := false) ast with
      | .inl f :: rest => abr cnd off f (lfc 0) pc n rg cs alo rest tc cB sB
      | _ => none) = some L := h
    split at h
    · rename_i f rest
      obtain ⟨v, st', rfl, hv, hS⟩ := aSt_cons hG.2.2.1
      have ev := hv.2
      subst ev
      exact s_br hT (rgk := rgk) (st := st') ⟨hG.1, hG.2.1, hS, hG.2.2.2⟩ hv.1 (lwf_c _ _) (by rw [lev_c]; rfl) h
    · cases h
  case if_icmp cnd off =>
    have h : (match (generalizing := false) ast with
      | .inl y :: .inl f :: rest => abr cnd off f y pc n rg cs alo rest tc cB sB
      | _ => none) = some L := h
    split at h
    · rename_i y f rest
      obtain ⟨v, st1, rfl, hv, hS1⟩ := aSt_cons hG.2.2.1
      obtain ⟨u, st2, rfl, hu, hS⟩ := aSt_cons hS1
      have ev := hv.2
      have eu := hu.2
      subst ev eu
      exact s_br hT (rgk := rgk) (st := st2) ⟨hG.1, hG.2.1, hS, hG.2.2.2⟩ hu.1 hv.1 rfl h
    · cases h
  case if_acmp cnd off => exact s_acmp hE hT hG h
  case ifnonnull off => exact s_ifnn hT hG h
  case lookupswitch dflt ps =>
    have h : (match (generalizing := false) ast with
      | .inl f :: rest => bif l32 rg f then alk dflt pc n rg cs alo f rest tc cB sB ps.toList else none
      | _ => none) = some L := h
    split at h
    · obtain ⟨hb, h⟩ := kcond_inv h
      exact s_lk hT hG hb h
    · cases h
  case tableswitch dflt lw hg offs => exact s_sw hT hG h
  case getfield i => exact s_getf hE hT hG h
  case putfield i => exact s_putf hE hph hT hG h
  case arraylength => exact s_len hE hT hG hsc h
  case iaload => exact s_sld hE hT hG hsc h
  case baload =>
    refine s_ldx (hd := 0) (ok := fun t => Nat.beq t 2 || Nat.beq t 4) hE hT hG (fun x a e t m v r e0 ha g1 g2 b2 b3 i1 i2 _ g3 => ?_) h
    subst e0
    exact kald_row hE ha g1 g2 b2 b3 i1 i2 g3
  case caload =>
    refine s_ldx (hd := 0) (ok := fun t => Nat.beq t 3) hE hT hG (fun x a e t m v r e0 ha g1 g2 b2 b3 i1 i2 _ g3 => ?_) h
    subst e0
    exact kald_row (rgk := []) (L0 := 0) (pc := pc) (lo := lo) (w := w) (c := c) (s := s) (r := r) (ok := fun t => Nat.beq t 3) hE ha g1 g2 b2 b3 i1 i2 g3
  case laload =>
    refine s_ldx (hd := 1) (ok := fun t => Nat.beq t 1) hE hT hG (fun x a e t m v r e0 ha g1 g2 b2 b3 i1 i2 _ g3 => ?_) h
    subst e0
    exact klald_row g1 g2 b2 b3 i1 i2 g3
  case aaload => exact s_wld hE hW hT hG h
  case iastore =>
    refine s_stx0 (ok := fun t => Nat.beq t 0) (nar := fun _ a => a) hE hph hT hG (fun _ _ => rfl) (fun x i a e t m r e0 g1 g2 b2 b3 i1 i2 => ?_) h
    subst e0
    exact kast_row g1 g2 b2 b3 i1 i2
  case bastore =>
    refine s_stx0 (ok := fun t => Nat.beq t 2 || Nat.beq t 4) (nar := fun t a => bif Nat.beq t 2 then vp_nar .byte a else vp_nar .boolean a) hE hph hT hG (fun q => (nomatch q)) (fun x i a e t m r e0 g1 g2 b2 b3 i1 i2 => ?_) h
    subst e0
    exact kast_row g1 g2 b2 b3 i1 i2
  case castore =>
    refine s_stx0 (ok := fun t => Nat.beq t 3) (nar := fun _ a => vp_nar .char a) hE hph hT hG (fun q => (nomatch q)) (fun x i a e t m r e0 g1 g2 b2 b3 i1 i2 => ?_) h
    subst e0
    exact kast_row g1 g2 b2 b3 i1 i2
  case lastore =>
    refine s_stx1 (ok := fun t => Nat.beq t 1) (nar := fun _ a => a) hE hph hT hG (fun x i a e t m r e0 g1 g2 b2 b3 i1 i2 => ?_) h
    subst e0
    exact klast_row g1 g2 b2 b3 i1 i2
  case invokestatic i =>
    have h : (bif Nat.beq x.1 999998 then amx Rc Rs 4 5 pc n rg cs alo ast tc cB sB else bif Nat.beq x.1 999996 then amx Rc Rs 3 2 pc n rg cs alo ast tc cB sB else bif Nat.beq x.1 999995 then aabs Rc Rs pc n rg cs alo ast tc cB sB else bif Nat.beq x.1 999997 then acpy E ms ph pc n rg cs alo ast tc cB sB else none) = some L := h
    show aOk E ms ph ρ n w L (bif Nat.beq x.1 999996 then kmax rgk Rc Rs pc lo st w c s else bif Nat.beq x.1 999995 then kabs Rc Rs pc lo st w c s else bif Nat.beq x.1 999998 then kmin rgk Rc Rs pc lo st w c s else bif Nat.beq x.1 999997 then kcopy pc lo st w c s else kcallS call Rc Rs x pc lo st w c s)
    cases q1 : Nat.beq x.1 999998 with
    | true =>
      rw [q1] at h
      have q := kb_t q1
      rw [show Nat.beq x.1 999996 = false from kb_n (by omega), show Nat.beq x.1 999995 = false from kb_n (by omega)]
      exact s_min (rgk := rgk) hT hG h
    | false =>
      rw [q1] at h
      cases q2 : Nat.beq x.1 999996 with
      | true => rw [q2] at h; exact s_max (rgk := rgk) hT hG h
      | false =>
        rw [q2] at h
        cases q3 : Nat.beq x.1 999995 with
        | true => rw [q3] at h; exact s_abs hT hG h
        | false =>
          rw [q3] at h
          cases q4 : Nat.beq x.1 999997 with
          | true => rw [q4] at h; exact s_cpy hE hph hT hG h
          | false => rw [q4] at h; cases h
  case invokevirtual i =>
    have h : (bif Nat.beq x.1 999994 then asln Rc Rs pc n rg cs alo ast tc cB sB else bif Nat.beq x.1 999993 then aschr Rc Rs pc n rg cs alo ast tc cB sB else none) = some L := h
    show aOk E ms ph ρ n w L (bif Nat.beq x.1 999994 then kslen Rc Rs pc lo st w c s else bif Nat.beq x.1 999993 then kschr Rc Rs pc lo st w c s else kcallV call Rc Rs x pc lo st w c s)
    cases q1 : Nat.beq x.1 999994 with
    | true => rw [q1] at h; exact s_slen hT hG h
    | false =>
      rw [q1] at h
      cases q2 : Nat.beq x.1 999993 with
      | true => rw [q2] at h; exact s_schr hT hG h
      | false => rw [q2] at h; cases h
  all_goals cases h
end
section
/-! A place looked at anew; patterns: their unknowns bound to forms. -/
/-- what an abstract state says of a frame -/
def aGS (E : TEnv) (ph : PHI) (ρ : Nat → Int) (S : AS) (k : KF) : Prop := aG E ph ρ S.1 S.2.1 S.2.2.1 S.2.2.2.1 S.2.2.2.2.1 S.2.2.2.2.2.1 S.2.2.2.2.2.2.1 S.2.2.2.2.2.2.2 k.2.1 k.2.2.1 k.2.2.2.1 k.2.2.2.2.1 k.2.2.2.2.2
/-- a typed value at a place -/
def atouch (E : TEnv) (a : Nat) (f : LF) (S : AS) : Option AS := match atget S.2.2.2.2.2.1 a f with
  | some _ => some S
  | none => bif Nat.blt a E.1 then (match aidx S.2.1 S.2.2.1 f (E.2.2 (E.2.1 a)).1.2.2 with
    | some q => (match auni E q.1 q.2 (E.2.2 (E.2.1 a)).2 with
      | some u => bif ksall q.1 q.2 (fun x => vsub E x u) (E.2.2 (E.2.1 a)).2 then
          (match aval S.1 S.2.1 u with
          | (n', rg', v) => some (n', rg', S.2.2.1, S.2.2.2.1, S.2.2.2.2.1, ((a, f), v) :: S.2.2.2.2.2.1, S.2.2.2.2.2.2.1, S.2.2.2.2.2.2.2)) else none
      | none => none)
    | none => none) else none
/-- states that follow a state of the same frame -/
def aUp (E : TEnv) (ph : PHI) (ρ : Nat → Int) (n : Nat) (S' : AS) (k : KF) : Prop := ∃ ρ' : Nat → Int, (∀ i, i < n → ρ' i = ρ i) ∧ n ≤ S'.1 ∧ aGS E ph ρ' S' k
theorem atouch_ok {E : TEnv} {ph : PHI} {ρ : Nat → Int} {S S' : AS} {k : KF} {a : Nat} {f : LF} (hT : kTW E k.2.2.2.1) (hG : aGS E ph ρ S k) (hf : lwf S.1 f) (h : atouch E a f S = some S') : aUp E ph ρ S.1 S' k ∧ S'.2.2.2.1 = S.2.2.2.1 ∧ S'.2.2.2.2.1 = S.2.2.2.2.1 := by
  unfold atouch at h
  split at h
  · cases h
    exact ⟨⟨ρ, fun _ _ => rfl, Nat.le_refl _, hG⟩, rfl, rfl⟩
  · obtain ⟨ha, h⟩ := kcond_inv h
    have ha : a < E.1 := Nat.ble_eq.mp ha
    split at h
    · rename_i q hq
      obtain ⟨l, u0⟩ := q
      obtain ⟨i1, i2, i3, i4, i5⟩ := aidx_ok hG.1 hq
      split at h
      · rename_i u hu
        obtain ⟨hall, h⟩ := kcond_inv h
        have hlt : (lev ρ f).toNat < (E.2.2 (E.2.1 a)).1.2.2 := by omega
        obtain ⟨e, v, g1, g2, g3, g4, g5⟩ := wval_ty hT ha hlt
        have hv : vOK E u v := vsub_ok (ksall_ok (p := fun x => vsub E x u) _ hall (lev ρ f).toNat (by omega) (by omega)) g5
        obtain ⟨ρ', q1, q2, q3, q4⟩ := aB_val hG.1 hv
        have h : some ((aval S.1 S.2.1 u).1, (aval S.1 S.2.1 u).2.1, S.2.2.1, S.2.2.2.1, S.2.2.2.2.1, ((a, f), (aval S.1 S.2.1 u).2.2) :: S.2.2.2.2.2.1, S.2.2.2.2.2.2.1, S.2.2.2.2.2.2.2) = some S' := h
        cases h
        refine ⟨⟨ρ', q1, q2, q3, aLo_up q1 q2 hG.2.1, aSt_up q1 q2 _ _ hG.2.2.1, tcR_cons (tcR_up q1 q2 hG.2.2.2) ha (lwf_up hf q2) ?_ ?_ q4⟩, rfl, rfl⟩
        · rw [lev_ag q1 hf]; exact i1
        · rw [lev_ag q1 hf]; exact g4
      · cases h
    · cases h
/-! substitutions: below n0 the unknowns are themselves -/
abbrev SG : Type := List (Nat × LF)
def sgk : SG → Nat → Option LF
  | [], _ => none
  | q :: l, v => bif Nat.beq q.1 v then some q.2 else sgk l v
def sval (n0 : Nat) (sg : SG) (ρ : Nat → Int) : Nat → Int := fun v => if v < n0 then ρ v else match sgk sg v with
  | some f => lev ρ f
  | none => 0
def ssubl (n0 : Nat) (sg : SG) : List (Nat × Int) → LF → Option LF
  | [], g => some g
  | t :: l, g => bif Nat.blt t.1 n0 then ssubl n0 sg l (lfadd g (0, [(t.1, t.2)])) else (match sgk sg t.1 with
    | some f => ssubl n0 sg l (lfadd g (lfmul t.2 f))
    | none => none)
/-- a pattern's form with its unknowns bound -/
def ssub (n0 : Nat) (sg : SG) (f : LF) : Option LF := ssubl n0 sg f.2 (lfc f.1)
def swf (n0 n : Nat) (sg : SG) : Prop := n0 ≤ n ∧ ∀ q ∈ sg, lwf n q.2
theorem sgk_mem {sg : SG} {v : Nat} {f : LF} (h : sgk sg v = some f) : ∃ q ∈ sg, q.2 = f := by
  induction sg with
  | nil => cases h
  | cons q l ih =>
    unfold sgk at h
    cases e : Nat.beq q.1 v with
    | true =>
      rw [e] at h
      cases h
      exact ⟨q, List.mem_cons_self, rfl⟩
    | false =>
      rw [e] at h
      obtain ⟨q2, h1, h2⟩ := ih h
      exact ⟨q2, List.mem_cons_of_mem _ h1, h2⟩
theorem ssubl_ok {n0 n : Nat} {sg : SG} (hs : swf n0 n sg) (ρ : Nat → Int) : ∀ (l : List (Nat × Int)) (g r : LF), ssubl n0 sg l g = some r → lwf n g → lwf n r ∧ lev ρ r = lev ρ g + lsum (sval n0 sg ρ) l := by
  intro l
  induction l with
  | nil =>
    intro g r h hg
    cases h
    exact ⟨hg, by show _ = _ + 0; omega⟩
  | cons t l ih =>
    intro g r h hg
    unfold ssubl at h
    cases e : Nat.blt t.1 n0 with
    | true =>
      rw [e] at h
      have e : t.1 < n0 := Nat.ble_eq.mp e
      have hw : lwf n (0, [(t.1, t.2)]) := fun x hx => by
        cases hx with
        | head => exact Nat.lt_of_lt_of_le e hs.1
        | tail _ q => cases q
      obtain ⟨h1, h2⟩ := ih _ _ h (lwf_add hg hw)
      refine ⟨h1, ?_⟩
      rw [h2, lev_add]
      have e1 : lev ρ (0, [(t.1, t.2)]) = t.2 * ρ t.1 := by
        show 0 + (t.2 * ρ t.1 + 0) = _
        omega
      have e2 : sval n0 sg ρ t.1 = ρ t.1 := if_pos e
      show _ = lev ρ g + (t.2 * sval n0 sg ρ t.1 + lsum (sval n0 sg ρ) l)
      rw [e1, e2]
      omega
    | false =>
      rw [e] at h
      have e : ¬ t.1 < n0 := fun q => by
        have : Nat.blt t.1 n0 = true := Nat.ble_eq.mpr q
        rw [this] at e
        cases e
      simp only [cond_false] at h
      split at h
      · rename_i f hf
        obtain ⟨q, hq, rfl⟩ := sgk_mem hf
        obtain ⟨h1, h2⟩ := ih _ _ h (lwf_add hg (lwf_mul (hs.2 q hq)))
        refine ⟨h1, ?_⟩
        rw [h2, lev_add, lev_mul]
        have e2 : sval n0 sg ρ t.1 = lev ρ q.2 := by
          unfold sval
          rw [if_neg e, hf]
        show _ = lev ρ g + (t.2 * sval n0 sg ρ t.1 + lsum (sval n0 sg ρ) l)
        rw [e2]
        omega
      · cases h
theorem ssub_ok {n0 n : Nat} {sg : SG} (hs : swf n0 n sg) (ρ : Nat → Int) {f r : LF} (h : ssub n0 sg f = some r) : lwf n r ∧ lev ρ r = lev (sval n0 sg ρ) f := by
  obtain ⟨h1, h2⟩ := ssubl_ok hs ρ _ _ _ h (lwf_c _ _)
  refine ⟨h1, ?_⟩
  rw [h2, lev_c]
  rfl
/-- more bindings, the same values -/
def sext (sg sg' : SG) : Prop := ∀ v f, sgk sg v = some f → sgk sg' v = some f
theorem sext.rf (sg : SG) : sext sg sg := fun _ _ h => h
theorem sext.tr {a b c : SG} (h1 : sext a b) (h2 : sext b c) : sext a c := fun v f h => h2 v f (h1 v f h)
theorem ssubl_ext {n0 : Nat} {sg sg' : SG} (h : sext sg sg') : ∀ (l : List (Nat × Int)) (g r : LF), ssubl n0 sg l g = some r → ssubl n0 sg' l g = some r := by
  intro l
  induction l with
  | nil => intro g r hr; exact hr
  | cons t l ih =>
    intro g r hr
    unfold ssubl at hr ⊢
    cases e : Nat.blt t.1 n0 with
    | true =>
      rw [e] at hr
      exact ih _ _ hr
    | false =>
      rw [e] at hr
      simp only [cond_false] at hr ⊢
      split at hr
      · rename_i f hf
        rw [h _ _ hf]
        exact ih _ _ hr
      · cases hr
theorem ssub_ext {n0 : Nat} {sg sg' : SG} (h : sext sg sg') {f r : LF} (hr : ssub n0 sg f = some r) : ssub n0 sg' f = some r := ssubl_ext h _ _ _ hr
/-- a form divided: a = c + k * r -/
def sdiv (a : LF) (c k : Int) : Option LF := (fun r : LF => bif lfeq (lfadd (lfmul k r) (lfc c)) a then some r else none) ((a.1 - c) / k, a.2.map (fun t => (t.1, t.2 / k)))
theorem sdiv_ok {a r : LF} {c k : Int} (h : sdiv a c k = some r) : (∀ ρ, lev ρ a = c + k * lev ρ r) ∧ ∀ m, lwf m a → lwf m r := by
  unfold sdiv at h
  simp only at h
  obtain ⟨hb, h⟩ := kcond_inv h
  cases h
  refine ⟨fun ρ => ?_, fun m hm => lwl_div hm⟩
  have h1 := lfeq_ok hb ρ
  rw [lev_add, lev_mul, lev_c] at h1
  omega
/-- a pattern's value against a value -/
def abind (E : TEnv) (n0 : Nat) (p a : AV) (sg : SG) : Option SG := match p, a with
  | .inl f, .inl g => (match ssub n0 sg f with
    | some r => bif lfeq r g then some sg else none
    | none => (match f.2 with
      | [t] => (match sgk sg t.1 with
        | some _ => none
        | none => bif Nat.blt t.1 n0 then none else (match sdiv g f.1 t.2 with
          | some r => some ((t.1, r) :: sg)
          | none => none))
      | _ => none))
  | .inr q, .inr r => bif !Nat.beq q.1 0 && vsub E (r.1, (r.2 : Int), 0) (q.1, (q.2 : Int), 0) then some sg else none
  | _, _ => none
theorem abind_ok {E : TEnv} {n0 n : Nat} {ρ : Nat → Int} {p a : AV} {sg sg' : SG} (hs : swf n0 n sg) {v : KV} (ha : aR E n ρ a v) (h : abind E n0 p a sg = some sg') : swf n0 n sg' ∧ sext sg sg' ∧ ∀ (sg2 : SG) (ρ2 : Nat → Int) (n2 m : Nat), sext sg' sg2 → swf n0 n2 sg2 → n ≤ n2 → (∀ i, i < n → ρ2 i = ρ i) → (∀ f, p = .inl f → lwf m f) → aR E m (sval n0 sg2 ρ2) p v := by
  have int : ∀ (f g : LF) (sg' sg2 : SG) (ρ2 : Nat → Int) (n2 m : Nat), ssub n0 sg' f = some g → sext sg' sg2 → swf n0 n2 sg2 → n ≤ n2 → (∀ i, i < n → ρ2 i = ρ i) → lwf m f → ∀ g2, lwf n g2 → (lev ρ2 g = lev ρ2 g2) → v = .inl (.int (Int32.ofInt (lev ρ g2))) → aR E m (sval n0 sg2 ρ2) (.inl f) v := fun f g sg' sg2 ρ2 n2 m h1 h2 h3 h4 h5 h6 g2 h7 h8 h9 => by
    refine ⟨h6, ?_⟩
    have h10 := (ssub_ok h3 ρ2 (ssub_ext h2 h1)).2
    rw [h9, ← h10, h8, lev_ag h5 h7]
  unfold abind at h
  split at h
  · rename_i f g
    split at h
    · rename_i r hr
      obtain ⟨hb, h⟩ := kcond_inv h
      cases h
      exact ⟨hs, sext.rf _, fun sg2 ρ2 n2 m h1 h2 h3 h4 h5 => int f r _ sg2 ρ2 n2 m hr h1 h2 h3 h4 (h5 f rfl) g ha.1 (lfeq_ok hb ρ2) ha.2⟩
    · split at h
      · rename_i t ht
        split at h
        · cases h
        · rename_i hk
          cases e : Nat.blt t.1 n0 with
          | true => rw [e] at h; cases h
          | false =>
            rw [e] at h
            simp only [cond_false] at h
            split at h
            · rename_i r hr
              cases h
              obtain ⟨d1, d2⟩ := sdiv_ok hr
              have hx : sext sg ((t.1, r) :: sg) := fun v' f' h' => by
                show (bif Nat.beq t.1 v' then some r else sgk sg v') = some f'
                cases e2 : Nat.beq t.1 v' with
                | true =>
                  rw [← kb_t e2, hk] at h'
                  cases h'
                | false => exact h'
              have hw : swf n0 n ((t.1, r) :: sg) := ⟨hs.1, fun q hq => by
                cases hq with
                | head => exact d2 n ha.1
                | tail _ hq => exact hs.2 q hq⟩
              refine ⟨hw, hx, fun sg2 ρ2 n2 m h1 h2 h3 h4 h5 => ⟨h5 f rfl, ?_⟩⟩
              have h6 : sgk sg2 t.1 = some r := h1 _ _ (by
                show (bif Nat.beq t.1 t.1 then some r else _) = some r
                rw [Nat.beq_refl]
                rfl)
              have h7 : sval n0 sg2 ρ2 t.1 = lev ρ2 r := by
                unfold sval
                rw [if_neg (fun q => by
                  have : Nat.blt t.1 n0 = true := Nat.ble_eq.mpr q
                  rw [this] at e
                  cases e), h6]
              have h8 : lev (sval n0 sg2 ρ2) f = f.1 + t.2 * lev ρ2 r := by
                unfold lev
                rw [ht]
                show f.1 + (t.2 * sval n0 sg2 ρ2 t.1 + 0) = _
                rw [h7]
                unfold lev
                omega
              rw [ha.2, h8, ← d1 ρ2, lev_ag h4 ha.1]
            · cases h
      · cases h
  · rename_i q r
    obtain ⟨hb, h⟩ := kcond_inv h
    cases h
    have hb := Bool.and_eq_true_iff.mp hb
    refine ⟨hs, sext.rf _, fun sg2 ρ2 n2 m h1 h2 h3 h4 h5 => ⟨fun z => ?_, vsub_ok hb.2 ha.2⟩⟩
    have h6 := hb.1
    rw [z] at h6
    cases h6
  · cases h
end
section
/-! An abstract state within a pattern. -/
def lwfb (n : Nat) (f : LF) : Bool := f.2.all (fun t => Nat.blt t.1 n)
theorem lwfb_ok {n : Nat} {f : LF} (h : lwfb n f = true) : lwf n f := fun t ht => Nat.ble_eq.mp (List.all_eq_true.mp h t ht)
def avwf (n : Nat) (a : AV) : Bool := match a with
  | .inl f => lwfb n f
  | .inr _ => true
theorem avwf_ok {n : Nat} {a : AV} (h : avwf n a = true) : ∀ f, a = .inl f → lwf n f := fun f e => by
  subst e
  exact lwfb_ok h
/-- a pattern that is well made -/
def apwf (n0 : Nat) (P : AS) : Bool := Nat.ble n0 P.1 && (P.2.1.all (fun q => Nat.blt q.1 P.1) && (P.2.2.1.all (lwfb P.1) && (P.2.2.2.1.all (fun q => avwf P.1 q.2) && (P.2.2.2.2.1.all (avwf P.1) && (P.2.2.2.2.2.1.all (fun e => lwfb P.1 e.1.2 && (avwf P.1 e.2 && Nat.blt e.1.1 2000000)) && (lwfb P.1 P.2.2.2.2.2.2.1 && lwfb P.1 P.2.2.2.2.2.2.2))))))
def abindLo (E : TEnv) (n0 : Nat) (alo : List (Nat × AV)) : List (Nat × AV) → SG → Option SG
  | [], sg => some sg
  | e :: l, sg => match alook alo e.1 with
    | some a => (match abind E n0 e.2 a sg with
      | some sg' => abindLo E n0 alo l sg'
      | none => none)
    | none => none
def abindSt (E : TEnv) (n0 : Nat) : List AV → List AV → SG → Option SG
  | [], [], sg => some sg
  | p :: l, a :: r, sg => (match abind E n0 p a sg with
    | some sg' => abindSt E n0 l r sg'
    | none => none)
  | _, _, _ => none
def abindTc (E : TEnv) (n0 : Nat) : TC → AS → SG → Option (AS × SG)
  | [], S, sg => some (S, sg)
  | e :: l, S, sg => bif Nat.blt e.1.1 2000000 then (match ssub n0 sg e.1.2 with
    | some key => (match atouch E e.1.1 key S with
      | some S' => (match atget S'.2.2.2.2.2.1 e.1.1 key with
        | some a => (match abind E n0 e.2 a sg with
          | some sg' => abindTc E n0 l S' sg'
          | none => none)
        | none => none)
      | none => none)
    | none => none) else none
/-- no record is under way -/
def anomk (tc : TC) : Bool := tc.all (fun e => Nat.blt e.1.1 2000000)
def achk (n0 : Nat) (A P : AS) (sg : SG) : Bool := P.2.1.all (fun q => match ssub n0 sg (lfv q.1) with
    | some f => lle A.2.1 A.2.2.1 (lfadd f (lfc (- q.2.2))) && lle A.2.1 A.2.2.1 (lfadd (lfneg f) (lfc q.2.1))
    | none => false) && (P.2.2.1.all (fun f => match ssub n0 sg f with
    | some g => lle A.2.1 A.2.2.1 (lfneg g)
    | none => false) && ((match ssub n0 sg P.2.2.2.2.2.2.1 with
    | some g => lle A.2.1 A.2.2.1 (lfsub A.2.2.2.2.2.2.1 g)
    | none => false) && (match ssub n0 sg P.2.2.2.2.2.2.2 with
    | some g => lle A.2.1 A.2.2.1 (lfsub A.2.2.2.2.2.2.2 g)
    | none => false)))
def amatch (E : TEnv) (n0 : Nat) (A P : AS) : Option (AS × SG) := bif anomk A.2.2.2.2.2.1 then (match abindLo E n0 A.2.2.2.1 P.2.2.2.1 [] with
  | some sg => (match abindSt E n0 P.2.2.2.2.1 A.2.2.2.2.1 sg with
    | some sg => (match abindTc E n0 P.2.2.2.2.2.1 A sg with
      | some q => bif achk n0 q.1 P q.2 then some q else none
      | none => none)
    | none => none)
  | none => none) else none
theorem swf_up {n0 n m : Nat} {sg : SG} (h : swf n0 n sg) (hm : n ≤ m) : swf n0 m sg := ⟨Nat.le_trans h.1 hm, fun q hq => lwf_up (h.2 q hq) hm⟩
theorem abindLo_ok {E : TEnv} {n0 n : Nat} {ρ : Nat → Int} {alo : List (Nat × AV)} {lo : List (Nat × KV)} (hl : aLo E n ρ alo lo) : ∀ (l : List (Nat × AV)) (sg sg' : SG), swf n0 n sg → abindLo E n0 alo l sg = some sg' → swf n0 n sg' ∧ sext sg sg' ∧ ∀ (sg2 : SG) (ρ2 : Nat → Int) (n2 m : Nat), sext sg' sg2 → swf n0 n2 sg2 → n ≤ n2 → (∀ i, i < n → ρ2 i = ρ i) → (∀ e ∈ l, avwf m e.2 = true) → ∀ e ∈ l, ∃ v, klook lo e.1 = some v ∧ aR E m (sval n0 sg2 ρ2) e.2 v := by
  intro l
  induction l with
  | nil =>
    intro sg sg' hs h
    cases h
    exact ⟨hs, sext.rf _, fun _ _ _ _ _ _ _ _ _ e he => by cases he⟩
  | cons e0 l ih =>
    intro sg sg' hs h
    unfold abindLo at h
    split at h
    · rename_i a ha
      split at h
      · rename_i sg1 h1
        obtain ⟨v, hv, hr⟩ := hl.1 _ _ ha
        obtain ⟨b1, b2, b3⟩ := abind_ok hs hr h1
        obtain ⟨c1, c2, c3⟩ := ih sg1 sg' b1 h
        refine ⟨c1, b2.tr c2, fun sg2 ρ2 n2 m h2 h3 h4 h5 h6 e he => ?_⟩
        cases he with
        | head => exact ⟨v, hv, b3 sg2 ρ2 n2 m (c2.tr h2) h3 h4 h5 (avwf_ok (h6 e0 List.mem_cons_self))⟩
        | tail _ he => exact c3 sg2 ρ2 n2 m h2 h3 h4 h5 (fun e he => h6 e (List.mem_cons_of_mem _ he)) e he
      · cases h
    · cases h
theorem abindSt_ok {E : TEnv} {n0 n : Nat} {ρ : Nat → Int} : ∀ (l r : List AV) (st : List KV) (sg sg' : SG), aSt E n ρ r st → swf n0 n sg → abindSt E n0 l r sg = some sg' → swf n0 n sg' ∧ sext sg sg' ∧ ∀ (sg2 : SG) (ρ2 : Nat → Int) (n2 m : Nat), sext sg' sg2 → swf n0 n2 sg2 → n ≤ n2 → (∀ i, i < n → ρ2 i = ρ i) → (∀ a ∈ l, avwf m a = true) → aSt E m (sval n0 sg2 ρ2) l st := by
  intro l
  induction l with
  | nil =>
    intro r st sg sg' hr hs h
    cases r with
    | nil =>
      cases h
      rw [aSt_nil hr]
      exact ⟨hs, sext.rf _, fun _ _ _ _ _ _ _ _ _ => trivial⟩
    | cons a r => cases h
  | cons p l ih =>
    intro r st sg sg' hr hs h
    cases r with
    | nil => cases h
    | cons a r =>
      unfold abindSt at h
      obtain ⟨v, st', rfl, hv, hr'⟩ := aSt_cons hr
      split at h
      · rename_i sg1 h1
        obtain ⟨b1, b2, b3⟩ := abind_ok hs hv h1
        obtain ⟨c1, c2, c3⟩ := ih r st' sg1 sg' hr' b1 h
        exact ⟨c1, b2.tr c2, fun sg2 ρ2 n2 m h2 h3 h4 h5 h6 => ⟨b3 sg2 ρ2 n2 m (c2.tr h2) h3 h4 h5 (avwf_ok (h6 p List.mem_cons_self)), c3 sg2 ρ2 n2 m h2 h3 h4 h5 (fun e he => h6 e (List.mem_cons_of_mem _ he))⟩⟩
      · cases h
theorem abindTc_ok {E : TEnv} {ph : PHI} {n0 : Nat} {k : KF} (hE : kEok E) (hT : kTW E k.2.2.2.1) : ∀ (l : TC) (S S' : AS) (sg sg' : SG) (ρ : Nat → Int), aGS E ph ρ S k → swf n0 S.1 sg → abindTc E n0 l S sg = some (S', sg') → ∃ ρ1 : Nat → Int, (∀ i, i < S.1 → ρ1 i = ρ i) ∧ S.1 ≤ S'.1 ∧ aGS E ph ρ1 S' k ∧ S'.2.2.2.1 = S.2.2.2.1 ∧ S'.2.2.2.2.1 = S.2.2.2.2.1 ∧ swf n0 S'.1 sg' ∧ sext sg sg' ∧ ∀ (sg2 : SG) (ρ2 : Nat → Int) (n2 m : Nat), sext sg' sg2 → swf n0 n2 sg2 → S'.1 ≤ n2 → (∀ i, i < S'.1 → ρ2 i = ρ1 i) → (∀ e ∈ l, lwfb m e.1.2 = true ∧ avwf m e.2 = true ∧ e.1.1 < 2000000) → tcE E m (sval n0 sg2 ρ2) l k.2.2.2.1 := by
  intro l
  induction l with
  | nil =>
    intro S S' sg sg' ρ hG hs h
    cases h
    exact ⟨ρ, fun _ _ => rfl, Nat.le_refl _, hG, rfl, rfl, hs, sext.rf _, fun _ _ _ _ _ _ _ _ _ e he => by cases he⟩
  | cons e0 l ih =>
    intro S S' sg sg' ρ hG hs h
    unfold abindTc at h
    obtain ⟨hlab, h⟩ := kcond_inv h
    have hlab : e0.1.1 < 2000000 := Nat.ble_eq.mp hlab
    split at h
    · rename_i key hkey
      split at h
      · rename_i S1 hS1
        split at h
        · rename_i a ha
          split at h
          · rename_i sg1 hsg1
            obtain ⟨kw, ke⟩ := ssub_ok hs ρ hkey
            obtain ⟨⟨ρa, p1, p2, p3⟩, p4, p5⟩ := atouch_ok hT hG kw hS1
            have hs1 := swf_up hs p2
            obtain ⟨k', m1, m2⟩ := atget_ok S1.2.2.2.2.2.1 ha
            obtain ⟨m3, m4⟩ := p3.2.2.2.1 _ m1
            have key_eq : lev ρa k' = lev ρa key := lfeq_ok m2 ρa
            · rcases m4 with m4 | ⟨m5, m6, v, m7, m8⟩
              · have m4 : 2000000 ≤ e0.1.1 := m4
                omega
              · have m6 : 0 ≤ lev ρa k' := m6
                have m7 : wval k.2.2.2.1 e0.1.1 (lev ρa k').toNat = some v := m7
                rw [key_eq] at m6 m7
                obtain ⟨b1, b2, b3⟩ := abind_ok hs1 m8 hsg1
                obtain ⟨ρ1, c1, c2, c3, c4, c5, c6, c7, c8⟩ := ih S1 S' sg1 sg' ρa p3 b1 h
                refine ⟨ρ1, fun i hi => by rw [c1 i (by omega), p1 i hi], Nat.le_trans p2 c2, c3, c4.trans p4, c5.trans p5, c6, b2.tr c7, fun sg2 ρ2 n2 m h2 h3 h4 h5 h6 e he => ?_⟩
                cases he with
                | tail _ he => exact c8 sg2 ρ2 n2 m h2 h3 h4 h5 (fun e he => h6 e (List.mem_cons_of_mem _ he)) e he
                | head =>
                  obtain ⟨w1, w2, w3⟩ := h6 e0 List.mem_cons_self
                  have e1 : lev ρ2 key = lev (sval n0 sg2 ρ2) e0.1.2 := (ssub_ok h3 ρ2 (ssub_ext ((b2.tr c7).tr h2) hkey)).2
                  have ag : ∀ i, i < S1.1 → ρ2 i = ρa i := fun i hi => by rw [h5 i (by omega), c1 i hi]
                  have e2 : lev ρ2 key = lev ρa key := lev_ag ag (lwf_up kw p2)
                  refine ⟨lwfb_ok w1, Or.inr ⟨m5, ?_, v, ?_, b3 sg2 ρ2 n2 m (c7.tr h2) h3 (by omega) ag (avwf_ok w2)⟩⟩
                  · rw [← e1, e2]; exact m6
                  · rw [← e1, e2]; exact m7
          · cases h
        · cases h
      · cases h
    · cases h
theorem aSt_z {E : TEnv} {n : Nat} {ρ : Nat → Int} {l : List AV} {st : List KV} (h : aSt E n ρ l st) : aSt E n ρ l st := h
theorem amatch_ok {E : TEnv} {ph : PHI} {n0 : Nat} {k : KF} (hE : kEok E) (hph : phW ph) (hT : kTW E k.2.2.2.1) {A P A' : AS} {sg : SG} {ρ : Nat → Int} (hn : n0 ≤ A.1) (hG : aGS E ph ρ A k) (hP : apwf n0 P = true) (h : amatch E n0 A P = some (A', sg)) : ∃ ρ1 : Nat → Int, (∀ i, i < A.1 → ρ1 i = ρ i) ∧ A.1 ≤ A'.1 ∧ aGS E ph ρ1 A' k ∧ A'.2.2.2.1 = A.2.2.2.1 ∧ A'.2.2.2.2.1 = A.2.2.2.2.1 ∧ swf n0 A'.1 sg ∧ aGS E ph (sval n0 sg ρ1) P k := by
  unfold apwf at hP
  simp only [Bool.and_eq_true] at hP
  obtain ⟨p1, p2, p3, p4, p5, p6, p7, p8⟩ := hP
  unfold amatch at h
  obtain ⟨hmk, h⟩ := kcond_inv h
  split at h
  · rename_i sg1 h1
    split at h
    · rename_i sg2 h2
      split at h
      · rename_i q h3
        obtain ⟨hc, h⟩ := kcond_inv h
        cases h
        obtain ⟨a1, a2, a3⟩ := abindLo_ok hG.2.1 P.2.2.2.1 [] sg1 ⟨hn, fun q hq => by cases hq⟩ h1
        obtain ⟨b1, b2, b3⟩ := abindSt_ok P.2.2.2.2.1 A.2.2.2.2.1 k.2.2.1 sg1 sg2 hG.2.2.1 a1 h2
        obtain ⟨ρ1, c1, c2, c3, c4, c5, c6, c7, c8⟩ := abindTc_ok hE hT P.2.2.2.2.2.1 A A' sg2 sg ρ hG b1 h3
        refine ⟨ρ1, c1, c2, c3, c4, c5, c6, ?_⟩
        have lov := a3 sg ρ1 A'.1 P.1 (b2.tr c7) c6 c2 c1 (fun e he => List.all_eq_true.mp p4 e he)
        have stv := b3 sg ρ1 A'.1 P.1 c7 c6 c2 c1 (fun e he => List.all_eq_true.mp p5 e he)
        have tcv := c8 sg ρ1 A'.1 P.1 (sext.rf _) c6 (Nat.le_refl _) (fun _ _ => rfl) (fun e he => by
          have := List.all_eq_true.mp p6 e he
          simp only [Bool.and_eq_true] at this
          exact ⟨this.1, this.2.1, Nat.ble_eq.mp this.2.2⟩)
        unfold achk at hc
        simp only [Bool.and_eq_true] at hc
        obtain ⟨r1, r2, r3, r4⟩ := hc
        have hB := c3.1
        refine ⟨⟨fun q hq => Nat.ble_eq.mp (List.all_eq_true.mp p2 q hq), fun q hq => ?_, fun f hf => ⟨lwfb_ok (List.all_eq_true.mp p3 f hf), ?_⟩, ⟨lwfb_ok p7, ?_⟩, ⟨lwfb_ok p8, ?_⟩⟩, ⟨fun j a hj => ?_, hG.2.1.2⟩, stv, tcv, fun p hp i hi => ?_⟩
        · have r := List.all_eq_true.mp r1 q hq
          split at r
          · rename_i f hf
            have r := Bool.and_eq_true_iff.mp r
            have e := (ssub_ok c6 ρ1 hf).2
            rw [lev_v] at e
            have s1 := lle_ok hB.2.1 hB.2.2.1 r.1
            have s2 := lle_ok hB.2.1 hB.2.2.1 r.2
            rw [lev_add, lev_c] at s1
            rw [lev_add, lev_neg, lev_c] at s2
            omega
          · cases r
        · have r := List.all_eq_true.mp r2 f hf
          split at r
          · rename_i g hg
            have e := (ssub_ok c6 ρ1 hg).2
            have s1 := lle_ok hB.2.1 hB.2.2.1 r
            rw [lev_neg] at s1
            omega
          · cases r
        · split at r3
          · rename_i g hg
            have e := (ssub_ok c6 ρ1 hg).2
            have s1 := lle_ok hB.2.1 hB.2.2.1 r3
            rw [lev_sub] at s1
            have := hB.2.2.2.1.2
            omega
          · cases r3
        · split at r4
          · rename_i g hg
            have e := (ssub_ok c6 ρ1 hg).2
            have s1 := lle_ok hB.2.1 hB.2.2.1 r4
            rw [lev_sub] at s1
            have := hB.2.2.2.2.2
            omega
          · cases r4
        · have hm : ∀ l : List (Nat × AV), alook l j = some a → (j, a) ∈ l := by
            intro l
            induction l with
            | nil => intro hl; cases hl
            | cons z l ih =>
              intro hl
              have hl : (bif Nat.beq z.1 j then some z.2 else alook l j) = some a := hl
              cases e : Nat.beq z.1 j with
              | true =>
                rw [e] at hl
                cases hl
                rw [← kb_t e]
                exact List.mem_cons_self
              | false =>
                rw [e] at hl
                exact List.mem_cons_of_mem _ (ih hl)
          exact lov (j, a) (hm _ hj)
        · rcases hG.2.2.2.2 p hp i hi with ⟨e, e1, e2, -⟩ | r
          · have := List.all_eq_true.mp hmk e e1
            have h5 : e.1.1 < 2000000 := Nat.ble_eq.mp this
            have := (hph.1 p hp).1
            omega
          · exact Or.inr r
      · cases h
    · cases h
  · cases h
end
section
/-! Cases told apart: by a number, a label, a word, a record's kind. -/
/-- kind; where (0: a local, 1: a known place); numbers; labels; a told row's mark -/
abbrev AH : Type := Nat × (Nat × Nat × LF) × List Int × List Nat × Nat
def asrc (S : AS) (s : Nat × Nat × LF) : Option LF := match (bif Nat.beq s.1 0 then alook S.2.2.2.1 s.2.1 else atget S.2.2.2.2.2.1 s.2.1 s.2.2) with
  | some (.inl f) => some f
  | _ => none
def aset (S : AS) (s : Nat × Nat × LF) (a : AV) : AS := bif Nat.beq s.1 0 then (S.1, S.2.1, S.2.2.1, (s.2.1, a) :: S.2.2.2.1, S.2.2.2.2.1, S.2.2.2.2.2.1, S.2.2.2.2.2.2.1, S.2.2.2.2.2.2.2)
  else (S.1, S.2.1, S.2.2.1, S.2.2.2.1, S.2.2.2.2.1, ((s.2.1, s.2.2), a) :: S.2.2.2.2.2.1, S.2.2.2.2.2.2.1, S.2.2.2.2.2.2.2)
def aq (S : AS) (q : RG × List LF) : AS := (S.1, q.1, q.2, S.2.2.2.1, S.2.2.2.2.1, S.2.2.2.2.2.1, S.2.2.2.2.2.2.1, S.2.2.2.2.2.2.2)
/-- a form of one number only: the number -/
def acsub (S : AS) (s : Nat × Nat × LF) (f : LF) : AS := match f.2, lub S.2.1 f, lub S.2.1 (lfneg f) with
  | _ :: _, some b, some a => bif iz (a + b) && f.2.all (fun t => iz (t.2 - 1) || iz (t.2 + 1)) then aset S s (.inl (lfc b)) else S
  | _, _, _ => S
def asplit (three : Bool) (s : Nat × Nat × LF) : List Int → AS → List AS
  | [], S => (match asrc S s with
    | some f => [acsub S s f]
    | none => [S])
  | c :: l, S => (match asrc S s with
    | some f => (match aas 3 (lfadd f (lfc (- c))) S.2.1 S.2.2.1 with
        | some q => [acsub (aq S q) s f]
        | none => []) ++ ((bif three then (match aas 0 (lfadd f (lfc (- c))) S.2.1 S.2.2.1 with
        | some q => [aset (aq S q) s (.inl (lfc c))]
        | none => []) else []) ++ (match aas (bif three then 4 else 2) (lfadd f (lfc (- c))) S.2.1 S.2.2.1 with
        | some q => asplit three s l (aq S q)
        | none => []))
    | none => [S])
def atouches (E : TEnv) (a : Nat) : List LF → AS → Option AS
  | [], S => some S
  | f :: l, S => bif lwfb S.1 f then (match atouch E a f S with
    | some S' => atouches E a l S'
    | none => none) else none
/-- two facts that can't both hold -/
def aconf (S : AS) : Bool := S.2.2.1.any (fun f => S.2.2.1.any (fun g => match lub S.2.1 (lfadd f g) with
  | some b => !ile 0 b
  | none => false))
/-- a record's kind told -/
def aalt (q : QI) (r : LF) : QA → AS → Option AS
  | [], S => some S
  | z :: l, S => match atget S.2.2.2.2.2.1 q.1 (lfadd (lfmul (q.2.2.1 : Int) r) (lfc ((q.2.1 + z.1 : Nat) : Int))) with
    | some (.inl g) => bif l32 S.2.1 g then (match lasm S.2.1 S.2.2.1 (lfadd (lfadd (lfc z.2.1) (lfmul z.2.2.1 r)) (lfmul z.2.2.2 g)) with
      | some x => aalt q r l (aq S x)
      | none => none) else aalt q r l S
    | _ => aalt q r l S
def aopen (E : TEnv) (p : Nat × QI) (offs : List Nat) (r : LF) (S : AS) : Option (List AS) := bif lwfb S.1 r && (S.2.2.2.2.2.1.all (fun e => !Nat.beq e.1.1 p.1) && Nat.blt p.2.1 E.1) then (match atouches E p.2.1 (offs.map (fun o => lfadd (lfmul (p.2.2.2.1 : Int) r) (lfc ((p.2.2.1 + o : Nat) : Int)))) S with
  | some S' => some (p.2.2.2.2.2.filterMap (fun al => aalt p.2 r al S'))
  | none => none) else none
def ahint (E : TEnv) (ph : PHI) (h : AH) (S : AS) : Option (List AS) := match h.1 with
  | 0 => bif Nat.beq h.2.1.1 0 then some (asplit false h.2.1 h.2.2.1 S) else bif Nat.blt h.2.1.2.1 E.1 then (match atouches E h.2.1.2.1 [h.2.1.2.2] S with
    | some S' => some (asplit false h.2.1 h.2.2.1 S')
    | none => none) else none
  | 1 => bif Nat.beq h.2.1.1 0 then some (asplit true h.2.1 h.2.2.1 S) else bif Nat.blt h.2.1.2.1 E.1 then (match atouches E h.2.1.2.1 [h.2.1.2.2] S with
    | some S' => some (asplit true h.2.1 h.2.2.1 S')
    | none => none) else none
  | 2 => (match alook S.2.2.2.1 h.2.1.2.1 with
    | some (.inr (3, t)) => bif Nat.blt t 60 && (List.range E.1).all (fun a => !Nat.beq (E.2.1 a) t || h.2.2.2.1.any (fun l => Nat.beq l a)) then
        some (h.2.2.2.1.map (fun l => aset S (0, h.2.1.2.1, lfc 0) (.inr (2, l)))) else none
    | _ => some [S])
  | 3 => (match atouches E h.2.1.2.1 [h.2.1.2.2] S with
    | some S' => (match atget S'.2.2.2.2.2.1 h.2.1.2.1 h.2.1.2.2 with
      | some (.inr (1, _)) => bif Nat.blt h.2.1.2.1 E.1 && kLS.all (fun z => h.2.2.2.1.any (fun c => decide (z = Int64.ofNat c))) then
          some (aset S' (1, h.2.1.2) (.inr (1, 1)) :: h.2.2.2.1.map (fun c => aset S' (1, h.2.1.2) (.inr (1, lenc c)))) else none
      | _ => none)
    | none => none)
  | 4 => (match h.2.2.1, asrc S h.2.1, ph.find? (fun p => Nat.beq p.1 h.2.2.2.2) with
    | c :: m :: cond, some f, some p => (match (match cond with
        | [j, v] => (match alook S.2.2.2.1 j.toNat with
          | some (.inl g) => lfeq g (lfc v)
          | _ => false)
        | _ => true), sdiv f c m with
      | true, some r => bif lle S.2.1 S.2.2.1 (lfneg r) && lle S.2.1 S.2.2.1 (lfadd r (lfc (1 - (p.2.2.2.2.1 : Int)))) then aopen E p h.2.2.2.1 r S else some [S]
      | _, _ => some [S])
    | _, _, _ => some [S])
  | 5 => bif aconf S then some [] else some [S]
  | _ => none
section HINT
variable {E : TEnv} {ph : PHI} {k : KF}
theorem aUp.rf {ρ : Nat → Int} {S : AS} (h : aGS E ph ρ S k) : aUp E ph ρ S.1 S k := ⟨ρ, fun _ _ => rfl, Nat.le_refl _, h⟩
theorem aUp.st {ρ : Nat → Int} {S S' : AS} (hn : S'.1 = S.1) (h : aGS E ph ρ S' k) : aUp E ph ρ S.1 S' k := ⟨ρ, fun _ _ => rfl, by rw [hn]; exact Nat.le_refl _, h⟩
theorem aGS_q {ρ : Nat → Int} {S : AS} {q : RG × List LF} (h : aGS E ph ρ S k) (hq : aB S.1 q.1 q.2 S.2.2.2.2.2.2.1 S.2.2.2.2.2.2.2 ρ k.2.2.2.2.1 k.2.2.2.2.2) : aGS E ph ρ (aq S q) k := ⟨hq, h.2⟩
def hsk (E : TEnv) (n : Nat) (s : Nat × Nat × LF) : Prop := s.1 = 0 ∨ (s.2.1 < E.1 ∧ lwf n s.2.2)
theorem asrc_ok (hE : kEok E) {ρ : Nat → Int} {S : AS} {s : Nat × Nat × LF} {f : LF} (hk : hsk E S.1 s) (h : aGS E ph ρ S k) (hs : asrc S s = some f) : lwf S.1 f ∧ ∀ (q : RG × List LF) (a : AV), aB S.1 q.1 q.2 S.2.2.2.2.2.2.1 S.2.2.2.2.2.2.2 ρ k.2.2.2.2.1 k.2.2.2.2.2 → aR E S.1 ρ a (.inl (.int (Int32.ofInt (lev ρ f)))) → aGS E ph ρ (aset (aq S q) s a) k := by
  unfold asrc at hs
  cases e : Nat.beq s.1 0 with
  | true =>
    rw [e] at hs
    simp only [cond_true] at hs
    split at hs
    · rename_i g hg
      cases hs
      obtain ⟨v, h1, h2⟩ := h.2.1.1 _ _ hg
      rw [h2.2] at h1
      refine ⟨h2.1, fun q a hq ha => ?_⟩
      unfold aset
      rw [e]
      refine ⟨hq, ⟨fun j b hj => ?_, h.2.1.2⟩, h.2.2⟩
      have hj : (bif Nat.beq s.2.1 j then some a else alook S.2.2.2.1 j) = some b := hj
      cases e2 : Nat.beq s.2.1 j with
      | true =>
        rw [e2] at hj
        cases hj
        rw [← kb_t e2]
        exact ⟨_, h1, ha⟩
      | false =>
        rw [e2] at hj
        exact h.2.1.1 j b hj
    · cases hs
  | false =>
    rw [e] at hs
    simp only [cond_false] at hs
    split at hs
    · rename_i g hg
      cases hs
      obtain ⟨q1, q2⟩ : s.2.1 < E.1 ∧ lwf S.1 s.2.2 := by
        rcases hk with hk | hk
        · exact absurd hk (kb_f e)
        · exact hk
      obtain ⟨k', m1, m2⟩ := atget_ok _ hg
      obtain ⟨m3, m4⟩ := h.2.2.2.1 _ m1
      have ke := lfeq_ok m2 ρ
      rcases m4 with m4 | ⟨-, m6, v, m7, m8⟩
      · have m4 : 2000000 ≤ s.2.1 := m4
        have := hE.1
        omega
      · have m6 : 0 ≤ lev ρ k' := m6
        have m7 : wval k.2.2.2.1 s.2.1 (lev ρ k').toNat = some v := m7
        rw [ke] at m6 m7
        refine ⟨m8.1, fun q a hq ha => ?_⟩
        unfold aset
        rw [e]
        have m9 := m8.2
        subst m9
        exact ⟨hq, h.2.1, h.2.2.1, tcR_cons h.2.2.2 q1 q2 m6 m7 ha⟩
    · cases hs
theorem acsub_ok (hE : kEok E) {ρ : Nat → Int} {S : AS} {s : Nat × Nat × LF} {f : LF} (hk : hsk E S.1 s) (h : aGS E ph ρ S k) (hs : asrc S s = some f) {q : RG × List LF} (hq : aB S.1 q.1 q.2 S.2.2.2.2.2.2.1 S.2.2.2.2.2.2.2 ρ k.2.2.2.2.1 k.2.2.2.2.2) : aGS E ph ρ (acsub (aq S q) s f) k ∧ (acsub (aq S q) s f).1 = S.1 := by
  obtain ⟨h1, h2⟩ := asrc_ok hE hk h hs
  unfold acsub
  split
  · rename_i b a _ hb ha
    cases e : iz (a + b) && f.2.all (fun t => iz (t.2 - 1) || iz (t.2 + 1)) with
    | false => exact ⟨⟨hq, h.2⟩, rfl⟩
    | true =>
      have e := Bool.and_eq_true_iff.mp e
      have e1 := iz_ok e.1
      have l1 := lub_ok hq.2.1 hb
      have l2 := lub_ok hq.2.1 ha
      rw [lev_neg] at l2
      refine ⟨h2 q _ hq ⟨lwf_c _ _, ?_⟩, ?_⟩
      · rw [lev_c, show lev ρ f = b by omega]
      · simp only [cond_true]
        unfold aset
        cases Nat.beq s.1 0 <;> rfl
  · exact ⟨⟨hq, h.2⟩, rfl⟩
theorem aset_n (S : AS) (s : Nat × Nat × LF) (a : AV) : (aset S s a).1 = S.1 := by
  unfold aset
  cases Nat.beq s.1 0 <;> rfl
theorem asrc_q (S : AS) (s : Nat × Nat × LF) (q : RG × List LF) : asrc (aq S q) s = asrc S s := rfl
theorem asplit_ok (hE : kEok E) {three : Bool} {s : Nat × Nat × LF} {ρ : Nat → Int} : ∀ (l : List Int) (S : AS), hsk E S.1 s → aGS E ph ρ S k → ∃ S' ∈ asplit three s l S, aGS E ph ρ S' k ∧ S'.1 = S.1 := by
  intro l
  induction l with
  | nil =>
    intro S hk h
    unfold asplit
    split
    · rename_i f hf
      exact ⟨_, List.mem_cons_self, acsub_ok (q := (S.2.1, S.2.2.1)) hE hk h hf h.1⟩
    · exact ⟨_, List.mem_cons_self, h, rfl⟩
  | cons c l ih =>
    intro S hk h
    unfold asplit
    split
    · rename_i f hf
      obtain ⟨h1, h2⟩ := asrc_ok hE hk h hf
      have hd : lwf S.1 (lfadd f (lfc (- c))) := lwf_add h1 (lwf_c _ _)
      have hv : lev ρ (lfadd f (lfc (- c))) = lev ρ f - c := by rw [lev_add, lev_c]; omega
      by_cases c1 : lev ρ f < c
      · obtain ⟨q, q1, q2⟩ := aas_ok h.1 hd (k := 3) (by show lev ρ _ < 0; rw [hv]; omega)
        rw [q1]
        exact ⟨_, List.mem_append_left _ List.mem_cons_self, acsub_ok hE hk h hf q2⟩
      · cases three with
        | true =>
          by_cases c2 : lev ρ f = c
          · obtain ⟨q, q1, q2⟩ := aas_ok h.1 hd (k := 0) (by show lev ρ _ = 0; rw [hv]; omega)
            refine ⟨aset (aq S q) s (.inl (lfc c)), List.mem_append_right _ (List.mem_append_left _ ?_), h2 q _ q2 ⟨lwf_c _ _, by rw [lev_c, c2]⟩, aset_n _ _ _⟩
            simp only [cond_true]
            rw [q1]
            exact List.mem_cons_self
          · obtain ⟨q, q1, q2⟩ := aas_ok h.1 hd (k := 4) (by show 0 < lev ρ _; rw [hv]; omega)
            obtain ⟨S', s1, s2, s3⟩ := ih (aq S q) hk (aGS_q h q2)
            refine ⟨S', List.mem_append_right _ (List.mem_append_right _ ?_), s2, s3⟩
            simp only [cond_true]
            rw [q1]
            exact s1
        | false =>
          obtain ⟨q, q1, q2⟩ := aas_ok h.1 hd (k := 2) (by show 0 ≤ lev ρ _; rw [hv]; omega)
          obtain ⟨S', s1, s2, s3⟩ := ih (aq S q) hk (aGS_q h q2)
          refine ⟨S', List.mem_append_right _ (List.mem_append_right _ ?_), s2, s3⟩
          simp only [cond_false]
          rw [q1]
          exact s1
    · exact ⟨_, List.mem_cons_self, h, rfl⟩
theorem atouches_ok (hT : kTW E k.2.2.2.1) {a : Nat} : ∀ (l : List LF) (S S' : AS) (ρ : Nat → Int), aGS E ph ρ S k → atouches E a l S = some S' → aUp E ph ρ S.1 S' k ∧ S'.2.2.2.1 = S.2.2.2.1 ∧ S'.2.2.2.2.1 = S.2.2.2.2.1 ∧ ∀ f ∈ l, lwf S'.1 f := by
  intro l
  induction l with
  | nil =>
    intro S S' ρ h hs
    cases hs
    exact ⟨aUp.rf h, rfl, rfl, fun f hf => by cases hf⟩
  | cons f l ih =>
    intro S S' ρ h hs
    unfold atouches at hs
    obtain ⟨hw, hs⟩ := kcond_inv hs
    have hw := lwfb_ok hw
    split at hs
    · rename_i S1 h1
      obtain ⟨⟨ρ1, a1, a2, a3⟩, a4, a5⟩ := atouch_ok hT h hw h1
      obtain ⟨⟨ρ2, b1, b2, b3⟩, b4, b5, b6⟩ := ih S1 S' ρ1 a3 hs
      refine ⟨⟨ρ2, fun i hi => by rw [b1 i (by omega), a1 i hi], Nat.le_trans a2 b2, b3⟩, b4.trans a4, b5.trans a5, fun g hg => ?_⟩
      cases hg with
      | head => exact lwf_up hw (Nat.le_trans a2 b2)
      | tail _ hg => exact b6 g hg
    · cases hs
theorem aalt_ok (hE : kEok E) {q : QI} (hq : q.1 < E.1) {r : LF} {ρ : Nat → Int} {i : Nat} (hi : (i : Int) = lev ρ r) : ∀ (l : QA) (S : AS), lwf S.1 r → aGS E ph ρ S k → qAlt k.2.2.2.1 q.1 (q.2.1 + q.2.2.1 * i) i l → ∃ S', aalt q r l S = some S' ∧ aGS E ph ρ S' k ∧ S'.1 = S.1 := by
  intro l
  induction l with
  | nil => intro S _ h _; exact ⟨S, rfl, h, rfl⟩
  | cons z l ih =>
    intro S hr h ha
    have hl : qAlt k.2.2.2.1 q.1 (q.2.1 + q.2.2.1 * i) i l := fun z hz => ha z (List.mem_cons_of_mem _ hz)
    unfold aalt
    split
    · rename_i g hg
      cases hb : l32 S.2.1 g with
      | false => exact ih S hr h hl
      | true =>
        obtain ⟨x, x1, x2⟩ := tcE_get hE hq h.2.2.2.1 hg
        obtain ⟨y, y1, y2⟩ := ha z List.mem_cons_self
        have b := l32_ok h.1.2.1 hb
        have e1 : (lev ρ (lfadd (lfmul (q.2.2.1 : Int) r) (lfc ((q.2.1 + z.1 : Nat) : Int)))).toNat = q.2.1 + q.2.2.1 * i + z.1 := by
          rw [lev_add, lev_mul, lev_c, ← hi, Int.natCast_add, ← Int.natCast_mul]
          omega
        rw [e1, y1] at x1
        have e2 : (.inl (.int y) : KV) = x := Option.some.inj x1
        rw [x2.2] at e2
        have e3 : y = Int32.ofInt (lev ρ g) := by injection e2 with e2; injection e2
        rw [e3, i32_of b.1 b.2] at y2
        have hw : lwf S.1 (lfadd (lfadd (lfc z.2.1) (lfmul z.2.2.1 r)) (lfmul z.2.2.2 g)) := lwf_add (lwf_add (lwf_c _ _) (lwf_mul hr)) (lwf_mul x2.1)
        obtain ⟨p, p1, p2, p3⟩ := lasm_ok h.1.2.1 h.1.2.2.1 hw (by rw [lev_add, lev_add, lev_c, lev_mul, lev_mul, ← hi]; exact y2)
        simp only [cond_true]
        rw [p1]
        exact ih (aq S p) hr (aGS_q h ⟨lasm_k h.1.1 p1, p2, p3, h.1.2.2.2⟩) hl
    · exact ih S hr h hl
theorem aconf_no {ρ : Nat → Int} {S : AS} (hG : aGS E ph ρ S k) : aconf S = false := by
  cases h : aconf S with
  | false => rfl
  | true =>
    exfalso
    unfold aconf at h
    obtain ⟨f, hf, h⟩ := List.any_eq_true.mp h
    obtain ⟨g, hg, h⟩ := List.any_eq_true.mp h
    split at h
    · rename_i b hb
      have h1 := lub_ok hG.1.2.1 hb
      rw [lev_add] at h1
      have h2 := (hG.1.2.2.1 f hf).2
      have h3 := (hG.1.2.2.1 g hg).2
      cases q : ile 0 b with
      | true => rw [q] at h; cases h
      | false =>
        have h4 := ile_no q
        omega
    · cases h
theorem ahint_ok (hE : kEok E) (hT : kTW E k.2.2.2.1) {h : AH} {S : AS} {L : List AS} {ρ : Nat → Int} (hG : aGS E ph ρ S k) (hh : ahint E ph h S = some L) : ∃ S' ∈ L, aUp E ph ρ S.1 S' k := by
  have sp : ∀ three : Bool, (bif Nat.beq h.2.1.1 0 then some (asplit three h.2.1 h.2.2.1 S) else bif Nat.blt h.2.1.2.1 E.1 then (match atouches E h.2.1.2.1 [h.2.1.2.2] S with
      | some S' => some (asplit three h.2.1 h.2.2.1 S')
      | none => none) else none) = some L → ∃ S' ∈ L, aUp E ph ρ S.1 S' k := fun three hh => by
    cases e : Nat.beq h.2.1.1 0 with
    | true =>
      rw [e] at hh
      cases hh
      obtain ⟨S', s1, s2, s3⟩ := asplit_ok (three := three) hE h.2.2.1 S (Or.inl (kb_t e)) hG
      exact ⟨S', s1, aUp.st s3 s2⟩
    | false =>
      rw [e] at hh
      simp only [cond_false] at hh
      obtain ⟨hl, hh⟩ := kcond_inv hh
      split at hh
      · rename_i S1 h1
        cases hh
        obtain ⟨⟨ρ1, a1, a2, a3⟩, -, -, a6⟩ := atouches_ok hT _ S S1 ρ hG h1
        obtain ⟨S', s1, s2, s3⟩ := asplit_ok (three := three) hE h.2.2.1 S1 (Or.inr ⟨Nat.ble_eq.mp hl, a6 _ List.mem_cons_self⟩) a3
        exact ⟨S', s1, ρ1, a1, by rw [s3]; exact a2, s2⟩
      · cases hh
  unfold ahint at hh
  split at hh
  · exact sp false hh
  · exact sp true hh
  · split at hh
    · rename_i t ht
      obtain ⟨hb, hh⟩ := kcond_inv hh
      cases hh
      have hb := Bool.and_eq_true_iff.mp hb
      obtain ⟨v, v1, v2⟩ := hG.2.1.1 _ _ ht
      obtain ⟨a, rfl, g1, g2⟩ := (vOK3 (t := (3, (t : Int), 0)) rfl).mp v2.2
      have g2 : E.2.1 a = t := g2
      have ha : a < E.1 := by
        refine Nat.lt_of_not_le fun z => ?_
        have hb : t < 60 := Nat.ble_eq.mp hb.1
        rcases hE.2.2 a z with ⟨h3, -⟩ | h3 <;> omega
      have h3 := List.all_eq_true.mp hb.2 a (List.mem_range.mpr ha)
      rw [kb_r g2] at h3
      obtain ⟨l, l1, l2⟩ := List.any_eq_true.mp (show h.2.2.2.1.any (fun l => Nat.beq l a) = true from h3)
      have l2 := kb_t l2
      subst l2
      refine ⟨_, List.mem_map.mpr ⟨l, l1, rfl⟩, aUp.st rfl ⟨hG.1, ⟨fun j b hj => ?_, hG.2.1.2⟩, hG.2.2⟩⟩
      have hj : (bif Nat.beq h.2.1.2.1 j then some (.inr (2, l)) else alook S.2.2.2.1 j) = some b := hj
      cases e2 : Nat.beq h.2.1.2.1 j with
      | true =>
        rw [e2] at hj
        cases hj
        rw [← kb_t e2]
        exact ⟨_, v1, fun q => (nomatch q), (vOK2 (t := (2, (l : Int), 0)) rfl).mpr ⟨rfl, g1⟩⟩
      | false =>
        rw [e2] at hj
        exact hG.2.1.1 j b hj
    · cases hh
      exact ⟨S, List.mem_cons_self, aUp.rf hG⟩
  · split at hh
    · rename_i S1 h1
      split at hh
      · rename_i m hm
        obtain ⟨hb, hh⟩ := kcond_inv hh
        cases hh
        have hb := Bool.and_eq_true_iff.mp hb
        have ha : h.2.1.2.1 < E.1 := Nat.ble_eq.mp hb.1
        obtain ⟨⟨ρ1, a1, a2, a3⟩, -, -, a6⟩ := atouches_ok hT _ S S1 ρ hG h1
        obtain ⟨k', m1, m2⟩ := atget_ok _ hm
        obtain ⟨m3, m4⟩ := a3.2.2.2.1 _ m1
        have ke := lfeq_ok m2 ρ1
        rcases m4 with m4 | ⟨-, m6, v, m7, m8⟩
        · have m4 : 2000000 ≤ h.2.1.2.1 := m4
          have := hE.1
          omega
        · have m6 : 0 ≤ lev ρ1 k' := m6
          have m7 : wval k.2.2.2.1 h.2.1.2.1 (lev ρ1 k').toNat = some v := m7
          rw [ke] at m6 m7
          obtain ⟨x, rfl, -⟩ := aR1_long m8
          have fin : ∀ c, lOK c x → aGS E ph ρ1 (aset S1 (1, h.2.1.2) (.inr (1, c))) k := fun c hc => ⟨a3.1, a3.2.1, a3.2.2.1, tcR_cons a3.2.2.2 ha (a6 _ List.mem_cons_self) m6 m7 (aR_longE c hc)⟩
          by_cases hx : x ∈ kLS
          · obtain ⟨c, c1, c2⟩ := List.any_eq_true.mp (List.all_eq_true.mp hb.2 x hx)
            have c2 := of_decide_eq_true c2
            exact ⟨_, List.mem_cons_of_mem _ (List.mem_map.mpr ⟨c, c1, rfl⟩), ρ1, a1, a2, fin (lenc c) (by rw [c2]; exact lenc_ok c)⟩
          · exact ⟨_, List.mem_cons_self, ρ1, a1, a2, fin 1 hx⟩
      · cases hh
    · cases hh
  · split at hh
    · rename_i c m cond f p _ hf hfind
      split at hh
      · rename_i r _ hr
        cases e : lle S.2.1 S.2.2.1 (lfneg r) && lle S.2.1 S.2.2.1 (lfadd r (lfc (1 - (p.2.2.2.2.1 : Int)))) with
        | false =>
          rw [e] at hh
          cases hh
          exact ⟨S, List.mem_cons_self, aUp.rf hG⟩
        | true =>
          rw [e] at hh
          simp only [cond_true] at hh
          simp only [Bool.and_eq_true] at e
          obtain ⟨e1, e2⟩ := e
          have hp : p ∈ ph := List.mem_of_find?_eq_some hfind
          have l1 := lle_ok hG.1.2.1 hG.1.2.2.1 e1
          have l2 := lle_ok hG.1.2.1 hG.1.2.2.1 e2
          rw [lev_neg] at l1
          rw [lev_add, lev_c] at l2
          unfold aopen at hh
          obtain ⟨hb, hh⟩ := kcond_inv hh
          simp only [Bool.and_eq_true] at hb
          obtain ⟨b1, b2, b3⟩ := hb
          split at hh
          · rename_i S1 h1
            cases hh
            obtain ⟨⟨ρ1, a1, a2, a3⟩, -, -, -⟩ := atouches_ok hT _ S S1 ρ hG h1
            have hrw := lwfb_ok b1
            have hir : ((lev ρ r).toNat : Int) = lev ρ1 r := by rw [lev_ag a1 hrw]; omega
            rcases hG.2.2.2.2 p hp (lev ρ r).toNat (by omega) with ⟨e, q1, q2, -⟩ | ⟨al, q1, q2⟩
            · have := List.all_eq_true.mp b2 e q1
              rw [kb_r q2] at this
              cases this
            · obtain ⟨S', s1, s2, s3⟩ := aalt_ok hE (Nat.ble_eq.mp b3) hir al S1 (lwf_up hrw a2) a3 q2
              exact ⟨S', List.mem_filterMap.mpr ⟨al, q1, s1⟩, ρ1, a1, by rw [s3]; exact a2, s2⟩
          · cases hh
      · cases hh
        exact ⟨S, List.mem_cons_self, aUp.rf hG⟩
    · cases hh
      exact ⟨S, List.mem_cons_self, aUp.rf hG⟩
  · rw [aconf_no hG] at hh
    cases hh
    exact ⟨S, List.mem_cons_self, aUp.rf hG⟩
  · cases hh
end HINT
end
section
/-! Contracts of methods; a call by a contract. -/
/-- the method, its entry (st: what is passed, the last on top), its ends (st: the answer), what it may change, a measure -/
abbrev KC : Type := Nat × AS × List AS × MOD × LF
def CV (E : TEnv) (ph : PHI) (cl : KCL) (d : Nat) (C : KC) : Prop := ∀ (ρ : Nat → Int) (st : List KV) (w : KW), kTW E w → aGS E ph ρ C.2.1 (0, [], st, w, 0, 0) → lev ρ C.2.2.2.2 < (d : Int) → ∃ r w', (∃ f, cl f C.1 st.reverse w = some (r, w')) ∧ kTW E w' ∧ kFr E C.2.2.2.1 w w' ∧ ∃ P ∈ C.2.2.1, ∃ ρ' : Nat → Int, (∀ i, i < C.2.1.1 → ρ' i = ρ i) ∧ C.2.1.1 ≤ P.1 ∧ aGS E ph ρ' P (0, [], r.toList, w', 0, 0)
def asubv (sg : SG) : AV → Option AV
  | .inl f => (match ssub 0 sg f with
    | some g => some (.inl g)
    | none => none)
  | .inr q => some (.inr q)
def asubS (sg : SG) : List AV → Option (List AV)
  | [] => some []
  | a :: l => (match asubv sg a, asubS sg l with
    | some b, some r => some (b :: r)
    | _, _ => none)
def asubT (sg : SG) : TC → Option TC
  | [] => some []
  | e :: l => (match ssub 0 sg e.1.2, asubv sg e.2, asubT sg l with
    | some k, some b, some r => some (((e.1.1, k), b) :: r)
    | _, _, _ => none)
/-- facts taken in: none: they can't be put; some none: they can't hold -/
def asubC (sg : SG) : List LF → RG × List LF → Option (Option (RG × List LF))
  | [], q => some (some q)
  | f :: l, q => (match ssub 0 sg f with
    | some g => (match lasm q.1 q.2 g with
      | some q' => asubC sg l q'
      | none => some none)
    | none => none)
/-- an end's state, in the caller -/
def apost (E : TEnv) (sg : SG) (n0 : Nat) (A : AS) (mods : MOD) (lo : List (Nat × AV)) (rest : List AV) (cB sB : LF) (P : AS) : Option (List AS) := (fun sg' : SG => match asubC sg' P.2.2.1 ((P.2.1.filter (fun q => Nat.ble n0 q.1)).map (fun q => (A.1 + (q.1 - n0), q.2)) ++ A.2.1, A.2.2.1), asubS sg' P.2.2.2.2.1, asubT sg' P.2.2.2.2.2.1 with
  | some none, _, _ => some []
  | some (some q), some st, some tc => some [(A.1 + (P.1 - n0), q.1, q.2, lo, st ++ rest, tc ++ atdelM E A.2.1 mods A.2.2.2.2.2.1, cB, sB)]
  | _, _, _ => none) ((List.range (P.1 - n0)).map (fun i => (n0 + i, lfv (A.1 + i))) ++ sg)
def aposts (E : TEnv) (sg : SG) (n0 : Nat) (A : AS) (mods : MOD) (lo : List (Nat × AV)) (rest : List AV) (cB sB : LF) : List AS → Option (List AS)
  | [] => some []
  | P :: l => (match apost E sg n0 A mods lo rest cB sB P, aposts E sg n0 A mods lo rest cB sB l with
    | some a, some b => some (a ++ b)
    | _, _ => none)
def atry (E : TEnv) (CS : List KC) (M0 : LF) (mods : MOD) (mid : Nat) (A : AS) : List Nat → Option (KC × AS × SG)
  | [] => none
  | i :: l => (match CS[i]? with
    | some C => bif Nat.beq C.1 mid && kmsub C.2.2.2.1 mods then (match amatch E 0 A C.2.1 with
      | some q => (match ssub 0 q.2 C.2.2.2.2 with
        | some g => bif lle q.1.2.1 q.1.2.2.1 (lfadd (lfsub g M0) (lfc 1)) then some (C, q) else atry E CS M0 mods mid A l
        | none => atry E CS M0 mods mid A l)
      | none => atry E CS M0 mods mid A l) else atry E CS M0 mods mid A l
    | none => atry E CS M0 mods mid A l)
def acall (E : TEnv) (CS : List KC) (cids : List Nat) (M0 : LF) (mods : MOD) (mid tot bc bs Rc Rs : Nat) (pc : Nat) (S : AS) : Option (List (Nat × AS)) := bif Nat.ble tot S.2.2.2.2.1.length && (lb0 S.2.1 (lfadd (lfadd S.2.2.2.2.2.2.1 (lfc (bc : Int))) (lfc (- (Rc : Int)))) && (lb0 S.2.1 (lfadd (lfadd S.2.2.2.2.2.2.2 (lfc (bs : Int))) (lfc (- (Rs : Int)))) && Nat.ble ((S.2.2.2.2.1.drop tot).map acat).sum 8)) then (match atry E CS M0 mods mid (S.1, S.2.1, S.2.2.1, [], S.2.2.2.2.1.take tot, S.2.2.2.2.2.1, lfc 0, lfc 0) cids with
  | some q => (match aposts E q.2.2 q.1.2.1.1 q.2.1 q.1.2.2.2.1 S.2.2.2.1 (S.2.2.2.2.1.drop tot) (lfadd S.2.2.2.2.2.2.1 (lfc (bc : Int))) (lfadd S.2.2.2.2.2.2.2 (lfc (bs : Int))) q.1.2.2.1 with
    | some L => some (L.map (fun S' => (pc + 3, S')))
    | none => none)
  | none => none) else none
section CALL
variable {E : TEnv} {ph : PHI}
theorem aSt_cut {n : Nat} {ρ : Nat → Int} : ∀ (m : Nat) (l : List AV) (st : List KV), aSt E n ρ l st → aSt E n ρ (l.take m) (st.take m) ∧ aSt E n ρ (l.drop m) (st.drop m) ∧ l.length = st.length := by
  intro m
  induction m with
  | zero =>
    intro l st h
    refine ⟨trivial, h, ?_⟩
    induction l generalizing st with
    | nil => rw [aSt_nil h]; rfl
    | cons a l ih =>
      obtain ⟨v, r, rfl, h1, h2⟩ := aSt_cons h
      rw [List.length_cons, List.length_cons, ih r h2]
  | succ m ih =>
    intro l st h
    cases l with
    | nil =>
      rw [aSt_nil h]
      exact ⟨trivial, trivial, rfl⟩
    | cons a l =>
      obtain ⟨v, r, rfl, h1, h2⟩ := aSt_cons h
      obtain ⟨i1, i2, i3⟩ := ih l r h2
      exact ⟨⟨h1, i1⟩, i2, by rw [List.length_cons, List.length_cons, i3]⟩
theorem aSt_app {n : Nat} {ρ : Nat → Int} : ∀ (l : List AV) (st : List KV) {r : List AV} {q : List KV}, aSt E n ρ l st → aSt E n ρ r q → aSt E n ρ (l ++ r) (st ++ q) := by
  intro l
  induction l with
  | nil =>
    intro st r q h h2
    rw [aSt_nil h]
    exact h2
  | cons a l ih =>
    intro st r q h h2
    obtain ⟨v, s', rfl, h1, h3⟩ := aSt_cons h
    exact ⟨h1, ih s' h3 h2⟩
theorem tcM_ok {n : Nat} {ρ : Nat → Int} {rg : RG} {mods : MOD} {w w' : KW} (hB : kRG ρ rg) (hF : kFr E mods w w') : ∀ tc : TC, tcE E n ρ tc w → tcE E n ρ (atdelM E rg mods tc) w' := by
  intro tc
  induction tc with
  | nil => intro _ q hq; cases hq
  | cons q t ih =>
    intro ht
    have ht' : tcE E n ρ t w := fun x hx => ht x (List.mem_cons_of_mem _ hx)
    unfold atdelM
    cases e : mods.any (fun r => Nat.beq r.1 (E.2.1 q.1.1) && !aout rg q.1.2 r.2.1 r.2.2) with
    | true => exact ih ht'
    | false =>
      intro x hx
      cases hx with
      | tail _ hx => exact ih ht' x hx
      | head =>
        obtain ⟨g0, g1⟩ := ht q List.mem_cons_self
        refine ⟨g0, ?_⟩
        rcases g1 with g1 | ⟨g1, g2, v, g3, g4⟩
        · exact Or.inl g1
        · refine Or.inr ⟨g1, g2, v, ?_, g4⟩
          rw [hF _ _ g1]
          · exact g3
          · rintro ⟨r, hr, e1, e2, e3⟩
            have : mods.any (fun r => Nat.beq r.1 (E.2.1 q.1.1) && !aout rg q.1.2 r.2.1 r.2.2) = true := by
              refine List.any_eq_true.mpr ⟨r, hr, ?_⟩
              rw [kb_r e1, Bool.true_and]
              cases c1 : aout rg q.1.2 r.2.1 r.2.2 with
              | false => rfl
              | true => rcases aout_ok hB c1 with c1 | c1 <;> omega
            rw [this] at e
            cases e
theorem asubv_ok {sg : SG} {n m : Nat} {ρ ρp : Nat → Int} (hs : swf 0 n sg) (hag : ∀ i, i < m → sval 0 sg ρ i = ρp i) {a b : AV} {v : KV} (hw : avwf m a = true) (ha : aR E m ρp a v) (h : asubv sg a = some b) : aR E n ρ b v := by
  rcases a with f | q
  · have h : (match ssub 0 sg f with
      | some g => some (.inl g)
      | none => none) = some b := h
    split at h
    · rename_i g hg
      cases h
      obtain ⟨h1, h2⟩ := ssub_ok hs ρ hg
      refine ⟨h1, ?_⟩
      rw [h2, lev_ag hag (lwfb_ok hw)]
      exact ha.2
    · cases h
  · cases h
    exact ha
theorem asubS_ok {sg : SG} {n m : Nat} {ρ ρp : Nat → Int} (hs : swf 0 n sg) (hag : ∀ i, i < m → sval 0 sg ρ i = ρp i) : ∀ (l r : List AV) (st : List KV), l.all (avwf m) = true → aSt E m ρp l st → asubS sg l = some r → aSt E n ρ r st := by
  intro l
  induction l with
  | nil =>
    intro r st _ h1 h2
    cases h2
    rw [aSt_nil h1]
    trivial
  | cons a l ih =>
    intro r st hw h1 h2
    rw [List.all_cons] at hw
    have hw := Bool.and_eq_true_iff.mp hw
    obtain ⟨v, s', rfl, h3, h4⟩ := aSt_cons h1
    unfold asubS at h2
    split at h2
    · rename_i b r' hb hr
      cases h2
      exact ⟨asubv_ok hs hag hw.1 h3 hb, ih r' s' hw.2 h4 hr⟩
    · cases h2
theorem asubT_ok {sg : SG} {n m : Nat} {ρ ρp : Nat → Int} {w : KW} (hs : swf 0 n sg) (hag : ∀ i, i < m → sval 0 sg ρ i = ρp i) : ∀ (l r : TC), l.all (fun e => lwfb m e.1.2 && (avwf m e.2 && Nat.blt e.1.1 2000000)) = true → tcE E m ρp l w → asubT sg l = some r → tcE E n ρ r w := by
  intro l
  induction l with
  | nil =>
    intro r _ _ h2
    cases h2
    intro e he
    cases he
  | cons e0 l ih =>
    intro r hw h1 h2
    rw [List.all_cons] at hw
    have hw := Bool.and_eq_true_iff.mp hw
    have hw1 := hw.1
    simp only [Bool.and_eq_true] at hw1
    unfold asubT at h2
    split at h2
    · rename_i k b r' hk hb hr
      cases h2
      intro e he
      cases he with
      | tail _ he => exact ih r' hw.2 (fun x hx => h1 x (List.mem_cons_of_mem _ hx)) hr e he
      | head =>
        obtain ⟨g0, g1⟩ := h1 e0 List.mem_cons_self
        obtain ⟨h3, h4⟩ := ssub_ok hs ρ hk
        refine ⟨h3, ?_⟩
        rcases g1 with g1 | ⟨g1, g2, v, g3, g4⟩
        · exact Or.inl g1
        · have e1 : lev ρ k = lev ρp e0.1.2 := by rw [h4, lev_ag hag (lwfb_ok hw1.1)]
          exact Or.inr ⟨g1, by rw [e1]; exact g2, v, by rw [e1]; exact g3, asubv_ok hs hag hw1.2.1 g4 hb⟩
    · cases h2
theorem asubC_ok {sg : SG} {n m : Nat} {ρ ρp : Nat → Int} (hs : swf 0 n sg) (hag : ∀ i, i < m → sval 0 sg ρ i = ρp i) : ∀ (l : List LF) (q : RG × List LF) (o : Option (RG × List LF)), l.all (lwfb m) = true → (∀ f ∈ l, 0 ≤ lev ρp f) → kRK n q.1 → kRG ρ q.1 → kCS n ρ q.2 → asubC sg l q = some o → ∃ q', o = some q' ∧ kRK n q'.1 ∧ kRG ρ q'.1 ∧ kCS n ρ q'.2 := by
  intro l
  induction l with
  | nil =>
    intro q o _ _ h1 h2 h3 h
    cases h
    exact ⟨q, rfl, h1, h2, h3⟩
  | cons f l ih =>
    intro q o hw h0 h1 h2 h3 h
    rw [List.all_cons] at hw
    have hw := Bool.and_eq_true_iff.mp hw
    unfold asubC at h
    split at h
    · rename_i g hg
      obtain ⟨h4, h5⟩ := ssub_ok hs ρ hg
      have h6 : 0 ≤ lev ρ g := by rw [h5, lev_ag hag (lwfb_ok hw.1)]; exact h0 f List.mem_cons_self
      obtain ⟨q', k1, k2, k3⟩ := lasm_ok h2 h3 h4 h6
      rw [k1] at h
      exact ih q' o hw.2 (fun f hf => h0 f (List.mem_cons_of_mem _ hf)) (lasm_k h1 k1) k2 k3 h
    · cases h
theorem sgk_map {n0 a : Nat} (sg : SG) : ∀ (m b v : Nat), sgk ((List.range' b m).map (fun i => (n0 + i, lfv (a + i))) ++ sg) v = if n0 + b ≤ v ∧ v < n0 + b + m then some (lfv (a + (v - n0))) else sgk sg v := by
  intro m
  induction m with
  | zero =>
    intro b v
    rw [if_neg (by omega)]
    rfl
  | succ m ih =>
    intro b v
    rw [List.range'_succ]
    show (bif Nat.beq (n0 + b) v then some (lfv (a + b)) else sgk ((List.range' (b + 1) m).map (fun i => (n0 + i, lfv (a + i))) ++ sg) v) = _
    cases e : Nat.beq (n0 + b) v with
    | true =>
      have e := kb_t e
      rw [if_pos (by omega), show v - n0 = b by omega]
      rfl
    | false =>
      have e := kb_f e
      simp only [cond_false]
      rw [ih (b + 1) v]
      by_cases c1 : n0 + (b + 1) ≤ v ∧ v < n0 + (b + 1) + m
      · rw [if_pos c1, if_pos (by omega)]
      · rw [if_neg c1, if_neg (by omega)]
/-- an end of a callee, as a state of the caller -/
theorem apost_ok {A P : AS} {sg : SG} {n0 : Nat} {mods : MOD} {lo : List (Nat × AV)} {rest : List AV} {cB sB : LF} {L : List AS} {ρ ρ1 ρp : Nat → Int} {n : Nat} {w w' : KW} {lok : List (Nat × KV)} {restk : List KV} {r : Option KV} {c s : Nat} (hT : kTW E w) (hF : kFr E mods w w') (hPh : phW ph) (hnA : n ≤ A.1) (hag : ∀ i, i < n → ρ1 i = ρ i) (hA : kRK A.1 A.2.1 ∧ kRG ρ1 A.2.1 ∧ kCS A.1 ρ1 A.2.2.1 ∧ tcE E A.1 ρ1 A.2.2.2.2.2.1 w) (hs : swf 0 A.1 sg) (hP : apwf 0 P = true) (hp0 : n0 ≤ P.1) (hpa : ∀ i, i < n0 → ρp i = sval 0 sg ρ1 i) (hG : aGS E ph ρp P (0, [], r.toList, w', 0, 0)) (hlo : aLo E n ρ lo lok) (hrest : aSt E n ρ rest restk) (hc : lwf n cB ∧ (c : Int) ≤ lev ρ cB) (hsb : lwf n sB ∧ (s : Int) ≤ lev ρ sB) (h : apost E sg n0 A mods lo rest cB sB P = some L) : ∃ S' ∈ L, ∃ ρ2 : Nat → Int, (∀ i, i < n → ρ2 i = ρ i) ∧ n ≤ S'.1 ∧ aGS E ph ρ2 S' (0, lok, r.toList ++ restk, w', c, s) := by
  unfold apwf at hP
  simp only [Bool.and_eq_true] at hP
  obtain ⟨-, p2, p3, p4, p5, p6, p7, p8⟩ := hP
  unfold apost at h
  simp only at h
  have ag1 : ∀ i, i < A.1 → (fun i => if i < A.1 then ρ1 i else ρp (n0 + (i - A.1))) i = ρ1 i := fun i hi => if_pos hi
  have ag2 : ∀ i, i < n → (fun i => if i < A.1 then ρ1 i else ρp (n0 + (i - A.1))) i = ρ i := fun i hi => by
    rw [ag1 i (by omega), hag i hi]
  have hs' : swf 0 (A.1 + (P.1 - n0)) ((List.range (P.1 - n0)).map (fun i => (n0 + i, lfv (A.1 + i))) ++ sg) := ⟨Nat.zero_le _, fun q hq => by
    rcases List.mem_append.mp hq with hq | hq
    · obtain ⟨i, hi, rfl⟩ := List.mem_map.mp hq
      have := List.mem_range.mp hi
      exact lwf_v (by omega)
    · exact lwf_up (hs.2 q hq) (Nat.le_add_right _ _)⟩
  have hval : ∀ v, v < P.1 → sval 0 ((List.range (P.1 - n0)).map (fun i => (n0 + i, lfv (A.1 + i))) ++ sg) (fun i => if i < A.1 then ρ1 i else ρp (n0 + (i - A.1))) v = ρp v := fun v hv => by
    unfold sval
    rw [if_neg (Nat.not_lt_zero _), List.range_eq_range', sgk_map sg (P.1 - n0) 0 v]
    by_cases c1 : n0 + 0 ≤ v ∧ v < n0 + 0 + (P.1 - n0)
    · rw [if_pos c1]
      show lev _ (lfv (A.1 + (v - n0))) = _
      rw [lev_v, if_neg (by omega)]
      congr 1
      omega
    · rw [if_neg c1, hpa v (by omega)]
      unfold sval
      rw [if_neg (Nat.not_lt_zero _)]
      split
      · rename_i f hf
        obtain ⟨q, hq, rfl⟩ := sgk_mem hf
        exact lev_ag ag1 (hs.2 q hq)
      · rfl
  have F1 : kRK (A.1 + (P.1 - n0)) ((P.2.1.filter (fun q => Nat.ble n0 q.1)).map (fun q => (A.1 + (q.1 - n0), q.2)) ++ A.2.1) := by
    intro q hq
    rcases List.mem_append.mp hq with hq | hq
    · obtain ⟨z, hz, rfl⟩ := List.mem_map.mp hq
      obtain ⟨hz, hz2⟩ := List.mem_filter.mp hz
      have h3 : z.1 < P.1 := Nat.ble_eq.mp (List.all_eq_true.mp p2 z hz)
      have h4 : n0 ≤ z.1 := Nat.ble_eq.mp hz2
      show A.1 + (z.1 - n0) < _
      omega
    · exact Nat.lt_of_lt_of_le (hA.1 q hq) (Nat.le_add_right _ _)
  have F2 : kRG (fun i => if i < A.1 then ρ1 i else ρp (n0 + (i - A.1))) ((P.2.1.filter (fun q => Nat.ble n0 q.1)).map (fun q => (A.1 + (q.1 - n0), q.2)) ++ A.2.1) := by
    intro q hq
    rcases List.mem_append.mp hq with hq | hq
    · obtain ⟨z, hz, rfl⟩ := List.mem_map.mp hq
      obtain ⟨hz, hz2⟩ := List.mem_filter.mp hz
      have h4 : n0 ≤ z.1 := Nat.ble_eq.mp hz2
      have h5 := hG.1.2.1 z hz
      show z.2.1 ≤ (if A.1 + (z.1 - n0) < A.1 then ρ1 (A.1 + (z.1 - n0)) else ρp (n0 + (A.1 + (z.1 - n0) - A.1))) ∧ (if A.1 + (z.1 - n0) < A.1 then ρ1 (A.1 + (z.1 - n0)) else ρp (n0 + (A.1 + (z.1 - n0) - A.1))) ≤ z.2.2
      rw [if_neg (by omega), show n0 + (A.1 + (z.1 - n0) - A.1) = z.1 by omega]
      exact h5
    · have := ag1 q.1 (hA.1 q hq)
      rw [this]
      exact hA.2.1 q hq
  have F3 : kCS (A.1 + (P.1 - n0)) (fun i => if i < A.1 then ρ1 i else ρp (n0 + (i - A.1))) A.2.2.1 := by
    intro f hf
    obtain ⟨a, b⟩ := hA.2.2.1 f hf
    exact ⟨lwf_up a (Nat.le_add_right _ _), by rw [lev_ag ag1 a]; exact b⟩
  split at h
  · rename_i hcn
    exfalso
    obtain ⟨q', e, -⟩ := asubC_ok hs' hval _ _ _ p3 (fun f hf => (hG.1.2.2.1 f hf).2) F1 F2 F3 hcn
    cases e
  · rename_i q st tc hcs hst htc
    cases h
    obtain ⟨q', e, k1, k2, k3⟩ := asubC_ok hs' hval _ _ _ p3 (fun f hf => (hG.1.2.2.1 f hf).2) F1 F2 F3 hcs
    cases e
    have hn' : n ≤ A.1 + (P.1 - n0) := Nat.le_trans hnA (Nat.le_add_right _ _)
    refine ⟨_, List.mem_cons_self, fun i => if i < A.1 then ρ1 i else ρp (n0 + (i - A.1)), ag2, hn', ⟨k1, k2, k3, ⟨lwf_up hc.1 hn', by rw [lev_ag ag2 hc.1]; exact hc.2⟩, ⟨lwf_up hsb.1 hn', by rw [lev_ag ag2 hsb.1]; exact hsb.2⟩⟩, aLo_up ag2 hn' hlo, aSt_app _ _ (asubS_ok hs' hval _ _ _ p5 hG.2.2.1 hst) (aSt_up ag2 hn' _ _ hrest), fun e he => ?_, fun p hp i hi => ?_⟩
    · rcases List.mem_append.mp he with he | he
      · exact asubT_ok hs' hval _ _ p6 hG.2.2.2.1 htc e he
      · exact tcE_up ag1 (Nat.le_add_right _ _) (tcM_ok hA.2.1 hF _ hA.2.2.2) e he
    · rcases hG.2.2.2.2 p hp i hi with ⟨e, e1, e2, -⟩ | r
      · have := List.all_eq_true.mp p6 e e1
        simp only [Bool.and_eq_true] at this
        have h5 : e.1.1 < 2000000 := Nat.ble_eq.mp this.2.2
        have := (hPh.1 p hp).1
        omega
      · exact Or.inr r
  · cases h
end CALL
end
section
/-! A call by a contract, in the small machine. -/
def kcwf (C : KC) : Bool := apwf 0 C.2.1 && C.2.2.1.all (fun P => apwf 0 P && Nat.ble C.2.1.1 P.1)
section CALL2
variable {E : TEnv} {ph : PHI}
theorem aposts_ok {sg : SG} {n0 : Nat} {A : AS} {mods : MOD} {lo : List (Nat × AV)} {rest : List AV} {cB sB : LF} : ∀ (l : List AS) (L : List AS), aposts E sg n0 A mods lo rest cB sB l = some L → ∀ P ∈ l, ∃ a, apost E sg n0 A mods lo rest cB sB P = some a ∧ ∀ S ∈ a, S ∈ L := by
  intro l
  induction l with
  | nil => intro L _ P hP; cases hP
  | cons P0 l ih =>
    intro L h P hP
    unfold aposts at h
    split at h
    · rename_i a b ha hb
      cases h
      cases hP with
      | head => exact ⟨a, ha, fun S hS => List.mem_append_left _ hS⟩
      | tail _ hP =>
        obtain ⟨a', h1, h2⟩ := ih b hb P hP
        exact ⟨a', h1, fun S hS => List.mem_append_right _ (h2 S hS)⟩
    · cases h
theorem atry_ok {CS : List KC} {M0 : LF} {mods : MOD} {mid : Nat} {A : AS} {C : KC} {q : AS × SG} : ∀ (l : List Nat), atry E CS M0 mods mid A l = some (C, q) → C ∈ CS ∧ C.1 = mid ∧ kmsub C.2.2.2.1 mods = true ∧ amatch E 0 A C.2.1 = some q ∧ ∃ g, ssub 0 q.2 C.2.2.2.2 = some g ∧ lle q.1.2.1 q.1.2.2.1 (lfadd (lfsub g M0) (lfc 1)) = true := by
  intro l
  induction l with
  | nil => intro h; cases h
  | cons i l ih =>
    intro h
    unfold atry at h
    split at h
    · rename_i C0 h0
      cases e : Nat.beq C0.1 mid && kmsub C0.2.2.2.1 mods with
      | false => rw [e] at h; exact ih h
      | true =>
        rw [e] at h
        have e := Bool.and_eq_true_iff.mp e
        simp only [cond_true] at h
        split at h
        · rename_i q0 hq0
          split at h
          · rename_i g hg
            cases e2 : lle q0.1.2.1 q0.1.2.2.1 (lfadd (lfsub g M0) (lfc 1)) with
            | false => rw [e2] at h; exact ih h
            | true =>
              rw [e2] at h
              cases h
              exact ⟨List.mem_of_getElem? h0, kb_t e.1, e.2, hq0, g, hg, e2⟩
          · exact ih h
        · exact ih h
    · exact ih h
theorem acall_ok {clk : KCL} {d : Nat} (hE : kEok E) (hph : phW ph) {CS : List KC} (hCS : ∀ C ∈ CS, kcwf C = true ∧ CV E ph clk d C) {ρ : Nat → Int} {S : AS} {pc0 : Nat} {lo : List (Nat × KV)} {st : List KV} {w : KW} {c s : Nat} (hT : kTW E w) (hG : aGS E ph ρ S (pc0, lo, st, w, c, s)) {cids : List Nat} {M0 : LF} (hMw : lwf S.1 M0) (hM : lev ρ M0 < (d : Int) + 1) {mods : MOD} {mid tot bc bs Rc Rs pc : Nat} {L : List (Nat × AS)} (h : acall E CS cids M0 mods mid tot bc bs Rc Rs pc S = some L) : ∃ r w' f, clk f mid (st.take tot).reverse w = some (r, w') ∧ tot ≤ st.length ∧ kokL (kfr 0 w) lo = true ∧ kokS (kfr 0 w) (st.drop tot) = true ∧ Nat.ble (c + bc) Rc = true ∧ Nat.ble (s + bs) Rs = true ∧ Nat.ble (kcats (st.drop tot)) 8 = true ∧ kTW E w' ∧ kFr E mods w w' ∧ aNx E ph ρ S.1 L (pc + 3, lo, r.toList ++ st.drop tot, w', c + bc, s + bs) := by
  unfold acall at h
  obtain ⟨hb, h⟩ := kcond_inv h
  simp only [Bool.and_eq_true] at hb
  obtain ⟨b1, b2, b3, b4⟩ := hb
  obtain ⟨t1, t2, t3⟩ := aSt_cut tot _ _ hG.2.2.1
  have t3 : S.2.2.2.2.1.length = st.length := t3
  have c1 := lb0_ok hG.1.2.1 b2
  have c2 := lb0_ok hG.1.2.1 b3
  rw [lev_add, lev_add, lev_c, lev_c] at c1 c2
  have k1 := hG.1.2.2.2.1
  have k2 := hG.1.2.2.2.2
  have k1 : lwf S.1 S.2.2.2.2.2.2.1 ∧ (c : Int) ≤ lev ρ S.2.2.2.2.2.2.1 := k1
  have k2 : lwf S.1 S.2.2.2.2.2.2.2 ∧ (s : Int) ≤ lev ρ S.2.2.2.2.2.2.2 := k2
  obtain ⟨ok1, ok2⟩ := aSt_ok _ _ t2
  split at h
  · rename_i q hq
    obtain ⟨C, A', sg⟩ := q
    obtain ⟨m1, m2, m3, m4, g, m5, m6⟩ := atry_ok cids hq
    have hC := hCS C m1
    have hwf := hC.1
    unfold kcwf at hwf
    have hwf := Bool.and_eq_true_iff.mp hwf
    have hGa : aGS E ph ρ (S.1, S.2.1, S.2.2.1, [], S.2.2.2.2.1.take tot, S.2.2.2.2.2.1, lfc 0, lfc 0) (0, [], st.take tot, w, 0, 0) := ⟨⟨hG.1.1, hG.1.2.1, hG.1.2.2.1, ⟨lwf_c _ _, by rw [lev_c]; exact Int.le_refl _⟩, ⟨lwf_c _ _, by rw [lev_c]; exact Int.le_refl _⟩⟩, ⟨fun j a (hj : none = some a) => (nomatch hj), rfl⟩, t1, hG.2.2.2⟩
    obtain ⟨ρ1, r1, r2, r3, r4, r5, r6, r7⟩ := amatch_ok (k := (0, [], st.take tot, w, 0, 0)) hE hph hT (Nat.zero_le _) hGa hwf.1 m4
    have r1 : ∀ i, i < S.1 → ρ1 i = ρ i := r1
    have r2 : S.1 ≤ A'.1 := r2
    obtain ⟨-, s2⟩ := ssub_ok r6 ρ1 m5
    have s3 := lle_ok r3.1.2.1 r3.1.2.2.1 m6
    rw [lev_add, lev_sub, lev_c, lev_ag r1 hMw, s2] at s3
    obtain ⟨r, w', ⟨f, u1⟩, u2, u3, P, u4, ρp, u5, u6, u7⟩ := hC.2 _ _ _ hT r7 (by omega)
    split at h
    · rename_i L1 hL1
      cases h
      obtain ⟨a, a1, a2⟩ := aposts_ok _ _ hL1 P u4
      have hwP := List.all_eq_true.mp hwf.2 P u4
      have hwP := Bool.and_eq_true_iff.mp hwP
      obtain ⟨S', v1, ρ2, v2, v3, v4⟩ := apost_ok (n := S.1) (ρ := ρ) (c := c + bc) (s := s + bs) (lok := lo) (restk := st.drop tot) hT u3 hph r2 r1 ⟨r3.1.1, r3.1.2.1, r3.1.2.2.1, r3.2.2.2.1⟩ r6 hwP.1 u6 u5 u7 hG.2.1 t2 ⟨lwf_add k1.1 (lwf_c _ _), by rw [lev_add, lev_c]; omega⟩ ⟨lwf_add k2.1 (lwf_c _ _), by rw [lev_add, lev_c]; omega⟩ a1
      rw [m2] at u1
      refine ⟨r, w', f, ?_, ?_, ?_, ?_, Nat.ble_eq.mpr (by omega), Nat.ble_eq.mpr (by omega), ?_, u2, u3.sub m3, ?_⟩
      · exact u1
      · rw [← t3]; exact Nat.ble_eq.mp b1
      · rw [hT.1]; exact hG.2.1.2
      · rw [hT.1]; exact ok1
      · rw [ok2]; exact b4
      · exact ⟨(pc + 3, S'), List.mem_map.mpr ⟨S', a2 S' v1, rfl⟩, rfl, ρ2, v2, v3, v4⟩
    · cases h
  · cases h
end CALL2
end
section
/-! The explorer: all ways of a method, between its cuts. -/
/-- cuts: place, pattern, measure; cases told ahead of them, behind them; the contracts tried at a call -/
abbrev KG : Type := List (Nat × AS × LF) × List (Nat × List AH) × List (Nat × List AH) × List (Nat × List Nat)
def ahl {α : Type} : List (Nat × List α) → Nat → List α
  | [], _ => []
  | q :: l, pc => bif Nat.beq q.1 pc then q.2 else ahl l pc
def aflat {α β : Type} (f : α → Option (List β)) : List α → Option (List β)
  | [] => some []
  | a :: l => (match f a, aflat f l with
    | some x, some y => some (x ++ y)
    | _, _ => none)
def ahints (E : TEnv) (ph : PHI) : List AH → List AS → Option (List AS)
  | [], Ss => some Ss
  | h :: l, Ss => (match aflat (ahint E ph h) Ss with
    | some Ss' => ahints E ph l Ss'
    | none => none)
def acut (E : TEnv) (n0 : Nat) (Mc : Option LF) (pc : Nat) (S : AS) : List (Nat × AS × LF) → Bool
  | [] => false
  | q :: l => (bif Nat.beq q.1 pc then (match amatch E n0 S q.2.1 with
    | some r => (match Mc with
      | none => true
      | some M => (match ssub n0 r.2 q.2.2 with
        | some g => lle r.1.2.1 r.1.2.2.1 (lfadd (lfsub g M) (lfc 1))
        | none => false))
    | none => false) else false) || acut E n0 Mc pc S l
def arcv (E : TEnv) (m cl : Nat) (S : AS) : Bool := match S.2.2.2.2.1.drop m with
  | r :: _ => (match arec E r with
    | some q => Nat.beq (E.2.2 q.1).1.1 9 && Nat.beq (E.2.2 q.1).1.2.1 cl
    | none => false)
  | [] => false
def astp (E : TEnv) (ph : PHI) (CS : List KC) (mods : MOD) (sc : Bool) (nL Rc Rs : Nat) (M0 : LF) (cl : List Nat) (ig : Instr) (x : KX) (pc : Nat) (S : AS) : Option (List (Nat × AS)) := match cl with
  | [] => ado E mods ph sc nL Rc Rs ig x pc S.1 S.2.1 S.2.2.1 S.2.2.2.1 S.2.2.2.2.1 S.2.2.2.2.2.1 S.2.2.2.2.2.2.1 S.2.2.2.2.2.2.2
  | _ :: _ => bif Nat.blt x.1 999990 then (match ig with
    | .invokestatic _ => acall E CS cl M0 mods x.1 x.2.1 x.2.2.1 x.2.2.2.1 Rc Rs pc S
    | .invokevirtual _ => bif arcv E x.2.1 x.2.2.2.2 S then acall E CS cl M0 mods x.1 (x.2.1 + 1) x.2.2.1 x.2.2.2.1 Rc Rs pc S else none
    | .invokespecial _ => bif arcv E x.2.1 (x.2.2.2.2 % 100) S then acall E CS cl M0 mods x.1 (x.2.1 + 1) x.2.2.1 x.2.2.2.1 Rc Rs pc S else none
    | _ => none) else none
def arets (E : TEnv) (rg : RG) (ret : Option FieldType) (ig : Instr) (st : List AV) : Bool := match ig with
  | .return_ => (match ret, st with
    | none, [] => true
    | _, _ => false)
  | .ireturn => (match ret, st with
    | some .int, [a] => aisI a
    | some .boolean, [a] => aisI a && afit E rg a (0, 0, 1)
    | some .byte, [a] => aisI a
    | _, _ => false)
  | .new _ => (match ret, st with
    | some .byte, [] => true
    | _, _ => false)
  | .lreturn => (match ret, st with
    | some .long, [a] => aisG a
    | _, _ => false)
  | _ => false
def aret (E : TEnv) (n0 : Nat) (posts : List AS) (ret : Option FieldType) (mc ml : Nat) (ig : Instr) (S : AS) : Bool := arets E S.2.1 ret ig S.2.2.2.2.1 && (lb0 S.2.1 (lfadd S.2.2.2.2.2.2.1 (lfc (- (mc : Int)))) && (lb0 S.2.1 (lfadd S.2.2.2.2.2.2.2 (lfc (- (ml : Int)))) && posts.any (fun P => (amatch E n0 (S.1, S.2.1, S.2.2.1, [], S.2.2.2.2.1, S.2.2.2.2.2.1, lfc 0, lfc 0) P).isSome)))
def aproc (E : TEnv) (ph : PHI) (CS : List KC) (mods : MOD) (sc : Bool) (nL mc ml : Nat) (ret : Option FieldType) (prog : List KEnt) (posts : List AS) (n0 : Nat) (M0 : LF) (G : KG) (Mc : Option LF) (first : Bool) (pc : Nat) (S : AS) : Option (List (Nat × AS)) := bif !first && acut E n0 Mc pc S G.1 then some [] else (match kfrom prog pc with
  | [] => none
  | e :: _ => bif Nat.beq e.1 pc then (match ahints E ph (ahl G.2.2.1 pc) [S] with
    | some Ss => aflat (fun S => bif kendx e.2.1 then (bif aret E n0 posts ret mc ml e.2.1 S then some [] else none) else astp E ph CS mods sc nL mc ml M0 (ahl G.2.2.2 pc) e.2.1 e.2.2 pc S) Ss
    | none => none) else none)
def expl (E : TEnv) (ph : PHI) (CS : List KC) (mods : MOD) (sc : Bool) (nL mc ml : Nat) (ret : Option FieldType) (prog : List KEnt) (posts : List AS) (n0 : Nat) (M0 : LF) (G : KG) (Mc : Option LF) : Nat → List (Nat × AS) → Bool
  | 0, _ => false
  | f + 1, W => (match W with
    | [] => true
    | q :: W => (match ahints E ph (ahl G.2.1 q.1) [q.2] with
      | some Ss => (match aflat (aproc E ph CS mods sc nL mc ml ret prog posts n0 M0 G Mc false q.1) Ss with
        | some L => expl E ph CS mods sc nL mc ml ret prog posts n0 M0 G Mc f (L ++ W)
        | none => false)
      | none => false))
section EXPL
variable {E : TEnv} {ph : PHI}
theorem aflat_ok {α β : Type} {f : α → Option (List β)} : ∀ (l : List α) (L : List β), aflat f l = some L → ∀ a ∈ l, ∃ x, f a = some x ∧ ∀ b ∈ x, b ∈ L := by
  intro l
  induction l with
  | nil => intro L _ a ha; cases ha
  | cons a0 l ih =>
    intro L h a ha
    unfold aflat at h
    split at h
    · rename_i x y hx hy
      cases h
      cases ha with
      | head => exact ⟨x, hx, fun b hb => List.mem_append_left _ hb⟩
      | tail _ ha =>
        obtain ⟨z, h1, h2⟩ := ih y hy a ha
        exact ⟨z, h1, fun b hb => List.mem_append_right _ (h2 b hb)⟩
    · cases h
theorem ahints_ok (hE : kEok E) {k : KF} (hT : kTW E k.2.2.2.1) : ∀ (l : List AH) (Ss L : List AS), ahints E ph l Ss = some L → ∀ S ∈ Ss, ∀ ρ, aGS E ph ρ S k → ∃ S' ∈ L, aUp E ph ρ S.1 S' k := by
  intro l
  induction l with
  | nil =>
    intro Ss L h S hS ρ hG
    cases h
    exact ⟨S, hS, aUp.rf hG⟩
  | cons h0 l ih =>
    intro Ss L h S hS ρ hG
    unfold ahints at h
    split at h
    · rename_i Ss' h1
      obtain ⟨x, x1, x2⟩ := aflat_ok _ _ h1 S hS
      obtain ⟨S1, s1, ρ1, s2, s3, s4⟩ := ahint_ok hE hT hG x1
      obtain ⟨S2, t1, ρ2, t2, t3, t4⟩ := ih Ss' L h S1 (x2 S1 s1) ρ1 s4
      exact ⟨S2, t1, ρ2, fun i hi => by rw [t2 i (by omega), s2 i hi], Nat.le_trans s3 t3, t4⟩
    · cases h
theorem arcv_ok (hE : kEok E) {ρ : Nat → Int} {S : AS} {k : KF} (hT : kTW E k.2.2.2.1) (hG : aGS E ph ρ S k) {m cl : Nat} (h : arcv E m cl S = true) : ∃ b rest fs, k.2.2.1.drop m = .inl (.ref b) :: rest ∧ kwg k.2.2.2.1 b = some (.inr (cl, fs)) := by
  unfold arcv at h
  obtain ⟨-, t2, -⟩ := aSt_cut m _ _ hG.2.2.1
  split at h
  · rename_i r l hr
    rw [hr] at t2
    obtain ⟨v, s', e, h1, -⟩ := aSt_cons t2
    split at h
    · rename_i q hq
      obtain ⟨t, oa⟩ := q
      obtain ⟨a, rfl, ha, hta, -⟩ := arec_ok hE hq h1
      have h := Bool.and_eq_true_iff.mp h
      obtain ⟨c0, g1, g2, -⟩ := hT.2 a ha
      rw [hta, ct_of (b := 0) h.1, kb_t h.2] at g2
      obtain ⟨fs, rfl, -⟩ := khd9 g2
      exact ⟨a, s', fs, e, g1⟩
    · cases h
  · cases h
theorem astp_ok {clk : KCL} {X : KO} {d : Nat} (hE : kEok E) (hW : kEw E) (hph : phW ph) {CS : List KC} (hCS : ∀ C ∈ CS, kcwf C = true ∧ CV E ph clk d C) {ρ : Nat → Int} {S : AS} {pc : Nat} {lo : List (Nat × KV)} {st : List KV} {w : KW} {c s : Nat} (hT : kTW E w) (hG : aGS E ph ρ S (pc, lo, st, w, c, s)) {M0 : LF} (hMw : lwf S.1 M0) (hM : lev ρ M0 < (d : Int) + 1) {mods : MOD} {sc : Bool} {rgk : List (Int × Int)} {L0 nL Rc Rs : Nat} (hsc : kScA sc S.1 ρ rgk L0) {cl : List Nat} {ig : Instr} {x : KX} {L : List (Nat × AS)} (h : astp E ph CS mods sc nL Rc Rs M0 cl ig x pc S = some L) : ∃ f k', kdx ig X (clk f) rgk L0 nL Rc Rs x pc lo st w c s = some k' ∧ kStp E mods w k'.2.2.2.1 ∧ aNx E ph ρ S.1 L k' := by
  unfold astp at h
  split at h
  · obtain ⟨k', h1, h2, h3⟩ := ado_ok (X := X) (call := clk 0) hE hW hph hT hG hsc h
    exact ⟨0, k', h1, h2, h3⟩
  · obtain ⟨hx, h⟩ := kcond_inv h
    have hx : x.1 < 999990 := Nat.ble_eq.mp hx
    have nb : ∀ z, 999990 ≤ z → Nat.beq x.1 z = false := fun z hz => kb_n (by omega)
    split at h
    · obtain ⟨r, w', f, u1, u2, u3, u4, u5, u6, u7, u8, u9, u10⟩ := acall_ok hE hph hCS hT hG hMw hM h
      refine ⟨f, _, ?_, ⟨u8, u9⟩, u10⟩
      show (bif Nat.beq x.1 999996 then _ else bif Nat.beq x.1 999995 then _ else bif Nat.beq x.1 999998 then _ else bif Nat.beq x.1 999997 then _ else kcallS (clk f) Rc Rs x pc lo st w c s) = _
      rw [nb _ (by decide), nb _ (by decide), nb _ (by decide), nb _ (by decide)]
      unfold kcallS
      simp only [cond_false, show Nat.ble x.2.1 st.length = true from Nat.ble_eq.mpr u2, u3, u4, u5, u6, u7, u1, Bool.and_self, cond_true]
    · obtain ⟨hr, h⟩ := kcond_inv h
      obtain ⟨b, rest, fs, e1, e2⟩ := arcv_ok hE hT hG hr
      have e1 : st.drop x.2.1 = .inl (.ref b) :: rest := e1
      have e3 : st.drop (x.2.1 + 1) = rest := by rw [← List.drop_drop, e1]; rfl
      have e4 : (st.take (x.2.1 + 1)).reverse = .inl (.ref b) :: (st.take x.2.1).reverse := by
        rw [List.take_add, e1]
        simp
      obtain ⟨r, w', f, u1, u2, u3, u4, u5, u6, u7, u8, u9, u10⟩ := acall_ok hE hph hCS hT hG hMw hM h
      rw [e3] at u4 u7 u10
      rw [e4] at u1
      refine ⟨f, _, ?_, ⟨u8, u9⟩, u10⟩
      show (bif Nat.beq x.1 999994 then _ else bif Nat.beq x.1 999993 then _ else kcallV (clk f) Rc Rs x pc lo st w c s) = _
      rw [nb _ (by decide), nb _ (by decide)]
      unfold kcallV
      simp only [cond_false, e1, e2, Nat.beq_refl, u3, u4, u5, u6, u7, u1, Bool.and_self, cond_true]
    · obtain ⟨hr, h⟩ := kcond_inv h
      obtain ⟨b, rest, fs, e1, e2⟩ := arcv_ok hE hT hG hr
      have e1 : st.drop x.2.1 = .inl (.ref b) :: rest := e1
      have e3 : st.drop (x.2.1 + 1) = rest := by rw [← List.drop_drop, e1]; rfl
      have e4 : (st.take (x.2.1 + 1)).reverse = .inl (.ref b) :: (st.take x.2.1).reverse := by
        rw [List.take_add, e1]
        simp
      obtain ⟨r, w', f, u1, u2, u3, u4, u5, u6, u7, u8, u9, u10⟩ := acall_ok hE hph hCS hT hG hMw hM h
      rw [e3] at u4 u7 u10
      rw [e4] at u1
      refine ⟨f, _, ?_, ⟨u8, u9⟩, u10⟩
      show (bif Nat.beq x.1 999999 then _ else kcallV (clk f) Rc Rs (x.1, x.2.1, x.2.2.1, x.2.2.2.1, x.2.2.2.2 % 100) pc lo st w c s) = _
      rw [nb _ (by decide)]
      unfold kcallV
      simp only [cond_false, e1, e2, Nat.beq_refl, u3, u4, u5, u6, u7, u1, Bool.and_self, cond_true]
    · cases h
end EXPL
end
section
/-! What the explorer finds holds: a method keeps its contract. -/
section EXPL2
variable {E : TEnv} {ph : PHI} {clk : KCL} {X : KO} {d : Nat} {CS : List KC} {mods : MOD} {sc : Bool} {rgk : List (Int × Int)} {L0 nL mc ml : Nat} {ret : Option FieldType} {prog : List KEnt} {posts : List AS} {n0 : Nat} {M0 : LF} {G : KG}
/-- a run of the method from a frame -/
def RN (clk : KCL) (X : KO) (rgk : List (Int × Int)) (L0 nL mc ml : Nat) (prog : List KEnt) (k : KF) (r : Instr × KF) : Prop := ∃ f, krx (clk f) X rgk L0 nL mc ml prog f k = some r
/-- it ends as one of the ends says -/
def TG (E : TEnv) (ph : PHI) (clk : KCL) (X : KO) (mods : MOD) (rgk : List (Int × Int)) (L0 nL mc ml : Nat) (ret : Option FieldType) (prog : List KEnt) (posts : List AS) (n0 : Nat) (ρ0 : Nat → Int) (w0 : KW) (k : KF) : Prop := ∃ ig k2, RN clk X rgk L0 nL mc ml prog k (ig, k2) ∧ Nat.ble k2.2.2.2.2.1 mc = true ∧ Nat.ble k2.2.2.2.2.2 ml = true ∧ kTW E k2.2.2.2.1 ∧ kFr E mods w0 k2.2.2.2.1 ∧ ∃ r, kretx ret ig k2.2.2.1 = some r ∧ ∃ P ∈ posts, ∃ ρ' : Nat → Int, (∀ i, i < n0 → ρ' i = ρ0 i) ∧ n0 ≤ P.1 ∧ aGS E ph ρ' P (0, [], r.toList, k2.2.2.2.1, 0, 0)
theorem RN_end {k : KF} {e : KEnt} {l : List KEnt} (hk : kfrom prog k.1 = e :: l) (he : Nat.beq e.1 k.1 = true) (hb : kendx e.2.1 = true) : RN clk X rgk L0 nL mc ml prog k (e.2.1, k) := by
  refine ⟨1, ?_⟩
  obtain ⟨pc, lo, st, w, c, s⟩ := k
  unfold krx
  have hk : kfrom prog pc = e :: l := hk
  have he : Nat.beq e.1 pc = true := he
  simp only [hk, he, hb, cond_true]
theorem RN_step (hmo : KMono clk) {k k' : KF} {e : KEnt} {l : List KEnt} (hk : kfrom prog k.1 = e :: l) (he : Nat.beq e.1 k.1 = true) (hb : kendx e.2.1 = false) {f : Nat} (hs : kdx e.2.1 X (clk f) rgk L0 nL mc ml e.2.2 k.1 k.2.1 k.2.2.1 k.2.2.2.1 k.2.2.2.2.1 k.2.2.2.2.2 = some k') {r : Instr × KF} (hr : RN clk X rgk L0 nL mc ml prog k' r) : RN clk X rgk L0 nL mc ml prog k r := by
  obtain ⟨g, hg⟩ := hr
  refine ⟨max f g + 1, ?_⟩
  obtain ⟨pc, lo, st, w, c, s⟩ := k
  have hk : kfrom prog pc = e :: l := hk
  have he : Nat.beq e.1 pc = true := he
  unfold krx
  simp only [hk, he, hb, cond_true, cond_false]
  have h1 := kdx_le (hmo _ _ (Nat.le_trans (Nat.le_max_left f g) (Nat.le_succ _))) hs
  rw [h1]
  exact krx_le (hmo _ _ (Nat.le_trans (Nat.le_max_right f g) (Nat.le_succ _))) g (max f g) k' r (Nat.le_max_right f g) hg
theorem apwf_up {P : AS} (h : apwf 0 P = true) {n0 : Nat} (hn : n0 ≤ P.1) : apwf n0 P = true := by
  unfold apwf at h ⊢
  rw [Bool.and_eq_true] at h ⊢
  exact ⟨Nat.ble_eq.mpr hn, h.2⟩
theorem arets_ok {n : Nat} {ρ : Nat → Int} {rg : RG} {ig : Instr} {st : List AV} {stk : List KV} (hB : kRG ρ rg) (hS : aSt E n ρ st stk) (h : arets E rg ret ig st = true) : ∃ r, kretx ret ig stk = some r ∧ r.toList = stk := by
  unfold arets at h
  split at h
  · split at h
    · rw [aSt_nil hS]
      exact ⟨none, rfl, rfl⟩
    · cases h
  · split at h
    · rename_i a
      obtain ⟨v, s', rfl, h1, h2⟩ := aSt_cons hS
      rw [aSt_nil h2]
      refine ⟨some v, ?_, rfl⟩
      show (bif kisI v then some (some v) else none) = _
      rw [aisI_ok h h1]
      rfl
    · rename_i a
      obtain ⟨v, s', rfl, h1, h2⟩ := aSt_cons hS
      rw [aSt_nil h2]
      have h := Bool.and_eq_true_iff.mp h
      obtain ⟨x, rfl, x1, x2⟩ := (vOK0 (t := (0, 0, 1)) rfl).mp (afit_ok hB h.2 h1)
      refine ⟨some (.inl (.int x)), ?_, rfl⟩
      have x1 : 0 ≤ x.toInt := x1
      have x2 : x.toInt ≤ 1 := x2
      have : x = 0 ∨ x = 1 := by
        by_cases q : 0 < x.toInt
        · right; exact Int32.toInt_inj.mp (show x.toInt = 1 by omega)
        · left; exact Int32.toInt_inj.mp (show x.toInt = 0 by omega)
      rcases this with rfl | rfl <;> rfl
    · rename_i a
      obtain ⟨v, s', rfl, h1, h2⟩ := aSt_cons hS
      rw [aSt_nil h2]
      refine ⟨some v, ?_, rfl⟩
      show (bif kisI v then some (some v) else none) = _
      rw [aisI_ok h h1]
      rfl
    · cases h
  · split at h
    · rw [aSt_nil hS]
      exact ⟨none, rfl, rfl⟩
    · cases h
  · split at h
    · rename_i a
      obtain ⟨v, s', rfl, h1, h2⟩ := aSt_cons hS
      rw [aSt_nil h2]
      obtain ⟨x, rfl⟩ := aisG_ok h h1
      exact ⟨_, rfl, rfl⟩
    · cases h
  · cases h
theorem aret_ok (hE : kEok E) (hph : phW ph) {k : KF} (hT : kTW E k.2.2.2.1) {ρ ρ0 : Nat → Int} {S : AS} (hG : aGS E ph ρ S k) (hn : n0 ≤ S.1) (hag : ∀ i, i < n0 → ρ i = ρ0 i) (hp : ∀ P ∈ posts, apwf 0 P = true ∧ n0 ≤ P.1) {ig : Instr} (h : aret E n0 posts ret mc ml ig S = true) : Nat.ble k.2.2.2.2.1 mc = true ∧ Nat.ble k.2.2.2.2.2 ml = true ∧ ∃ r, kretx ret ig k.2.2.1 = some r ∧ ∃ P ∈ posts, ∃ ρ' : Nat → Int, (∀ i, i < n0 → ρ' i = ρ0 i) ∧ n0 ≤ P.1 ∧ aGS E ph ρ' P (0, [], r.toList, k.2.2.2.1, 0, 0) := by
  unfold aret at h
  simp only [Bool.and_eq_true] at h
  obtain ⟨h1, h2, h3, h4⟩ := h
  obtain ⟨r, r1, r2⟩ := arets_ok hG.1.2.1 hG.2.2.1 h1
  have c1 := lb0_ok hG.1.2.1 h2
  have c2 := lb0_ok hG.1.2.1 h3
  rw [lev_add, lev_c] at c1 c2
  have k1 := hG.1.2.2.2.1.2
  have k2 := hG.1.2.2.2.2.2
  obtain ⟨P, p1, p2⟩ := List.any_eq_true.mp h4
  obtain ⟨q, hq⟩ := Option.isSome_iff_exists.mp p2
  obtain ⟨A', sg⟩ := q
  have hGa : aGS E ph ρ (S.1, S.2.1, S.2.2.1, [], S.2.2.2.2.1, S.2.2.2.2.2.1, lfc 0, lfc 0) (0, [], k.2.2.1, k.2.2.2.1, 0, 0) := ⟨⟨hG.1.1, hG.1.2.1, hG.1.2.2.1, ⟨lwf_c _ _, by rw [lev_c]; exact Int.le_refl _⟩, ⟨lwf_c _ _, by rw [lev_c]; exact Int.le_refl _⟩⟩, ⟨fun j a (hj : none = some a) => (nomatch hj), rfl⟩, hG.2.2.1, hG.2.2.2⟩
  obtain ⟨ρ1, q1, q2, q3, q4, q5, q6, q7⟩ := amatch_ok (A := (S.1, S.2.1, S.2.2.1, [], S.2.2.2.2.1, S.2.2.2.2.2.1, lfc 0, lfc 0)) (k := (0, [], k.2.2.1, k.2.2.2.1, 0, 0)) hE hph hT hn hGa (apwf_up (hp P p1).1 (hp P p1).2) hq
  refine ⟨Nat.ble_eq.mpr (by omega), Nat.ble_eq.mpr (by omega), r, r1, P, p1, _, fun i hi => ?_, (hp P p1).2, by rw [r2]; exact q7⟩
  have q1 : ∀ i, i < S.1 → ρ1 i = ρ i := q1
  unfold sval
  rw [if_pos hi, q1 i (by omega), hag i hi]
/-- what the cuts promise, below a measure -/
def HC (E : TEnv) (ph : PHI) (clk : KCL) (X : KO) (mods : MOD) (rgk : List (Int × Int)) (L0 nL mc ml : Nat) (ret : Option FieldType) (prog : List KEnt) (posts : List AS) (n0 : Nat) (G : KG) (ρ0 : Nat → Int) (w0 : KW) (b : Option Int) : Prop := ∀ q ∈ G.1, ∀ (ρ : Nat → Int) (k : KF), k.1 = q.1 → (∀ i, i < n0 → ρ i = ρ0 i) → aGS E ph ρ q.2.1 k → kTW E k.2.2.2.1 → kFr E mods w0 k.2.2.2.1 → (∀ z, b = some z → lev ρ q.2.2 < z) → TG E ph clk X mods rgk L0 nL mc ml ret prog posts n0 ρ0 w0 k
theorem acut_ok (hE : kEok E) (hph : phW ph) {k : KF} (hT : kTW E k.2.2.2.1) {ρ ρ0 : Nat → Int} {w0 : KW} {S : AS} (hG : aGS E ph ρ S k) (hn : n0 ≤ S.1) (hag : ∀ i, i < n0 → ρ i = ρ0 i) (hF : kFr E mods w0 k.2.2.2.1) {Mc : Option LF} {b : Option Int} (hb : ∀ z, b = some z → ∃ M, Mc = some M ∧ lwf S.1 M ∧ lev ρ M = z) (hwf : ∀ q ∈ G.1, apwf n0 q.2.1 = true) (hH : HC E ph clk X mods rgk L0 nL mc ml ret prog posts n0 G ρ0 w0 b) : ∀ l : List (Nat × AS × LF), (∀ q ∈ l, q ∈ G.1) → acut E n0 Mc k.1 S l = true → TG E ph clk X mods rgk L0 nL mc ml ret prog posts n0 ρ0 w0 k := by
  intro l
  induction l with
  | nil => intro _ h; cases h
  | cons q l ih =>
    intro hl h
    unfold acut at h
    rcases Bool.or_eq_true_iff.mp h with h | h
    · cases e : Nat.beq q.1 k.1 with
      | false => rw [e] at h; cases h
      | true =>
        rw [e] at h
        simp only [cond_true] at h
        split at h
        · rename_i r hr
          obtain ⟨A', sg⟩ := r
          have hq := hl q List.mem_cons_self
          obtain ⟨ρ1, q1, q2, q3, q4, q5, q6, q7⟩ := amatch_ok hE hph hT hn hG (hwf q hq) hr
          refine hH q hq _ k (kb_t e).symm (fun i hi => ?_) q7 hT hF (fun z hz => ?_)
          · unfold sval
            rw [if_pos hi, q1 i (by omega), hag i hi]
          · obtain ⟨M, m1, m2, m3⟩ := hb z hz
            subst m1
            simp only at h
            split at h
            · rename_i g hg
              have e1 := (ssub_ok q6 ρ1 hg).2
              have e2 := lle_ok q3.1.2.1 q3.1.2.2.1 h
              rw [lev_add, lev_sub, lev_c, lev_ag q1 m2] at e2
              omega
            · cases h
        · cases h
    · exact ih (fun q hq => hl q (List.mem_cons_of_mem _ hq)) h
theorem aproc_ok (hmo : KMono clk) (hE : kEok E) (hW : kEw E) (hph : phW ph) (hCS : ∀ C ∈ CS, kcwf C = true ∧ CV E ph clk d C) (hp : ∀ P ∈ posts, apwf 0 P = true ∧ n0 ≤ P.1) (hwf : ∀ q ∈ G.1, apwf n0 q.2.1 = true) {k : KF} (hT : kTW E k.2.2.2.1) {ρ ρ0 : Nat → Int} {w0 : KW} {S : AS} (hG : aGS E ph ρ S k) (hn : n0 ≤ S.1) (hag : ∀ i, i < n0 → ρ i = ρ0 i) (hF : kFr E mods w0 k.2.2.2.1) (hMw : lwf n0 M0) (hM : lev ρ0 M0 < (d : Int) + 1) (hsc : kScA sc n0 ρ0 rgk L0) {Mc : Option LF} {b : Option Int} (hb : ∀ z, b = some z → ∃ M, Mc = some M ∧ lwf S.1 M ∧ lev ρ M = z) (hH : HC E ph clk X mods rgk L0 nL mc ml ret prog posts n0 G ρ0 w0 b) {first : Bool} {L : List (Nat × AS)} (h : aproc E ph CS mods sc nL mc ml ret prog posts n0 M0 G Mc first k.1 S = some L) : TG E ph clk X mods rgk L0 nL mc ml ret prog posts n0 ρ0 w0 k ∨ ∃ k', (∀ r, RN clk X rgk L0 nL mc ml prog k' r → RN clk X rgk L0 nL mc ml prog k r) ∧ kTW E k'.2.2.2.1 ∧ kFr E mods w0 k'.2.2.2.1 ∧ aNx E ph ρ S.1 L k' := by
  unfold aproc at h
  cases e0 : !first && acut E n0 Mc k.1 S G.1 with
  | true =>
    have e0 := Bool.and_eq_true_iff.mp e0
    exact Or.inl (acut_ok hE hph hT hG hn hag hF hb hwf hH G.1 (fun _ h => h) e0.2)
  | false =>
    rw [e0] at h
    simp only [cond_false] at h
    split at h
    · cases h
    · rename_i e l hk
      obtain ⟨he, h⟩ := kcond_inv h
      split at h
      · rename_i Ss hSs
        obtain ⟨S1, s1, ρ1, s2, s3, s4⟩ := ahints_ok hE hT _ _ _ hSs S List.mem_cons_self ρ hG
        obtain ⟨x, x1, x2⟩ := aflat_ok _ _ h S1 s1
        have hn1 : n0 ≤ S1.1 := Nat.le_trans hn s3
        have hag1 : ∀ i, i < n0 → ρ1 i = ρ0 i := fun i hi => by rw [s2 i (by omega), hag i hi]
        cases hend : kendx e.2.1 with
        | true =>
          rw [hend] at x1
          simp only [cond_true] at x1
          obtain ⟨x1, -⟩ := kcond_inv x1
          obtain ⟨r1, r2, r, r3, r4⟩ := aret_ok hE hph hT s4 hn1 hag1 hp x1
          exact Or.inl ⟨_, k, RN_end hk he hend, r1, r2, hT, hF, r, r3, r4⟩
        | false =>
          rw [hend] at x1
          simp only [cond_false] at x1
          have hM1 : lev ρ1 M0 < (d : Int) + 1 := by rw [lev_ag hag1 hMw]; exact hM
          have hsc1 : kScA sc S1.1 ρ1 rgk L0 := hsc.ag hn1 hag1
          obtain ⟨f, k', f1, f2, q, q1, q2, ρ2, q3, q4, q5⟩ := astp_ok (rgk := rgk) (L0 := L0) (pc := k.1) (lo := k.2.1) (st := k.2.2.1) (w := k.2.2.2.1) (c := k.2.2.2.2.1) (s := k.2.2.2.2.2) hE hW hph hCS hT s4 (lwf_up hMw hn1) hM1 hsc1 x1
          refine Or.inr ⟨k', fun r hr => RN_step hmo hk he hend f1 hr, f2.1, hF.tr f2.2, q, x2 q q1, q2, ρ2, fun i hi => by rw [q3 i (by omega), s2 i hi], Nat.le_trans s3 q4, q5⟩
      · cases h
theorem expl_ok (hmo : KMono clk) (hE : kEok E) (hW : kEw E) (hph : phW ph) (hCS : ∀ C ∈ CS, kcwf C = true ∧ CV E ph clk d C) (hp : ∀ P ∈ posts, apwf 0 P = true ∧ n0 ≤ P.1) (hwf : ∀ q ∈ G.1, apwf n0 q.2.1 = true) {ρ0 : Nat → Int} {w0 : KW} (hMw : lwf n0 M0) (hM : lev ρ0 M0 < (d : Int) + 1) (hsc : kScA sc n0 ρ0 rgk L0) {Mc : Option LF} {b : Option Int} {nc : Nat} {ρc : Nat → Int} (hnc : n0 ≤ nc) (hac : ∀ i, i < n0 → ρc i = ρ0 i) (hb : ∀ z, b = some z → ∃ M, Mc = some M ∧ lwf nc M ∧ lev ρc M = z) (hH : HC E ph clk X mods rgk L0 nL mc ml ret prog posts n0 G ρ0 w0 b) : ∀ (f : Nat) (W : List (Nat × AS)), expl E ph CS mods sc nL mc ml ret prog posts n0 M0 G Mc f W = true → ∀ q ∈ W, ∀ (ρ : Nat → Int) (k : KF), q.1 = k.1 → (∀ i, i < nc → ρ i = ρc i) → nc ≤ q.2.1 → aGS E ph ρ q.2 k → kTW E k.2.2.2.1 → kFr E mods w0 k.2.2.2.1 → TG E ph clk X mods rgk L0 nL mc ml ret prog posts n0 ρ0 w0 k := by
  intro f
  induction f with
  | zero => intro W h; cases h
  | succ f ih =>
    intro W h q hq ρ k e1 hag hn hG hT hF
    unfold expl at h
    cases W with
    | nil => cases hq
    | cons q0 W =>
      simp only at h
      split at h
      · rename_i Ss hSs
        split at h
        · rename_i L hL
          have hW' := ih (L ++ W) h
          cases hq with
          | tail _ hq => exact hW' q (List.mem_append_right _ hq) ρ k e1 hag hn hG hT hF
          | head =>
            obtain ⟨S1, s1, ρ1, s2, s3, s4⟩ := ahints_ok hE hT _ _ _ hSs q.2 List.mem_cons_self ρ hG
            obtain ⟨x, x1, x2⟩ := aflat_ok _ _ hL S1 s1
            rw [e1] at x1
            have hn1 : nc ≤ S1.1 := Nat.le_trans hn s3
            have hag1 : ∀ i, i < nc → ρ1 i = ρc i := fun i hi => by rw [s2 i (by omega), hag i hi]
            rcases aproc_ok hmo (b := b) hE hW hph hCS hp hwf hT s4 (Nat.le_trans hnc hn1) (fun i hi => by rw [hag1 i (by omega), hac i hi]) hF hMw hM hsc (fun z hz => by
              obtain ⟨M, m1, m2, m3⟩ := hb z hz
              exact ⟨M, m1, lwf_up m2 hn1, by rw [lev_ag hag1 m2]; exact m3⟩) hH x1 with t | ⟨k', k1, k2, k3, p, p1, p2, ρ2, p3, p4, p5⟩
            · exact t
            · have t := hW' p (List.mem_append_left _ (x2 p p1)) ρ2 k' p2 (fun i hi => by rw [p3 i (by omega), hag1 i hi]) (Nat.le_trans hn1 p4) p5 k2 k3
              obtain ⟨ig, kk, t1, t2⟩ := t
              exact ⟨ig, kk, k1 _ t1, t2⟩
        · cases h
      · cases h
end EXPL2
end
section
/-! The check of a contract. -/
def aargs : Nat → List AV → List (Nat × AV)
  | _, [] => []
  | i, a :: l => (i, a) :: aargs (bif Nat.beq (acat a) 2 then i + 2 else i + 1) l
def kchk (E : TEnv) (ph : PHI) (CS : List KC) (ms : List KMeth) (fuel : Nat) (C : KC) (G : KG) : Bool := match ms[C.1]? with
  | none => false
  | some (_, _, maxL, ret, mc, ml, prog) => kcwf C && (lwfb C.2.1.1 C.2.2.2.2 && (lle C.2.1.2.1 C.2.1.2.2.1 (lfneg C.2.2.2.2) && (Nat.ble ((C.2.1.2.2.2.2.1.reverse.map acat).sum) maxL && (G.1.all (fun q => apwf C.2.1.1 q.2.1 && (lwfb q.2.1.1 q.2.2 && (lle q.2.1.2.1 q.2.1.2.2.1 (lfneg q.2.2) && (match aproc E ph CS C.2.2.2.1 false maxL mc ml ret prog C.2.2.1 C.2.1.1 C.2.2.2.2 G (some q.2.2) true q.1 q.2.1 with
    | some L => expl E ph CS C.2.2.2.1 false maxL mc ml ret prog C.2.2.1 C.2.1.1 C.2.2.2.2 G (some q.2.2) fuel L
    | none => false)))) && expl E ph CS C.2.2.2.1 false maxL mc ml ret prog C.2.2.1 C.2.1.1 C.2.2.2.2 G none fuel [(0, C.2.1.1, C.2.1.2.1, C.2.1.2.2.1, aargs 0 C.2.1.2.2.2.2.1.reverse, [], C.2.1.2.2.2.2.2.1, lfc 0, lfc 0)]))))
section CHK
variable {E : TEnv} {ph : PHI} {ms : List KMeth} {X : KO} {CS : List KC}
theorem aargs_look {n : Nat} {ρ : Nat → Int} : ∀ (l : List AV) (st : List KV) (i : Nat), aSt E n ρ l st → aLo E n ρ (aargs i l) (kargs i st) := by
  intro l
  induction l with
  | nil =>
    intro st i h
    rw [aSt_nil h]
    exact ⟨fun j a (hj : none = some a) => (nomatch hj), rfl⟩
  | cons a l ih =>
    intro st i h
    obtain ⟨v, s', rfl, h1, h2⟩ := aSt_cons h
    have hc := aR_cat h1
    have e : (bif Nat.beq (acat a) 2 then i + 2 else i + 1) = (if kcat v = 2 then i + 2 else i + 1) := by
      rw [hc]
      by_cases q : acat a = 2
      · rw [if_pos q, kb_r q]; rfl
      · rw [if_neg q, kb_n q]; rfl
    have i1 := ih s' (bif Nat.beq (acat a) 2 then i + 2 else i + 1) h2
    refine ⟨fun j b hj => ?_, ?_⟩
    · have hj : (bif Nat.beq i j then some a else alook (aargs (bif Nat.beq (acat a) 2 then i + 2 else i + 1) l) j) = some b := hj
      show ∃ u, (bif Nat.beq i j then some v else klook (kargs (if kcat v = 2 then i + 2 else i + 1) s') j) = some u ∧ _
      cases e2 : Nat.beq i j with
      | true =>
        rw [e2] at hj
        cases hj
        exact ⟨v, rfl, h1⟩
      | false =>
        rw [e2] at hj
        rw [← e]
        exact i1.1 j b hj
    · show (kokV E.1 v && kokL E.1 (kargs (if kcat v = 2 then i + 2 else i + 1) s')) = true
      rw [aR_ok h1, ← e]
      exact i1.2
theorem aSt_rev {n : Nat} {ρ : Nat → Int} : ∀ (l : List AV) (st : List KV), aSt E n ρ l st → aSt E n ρ l.reverse st.reverse := by
  intro l
  induction l with
  | nil =>
    intro st h
    rw [aSt_nil h]
    trivial
  | cons a l ih =>
    intro st h
    obtain ⟨v, s', rfl, h1, h2⟩ := aSt_cons h
    rw [List.reverse_cons, List.reverse_cons]
    exact aSt_app _ _ (ih s' h2) ⟨h1, trivial⟩
theorem kchk_ok (hE : kEok E) (hW : kEw E) (hph : phW ph) {d fuel : Nat} {C : KC} {G : KG} (hCS : ∀ C ∈ CS, kcwf C = true ∧ CV E ph (kcl ms X d) d C) (h : kchk E ph CS ms fuel C G = true) : CV E ph (kcl ms X (d + 1)) (d + 1) C := by
  intro ρ st w hT hG hM
  unfold kchk at h
  split at h
  · cases h
  · rename_i mn y maxL ret mc ml prog hms
    simp only [Bool.and_eq_true] at h
    obtain ⟨h1, h2, h3, h4, h5, h6⟩ := h
    unfold kcwf at h1
    have h1 := Bool.and_eq_true_iff.mp h1
    have hMw := lwfb_ok h2
    have hp : ∀ P ∈ C.2.2.1, apwf 0 P = true ∧ C.2.1.1 ≤ P.1 := fun P hP => by
      have := Bool.and_eq_true_iff.mp (List.all_eq_true.mp h1.2 P hP)
      exact ⟨this.1, Nat.ble_eq.mp this.2⟩
    have hcuts := fun q hq => List.all_eq_true.mp h5 q hq
    have hwf : ∀ q ∈ G.1, apwf C.2.1.1 q.2.1 = true := fun q hq => (Bool.and_eq_true_iff.mp (hcuts q hq)).1
    have hM : lev ρ C.2.2.2.2 < (d : Int) + 1 := by
      have : ((d + 1 : Nat) : Int) = (d : Int) + 1 := rfl
      omega
    have hsc : kScA false C.2.1.1 ρ ([] : List (Int × Int)) 0 := fun z => (nomatch z)
    have cutM : ∀ m : Nat, HC E ph (kcl ms X d) X C.2.2.2.1 [] 0 maxL mc ml ret prog C.2.2.1 C.2.1.1 G ρ w (some (m : Int)) := by
      intro m
      induction m with
      | zero =>
        intro q hq ρq k e1 e2 e3 e4 e5 e6
        have hc := hcuts q hq
        simp only [Bool.and_eq_true] at hc
        have z := lle_ok e3.1.2.1 e3.1.2.2.1 hc.2.2.1
        rw [lev_neg] at z
        have := e6 0 rfl
        omega
      | succ m ih =>
        intro q hq ρq k e1 e2 e3 e4 e5 e6
        have hc := hcuts q hq
        simp only [Bool.and_eq_true] at hc
        have z := e6 _ rfl
        have hn : C.2.1.1 ≤ q.2.1.1 := by
          have := hc.1
          unfold apwf at this
          exact Nat.ble_eq.mp (Bool.and_eq_true_iff.mp this).1
        have hqw := lwfb_ok hc.2.1
        have hH : HC E ph (kcl ms X d) X C.2.2.2.1 [] 0 maxL mc ml ret prog C.2.2.1 C.2.1.1 G ρ w (some (lev ρq q.2.2)) := fun q' hq' ρ' k' a1 a2 a3 a4 a5 a6 => ih q' hq' ρ' k' a1 a2 a3 a4 a5 (fun y hy => by
          have b1 := a6 _ rfl
          have : y = (m : Int) := (Option.some.inj hy).symm
          have : ((m + 1 : Nat) : Int) = (m : Int) + 1 := rfl
          omega)
        have hlast := hc.2.2.2
        split at hlast
        · rename_i L hL
          rw [← e1] at hL
          rcases aproc_ok (kcl_mono ms X d) (b := some (lev ρq q.2.2)) (rgk := []) (L0 := 0) hE hW hph hCS hp hwf e4 e3 hn e2 e5 hMw hM hsc (fun y hy => ⟨q.2.2, rfl, hqw, Option.some.inj hy⟩) hH hL with t | ⟨k', k1, k2, k3, p, p1, p2, ρ2, p3, p4, p5⟩
          · exact t
          · have t := expl_ok (kcl_mono ms X d) (b := some (lev ρq q.2.2)) (rgk := []) (L0 := 0) hE hW hph hCS hp hwf hMw hM hsc hn e2 (fun y hy => ⟨q.2.2, rfl, hqw, Option.some.inj hy⟩) hH fuel L hlast p p1 ρ2 k' p2 p3 p4 p5 k2 k3
            obtain ⟨ig, kk, t1, t2⟩ := t
            exact ⟨ig, kk, k1 _ t1, t2⟩
        · cases hlast
    have hH : HC E ph (kcl ms X d) X C.2.2.2.1 [] 0 maxL mc ml ret prog C.2.2.1 C.2.1.1 G ρ w none := fun q hq ρ' k' a1 a2 a3 a4 a5 _ => cutM ((lev ρ' q.2.2).toNat + 1) q hq ρ' k' a1 a2 a3 a4 a5 (fun y hy => by
      have : y = (((lev ρ' q.2.2).toNat + 1 : Nat) : Int) := (Option.some.inj hy).symm
      omega)
    have hst := aSt_rev _ _ hG.2.2.1
    have hlo := aargs_look _ _ 0 hst
    have hent : aGS E ph ρ (C.2.1.1, C.2.1.2.1, C.2.1.2.2.1, aargs 0 C.2.1.2.2.2.2.1.reverse, [], C.2.1.2.2.2.2.2.1, lfc 0, lfc 0) (0, kargs 0 st.reverse, [], w, 0, 0) := ⟨⟨hG.1.1, hG.1.2.1, hG.1.2.2.1, ⟨lwf_c _ _, by rw [lev_c]; exact Int.le_refl _⟩, ⟨lwf_c _ _, by rw [lev_c]; exact Int.le_refl _⟩⟩, hlo, trivial, hG.2.2.2⟩
    obtain ⟨ig, k2, ⟨f, t1⟩, t2, t3, t4, t5, r, t6, t7⟩ := expl_ok (kcl_mono ms X d) (b := none) (rgk := []) (L0 := 0) (nc := C.2.1.1) (ρc := ρ) hE hW hph hCS hp hwf hMw hM hsc (Nat.le_refl _) (fun _ _ => rfl) (fun y hy => (nomatch hy)) hH fuel _ h6 _ List.mem_cons_self ρ (0, kargs 0 st.reverse, [], w, 0, 0) rfl (fun _ _ => rfl) (Nat.le_refl _) hent hT (kFr.rf _ _ _)
    refine ⟨r, k2.2.2.2.1, ⟨f, ?_⟩, t4, t5, t7⟩
    obtain ⟨pc2, lo2, st2, w2, c2, s2⟩ := k2
    have t2 : Nat.ble c2 mc = true := t2
    have t3 : Nat.ble s2 ml = true := t3
    have t6 : kretx ret ig st2 = some r := t6
    have o1 : Nat.ble (kcats st.reverse) maxL = true := by
      rw [(aSt_ok _ _ hst).2]
      exact h4
    have o2 : Nat.blt (kfr 0 w) 1000000 = true := by
      rw [hT.1]
      exact Nat.ble_eq.mpr hE.1
    show kcallx ms X f (d + 1) C.1 st.reverse w = _
    have t1 : krx (kcallx ms X f d) X [] 0 maxL mc ml prog f (0, kargs 0 st.reverse, [], w, 0, 0) = some (ig, pc2, lo2, st2, w2, c2, s2) := t1
    unfold kcallx
    simp only [hms, o1, o2, t1, t2, t3, t6, Bool.and_self, cond_true]
/-- all contracts, at every depth -/
theorem kcs_ok (hE : kEok E) (hwf : ∀ C ∈ CS, kcwf C = true ∧ lle C.2.1.2.1 C.2.1.2.2.1 (lfneg C.2.2.2.2) = true) (h : ∀ d, (∀ C ∈ CS, kcwf C = true ∧ CV E ph (kcl ms X d) d C) → ∀ C ∈ CS, CV E ph (kcl ms X (d + 1)) (d + 1) C) : ∀ d, ∀ C ∈ CS, kcwf C = true ∧ CV E ph (kcl ms X d) d C := by
  intro d
  induction d with
  | zero =>
    intro C hC
    refine ⟨(hwf C hC).1, fun ρ st w _ hG hM => ?_⟩
    have z := lle_ok hG.1.2.1 hG.1.2.2.1 (hwf C hC).2
    rw [lev_neg] at z
    have : ((0 : Nat) : Int) = 0 := rfl
    omega
  | succ d ih => exact fun C hC => ⟨(hwf C hC).1, h d ih C hC⟩
end CHK
end
section
/-! The count of a number's bits, by hand: each turn takes one away. -/
def qBitsP : List KEnt := [(0, .iconst 0, (0, 0, 0, 0, 0)), (1, .istore_n 1, (0, 0, 0, 0, 0)), (2, .iload_n 0, (0, 0, 0, 0, 0)), (3, .istore_n 2, (0, 0, 0, 0, 0)), (4, .iload_n 2, (0, 0, 0, 0, 0)), (5, .ifCond .eq 15, (0, 0, 0, 0, 0)), (8, .iinc 1 1, (0, 0, 0, 0, 0)), (11, .iload_n 2, (0, 0, 0, 0, 0)), (12, .iload_n 2, (0, 0, 0, 0, 0)), (13, .iconst 1, (0, 0, 0, 0, 0)), (14, .isub, (0, 0, 0, 0, 0)), (15, .iand, (0, 0, 0, 0, 0)), (16, .istore_n 2, (0, 0, 0, 0, 0)), (17, .goto (-13), (0, 0, 0, 0, 0)), (20, .iload_n 1, (0, 0, 0, 0, 0)), (21, .ireturn, (0, 0, 0, 0, 0))]
theorem bits_and {s : Int32} (h : s ≠ 0) : (s &&& (s - 1)).toUInt32.toNat < s.toUInt32.toNat := by
  have e : (s &&& (s - 1)).toUInt32 = s.toUInt32 &&& (s.toUInt32 - 1) := rfl
  have hu : s.toUInt32.toNat ≠ 0 := fun q => h (by
    have : s.toUInt32 = 0 := UInt32.toNat_inj.mp q
    have h2 : s.toUInt32 = (0 : Int32).toUInt32 := this
    exact congrArg Int32.ofUInt32 h2)
  rw [e, UInt32.toNat_and]
  have h1 : (s.toUInt32 - 1).toNat = s.toUInt32.toNat - 1 := by
    rw [UInt32.toNat_sub_of_le]
    · rfl
    · exact UInt32.le_iff_toNat_le.mpr (by show 1 ≤ _; omega)
  have h2 := Nat.and_le_right (n := s.toUInt32.toNat) (m := (s.toUInt32 - 1).toNat)
  omega
section BITS
variable {ms : List KMeth} {X : KO} {d : Nat} {w : KW}
def qBL (x c s : Int32) : List (Nat × KV) := [(2, .inl (.int s)), (1, .inl (.int c)), (0, .inl (.int x))]
theorem bits_loop : ∀ (m : Nat) (x c s : Int32), s.toUInt32.toNat = m → ∃ r lo, RN (kcl ms X d) X [] 0 3 0 0 qBitsP (4, qBL x c s, [], w, 0, 0) (.ireturn, (21, lo, [.inl (.int r)], w, 0, 0)) := by
  intro m
  induction m using Nat.strongRecOn with
  | _ m ih =>
    intro x c s hm
    by_cases h0 : s = 0
    · subst h0
      refine ⟨c, qBL x c 0, ?_⟩
      refine RN_step (kcl_mono ms X d) (f := 0) (k' := (5, qBL x c 0, [.inl (.int 0)], w, 0, 0)) rfl rfl rfl rfl ?_
      refine RN_step (kcl_mono ms X d) (f := 0) (k' := (20, qBL x c 0, [], w, 0, 0)) rfl rfl rfl rfl ?_
      refine RN_step (kcl_mono ms X d) (f := 0) (k' := (21, qBL x c 0, [.inl (.int c)], w, 0, 0)) rfl rfl rfl rfl ?_
      exact RN_end (e := (21, .ireturn, (0, 0, 0, 0, 0))) (l := []) rfl rfl rfl
    · obtain ⟨r, lo, hr⟩ := ih _ (by rw [← hm]; exact bits_and h0) x (c + 1) (s &&& (s - 1)) rfl
      refine ⟨r, lo, ?_⟩
      have hb : kdx (.ifCond .eq 15) X (kcallx ms X 0 d) [] 0 3 0 0 (0, 0, 0, 0, 0) 5 (qBL x c s) [.inl (.int s)] w 0 0 = some (8, qBL x c s, [], w, 0, 0) := by
        show (bif true then kbr (ktg 5 15) (keq [] (.inl (.int s)) (.inl (.int 0))) 5 (qBL x c s) [] w 0 0 else none) = _
        rw [keq_int, decide_eq_false h0]
        rfl
      refine RN_step (kcl_mono ms X d) (f := 0) (k' := (5, qBL x c s, [.inl (.int s)], w, 0, 0)) rfl rfl rfl rfl ?_
      refine RN_step (kcl_mono ms X d) (f := 0) (k' := (8, qBL x c s, [], w, 0, 0)) rfl rfl rfl hb ?_
      refine RN_step (kcl_mono ms X d) (f := 0) (k' := (11, [(1, .inl (.int (c + 1))), (2, .inl (.int s)), (0, .inl (.int x))], [], w, 0, 0)) rfl rfl rfl rfl ?_
      refine RN_step (kcl_mono ms X d) (f := 0) (k' := (12, [(1, .inl (.int (c + 1))), (2, .inl (.int s)), (0, .inl (.int x))], [.inl (.int s)], w, 0, 0)) rfl rfl rfl rfl ?_
      refine RN_step (kcl_mono ms X d) (f := 0) (k' := (13, [(1, .inl (.int (c + 1))), (2, .inl (.int s)), (0, .inl (.int x))], [.inl (.int s), .inl (.int s)], w, 0, 0)) rfl rfl rfl rfl ?_
      refine RN_step (kcl_mono ms X d) (f := 0) (k' := (14, [(1, .inl (.int (c + 1))), (2, .inl (.int s)), (0, .inl (.int x))], [.inl (.int 1), .inl (.int s), .inl (.int s)], w, 0, 0)) rfl rfl rfl rfl ?_
      refine RN_step (kcl_mono ms X d) (f := 0) (k' := (15, [(1, .inl (.int (c + 1))), (2, .inl (.int s)), (0, .inl (.int x))], [.inl (.int (s - 1)), .inl (.int s)], w, 0, 0)) rfl rfl rfl rfl ?_
      refine RN_step (kcl_mono ms X d) (f := 0) (k' := (16, [(1, .inl (.int (c + 1))), (2, .inl (.int s)), (0, .inl (.int x))], [.inl (.int (s &&& (s - 1)))], w, 0, 0)) rfl rfl rfl rfl ?_
      refine RN_step (kcl_mono ms X d) (f := 0) (k' := (17, qBL x (c + 1) (s &&& (s - 1)), [], w, 0, 0)) rfl rfl rfl rfl ?_
      refine RN_step (kcl_mono ms X d) (f := 0) (k' := (4, qBL x (c + 1) (s &&& (s - 1)), [], w, 0, 0)) rfl rfl rfl rfl ?_
      exact hr
theorem bits_run (x : Int32) : ∃ r lo, RN (kcl ms X d) X [] 0 3 0 0 qBitsP (0, [(0, .inl (.int x))], [], w, 0, 0) (.ireturn, (21, lo, [.inl (.int r)], w, 0, 0)) := by
  obtain ⟨r, lo, hr⟩ := bits_loop (ms := ms) (X := X) (d := d) (w := w) _ x 0 x rfl
  refine ⟨r, lo, ?_⟩
  refine RN_step (kcl_mono ms X d) (f := 0) (k' := (1, [(0, .inl (.int x))], [.inl (.int 0)], w, 0, 0)) rfl rfl rfl rfl ?_
  refine RN_step (kcl_mono ms X d) (f := 0) (k' := (2, [(1, .inl (.int 0)), (0, .inl (.int x))], [], w, 0, 0)) rfl rfl rfl rfl ?_
  refine RN_step (kcl_mono ms X d) (f := 0) (k' := (3, [(1, .inl (.int 0)), (0, .inl (.int x))], [.inl (.int x)], w, 0, 0)) rfl rfl rfl rfl ?_
  refine RN_step (kcl_mono ms X d) (f := 0) (k' := (4, qBL x 0 x, [], w, 0, 0)) rfl rfl rfl rfl ?_
  exact hr
/-- its contract: any number in, any number out -/
theorem bits_cv {E : TEnv} {ph : PHI} {rg0 : RG} {mid : Nat} {mn : MethodName} {y : ByteArray} {mods : MOD} {M : LF} (hE : kEok E) (hms : ms[mid]? = some (mn, y, 3, some .int, 0, 0, qBitsP)) : CV E ph (kcl ms X (d + 1)) (d + 1) (mid, (1, rg0, [], [], [.inl (0, [(0, 1)])], [], (0, []), (0, [])), [(2, [(1, (-2147483648, 2147483647))], [], [], [.inl (0, [(1, 1)])], [], (0, []), (0, []))], mods, M) := by
  intro ρ st w hT hG _
  obtain ⟨v, s', rfl, h1, h2⟩ := aSt_cons hG.2.2.1
  rw [aSt_nil h2]
  have hv := h1.2
  subst hv
  obtain ⟨r, lo, f, hr⟩ := bits_run (ms := ms) (X := X) (d := d) (w := w) (Int32.ofInt (lev ρ (0, [(0, 1)])))
  refine ⟨some (.inl (.int r)), w, ⟨f, ?_⟩, hT, kFr.rf _ _ _, _, List.mem_cons_self, fun i => if i = 1 then r.toInt else ρ i, fun i hi => if_neg (by have hi : i < 1 := hi; omega), by show 1 ≤ 2; omega, ⟨?_, ?_, ?_, ?_, ?_⟩, ⟨fun j a (hj : none = some a) => (nomatch hj), rfl⟩, ⟨⟨?_, ?_⟩, trivial⟩, fun e he => (nomatch he), fun p hp i hi => ?_⟩
  · have o2 : Nat.blt (kfr 0 w) 1000000 = true := by
      rw [hT.1]
      exact Nat.ble_eq.mpr hE.1
    have hr : krx (kcallx ms X f d) X [] 0 3 0 0 qBitsP f (0, kargs 0 [.inl (.int (Int32.ofInt (lev ρ (0, [(0, 1)]))))], [], w, 0, 0) = some (.ireturn, 21, lo, [.inl (.int r)], w, 0, 0) := hr
    show kcallx ms X f (d + 1) mid [.inl (.int (Int32.ofInt (lev ρ (0, [(0, 1)]))))] w = _
    unfold kcallx
    simp only [hms, o2, hr, Bool.and_true]
    rfl
  · intro q hq
    cases hq with
    | head => show 1 < 2; omega
    | tail _ hq => cases hq
  · intro q hq
    cases hq with
    | head =>
      show (-2147483648 : Int) ≤ (if (1 : Nat) = 1 then r.toInt else ρ 1) ∧ (if (1 : Nat) = 1 then r.toInt else ρ 1) ≤ 2147483647
      rw [if_pos rfl]
      exact ⟨i32_lo r, i32_hi r⟩
    | tail _ hq => cases hq
  · intro f hf
    cases hf
  · exact ⟨fun t ht => (nomatch ht), Int.le_refl _⟩
  · exact ⟨fun t ht => (nomatch ht), Int.le_refl _⟩
  · intro t ht
    cases ht with
    | head => show 1 < 2; omega
    | tail _ ht => cases ht
  · show (Sum.inl (Value.int r) : KV) = Sum.inl (Value.int (Int32.ofInt (0 + (1 * (if (1 : Nat) = 1 then r.toInt else ρ 1) + 0))))
    rw [if_pos rfl, show (0 + (1 * r.toInt + 0) : Int) = r.toInt by omega, i32_to]
  · rcases hG.2.2.2.2 p hp i hi with ⟨e, e1, -⟩ | q
    · cases e1
    · exact Or.inr q
end BITS
end
