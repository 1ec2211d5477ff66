/-! A call by a contract, in the small machine. -/
def kcwf (C : KC) : Bool := apwf 0 C.2.1 && C.2.2.1.all (fun P => apwf 0 P && Nat.ble C.2.1.1 P.1)
section CALL2
variable {E : TEnv} {ph : PHI}
theorem aposts_ok {sg : SG} {n0 : Nat} {A : AS} {mods : MOD} {lo : List (Nat × AV)} {rest : List AV} {cB sB : LF} : ∀ (l : List AS) (L : List AS), aposts E sg n0 A mods lo rest cB sB l = some L → ∀ P ∈ l, ∃ a, apost E sg n0 A mods lo rest cB sB P = some a ∧ ∀ S ∈ a, S ∈ L := by
  intro l
  induction l with
  | nil => intro L _ P hP; cases hP
  | cons P0 l ih =>
    intro L h P hP
    unfold aposts at h
    split at h
    · rename_i a b ha hb
      cases h
      cases hP with
      | head => exact ⟨a, ha, fun S hS => List.mem_append_left _ hS⟩
      | tail _ hP =>
        obtain ⟨a', h1, h2⟩ := ih b hb P hP
        exact ⟨a', h1, fun S hS => List.mem_append_right _ (h2 S hS)⟩
    · cases h
theorem atry_ok {CS : List KC} {M0 : LF} {mods : MOD} {mid : Nat} {A : AS} {C : KC} {q : AS × SG} : ∀ (l : List Nat), atry E CS M0 mods mid A l = some (C, q) → C ∈ CS ∧ C.1 = mid ∧ kmsub C.2.2.2.1 mods = true ∧ amatch E 0 A C.2.1 = some q ∧ ∃ g, ssub 0 q.2 C.2.2.2.2 = some g ∧ lle q.1.2.1 q.1.2.2.1 (lfadd (lfsub g M0) (lfc 1)) = true := by
  intro l
  induction l with
  | nil => intro h; cases h
  | cons i l ih =>
    intro h
    unfold atry at h
    split at h
    · rename_i C0 h0
      cases e : Nat.beq C0.1 mid && kmsub C0.2.2.2.1 mods with
      | false => rw [e] at h; exact ih h
      | true =>
        rw [e] at h
        have e := Bool.and_eq_true_iff.mp e
        simp only [cond_true] at h
        split at h
        · rename_i q0 hq0
          split at h
          · rename_i g hg
            cases e2 : lle q0.1.2.1 q0.1.2.2.1 (lfadd (lfsub g M0) (lfc 1)) with
            | false => rw [e2] at h; exact ih h
            | true =>
              rw [e2] at h
              cases h
              exact ⟨List.mem_of_getElem? h0, kb_t e.1, e.2, hq0, g, hg, e2⟩
          · exact ih h
        · exact ih h
    · exact ih h
theorem acall_ok {clk : KCL} {d : Nat} (hE : kEok E) (hph : phW ph) {CS : List KC} (hCS : ∀ C ∈ CS, kcwf C = true ∧ CV E ph clk d C) {ρ : Nat → Int} {S : AS} {pc0 : Nat} {lo : List (Nat × KV)} {st : List KV} {w : KW} {c s : Nat} (hT : kTW E w) (hG : aGS E ph ρ S (pc0, lo, st, w, c, s)) {cids : List Nat} {M0 : LF} (hMw : lwf S.1 M0) (hM : lev ρ M0 < (d : Int) + 1) {mods : MOD} {mid tot bc bs Rc Rs pc : Nat} {L : List (Nat × AS)} (h : acall E CS cids M0 mods mid tot bc bs Rc Rs pc S = some L) : ∃ r w' f, clk f mid (st.take tot).reverse w = some (r, w') ∧ tot ≤ st.length ∧ kokL (kfr 0 w) lo = true ∧ kokS (kfr 0 w) (st.drop tot) = true ∧ Nat.ble (c + bc) Rc = true ∧ Nat.ble (s + bs) Rs = true ∧ Nat.ble (kcats (st.drop tot)) 8 = true ∧ kTW E w' ∧ kFr E mods w w' ∧ aNx E ph ρ S.1 L (pc + 3, lo, r.toList ++ st.drop tot, w', c + bc, s + bs) := by
  unfold acall at h
  obtain ⟨hb, h⟩ := kcond_inv h
  simp only [Bool.and_eq_true] at hb
  obtain ⟨b1, b2, b3, b4⟩ := hb
  obtain ⟨t1, t2, t3⟩ := aSt_cut tot _ _ hG.2.2.1
  have t3 : S.2.2.2.2.1.length = st.length := t3
  have c1 := lb0_ok hG.1.2.1 b2
  have c2 := lb0_ok hG.1.2.1 b3
  rw [lev_add, lev_add, lev_c, lev_c] at c1 c2
  have k1 := hG.1.2.2.2.1
  have k2 := hG.1.2.2.2.2
  have k1 : lwf S.1 S.2.2.2.2.2.2.1 ∧ (c : Int) ≤ lev ρ S.2.2.2.2.2.2.1 := k1
  have k2 : lwf S.1 S.2.2.2.2.2.2.2 ∧ (s : Int) ≤ lev ρ S.2.2.2.2.2.2.2 := k2
  obtain ⟨ok1, ok2⟩ := aSt_ok _ _ t2
  split at h
  · rename_i q hq
    obtain ⟨C, A', sg⟩ := q
    obtain ⟨m1, m2, m3, m4, g, m5, m6⟩ := atry_ok cids hq
    have hC := hCS C m1
    have hwf := hC.1
    unfold kcwf at hwf
    have hwf := Bool.and_eq_true_iff.mp hwf
    have hGa : aGS E ph ρ (S.1, S.2.1, S.2.2.1, [], S.2.2.2.2.1.take tot, S.2.2.2.2.2.1, lfc 0, lfc 0) (0, [], st.take tot, w, 0, 0) := ⟨⟨hG.1.1, hG.1.2.1, hG.1.2.2.1, ⟨lwf_c _ _, by rw [lev_c]; exact Int.le_refl _⟩, ⟨lwf_c _ _, by rw [lev_c]; exact Int.le_refl _⟩⟩, ⟨fun j a (hj : none = some a) => (nomatch hj), rfl⟩, t1, hG.2.2.2⟩
    obtain ⟨ρ1, r1, r2, r3, r4, r5, r6, r7⟩ := amatch_ok (k := (0, [], st.take tot, w, 0, 0)) hE hph hT (Nat.zero_le _) hGa hwf.1 m4
    have r1 : ∀ i, i < S.1 → ρ1 i = ρ i := r1
    have r2 : S.1 ≤ A'.1 := r2
    obtain ⟨-, s2⟩ := ssub_ok r6 ρ1 m5
    have s3 := lle_ok r3.1.2.1 r3.1.2.2.1 m6
    rw [lev_add, lev_sub, lev_c, lev_ag r1 hMw, s2] at s3
    obtain ⟨r, w', ⟨f, u1⟩, u2, u3, P, u4, ρp, u5, u6, u7⟩ := hC.2 _ _ _ hT r7 (by omega)
    split at h
    · rename_i L1 hL1
      cases h
      obtain ⟨a, a1, a2⟩ := aposts_ok _ _ hL1 P u4
      have hwP := List.all_eq_true.mp hwf.2 P u4
      have hwP := Bool.and_eq_true_iff.mp hwP
      obtain ⟨S', v1, ρ2, v2, v3, v4⟩ := apost_ok (n := S.1) (ρ := ρ) (c := c + bc) (s := s + bs) (lok := lo) (restk := st.drop tot) hT u3 hph r2 r1 ⟨r3.1.1, r3.1.2.1, r3.1.2.2.1, r3.2.2.2.1⟩ r6 hwP.1 u6 u5 u7 hG.2.1 t2 ⟨lwf_add k1.1 (lwf_c _ _), by rw [lev_add, lev_c]; omega⟩ ⟨lwf_add k2.1 (lwf_c _ _), by rw [lev_add, lev_c]; omega⟩ a1
      rw [m2] at u1
      refine ⟨r, w', f, ?_, ?_, ?_, ?_, Nat.ble_eq.mpr (by omega), Nat.ble_eq.mpr (by omega), ?_, u2, u3.sub m3, ?_⟩
      · exact u1
      · rw [← t3]; exact Nat.ble_eq.mp b1
      · rw [hT.1]; exact hG.2.1.2
      · rw [hT.1]; exact ok1
      · rw [ok2]; exact b4
      · exact ⟨(pc + 3, S'), List.mem_map.mpr ⟨S', a2 S' v1, rfl⟩, rfl, ρ2, v2, v3, v4⟩
    · cases h
  · cases h
end CALL2
