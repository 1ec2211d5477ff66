/-! The check of what may throw. -/
section CHKT
variable {E : TEnv} {ph : PHI} {ms : List KMeth} {X : KO} {CS : List KC}
theorem kchkT_ok {clk : KCL} (hmo : KMono clk) (hE : kEok E) (hW : kEw E) (hph : phW ph) {d fuel : Nat} {C : KC} {G : KG} {mn : MethodName} {y : ByteArray} {maxL mc ml : Nat} {ret : Option FieldType} {prog : List KEnt} (hms : ms[C.1]? = some (mn, y, maxL, ret, mc, ml, prog)) (hCS : ∀ C ∈ CS, kcwf C = true ∧ CV E ph clk d C) (h : kchk E ph CS ms fuel C G = true) {ρ : Nat → Int} {st : List KV} {w : KW} (hT : kTW E w) (hG : aGS E ph ρ C.2.1 (0, [], st, w, 0, 0)) (hM : lev ρ C.2.2.2.2 < (d : Int) + 1) : Nat.ble (kcats st.reverse) maxL = true ∧ TG E ph clk X C.2.2.2.1 [] 0 maxL mc ml ret prog C.2.2.1 C.2.1.1 ρ w (0, kargs 0 st.reverse, [], w, 0, 0) := by
  unfold kchk at h
  rw [hms] at h
  · simp only [Bool.and_eq_true] at h
    obtain ⟨h1, h2, h3, h4, h5, h6⟩ := h
    unfold kcwf at h1
    have h1 := Bool.and_eq_true_iff.mp h1
    have hMw := lwfb_ok h2
    have hp : ∀ P ∈ C.2.2.1, apwf 0 P = true ∧ C.2.1.1 ≤ P.1 := fun P hP => by
      have := Bool.and_eq_true_iff.mp (List.all_eq_true.mp h1.2 P hP)
      exact ⟨this.1, Nat.ble_eq.mp this.2⟩
    have hcuts := fun q hq => List.all_eq_true.mp h5 q hq
    have hwf : ∀ q ∈ G.1, apwf C.2.1.1 q.2.1 = true := fun q hq => (Bool.and_eq_true_iff.mp (hcuts q hq)).1
    have hsc : kScA false C.2.1.1 ρ ([] : List (Int × Int)) 0 := fun z => (nomatch z)
    have cutM : ∀ m : Nat, HC E ph clk X C.2.2.2.1 [] 0 maxL mc ml ret prog C.2.2.1 C.2.1.1 G ρ w (some (m : Int)) := by
      intro m
      induction m with
      | zero =>
        intro q hq ρq k e1 e2 e3 e4 e5 e6
        have hc := hcuts q hq
        simp only [Bool.and_eq_true] at hc
        have z := lle_ok e3.1.2.1 e3.1.2.2.1 hc.2.2.1
        rw [lev_neg] at z
        have := e6 0 rfl
        omega
      | succ m ih =>
        intro q hq ρq k e1 e2 e3 e4 e5 e6
        have hc := hcuts q hq
        simp only [Bool.and_eq_true] at hc
        have z := e6 _ rfl
        have hn : C.2.1.1 ≤ q.2.1.1 := by
          have := hc.1
          unfold apwf at this
          exact Nat.ble_eq.mp (Bool.and_eq_true_iff.mp this).1
        have hqw := lwfb_ok hc.2.1
        have hH : HC E ph clk X C.2.2.2.1 [] 0 maxL mc ml ret prog C.2.2.1 C.2.1.1 G ρ w (some (lev ρq q.2.2)) := fun q' hq' ρ' k' a1 a2 a3 a4 a5 a6 => ih q' hq' ρ' k' a1 a2 a3 a4 a5 (fun y hy => by
          have b1 := a6 _ rfl
          have : y = (m : Int) := (Option.some.inj hy).symm
          have : ((m + 1 : Nat) : Int) = (m : Int) + 1 := rfl
          omega)
        have hlast := hc.2.2.2
        split at hlast
        · rename_i L hL
          rw [← e1] at hL
          rcases aproc_ok hmo (b := some (lev ρq q.2.2)) (rgk := []) (L0 := 0) hE hW hph hCS hp hwf e4 e3 hn e2 e5 hMw hM hsc (fun y hy => ⟨q.2.2, rfl, hqw, Option.some.inj hy⟩) hH hL with t | ⟨k', k1, k2, k3, p, p1, p2, ρ2, p3, p4, p5⟩
          · exact t
          · have t := expl_ok hmo (b := some (lev ρq q.2.2)) (rgk := []) (L0 := 0) hE hW hph hCS hp hwf hMw hM hsc hn e2 (fun y hy => ⟨q.2.2, rfl, hqw, Option.some.inj hy⟩) hH fuel L hlast p p1 ρ2 k' p2 p3 p4 p5 k2 k3
            obtain ⟨ig, kk, t1, t2⟩ := t
            exact ⟨ig, kk, k1 _ t1, t2⟩
        · cases hlast
    have hH : HC E ph clk X C.2.2.2.1 [] 0 maxL mc ml ret prog C.2.2.1 C.2.1.1 G ρ w none := fun q hq ρ' k' a1 a2 a3 a4 a5 _ => cutM ((lev ρ' q.2.2).toNat + 1) q hq ρ' k' a1 a2 a3 a4 a5 (fun y hy => by
      have : y = (((lev ρ' q.2.2).toNat + 1 : Nat) : Int) := (Option.some.inj hy).symm
      omega)
    have hst := aSt_rev _ _ hG.2.2.1
    have hlo := aargs_look _ _ 0 hst
    have hent : aGS E ph ρ (C.2.1.1, C.2.1.2.1, C.2.1.2.2.1, aargs 0 C.2.1.2.2.2.2.1.reverse, [], C.2.1.2.2.2.2.2.1, lfc 0, lfc 0) (0, kargs 0 st.reverse, [], w, 0, 0) := ⟨⟨hG.1.1, hG.1.2.1, hG.1.2.2.1, ⟨lwf_c _ _, by rw [lev_c]; exact Int.le_refl _⟩, ⟨lwf_c _ _, by rw [lev_c]; exact Int.le_refl _⟩⟩, hlo, trivial, hG.2.2.2⟩
    refine ⟨?_, expl_ok hmo (b := none) (rgk := []) (L0 := 0) (nc := C.2.1.1) (ρc := ρ) hE hW hph hCS hp hwf hMw hM hsc (Nat.le_refl _) (fun _ _ => rfl) (fun y hy => (nomatch hy)) hH fuel _ h6 _ List.mem_cons_self ρ (0, kargs 0 st.reverse, [], w, 0, 0) rfl (fun _ _ => rfl) (Nat.le_refl _) hent hT (kFr.rf _ _ _)⟩
    rw [(aSt_ok _ _ hst).2]
    exact h4
end CHKT
