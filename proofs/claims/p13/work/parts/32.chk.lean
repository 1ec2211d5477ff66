/-! The check of a contract. -/
def aargs : Nat → List AV → List (Nat × AV)
  | _, [] => []
  | i, a :: l => (i, a) :: aargs (bif Nat.beq (acat a) 2 then i + 2 else i + 1) l
def kchk (E : TEnv) (ph : PHI) (CS : List KC) (ms : List KMeth) (fuel : Nat) (C : KC) (G : KG) : Bool := match ms[C.1]? with
  | none => false
  | some (_, _, maxL, ret, mc, ml, prog) => kcwf C && (lwfb C.2.1.1 C.2.2.2.2 && (lle C.2.1.2.1 C.2.1.2.2.1 (lfneg C.2.2.2.2) && (Nat.ble ((C.2.1.2.2.2.2.1.reverse.map acat).sum) maxL && (G.1.all (fun q => apwf C.2.1.1 q.2.1 && (lwfb q.2.1.1 q.2.2 && (lle q.2.1.2.1 q.2.1.2.2.1 (lfneg q.2.2) && (match aproc E ph CS C.2.2.2.1 false maxL mc ml ret prog C.2.2.1 C.2.1.1 C.2.2.2.2 G (some q.2.2) true q.1 q.2.1 with
    | some L => expl E ph CS C.2.2.2.1 false maxL mc ml ret prog C.2.2.1 C.2.1.1 C.2.2.2.2 G (some q.2.2) fuel L
    | none => false)))) && expl E ph CS C.2.2.2.1 false maxL mc ml ret prog C.2.2.1 C.2.1.1 C.2.2.2.2 G none fuel [(0, C.2.1.1, C.2.1.2.1, C.2.1.2.2.1, aargs 0 C.2.1.2.2.2.2.1.reverse, [], C.2.1.2.2.2.2.2.1, lfc 0, lfc 0)]))))
section CHK
variable {E : TEnv} {ph : PHI} {ms : List KMeth} {X : KO} {CS : List KC}
theorem aargs_look {n : Nat} {ρ : Nat → Int} : ∀ (l : List AV) (st : List KV) (i : Nat), aSt E n ρ l st → aLo E n ρ (aargs i l) (kargs i st) := by
  intro l
  induction l with
  | nil =>
    intro st i h
    rw [aSt_nil h]
    exact ⟨fun j a (hj : none = some a) => (nomatch hj), rfl⟩
  | cons a l ih =>
    intro st i h
    obtain ⟨v, s', rfl, h1, h2⟩ := aSt_cons h
    have hc := aR_cat h1
    have e : (bif Nat.beq (acat a) 2 then i + 2 else i + 1) = (if kcat v = 2 then i + 2 else i + 1) := by
      rw [hc]
      by_cases q : acat a = 2
      · rw [if_pos q, kb_r q]; rfl
      · rw [if_neg q, kb_n q]; rfl
    have i1 := ih s' (bif Nat.beq (acat a) 2 then i + 2 else i + 1) h2
    refine ⟨fun j b hj => ?_, ?_⟩
    · have hj : (bif Nat.beq i j then some a else alook (aargs (bif Nat.beq (acat a) 2 then i + 2 else i + 1) l) j) = some b := hj
      show ∃ u, (bif Nat.beq i j then some v else klook (kargs (if kcat v = 2 then i + 2 else i + 1) s') j) = some u ∧ _
      cases e2 : Nat.beq i j with
      | true =>
        rw [e2] at hj
        cases hj
        exact ⟨v, rfl, h1⟩
      | false =>
        rw [e2] at hj
        rw [← e]
        exact i1.1 j b hj
    · show (kokV E.1 v && kokL E.1 (kargs (if kcat v = 2 then i + 2 else i + 1) s')) = true
      rw [aR_ok h1, ← e]
      exact i1.2
theorem aSt_rev {n : Nat} {ρ : Nat → Int} : ∀ (l : List AV) (st : List KV), aSt E n ρ l st → aSt E n ρ l.reverse st.reverse := by
  intro l
  induction l with
  | nil =>
    intro st h
    rw [aSt_nil h]
    trivial
  | cons a l ih =>
    intro st h
    obtain ⟨v, s', rfl, h1, h2⟩ := aSt_cons h
    rw [List.reverse_cons, List.reverse_cons]
    exact aSt_app _ _ (ih s' h2) ⟨h1, trivial⟩
theorem kchk_ok (hE : kEok E) (hW : kEw E) (hph : phW ph) {d fuel : Nat} {C : KC} {G : KG} (hCS : ∀ C ∈ CS, kcwf C = true ∧ CV E ph (kcl ms X d) d C) (h : kchk E ph CS ms fuel C G = true) : CV E ph (kcl ms X (d + 1)) (d + 1) C := by
  intro ρ st w hT hG hM
  unfold kchk at h
  split at h
  · cases h
  · rename_i mn y maxL ret mc ml prog hms
    simp only [Bool.and_eq_true] at h
    obtain ⟨h1, h2, h3, h4, h5, h6⟩ := h
    unfold kcwf at h1
    have h1 := Bool.and_eq_true_iff.mp h1
    have hMw := lwfb_ok h2
    have hp : ∀ P ∈ C.2.2.1, apwf 0 P = true ∧ C.2.1.1 ≤ P.1 := fun P hP => by
      have := Bool.and_eq_true_iff.mp (List.all_eq_true.mp h1.2 P hP)
      exact ⟨this.1, Nat.ble_eq.mp this.2⟩
    have hcuts := fun q hq => List.all_eq_true.mp h5 q hq
    have hwf : ∀ q ∈ G.1, apwf C.2.1.1 q.2.1 = true := fun q hq => (Bool.and_eq_true_iff.mp (hcuts q hq)).1
    have hM : lev ρ C.2.2.2.2 < (d : Int) + 1 := by
      have : ((d + 1 : Nat) : Int) = (d : Int) + 1 := rfl
      omega
    have hsc : kScA false C.2.1.1 ρ ([] : List (Int × Int)) 0 := fun z => (nomatch z)
    have cutM : ∀ m : Nat, HC E ph (kcl ms X d) X C.2.2.2.1 [] 0 maxL mc ml ret prog C.2.2.1 C.2.1.1 G ρ w (some (m : Int)) := by
      intro m
      induction m with
      | zero =>
        intro q hq ρq k e1 e2 e3 e4 e5 e6
        have hc := hcuts q hq
        simp only [Bool.and_eq_true] at hc
        have z := lle_ok e3.1.2.1 e3.1.2.2.1 hc.2.2.1
        rw [lev_neg] at z
        have := e6 0 rfl
        omega
      | succ m ih =>
        intro q hq ρq k e1 e2 e3 e4 e5 e6
        have hc := hcuts q hq
        simp only [Bool.and_eq_true] at hc
        have z := e6 _ rfl
        have hn : C.2.1.1 ≤ q.2.1.1 := by
          have := hc.1
          unfold apwf at this
          exact Nat.ble_eq.mp (Bool.and_eq_true_iff.mp this).1
        have hqw := lwfb_ok hc.2.1
        have hH : HC E ph (kcl ms X d) X C.2.2.2.1 [] 0 maxL mc ml ret prog C.2.2.1 C.2.1.1 G ρ w (some (lev ρq q.2.2)) := fun q' hq' ρ' k' a1 a2 a3 a4 a5 a6 => ih q' hq' ρ' k' a1 a2 a3 a4 a5 (fun y hy => by
          have b1 := a6 _ rfl
          have : y = (m : Int) := (Option.some.inj hy).symm
          have : ((m + 1 : Nat) : Int) = (m : Int) + 1 := rfl
          omega)
        have hlast := hc.2.2.2
        split at hlast
        · rename_i L hL
          rw [← e1] at hL
          rcases aproc_ok (kcl_mono ms X d) (b := some (lev ρq q.2.2)) (rgk := []) (L0 := 0) hE hW hph hCS hp hwf e4 e3 hn e2 e5 hMw hM hsc (fun y hy => ⟨q.2.2, rfl, hqw, Option.some.inj hy⟩) hH hL with t | ⟨k', k1, k2, k3, p, p1, p2, ρ2, p3, p4, p5⟩
          · exact t
          · have t := expl_ok (kcl_mono ms X d) (b := some (lev ρq q.2.2)) (rgk := []) (L0 := 0) hE hW hph hCS hp hwf hMw hM hsc hn e2 (fun y hy => ⟨q.2.2, rfl, hqw, Option.some.inj hy⟩) hH fuel L hlast p p1 ρ2 k' p2 p3 p4 p5 k2 k3
            obtain ⟨ig, kk, t1, t2⟩ := t
            exact ⟨ig, kk, k1 _ t1, t2⟩
        · cases hlast
    have hH : HC E ph (kcl ms X d) X C.2.2.2.1 [] 0 maxL mc ml ret prog C.2.2.1 C.2.1.1 G ρ w none := fun q hq ρ' k' a1 a2 a3 a4 a5 _ => cutM ((lev ρ' q.2.2).toNat + 1) q hq ρ' k' a1 a2 a3 a4 a5 (fun y hy => by
      have : y = (((lev ρ' q.2.2).toNat + 1 : Nat) : Int) := (Option.some.inj hy).symm
      omega)
    have hst := aSt_rev _ _ hG.2.2.1
    have hlo := aargs_look _ _ 0 hst
    have hent : aGS E ph ρ (C.2.1.1, C.2.1.2.1, C.2.1.2.2.1, aargs 0 C.2.1.2.2.2.2.1.reverse, [], C.2.1.2.2.2.2.2.1, lfc 0, lfc 0) (0, kargs 0 st.reverse, [], w, 0, 0) := ⟨⟨hG.1.1, hG.1.2.1, hG.1.2.2.1, ⟨lwf_c _ _, by rw [lev_c]; exact Int.le_refl _⟩, ⟨lwf_c _ _, by rw [lev_c]; exact Int.le_refl _⟩⟩, hlo, trivial, hG.2.2.2⟩
    obtain ⟨ig, k2, ⟨f, t1⟩, t2, t3, t4, t5, r, t6, t7⟩ := expl_ok (kcl_mono ms X d) (b := none) (rgk := []) (L0 := 0) (nc := C.2.1.1) (ρc := ρ) hE hW hph hCS hp hwf hMw hM hsc (Nat.le_refl _) (fun _ _ => rfl) (fun y hy => (nomatch hy)) hH fuel _ h6 _ List.mem_cons_self ρ (0, kargs 0 st.reverse, [], w, 0, 0) rfl (fun _ _ => rfl) (Nat.le_refl _) hent hT (kFr.rf _ _ _)
    refine ⟨r, k2.2.2.2.1, ⟨f, ?_⟩, t4, t5, t7⟩
    obtain ⟨pc2, lo2, st2, w2, c2, s2⟩ := k2
    have t2 : Nat.ble c2 mc = true := t2
    have t3 : Nat.ble s2 ml = true := t3
    have t6 : kretx ret ig st2 = some r := t6
    have o1 : Nat.ble (kcats st.reverse) maxL = true := by
      rw [(aSt_ok _ _ hst).2]
      exact h4
    have o2 : Nat.blt (kfr 0 w) 1000000 = true := by
      rw [hT.1]
      exact Nat.ble_eq.mpr hE.1
    show kcallx ms X f (d + 1) C.1 st.reverse w = _
    have t1 : krx (kcallx ms X f d) X [] 0 maxL mc ml prog f (0, kargs 0 st.reverse, [], w, 0, 0) = some (ig, pc2, lo2, st2, w2, c2, s2) := t1
    unfold kcallx
    simp only [hms, o1, o2, t1, t2, t3, t6, Bool.and_self, cond_true]
/-- all contracts, at every depth -/
theorem kcs_ok (hE : kEok E) (hwf : ∀ C ∈ CS, kcwf C = true ∧ lle C.2.1.2.1 C.2.1.2.2.1 (lfneg C.2.2.2.2) = true) (h : ∀ d, (∀ C ∈ CS, kcwf C = true ∧ CV E ph (kcl ms X d) d C) → ∀ C ∈ CS, CV E ph (kcl ms X (d + 1)) (d + 1) C) : ∀ d, ∀ C ∈ CS, kcwf C = true ∧ CV E ph (kcl ms X d) d C := by
  intro d
  induction d with
  | zero =>
    intro C hC
    refine ⟨(hwf C hC).1, fun ρ st w _ hG hM => ?_⟩
    have z := lle_ok hG.1.2.1 hG.1.2.2.1 (hwf C hC).2
    rw [lev_neg] at z
    have : ((0 : Nat) : Int) = 0 := rfl
    omega
  | succ d ih => exact fun C hC => ⟨(hwf C hC).1, h d ih C hC⟩
end CHK
