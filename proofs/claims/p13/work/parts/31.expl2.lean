/-! What the explorer finds holds: a method keeps its contract. -/
section EXPL2
variable {E : TEnv} {ph : PHI} {clk : KCL} {X : KO} {d : Nat} {CS : List KC} {mods : MOD} {sc : Bool} {rgk : List (Int × Int)} {L0 nL mc ml : Nat} {ret : Option FieldType} {prog : List KEnt} {posts : List AS} {n0 : Nat} {M0 : LF} {G : KG}
/-- a run of the method from a frame -/
def RN (clk : KCL) (X : KO) (rgk : List (Int × Int)) (L0 nL mc ml : Nat) (prog : List KEnt) (k : KF) (r : Instr × KF) : Prop := ∃ f, krx (clk f) X rgk L0 nL mc ml prog f k = some r
/-- it ends as one of the ends says -/
def TG (E : TEnv) (ph : PHI) (clk : KCL) (X : KO) (mods : MOD) (rgk : List (Int × Int)) (L0 nL mc ml : Nat) (ret : Option FieldType) (prog : List KEnt) (posts : List AS) (n0 : Nat) (ρ0 : Nat → Int) (w0 : KW) (k : KF) : Prop := ∃ ig k2, RN clk X rgk L0 nL mc ml prog k (ig, k2) ∧ Nat.ble k2.2.2.2.2.1 mc = true ∧ Nat.ble k2.2.2.2.2.2 ml = true ∧ kTW E k2.2.2.2.1 ∧ kFr E mods w0 k2.2.2.2.1 ∧ ∃ r, kretx ret ig k2.2.2.1 = some r ∧ ∃ P ∈ posts, ∃ ρ' : Nat → Int, (∀ i, i < n0 → ρ' i = ρ0 i) ∧ n0 ≤ P.1 ∧ aGS E ph ρ' P (0, [], r.toList, k2.2.2.2.1, 0, 0)
theorem RN_end {k : KF} {e : KEnt} {l : List KEnt} (hk : kfrom prog k.1 = e :: l) (he : Nat.beq e.1 k.1 = true) (hb : kendx e.2.1 = true) : RN clk X rgk L0 nL mc ml prog k (e.2.1, k) := by
  refine ⟨1, ?_⟩
  obtain ⟨pc, lo, st, w, c, s⟩ := k
  unfold krx
  have hk : kfrom prog pc = e :: l := hk
  have he : Nat.beq e.1 pc = true := he
  simp only [hk, he, hb, cond_true]
theorem RN_step (hmo : KMono clk) {k k' : KF} {e : KEnt} {l : List KEnt} (hk : kfrom prog k.1 = e :: l) (he : Nat.beq e.1 k.1 = true) (hb : kendx e.2.1 = false) {f : Nat} (hs : kdx e.2.1 X (clk f) rgk L0 nL mc ml e.2.2 k.1 k.2.1 k.2.2.1 k.2.2.2.1 k.2.2.2.2.1 k.2.2.2.2.2 = some k') {r : Instr × KF} (hr : RN clk X rgk L0 nL mc ml prog k' r) : RN clk X rgk L0 nL mc ml prog k r := by
  obtain ⟨g, hg⟩ := hr
  refine ⟨max f g + 1, ?_⟩
  obtain ⟨pc, lo, st, w, c, s⟩ := k
  have hk : kfrom prog pc = e :: l := hk
  have he : Nat.beq e.1 pc = true := he
  unfold krx
  simp only [hk, he, hb, cond_true, cond_false]
  have h1 := kdx_le (hmo _ _ (Nat.le_trans (Nat.le_max_left f g) (Nat.le_succ _))) hs
  rw [h1]
  exact krx_le (hmo _ _ (Nat.le_trans (Nat.le_max_right f g) (Nat.le_succ _))) g (max f g) k' r (Nat.le_max_right f g) hg
theorem apwf_up {P : AS} (h : apwf 0 P = true) {n0 : Nat} (hn : n0 ≤ P.1) : apwf n0 P = true := by
  unfold apwf at h ⊢
  rw [Bool.and_eq_true] at h ⊢
  exact ⟨Nat.ble_eq.mpr hn, h.2⟩
theorem arets_ok {n : Nat} {ρ : Nat → Int} {rg : RG} {ig : Instr} {st : List AV} {stk : List KV} (hB : kRG ρ rg) (hS : aSt E n ρ st stk) (h : arets E rg ret ig st = true) : ∃ r, kretx ret ig stk = some r ∧ r.toList = stk := by
  unfold arets at h
  split at h
  · split at h
    · rw [aSt_nil hS]
      exact ⟨none, rfl, rfl⟩
    · cases h
  · split at h
    · rename_i a
      obtain ⟨v, s', rfl, h1, h2⟩ := aSt_cons hS
      rw [aSt_nil h2]
      refine ⟨some v, ?_, rfl⟩
      show (bif kisI v then some (some v) else none) = _
      rw [aisI_ok h h1]
      rfl
    · rename_i a
      obtain ⟨v, s', rfl, h1, h2⟩ := aSt_cons hS
      rw [aSt_nil h2]
      have h := Bool.and_eq_true_iff.mp h
      obtain ⟨x, rfl, x1, x2⟩ := (vOK0 (t := (0, 0, 1)) rfl).mp (afit_ok hB h.2 h1)
      refine ⟨some (.inl (.int x)), ?_, rfl⟩
      have x1 : 0 ≤ x.toInt := x1
      have x2 : x.toInt ≤ 1 := x2
      have : x = 0 ∨ x = 1 := by
        by_cases q : 0 < x.toInt
        · right; exact Int32.toInt_inj.mp (show x.toInt = 1 by omega)
        · left; exact Int32.toInt_inj.mp (show x.toInt = 0 by omega)
      rcases this with rfl | rfl <;> rfl
    · rename_i a
      obtain ⟨v, s', rfl, h1, h2⟩ := aSt_cons hS
      rw [aSt_nil h2]
      refine ⟨some v, ?_, rfl⟩
      show (bif kisI v then some (some v) else none) = _
      rw [aisI_ok h h1]
      rfl
    · cases h
  · split at h
    · rw [aSt_nil hS]
      exact ⟨none, rfl, rfl⟩
    · cases h
  · split at h
    · rename_i a
      obtain ⟨v, s', rfl, h1, h2⟩ := aSt_cons hS
      rw [aSt_nil h2]
      obtain ⟨x, rfl⟩ := aisG_ok h h1
      exact ⟨_, rfl, rfl⟩
    · cases h
  · cases h
theorem aret_ok (hE : kEok E) (hph : phW ph) {k : KF} (hT : kTW E k.2.2.2.1) {ρ ρ0 : Nat → Int} {S : AS} (hG : aGS E ph ρ S k) (hn : n0 ≤ S.1) (hag : ∀ i, i < n0 → ρ i = ρ0 i) (hp : ∀ P ∈ posts, apwf 0 P = true ∧ n0 ≤ P.1) {ig : Instr} (h : aret E n0 posts ret mc ml ig S = true) : Nat.ble k.2.2.2.2.1 mc = true ∧ Nat.ble k.2.2.2.2.2 ml = true ∧ ∃ r, kretx ret ig k.2.2.1 = some r ∧ ∃ P ∈ posts, ∃ ρ' : Nat → Int, (∀ i, i < n0 → ρ' i = ρ0 i) ∧ n0 ≤ P.1 ∧ aGS E ph ρ' P (0, [], r.toList, k.2.2.2.1, 0, 0) := by
  unfold aret at h
  simp only [Bool.and_eq_true] at h
  obtain ⟨h1, h2, h3, h4⟩ := h
  obtain ⟨r, r1, r2⟩ := arets_ok hG.1.2.1 hG.2.2.1 h1
  have c1 := lb0_ok hG.1.2.1 h2
  have c2 := lb0_ok hG.1.2.1 h3
  rw [lev_add, lev_c] at c1 c2
  have k1 := hG.1.2.2.2.1.2
  have k2 := hG.1.2.2.2.2.2
  obtain ⟨P, p1, p2⟩ := List.any_eq_true.mp h4
  obtain ⟨q, hq⟩ := Option.isSome_iff_exists.mp p2
  obtain ⟨A', sg⟩ := q
  have hGa : aGS E ph ρ (S.1, S.2.1, S.2.2.1, [], S.2.2.2.2.1, S.2.2.2.2.2.1, lfc 0, lfc 0) (0, [], k.2.2.1, k.2.2.2.1, 0, 0) := ⟨⟨hG.1.1, hG.1.2.1, hG.1.2.2.1, ⟨lwf_c _ _, by rw [lev_c]; exact Int.le_refl _⟩, ⟨lwf_c _ _, by rw [lev_c]; exact Int.le_refl _⟩⟩, ⟨fun j a (hj : none = some a) => (nomatch hj), rfl⟩, hG.2.2.1, hG.2.2.2⟩
  obtain ⟨ρ1, q1, q2, q3, q4, q5, q6, q7⟩ := amatch_ok (A := (S.1, S.2.1, S.2.2.1, [], S.2.2.2.2.1, S.2.2.2.2.2.1, lfc 0, lfc 0)) (k := (0, [], k.2.2.1, k.2.2.2.1, 0, 0)) hE hph hT hn hGa (apwf_up (hp P p1).1 (hp P p1).2) hq
  refine ⟨Nat.ble_eq.mpr (by omega), Nat.ble_eq.mpr (by omega), r, r1, P, p1, _, fun i hi => ?_, (hp P p1).2, by rw [r2]; exact q7⟩
  have q1 : ∀ i, i < S.1 → ρ1 i = ρ i := q1
  unfold sval
  rw [if_pos hi, q1 i (by omega), hag i hi]
/-- what the cuts promise, below a measure -/
def HC (E : TEnv) (ph : PHI) (clk : KCL) (X : KO) (mods : MOD) (rgk : List (Int × Int)) (L0 nL mc ml : Nat) (ret : Option FieldType) (prog : List KEnt) (posts : List AS) (n0 : Nat) (G : KG) (ρ0 : Nat → Int) (w0 : KW) (b : Option Int) : Prop := ∀ q ∈ G.1, ∀ (ρ : Nat → Int) (k : KF), k.1 = q.1 → (∀ i, i < n0 → ρ i = ρ0 i) → aGS E ph ρ q.2.1 k → kTW E k.2.2.2.1 → kFr E mods w0 k.2.2.2.1 → (∀ z, b = some z → lev ρ q.2.2 < z) → TG E ph clk X mods rgk L0 nL mc ml ret prog posts n0 ρ0 w0 k
theorem acut_ok (hE : kEok E) (hph : phW ph) {k : KF} (hT : kTW E k.2.2.2.1) {ρ ρ0 : Nat → Int} {w0 : KW} {S : AS} (hG : aGS E ph ρ S k) (hn : n0 ≤ S.1) (hag : ∀ i, i < n0 → ρ i = ρ0 i) (hF : kFr E mods w0 k.2.2.2.1) {Mc : Option LF} {b : Option Int} (hb : ∀ z, b = some z → ∃ M, Mc = some M ∧ lwf S.1 M ∧ lev ρ M = z) (hwf : ∀ q ∈ G.1, apwf n0 q.2.1 = true) (hH : HC E ph clk X mods rgk L0 nL mc ml ret prog posts n0 G ρ0 w0 b) : ∀ l : List (Nat × AS × LF), (∀ q ∈ l, q ∈ G.1) → acut E n0 Mc k.1 S l = true → TG E ph clk X mods rgk L0 nL mc ml ret prog posts n0 ρ0 w0 k := by
  intro l
  induction l with
  | nil => intro _ h; cases h
  | cons q l ih =>
    intro hl h
    unfold acut at h
    rcases Bool.or_eq_true_iff.mp h with h | h
    · cases e : Nat.beq q.1 k.1 with
      | false => rw [e] at h; cases h
      | true =>
        rw [e] at h
        simp only [cond_true] at h
        split at h
        · rename_i r hr
          obtain ⟨A', sg⟩ := r
          have hq := hl q List.mem_cons_self
          obtain ⟨ρ1, q1, q2, q3, q4, q5, q6, q7⟩ := amatch_ok hE hph hT hn hG (hwf q hq) hr
          refine hH q hq _ k (kb_t e).symm (fun i hi => ?_) q7 hT hF (fun z hz => ?_)
          · unfold sval
            rw [if_pos hi, q1 i (by omega), hag i hi]
          · obtain ⟨M, m1, m2, m3⟩ := hb z hz
            subst m1
            simp only at h
            split at h
            · rename_i g hg
              have e1 := (ssub_ok q6 ρ1 hg).2
              have e2 := lle_ok q3.1.2.1 q3.1.2.2.1 h
              rw [lev_add, lev_sub, lev_c, lev_ag q1 m2] at e2
              omega
            · cases h
        · cases h
    · exact ih (fun q hq => hl q (List.mem_cons_of_mem _ hq)) h
theorem aproc_ok (hmo : KMono clk) (hE : kEok E) (hW : kEw E) (hph : phW ph) (hCS : ∀ C ∈ CS, kcwf C = true ∧ CV E ph clk d C) (hp : ∀ P ∈ posts, apwf 0 P = true ∧ n0 ≤ P.1) (hwf : ∀ q ∈ G.1, apwf n0 q.2.1 = true) {k : KF} (hT : kTW E k.2.2.2.1) {ρ ρ0 : Nat → Int} {w0 : KW} {S : AS} (hG : aGS E ph ρ S k) (hn : n0 ≤ S.1) (hag : ∀ i, i < n0 → ρ i = ρ0 i) (hF : kFr E mods w0 k.2.2.2.1) (hMw : lwf n0 M0) (hM : lev ρ0 M0 < (d : Int) + 1) (hsc : kScA sc n0 ρ0 rgk L0) {Mc : Option LF} {b : Option Int} (hb : ∀ z, b = some z → ∃ M, Mc = some M ∧ lwf S.1 M ∧ lev ρ M = z) (hH : HC E ph clk X mods rgk L0 nL mc ml ret prog posts n0 G ρ0 w0 b) {first : Bool} {L : List (Nat × AS)} (h : aproc E ph CS mods sc nL mc ml ret prog posts n0 M0 G Mc first k.1 S = some L) : TG E ph clk X mods rgk L0 nL mc ml ret prog posts n0 ρ0 w0 k ∨ ∃ k', (∀ r, RN clk X rgk L0 nL mc ml prog k' r → RN clk X rgk L0 nL mc ml prog k r) ∧ kTW E k'.2.2.2.1 ∧ kFr E mods w0 k'.2.2.2.1 ∧ aNx E ph ρ S.1 L k' := by
  unfold aproc at h
  cases e0 : !first && acut E n0 Mc k.1 S G.1 with
  | true =>
    have e0 := Bool.and_eq_true_iff.mp e0
    exact Or.inl (acut_ok hE hph hT hG hn hag hF hb hwf hH G.1 (fun _ h => h) e0.2)
  | false =>
    rw [e0] at h
    simp only [cond_false] at h
    split at h
    · cases h
    · rename_i e l hk
      obtain ⟨he, h⟩ := kcond_inv h
      split at h
      · rename_i Ss hSs
        obtain ⟨S1, s1, ρ1, s2, s3, s4⟩ := ahints_ok hE hT _ _ _ hSs S List.mem_cons_self ρ hG
        obtain ⟨x, x1, x2⟩ := aflat_ok _ _ h S1 s1
        have hn1 : n0 ≤ S1.1 := Nat.le_trans hn s3
        have hag1 : ∀ i, i < n0 → ρ1 i = ρ0 i := fun i hi => by rw [s2 i (by omega), hag i hi]
        cases hend : kendx e.2.1 with
        | true =>
          rw [hend] at x1
          simp only [cond_true] at x1
          obtain ⟨x1, -⟩ := kcond_inv x1
          obtain ⟨r1, r2, r, r3, r4⟩ := aret_ok hE hph hT s4 hn1 hag1 hp x1
          exact Or.inl ⟨_, k, RN_end hk he hend, r1, r2, hT, hF, r, r3, r4⟩
        | false =>
          rw [hend] at x1
          simp only [cond_false] at x1
          have hM1 : lev ρ1 M0 < (d : Int) + 1 := by rw [lev_ag hag1 hMw]; exact hM
          have hsc1 : kScA sc S1.1 ρ1 rgk L0 := hsc.ag hn1 hag1
          obtain ⟨f, k', f1, f2, q, q1, q2, ρ2, q3, q4, q5⟩ := astp_ok (rgk := rgk) (L0 := L0) (pc := k.1) (lo := k.2.1) (st := k.2.2.1) (w := k.2.2.2.1) (c := k.2.2.2.2.1) (s := k.2.2.2.2.2) hE hW hph hCS hT s4 (lwf_up hMw hn1) hM1 hsc1 x1
          refine Or.inr ⟨k', fun r hr => RN_step hmo hk he hend f1 hr, f2.1, hF.tr f2.2, q, x2 q q1, q2, ρ2, fun i hi => by rw [q3 i (by omega), s2 i hi], Nat.le_trans s3 q4, q5⟩
      · cases h
theorem expl_ok (hmo : KMono clk) (hE : kEok E) (hW : kEw E) (hph : phW ph) (hCS : ∀ C ∈ CS, kcwf C = true ∧ CV E ph clk d C) (hp : ∀ P ∈ posts, apwf 0 P = true ∧ n0 ≤ P.1) (hwf : ∀ q ∈ G.1, apwf n0 q.2.1 = true) {ρ0 : Nat → Int} {w0 : KW} (hMw : lwf n0 M0) (hM : lev ρ0 M0 < (d : Int) + 1) (hsc : kScA sc n0 ρ0 rgk L0) {Mc : Option LF} {b : Option Int} {nc : Nat} {ρc : Nat → Int} (hnc : n0 ≤ nc) (hac : ∀ i, i < n0 → ρc i = ρ0 i) (hb : ∀ z, b = some z → ∃ M, Mc = some M ∧ lwf nc M ∧ lev ρc M = z) (hH : HC E ph clk X mods rgk L0 nL mc ml ret prog posts n0 G ρ0 w0 b) : ∀ (f : Nat) (W : List (Nat × AS)), expl E ph CS mods sc nL mc ml ret prog posts n0 M0 G Mc f W = true → ∀ q ∈ W, ∀ (ρ : Nat → Int) (k : KF), q.1 = k.1 → (∀ i, i < nc → ρ i = ρc i) → nc ≤ q.2.1 → aGS E ph ρ q.2 k → kTW E k.2.2.2.1 → kFr E mods w0 k.2.2.2.1 → TG E ph clk X mods rgk L0 nL mc ml ret prog posts n0 ρ0 w0 k := by
  intro f
  induction f with
  | zero => intro W h; cases h
  | succ f ih =>
    intro W h q hq ρ k e1 hag hn hG hT hF
    unfold expl at h
    cases W with
    | nil => cases hq
    | cons q0 W =>
      simp only at h
      split at h
      · rename_i Ss hSs
        split at h
        · rename_i L hL
          have hW' := ih (L ++ W) h
          cases hq with
          | tail _ hq => exact hW' q (List.mem_append_right _ hq) ρ k e1 hag hn hG hT hF
          | head =>
            obtain ⟨S1, s1, ρ1, s2, s3, s4⟩ := ahints_ok hE hT _ _ _ hSs q.2 List.mem_cons_self ρ hG
            obtain ⟨x, x1, x2⟩ := aflat_ok _ _ hL S1 s1
            rw [e1] at x1
            have hn1 : nc ≤ S1.1 := Nat.le_trans hn s3
            have hag1 : ∀ i, i < nc → ρ1 i = ρc i := fun i hi => by rw [s2 i (by omega), hag i hi]
            rcases aproc_ok hmo (b := b) hE hW hph hCS hp hwf hT s4 (Nat.le_trans hnc hn1) (fun i hi => by rw [hag1 i (by omega), hac i hi]) hF hMw hM hsc (fun z hz => by
              obtain ⟨M, m1, m2, m3⟩ := hb z hz
              exact ⟨M, m1, lwf_up m2 hn1, by rw [lev_ag hag1 m2]; exact m3⟩) hH x1 with t | ⟨k', k1, k2, k3, p, p1, p2, ρ2, p3, p4, p5⟩
            · exact t
            · have t := hW' p (List.mem_append_left _ (x2 p p1)) ρ2 k' p2 (fun i hi => by rw [p3 i (by omega), hag1 i hi]) (Nat.le_trans hn1 p4) p5 k2 k3
              obtain ⟨ig, kk, t1, t2⟩ := t
              exact ⟨ig, kk, k1 _ t1, t2⟩
        · cases h
      · cases h
end EXPL2
