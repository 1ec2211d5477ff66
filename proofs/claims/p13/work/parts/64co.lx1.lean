/-! The explorer for any aim: what cuts promise, ends give and steps hand back; a thing more that steps keep. -/
section EXPLT
variable {E : TEnv} {ph : PHI} {clk : KCL} {X : KO} {d : Nat} {CS : List KC} {mods : MOD} {sc : Bool} {rgk : List (Int × Int)} {L0 nL mc ml : Nat} {ret : Option FieldType} {prog : List KEnt} {posts : List AS} {n0 : Nat} {M0 : LF} {G : KG}
set_option maxRecDepth 16384 in
def HCT (E : TEnv) (ph : PHI) (mods : MOD) (n0 : Nat) (G : KG) (ρ0 : Nat → Int) (w0 : KW) (b : Option Int) (J : KW → Prop) (T : KF → Prop) : Prop := ∀ q ∈ G.1, ∀ (ρ : Nat → Int) (k : KF), k.1 = q.1 → (∀ i, i < n0 → ρ i = ρ0 i) → aGS E ph ρ q.2.1 k → kTW E k.2.2.2.1 → kFr E mods w0 k.2.2.2.1 → J k.2.2.2.1 → (∀ z, b = some z → lev ρ q.2.2 < z) → T k
set_option maxRecDepth 16384 in
theorem acut_okT {J : KW → Prop} {T : KF → Prop} (hE : kEok E) (hph : phW ph) {k : KF} (hT : kTW E k.2.2.2.1) {ρ ρ0 : Nat → Int} {w0 : KW} {S : AS} (hG : aGS E ph ρ S k) (hn : n0 ≤ S.1) (hag : ∀ i, i < n0 → ρ i = ρ0 i) (hF : kFr E mods w0 k.2.2.2.1) (hj : J k.2.2.2.1) {Mc : Option LF} {b : Option Int} (hb : ∀ z, b = some z → ∃ M, Mc = some M ∧ lwf S.1 M ∧ lev ρ M = z) (hwf : ∀ q ∈ G.1, apwf n0 q.2.1 = true) (hH : HCT E ph mods n0 G ρ0 w0 b J T) : ∀ l : List (Nat × AS × LF), (∀ q ∈ l, q ∈ G.1) → acut E n0 Mc k.1 S l = true → T k := by
  intro l
  induction l with
  | nil => intro _ h; cases h
  | cons q l ih =>
    intro hl h
    unfold acut at h
    rcases Bool.or_eq_true_iff.mp h with h | h
    · cases e : Nat.beq q.1 k.1 with
      | false => rw [e] at h; cases h
      | true =>
        rw [e] at h
        simp only [cond_true] at h
        split at h
        · rename_i r hr
          obtain ⟨A', sg⟩ := r
          have hq := hl q List.mem_cons_self
          obtain ⟨ρ1, q1, q2, q3, q4, q5, q6, q7⟩ := amatch_ok hE hph hT hn hG (hwf q hq) hr
          refine hH q hq _ k (kb_t e).symm (fun i hi => ?_) q7 hT hF hj (fun z hz => ?_)
          · unfold sval
            rw [if_pos hi, q1 i (by omega), hag i hi]
          · obtain ⟨M, m1, m2, m3⟩ := hb z hz
            subst m1
            simp only at h
            split at h
            · rename_i g hg
              have e1 := (ssub_ok q6 ρ1 hg).2
              have e2 := lle_ok q3.1.2.1 q3.1.2.2.1 h
              rw [lev_add, lev_sub, lev_c, lev_ag q1 m2] at e2
              omega
            · cases h
        · cases h
    · exact ih (fun q hq => hl q (List.mem_cons_of_mem _ hq)) h
set_option maxRecDepth 16384 in
theorem aproc_okT {J : KW → Prop} {T : KF → Prop} (hJ : ∀ (f : Nat) (ig : Instr) (x : KX) (pc : Nat) (lo : List (Nat × KV)) (st : List KV) (w : KW) (c s : Nat) (k : KF), kendx ig = false → kdx ig X (clk f) rgk L0 nL mc ml x pc lo st w c s = some k → J w → J k.2.2.2.1) (hTG : ∀ (w0 : KW) (ρ0 : Nat → Int) (k : KF), TG E ph clk X mods rgk L0 nL mc ml ret prog posts n0 ρ0 w0 k → T k) (hmo : KMono clk) (hE : kEok E) (hW : kEw E) (hph : phW ph) (hCS : ∀ C ∈ CS, kcwf C = true ∧ CV E ph clk d C) (hp : ∀ P ∈ posts, apwf 0 P = true ∧ n0 ≤ P.1) (hwf : ∀ q ∈ G.1, apwf n0 q.2.1 = true) {k : KF} (hT : kTW E k.2.2.2.1) {ρ ρ0 : Nat → Int} {w0 : KW} {S : AS} (hG : aGS E ph ρ S k) (hn : n0 ≤ S.1) (hag : ∀ i, i < n0 → ρ i = ρ0 i) (hF : kFr E mods w0 k.2.2.2.1) (hj : J k.2.2.2.1) (hMw : lwf n0 M0) (hM : lev ρ0 M0 < (d : Int) + 1) (hsc : kScA sc n0 ρ0 rgk L0) {Mc : Option LF} {b : Option Int} (hb : ∀ z, b = some z → ∃ M, Mc = some M ∧ lwf S.1 M ∧ lev ρ M = z) (hH : HCT E ph mods n0 G ρ0 w0 b J T) {first : Bool} {L : List (Nat × AS)} (h : aproc E ph CS mods sc nL mc ml ret prog posts n0 M0 G Mc first k.1 S = some L) : T k ∨ ∃ k', (∀ r, RN clk X rgk L0 nL mc ml prog k' r → RN clk X rgk L0 nL mc ml prog k r) ∧ kTW E k'.2.2.2.1 ∧ kFr E mods w0 k'.2.2.2.1 ∧ J k'.2.2.2.1 ∧ aNx E ph ρ S.1 L k' := by
  unfold aproc at h
  cases e0 : !first && acut E n0 Mc k.1 S G.1 with
  | true =>
    have e0 := Bool.and_eq_true_iff.mp e0
    exact Or.inl (acut_okT hE hph hT hG hn hag hF hj hb hwf hH G.1 (fun _ h => h) e0.2)
  | false =>
    rw [e0] at h
    simp only [cond_false] at h
    split at h
    · cases h
    · rename_i e l hk
      obtain ⟨he, h⟩ := kcond_inv h
      split at h
      · rename_i Ss hSs
        obtain ⟨S1, s1, ρ1, s2, s3, s4⟩ := ahints_ok hE hT _ _ _ hSs S List.mem_cons_self ρ hG
        obtain ⟨x, x1, x2⟩ := aflat_ok _ _ h S1 s1
        have hn1 : n0 ≤ S1.1 := Nat.le_trans hn s3
        have hag1 : ∀ i, i < n0 → ρ1 i = ρ0 i := fun i hi => by rw [s2 i (by omega), hag i hi]
        cases hend : kendx e.2.1 with
        | true =>
          rw [hend] at x1
          simp only [cond_true] at x1
          obtain ⟨x1, -⟩ := kcond_inv x1
          obtain ⟨r1, r2, r, r3, r4⟩ := aret_ok hE hph hT s4 hn1 hag1 hp x1
          exact Or.inl (hTG _ _ _ ⟨_, k, RN_end hk he hend, r1, r2, hT, hF, r, r3, r4⟩)
        | false =>
          rw [hend] at x1
          simp only [cond_false] at x1
          have hM1 : lev ρ1 M0 < (d : Int) + 1 := by rw [lev_ag hag1 hMw]; exact hM
          have hsc1 : kScA sc S1.1 ρ1 rgk L0 := hsc.ag hn1 hag1
          obtain ⟨f, k', f1, f2, q, q1, q2, ρ2, q3, q4, q5⟩ := astp_ok (rgk := rgk) (L0 := L0) (pc := k.1) (lo := k.2.1) (st := k.2.2.1) (w := k.2.2.2.1) (c := k.2.2.2.2.1) (s := k.2.2.2.2.2) hE hW hph hCS hT s4 (lwf_up hMw hn1) hM1 hsc1 x1
          refine Or.inr ⟨k', fun r hr => RN_step hmo hk he hend f1 hr, f2.1, hF.tr f2.2, hJ _ _ _ _ _ _ _ _ _ _ hend f1 hj, q, x2 q q1, q2, ρ2, fun i hi => by rw [q3 i (by omega), s2 i hi], Nat.le_trans s3 q4, q5⟩
      · cases h
set_option maxRecDepth 16384 in
theorem expl_okT {J : KW → Prop} {T : KF → Prop} (hJ : ∀ (f : Nat) (ig : Instr) (x : KX) (pc : Nat) (lo : List (Nat × KV)) (st : List KV) (w : KW) (c s : Nat) (k : KF), kendx ig = false → kdx ig X (clk f) rgk L0 nL mc ml x pc lo st w c s = some k → J w → J k.2.2.2.1) (hTG : ∀ (w0 : KW) (ρ0 : Nat → Int) (k : KF), TG E ph clk X mods rgk L0 nL mc ml ret prog posts n0 ρ0 w0 k → T k) (hcl : ∀ k k', (∀ r, RN clk X rgk L0 nL mc ml prog k' r → RN clk X rgk L0 nL mc ml prog k r) → T k' → T k) (hmo : KMono clk) (hE : kEok E) (hW : kEw E) (hph : phW ph) (hCS : ∀ C ∈ CS, kcwf C = true ∧ CV E ph clk d C) (hp : ∀ P ∈ posts, apwf 0 P = true ∧ n0 ≤ P.1) (hwf : ∀ q ∈ G.1, apwf n0 q.2.1 = true) {ρ0 : Nat → Int} {w0 : KW} (hMw : lwf n0 M0) (hM : lev ρ0 M0 < (d : Int) + 1) (hsc : kScA sc n0 ρ0 rgk L0) {Mc : Option LF} {b : Option Int} {nc : Nat} {ρc : Nat → Int} (hnc : n0 ≤ nc) (hac : ∀ i, i < n0 → ρc i = ρ0 i) (hb : ∀ z, b = some z → ∃ M, Mc = some M ∧ lwf nc M ∧ lev ρc M = z) (hH : HCT E ph mods n0 G ρ0 w0 b J T) : ∀ (f : Nat) (W : List (Nat × AS)), expl E ph CS mods sc nL mc ml ret prog posts n0 M0 G Mc f W = true → ∀ q ∈ W, ∀ (ρ : Nat → Int) (k : KF), q.1 = k.1 → (∀ i, i < nc → ρ i = ρc i) → nc ≤ q.2.1 → aGS E ph ρ q.2 k → kTW E k.2.2.2.1 → kFr E mods w0 k.2.2.2.1 → J k.2.2.2.1 → T k := by
  intro f
  induction f with
  | zero => intro W h; cases h
  | succ f ih =>
    intro W h q hq ρ k e1 hag hn hG hT hF hj
    unfold expl at h
    cases W with
    | nil => cases hq
    | cons q0 W =>
      simp only at h
      split at h
      · rename_i Ss hSs
        split at h
        · rename_i L hL
          have hW' := ih (L ++ W) h
          cases hq with
          | tail _ hq => exact hW' q (List.mem_append_right _ hq) ρ k e1 hag hn hG hT hF hj
          | head =>
            obtain ⟨S1, s1, ρ1, s2, s3, s4⟩ := ahints_ok hE hT _ _ _ hSs q.2 List.mem_cons_self ρ hG
            obtain ⟨x, x1, x2⟩ := aflat_ok _ _ hL S1 s1
            rw [e1] at x1
            have hn1 : nc ≤ S1.1 := Nat.le_trans hn s3
            have hag1 : ∀ i, i < nc → ρ1 i = ρc i := fun i hi => by rw [s2 i (by omega), hag i hi]
            rcases aproc_okT hJ hTG hmo (b := b) hE hW hph hCS hp hwf hT s4 (Nat.le_trans hnc hn1) (fun i hi => by rw [hag1 i (by omega), hac i hi]) hF hj hMw hM hsc (fun z hz => by
              obtain ⟨M, m1, m2, m3⟩ := hb z hz
              exact ⟨M, m1, lwf_up m2 hn1, by rw [lev_ag hag1 m2]; exact m3⟩) hH x1 with t | ⟨k', k1, k2, k3, kj, p, p1, p2, ρ2, p3, p4, p5⟩
            · exact t
            · have t := hW' p (List.mem_append_left _ (x2 p p1)) ρ2 k' p2 (fun i hi => by rw [p3 i (by omega), hag1 i hi]) (Nat.le_trans hn1 p4) p5 k2 k3 kj
              exact hcl _ _ k1 t
        · cases h
      · cases h
end EXPLT
