section
/-! The explorer for any aim: what cuts promise, ends give and steps hand back; a thing more that steps keep. -/
section EXPLT
variable {E : TEnv} {ph : PHI} {clk : KCL} {X : KO} {d : Nat} {CS : List KC} {mods : MOD} {sc : Bool} {rgk : List (Int × Int)} {L0 nL mc ml : Nat} {ret : Option FieldType} {prog : List KEnt} {posts : List AS} {n0 : Nat} {M0 : LF} {G : KG}
set_option maxRecDepth 16384 in
def HCT (E : TEnv) (ph : PHI) (mods : MOD) (n0 : Nat) (G : KG) (ρ0 : Nat → Int) (w0 : KW) (b : Option Int) (J : KW → Prop) (T : KF → Prop) : Prop := ∀ q ∈ G.1, ∀ (ρ : Nat → Int) (k : KF), k.1 = q.1 → (∀ i, i < n0 → ρ i = ρ0 i) → aGS E ph ρ q.2.1 k → kTW E k.2.2.2.1 → kFr E mods w0 k.2.2.2.1 → J k.2.2.2.1 → (∀ z, b = some z → lev ρ q.2.2 < z) → T k
set_option maxRecDepth 16384 in
theorem acut_okT {J : KW → Prop} {T : KF → Prop} (hE : kEok E) (hph : phW ph) {k : KF} (hT : kTW E k.2.2.2.1) {ρ ρ0 : Nat → Int} {w0 : KW} {S : AS} (hG : aGS E ph ρ S k) (hn : n0 ≤ S.1) (hag : ∀ i, i < n0 → ρ i = ρ0 i) (hF : kFr E mods w0 k.2.2.2.1) (hj : J k.2.2.2.1) {Mc : Option LF} {b : Option Int} (hb : ∀ z, b = some z → ∃ M, Mc = some M ∧ lwf S.1 M ∧ lev ρ M = z) (hwf : ∀ q ∈ G.1, apwf n0 q.2.1 = true) (hH : HCT E ph mods n0 G ρ0 w0 b J T) : ∀ l : List (Nat × AS × LF), (∀ q ∈ l, q ∈ G.1) → acut E n0 Mc k.1 S l = true → T k := by
  intro l
  induction l with
  | nil => intro _ h; cases h
  | cons q l ih =>
    intro hl h
    unfold acut at h
    rcases Bool.or_eq_true_iff.mp h with h | h
    · cases e : Nat.beq q.1 k.1 with
      | false => rw [e] at h; cases h
      | true =>
        rw [e] at h
        simp only [cond_true] at h
        split at h
        · rename_i r hr
          obtain ⟨A', sg⟩ := r
          have hq := hl q List.mem_cons_self
          obtain ⟨ρ1, q1, q2, q3, q4, q5, q6, q7⟩ := amatch_ok hE hph hT hn hG (hwf q hq) hr
          refine hH q hq _ k (kb_t e).symm (fun i hi => ?_) q7 hT hF hj (fun z hz => ?_)
          · unfold sval
            rw [if_pos hi, q1 i (by omega), hag i hi]
          · obtain ⟨M, m1, m2, m3⟩ := hb z hz
            subst m1
            simp only at h
            split at h
            · rename_i g hg
              have e1 := (ssub_ok q6 ρ1 hg).2
              have e2 := lle_ok q3.1.2.1 q3.1.2.2.1 h
              rw [lev_add, lev_sub, lev_c, lev_ag q1 m2] at e2
              omega
            · cases h
        · cases h
    · exact ih (fun q hq => hl q (List.mem_cons_of_mem _ hq)) h
set_option maxRecDepth 16384 in
theorem aproc_okT {J : KW → Prop} {T : KF → Prop} (hJ : ∀ (f : Nat) (ig : Instr) (x : KX) (pc : Nat) (lo : List (Nat × KV)) (st : List KV) (w : KW) (c s : Nat) (k : KF), kendx ig = false → kdx ig X (clk f) rgk L0 nL mc ml x pc lo st w c s = some k → J w → J k.2.2.2.1) (hTG : ∀ (w0 : KW) (ρ0 : Nat → Int) (k : KF), TG E ph clk X mods rgk L0 nL mc ml ret prog posts n0 ρ0 w0 k → T k) (hmo : KMono clk) (hE : kEok E) (hW : kEw E) (hph : phW ph) (hCS : ∀ C ∈ CS, kcwf C = true ∧ CV E ph clk d C) (hp : ∀ P ∈ posts, apwf 0 P = true ∧ n0 ≤ P.1) (hwf : ∀ q ∈ G.1, apwf n0 q.2.1 = true) {k : KF} (hT : kTW E k.2.2.2.1) {ρ ρ0 : Nat → Int} {w0 : KW} {S : AS} (hG : aGS E ph ρ S k) (hn : n0 ≤ S.1) (hag : ∀ i, i < n0 → ρ i = ρ0 i) (hF : kFr E mods w0 k.2.2.2.1) (hj : J k.2.2.2.1) (hMw : lwf n0 M0) (hM : lev ρ0 M0 < (d : Int) + 1) (hsc : kScA sc n0 ρ0 rgk L0) {Mc : Option LF} {b : Option Int} (hb : ∀ z, b = some z → ∃ M, Mc = some M ∧ lwf S.1 M ∧ lev ρ M = z) (hH : HCT E ph mods n0 G ρ0 w0 b J T) {first : Bool} {L : List (Nat × AS)} (h : aproc E ph CS mods sc nL mc ml ret prog posts n0 M0 G Mc first k.1 S = some L) : T k ∨ ∃ k', (∀ r, RN clk X rgk L0 nL mc ml prog k' r → RN clk X rgk L0 nL mc ml prog k r) ∧ kTW E k'.2.2.2.1 ∧ kFr E mods w0 k'.2.2.2.1 ∧ J k'.2.2.2.1 ∧ aNx E ph ρ S.1 L k' := by
  unfold aproc at h
  cases e0 : !first && acut E n0 Mc k.1 S G.1 with
  | true =>
    have e0 := Bool.and_eq_true_iff.mp e0
    exact Or.inl (acut_okT hE hph hT hG hn hag hF hj hb hwf hH G.1 (fun _ h => h) e0.2)
  | false =>
    rw [e0] at h
    simp only [cond_false] at h
    split at h
    · cases h
    · rename_i e l hk
      obtain ⟨he, h⟩ := kcond_inv h
      split at h
      · rename_i Ss hSs
        obtain ⟨S1, s1, ρ1, s2, s3, s4⟩ := ahints_ok hE hT _ _ _ hSs S List.mem_cons_self ρ hG
        obtain ⟨x, x1, x2⟩ := aflat_ok _ _ h S1 s1
        have hn1 : n0 ≤ S1.1 := Nat.le_trans hn s3
        have hag1 : ∀ i, i < n0 → ρ1 i = ρ0 i := fun i hi => by rw [s2 i (by omega), hag i hi]
        cases hend : kendx e.2.1 with
        | true =>
          rw [hend] at x1
          simp only [cond_true] at x1
          obtain ⟨x1, -⟩ := kcond_inv x1
          obtain ⟨r1, r2, r, r3, r4⟩ := aret_ok hE hph hT s4 hn1 hag1 hp x1
          exact Or.inl (hTG _ _ _ ⟨_, k, RN_end hk he hend, r1, r2, hT, hF, r, r3, r4⟩)
        | false =>
          rw [hend] at x1
          simp only [cond_false] at x1
          have hM1 : lev ρ1 M0 < (d : Int) + 1 := by rw [lev_ag hag1 hMw]; exact hM
          have hsc1 : kScA sc S1.1 ρ1 rgk L0 := hsc.ag hn1 hag1
          obtain ⟨f, k', f1, f2, q, q1, q2, ρ2, q3, q4, q5⟩ := astp_ok (rgk := rgk) (L0 := L0) (pc := k.1) (lo := k.2.1) (st := k.2.2.1) (w := k.2.2.2.1) (c := k.2.2.2.2.1) (s := k.2.2.2.2.2) hE hW hph hCS hT s4 (lwf_up hMw hn1) hM1 hsc1 x1
          refine Or.inr ⟨k', fun r hr => RN_step hmo hk he hend f1 hr, f2.1, hF.tr f2.2, hJ _ _ _ _ _ _ _ _ _ _ hend f1 hj, q, x2 q q1, q2, ρ2, fun i hi => by rw [q3 i (by omega), s2 i hi], Nat.le_trans s3 q4, q5⟩
      · cases h
set_option maxRecDepth 16384 in
theorem expl_okT {J : KW → Prop} {T : KF → Prop} (hJ : ∀ (f : Nat) (ig : Instr) (x : KX) (pc : Nat) (lo : List (Nat × KV)) (st : List KV) (w : KW) (c s : Nat) (k : KF), kendx ig = false → kdx ig X (clk f) rgk L0 nL mc ml x pc lo st w c s = some k → J w → J k.2.2.2.1) (hTG : ∀ (w0 : KW) (ρ0 : Nat → Int) (k : KF), TG E ph clk X mods rgk L0 nL mc ml ret prog posts n0 ρ0 w0 k → T k) (hcl : ∀ k k', (∀ r, RN clk X rgk L0 nL mc ml prog k' r → RN clk X rgk L0 nL mc ml prog k r) → T k' → T k) (hmo : KMono clk) (hE : kEok E) (hW : kEw E) (hph : phW ph) (hCS : ∀ C ∈ CS, kcwf C = true ∧ CV E ph clk d C) (hp : ∀ P ∈ posts, apwf 0 P = true ∧ n0 ≤ P.1) (hwf : ∀ q ∈ G.1, apwf n0 q.2.1 = true) {ρ0 : Nat → Int} {w0 : KW} (hMw : lwf n0 M0) (hM : lev ρ0 M0 < (d : Int) + 1) (hsc : kScA sc n0 ρ0 rgk L0) {Mc : Option LF} {b : Option Int} {nc : Nat} {ρc : Nat → Int} (hnc : n0 ≤ nc) (hac : ∀ i, i < n0 → ρc i = ρ0 i) (hb : ∀ z, b = some z → ∃ M, Mc = some M ∧ lwf nc M ∧ lev ρc M = z) (hH : HCT E ph mods n0 G ρ0 w0 b J T) : ∀ (f : Nat) (W : List (Nat × AS)), expl E ph CS mods sc nL mc ml ret prog posts n0 M0 G Mc f W = true → ∀ q ∈ W, ∀ (ρ : Nat → Int) (k : KF), q.1 = k.1 → (∀ i, i < nc → ρ i = ρc i) → nc ≤ q.2.1 → aGS E ph ρ q.2 k → kTW E k.2.2.2.1 → kFr E mods w0 k.2.2.2.1 → J k.2.2.2.1 → T k := by
  intro f
  induction f with
  | zero => intro W h; cases h
  | succ f ih =>
    intro W h q hq ρ k e1 hag hn hG hT hF hj
    unfold expl at h
    cases W with
    | nil => cases hq
    | cons q0 W =>
      simp only at h
      split at h
      · rename_i Ss hSs
        split at h
        · rename_i L hL
          have hW' := ih (L ++ W) h
          cases hq with
          | tail _ hq => exact hW' q (List.mem_append_right _ hq) ρ k e1 hag hn hG hT hF hj
          | head =>
            obtain ⟨S1, s1, ρ1, s2, s3, s4⟩ := ahints_ok hE hT _ _ _ hSs q.2 List.mem_cons_self ρ hG
            obtain ⟨x, x1, x2⟩ := aflat_ok _ _ hL S1 s1
            rw [e1] at x1
            have hn1 : nc ≤ S1.1 := Nat.le_trans hn s3
            have hag1 : ∀ i, i < nc → ρ1 i = ρc i := fun i hi => by rw [s2 i (by omega), hag i hi]
            rcases aproc_okT hJ hTG hmo (b := b) hE hW hph hCS hp hwf hT s4 (Nat.le_trans hnc hn1) (fun i hi => by rw [hag1 i (by omega), hac i hi]) hF hj hMw hM hsc (fun z hz => by
              obtain ⟨M, m1, m2, m3⟩ := hb z hz
              exact ⟨M, m1, lwf_up m2 hn1, by rw [lev_ag hag1 m2]; exact m3⟩) hH x1 with t | ⟨k', k1, k2, k3, kj, p, p1, p2, ρ2, p3, p4, p5⟩
            · exact t
            · have t := hW' p (List.mem_append_left _ (x2 p p1)) ρ2 k' p2 (fun i hi => by rw [p3 i (by omega), hag1 i hi]) (Nat.le_trans hn1 p4) p5 k2 k3 kj
              exact hcl _ _ k1 t
        · cases h
      · cases h
end EXPLT
end
section
/-! The world's numbers out of what is known of the world; a call's run out of a step. -/
set_option maxRecDepth 16384 in
def zr : Nat → Int32 := fun _ => 0
set_option maxRecDepth 16384 in
theorem wm_fr {w w' : KW} {a k : Nat} (h : wval w a k = wval w' a k) : wm zr w (a : Int) (k : Int) = wm zr w' (a : Int) (k : Int) := by
  unfold wm
  rw [if_pos (Int.natCast_nonneg _), if_neg (by omega), if_neg (by omega), if_pos (Int.natCast_nonneg _), if_pos (Int.natCast_nonneg _), if_neg (by omega), if_neg (by omega), if_pos (Int.natCast_nonneg _), Int.toNat_natCast, Int.toNat_natCast, h]
set_option maxRecDepth 16384 in
theorem kTW_len {w : KW} (h : kTW qEnv w) {a c t n : Nat} (ha : a < 168) (hd : (qEnv.2.2 (qEnv.2.1 a)).1 = (c, t, n)) (hc : c < 9) : wm zr w (a : Int) (-1) = (n : Int) ∧ wm zr w (a : Int) (-2) = (t : Int) := by
  obtain ⟨e, h1, h2, -⟩ := h.2 a ha
  rw [hd] at h2
  rcases e with ⟨t', n', ⟨l, d⟩ | ⟨l, d⟩ | l⟩ | ⟨ci, fs⟩
  · cases h2; exact ⟨wm_len h1, wm_typ h1⟩
  · cases h2; exact ⟨wm_len h1, wm_typ h1⟩
  · cases h2; exact ⟨wm_len h1, wm_typ h1⟩
  · have : (9, ci, fs.length) = (c, t, n) := h2
    cases this
    omega
set_option maxRecDepth 16384 in
theorem kTW_ref {w : KW} (h : kTW qEnv w) {a k r : Nat} (ha : a < 168) (hk : k < (qEnv.2.2 (qEnv.2.1 a)).1.2.2) (hs : ksg (qEnv.2.2 (qEnv.2.1 a)).2 k = (2, (r : Int), 0)) : wm zr w (a : Int) (k : Int) = (r : Int) := by
  obtain ⟨e, h1, -, h2⟩ := h.2 a ha
  obtain ⟨v, h3, h4⟩ := h2 k hk
  rw [hs] at h4
  have h5 := ((vOK2 (t := (2, (r : Int), 0)) rfl).mp h4).1
  have h6 : wval w a k = some v := by
    unfold wval
    rw [h1]
    exact h3
  rw [wm_val h6, h5]
  rfl
set_option maxRecDepth 16384 in
def kmodb (ms : MOD) (a k : Nat) : Bool := ms.any (fun q => Nat.beq q.1 (qEnv.2.1 a) && (Nat.ble q.2.1 k && Nat.ble k q.2.2))
set_option maxRecDepth 16384 in
theorem kmodb_n {ms : MOD} {a k : Nat} (h : kmodb ms a k = false) : ¬ kmod qEnv ms a k := by
  rintro ⟨q, hq, h1, h2, h3⟩
  have : kmodb ms a k = true := by
    unfold kmodb
    refine List.any_eq_true.mpr ⟨q, hq, ?_⟩
    rw [h1, Nat.beq_refl, Nat.ble_eq.mpr h2, Nat.ble_eq.mpr h3]
    rfl
  rw [this] at h
  cases h
set_option maxRecDepth 16384 in
theorem fr_one {ms : MOD} {w0 w : KW} (hF : kFr qEnv ms w0 w) {a k : Nat} (ha : a < 168) (h : kmodb ms a k = false) : wm zr w (a : Int) (k : Int) = wm zr w0 (a : Int) (k : Int) := wm_fr (hF a k ha (kmodb_n h))
set_option maxRecDepth 16384 in
theorem fr_all {ms : MOD} {w0 w : KW} (hF : kFr qEnv ms w0 w) {a : Nat} (ha : a < 168) (h : ms.all (fun q => !(Nat.beq q.1 (qEnv.2.1 a))) = true) (k : Nat) : wm zr w (a : Int) (k : Int) = wm zr w0 (a : Int) (k : Int) := by
  refine wm_fr (hF a k ha ?_)
  rintro ⟨q, hq, h1, -⟩
  have := List.all_eq_true.mp h q hq
  rw [h1, Nat.beq_refl] at this
  cases this
set_option maxRecDepth 16384 in
/-- fields that are never changed -/
def lls : List (Nat × Nat × Nat) := [(9, 0, 10), (9, 1, 11), (9, 2, 12), (9, 3, 13), (9, 4, 14), (22, 1, 23), (22, 2, 24), (22, 3, 25), (22, 4, 26), (22, 5, 27), (22, 6, 28)]
set_option maxRecDepth 16384 in
def LL (w : KW) : Prop := ∀ q ∈ lls, wm zr w (q.1 : Int) (q.2.1 : Int) = (q.2.2 : Int)
set_option maxRecDepth 16384 in
/-- the tapes alike -/
def RT (w w' : KW) : Prop := ∀ j : Nat, j < 940 → jand (wm zr w 2 (j : Int)) 255 = wm zr w' 149 (j : Int)
set_option maxRecDepth 16384 in
theorem LL_fr {ms : MOD} {w0 w : KW} (h : LL w0) (hF : kFr qEnv ms w0 w) (hb : lls.all (fun q => Nat.blt q.1 168 && !(kmodb ms q.1 q.2.1)) = true) : LL w := by
  intro q hq
  have h1 := Bool.and_eq_true_iff.mp (List.all_eq_true.mp hb q hq)
  have h2 : kmodb ms q.1 q.2.1 = false := by
    cases e : kmodb ms q.1 q.2.1 with
    | false => rfl
    | true => rw [e] at h1; exact absurd h1.2 Bool.false_ne_true
  rw [fr_one hF (Nat.blt_eq.mp h1.1) h2]
  exact h q hq
set_option maxRecDepth 16384 in
theorem RT_l {ms : MOD} {w0 w w' : KW} (h : RT w0 w') (hF : kFr qEnv ms w0 w) (hb : ms.all (fun q => !(Nat.beq q.1 2)) = true) : RT w w' := fun j hj => by
  have := fr_all hF (a := 2) (by decide) hb j
  have e : wm zr w 2 (j : Int) = wm zr w0 2 (j : Int) := this
  rw [e]; exact h j hj
set_option maxRecDepth 16384 in
theorem RT_r {ms : MOD} {w0 w w' : KW} (h : RT w' w0) (hF : kFr qEnv ms w0 w) (hb : ms.all (fun q => !(Nat.beq q.1 22)) = true) : RT w' w := fun j hj => by
  have := fr_all hF (a := 149) (by decide) hb j
  have e : wm zr w 149 (j : Int) = wm zr w0 149 (j : Int) := this
  rw [e]; exact h j hj
set_option maxRecDepth 16384 in
theorem TJ_of {wa wb : KW} (ha : kTW qEnv wa) (hb : kTW qEnv wb) (h : RT wa wb) {L : Int} (e1 : wm zr wa 1 1 = L) (e2 : wm zr wb 148 2 = L) (h0 : 0 ≤ L) : TJ (wm zr wa) (wm zr wb) L := by
  have l := kTW_len ha (a := 2) (c := 0) (t := 2) (n := 940) (by decide) rfl (by decide)
  refine ⟨kTW_ref ha (a := 1) (k := 0) (r := 2) (by decide) (by decide) rfl, l.1, l.2, kTW_ref hb (a := 148) (k := 1) (r := 149) (by decide) (by decide) rfl, e1, e2, h0, fun j h1 h2 => ?_⟩
  have := h j.toNat (by omega)
  rw [Int.toNat_of_nonneg h1] at this
  exact this
set_option maxRecDepth 16384 in
theorem TJ_to {wa wb : KW} {L : Int} (h : TJ (wm zr wa) (wm zr wb) L) : RT wa wb := fun j hj => h.2.2.2.2.2.2.2 j (Int.natCast_nonneg _) (by omega)
set_option maxRecDepth 16384 in
theorem OffA_of {w : KW} (h : kTW qEnv w) (hl : LL w) : OffA (wm zr w) := by
  have L : ∀ (a : Nat) (n : Nat), a < 168 → (∃ c t, (qEnv.2.2 (qEnv.2.1 a)).1 = (c, t, n) ∧ c < 9) → wm zr w (a : Int) (-1) = (n : Int) := fun a n ha ⟨c, t, h1, h2⟩ => (kTW_len h ha h1 h2).1
  refine ⟨kTW_ref h (a := 0) (k := 0) (r := 1) (by decide) (by decide) rfl, kTW_ref h (a := 0) (k := 2) (r := 9) (by decide) (by decide) rfl, kTW_ref h (a := 0) (k := 4) (r := 22) (by decide) (by decide) rfl, kTW_ref h (a := 1) (k := 0) (r := 2) (by decide) (by decide) rfl, L 2 940 (by decide) ⟨0, 2, rfl, by decide⟩, ?_, ?_⟩
  · exact ⟨hl (9, 0, 10) (by decide), hl (9, 1, 11) (by decide), hl (9, 2, 12) (by decide), hl (9, 3, 13) (by decide), hl (9, 4, 14) (by decide), hl (22, 1, 23) (by decide)⟩
  · exact ⟨hl (22, 1, 23) (by decide), hl (22, 2, 24) (by decide), hl (22, 3, 25) (by decide), hl (22, 4, 26) (by decide), hl (22, 5, 27) (by decide), hl (22, 6, 28) (by decide), L 23 64 (by decide) ⟨_, _, rfl, by decide⟩, L 24 8 (by decide) ⟨_, _, rfl, by decide⟩, L 25 8 (by decide) ⟨_, _, rfl, by decide⟩, L 26 8 (by decide) ⟨_, _, rfl, by decide⟩, L 27 8 (by decide) ⟨_, _, rfl, by decide⟩, L 28 24 (by decide) ⟨_, _, rfl, by decide⟩⟩
set_option maxRecDepth 16384 in
theorem OffB_of {w : KW} (h : kTW qEnv w) : OffB (wm zr w) := ⟨kTW_ref h (a := 148) (k := 1) (r := 149) (by decide) (by decide) rfl, kTW_ref h (a := 148) (k := 15) (r := 151) (by decide) (by decide) rfl, kTW_ref h (a := 148) (k := 20) (r := 156) (by decide) (by decide) rfl⟩
set_option maxRecDepth 16384 in
theorem TapeR_of {wa wb : KW} (h : RT wa wb) {L : Int} (e1 : wm zr wa 1 1 = L) (e2 : wm zr wb 148 2 = L) (h0 : 0 ≤ L) (h1 : L ≤ 940) : TapeR (wm zr wa) (wm zr wb) L := ⟨e1, e2, h0, h1, fun j j1 j2 => by
  have := h j.toNat (by omega)
  rw [Int.toNat_of_nonneg j1] at this
  exact this⟩
set_option maxRecDepth 16384 in
/-- a known place's number -/
theorem tc_num {ρ : Nat → Int} {S : AS} {k : KF} (hG : aGS qEnv qPh ρ S k) {a c : Nat} {f : LF} (hm : ((a, ((c : Int), [])), (Sum.inl f : AV)) ∈ S.2.2.2.2.2.1) (ha : a < 2000000) : wm zr k.2.2.2.1 (a : Int) (c : Int) = (Int32.ofInt (lev ρ f)).toInt := by
  obtain ⟨-, q⟩ := hG.2.2.2.1 _ hm
  rcases q with q | ⟨-, -, v, q1, q2⟩
  · exact absurd q (Nat.not_le.mpr ha)
  · have q1 : wval k.2.2.2.1 a (lev ρ ((c : Int), [])).toNat = some v := q1
    have e : (lev ρ ((c : Int), [])).toNat = c := by
      show ((c : Int) + 0).toNat = c
      omega
    rw [e] at q1
    have q3 : v = .inl (.int (Int32.ofInt (lev ρ f))) := q2.2
    rw [wm_val q1, q3]
    rfl
set_option maxRecDepth 16384 in
theorem i32_id {x : Int} (h1 : -2147483648 ≤ x) (h2 : x ≤ 2147483647) : (Int32.ofInt x).toInt = x := by
  rw [Int32.toInt_ofInt, Int.bmod_def]
  have : (Int32.size : Int) = 4294967296 := rfl
  rw [this]
  split <;> omega
set_option maxRecDepth 16384 in
theorem kcallV_inv {call : Nat → List KV → KW → Option (Option KV × KW)} {Rc Rs : Nat} {x : KX} {pc : Nat} {lo : List (Nat × KV)} {st : List KV} {w : KW} {c s : Nat} {k : KF} (h : kcallV call Rc Rs x pc lo st w c s = some k) : ∃ (b : Nat) (rest : List KV) (r : Option KV) (w' : KW), st.drop x.2.1 = .inl (.ref b) :: rest ∧ call x.1 (.inl (.ref b) :: (st.take x.2.1).reverse) w = some (r, w') ∧ k.1 = pc + 3 ∧ k.2.1 = lo ∧ k.2.2.1 = r.toList ++ rest ∧ k.2.2.2.1 = w' := by
  unfold kcallV at h
  split at h
  · rename_i b rest hd
    split at h
    · have hq := kcond_inv h
      clear h
      obtain ⟨-, h⟩ := hq
      split at h
      · rename_i r w' hcall
        cases h
        exact ⟨b, rest, r, w', hd, hcall, rfl, rfl, rfl, rfl⟩
      · cases h
    · cases h
  · cases h
end
