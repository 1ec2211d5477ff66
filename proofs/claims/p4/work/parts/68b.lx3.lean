/-! The law's round with the tapes alike: feed and office by hand, all else by the explorer. -/
set_option maxRecDepth 16384 in
theorem qHelp_pr {prog : List KEnt} {X : KO} {f d : Nat} {args : List KV} {w w2 : KW} {r : Option KV} (h : qHelp prog X f d args w = some (r, w2)) (hw : kWT w) : kWT w2 := by
  obtain ⟨a, b, r, w', bz, -, ⟨ig, pc, lo, st, c, s, h1, -⟩, hb, -⟩ := qHelp_inv h
  have hw' : kWT w' := krx_pr (kcallx_pr _ _ _ _) f (0, kargs 0 [.inl (.ref 0), .inl (.int a), .inl (.int b)], [], w, 0, 0) _ hw h1
  rcases hb with ⟨-, -, rfl⟩ | ⟨z, l1, d1, n, -, -, -, -, rfl⟩
  · exact hw'
  · exact kWT_set hw' trivial
set_option maxRecDepth 16384 in
theorem kPrC_L (X : KO) (f : Nat) : kPrC (callL X 70 f) := by
  intro mid as w r w' h hw
  unfold callL at h
  cases q1 : Nat.beq mid 298 with
  | true => rw [q1] at h; exact qHelp_pr h hw
  | false =>
    rw [q1] at h
    cases q2 : Nat.beq mid 299 with
    | true => rw [q2] at h; exact qHelp_pr h hw
    | false => rw [q2] at h; exact kcallx_pr _ _ _ _ _ _ _ _ _ h hw
set_option maxRecDepth 16384 in
theorem TGL_ofM {X : KO} {xs : List Int32} {k : KF} {mods : MOD} {n0 : Nat} {ρ0 : Nat → Int} {w0 : KW} (h : TG qEnv qPh (callL X 70) X mods (rgx xs) (xs.length + 1) 7 kRc0 kRs0 (some .boolean) qPL qPostL n0 ρ0 w0 k) : TGL X xs k := by
  obtain ⟨ig, ⟨pc2, lo2, st2, w2, c2, s2⟩, h1, h2, h3, h4, -, r, h6, P, h7, ρ', -, -, h10⟩ := h
  have hP := List.mem_singleton.mp h7
  rw [hP] at h10
  have h6 : kretx (some .boolean) ig st2 = some r := h6
  obtain ⟨rfl, e⟩ := kretx_bool h6
  have h11 : aSt qEnv 9 ρ' [.inl (1, [])] r.toList := h10.2.2.1
  rw [← e] at h11
  obtain ⟨v, s', rfl, hv, hs⟩ := aSt_cons h11
  have hv2 : v = .inl (.int 1) := hv.2
  have hs2 := aSt_nil hs
  subst hv2; subst hs2
  exact ⟨pc2, lo2, w2, c2, s2, h1, h2, h3, h4, qIa_of h10.2.2.2.2 (fun e h => absurd h List.not_mem_nil)⟩
set_option maxRecDepth 16384 in
theorem TGL_cl {X : KO} {xs : List Int32} (k k' : KF) (h : ∀ r, RN (callL X 70) X (rgx xs) (xs.length + 1) 7 kRc0 kRs0 qPL k' r → RN (callL X 70) X (rgx xs) (xs.length + 1) 7 kRc0 kRs0 qPL k r) (t : TGL X xs k') : TGL X xs k := by
  obtain ⟨pc2, lo2, w2, c2, s2, h1, t⟩ := t
  exact ⟨pc2, lo2, w2, c2, s2, h _ h1, t⟩
set_option maxRecDepth 16384 in
theorem lM70 {ρ : Nat → Int} : lev ρ (lfc 70) < ((70 : Nat) : Int) + 1 := by
  rw [lev_c]; decide
set_option maxRecDepth 16384 in
theorem lHb {ρ : Nat → Int} {n : Nat} : ∀ z, (none : Option Int) = some z → ∃ M, (none : Option LF) = some M ∧ lwf n M ∧ lev ρ M = z := fun z hz => by cases hz
section LGO
variable (X : KO) {xs : List Int32} {i u : Int}
set_option maxRecDepth 16384 in
/-- the explorer's word from a state on -/
theorem ex_go {mods : MOD} {G : KG} (hwf : ∀ q ∈ G.1, apwf 9 q.2.1 = true) {w0 : KW} (hH : HCT qEnv qPh mods 9 G (wind xs i u) w0 none kWT (TGL X xs)) {f : Nat} {L : List (Nat × AS)} (hx : expl qEnv qPh qCSL mods true 7 kRc0 kRs0 (some .boolean) qPL qPostL 9 (lfc 70) G none f L = true) {ρ : Nat → Int} {n : Nat} {k : KF} (hag : ∀ j, j < 9 → ρ j = wind xs i u j) (hn : 9 ≤ n) (hk : aNx qEnv qPh ρ n L k) (hT : kTW qEnv k.2.2.2.1) (hF : kFr qEnv mods w0 k.2.2.2.1) (hW : kWT k.2.2.2.1) : TGL X xs k := by
  obtain ⟨q, q1, q2, ρ2, q3, q4, q5⟩ := hk
  exact expl_okT (J := kWT) (T := TGL X xs) (fun f ig x pc lo st w c s k he h hw => kdx_pr he (kPrC_L X f) hw k h) (fun _ _ _ => TGL_ofM) TGL_cl (callL_mono X 70) qE_ok qE_w qPh_ok (qCSL_ok X 70) qPostL_wf hwf (lwf_c _ _) lM70 wind_sc (Nat.le_refl 9) (fun _ _ => rfl) lHb hH f L hx q q1 ρ2 k q2 (fun j hj => by rw [q3 j (by omega), hag j hj]) (Nat.le_trans hn q4) q5 hT hF hW
set_option maxRecDepth 16384 in
/-- the same, one step ahead -/
theorem ap_go {mods : MOD} {G : KG} (hwf : ∀ q ∈ G.1, apwf 9 q.2.1 = true) {w0 : KW} (hH : HCT qEnv qPh mods 9 G (wind xs i u) w0 none kWT (TGL X xs)) {f : Nat} {L : List (Nat × AS)} {S : AS} {pc : Nat} (hA : aproc qEnv qPh qCSL mods true 7 kRc0 kRs0 (some .boolean) qPL qPostL 9 (lfc 70) G none true pc S = some L) (hx : expl qEnv qPh qCSL mods true 7 kRc0 kRs0 (some .boolean) qPL qPostL 9 (lfc 70) G none f L = true) {ρ : Nat → Int} {k : KF} (hk : k.1 = pc) (hag : ∀ j, j < 9 → ρ j = wind xs i u j) (hn : 9 ≤ S.1) (hG : aGS qEnv qPh ρ S k) (hT : kTW qEnv k.2.2.2.1) (hF : kFr qEnv mods w0 k.2.2.2.1) (hW : kWT k.2.2.2.1) : TGL X xs k := by
  subst hk
  rcases aproc_okT (J := kWT) (T := TGL X xs) (fun f ig x pc lo st w c s k he h hw => kdx_pr he (kPrC_L X f) hw k h) (fun _ _ _ => TGL_ofM) (callL_mono X 70) qE_ok qE_w qPh_ok (qCSL_ok X 70) qPostL_wf hwf hT hG hn hag hF hW (lwf_c _ _) lM70 wind_sc lHb hH hA with t | ⟨k', k1, k2, k3, kj, p⟩
  · exact t
  · exact TGL_cl _ _ k1 (ex_go X hwf hH hx hag hn p k2 k3 kj)
set_option maxRecDepth 16384 in
/-- one step by hand -/
theorem qstp_ok {ρ : Nat → Int} {S : AS} {pc : Nat} {mods : MOD} {cl : List Nat} {L : List (Nat × AS)} (h : qstp pc mods cl S = some L) {ig : Instr} {x : KX} (hp : kat qPL pc = some (ig, x)) (he : kendx ig = false) {k : KF} (hk : k.1 = pc) (hT : kTW qEnv k.2.2.2.1) (hW : kWT k.2.2.2.1) (hG : aGS qEnv qPh ρ S k) (hn : 9 ≤ S.1) (hag : ∀ j, j < 9 → ρ j = wind xs i u j) : ∃ f k', kdx ig X (callL X 70 f) (rgx xs) (xs.length + 1) 7 kRc0 kRs0 x k.1 k.2.1 k.2.2.1 k.2.2.2.1 k.2.2.2.2.1 k.2.2.2.2.2 = some k' ∧ kTW qEnv k'.2.2.2.1 ∧ kFr qEnv mods k.2.2.2.1 k'.2.2.2.1 ∧ kWT k'.2.2.2.1 ∧ aNx qEnv qPh ρ S.1 L k' ∧ (TGL X xs k' → TGL X xs k) := by
  subst hk
  unfold qstp at h
  rw [hp] at h
  obtain ⟨f, k', f1, f2, f3⟩ := astp_ok (X := X) (clk := callL X 70) (d := 70) (rgk := rgx xs) (L0 := xs.length + 1) (pc := k.1) (lo := k.2.1) (st := k.2.2.1) (w := k.2.2.2.1) (c := k.2.2.2.2.1) (s := k.2.2.2.2.2) qE_ok qE_w qPh_ok (qCSL_ok X 70) hT hG (lwf_c _ _) lM70 ((wind_sc (xs := xs) (i := i) (u := u)).ag hn hag) h
  obtain ⟨l, hk⟩ := kat_inv hp
  exact ⟨f, k', f1, f2.1, f2.2, kdx_pr he (kPrC_L X f) hW k' f1, f3, TGL_cl _ _ (fun r hr => RN_step (callL_mono X 70) hk (Nat.beq_refl _) he f1 hr)⟩
end LGO
set_option maxRecDepth 16384 in
/-- what comes of some states, as a pattern -/
theorem anx_cut {n0 : Nat} {L : List (Nat × AS)} {G : List (Nat × AS × LF)} (h : L.all (fun q => acut qEnv n0 none q.1 q.2 G) = true) (hwf : ∀ q ∈ G, apwf n0 q.2.1 = true) {ρ : Nat → Int} {n : Nat} {k : KF} (hn : n0 ≤ n) (hT : kTW qEnv k.2.2.2.1) (hk : aNx qEnv qPh ρ n L k) : ∃ q ∈ G, k.1 = q.1 ∧ ∃ ρ' : Nat → Int, (∀ j, j < n0 → ρ' j = ρ j) ∧ aGS qEnv qPh ρ' q.2.1 k := by
  obtain ⟨q, q1, q2, ρ2, q3, q4, q5⟩ := hk
  have h := List.all_eq_true.mp h q q1
  rw [q2] at h
  exact acut_okT (J := fun _ => True) (w0 := k.2.2.2.1) (mods := []) (G := (G, [], [], [])) (T := fun k' => ∃ q ∈ G, k'.1 = q.1 ∧ ∃ ρ' : Nat → Int, (∀ j, j < n0 → ρ' j = ρ j) ∧ aGS qEnv qPh ρ' q.2.1 k') qE_ok qPh_ok hT q5 (Nat.le_trans hn q4) (fun j hj => q3 j (Nat.lt_of_lt_of_le hj hn)) (kFr.rf _ _ _) trivial (b := none) (fun z hz => by cases hz) hwf (fun q hq ρ' k' e1 e2 e3 _ _ _ _ => ⟨q, hq, e1, ρ', e2, e3⟩) G (fun _ h => h) h
set_option maxRecDepth 16384 in
def iv (ρ : Nat → Int) (v : Nat) : KV := .inl (.int (Int32.ofInt (ρ v)))
set_option maxRecDepth 16384 in
theorem aR_iv {n : Nat} {ρ : Nat → Int} {v : Nat} {x : KV} (h : aR qEnv n ρ (.inl (0, [(v, 1)])) x) : x = iv ρ v := by
  have := h.2
  rw [lev_i1, Int.zero_add] at this
  exact this
set_option maxRecDepth 16384 in
theorem aR_rf {n : Nat} {ρ : Nat → Int} {m : Nat} {x : KV} (h : aR qEnv n ρ (.inr (2, m)) x) : x = .inl (.ref m) := ((vOK2 (t := (2, (m : Int), 0)) rfl).mp h.2).1
set_option maxRecDepth 16384 in
theorem argsF {n m : Nat} {ρ : Nat → Int} {st : List KV} (h : aSt qEnv n ρ [.inl (0, [(7, 1)]), .inl (0, [(6, 1)]), .inl (0, [(5, 1)]), .inl (0, [(4, 1)]), .inl (0, [(3, 1)]), .inr (2, m)] st) : st = [iv ρ 7, iv ρ 6, iv ρ 5, iv ρ 4, iv ρ 3, .inl (.ref m)] := by
  obtain ⟨v1, s1, rfl, h1, h⟩ := aSt_cons h
  obtain ⟨v2, s2, rfl, h2, h⟩ := aSt_cons h
  obtain ⟨v3, s3, rfl, h3, h⟩ := aSt_cons h
  obtain ⟨v4, s4, rfl, h4, h⟩ := aSt_cons h
  obtain ⟨v5, s5, rfl, h5, h⟩ := aSt_cons h
  obtain ⟨v6, s6, rfl, h6, h⟩ := aSt_cons h
  rw [aSt_nil h, aR_iv h1, aR_iv h2, aR_iv h3, aR_iv h4, aR_iv h5, aR_rf h6]
set_option maxRecDepth 16384 in
theorem RT_fr {ms : MOD} {w0 w : KW} (h : RT w0 w0) (hF : kFr qEnv ms w0 w) (h1 : ms.all (fun q => !(Nat.beq q.1 2)) = true) (h2 : ms.all (fun q => !(Nat.beq q.1 22)) = true) : RT w w := RT_r (RT_l h hF h1) hF h2
set_option maxRecDepth 16384 in
theorem qGH_wf : ∀ q ∈ qGH.1, apwf 9 q.2.1 = true := by decide +kernel
set_option maxRecDepth 16384 in
theorem qGFb_wf : ∀ q ∈ qGFb.1, apwf 9 q.2.1 = true := by decide +kernel
set_option maxRecDepth 16384 in
theorem qGO1_wf : ∀ q ∈ qGO1, apwf 9 q.2.1 = true := by decide +kernel
set_option maxRecDepth 16384 in
theorem qGOP_wf : ∀ q ∈ qGOP, apwf 10 q.2.1 = true := by decide +kernel
set_option maxRecDepth 16384 in
theorem qGOC_wf : ∀ q ∈ qGOC, apwf 10 q.2.1 = true := by decide +kernel
set_option maxRecDepth 16384 in
theorem u8 {xs : List Int32} {i u : Int} : wind xs i u 8 = u := rfl
set_option maxRecDepth 16384 in
/-- the tape's length, known at a place -/
theorem tc_u {xs : List Int32} {i u : Int} (hu : 0 ≤ u) (hu2 : u ≤ 940) {ρ : Nat → Int} (hag : ∀ j, j < 9 → ρ j = wind xs i u j) {S : AS} {k : KF} (hG : aGS qEnv qPh ρ S k) {a c : Nat} (hm : ((a, ((c : Int), [])), (Sum.inl (0, [(8, 1)]) : AV)) ∈ S.2.2.2.2.2.1) (ha : a < 2000000) : wm zr k.2.2.2.1 (a : Int) (c : Int) = u := by
  rw [tc_num hG hm ha, lev_i1, hag 8 (by decide), u8, Int.zero_add, i32_id (by omega) (by omega)]
section LCASES
variable (X : KO) {xs : List Int32} {i u : Int}
/-- what the next head wants -/
abbrev lNext (X : KO) (xs : List Int32) (i u : Int) : Prop := ∀ (ρ : Nat → Int) (k : KF), k.1 = 23 → (∀ j, j < 9 → ρ j = wind xs i u j) → aGS qEnv qPh ρ qSN k → kTW qEnv k.2.2.2.1 → kWT k.2.2.2.1 → RT k.2.2.2.1 k.2.2.2.1 → LL k.2.2.2.1 → TGL X xs k
set_option maxRecDepth 16384 in
theorem lNext_H {w0 : KW} (hN : lNext X xs i u) (hR : RT w0 w0) (hL : LL w0) : HCT qEnv qPh [] 9 qGH (wind xs i u) w0 none kWT (TGL X xs) := by
  intro q hq ρ k e1 e2 e3 e4 e5 e6 _
  have hq := List.mem_singleton.mp hq
  subst hq
  exact hN ρ k e1 e2 e3 e4 e6 (RT_fr hR e5 rfl rfl) (LL_fr hL e5 (by decide))
set_option maxRecDepth 16384 in
theorem law_feed2 (hu : 0 ≤ u) (hu2 : u ≤ 940) (hN : lNext X xs i u) {S : AS} {L : List (Nat × AS)} (hL1 : qstp 282 qModFB [210] S = some L) (hx : expl qEnv qPh qCSL [] true 7 kRc0 kRs0 (some .boolean) qPL qPostL 9 (lfc 70) qGH none 600 L = true) (hS1 : 9 ≤ S.1) (hS2 : S.2.2.2.2.1 = [.inl (0, [(7, 1)]), .inl (0, [(6, 1)]), .inl (0, [(5, 1)]), .inl (0, [(4, 1)]), .inl (0, [(3, 1)]), .inr (2, 148)]) (hS3 : ((148, (2, [])), (Sum.inl (0, [(8, 1)]) : AV)) ∈ S.2.2.2.2.2.1) {w w1 : KW} {rl : List (Nat × Int)} (hT0 : kTW qEnv w) (hR0 : RT w w) (hL0 : LL w) (hu0 : wm zr w 1 1 = u) (ra : Run X zr 15 [(1, 0), (1, kc zr (iv (wind xs i u) 3)), (1, kc zr (iv (wind xs i u) 4)), (1, kc zr (iv (wind xs i u) 5)), (1, kc zr (iv (wind xs i u) 6)), (1, kc zr (iv (wind xs i u) 7))] (wm zr w) rl (wm zr w1)) (hF1 : kFr qEnv qModFA w w1) {ρ : Nat → Int} {k : KF} (hk : k.1 = 282) (hag : ∀ j, j < 9 → ρ j = wind xs i u j) (hG : aGS qEnv qPh ρ S k) (hT : kTW qEnv k.2.2.2.1) (hW : kWT k.2.2.2.1) (hF : kFr qEnv [] w1 k.2.2.2.1) : TGL X xs k := by
  obtain ⟨f, k3, e1, t3, f3, w3, n3, r3⟩ := qstp_ok X hL1 (ig := .invokevirtual 26) (x := (189, 5, 0, 0, 11)) (by decide +kernel) rfl hk hT hW hG hS1 hag
  have e1 : kcallV (callL X 70 f) kRc0 kRs0 (189, 5, 0, 0, 11) k.1 k.2.1 k.2.2.1 k.2.2.2.1 k.2.2.2.2.1 k.2.2.2.2.2 = some k3 := e1
  obtain ⟨b, rest, r, w', a1, a2, -, -, a5, a6⟩ := kcallV_inv e1
  have hst := hG.2.2.1
  rw [hS2] at hst
  have hst := argsF hst
  rw [hst] at a1 a2
  have a1 : [Sum.inl (.ref 148)] = (Sum.inl (.ref b) : KV) :: rest := a1
  cases a1
  have hiv : ∀ v, v < 9 → iv ρ v = iv (wind xs i u) v := fun v hv => by
    unfold iv
    rw [hag v hv]
  rw [hiv 3 (by decide), hiv 4 (by decide), hiv 5 (by decide), hiv 6 (by decide), hiv 7 (by decide)] at a2
  have rb : Run X zr 189 [(1, 148), (1, kc zr (iv (wind xs i u) 3)), (1, kc zr (iv (wind xs i u) 4)), (1, kc zr (iv (wind xs i u) 5)), (1, kc zr (iv (wind xs i u) 6)), (1, kc zr (iv (wind xs i u) 7))] (wm zr k.2.2.2.1) (r.toList.map (kcc zr)) (wm zr k3.2.2.2.1) := ⟨f, 70, _, _, r, w', a2, hW, rfl, rfl, rfl, by rw [a6]⟩
  have hR1 : RT w k.2.2.2.1 := RT_r (RT_r hR0 hF1 rfl) hF rfl
  obtain ⟨L', hj, -⟩ := feed_pair (kTW_ref hT0 (a := 0) (k := 0) (r := 1) (by decide) (by decide) rfl) (TJ_of hT0 hT hR1 hu0 (tc_u hu hu2 hag hG hS3 (by decide)) hu) hu2 ra rb
  have hR3 : RT w1 k3.2.2.2.1 := TJ_to hj
  have hR4 : RT k3.2.2.2.1 k3.2.2.2.1 := RT_l (RT_l hR3 hF rfl) f3 rfl
  have hL4 : LL k3.2.2.2.1 := LL_fr (LL_fr (LL_fr hL0 hF1 (by decide)) hF (by decide)) f3 (by decide)
  exact r3 (ex_go X qGH_wf (lNext_H X hN hR4 hL4) hx hag hS1 n3 t3 (kFr.rf _ _ _) w3)
set_option maxRecDepth 16384 in
theorem law_feed (hu : 0 ≤ u) (hu2 : u ≤ 940) (hN : lNext X xs i u) {ρ : Nat → Int} {k : KF} (hk : k.1 = 247) (hag : ∀ j, j < 9 → ρ j = wind xs i u j) (hG : aGS qEnv qPh ρ qSF k) (hT : kTW qEnv k.2.2.2.1) (hW : kWT k.2.2.2.1) (hR : RT k.2.2.2.1 k.2.2.2.1) (hL : LL k.2.2.2.1) : TGL X xs k := by
  obtain ⟨f, k1, e1, t1, f1, w1, n1, r1⟩ := qstp_ok X qF1_e (ig := .invokevirtual 22) (x := (15, 5, 0, 0, 10)) (by decide +kernel) rfl hk hT hW hG (by decide) hag
  have e1 : kcallV (callL X 70 f) kRc0 kRs0 (15, 5, 0, 0, 10) k.1 k.2.1 k.2.2.1 k.2.2.2.1 k.2.2.2.2.1 k.2.2.2.2.2 = some k1 := e1
  obtain ⟨b, rest, r, w', a1, a2, -, -, a5, a6⟩ := kcallV_inv e1
  have hst := argsF hG.2.2.1
  rw [hst] at a1 a2
  have a1 : [Sum.inl (.ref 0)] = (Sum.inl (.ref b) : KV) :: rest := a1
  cases a1
  have hiv : ∀ v, v < 9 → iv ρ v = iv (wind xs i u) v := fun v hv => by
    unfold iv
    rw [hag v hv]
  rw [hiv 3 (by decide), hiv 4 (by decide), hiv 5 (by decide), hiv 6 (by decide), hiv 7 (by decide)] at a2
  have ra : Run X zr 15 [(1, 0), (1, kc zr (iv (wind xs i u) 3)), (1, kc zr (iv (wind xs i u) 4)), (1, kc zr (iv (wind xs i u) 5)), (1, kc zr (iv (wind xs i u) 6)), (1, kc zr (iv (wind xs i u) 7))] (wm zr k.2.2.2.1) (r.toList.map (kcc zr)) (wm zr k1.2.2.2.1) := ⟨f, 70, _, _, r, w', a2, hW, rfl, rfl, rfl, by rw [a6]⟩
  have hu0 : wm zr k.2.2.2.1 1 1 = u := tc_u hu hu2 hag hG (a := 1) (c := 1) List.mem_cons_self (by decide)
  refine r1 (ex_go X qGFb_wf (w0 := k1.2.2.2.1) (mods := []) ?_ qF1_x hag (by decide) n1 t1 (kFr.rf _ _ _) w1)
  intro q hq ρ2 k2 c1 c2 c3 c4 c5 c6 _
  rcases List.mem_cons.mp hq with rfl | hq
  · exact law_feed2 X hu hu2 hN qF2a_e qF2a_x (by decide) rfl (List.mem_cons_of_mem _ List.mem_cons_self) hT hR hL hu0 ra f1 c1 c2 c3 c4 c6 c5
  · have hq := List.mem_singleton.mp hq
    subst hq
    exact law_feed2 X hu hu2 hN qF2b_e qF2b_x (by decide) rfl (List.mem_cons_of_mem _ List.mem_cons_self) hT hR hL hu0 ra f1 c1 c2 c3 c4 c6 c5
set_option maxRecDepth 16384 in
theorem law_office (hXW : XW X) (hXS : XS X) (hu : 0 ≤ u) (hu2 : u ≤ 940) (hN : lNext X xs i u) {ρ : Nat → Int} {k : KF} (hk : k.1 = 315) (hag : ∀ j, j < 9 → ρ j = wind xs i u j) (hG : aGS qEnv qPh ρ qSO k) (hT : kTW qEnv k.2.2.2.1) (hW : kWT k.2.2.2.1) (hR : RT k.2.2.2.1 k.2.2.2.1) (hL : LL k.2.2.2.1) : TGL X xs k := by
  obtain ⟨f, k1, e1, t1, f1, w1, n1, r1⟩ := qstp_ok X qfO1_e (ig := .invokevirtual 32) (x := (25, 0, 0, 0, 10)) (by decide +kernel) rfl hk hT hW hG (by decide) hag
  refine r1 ?_
  have e1 : kcallV (callL X 70 f) kRc0 kRs0 (25, 0, 0, 0, 10) k.1 k.2.1 k.2.2.1 k.2.2.2.1 k.2.2.2.2.1 k.2.2.2.2.2 = some k1 := e1
  obtain ⟨b, rest, r, w', a1, a2, -, -, a5, a6⟩ := kcallV_inv e1
  obtain ⟨v, s', hst, hv, hs⟩ := aSt_cons hG.2.2.1
  rw [aSt_nil hs, aR_rf hv] at hst
  rw [hst] at a1 a2
  have a1 : [Sum.inl (.ref 0)] = (Sum.inl (.ref b) : KV) :: rest := a1
  cases a1
  have ra : Run X zr 25 [(1, 0)] (wm zr k.2.2.2.1) (r.toList.map (kcc zr)) (wm zr k1.2.2.2.1) := ⟨f, 70, _, _, r, w', a2, hW, rfl, rfl, rfl, by rw [a6]⟩
  obtain ⟨q, hq, g0, ρ1, g1, g2⟩ := anx_cut qfO1_c qGO1_wf (Nat.le_refl 9) t1 n1
  have hq := List.mem_singleton.mp hq
  subst hq
  have hag1 : ∀ j, j < 9 → ρ1 j = wind xs i u j := fun j hj => by rw [g1 j hj, hag j hj]
  obtain ⟨v1, s1, hst1, hv1, hs1⟩ := aSt_cons g2.2.2.1
  rw [aSt_nil hs1, aR_iv hv1] at hst1
  rw [a5, List.append_nil] at hst1
  rw [hst1] at ra
  obtain ⟨f2', k2, -, t2, f2, w2, n2, r2⟩ := qstp_ok X qfO2_e (ig := .aload_n 2) (x := (0, 0, 0, 0, 0)) (by decide +kernel) rfl g0 t1 w1 g2 (by decide) hag1
  refine r2 ?_
  obtain ⟨q, hq, h0, ρ2, h1, h2⟩ := anx_cut qfO2_c qGOP_wf (Nat.le_refl 10) t2 n2
  have hq := List.mem_singleton.mp hq
  subst hq
  have hag2 : ∀ j, j < 9 → ρ2 j = wind xs i u j := fun j hj => by rw [h1 j (by omega), hag1 j hj]
  obtain ⟨f3', k3, e3, t3, f3, w3, n3, r3⟩ := qstp_ok X qfO3_e (ig := .invokevirtual 36) (x := (230, 0, 0, 0, 11)) (by decide +kernel) rfl h0 t2 w2 h2 (by decide) hag2
  refine r3 ?_
  have e3 : kcallV (callL X 70 f3') kRc0 kRs0 (230, 0, 0, 0, 11) k2.1 k2.2.1 k2.2.2.1 k2.2.2.2.1 k2.2.2.2.2.1 k2.2.2.2.2.2 = some k3 := e3
  obtain ⟨b', rest', r', w'', b1, b2, -, -, b5, b6⟩ := kcallV_inv e3
  obtain ⟨va, sa, hst2, hva, hs2⟩ := aSt_cons h2.2.2.1
  obtain ⟨vb, sb, hst3, hvb, hs3⟩ := aSt_cons hs2
  rw [hst3, aSt_nil hs3, aR_rf hva, aR_iv hvb] at hst2
  rw [hst2] at b1 b2
  have b1 : [Sum.inl (.ref 148), iv ρ2 9] = (Sum.inl (.ref b') : KV) :: rest' := b1
  cases b1
  have rb : Run X zr 230 [(1, 148)] (wm zr k2.2.2.2.1) (r'.toList.map (kcc zr)) (wm zr k3.2.2.2.1) := ⟨f3', 70, _, _, r', w'', b2, w2, rfl, rfl, rfl, by rw [b6]⟩
  obtain ⟨q, hq, j0, ρ3, j1, j2⟩ := anx_cut qfO3_c qGOC_wf (Nat.le_refl 10) t3 n3
  have hq := List.mem_singleton.mp hq
  subst hq
  have hag3 : ∀ j, j < 9 → ρ3 j = wind xs i u j := fun j hj => by rw [j1 j (by omega), hag2 j hj]
  have hR2 : RT k2.2.2.2.1 k2.2.2.2.1 := RT_fr (RT_fr hR f1 rfl rfl) f2 rfl rfl
  have hR3 : RT k3.2.2.2.1 k3.2.2.2.1 := RT_fr hR2 f3 rfl rfl
  have hL3 : LL k3.2.2.2.1 := LL_fr (LL_fr (LL_fr hL f1 (by decide)) f2 (by decide)) f3 (by decide)
  have hRx : RT k.2.2.2.1 k2.2.2.2.1 := RT_r (RT_r hR f1 rfl) f2 rfl
  obtain ⟨vc, sc, hst4, hvc, hs4⟩ := aSt_cons j2.2.2.1
  obtain ⟨vd, sd, hst5, hvd, hs5⟩ := aSt_cons hs4
  have hvc' := aR_iv hvc
  have hvd' := aR_iv hvd
  have hrl := office_ok hXW hXS (OffA_of hT hL) (OffB_of t2) (TapeR_of hRx (tc_u hu hu2 hag hG (a := 1) (c := 1) List.mem_cons_self (by decide)) (tc_u hu hu2 hag2 h2 (a := 148) (c := 2) (List.mem_cons_of_mem _ List.mem_cons_self) (by decide)) hu hu2) ra rb
  rw [hst5, aSt_nil hs5, hvc', hvd'] at hst4
  rw [b5] at hst4
  have hr' : r' = some (iv ρ3 10) := by
    cases r' with
    | none =>
      have : (1 : Nat) = 2 := congrArg List.length hst4
      omega
    | some z =>
      injection hst4 with q1 q2
      rw [q1]
  rw [hr'] at hrl
  have hrl : [(1, (Int32.ofInt (ρ1 9)).toInt)] = [(1, (Int32.ofInt (ρ3 10)).toInt)] := hrl
  have heq : Int32.ofInt (ρ1 9) = Int32.ofInt (ρ3 10) := Int32.toInt_inj.mp (by injection hrl with q1 q2; injection q1)
  have e9 : ρ3 9 = ρ1 9 := by rw [j1 9 (by decide), h1 9 (by decide)]
  have hG4 : aGS qEnv qPh ρ3 qSC k3 := by
    refine ⟨j2.1, j2.2.1, ?_, j2.2.2.2⟩
    show aSt qEnv 11 ρ3 [.inl (0, [(9, 1)]), .inl (0, [(9, 1)])] k3.2.2.1
    rw [b5, hst4]
    refine ⟨⟨lwf1 (by decide), ?_⟩, ⟨lwf1 (by decide), ?_⟩, trivial⟩
    · rw [lev_i1, Int.zero_add, e9, heq]
      rfl
    · rw [lev_i1, Int.zero_add]
      rfl
  exact ap_go X qGH_wf (w0 := k3.2.2.2.1) (lNext_H X hN hR3 hL3) qfO4_e qfO4_x j0 hag3 (by decide) hG4 t3 (kFr.rf _ _ _) w3
end LCASES
set_option maxRecDepth 16384 in
theorem law_TG (X : KO) (hXW : XW X) (hXS : XS X) {xs : List Int32} (hlen : xs.length ≤ 3072) : ∀ (m : Nat) (i u : Int) (k : KF), (xs.length : Int) - i < m → HeadAt 0 (fun _ => 0) i u k → kWT k.2.2.2.1 → RT k.2.2.2.1 k.2.2.2.1 → LL k.2.2.2.1 → 0 ≤ i → i ≤ (xs.length : Int) → 0 ≤ u → u ≤ 940 → TGL X xs k := by
  intro m
  induction m with
  | zero => intro i u k h1 _ _ _ _ _ h4 _ _; omega
  | succ m ih =>
    intro i u k h1 hH hW hR hL hi hi2 hu hu2
    have hG := head_to hlen hH hi hi2 hu hu2
    have hT := hH.2.2.2.2.1
    have hN : lNext X xs i u := by
      intro ρ k' e1 e2 e3 e4 e5 e6 e7
      obtain ⟨hH2, g1, g2, g3⟩ := head_of e1 e4 e3
      have e0 : ρ 0 = (xs.length : Int) := e2 0 (by decide)
      have e9 : ρ 1 = i := e2 1 (by decide)
      rw [e9] at hH2 g3
      rw [e0] at g3
      exact ih (i + 6) (ρ 9) k' (by omega) hH2 e5 e6 e7 (by omega) g3 g1 g2
    have hC : HCT qEnv qPh qModB 9 qGL (wind xs i u) k.2.2.2.1 none kWT (TGL X xs) := by
      intro q hq ρ k' e1 e2 e3 e4 e5 e6 _
      have hR' := RT_fr hR e5 rfl rfl
      have hL' := LL_fr hL e5 (by decide)
      rcases List.mem_cons.mp hq with rfl | hq
      · exact hN ρ k' e1 e2 e3 e4 e6 hR' hL'
      · rcases List.mem_cons.mp hq with rfl | hq
        · exact law_feed X hu hu2 hN e1 e2 e3 e4 e6 hR' hL'
        · have hq := List.mem_singleton.mp hq
          subst hq
          exact law_office X hXW hXS hu hu2 hN e1 e2 e3 e4 e6 hR' hL'
    obtain ⟨f, hf⟩ := qLE
    exact ap_go X qGL_wf hC qLA_eq hf hH.1 (fun _ _ => rfl) (by decide) hG hT (kFr.rf _ _ _) hW
