/-! The law's round with the tapes alike: feed and office by hand, all else by the explorer. -/
set_option maxRecDepth 16384 in
theorem qHelp_pr {prog : List KEnt} {X : KO} {f d : Nat} {args : List KV} {w w2 : KW} {r : Option KV} (h : qHelp prog X f d args w = some (r, w2)) (hw : kWT w) : kWT w2 := by
  obtain ⟨a, b, r, w', bz, -, ⟨ig, pc, lo, st, c, s, h1, -⟩, hb, -⟩ := qHelp_inv h
  have hw' : kWT w' := krx_pr (kcallx_pr _ _ _ _) f (0, kargs 0 [.inl (.ref 0), .inl (.int a), .inl (.int b)], [], w, 0, 0) _ hw h1
  rcases hb with ⟨-, -, rfl⟩ | ⟨z, l1, d1, n, -, -, -, -, rfl⟩
  · exact hw'
  · exact kWT_set hw' trivial
set_option maxRecDepth 16384 in
theorem kPrC_L (X : KO) (f : Nat) : kPrC (callL X 70 f) := by
  intro mid as w r w' h hw
  unfold callL at h
  cases q1 : Nat.beq mid 298 with
  | true => rw [q1] at h; exact qHelp_pr h hw
  | false =>
    rw [q1] at h
    cases q2 : Nat.beq mid 299 with
    | true => rw [q2] at h; exact qHelp_pr h hw
    | false => rw [q2] at h; exact kcallx_pr _ _ _ _ _ _ _ _ _ h hw
set_option maxRecDepth 16384 in
theorem TGL_ofM {X : KO} {xs : List Int32} {k : KF} {mods : MOD} {n0 : Nat} {ρ0 : Nat → Int} {w0 : KW} (h : TG qEnv qPh (callL X 70) X mods (rgx xs) (xs.length + 1) 7 kRc0 kRs0 (some .boolean) qPL qPostL n0 ρ0 w0 k) : TGL X xs k := by
  obtain ⟨ig, ⟨pc2, lo2, st2, w2, c2, s2⟩, h1, h2, h3, h4, -, r, h6, P, h7, ρ', -, -, h10⟩ := h
  have hP := List.mem_singleton.mp h7
  rw [hP] at h10
  have h6 : kretx (some .boolean) ig st2 = some r := h6
  obtain ⟨rfl, e⟩ := kretx_bool h6
  have h11 : aSt qEnv 9 ρ' [.inl (1, [])] r.toList := h10.2.2.1
  rw [← e] at h11
  obtain ⟨v, s', rfl, hv, hs⟩ := aSt_cons h11
  have hv2 : v = .inl (.int 1) := hv.2
  have hs2 := aSt_nil hs
  subst hv2; subst hs2
  exact ⟨pc2, lo2, w2, c2, s2, h1, h2, h3, h4, qIa_of h10.2.2.2.2 (fun e h => absurd h List.not_mem_nil)⟩
set_option maxRecDepth 16384 in
theorem TGL_cl {X : KO} {xs : List Int32} (k k' : KF) (h : ∀ r, RN (callL X 70) X (rgx xs) (xs.length + 1) 7 kRc0 kRs0 qPL k' r → RN (callL X 70) X (rgx xs) (xs.length + 1) 7 kRc0 kRs0 qPL k r) (t : TGL X xs k') : TGL X xs k := by
  obtain ⟨pc2, lo2, w2, c2, s2, h1, t⟩ := t
  exact ⟨pc2, lo2, w2, c2, s2, h _ h1, t⟩
set_option maxRecDepth 16384 in
theorem lM70 {ρ : Nat → Int} : lev ρ (lfc 70) < ((70 : Nat) : Int) + 1 := by
  rw [lev_c]; decide
set_option maxRecDepth 16384 in
theorem lHb {ρ : Nat → Int} {n : Nat} : ∀ z, (none : Option Int) = some z → ∃ M, (none : Option LF) = some M ∧ lwf n M ∧ lev ρ M = z := fun z hz => by cases hz
section LGO
variable (X : KO) {xs : List Int32} {i u : Int}
set_option maxRecDepth 16384 in
/-- the explorer's word from a state on -/
theorem ex_go {mods : MOD} {G : KG} (hwf : ∀ q ∈ G.1, apwf 9 q.2.1 = true) {w0 : KW} (hH : HCT qEnv qPh mods 9 G (wind xs i u) w0 none kWT (TGL X xs)) {f : Nat} {L : List (Nat × AS)} (hx : expl qEnv qPh qCSL mods true 7 kRc0 kRs0 (some .boolean) qPL qPostL 9 (lfc 70) G none f L = true) {ρ : Nat → Int} {n : Nat} {k : KF} (hag : ∀ j, j < 9 → ρ j = wind xs i u j) (hn : 9 ≤ n) (hk : aNx qEnv qPh ρ n L k) (hT : kTW qEnv k.2.2.2.1) (hF : kFr qEnv mods w0 k.2.2.2.1) (hW : kWT k.2.2.2.1) : TGL X xs k := by
  obtain ⟨q, q1, q2, ρ2, q3, q4, q5⟩ := hk
  exact expl_okT (J := kWT) (T := TGL X xs) (fun f ig x pc lo st w c s k he h hw => kdx_pr he (kPrC_L X f) hw k h) (fun _ _ _ => TGL_ofM) TGL_cl (callL_mono X 70) qE_ok qE_w qPh_ok (qCSL_ok X 70) qPostL_wf hwf (lwf_c _ _) lM70 wind_sc (Nat.le_refl 9) (fun _ _ => rfl) lHb hH f L hx q q1 ρ2 k q2 (fun j hj => by rw [q3 j (by omega), hag j hj]) (Nat.le_trans hn q4) q5 hT hF hW
set_option maxRecDepth 16384 in
/-- the same, one step ahead -/
theorem ap_go {mods : MOD} {G : KG} (hwf : ∀ q ∈ G.1, apwf 9 q.2.1 = true) {w0 : KW} (hH : HCT qEnv qPh mods 9 G (wind xs i u) w0 none kWT (TGL X xs)) {f : Nat} {L : List (Nat × AS)} {S : AS} {pc : Nat} (hA : aproc qEnv qPh qCSL mods true 7 kRc0 kRs0 (some .boolean) qPL qPostL 9 (lfc 70) G none true pc S = some L) (hx : expl qEnv qPh qCSL mods true 7 kRc0 kRs0 (some .boolean) qPL qPostL 9 (lfc 70) G none f L = true) {ρ : Nat → Int} {k : KF} (hk : k.1 = pc) (hag : ∀ j, j < 9 → ρ j = wind xs i u j) (hn : 9 ≤ S.1) (hG : aGS qEnv qPh ρ S k) (hT : kTW qEnv k.2.2.2.1) (hF : kFr qEnv mods w0 k.2.2.2.1) (hW : kWT k.2.2.2.1) : TGL X xs k := by
  subst hk
  rcases aproc_okT (J := kWT) (T := TGL X xs) (fun f ig x pc lo st w c s k he h hw => kdx_pr he (kPrC_L X f) hw k h) (fun _ _ _ => TGL_ofM) (callL_mono X 70) qE_ok qE_w qPh_ok (qCSL_ok X 70) qPostL_wf hwf hT hG hn hag hF hW (lwf_c _ _) lM70 wind_sc lHb hH hA with t | ⟨k', k1, k2, k3, kj, p⟩
  · exact t
  · exact TGL_cl _ _ k1 (ex_go X hwf hH hx hag hn p k2 k3 kj)
set_option maxRecDepth 16384 in
/-- one step by hand -/
theorem qstp_ok {ρ : Nat → Int} {S : AS} {pc : Nat} {mods : MOD} {cl : List Nat} {L : List (Nat × AS)} (h : qstp pc mods cl S = some L) {ig : Instr} {x : KX} (hp : kat qPL pc = some (ig, x)) (he : kendx ig = false) {k : KF} (hk : k.1 = pc) (hT : kTW qEnv k.2.2.2.1) (hW : kWT k.2.2.2.1) (hG : aGS qEnv qPh ρ S k) (hn : 9 ≤ S.1) (hag : ∀ j, j < 9 → ρ j = wind xs i u j) : ∃ f k', kdx ig X (callL X 70 f) (rgx xs) (xs.length + 1) 7 kRc0 kRs0 x k.1 k.2.1 k.2.2.1 k.2.2.2.1 k.2.2.2.2.1 k.2.2.2.2.2 = some k' ∧ kTW qEnv k'.2.2.2.1 ∧ kFr qEnv mods k.2.2.2.1 k'.2.2.2.1 ∧ kWT k'.2.2.2.1 ∧ aNx qEnv qPh ρ S.1 L k' ∧ (TGL X xs k' → TGL X xs k) := by
  subst hk
  unfold qstp at h
  rw [hp] at h
  obtain ⟨f, k', f1, f2, f3⟩ := astp_ok (X := X) (clk := callL X 70) (d := 70) (rgk := rgx xs) (L0 := xs.length + 1) (pc := k.1) (lo := k.2.1) (st := k.2.2.1) (w := k.2.2.2.1) (c := k.2.2.2.2.1) (s := k.2.2.2.2.2) qE_ok qE_w qPh_ok (qCSL_ok X 70) hT hG (lwf_c _ _) lM70 ((wind_sc (xs := xs) (i := i) (u := u)).ag hn hag) h
  obtain ⟨l, hk⟩ := kat_inv hp
  exact ⟨f, k', f1, f2.1, f2.2, kdx_pr he (kPrC_L X f) hW k' f1, f3, TGL_cl _ _ (fun r hr => RN_step (callL_mono X 70) hk (Nat.beq_refl _) he f1 hr)⟩
end LGO
set_option maxRecDepth 16384 in
/-- what comes of some states, as a pattern -/
theorem anx_cut {n0 : Nat} {L : List (Nat × AS)} {G : List (Nat × AS × LF)} (h : L.all (fun q => acut qEnv n0 none q.1 q.2 G) = true) (hwf : ∀ q ∈ G, apwf n0 q.2.1 = true) {ρ : Nat → Int} {n : Nat} {k : KF} (hn : n0 ≤ n) (hT : kTW qEnv k.2.2.2.1) (hk : aNx qEnv qPh ρ n L k) : ∃ q ∈ G, k.1 = q.1 ∧ ∃ ρ' : Nat → Int, (∀ j, j < n0 → ρ' j = ρ j) ∧ aGS qEnv qPh ρ' q.2.1 k := by
  obtain ⟨q, q1, q2, ρ2, q3, q4, q5⟩ := hk
  have h := List.all_eq_true.mp h q q1
  rw [q2] at h
  exact acut_okT (J := fun _ => True) (w0 := k.2.2.2.1) (mods := []) (G := (G, [], [], [])) (T := fun k' => ∃ q ∈ G, k'.1 = q.1 ∧ ∃ ρ' : Nat → Int, (∀ j, j < n0 → ρ' j = ρ j) ∧ aGS qEnv qPh ρ' q.2.1 k') qE_ok qPh_ok hT q5 (Nat.le_trans hn q4) (fun j hj => q3 j (Nat.lt_of_lt_of_le hj hn)) (kFr.rf _ _ _) trivial (b := none) (fun z hz => by cases hz) hwf (fun q hq ρ' k' e1 e2 e3 _ _ _ _ => ⟨q, hq, e1, ρ', e2, e3⟩) G (fun _ h => h) h
set_option maxRecDepth 16384 in
def iv (ρ : Nat → Int) (v : Nat) : KV := .inl (.int (Int32.ofInt (ρ v)))
set_option maxRecDepth 16384 in
theorem aR_iv {n : Nat} {ρ : Nat → Int} {v : Nat} {x : KV} (h : aR qEnv n ρ (.inl (0, [(v, 1)])) x) : x = iv ρ v := by
  have := h.2
  rw [lev_i1, Int.zero_add] at this
  exact this
set_option maxRecDepth 16384 in
theorem aR_rf {n : Nat} {ρ : Nat → Int} {m : Nat} {x : KV} (h : aR qEnv n ρ (.inr (2, m)) x) : x = .inl (.ref m) := ((vOK2 (t := (2, (m : Int), 0)) rfl).mp h.2).1
set_option maxRecDepth 16384 in
theorem RT_fr {ms : MOD} {w0 w : KW} (h : RT w0 w0) (hF : kFr qEnv ms w0 w) (h1 : ms.all (fun q => !(Nat.beq q.1 2)) = true) (h2 : ms.all (fun q => !(Nat.beq q.1 22)) = true) : RT w w := RT_r (RT_l h hF h1) hF h2
set_option maxRecDepth 16384 in
theorem qGH_wf : ∀ q ∈ qGH.1, apwf 9 q.2.1 = true := by decide +kernel
set_option maxRecDepth 16384 in
theorem u8 {xs : List Int32} {i u : Int} : wind xs i u 8 = u := rfl
set_option maxRecDepth 16384 in
/-- the tape's length, known at a place -/
theorem tc_u {xs : List Int32} {i u : Int} (hu : 0 ≤ u) (hu2 : u ≤ 940) {ρ : Nat → Int} (hag : ∀ j, j < 9 → ρ j = wind xs i u j) {S : AS} {k : KF} (hG : aGS qEnv qPh ρ S k) {a c : Nat} (hm : ((a, ((c : Int), [])), (Sum.inl (0, [(8, 1)]) : AV)) ∈ S.2.2.2.2.2.1) (ha : a < 2000000) : wm zr k.2.2.2.1 (a : Int) (c : Int) = u := by
  rw [tc_num hG hm ha, lev_i1, hag 8 (by decide), u8, Int.zero_add, i32_id (by omega) (by omega)]
set_option maxRecDepth 16384 in
/-- a value of the script, as an argument -/
def ai (v : Nat) : AV := .inl (0, [(v, 1)])
set_option maxRecDepth 16384 in
theorem argsG {n m : Nat} {ρ : Nat → Int} : ∀ {vs : List Nat} {st : List KV}, aSt qEnv n ρ (vs.map ai ++ [.inr (2, m)]) st → st = vs.map (iv ρ) ++ [.inl (.ref m)] := by
  intro vs
  induction vs with
  | nil =>
    intro st h
    obtain ⟨v, s', rfl, hv, hs⟩ := aSt_cons h
    rw [aSt_nil hs, aR_rf hv]
    rfl
  | cons v vs ih =>
    intro st h
    obtain ⟨x, s', rfl, hv, hs⟩ := aSt_cons h
    rw [ih hs, aR_iv hv]
    rfl
set_option maxRecDepth 16384 in
def lls2 : List (Nat × Nat × Nat) := [(96, 0, 97), (96, 1, 98), (96, 2, 99)]
set_option maxRecDepth 16384 in
def L2 (w : KW) : Prop := ∀ q ∈ lls2, wm zr w (q.1 : Int) (q.2.1 : Int) = (q.2.2 : Int)
set_option maxRecDepth 16384 in
theorem L2_fr {ms : MOD} {w0 w : KW} (h : L2 w0) (hF : kFr qEnv ms w0 w) (hb : lls2.all (fun q => Nat.blt q.1 168 && !(kmodb ms q.1 q.2.1)) = true) : L2 w := by
  intro q hq
  have h1 := Bool.and_eq_true_iff.mp (List.all_eq_true.mp hb q hq)
  have h2 : kmodb ms q.1 q.2.1 = false := by
    cases e : kmodb ms q.1 q.2.1 with
    | false => rfl
    | true => rw [e] at h1; exact absurd h1.2 Bool.false_ne_true
  rw [fr_one hF (Nat.blt_eq.mp h1.1) h2]
  exact h q hq
set_option maxRecDepth 16384 in
/-- all that the law keeps -/
def RW (w : KW) : Prop := RT w w ∧ LL w ∧ L2 w ∧ C2 (wm zr w) (wm zr w)
set_option maxRecDepth 16384 in
def rwok (ms : MOD) : Bool := ms.all (fun q => !(Nat.beq q.1 2)) && (ms.all (fun q => !(Nat.beq q.1 22)) && (lls.all (fun q => Nat.blt q.1 168 && !(kmodb ms q.1 q.2.1)) && lls2.all (fun q => Nat.blt q.1 168 && !(kmodb ms q.1 q.2.1))))
set_option maxRecDepth 16384 in
theorem rwok_ok {ms : MOD} (h : rwok ms = true) : ms.all (fun q => !(Nat.beq q.1 2)) = true ∧ ms.all (fun q => !(Nat.beq q.1 22)) = true ∧ lls.all (fun q => Nat.blt q.1 168 && !(kmodb ms q.1 q.2.1)) = true ∧ lls2.all (fun q => Nat.blt q.1 168 && !(kmodb ms q.1 q.2.1)) = true := by
  obtain ⟨h1, h⟩ := Bool.and_eq_true_iff.mp h
  obtain ⟨h2, h⟩ := Bool.and_eq_true_iff.mp h
  obtain ⟨h3, h4⟩ := Bool.and_eq_true_iff.mp h
  exact ⟨h1, h2, h3, h4⟩
set_option maxRecDepth 16384 in
theorem RW_fr {ms : MOD} {w0 w : KW} (h : RW w0) (h0 : kTW qEnv w0) (h1 : kTW qEnv w) (hF : kFr qEnv ms w0 w) (hm : rwok ms = true) (hc : c2ok ms = true) : RW w := by
  obtain ⟨m1, m2, m3, m4⟩ := rwok_ok hm
  exact ⟨RT_fr h.1 hF m1 m2, LL_fr h.2.1 hF m3, L2_fr h.2.2.1 hF m4, C2_kF h.2.2.2 h0 h1 h0 h1 hF hF hc hc⟩
set_option maxRecDepth 16384 in
theorem pcok_nil : pcok [] = true := by decide +kernel
set_option maxRecDepth 16384 in
theorem pjok_nil : pjok [] = true := by decide +kernel
set_option maxRecDepth 16384 in
/-- a call's number is none of the strings' two -/
def nstr (mid : Nat) : Prop := Nat.beq mid 999994 = false ∧ Nat.beq mid 999993 = false ∧ Nat.beq mid 298 = false ∧ Nat.beq mid 299 = false
set_option maxRecDepth 16384 in
theorem kdx_call {mid : Nat} (hm : nstr mid) {i n a b c : Nat} {X : KO} {call : Nat → List KV → KW → Option (Option KV × KW)} {rg : List (Int × Int)} {L nL Rc Rs pc : Nat} {lo : List (Nat × KV)} {st : List KV} {w : KW} {cc s : Nat} : kdx (.invokevirtual i) X call rg L nL Rc Rs (mid, n, a, b, c) pc lo st w cc s = kcallV call Rc Rs (mid, n, a, b, c) pc lo st w cc s := by
  show (bif Nat.beq mid 999994 then _ else bif Nat.beq mid 999993 then _ else _) = _
  rw [hm.1, hm.2.1]
  rfl
set_option maxRecDepth 16384 in
theorem callL_k {mid : Nat} (hm : nstr mid) {X : KO} {f : Nat} {as : List KV} {w : KW} : callL X 70 f mid as w = kcallx qmeths X f 70 mid as w := by
  unfold callL
  rw [hm.2.2.1, hm.2.2.2]
  rfl
set_option maxRecDepth 16384 in
/-- what a pair of calls is told -/
def PH (u : Int) (wa wa' wb wb' : KW) : Prop := kTW qEnv wa ∧ kTW qEnv wa' ∧ kTW qEnv wb ∧ kTW qEnv wb' ∧ LL wa ∧ L2 wa ∧ C2 (wm zr wa) (wm zr wb) ∧ TapeR (wm zr wa) (wm zr wb) u
section LPAIR
variable (X : KO) {xs : List Int32} {i u : Int}
abbrev lNext (X : KO) (xs : List Int32) (i u : Int) : Prop := ∀ (ρ : Nat → Int) (k : KF), k.1 = 23 → (∀ j, j < 9 → ρ j = wind xs i u j) → aGS qEnv qPh ρ qSN k → kTW qEnv k.2.2.2.1 → kWT k.2.2.2.1 → RW k.2.2.2.1 → TGL X xs k
set_option maxRecDepth 16384 in
theorem lNext_H {w0 : KW} (hN : lNext X xs i u) (h0 : kTW qEnv w0) (hR : RW w0) : HCT qEnv qPh [] 9 qGH (wind xs i u) w0 none kWT (TGL X xs) := by
  intro q hq ρ k e1 e2 e3 e4 e5 e6 _
  have hq := List.mem_singleton.mp hq
  subst hq
  exact hN ρ k e1 e2 e3 e4 e6 (RW_fr hR h0 e4 e5 rfl rfl)
set_option maxRecDepth 16384 in
theorem law_pair (hu : 0 ≤ u) (hu2 : u ≤ 940) (hN : lNext X xs i u) {pcA pcB midA midB cixA cixB iA iB : Nat} {mA mB : MOD} {cA cB : List Nat} {S : AS} {L1 : List (Nat × AS)} {GB : List (Nat × AS × LF)} {vs : List Nat} (hmA : nstr midA) (hmB : nstr midB) (kA : kat qPL pcA = some (.invokevirtual iA, (midA, vs.length, 0, 0, cixA))) (kB : kat qPL pcB = some (.invokevirtual iB, (midB, vs.length, 0, 0, cixB))) (hL1 : qstp pcA mA cA S = some L1) (hx1 : expl qEnv qPh qCSL [] true 7 kRc0 kRs0 (some .boolean) qPL qPostL 9 (lfc 70) (GB, [], [], []) none 600 L1 = true) (hwf : ∀ q ∈ GB, apwf 9 q.2.1 = true) (hB : ∀ q ∈ GB, q.1 = pcB ∧ 9 ≤ q.2.1.1 ∧ q.2.1.2.2.2.2.1 = vs.map ai ++ [.inr (2, 148)] ∧ ∃ L, qstp pcB mB cB q.2.1 = some L ∧ expl qEnv qPh qCSL [] true 7 kRc0 kRs0 (some .boolean) qPL qPostL 9 (lfc 70) qGH none 600 L = true) (hS : 9 ≤ S.1) (hS2 : S.2.2.2.2.1 = vs.map ai ++ [.inr (2, 0)]) (hS3 : ((1, (((1 : Nat) : Int), [])), (Sum.inl (0, [(8, 1)]) : AV)) ∈ S.2.2.2.2.2.1) (hS4 : ((148, (((2 : Nat) : Int), [])), (Sum.inl (0, [(8, 1)]) : AV)) ∈ S.2.2.2.2.2.1) (hv : ∀ v ∈ vs, v < 9) (ok1 : rwok mA = true) (ok2 : rwok mB = true) (ok3 : pjok mA = true) (ok4 : pcok mB = true) (ok5 : mA.all (fun q => !(Nat.beq q.1 21)) = true) (hp : ∀ (wa wa' wb wb' : KW) (rl rl' : List (Nat × Int)), PH u wa wa' wb wb' → Run X zr midA ((1, 0) :: vs.reverse.map (fun v => (1, kc zr (iv (wind xs i u) v)))) (wm zr wa) rl (wm zr wa') → Run X zr midB ((1, 148) :: vs.reverse.map (fun v => (1, kc zr (iv (wind xs i u) v)))) (wm zr wb) rl' (wm zr wb') → C2 (wm zr wa') (wm zr wb')) {ρ : Nat → Int} {k : KF} (hk : k.1 = pcA) (hag : ∀ j, j < 9 → ρ j = wind xs i u j) (hG : aGS qEnv qPh ρ S k) (hT : kTW qEnv k.2.2.2.1) (hW : kWT k.2.2.2.1) (hR : RW k.2.2.2.1) : TGL X xs k := by
  obtain ⟨f, k1, e1, t1, f1, w1, n1, r1⟩ := qstp_ok X hL1 kA rfl hk hT hW hG hS hag
  have e1 : kcallV (callL X 70 f) kRc0 kRs0 (midA, vs.length, 0, 0, cixA) k.1 k.2.1 k.2.2.1 k.2.2.2.1 k.2.2.2.2.1 k.2.2.2.2.2 = some k1 := (kdx_call hmA).symm.trans e1
  obtain ⟨b, rest, r, w', a1, a2, -, -, a5, a6⟩ := kcallV_inv e1
  have hst := hG.2.2.1
  rw [hS2] at hst
  have hst := argsG hst
  have hlen : (vs.map (iv ρ)).length = vs.length := List.length_map _
  rw [hst] at a1 a2
  have a1 : List.drop vs.length (vs.map (iv ρ) ++ [Sum.inl (.ref 0)]) = (Sum.inl (.ref b) : KV) :: rest := a1
  have a2 : callL X 70 f midA (Sum.inl (.ref b) :: (List.take vs.length (vs.map (iv ρ) ++ [Sum.inl (.ref 0)])).reverse) k.2.2.2.1 = some (r, w') := a2
  rw [List.drop_append_of_le_length (by omega), List.drop_of_length_le (by omega)] at a1
  rw [List.take_append_of_le_length (by omega), List.take_of_length_le (by omega)] at a2
  have a1 : [Sum.inl (.ref 0)] = (Sum.inl (.ref b) : KV) :: rest := a1
  cases a1
  have hiv : ∀ (ρ' : Nat → Int), (∀ j, j < 9 → ρ' j = wind xs i u j) → (vs.map (iv ρ')).reverse.map (fun x => ((1 : Nat), kc zr x)) = vs.reverse.map (fun v => (1, kc zr (iv (wind xs i u) v))) := fun ρ' h => by
    rw [List.map_reverse, List.map_reverse, List.map_map]
    congr 1
    refine List.map_congr_left fun v hv' => ?_
    show ((1 : Nat), kc zr (iv ρ' v)) = _
    unfold iv
    rw [h v (hv v hv')]
  have hcc : ∀ (ρ' : Nat → Int), (vs.map (iv ρ')).reverse.map (kcc zr) = (vs.map (iv ρ')).reverse.map (fun x => ((1 : Nat), kc zr x)) := fun ρ' => List.map_congr_left fun x hx => by
    obtain ⟨v, -, rfl⟩ := List.mem_map.mp (List.mem_reverse.mp hx)
    rfl
  have ra : Run X zr midA ((1, 0) :: vs.reverse.map (fun v => (1, kc zr (iv (wind xs i u) v)))) (wm zr k.2.2.2.1) (r.toList.map (kcc zr)) (wm zr k1.2.2.2.1) := ⟨f, 70, _, _, r, w', (callL_k hmA).symm.trans a2, hW, by
    rw [← hiv ρ hag, ← hcc ρ]; rfl, rfl, rfl, by rw [a6]⟩
  refine r1 (ex_go X (w0 := k1.2.2.2.1) (mods := []) hwf ?_ hx1 hag hS n1 t1 (kFr.rf _ _ _) w1)
  intro q hq ρ2 k2 c1 c2 c3 c4 c5 c6 _
  obtain ⟨b1, b2, b3, L, b4, b5⟩ := hB q hq
  obtain ⟨f2', k3, e3, t3, f3, w3, n3, r3⟩ := qstp_ok X b4 kB rfl (c1.trans b1) c4 c6 c3 b2 c2
  have e3 : kcallV (callL X 70 f2') kRc0 kRs0 (midB, vs.length, 0, 0, cixB) k2.1 k2.2.1 k2.2.2.1 k2.2.2.2.1 k2.2.2.2.2.1 k2.2.2.2.2.2 = some k3 := (kdx_call hmB).symm.trans e3
  obtain ⟨b', rest', r', w'', d1, d2, -, -, d5, d6⟩ := kcallV_inv e3
  have hst2 := c3.2.2.1
  rw [b3] at hst2
  have hst2 := argsG hst2
  have hlen2 : (vs.map (iv ρ2)).length = vs.length := List.length_map _
  rw [hst2] at d1 d2
  have d1 : List.drop vs.length (vs.map (iv ρ2) ++ [Sum.inl (.ref 148)]) = (Sum.inl (.ref b') : KV) :: rest' := d1
  have d2 : callL X 70 f2' midB (Sum.inl (.ref b') :: (List.take vs.length (vs.map (iv ρ2) ++ [Sum.inl (.ref 148)])).reverse) k2.2.2.2.1 = some (r', w'') := d2
  rw [List.drop_append_of_le_length (by omega), List.drop_of_length_le (by omega)] at d1
  rw [List.take_append_of_le_length (by omega), List.take_of_length_le (by omega)] at d2
  have d1 : [Sum.inl (.ref 148)] = (Sum.inl (.ref b') : KV) :: rest' := d1
  cases d1
  have rb : Run X zr midB ((1, 148) :: vs.reverse.map (fun v => (1, kc zr (iv (wind xs i u) v)))) (wm zr k2.2.2.2.1) (r'.toList.map (kcc zr)) (wm zr k3.2.2.2.1) := ⟨f2', 70, _, _, r', w'', (callL_k hmB).symm.trans d2, c6, by
    rw [← hiv ρ2 c2, ← hcc ρ2]; rfl, rfl, rfl, by rw [d6]⟩
  obtain ⟨m1, m2, m3, m4⟩ := rwok_ok ok1
  obtain ⟨m1', m2', m3', m4'⟩ := rwok_ok ok2
  have hC : C2 (wm zr k.2.2.2.1) (wm zr k2.2.2.2.1) := C2_ab hR.2.2.2 hT hT hT c4 (kFr.rf _ [] _) (f1.tr (kFr_nil c5)) pcok_nil ok3
  have hRT : RT k.2.2.2.1 k2.2.2.2.1 := RT_r (RT_r hR.1 f1 m2) c5 rfl
  have hu0 : wm zr k.2.2.2.1 1 1 = u := tc_u hu hu2 hag hG hS3 (by decide)
  have hu1 : wm zr k.2.2.2.1 148 2 = u := tc_u hu hu2 hag hG hS4 (by decide)
  have hu2' : wm zr k2.2.2.2.1 148 2 = u := by
    rw [← hu1]
    have e := fr_all c5 (a := 148) (by decide) rfl 2
    have e' := fr_all f1 (a := 148) (by decide) ok5 2
    exact e.trans e'
  have hP : PH u k.2.2.2.1 k1.2.2.2.1 k2.2.2.2.1 k3.2.2.2.1 := ⟨hT, t1, c4, t3, hR.2.1, hR.2.2.1, hC, TapeR_of hRT hu0 hu2' hu hu2⟩
  have hC3 := hp _ _ _ _ _ _ hP ra rb
  have hR3 : RW k3.2.2.2.1 := ⟨RT_fr (RT_fr (RT_fr hR.1 f1 m1 m2) c5 rfl rfl) f3 m1' m2', LL_fr (LL_fr (LL_fr hR.2.1 f1 m3) c5 (by decide)) f3 m3', L2_fr (L2_fr (L2_fr hR.2.2.1 f1 m4) c5 (by decide)) f3 m4', C2_ab hC3 t1 t3 t3 t3 ((kFr_nil c5).tr f3) (kFr.rf _ [] _) ok4 pjok_nil⟩
  exact r3 (ex_go X qGH_wf (lNext_H X hN t3 hR3) b5 c2 b2 n3 t3 (kFr.rf _ _ _) w3)
set_option maxRecDepth 16384 in
theorem ex10 {ρ0 : Nat → Int} (h0 : ∀ j, j < 9 → ρ0 j = wind xs i u j) {G : KG} (hwf : ∀ q ∈ G.1, apwf 10 q.2.1 = true) {w0 : KW} (hH : HCT qEnv qPh [] 10 G ρ0 w0 none kWT (TGL X xs)) {f : Nat} {L : List (Nat × AS)} (hx : expl qEnv qPh qCSL [] true 7 kRc0 kRs0 (some .boolean) qPL [] 10 (lfc 70) G none f L = true) {ρ : Nat → Int} {n : Nat} {k : KF} (hag : ∀ j, j < 10 → ρ j = ρ0 j) (hn : 10 ≤ n) (hk : aNx qEnv qPh ρ n L k) (hT : kTW qEnv k.2.2.2.1) (hF : kFr qEnv [] w0 k.2.2.2.1) (hW : kWT k.2.2.2.1) : TGL X xs k := by
  obtain ⟨q, q1, q2, ρ2, q3, q4, q5⟩ := hk
  exact expl_okT (J := kWT) (T := TGL X xs) (fun f ig x pc lo st w c s k he h hw => kdx_pr he (kPrC_L X f) hw k h) (fun _ _ _ t => by
    obtain ⟨-, -, -, -, -, -, -, -, -, P, hP, -⟩ := t
    exact absurd hP List.not_mem_nil) TGL_cl (callL_mono X 70) qE_ok qE_w qPh_ok (qCSL_ok X 70) (fun P hP => absurd hP List.not_mem_nil) hwf (lwf_c _ _) lM70 ((wind_sc (xs := xs) (i := i) (u := u)).ag (by decide) h0) (Nat.le_refl 10) (fun _ _ => rfl) lHb hH f L hx q q1 ρ2 k q2 (fun j hj => by rw [q3 j (by omega), hag j hj]) (Nat.le_trans hn q4) q5 hT hF hW
set_option maxRecDepth 16384 in
theorem argsG2 {n m : Nat} {ρ : Nat → Int} : ∀ {vs : List Nat} {st : List KV}, aSt qEnv n ρ (vs.map ai ++ [.inr (2, m), .inl (0, [(9, 1)])]) st → st = vs.map (iv ρ) ++ [.inl (.ref m), iv ρ 9] := by
  intro vs
  induction vs with
  | nil =>
    intro st h
    obtain ⟨v, s', rfl, hv, hs⟩ := aSt_cons h
    obtain ⟨v2, s2, rfl, hv2, hs2⟩ := aSt_cons hs
    rw [aSt_nil hs2, aR_rf hv, aR_iv hv2]
    rfl
  | cons v vs ih =>
    intro st h
    obtain ⟨x, s', rfl, hv, hs⟩ := aSt_cons h
    rw [ih hs, aR_iv hv]
    rfl
set_option maxRecDepth 16384 in
/-- two answers compared -/
theorem law_cmp (hu : 0 ≤ u) (hu2 : u ≤ 940) (hN : lNext X xs i u) {pcA pcB midA midB cixA cixB iA iB : Nat} {mA mB : MOD} {cA cB : List Nat} {S S1 SB SC0 SC : AS} {L1 L3 L4 : List (Nat × AS)} {vs : List Nat} (hmA : nstr midA) (hmB : nstr midB) (kA : kat qPL pcA = some (.invokevirtual iA, (midA, vs.length, 0, 0, cixA))) (kB : kat qPL pcB = some (.invokevirtual iB, (midB, vs.length, 0, 0, cixB))) (hL1 : qstp pcA mA cA S = some L1) (hc1 : L1.all (fun q => acut qEnv 9 none q.1 q.2 [(pcA + 3, S1, (0, []))]) = true) (wf1 : apwf 9 S1 = true) (n1 : S1.1 = 10) (s1 : S1.2.2.2.2.1 = [.inl (0, [(9, 1)])]) (hx1 : expl qEnv qPh qCSL [] true 7 kRc0 kRs0 (some .boolean) qPL [] 10 (lfc 70) ([(pcB, SB, (0, []))], [], [], []) none 600 [(pcA + 3, S1)] = true) (wfB : apwf 10 SB = true) (nB : 10 ≤ SB.1) (sB : SB.2.2.2.2.1 = vs.map ai ++ [.inr (2, 148), .inl (0, [(9, 1)])]) (hL3 : qstp pcB mB cB SB = some L3) (hc3 : L3.all (fun q => acut qEnv 10 none q.1 q.2 [(pcB + 3, SC0, (0, []))]) = true) (wfC : apwf 10 SC0 = true) (sC0 : SC0.2.2.2.2.1 = [.inl (0, [(10, 1)]), .inl (0, [(9, 1)])]) (nC : SC.1 = 11) (eC : SC.2.1 = SC0.2.1 ∧ SC0.1 = 11 ∧ SC.2.2.1 = SC0.2.2.1 ∧ SC.2.2.2.1 = SC0.2.2.2.1 ∧ SC.2.2.2.2.2 = SC0.2.2.2.2.2) (sC : SC.2.2.2.2.1 = [.inl (0, [(9, 1)]), .inl (0, [(9, 1)])]) (hL4 : aproc qEnv qPh qCSL [] true 7 kRc0 kRs0 (some .boolean) qPL qPostL 9 (lfc 70) qGH none true (pcB + 3) SC = some L4) (hx4 : expl qEnv qPh qCSL [] true 7 kRc0 kRs0 (some .boolean) qPL qPostL 9 (lfc 70) qGH none 600 L4 = true) (hS : 9 ≤ S.1) (hS2 : S.2.2.2.2.1 = vs.map ai ++ [.inr (2, 0)]) (hS3 : ((1, (((1 : Nat) : Int), [])), (Sum.inl (0, [(8, 1)]) : AV)) ∈ S.2.2.2.2.2.1) (hS4 : ((148, (((2 : Nat) : Int), [])), (Sum.inl (0, [(8, 1)]) : AV)) ∈ S.2.2.2.2.2.1) (hv : ∀ v ∈ vs, v < 9) (ok1 : rwok mA = true) (ok2 : rwok mB = true) (ok3 : pjok mA = true) (ok4 : pcok mB = true) (ok5 : mA.all (fun q => !(Nat.beq q.1 21)) = true) (hp : ∀ (wa wa' wb wb' : KW) (rl rl' : List (Nat × Int)), PH u wa wa' wb wb' → Run X zr midA ((1, 0) :: vs.reverse.map (fun v => (1, kc zr (iv (wind xs i u) v)))) (wm zr wa) rl (wm zr wa') → Run X zr midB ((1, 148) :: vs.reverse.map (fun v => (1, kc zr (iv (wind xs i u) v)))) (wm zr wb) rl' (wm zr wb') → rl = rl' ∧ C2 (wm zr wa') (wm zr wb')) {ρ : Nat → Int} {k : KF} (hk : k.1 = pcA) (hag : ∀ j, j < 9 → ρ j = wind xs i u j) (hG : aGS qEnv qPh ρ S k) (hT : kTW qEnv k.2.2.2.1) (hW : kWT k.2.2.2.1) (hR : RW k.2.2.2.1) : TGL X xs k := by
  obtain ⟨f, k1, e1, t1, f1, w1, a0, r1⟩ := qstp_ok X hL1 kA rfl hk hT hW hG hS hag
  refine r1 ?_
  have e1 : kcallV (callL X 70 f) kRc0 kRs0 (midA, vs.length, 0, 0, cixA) k.1 k.2.1 k.2.2.1 k.2.2.2.1 k.2.2.2.2.1 k.2.2.2.2.2 = some k1 := (kdx_call hmA).symm.trans e1
  obtain ⟨b, rest, r, w', a1, a2, -, -, a5, a6⟩ := kcallV_inv e1
  have hst := hG.2.2.1
  rw [hS2] at hst
  have hst := argsG hst
  have hlen : (vs.map (iv ρ)).length = vs.length := List.length_map _
  rw [hst] at a1 a2
  have a1 : List.drop vs.length (vs.map (iv ρ) ++ [Sum.inl (.ref 0)]) = (Sum.inl (.ref b) : KV) :: rest := a1
  have a2 : callL X 70 f midA (Sum.inl (.ref b) :: (List.take vs.length (vs.map (iv ρ) ++ [Sum.inl (.ref 0)])).reverse) k.2.2.2.1 = some (r, w') := a2
  rw [List.drop_append_of_le_length (by omega), List.drop_of_length_le (by omega)] at a1
  rw [List.take_append_of_le_length (by omega), List.take_of_length_le (by omega)] at a2
  have a1 : [Sum.inl (.ref 0)] = (Sum.inl (.ref b) : KV) :: rest := a1
  cases a1
  have hiv : ∀ (ρ' : Nat → Int), (∀ j, j < 9 → ρ' j = wind xs i u j) → (vs.map (iv ρ')).reverse.map (fun x => ((1 : Nat), kc zr x)) = vs.reverse.map (fun v => (1, kc zr (iv (wind xs i u) v))) := fun ρ' h => by
    rw [List.map_reverse, List.map_reverse, List.map_map]
    congr 1
    refine List.map_congr_left fun v hv' => ?_
    show ((1 : Nat), kc zr (iv ρ' v)) = _
    unfold iv
    rw [h v (hv v hv')]
  have hcc : ∀ (ρ' : Nat → Int), (vs.map (iv ρ')).reverse.map (kcc zr) = (vs.map (iv ρ')).reverse.map (fun x => ((1 : Nat), kc zr x)) := fun ρ' => List.map_congr_left fun x hx => by
    obtain ⟨v, -, rfl⟩ := List.mem_map.mp (List.mem_reverse.mp hx)
    rfl
  have ra : Run X zr midA ((1, 0) :: vs.reverse.map (fun v => (1, kc zr (iv (wind xs i u) v)))) (wm zr k.2.2.2.1) (r.toList.map (kcc zr)) (wm zr k1.2.2.2.1) := ⟨f, 70, _, _, r, w', (callL_k hmA).symm.trans a2, hW, by
    rw [← hiv ρ hag, ← hcc ρ]; rfl, rfl, rfl, by rw [a6]⟩
  -- the first answer
  obtain ⟨q, hq, g0, ρ1, g1, g2⟩ := anx_cut hc1 (fun q hq => by rw [List.mem_singleton.mp hq]; exact wf1) hS t1 a0
  have hq := List.mem_singleton.mp hq
  subst hq
  have hag1 : ∀ j, j < 9 → ρ1 j = wind xs i u j := fun j hj => by rw [g1 j hj, hag j hj]
  have h10 := g2.2.2.1
  rw [s1] at h10
  obtain ⟨v1, s1', hst1, hv1, hs1⟩ := aSt_cons h10
  rw [aSt_nil hs1, aR_iv hv1] at hst1
  rw [a5, List.append_nil] at hst1
  rw [hst1] at ra
  -- on to the second call
  have hstart : aNx qEnv qPh ρ1 10 [(pcA + 3, S1)] k1 := ⟨_, List.mem_singleton.mpr rfl, g0.symm, ρ1, fun _ _ => rfl, by rw [n1]; exact Nat.le_refl 10, g2⟩
  refine ex10 X (ρ0 := ρ1) hag1 (w0 := k1.2.2.2.1) (fun q hq => by rw [List.mem_singleton.mp hq]; exact wfB) ?_ hx1 (fun _ _ => rfl) (Nat.le_refl 10) hstart t1 (kFr.rf _ _ _) w1
  intro q hq ρ2 k2 c1 c2 c3 c4 c5 c6 _
  have hq := List.mem_singleton.mp hq
  subst hq
  have hag2 : ∀ j, j < 9 → ρ2 j = wind xs i u j := fun j hj => by rw [c2 j (by omega), hag1 j hj]
  obtain ⟨f2', k3, e3, t3, f3, w3, n3, r3⟩ := qstp_ok X hL3 kB rfl c1 c4 c6 c3 (Nat.le_trans (by decide) nB) hag2
  refine r3 ?_
  have e3 : kcallV (callL X 70 f2') kRc0 kRs0 (midB, vs.length, 0, 0, cixB) k2.1 k2.2.1 k2.2.2.1 k2.2.2.2.1 k2.2.2.2.2.1 k2.2.2.2.2.2 = some k3 := (kdx_call hmB).symm.trans e3
  obtain ⟨b', rest', r', w'', d1, d2, -, -, d5, d6⟩ := kcallV_inv e3
  have hst2 := c3.2.2.1
  rw [sB] at hst2
  have hst2 := argsG2 hst2
  have hlen2 : (vs.map (iv ρ2)).length = vs.length := List.length_map _
  rw [hst2] at d1 d2
  have d1 : List.drop vs.length (vs.map (iv ρ2) ++ [Sum.inl (.ref 148), iv ρ2 9]) = (Sum.inl (.ref b') : KV) :: rest' := d1
  have d2 : callL X 70 f2' midB (Sum.inl (.ref b') :: (List.take vs.length (vs.map (iv ρ2) ++ [Sum.inl (.ref 148), iv ρ2 9])).reverse) k2.2.2.2.1 = some (r', w'') := d2
  rw [List.drop_append_of_le_length (by omega), List.drop_of_length_le (by omega)] at d1
  rw [List.take_append_of_le_length (by omega), List.take_of_length_le (by omega)] at d2
  have d1 : [Sum.inl (.ref 148), iv ρ2 9] = (Sum.inl (.ref b') : KV) :: rest' := d1
  cases d1
  have rb : Run X zr midB ((1, 148) :: vs.reverse.map (fun v => (1, kc zr (iv (wind xs i u) v)))) (wm zr k2.2.2.2.1) (r'.toList.map (kcc zr)) (wm zr k3.2.2.2.1) := ⟨f2', 70, _, _, r', w'', (callL_k hmB).symm.trans d2, c6, by
    rw [← hiv ρ2 hag2, ← hcc ρ2]; rfl, rfl, rfl, by rw [d6]⟩
  obtain ⟨m1, m2, m3, m4⟩ := rwok_ok ok1
  obtain ⟨m1', m2', m3', m4'⟩ := rwok_ok ok2
  have hC : C2 (wm zr k.2.2.2.1) (wm zr k2.2.2.2.1) := C2_ab hR.2.2.2 hT hT hT c4 (kFr.rf _ [] _) (f1.tr (kFr_nil c5)) pcok_nil ok3
  have hRT : RT k.2.2.2.1 k2.2.2.2.1 := RT_r (RT_r hR.1 f1 m2) c5 rfl
  have hu0 : wm zr k.2.2.2.1 1 1 = u := tc_u hu hu2 hag hG hS3 (by decide)
  have hu1 : wm zr k.2.2.2.1 148 2 = u := tc_u hu hu2 hag hG hS4 (by decide)
  have hu2' : wm zr k2.2.2.2.1 148 2 = u := by
    rw [← hu1]
    have e := fr_all c5 (a := 148) (by decide) rfl 2
    have e' := fr_all f1 (a := 148) (by decide) ok5 2
    exact e.trans e'
  have hP : PH u k.2.2.2.1 k1.2.2.2.1 k2.2.2.2.1 k3.2.2.2.1 := ⟨hT, t1, c4, t3, hR.2.1, hR.2.2.1, hC, TapeR_of hRT hu0 hu2' hu hu2⟩
  obtain ⟨hrl, hC3⟩ := hp _ _ _ _ _ _ hP ra rb
  have hR3 : RW k3.2.2.2.1 := ⟨RT_fr (RT_fr (RT_fr hR.1 f1 m1 m2) c5 rfl rfl) f3 m1' m2', LL_fr (LL_fr (LL_fr hR.2.1 f1 m3) c5 (by decide)) f3 m3', L2_fr (L2_fr (L2_fr hR.2.2.1 f1 m4) c5 (by decide)) f3 m4', C2_ab hC3 t1 t3 t3 t3 ((kFr_nil c5).tr f3) (kFr.rf _ [] _) ok4 pjok_nil⟩
  -- both answers
  obtain ⟨q, hq, j0, ρ3, j1, j2⟩ := anx_cut hc3 (fun q hq => by rw [List.mem_singleton.mp hq]; exact wfC) nB t3 n3
  have hq := List.mem_singleton.mp hq
  subst hq
  have hag3 : ∀ j, j < 9 → ρ3 j = wind xs i u j := fun j hj => by rw [j1 j (by omega), hag2 j hj]
  have h11 := j2.2.2.1
  rw [sC0] at h11
  obtain ⟨vc, sc, hst4, hvc, hs4⟩ := aSt_cons h11
  obtain ⟨vd, sd, hst5, hvd, hs5⟩ := aSt_cons hs4
  have hvc' := aR_iv hvc
  have hvd' := aR_iv hvd
  rw [hst5, aSt_nil hs5, hvc', hvd'] at hst4
  rw [d5] at hst4
  have hr' : r' = some (iv ρ3 10) := by
    cases r' with
    | none =>
      have : (1 : Nat) = 2 := congrArg List.length hst4
      omega
    | some z =>
      injection hst4 with q1 q2
      rw [q1]
  rw [hr'] at hrl
  have hrl : [(1, (Int32.ofInt (ρ1 9)).toInt)] = [(1, (Int32.ofInt (ρ3 10)).toInt)] := hrl
  have heq : Int32.ofInt (ρ1 9) = Int32.ofInt (ρ3 10) := Int32.toInt_inj.mp (by injection hrl with q1 q2; injection q1)
  have e9 : ρ3 9 = ρ1 9 := by rw [j1 9 (by decide), c2 9 (by decide)]
  have hG4 : aGS qEnv qPh ρ3 SC k3 := by
    obtain ⟨x1, x2, x3, x4, x5⟩ := eC
    obtain ⟨y1, y2, -, y4⟩ := j2
    have yS : SC = (SC0.1, SC0.2.1, SC0.2.2.1, SC0.2.2.2.1, [.inl (0, [(9, 1)]), .inl (0, [(9, 1)])], SC0.2.2.2.2.2) := by
      rw [← x1, ← x3, ← x4, ← x5, ← sC, x2, ← nC]
    rw [yS]
    refine ⟨y1, y2, ?_, y4⟩
    show aSt qEnv SC0.1 ρ3 [.inl (0, [(9, 1)]), .inl (0, [(9, 1)])] k3.2.2.1
    rw [d5, hr', x2]
    show aSt qEnv 11 ρ3 [.inl (0, [(9, 1)]), .inl (0, [(9, 1)])] [iv ρ3 10, iv ρ2 9]
    refine ⟨⟨lwf1 (by decide), ?_⟩, ⟨lwf1 (by decide), ?_⟩, trivial⟩
    · rw [lev_i1, Int.zero_add, e9, heq]
      rfl
    · rw [lev_i1, Int.zero_add, j1 9 (by decide)]
      rfl
  exact ap_go X qGH_wf (w0 := k3.2.2.2.1) (lNext_H X hN t3 hR3) hL4 hx4 j0 hag3 (by rw [nC]; decide) hG4 t3 (kFr.rf _ _ _) w3
end LPAIR
