/-! Feed, the calls one by one, the round. -/
set_option maxRecDepth 16384 in
theorem qGFb_wf : ∀ q ∈ qGFb.1, apwf 9 q.2.1 = true := by decide +kernel
set_option maxRecDepth 16384 in
theorem qModC_rw : rwok qModC = true := by decide +kernel
set_option maxRecDepth 16384 in
theorem qModC_c2 : c2ok qModC = true := by decide +kernel
set_option maxRecDepth 16384 in
theorem qModFA_c2 : c2ok qModFA = true := by decide +kernel
set_option maxRecDepth 16384 in
theorem qModFB_c2 : c2ok qModFB = true := by decide +kernel
set_option maxRecDepth 16384 in
theorem argsF {n m : Nat} {ρ : Nat → Int} {st : List KV} (h : aSt qEnv n ρ [.inl (0, [(7, 1)]), .inl (0, [(6, 1)]), .inl (0, [(5, 1)]), .inl (0, [(4, 1)]), .inl (0, [(3, 1)]), .inr (2, m)] st) : st = [iv ρ 7, iv ρ 6, iv ρ 5, iv ρ 4, iv ρ 3, .inl (.ref m)] := by
  obtain ⟨v1, s1, rfl, h1, h⟩ := aSt_cons h
  obtain ⟨v2, s2, rfl, h2, h⟩ := aSt_cons h
  obtain ⟨v3, s3, rfl, h3, h⟩ := aSt_cons h
  obtain ⟨v4, s4, rfl, h4, h⟩ := aSt_cons h
  obtain ⟨v5, s5, rfl, h5, h⟩ := aSt_cons h
  obtain ⟨v6, s6, rfl, h6, h⟩ := aSt_cons h
  rw [aSt_nil h, aR_iv h1, aR_iv h2, aR_iv h3, aR_iv h4, aR_iv h5, aR_rf h6]
section LFEED
variable (X : KO) {xs : List Int32} {i u : Int}
set_option maxRecDepth 16384 in
theorem law_feed2 (hu : 0 ≤ u) (hu2 : u ≤ 940) (hN : lNext X xs i u) {S : AS} {L : List (Nat × AS)} (hL1 : qstp 282 qModFB [210] S = some L) (hx : expl qEnv qPh qCSL [] true 7 kRc0 kRs0 (some .boolean) qPL qPostL 9 (lfc 70) qGH none 600 L = true) (hS1 : 9 ≤ S.1) (hS2 : S.2.2.2.2.1 = [.inl (0, [(7, 1)]), .inl (0, [(6, 1)]), .inl (0, [(5, 1)]), .inl (0, [(4, 1)]), .inl (0, [(3, 1)]), .inr (2, 148)]) (hS3 : ((148, (2, [])), (Sum.inl (0, [(8, 1)]) : AV)) ∈ S.2.2.2.2.2.1) {w w1 : KW} {rl : List (Nat × Int)} (hT0 : kTW qEnv w) (hT1 : kTW qEnv w1) (hR0 : RW w) (hu0 : wm zr w 1 1 = u) (ra : Run X zr 15 [(1, 0), (1, kc zr (iv (wind xs i u) 3)), (1, kc zr (iv (wind xs i u) 4)), (1, kc zr (iv (wind xs i u) 5)), (1, kc zr (iv (wind xs i u) 6)), (1, kc zr (iv (wind xs i u) 7))] (wm zr w) rl (wm zr w1)) (hF1 : kFr qEnv qModFA w w1) {ρ : Nat → Int} {k : KF} (hk : k.1 = 282) (hag : ∀ j, j < 9 → ρ j = wind xs i u j) (hG : aGS qEnv qPh ρ S k) (hT : kTW qEnv k.2.2.2.1) (hW : kWT k.2.2.2.1) (hF : kFr qEnv [] w1 k.2.2.2.1) : TGL X xs k := by
  obtain ⟨f, k3, e1, t3, f3, w3, n3, r3⟩ := qstp_ok X hL1 (ig := .invokevirtual 26) (x := (189, 5, 0, 0, 11)) (by decide +kernel) rfl hk hT hW hG hS1 hag
  have e1 : kcallV (callL X 70 f) kRc0 kRs0 (189, 5, 0, 0, 11) k.1 k.2.1 k.2.2.1 k.2.2.2.1 k.2.2.2.2.1 k.2.2.2.2.2 = some k3 := e1
  obtain ⟨b, rest, r, w', a1, a2, -, -, a5, a6⟩ := kcallV_inv e1
  have hst := hG.2.2.1
  rw [hS2] at hst
  have hst := argsF hst
  rw [hst] at a1 a2
  have a1 : [Sum.inl (.ref 148)] = (Sum.inl (.ref b) : KV) :: rest := a1
  cases a1
  have hiv : ∀ v, v < 9 → iv ρ v = iv (wind xs i u) v := fun v hv => by
    unfold iv
    rw [hag v hv]
  rw [hiv 3 (by decide), hiv 4 (by decide), hiv 5 (by decide), hiv 6 (by decide), hiv 7 (by decide)] at a2
  have rb : Run X zr 189 [(1, 148), (1, kc zr (iv (wind xs i u) 3)), (1, kc zr (iv (wind xs i u) 4)), (1, kc zr (iv (wind xs i u) 5)), (1, kc zr (iv (wind xs i u) 6)), (1, kc zr (iv (wind xs i u) 7))] (wm zr k.2.2.2.1) (r.toList.map (kcc zr)) (wm zr k3.2.2.2.1) := ⟨f, 70, _, _, r, w', a2, hW, rfl, rfl, rfl, by rw [a6]⟩
  have hR1 : RT w k.2.2.2.1 := RT_r (RT_r hR0.1 hF1 rfl) hF rfl
  obtain ⟨L', hj, -⟩ := feed_pair (kTW_ref hT0 (a := 0) (k := 0) (r := 1) (by decide) (by decide) rfl) (TJ_of hT0 hT hR1 hu0 (tc_u hu hu2 hag hG hS3 (by decide)) hu) hu2 ra rb
  have hR3 : RT w1 k3.2.2.2.1 := TJ_to hj
  have hR4 : RT k3.2.2.2.1 k3.2.2.2.1 := RT_l (RT_l hR3 hF rfl) f3 rfl
  have hL4 : LL k3.2.2.2.1 := LL_fr (LL_fr (LL_fr hR0.2.1 hF1 (by decide)) hF (by decide)) f3 (by decide)
  have hM4 : L2 k3.2.2.2.1 := L2_fr (L2_fr (L2_fr hR0.2.2.1 hF1 (by decide)) hF (by decide)) f3 (by decide)
  have hC1 : C2 (wm zr w1) (wm zr w1) := C2_kF hR0.2.2.2 hT0 hT1 hT0 hT1 hF1 hF1 qModFA_c2 qModFA_c2
  have hC2 : C2 (wm zr k.2.2.2.1) (wm zr k.2.2.2.1) := C2_kF hC1 hT1 hT hT1 hT hF hF rfl rfl
  have hC3 : C2 (wm zr k3.2.2.2.1) (wm zr k3.2.2.2.1) := C2_kF hC2 hT t3 hT t3 f3 f3 qModFB_c2 qModFB_c2
  exact r3 (ex_go X qGH_wf (lNext_H X hN t3 ⟨hR4, hL4, hM4, hC3⟩) hx hag hS1 n3 t3 (kFr.rf _ _ _) w3)
set_option maxRecDepth 16384 in
theorem law_feed (hu : 0 ≤ u) (hu2 : u ≤ 940) (hN : lNext X xs i u) {ρ : Nat → Int} {k : KF} (hk : k.1 = 247) (hag : ∀ j, j < 9 → ρ j = wind xs i u j) (hG : aGS qEnv qPh ρ qSF k) (hT : kTW qEnv k.2.2.2.1) (hW : kWT k.2.2.2.1) (hR : RW k.2.2.2.1) : TGL X xs k := by
  obtain ⟨f, k1, e1, t1, f1, w1, n1, r1⟩ := qstp_ok X qF1_e (ig := .invokevirtual 22) (x := (15, 5, 0, 0, 10)) (by decide +kernel) rfl hk hT hW hG (by decide) hag
  have e1 : kcallV (callL X 70 f) kRc0 kRs0 (15, 5, 0, 0, 10) k.1 k.2.1 k.2.2.1 k.2.2.2.1 k.2.2.2.2.1 k.2.2.2.2.2 = some k1 := e1
  obtain ⟨b, rest, r, w', a1, a2, -, -, a5, a6⟩ := kcallV_inv e1
  have hst := argsF hG.2.2.1
  rw [hst] at a1 a2
  have a1 : [Sum.inl (.ref 0)] = (Sum.inl (.ref b) : KV) :: rest := a1
  cases a1
  have hiv : ∀ v, v < 9 → iv ρ v = iv (wind xs i u) v := fun v hv => by
    unfold iv
    rw [hag v hv]
  rw [hiv 3 (by decide), hiv 4 (by decide), hiv 5 (by decide), hiv 6 (by decide), hiv 7 (by decide)] at a2
  have ra : Run X zr 15 [(1, 0), (1, kc zr (iv (wind xs i u) 3)), (1, kc zr (iv (wind xs i u) 4)), (1, kc zr (iv (wind xs i u) 5)), (1, kc zr (iv (wind xs i u) 6)), (1, kc zr (iv (wind xs i u) 7))] (wm zr k.2.2.2.1) (r.toList.map (kcc zr)) (wm zr k1.2.2.2.1) := ⟨f, 70, _, _, r, w', a2, hW, rfl, rfl, rfl, by rw [a6]⟩
  have hu0 : wm zr k.2.2.2.1 1 1 = u := tc_u hu hu2 hag hG (a := 1) (c := 1) List.mem_cons_self (by decide)
  refine r1 (ex_go X qGFb_wf (w0 := k1.2.2.2.1) (mods := []) ?_ qF1_x hag (by decide) n1 t1 (kFr.rf _ _ _) w1)
  intro q hq ρ2 k2 c1 c2 c3 c4 c5 c6 _
  rcases List.mem_cons.mp hq with rfl | hq
  · exact law_feed2 X hu hu2 hN qF2a_e qF2a_x (by decide) rfl (List.mem_cons_of_mem _ List.mem_cons_self) hT t1 hR hu0 ra f1 c1 c2 c3 c4 c6 c5
  · have hq := List.mem_singleton.mp hq
    subst hq
    exact law_feed2 X hu hu2 hN qF2b_e qF2b_x (by decide) rfl (List.mem_cons_of_mem _ List.mem_cons_self) hT t1 hR hu0 ra f1 c1 c2 c3 c4 c6 c5
end LFEED
set_option maxRecDepth 16384 in
/-- what a question's pair is -/
def HPq (X : KO) (xs : List Int32) (i u : Int) (mA mB : Nat) (vs : List Nat) : Prop := ∀ (wa wa' wb wb' : KW) (rl rl' : List (Nat × Int)), PH u wa wa' wb wb' → Run X zr mA ((1, 0) :: vs.reverse.map (fun v => (1, kc zr (iv (wind xs i u) v)))) (wm zr wa) rl (wm zr wa') → Run X zr mB ((1, 148) :: vs.reverse.map (fun v => (1, kc zr (iv (wind xs i u) v)))) (wm zr wb) rl' (wm zr wb') → rl = rl' ∧ C2 (wm zr wa') (wm zr wb')
set_option maxRecDepth 16384 in
theorem C2_tick {a b : MM} (h : C2 a b) (v : Int) : C2 a (mu b 148 0 v) := C2_fr3 h (fun _ _ _ => rfl) (fun x k q _ => by
  by_cases c : x = 148
  · exact mu_k (by unfold PJs at q; omega)
  · exact mu_a c)
set_option maxRecDepth 16384 in
theorem count_eq {a b : MM} {u : Int} (h : C2 a b) (h00 : a 0 0 = 1) (ha : a 1 1 = u) (hb : b 148 2 = u) (x : Int) : f7 a 0 x = f177 b 148 x := by
  have hS := h.1.2.1
  have e14 : (mu b 148 0 0) 148 14 = 150 := (mu_k (by decide)).trans hS.bn
  have e0 : (mu b 148 0 0) 150 0 = b 150 0 := mu_a (by decide)
  have e1 : (mu b 148 0 0) 150 1 = b 150 1 := mu_a (by decide)
  have e2 : (mu b 148 0 0) 150 2 = b 150 2 := mu_a (by decide)
  have e3 : (mu b 148 0 0) 148 2 = u := (mu_k (by decide)).trans hb
  have h1 : a 0 1 = 3 := h.1.1.1
  unfold f7 f177
  rw [e14, e0, e1, e2, e3, h1, h00, ha, hS.p.1, hS.f.1]
  by_cases c0 : x = 0
  · rw [if_pos c0, if_pos c0]
  · rw [if_neg c0, if_neg c0]
    by_cases c1 : x = 1
    · rw [if_pos c1, if_pos c1]
    · rw [if_neg c1, if_neg c1]
      by_cases c2 : x = 2
      · rw [if_pos c2, if_pos c2]
        rcases hS.r.2 with r | r
        · rw [if_pos r, ← hS.r.1, r]
        · rw [if_neg (by omega), ← hS.r.1, r]
      · rw [if_neg c2, if_neg c2]
set_option maxRecDepth 16384 in
theorem hq_count (X : KO) {xs : List Int32} {i u : Int} : HPq X xs i u 7 177 [3] := fun wa wa' wb wb' rl rl' hP ra rb => by
  obtain ⟨ha, -, -, -, -, -, hC, hT⟩ := hP
  have ra : Run X zr 7 [(1, 0), ivx xs i u 3] (wm zr wa) rl (wm zr wa') := ra
  have rb : Run X zr 177 [(1, 148), ivx xs i u 3] (wm zr wb) rl' (wm zr wb') := rb
  obtain ⟨q1, q2⟩ := d7 ra
  obtain ⟨q3, q4⟩ := d177 rb
  have e : ∀ x, g177 (wm zr wb) 148 x = mu (wm zr wb) 148 0 0 := fun x => by
    unfold g177
    (repeat' split) <;> rfl
  rw [q1, q2, q3, q4, e]
  exact ⟨by rw [count_eq hC (kTW_ref ha (a := 0) (k := 0) (r := 1) (by decide) (by decide) rfl) hT.1 hT.2.1], C2_tick hC 0⟩

section LCALLS
variable (X : KO) {xs : List Int32} {i u : Int}
set_option maxRecDepth 16384 in
theorem qGB_sign_wf : ∀ q ∈ qGB_sign, apwf 9 q.2.1 = true := by decide +kernel
set_option maxRecDepth 16384 in
theorem hB_sign : ∀ q ∈ qGB_sign, q.1 = 540 ∧ 9 ≤ q.2.1.1 ∧ q.2.1.2.2.2.2.1 = ([4, 3] : List Nat).map ai ++ [.inr (2, 148)] ∧ ∃ L, qstp 540 qMB_sign [329] q.2.1 = some L ∧ expl qEnv qPh qCSL [] true 7 kRc0 kRs0 (some .boolean) qPL qPostL 9 (lfc 70) qGH none 600 L = true := by
  intro q hq
  have hq := List.mem_singleton.mp hq
  subst hq
  exact ⟨rfl, by decide, rfl, _, qB0_sign_e, qB0_sign_x⟩
set_option maxRecDepth 16384 in
theorem lc_sign (hXW : XW X) (hXS : XS X) (hu : 0 ≤ u) (hu2 : u ≤ 940) (hN : lNext X xs i u) {ρ : Nat → Int} {k : KF} (hk : k.1 = 523) (hag : ∀ j, j < 9 → ρ j = wind xs i u j) (hG : aGS qEnv qPh ρ qS_sign k) (hT : kTW qEnv k.2.2.2.1) (hW : kWT k.2.2.2.1) (hR : RW k.2.2.2.1) : TGL X xs k :=
  law_pair X hu hu2 hN (pcA := 523) (pcB := 540) (midA := 33) (midB := 272) (cixA := 10) (cixB := 11) (iA := 62) (iB := 65) (cA := [33]) (cB := [329]) (vs := [4, 3]) (mA := qMA_sign) (mB := qMB_sign) (S := qS_sign) (L1 := qA_sign) (GB := qGB_sign) ⟨rfl, rfl, rfl, rfl⟩ ⟨rfl, rfl, rfl, rfl⟩ (by decide +kernel) (by decide +kernel) qA_sign_e qA_sign_x qGB_sign_wf hB_sign (by decide) rfl List.mem_cons_self (List.mem_cons_of_mem _ List.mem_cons_self) (by decide) (by decide +kernel) (by decide +kernel) (by decide +kernel) (by decide +kernel) (by decide +kernel) (hp_sign X) hk hag hG hT hW hR
set_option maxRecDepth 16384 in
theorem qGB_soften_wf : ∀ q ∈ qGB_soften, apwf 9 q.2.1 = true := by decide +kernel
set_option maxRecDepth 16384 in
theorem hB_soften : ∀ q ∈ qGB_soften, q.1 = 577 ∧ 9 ≤ q.2.1.1 ∧ q.2.1.2.2.2.2.1 = ([4, 3] : List Nat).map ai ++ [.inr (2, 148)] ∧ ∃ L, qstp 577 qMB_soften [334] q.2.1 = some L ∧ expl qEnv qPh qCSL [] true 7 kRc0 kRs0 (some .boolean) qPL qPostL 9 (lfc 70) qGH none 600 L = true := by
  intro q hq
  have hq := List.mem_singleton.mp hq
  subst hq
  exact ⟨rfl, by decide, rfl, _, qB0_soften_e, qB0_soften_x⟩
set_option maxRecDepth 16384 in
theorem lc_soften (hXW : XW X) (hXS : XS X) (hu : 0 ≤ u) (hu2 : u ≤ 940) (hN : lNext X xs i u) {ρ : Nat → Int} {k : KF} (hk : k.1 = 560) (hag : ∀ j, j < 9 → ρ j = wind xs i u j) (hG : aGS qEnv qPh ρ qS_soften k) (hT : kTW qEnv k.2.2.2.1) (hW : kWT k.2.2.2.1) (hR : RW k.2.2.2.1) : TGL X xs k :=
  law_pair X hu hu2 hN (pcA := 560) (pcB := 577) (midA := 34) (midB := 277) (cixA := 10) (cixB := 11) (iA := 66) (iB := 69) (cA := [34]) (cB := [334]) (vs := [4, 3]) (mA := qMA_soften) (mB := qMB_soften) (S := qS_soften) (L1 := qA_soften) (GB := qGB_soften) ⟨rfl, rfl, rfl, rfl⟩ ⟨rfl, rfl, rfl, rfl⟩ (by decide +kernel) (by decide +kernel) qA_soften_e qA_soften_x qGB_soften_wf hB_soften (by decide) rfl List.mem_cons_self (List.mem_cons_of_mem _ List.mem_cons_self) (by decide) (by decide +kernel) (by decide +kernel) (by decide +kernel) (by decide +kernel) (by decide +kernel) (hp_soften X) hk hag hG hT hW hR
set_option maxRecDepth 16384 in
theorem qGB_resent_wf : ∀ q ∈ qGB_resent, apwf 9 q.2.1 = true := by decide +kernel
set_option maxRecDepth 16384 in
theorem hB_resent : ∀ q ∈ qGB_resent, q.1 = 614 ∧ 9 ≤ q.2.1.1 ∧ q.2.1.2.2.2.2.1 = ([4, 3] : List Nat).map ai ++ [.inr (2, 148)] ∧ ∃ L, qstp 614 qMB_resent [318] q.2.1 = some L ∧ expl qEnv qPh qCSL [] true 7 kRc0 kRs0 (some .boolean) qPL qPostL 9 (lfc 70) qGH none 600 L = true := by
  intro q hq
  have hq := List.mem_singleton.mp hq
  subst hq
  exact ⟨rfl, by decide, rfl, _, qB0_resent_e, qB0_resent_x⟩
set_option maxRecDepth 16384 in
theorem lc_resent (hXW : XW X) (hXS : XS X) (hu : 0 ≤ u) (hu2 : u ≤ 940) (hN : lNext X xs i u) {ρ : Nat → Int} {k : KF} (hk : k.1 = 597) (hag : ∀ j, j < 9 → ρ j = wind xs i u j) (hG : aGS qEnv qPh ρ qS_resent k) (hT : kTW qEnv k.2.2.2.1) (hW : kWT k.2.2.2.1) (hR : RW k.2.2.2.1) : TGL X xs k :=
  law_pair X hu hu2 hN (pcA := 597) (pcB := 614) (midA := 27) (midB := 264) (cixA := 10) (cixB := 11) (iA := 70) (iB := 73) (cA := [27]) (cB := [318]) (vs := [4, 3]) (mA := qMA_resent) (mB := qMB_resent) (S := qS_resent) (L1 := qA_resent) (GB := qGB_resent) ⟨rfl, rfl, rfl, rfl⟩ ⟨rfl, rfl, rfl, rfl⟩ (by decide +kernel) (by decide +kernel) qA_resent_e qA_resent_x qGB_resent_wf hB_resent (by decide) rfl List.mem_cons_self (List.mem_cons_of_mem _ List.mem_cons_self) (by decide) (by decide +kernel) (by decide +kernel) (by decide +kernel) (by decide +kernel) (by decide +kernel) (hp_resent X) hk hag hG hT hW hR
set_option maxRecDepth 16384 in
theorem qGB_retire_wf : ∀ q ∈ qGB_retire, apwf 9 q.2.1 = true := by decide +kernel
set_option maxRecDepth 16384 in
theorem hB_retire : ∀ q ∈ qGB_retire, q.1 = 639 ∧ 9 ≤ q.2.1.1 ∧ q.2.1.2.2.2.2.1 = ([3] : List Nat).map ai ++ [.inr (2, 148)] ∧ ∃ L, qstp 639 qMB_retire [320] q.2.1 = some L ∧ expl qEnv qPh qCSL [] true 7 kRc0 kRs0 (some .boolean) qPL qPostL 9 (lfc 70) qGH none 600 L = true := by
  intro q hq
  have hq := List.mem_singleton.mp hq
  subst hq
  exact ⟨rfl, by decide, rfl, _, qB0_retire_e, qB0_retire_x⟩
set_option maxRecDepth 16384 in
theorem lc_retire (hXW : XW X) (hXS : XS X) (hu : 0 ≤ u) (hu2 : u ≤ 940) (hN : lNext X xs i u) {ρ : Nat → Int} {k : KF} (hk : k.1 = 628) (hag : ∀ j, j < 9 → ρ j = wind xs i u j) (hG : aGS qEnv qPh ρ qS_retire k) (hT : kTW qEnv k.2.2.2.1) (hW : kWT k.2.2.2.1) (hR : RW k.2.2.2.1) : TGL X xs k :=
  law_pair X hu hu2 hN (pcA := 628) (pcB := 639) (midA := 29) (midB := 266) (cixA := 10) (cixB := 11) (iA := 74) (iB := 77) (cA := [29]) (cB := [320]) (vs := [3]) (mA := qMA_retire) (mB := qMB_retire) (S := qS_retire) (L1 := qA_retire) (GB := qGB_retire) ⟨rfl, rfl, rfl, rfl⟩ ⟨rfl, rfl, rfl, rfl⟩ (by decide +kernel) (by decide +kernel) qA_retire_e qA_retire_x qGB_retire_wf hB_retire (by decide) rfl List.mem_cons_self (List.mem_cons_of_mem _ List.mem_cons_self) (by decide) (by decide +kernel) (by decide +kernel) (by decide +kernel) (by decide +kernel) (by decide +kernel) (hp_retire X) hk hag hG hT hW hR
set_option maxRecDepth 16384 in
theorem qGB_back_wf : ∀ q ∈ qGB_back, apwf 9 q.2.1 = true := by decide +kernel
set_option maxRecDepth 16384 in
theorem hB_back : ∀ q ∈ qGB_back, q.1 = 664 ∧ 9 ≤ q.2.1.1 ∧ q.2.1.2.2.2.2.1 = ([3] : List Nat).map ai ++ [.inr (2, 148)] ∧ ∃ L, qstp 664 qMB_back [188] q.2.1 = some L ∧ expl qEnv qPh qCSL [] true 7 kRc0 kRs0 (some .boolean) qPL qPostL 9 (lfc 70) qGH none 600 L = true := by
  intro q hq
  have hq := List.mem_singleton.mp hq
  subst hq
  exact ⟨rfl, by decide, rfl, _, qB0_back_e, qB0_back_x⟩
set_option maxRecDepth 16384 in
theorem lc_back (hXW : XW X) (hXS : XS X) (hu : 0 ≤ u) (hu2 : u ≤ 940) (hN : lNext X xs i u) {ρ : Nat → Int} {k : KF} (hk : k.1 = 653) (hag : ∀ j, j < 9 → ρ j = wind xs i u j) (hG : aGS qEnv qPh ρ qS_back k) (hT : kTW qEnv k.2.2.2.1) (hW : kWT k.2.2.2.1) (hR : RW k.2.2.2.1) : TGL X xs k :=
  law_pair X hu hu2 hN (pcA := 653) (pcB := 664) (midA := 2) (midB := 167) (cixA := 10) (cixB := 11) (iA := 78) (iB := 81) (cA := [2]) (cB := [188]) (vs := [3]) (mA := qMA_back) (mB := qMB_back) (S := qS_back) (L1 := qA_back) (GB := qGB_back) ⟨rfl, rfl, rfl, rfl⟩ ⟨rfl, rfl, rfl, rfl⟩ (by decide +kernel) (by decide +kernel) qA_back_e qA_back_x qGB_back_wf hB_back (by decide) rfl List.mem_cons_self (List.mem_cons_of_mem _ List.mem_cons_self) (by decide) (by decide +kernel) (by decide +kernel) (by decide +kernel) (by decide +kernel) (by decide +kernel) (hp_back X) hk hag hG hT hW hR
set_option maxRecDepth 16384 in
theorem qGB_cancel_wf : ∀ q ∈ qGB_cancel, apwf 9 q.2.1 = true := by decide +kernel
set_option maxRecDepth 16384 in
theorem hB_cancel : ∀ q ∈ qGB_cancel, q.1 = 689 ∧ 9 ≤ q.2.1.1 ∧ q.2.1.2.2.2.2.1 = ([3] : List Nat).map ai ++ [.inr (2, 148)] ∧ ∃ L, qstp 689 qMB_cancel [196] q.2.1 = some L ∧ expl qEnv qPh qCSL [] true 7 kRc0 kRs0 (some .boolean) qPL qPostL 9 (lfc 70) qGH none 600 L = true := by
  intro q hq
  have hq := List.mem_singleton.mp hq
  subst hq
  exact ⟨rfl, by decide, rfl, _, qB0_cancel_e, qB0_cancel_x⟩
set_option maxRecDepth 16384 in
theorem lc_cancel (hXW : XW X) (hXS : XS X) (hu : 0 ≤ u) (hu2 : u ≤ 940) (hN : lNext X xs i u) {ρ : Nat → Int} {k : KF} (hk : k.1 = 678) (hag : ∀ j, j < 9 → ρ j = wind xs i u j) (hG : aGS qEnv qPh ρ qS_cancel k) (hT : kTW qEnv k.2.2.2.1) (hW : kWT k.2.2.2.1) (hR : RW k.2.2.2.1) : TGL X xs k :=
  law_pair X hu hu2 hN (pcA := 678) (pcB := 689) (midA := 6) (midB := 175) (cixA := 10) (cixB := 11) (iA := 82) (iB := 85) (cA := [6]) (cB := [196]) (vs := [3]) (mA := qMA_cancel) (mB := qMB_cancel) (S := qS_cancel) (L1 := qA_cancel) (GB := qGB_cancel) ⟨rfl, rfl, rfl, rfl⟩ ⟨rfl, rfl, rfl, rfl⟩ (by decide +kernel) (by decide +kernel) qA_cancel_e qA_cancel_x qGB_cancel_wf hB_cancel (by decide) rfl List.mem_cons_self (List.mem_cons_of_mem _ List.mem_cons_self) (by decide) (by decide +kernel) (by decide +kernel) (by decide +kernel) (by decide +kernel) (by decide +kernel) (hp_cancel X) hk hag hG hT hW hR
set_option maxRecDepth 16384 in
theorem qGB_lodge_wf : ∀ q ∈ qGB_lodge, apwf 9 q.2.1 = true := by decide +kernel
set_option maxRecDepth 16384 in
theorem hB_lodge : ∀ q ∈ qGB_lodge, q.1 = 714 ∧ 9 ≤ q.2.1.1 ∧ q.2.1.2.2.2.2.1 = ([3] : List Nat).map ai ++ [.inr (2, 148)] ∧ ∃ L, qstp 714 qMB_lodge [271] q.2.1 = some L ∧ expl qEnv qPh qCSL [] true 7 kRc0 kRs0 (some .boolean) qPL qPostL 9 (lfc 70) qGH none 600 L = true := by
  intro q hq
  have hq := List.mem_singleton.mp hq
  subst hq
  exact ⟨rfl, by decide, rfl, _, qB0_lodge_e, qB0_lodge_x⟩
set_option maxRecDepth 16384 in
theorem lc_lodge (hXW : XW X) (hXS : XS X) (hu : 0 ≤ u) (hu2 : u ≤ 940) (hN : lNext X xs i u) {ρ : Nat → Int} {k : KF} (hk : k.1 = 703) (hag : ∀ j, j < 9 → ρ j = wind xs i u j) (hG : aGS qEnv qPh ρ qS_lodge k) (hT : kTW qEnv k.2.2.2.1) (hW : kWT k.2.2.2.1) (hR : RW k.2.2.2.1) : TGL X xs k :=
  law_pair X hu hu2 hN (pcA := 703) (pcB := 714) (midA := 19) (midB := 223) (cixA := 10) (cixB := 11) (iA := 86) (iB := 89) (cA := [19]) (cB := [271]) (vs := [3]) (mA := qMA_lodge) (mB := qMB_lodge) (S := qS_lodge) (L1 := qA_lodge) (GB := qGB_lodge) ⟨rfl, rfl, rfl, rfl⟩ ⟨rfl, rfl, rfl, rfl⟩ (by decide +kernel) (by decide +kernel) qA_lodge_e qA_lodge_x qGB_lodge_wf hB_lodge (by decide) rfl List.mem_cons_self (List.mem_cons_of_mem _ List.mem_cons_self) (by decide) (by decide +kernel) (by decide +kernel) (by decide +kernel) (by decide +kernel) (by decide +kernel) (hp_lodge X) hk hag hG hT hW hR
set_option maxRecDepth 16384 in
theorem qGB_days_wf : ∀ q ∈ qGB_days, apwf 9 q.2.1 = true := by decide +kernel
set_option maxRecDepth 16384 in
theorem hB_days : ∀ q ∈ qGB_days, q.1 = 739 ∧ 9 ≤ q.2.1.1 ∧ q.2.1.2.2.2.2.1 = ([3] : List Nat).map ai ++ [.inr (2, 148)] ∧ ∃ L, qstp 739 qMB_days [201] q.2.1 = some L ∧ expl qEnv qPh qCSL [] true 7 kRc0 kRs0 (some .boolean) qPL qPostL 9 (lfc 70) qGH none 600 L = true := by
  intro q hq
  have hq := List.mem_singleton.mp hq
  subst hq
  exact ⟨rfl, by decide, rfl, _, qB0_days_e, qB0_days_x⟩
set_option maxRecDepth 16384 in
theorem lc_days (hXW : XW X) (hXS : XS X) (hu : 0 ≤ u) (hu2 : u ≤ 940) (hN : lNext X xs i u) {ρ : Nat → Int} {k : KF} (hk : k.1 = 728) (hag : ∀ j, j < 9 → ρ j = wind xs i u j) (hG : aGS qEnv qPh ρ qS_days k) (hT : kTW qEnv k.2.2.2.1) (hW : kWT k.2.2.2.1) (hR : RW k.2.2.2.1) : TGL X xs k :=
  law_pair X hu hu2 hN (pcA := 728) (pcB := 739) (midA := 10) (midB := 180) (cixA := 10) (cixB := 11) (iA := 90) (iB := 93) (cA := [10]) (cB := [201]) (vs := [3]) (mA := qMA_days) (mB := qMB_days) (S := qS_days) (L1 := qA_days) (GB := qGB_days) ⟨rfl, rfl, rfl, rfl⟩ ⟨rfl, rfl, rfl, rfl⟩ (by decide +kernel) (by decide +kernel) qA_days_e qA_days_x qGB_days_wf hB_days (by decide) rfl List.mem_cons_self (List.mem_cons_of_mem _ List.mem_cons_self) (by decide) (by decide +kernel) (by decide +kernel) (by decide +kernel) (by decide +kernel) (by decide +kernel) (hp_days X) hk hag hG hT hW hR
set_option maxRecDepth 16384 in
theorem qGB_undo_wf : ∀ q ∈ qGB_undo, apwf 9 q.2.1 = true := by decide +kernel
set_option maxRecDepth 16384 in
theorem hB_undo : ∀ q ∈ qGB_undo, q.1 = 752 ∧ 9 ≤ q.2.1.1 ∧ q.2.1.2.2.2.2.1 = ([] : List Nat).map ai ++ [.inr (2, 148)] ∧ ∃ L, qstp 752 qMB_undo [378] q.2.1 = some L ∧ expl qEnv qPh qCSL [] true 7 kRc0 kRs0 (some .boolean) qPL qPostL 9 (lfc 70) qGH none 600 L = true := by
  intro q hq
  have hq := List.mem_singleton.mp hq
  subst hq
  exact ⟨rfl, by decide, rfl, _, qB0_undo_e, qB0_undo_x⟩
set_option maxRecDepth 16384 in
theorem lc_undo (hXW : XW X) (hXS : XS X) (hu : 0 ≤ u) (hu2 : u ≤ 940) (hN : lNext X xs i u) {ρ : Nat → Int} {k : KF} (hk : k.1 = 747) (hag : ∀ j, j < 9 → ρ j = wind xs i u j) (hG : aGS qEnv qPh ρ qS_undo k) (hT : kTW qEnv k.2.2.2.1) (hW : kWT k.2.2.2.1) (hR : RW k.2.2.2.1) : TGL X xs k :=
  law_pair X hu hu2 hN (pcA := 747) (pcB := 752) (midA := 37) (midB := 288) (cixA := 10) (cixB := 11) (iA := 94) (iB := 97) (cA := [37]) (cB := [378]) (vs := []) (mA := qMA_undo) (mB := qMB_undo) (S := qS_undo) (L1 := qA_undo) (GB := qGB_undo) ⟨rfl, rfl, rfl, rfl⟩ ⟨rfl, rfl, rfl, rfl⟩ (by decide +kernel) (by decide +kernel) qA_undo_e qA_undo_x qGB_undo_wf hB_undo (by decide) rfl List.mem_cons_self (List.mem_cons_of_mem _ List.mem_cons_self) (by decide) (by decide +kernel) (by decide +kernel) (by decide +kernel) (by decide +kernel) (by decide +kernel) (hp_undo X) hk hag hG hT hW hR
set_option maxRecDepth 16384 in
theorem qGB_drawn_wf : ∀ q ∈ qGB_drawn, apwf 9 q.2.1 = true := by decide +kernel
set_option maxRecDepth 16384 in
theorem hB_drawn : ∀ q ∈ qGB_drawn, q.1 = 1091 ∧ 9 ≤ q.2.1.1 ∧ q.2.1.2.2.2.2.1 = ([4, 3] : List Nat).map ai ++ [.inr (2, 148)] ∧ ∃ L, qstp 1091 qMB_drawn [205] q.2.1 = some L ∧ expl qEnv qPh qCSL [] true 7 kRc0 kRs0 (some .boolean) qPL qPostL 9 (lfc 70) qGH none 600 L = true := by
  intro q hq
  have hq := List.mem_singleton.mp hq
  subst hq
  exact ⟨rfl, by decide, rfl, _, qB0_drawn_e, qB0_drawn_x⟩
set_option maxRecDepth 16384 in
theorem lc_drawn (hXW : XW X) (hXS : XS X) (hu : 0 ≤ u) (hu2 : u ≤ 940) (hN : lNext X xs i u) {ρ : Nat → Int} {k : KF} (hk : k.1 = 1074) (hag : ∀ j, j < 9 → ρ j = wind xs i u j) (hG : aGS qEnv qPh ρ qS_drawn k) (hT : kTW qEnv k.2.2.2.1) (hW : kWT k.2.2.2.1) (hR : RW k.2.2.2.1) : TGL X xs k :=
  law_pair X hu hu2 hN (pcA := 1074) (pcB := 1091) (midA := 11) (midB := 184) (cixA := 10) (cixB := 11) (iA := 154) (iB := 157) (cA := [11]) (cB := [205]) (vs := [4, 3]) (mA := qMA_drawn) (mB := qMB_drawn) (S := qS_drawn) (L1 := qA_drawn) (GB := qGB_drawn) ⟨rfl, rfl, rfl, rfl⟩ ⟨rfl, rfl, rfl, rfl⟩ (by decide +kernel) (by decide +kernel) qA_drawn_e qA_drawn_x qGB_drawn_wf hB_drawn (by decide) rfl List.mem_cons_self (List.mem_cons_of_mem _ List.mem_cons_self) (by decide) (by decide +kernel) (by decide +kernel) (by decide +kernel) (by decide +kernel) (by decide +kernel) (hp_drawn X) hk hag hG hT hW hR
set_option maxRecDepth 16384 in
theorem qGB_odds_wf : ∀ q ∈ qGB_odds, apwf 9 q.2.1 = true := by decide +kernel
set_option maxRecDepth 16384 in
theorem hB_odds : ∀ q ∈ qGB_odds, q.1 = 1140 ∧ 9 ≤ q.2.1.1 ∧ q.2.1.2.2.2.2.1 = ([5, 4, 3] : List Nat).map ai ++ [.inr (2, 148)] ∧ ∃ L, qstp 1140 qMB_odds [277] q.2.1 = some L ∧ expl qEnv qPh qCSL [] true 7 kRc0 kRs0 (some .boolean) qPL qPostL 9 (lfc 70) qGH none 600 L = true := by
  intro q hq
  have hq := List.mem_singleton.mp hq
  subst hq
  exact ⟨rfl, by decide, rfl, _, qB0_odds_e, qB0_odds_x⟩
set_option maxRecDepth 16384 in
theorem lc_odds (hXW : XW X) (hXS : XS X) (hu : 0 ≤ u) (hu2 : u ≤ 940) (hN : lNext X xs i u) {ρ : Nat → Int} {k : KF} (hk : k.1 = 1117) (hag : ∀ j, j < 9 → ρ j = wind xs i u j) (hG : aGS qEnv qPh ρ qS_odds k) (hT : kTW qEnv k.2.2.2.1) (hW : kWT k.2.2.2.1) (hR : RW k.2.2.2.1) : TGL X xs k :=
  law_pair X hu hu2 hN (pcA := 1117) (pcB := 1140) (midA := 24) (midB := 229) (cixA := 10) (cixB := 11) (iA := 158) (iB := 162) (cA := [24]) (cB := [277]) (vs := [5, 4, 3]) (mA := qMA_odds) (mB := qMB_odds) (S := qS_odds) (L1 := qA_odds) (GB := qGB_odds) ⟨rfl, rfl, rfl, rfl⟩ ⟨rfl, rfl, rfl, rfl⟩ (by decide +kernel) (by decide +kernel) qA_odds_e qA_odds_x qGB_odds_wf hB_odds (by decide) rfl List.mem_cons_self (List.mem_cons_of_mem _ List.mem_cons_self) (by decide) (by decide +kernel) (by decide +kernel) (by decide +kernel) (by decide +kernel) (by decide +kernel) (hp_odds X) hk hag hG hT hW hR
set_option maxRecDepth 16384 in
theorem qGB_image_wf : ∀ q ∈ qGB_image, apwf 9 q.2.1 = true := by decide +kernel
set_option maxRecDepth 16384 in
theorem hB_image : ∀ q ∈ qGB_image, q.1 = 1253 ∧ 9 ≤ q.2.1.1 ∧ q.2.1.2.2.2.2.1 = ([3] : List Nat).map ai ++ [.inr (2, 148)] ∧ ∃ L, qstp 1253 qMB_image [226] q.2.1 = some L ∧ expl qEnv qPh qCSL [] true 7 kRc0 kRs0 (some .boolean) qPL qPostL 9 (lfc 70) qGH none 600 L = true := by
  intro q hq
  have hq := List.mem_singleton.mp hq
  subst hq
  exact ⟨rfl, by decide, rfl, _, qB0_image_e, qB0_image_x⟩
set_option maxRecDepth 16384 in
theorem lc_image (hXW : XW X) (hXS : XS X) (hu : 0 ≤ u) (hu2 : u ≤ 940) (hN : lNext X xs i u) {ρ : Nat → Int} {k : KF} (hk : k.1 = 1242) (hag : ∀ j, j < 9 → ρ j = wind xs i u j) (hG : aGS qEnv qPh ρ qS_image k) (hT : kTW qEnv k.2.2.2.1) (hW : kWT k.2.2.2.1) (hR : RW k.2.2.2.1) : TGL X xs k :=
  law_pair X hu hu2 hN (pcA := 1242) (pcB := 1253) (midA := 18) (midB := 205) (cixA := 10) (cixB := 11) (iA := 179) (iB := 182) (cA := [18]) (cB := [226]) (vs := [3]) (mA := qMA_image) (mB := qMB_image) (S := qS_image) (L1 := qA_image) (GB := qGB_image) ⟨rfl, rfl, rfl, rfl⟩ ⟨rfl, rfl, rfl, rfl⟩ (by decide +kernel) (by decide +kernel) qA_image_e qA_image_x qGB_image_wf hB_image (by decide) rfl List.mem_cons_self (List.mem_cons_of_mem _ List.mem_cons_self) (by decide) (by decide +kernel) (by decide +kernel) (by decide +kernel) (by decide +kernel) (by decide +kernel) (hp_image X) hk hag hG hT hW hR
set_option maxRecDepth 16384 in
theorem qGB_restore_wf : ∀ q ∈ qGB_restore, apwf 9 q.2.1 = true := by decide +kernel
set_option maxRecDepth 16384 in
theorem hB_restore : ∀ q ∈ qGB_restore, q.1 = 1278 ∧ 9 ≤ q.2.1.1 ∧ q.2.1.2.2.2.2.1 = ([3] : List Nat).map ai ++ [.inr (2, 148)] ∧ ∃ L, qstp 1278 qMB_restore [319] q.2.1 = some L ∧ expl qEnv qPh qCSL [] true 7 kRc0 kRs0 (some .boolean) qPL qPostL 9 (lfc 70) qGH none 600 L = true := by
  intro q hq
  have hq := List.mem_singleton.mp hq
  subst hq
  exact ⟨rfl, by decide, rfl, _, qB0_restore_e, qB0_restore_x⟩
set_option maxRecDepth 16384 in
theorem lc_restore (hXW : XW X) (hXS : XS X) (hu : 0 ≤ u) (hu2 : u ≤ 940) (hN : lNext X xs i u) {ρ : Nat → Int} {k : KF} (hk : k.1 = 1267) (hag : ∀ j, j < 9 → ρ j = wind xs i u j) (hG : aGS qEnv qPh ρ qS_restore k) (hT : kTW qEnv k.2.2.2.1) (hW : kWT k.2.2.2.1) (hR : RW k.2.2.2.1) : TGL X xs k :=
  law_pair X hu hu2 hN (pcA := 1267) (pcB := 1278) (midA := 28) (midB := 265) (cixA := 10) (cixB := 11) (iA := 183) (iB := 186) (cA := [28]) (cB := [319]) (vs := [3]) (mA := qMA_restore) (mB := qMB_restore) (S := qS_restore) (L1 := qA_restore) (GB := qGB_restore) ⟨rfl, rfl, rfl, rfl⟩ ⟨rfl, rfl, rfl, rfl⟩ (by decide +kernel) (by decide +kernel) qA_restore_e qA_restore_x qGB_restore_wf hB_restore (by decide) rfl List.mem_cons_self (List.mem_cons_of_mem _ List.mem_cons_self) (by decide) (by decide +kernel) (by decide +kernel) (by decide +kernel) (by decide +kernel) (by decide +kernel) (hp_restore X) hk hag hG hT hW hR
set_option maxRecDepth 16384 in
theorem qGB_office_wf : ∀ q ∈ qGB_office, apwf 9 q.2.1 = true := by decide +kernel
set_option maxRecDepth 16384 in
theorem hB_office : ∀ q ∈ qGB_office, q.1 = 320 ∧ 9 ≤ q.2.1.1 ∧ q.2.1.2.2.2.2.1 = ([] : List Nat).map ai ++ [.inr (2, 148)] ∧ ∃ L, qstp 320 qMB_office [278] q.2.1 = some L ∧ expl qEnv qPh qCSL [] true 7 kRc0 kRs0 (some .boolean) qPL qPostL 9 (lfc 70) qGH none 600 L = true := by
  intro q hq
  have hq := List.mem_singleton.mp hq
  subst hq
  exact ⟨rfl, by decide, rfl, _, qB0_office_e, qB0_office_x⟩
set_option maxRecDepth 16384 in
theorem lc_office (hXW : XW X) (hXS : XS X) (hu : 0 ≤ u) (hu2 : u ≤ 940) (hN : lNext X xs i u) {ρ : Nat → Int} {k : KF} (hk : k.1 = 315) (hag : ∀ j, j < 9 → ρ j = wind xs i u j) (hG : aGS qEnv qPh ρ qS_office k) (hT : kTW qEnv k.2.2.2.1) (hW : kWT k.2.2.2.1) (hR : RW k.2.2.2.1) : TGL X xs k :=
  law_pair X hu hu2 hN (pcA := 315) (pcB := 320) (midA := 25) (midB := 230) (cixA := 10) (cixB := 11) (iA := 32) (iB := 36) (cA := [25]) (cB := [278]) (vs := []) (mA := qMA_office) (mB := qMB_office) (S := qS_office) (L1 := qA_office) (GB := qGB_office) ⟨rfl, rfl, rfl, rfl⟩ ⟨rfl, rfl, rfl, rfl⟩ (by decide +kernel) (by decide +kernel) qA_office_e qA_office_x qGB_office_wf hB_office (by decide) rfl List.mem_cons_self (List.mem_cons_of_mem _ List.mem_cons_self) (by decide) (by decide +kernel) (by decide +kernel) (by decide +kernel) (by decide +kernel) (by decide +kernel) (hp_office X hXW hXS) hk hag hG hT hW hR
set_option maxRecDepth 16384 in
theorem qGB_book_wf : ∀ q ∈ qGB_book, apwf 9 q.2.1 = true := by decide +kernel
set_option maxRecDepth 16384 in
theorem hB_book : ∀ q ∈ qGB_book, q.1 = 1165 ∧ 9 ≤ q.2.1.1 ∧ q.2.1.2.2.2.2.1 = ([3] : List Nat).map ai ++ [.inr (2, 148)] ∧ ∃ L, qstp 1165 qMB_book [192] q.2.1 = some L ∧ expl qEnv qPh qCSL [] true 7 kRc0 kRs0 (some .boolean) qPL qPostL 9 (lfc 70) qGH none 600 L = true := by
  intro q hq
  rcases List.mem_cons.mp hq with rfl | hq
  · exact ⟨rfl, by decide, rfl, _, qB0_book_e, qB0_book_x⟩
  rcases List.mem_cons.mp hq with rfl | hq
  · exact ⟨rfl, by decide, rfl, _, qB1_book_e, qB1_book_x⟩
  have hq := List.mem_singleton.mp hq
  subst hq
  exact ⟨rfl, by decide, rfl, _, qB2_book_e, qB2_book_x⟩
set_option maxRecDepth 16384 in
theorem lc_book (hXW : XW X) (hXS : XS X) (hu : 0 ≤ u) (hu2 : u ≤ 940) (hN : lNext X xs i u) {ρ : Nat → Int} {k : KF} (hk : k.1 = 1154) (hag : ∀ j, j < 9 → ρ j = wind xs i u j) (hG : aGS qEnv qPh ρ qS_book k) (hT : kTW qEnv k.2.2.2.1) (hW : kWT k.2.2.2.1) (hR : RW k.2.2.2.1) : TGL X xs k :=
  law_pair X hu hu2 hN (pcA := 1154) (pcB := 1165) (midA := 3) (midB := 171) (cixA := 10) (cixB := 11) (iA := 163) (iB := 166) (cA := [3]) (cB := [192]) (vs := [3]) (mA := qMA_book) (mB := qMB_book) (S := qS_book) (L1 := qA_book) (GB := qGB_book) ⟨rfl, rfl, rfl, rfl⟩ ⟨rfl, rfl, rfl, rfl⟩ (by decide +kernel) (by decide +kernel) qA_book_e qA_book_x qGB_book_wf hB_book (by decide) rfl List.mem_cons_self (List.mem_cons_of_mem _ List.mem_cons_self) (by decide) (by decide +kernel) (by decide +kernel) (by decide +kernel) (by decide +kernel) (by decide +kernel) (hp_book X hXW hXS) hk hag hG hT hW hR
set_option maxRecDepth 16384 in
theorem eqPF {X : KO} {ρ : Nat → Int32} {m : MM} {N : Nat} {o : Instr × List (Nat × Int) × MM} {a0 a1 a2 : Int} (h : MR X ρ 3 0 0 qPF N 0 [a0, a1, a2] [] m o) : ((((f72 m (m a0 1) a1) = 0) ∧ (MR X ρ 3 0 0 qPF N 21 [a0, a1, a2] [] m o)) ∨ (¬ ((f72 m (m a0 1) a1) = 0) ∧ (((a2 < 0) ∧ (MR X ρ 3 0 0 qPF N 21 [a0, a1, a2] [] m o)) ∨ (¬ (a2 < 0) ∧ (((a2 ≤ 6) ∧ (((a2 = 0) ∧ (o = (.ireturn, [(1, f66 m (m a0 1) a1)], m))) ∨ (¬ (a2 = 0) ∧ (((a2 = 1) ∧ (o = (.ireturn, [(1, f128 m (m a0 3) a1)], m))) ∨ (¬ (a2 = 1) ∧ (((a2 = 2) ∧ (o = (.ireturn, [(1, f142 m (m a0 3) a1 (s32 (a2 - 2)))], m))) ∨ (¬ (a2 = 2) ∧ (((a2 = 3) ∧ (o = (.ireturn, [(1, f142 m (m a0 3) a1 (s32 (a2 - 2)))], m))) ∨ (¬ (a2 = 3) ∧ (((a2 = 4) ∧ (o = (.ireturn, [(1, f142 m (m a0 3) a1 (s32 (a2 - 2)))], m))) ∨ (¬ (a2 = 4) ∧ (((a2 = 5) ∧ (o = (.ireturn, [(1, f127 m (m a0 3) a1)], m))) ∨ (¬ (a2 = 5) ∧ (((a2 = 6) ∧ (o = (.ireturn, [(1, f114 m (m a0 3) a1)], m))) ∨ (¬ (a2 = 6) ∧ (o = (.ireturn, [(1, f142 m (m a0 3) a1 (s32 (a2 - 2)))], m))))))))))))))))) ∨ (¬ (a2 ≤ 6) ∧ (MR X ρ 3 0 0 qPF N 21 [a0, a1, a2] [] m o))))))) := by
  have h := CR_aload_n h rfl
  have h : MR X ρ 3 0 0 qPF N 1 [a0, a1, a2] [(1, a0)] m o := h
  have h := CR_getf h rfl (by decide)
  have h : MR X ρ 3 0 0 qPF N 4 [a0, a1, a2] [(1, m a0 1)] m o := h
  have h := CR_iload_n h rfl
  have h : MR X ρ 3 0 0 qPF N 5 [a0, a1, a2] [(1, a1), (1, m a0 1)] m o := h
  obtain ⟨r1, m2, q3, h⟩ := MR_invV h rfl rfl
  have q3 : Run X ρ 72 [(1, m a0 1), (1, a1)] m r1 m2 := q3
  obtain ⟨e4, e5⟩ := d72 q3
  rw [e4, e5] at h
  have h : MR X ρ 3 0 0 qPF N 8 [a0, a1, a2] [(1, f72 m (m a0 1) a1)] m o := h
  rcases MR_if h rfl rfl with ⟨c6, h⟩ | ⟨c6, h⟩
  ·
    have c6 : (f72 m (m a0 1) a1) = 0 := c6
    refine Or.inl ⟨c6, ?_⟩
    have h : MR X ρ 3 0 0 qPF N 21 [a0, a1, a2] [] m o := h
    exact h
  ·
    have c6 : ¬ ((f72 m (m a0 1) a1) = 0) := c6
    refine Or.inr ⟨c6, ?_⟩
    have h : MR X ρ 3 0 0 qPF N 11 [a0, a1, a2] [] m o := h
    have h := CR_iload_n h rfl
    have h : MR X ρ 3 0 0 qPF N 12 [a0, a1, a2] [(1, a2)] m o := h
    rcases MR_if h rfl rfl with ⟨c7, h⟩ | ⟨c7, h⟩
    ·
      have c7 : a2 < 0 := c7
      refine Or.inl ⟨c7, ?_⟩
      have h : MR X ρ 3 0 0 qPF N 21 [a0, a1, a2] [] m o := h
      exact h
    ·
      have c7 : ¬ (a2 < 0) := c7
      refine Or.inr ⟨c7, ?_⟩
      have h : MR X ρ 3 0 0 qPF N 15 [a0, a1, a2] [] m o := h
      have h := CR_iload_n h rfl
      have h : MR X ρ 3 0 0 qPF N 16 [a0, a1, a2] [(1, a2)] m o := h
      have h := CR_bipush h rfl rfl
      have h : MR X ρ 3 0 0 qPF N 18 [a0, a1, a2] [(1, 6), (1, a2)] m o := h
      rcases MR_icmp h rfl rfl with ⟨c8, h⟩ | ⟨c8, h⟩
      ·
        have c8 : a2 ≤ 6 := c8
        refine Or.inl ⟨c8, ?_⟩
        have h : MR X ρ 3 0 0 qPF N 31 [a0, a1, a2] [] m o := h
        have h := CR_iload_n h rfl
        have h : MR X ρ 3 0 0 qPF N 32 [a0, a1, a2] [(1, a2)] m o := h
        obtain ⟨t9, s10, h⟩ := CR_tsw kRg0 h rfl
        rcases Decidable.em (a2 = 0) with c11 | c11
        ·
          refine Or.inl ⟨c11, ?_⟩
          have us10 : swt 32 (80) (0) (6) #[44, 53, 80, 80, 80, 62, 71] a2 = some 76 := by rw [c11]; rfl
          have s10 := us10.symm.trans s10
          cases s10
          have h : MR X ρ 3 0 0 qPF N 76 [a0, a1, a2] [] m o := h
          have h := CR_aload_n h rfl
          have h : MR X ρ 3 0 0 qPF N 77 [a0, a1, a2] [(1, a0)] m o := h
          have h := CR_getf h rfl (by decide)
          have h : MR X ρ 3 0 0 qPF N 80 [a0, a1, a2] [(1, m a0 1)] m o := h
          have h := CR_iload_n h rfl
          have h : MR X ρ 3 0 0 qPF N 81 [a0, a1, a2] [(1, a1), (1, m a0 1)] m o := h
          obtain ⟨r12, m13, q14, h⟩ := MR_invV h rfl rfl
          have q14 : Run X ρ 66 [(1, m a0 1), (1, a1)] m r12 m13 := q14
          obtain ⟨e15, e16⟩ := d66 q14
          rw [e15, e16] at h
          have h : MR X ρ 3 0 0 qPF N 84 [a0, a1, a2] [(1, f66 m (m a0 1) a1)] m o := h
          exact CR_end h rfl rfl
        ·
          refine Or.inr ⟨c11, ?_⟩
          rcases Decidable.em (a2 = 1) with c17 | c17
          ·
            refine Or.inl ⟨c17, ?_⟩
            have us10 : swt 32 (80) (0) (6) #[44, 53, 80, 80, 80, 62, 71] a2 = some 85 := by rw [c17]; rfl
            have s10 := us10.symm.trans s10
            cases s10
            have h : MR X ρ 3 0 0 qPF N 85 [a0, a1, a2] [] m o := h
            have h := CR_aload_n h rfl
            have h : MR X ρ 3 0 0 qPF N 86 [a0, a1, a2] [(1, a0)] m o := h
            have h := CR_getf h rfl (by decide)
            have h : MR X ρ 3 0 0 qPF N 89 [a0, a1, a2] [(1, m a0 3)] m o := h
            have h := CR_iload_n h rfl
            have h : MR X ρ 3 0 0 qPF N 90 [a0, a1, a2] [(1, a1), (1, m a0 3)] m o := h
            obtain ⟨r18, m19, q20, h⟩ := MR_invV h rfl rfl
            have q20 : Run X ρ 128 [(1, m a0 3), (1, a1)] m r18 m19 := q20
            obtain ⟨e21, e22⟩ := d128 q20
            rw [e21, e22] at h
            have h : MR X ρ 3 0 0 qPF N 93 [a0, a1, a2] [(1, f128 m (m a0 3) a1)] m o := h
            exact CR_end h rfl rfl
          ·
            refine Or.inr ⟨c17, ?_⟩
            rcases Decidable.em (a2 = 2) with c23 | c23
            ·
              refine Or.inl ⟨c23, ?_⟩
              have us10 : swt 32 (80) (0) (6) #[44, 53, 80, 80, 80, 62, 71] a2 = some 112 := by rw [c23]; rfl
              have s10 := us10.symm.trans s10
              cases s10
              have h : MR X ρ 3 0 0 qPF N 112 [a0, a1, a2] [] m o := h
              have h := CR_aload_n h rfl
              have h : MR X ρ 3 0 0 qPF N 113 [a0, a1, a2] [(1, a0)] m o := h
              have h := CR_getf h rfl (by decide)
              have h : MR X ρ 3 0 0 qPF N 116 [a0, a1, a2] [(1, m a0 3)] m o := h
              have h := CR_iload_n h rfl
              have h : MR X ρ 3 0 0 qPF N 117 [a0, a1, a2] [(1, a1), (1, m a0 3)] m o := h
              have h := CR_iload_n h rfl
              have h : MR X ρ 3 0 0 qPF N 118 [a0, a1, a2] [(1, a2), (1, a1), (1, m a0 3)] m o := h
              have h := CR_iconst h rfl rfl
              have h : MR X ρ 3 0 0 qPF N 119 [a0, a1, a2] [(1, 2), (1, a2), (1, a1), (1, m a0 3)] m o := h
              have h := CR_isub h rfl
              have h : MR X ρ 3 0 0 qPF N 120 [a0, a1, a2] [(1, s32 (a2 - 2)), (1, a1), (1, m a0 3)] m o := h
              obtain ⟨r24, m25, q26, h⟩ := MR_invV h rfl rfl
              have q26 : Run X ρ 142 [(1, m a0 3), (1, a1), (1, s32 (a2 - 2))] m r24 m25 := q26
              obtain ⟨e27, e28⟩ := d142 q26
              rw [e27, e28] at h
              have h : MR X ρ 3 0 0 qPF N 123 [a0, a1, a2] [(1, f142 m (m a0 3) a1 (s32 (a2 - 2)))] m o := h
              exact CR_end h rfl rfl
            ·
              refine Or.inr ⟨c23, ?_⟩
              rcases Decidable.em (a2 = 3) with c29 | c29
              ·
                refine Or.inl ⟨c29, ?_⟩
                have us10 : swt 32 (80) (0) (6) #[44, 53, 80, 80, 80, 62, 71] a2 = some 112 := by rw [c29]; rfl
                have s10 := us10.symm.trans s10
                cases s10
                have h : MR X ρ 3 0 0 qPF N 112 [a0, a1, a2] [] m o := h
                have h := CR_aload_n h rfl
                have h : MR X ρ 3 0 0 qPF N 113 [a0, a1, a2] [(1, a0)] m o := h
                have h := CR_getf h rfl (by decide)
                have h : MR X ρ 3 0 0 qPF N 116 [a0, a1, a2] [(1, m a0 3)] m o := h
                have h := CR_iload_n h rfl
                have h : MR X ρ 3 0 0 qPF N 117 [a0, a1, a2] [(1, a1), (1, m a0 3)] m o := h
                have h := CR_iload_n h rfl
                have h : MR X ρ 3 0 0 qPF N 118 [a0, a1, a2] [(1, a2), (1, a1), (1, m a0 3)] m o := h
                have h := CR_iconst h rfl rfl
                have h : MR X ρ 3 0 0 qPF N 119 [a0, a1, a2] [(1, 2), (1, a2), (1, a1), (1, m a0 3)] m o := h
                have h := CR_isub h rfl
                have h : MR X ρ 3 0 0 qPF N 120 [a0, a1, a2] [(1, s32 (a2 - 2)), (1, a1), (1, m a0 3)] m o := h
                obtain ⟨r30, m31, q32, h⟩ := MR_invV h rfl rfl
                have q32 : Run X ρ 142 [(1, m a0 3), (1, a1), (1, s32 (a2 - 2))] m r30 m31 := q32
                obtain ⟨e33, e34⟩ := d142 q32
                rw [e33, e34] at h
                have h : MR X ρ 3 0 0 qPF N 123 [a0, a1, a2] [(1, f142 m (m a0 3) a1 (s32 (a2 - 2)))] m o := h
                exact CR_end h rfl rfl
              ·
                refine Or.inr ⟨c29, ?_⟩
                rcases Decidable.em (a2 = 4) with c35 | c35
                ·
                  refine Or.inl ⟨c35, ?_⟩
                  have us10 : swt 32 (80) (0) (6) #[44, 53, 80, 80, 80, 62, 71] a2 = some 112 := by rw [c35]; rfl
                  have s10 := us10.symm.trans s10
                  cases s10
                  have h : MR X ρ 3 0 0 qPF N 112 [a0, a1, a2] [] m o := h
                  have h := CR_aload_n h rfl
                  have h : MR X ρ 3 0 0 qPF N 113 [a0, a1, a2] [(1, a0)] m o := h
                  have h := CR_getf h rfl (by decide)
                  have h : MR X ρ 3 0 0 qPF N 116 [a0, a1, a2] [(1, m a0 3)] m o := h
                  have h := CR_iload_n h rfl
                  have h : MR X ρ 3 0 0 qPF N 117 [a0, a1, a2] [(1, a1), (1, m a0 3)] m o := h
                  have h := CR_iload_n h rfl
                  have h : MR X ρ 3 0 0 qPF N 118 [a0, a1, a2] [(1, a2), (1, a1), (1, m a0 3)] m o := h
                  have h := CR_iconst h rfl rfl
                  have h : MR X ρ 3 0 0 qPF N 119 [a0, a1, a2] [(1, 2), (1, a2), (1, a1), (1, m a0 3)] m o := h
                  have h := CR_isub h rfl
                  have h : MR X ρ 3 0 0 qPF N 120 [a0, a1, a2] [(1, s32 (a2 - 2)), (1, a1), (1, m a0 3)] m o := h
                  obtain ⟨r36, m37, q38, h⟩ := MR_invV h rfl rfl
                  have q38 : Run X ρ 142 [(1, m a0 3), (1, a1), (1, s32 (a2 - 2))] m r36 m37 := q38
                  obtain ⟨e39, e40⟩ := d142 q38
                  rw [e39, e40] at h
                  have h : MR X ρ 3 0 0 qPF N 123 [a0, a1, a2] [(1, f142 m (m a0 3) a1 (s32 (a2 - 2)))] m o := h
                  exact CR_end h rfl rfl
                ·
                  refine Or.inr ⟨c35, ?_⟩
                  rcases Decidable.em (a2 = 5) with c41 | c41
                  ·
                    refine Or.inl ⟨c41, ?_⟩
                    have us10 : swt 32 (80) (0) (6) #[44, 53, 80, 80, 80, 62, 71] a2 = some 94 := by rw [c41]; rfl
                    have s10 := us10.symm.trans s10
                    cases s10
                    have h : MR X ρ 3 0 0 qPF N 94 [a0, a1, a2] [] m o := h
                    have h := CR_aload_n h rfl
                    have h : MR X ρ 3 0 0 qPF N 95 [a0, a1, a2] [(1, a0)] m o := h
                    have h := CR_getf h rfl (by decide)
                    have h : MR X ρ 3 0 0 qPF N 98 [a0, a1, a2] [(1, m a0 3)] m o := h
                    have h := CR_iload_n h rfl
                    have h : MR X ρ 3 0 0 qPF N 99 [a0, a1, a2] [(1, a1), (1, m a0 3)] m o := h
                    obtain ⟨r42, m43, q44, h⟩ := MR_invV h rfl rfl
                    have q44 : Run X ρ 127 [(1, m a0 3), (1, a1)] m r42 m43 := q44
                    obtain ⟨e45, e46⟩ := d127 q44
                    rw [e45, e46] at h
                    have h : MR X ρ 3 0 0 qPF N 102 [a0, a1, a2] [(1, f127 m (m a0 3) a1)] m o := h
                    exact CR_end h rfl rfl
                  ·
                    refine Or.inr ⟨c41, ?_⟩
                    rcases Decidable.em (a2 = 6) with c47 | c47
                    ·
                      refine Or.inl ⟨c47, ?_⟩
                      have us10 : swt 32 (80) (0) (6) #[44, 53, 80, 80, 80, 62, 71] a2 = some 103 := by rw [c47]; rfl
                      have s10 := us10.symm.trans s10
                      cases s10
                      have h : MR X ρ 3 0 0 qPF N 103 [a0, a1, a2] [] m o := h
                      have h := CR_aload_n h rfl
                      have h : MR X ρ 3 0 0 qPF N 104 [a0, a1, a2] [(1, a0)] m o := h
                      have h := CR_getf h rfl (by decide)
                      have h : MR X ρ 3 0 0 qPF N 107 [a0, a1, a2] [(1, m a0 3)] m o := h
                      have h := CR_iload_n h rfl
                      have h : MR X ρ 3 0 0 qPF N 108 [a0, a1, a2] [(1, a1), (1, m a0 3)] m o := h
                      obtain ⟨r48, m49, q50, h⟩ := MR_invV h rfl rfl
                      have q50 : Run X ρ 114 [(1, m a0 3), (1, a1)] m r48 m49 := q50
                      obtain ⟨e51, e52⟩ := d114 q50
                      rw [e51, e52] at h
                      have h : MR X ρ 3 0 0 qPF N 111 [a0, a1, a2] [(1, f114 m (m a0 3) a1)] m o := h
                      exact CR_end h rfl rfl
                    ·
                      refine Or.inr ⟨c47, ?_⟩
                      have us10 := swt_d (pc := 32) (dflt := 80) (lw := 0) (hg := 6) (offs := #[44, 53, 80, 80, 80, 62, 71]) (t := 112) (e := a2) (by omega) rfl
                      have s10 := us10.symm.trans s10
                      cases s10
                      have h : MR X ρ 3 0 0 qPF N 112 [a0, a1, a2] [] m o := h
                      have h := CR_aload_n h rfl
                      have h : MR X ρ 3 0 0 qPF N 113 [a0, a1, a2] [(1, a0)] m o := h
                      have h := CR_getf h rfl (by decide)
                      have h : MR X ρ 3 0 0 qPF N 116 [a0, a1, a2] [(1, m a0 3)] m o := h
                      have h := CR_iload_n h rfl
                      have h : MR X ρ 3 0 0 qPF N 117 [a0, a1, a2] [(1, a1), (1, m a0 3)] m o := h
                      have h := CR_iload_n h rfl
                      have h : MR X ρ 3 0 0 qPF N 118 [a0, a1, a2] [(1, a2), (1, a1), (1, m a0 3)] m o := h
                      have h := CR_iconst h rfl rfl
                      have h : MR X ρ 3 0 0 qPF N 119 [a0, a1, a2] [(1, 2), (1, a2), (1, a1), (1, m a0 3)] m o := h
                      have h := CR_isub h rfl
                      have h : MR X ρ 3 0 0 qPF N 120 [a0, a1, a2] [(1, s32 (a2 - 2)), (1, a1), (1, m a0 3)] m o := h
                      obtain ⟨r53, m54, q55, h⟩ := MR_invV h rfl rfl
                      have q55 : Run X ρ 142 [(1, m a0 3), (1, a1), (1, s32 (a2 - 2))] m r53 m54 := q55
                      obtain ⟨e56, e57⟩ := d142 q55
                      rw [e56, e57] at h
                      have h : MR X ρ 3 0 0 qPF N 123 [a0, a1, a2] [(1, f142 m (m a0 3) a1 (s32 (a2 - 2)))] m o := h
                      exact CR_end h rfl rfl
      ·
        have c8 : ¬ (a2 ≤ 6) := c8
        refine Or.inr ⟨c8, ?_⟩
        have h : MR X ρ 3 0 0 qPF N 21 [a0, a1, a2] [] m o := h
        exact h
set_option maxRecDepth 16384 in
theorem eqPP {X : KO} {ρ : Nat → Int32} {m : MM} {N : Nat} {o : Instr × List (Nat × Int) × MM} {a0 a1 a2 : Int} (h : MR X ρ 3 0 0 qPP N 0 [a0, a1, a2] [] m o) : ((((f73 m (m a0 1) a1) = 0) ∧ (MR X ρ 3 0 0 qPP N 20 [a0, a1, a2] [] m o)) ∨ (¬ ((f73 m (m a0 1) a1) = 0) ∧ (((a2 < 0) ∧ (MR X ρ 3 0 0 qPP N 20 [a0, a1, a2] [] m o)) ∨ (¬ (a2 < 0) ∧ (((a2 ≤ 4) ∧ (((a2 = 0) ∧ ((((f129 m (m a0 3) a1) = 0) ∧ (o = (.ireturn, [(1, 0)], m))) ∨ (¬ ((f129 m (m a0 3) a1) = 0) ∧ (o = (.ireturn, [(1, 1)], m))))) ∨ (¬ (a2 = 0) ∧ (((a2 = 1) ∧ (o = (.ireturn, [(1, f141 m (m a0 3) a1)], m))) ∨ (¬ (a2 = 1) ∧ (((a2 = 2) ∧ (o = (.ireturn, [(1, f145 m (m a0 3) a1)], m))) ∨ (¬ (a2 = 2) ∧ (((a2 = 3) ∧ (o = (.ireturn, [(1, f125 m (m a0 3) a1)], m))) ∨ (¬ (a2 = 3) ∧ (o = (.ireturn, [(1, f84 m (m a0 1) a1)], m))))))))))) ∨ (¬ (a2 ≤ 4) ∧ (MR X ρ 3 0 0 qPP N 20 [a0, a1, a2] [] m o))))))) := by
  have h := CR_aload_n h rfl
  have h : MR X ρ 3 0 0 qPP N 1 [a0, a1, a2] [(1, a0)] m o := h
  have h := CR_getf h rfl (by decide)
  have h : MR X ρ 3 0 0 qPP N 4 [a0, a1, a2] [(1, m a0 1)] m o := h
  have h := CR_iload_n h rfl
  have h : MR X ρ 3 0 0 qPP N 5 [a0, a1, a2] [(1, a1), (1, m a0 1)] m o := h
  obtain ⟨r1, m2, q3, h⟩ := MR_invV h rfl rfl
  have q3 : Run X ρ 73 [(1, m a0 1), (1, a1)] m r1 m2 := q3
  obtain ⟨e4, e5⟩ := d73 q3
  rw [e4, e5] at h
  have h : MR X ρ 3 0 0 qPP N 8 [a0, a1, a2] [(1, f73 m (m a0 1) a1)] m o := h
  rcases MR_if h rfl rfl with ⟨c6, h⟩ | ⟨c6, h⟩
  ·
    have c6 : (f73 m (m a0 1) a1) = 0 := c6
    refine Or.inl ⟨c6, ?_⟩
    have h : MR X ρ 3 0 0 qPP N 20 [a0, a1, a2] [] m o := h
    exact h
  ·
    have c6 : ¬ ((f73 m (m a0 1) a1) = 0) := c6
    refine Or.inr ⟨c6, ?_⟩
    have h : MR X ρ 3 0 0 qPP N 11 [a0, a1, a2] [] m o := h
    have h := CR_iload_n h rfl
    have h : MR X ρ 3 0 0 qPP N 12 [a0, a1, a2] [(1, a2)] m o := h
    rcases MR_if h rfl rfl with ⟨c7, h⟩ | ⟨c7, h⟩
    ·
      have c7 : a2 < 0 := c7
      refine Or.inl ⟨c7, ?_⟩
      have h : MR X ρ 3 0 0 qPP N 20 [a0, a1, a2] [] m o := h
      exact h
    ·
      have c7 : ¬ (a2 < 0) := c7
      refine Or.inr ⟨c7, ?_⟩
      have h : MR X ρ 3 0 0 qPP N 15 [a0, a1, a2] [] m o := h
      have h := CR_iload_n h rfl
      have h : MR X ρ 3 0 0 qPP N 16 [a0, a1, a2] [(1, a2)] m o := h
      have h := CR_iconst h rfl rfl
      have h : MR X ρ 3 0 0 qPP N 17 [a0, a1, a2] [(1, 4), (1, a2)] m o := h
      rcases MR_icmp h rfl rfl with ⟨c8, h⟩ | ⟨c8, h⟩
      ·
        have c8 : a2 ≤ 4 := c8
        refine Or.inl ⟨c8, ?_⟩
        have h : MR X ρ 3 0 0 qPP N 30 [a0, a1, a2] [] m o := h
        have h := CR_iload_n h rfl
        have h : MR X ρ 3 0 0 qPP N 31 [a0, a1, a2] [(1, a2)] m o := h
        obtain ⟨t9, s10, h⟩ := CR_tsw kRg0 h rfl
        rcases Decidable.em (a2 = 0) with c11 | c11
        ·
          refine Or.inl ⟨c11, ?_⟩
          have us10 : swt 31 (73) (0) (3) #[29, 46, 55, 64] a2 = some 60 := by rw [c11]; rfl
          have s10 := us10.symm.trans s10
          cases s10
          have h : MR X ρ 3 0 0 qPP N 60 [a0, a1, a2] [] m o := h
          have h := CR_aload_n h rfl
          have h : MR X ρ 3 0 0 qPP N 61 [a0, a1, a2] [(1, a0)] m o := h
          have h := CR_getf h rfl (by decide)
          have h : MR X ρ 3 0 0 qPP N 64 [a0, a1, a2] [(1, m a0 3)] m o := h
          have h := CR_iload_n h rfl
          have h : MR X ρ 3 0 0 qPP N 65 [a0, a1, a2] [(1, a1), (1, m a0 3)] m o := h
          obtain ⟨r12, m13, q14, h⟩ := MR_invV h rfl rfl
          have q14 : Run X ρ 129 [(1, m a0 3), (1, a1)] m r12 m13 := q14
          obtain ⟨e15, e16⟩ := d129 q14
          rw [e15, e16] at h
          have h : MR X ρ 3 0 0 qPP N 68 [a0, a1, a2] [(1, f129 m (m a0 3) a1)] m o := h
          rcases MR_if h rfl rfl with ⟨c17, h⟩ | ⟨c17, h⟩
          ·
            have c17 : (f129 m (m a0 3) a1) = 0 := c17
            refine Or.inl ⟨c17, ?_⟩
            have h : MR X ρ 3 0 0 qPP N 75 [a0, a1, a2] [] m o := h
            have h := CR_iconst h rfl rfl
            have h : MR X ρ 3 0 0 qPP N 76 [a0, a1, a2] [(1, 0)] m o := h
            exact CR_end h rfl rfl
          ·
            have c17 : ¬ ((f129 m (m a0 3) a1) = 0) := c17
            refine Or.inr ⟨c17, ?_⟩
            have h : MR X ρ 3 0 0 qPP N 71 [a0, a1, a2] [] m o := h
            have h := CR_iconst h rfl rfl
            have h : MR X ρ 3 0 0 qPP N 72 [a0, a1, a2] [(1, 1)] m o := h
            have h := CR_go h rfl rfl
            have h : MR X ρ 3 0 0 qPP N 76 [a0, a1, a2] [(1, 1)] m o := h
            exact CR_end h rfl rfl
        ·
          refine Or.inr ⟨c11, ?_⟩
          rcases Decidable.em (a2 = 1) with c18 | c18
          ·
            refine Or.inl ⟨c18, ?_⟩
            have us10 : swt 31 (73) (0) (3) #[29, 46, 55, 64] a2 = some 77 := by rw [c18]; rfl
            have s10 := us10.symm.trans s10
            cases s10
            have h : MR X ρ 3 0 0 qPP N 77 [a0, a1, a2] [] m o := h
            have h := CR_aload_n h rfl
            have h : MR X ρ 3 0 0 qPP N 78 [a0, a1, a2] [(1, a0)] m o := h
            have h := CR_getf h rfl (by decide)
            have h : MR X ρ 3 0 0 qPP N 81 [a0, a1, a2] [(1, m a0 3)] m o := h
            have h := CR_iload_n h rfl
            have h : MR X ρ 3 0 0 qPP N 82 [a0, a1, a2] [(1, a1), (1, m a0 3)] m o := h
            obtain ⟨r19, m20, q21, h⟩ := MR_invV h rfl rfl
            have q21 : Run X ρ 141 [(1, m a0 3), (1, a1)] m r19 m20 := q21
            obtain ⟨e22, e23⟩ := d141 q21
            rw [e22, e23] at h
            have h : MR X ρ 3 0 0 qPP N 85 [a0, a1, a2] [(1, f141 m (m a0 3) a1)] m o := h
            exact CR_end h rfl rfl
          ·
            refine Or.inr ⟨c18, ?_⟩
            rcases Decidable.em (a2 = 2) with c24 | c24
            ·
              refine Or.inl ⟨c24, ?_⟩
              have us10 : swt 31 (73) (0) (3) #[29, 46, 55, 64] a2 = some 86 := by rw [c24]; rfl
              have s10 := us10.symm.trans s10
              cases s10
              have h : MR X ρ 3 0 0 qPP N 86 [a0, a1, a2] [] m o := h
              have h := CR_aload_n h rfl
              have h : MR X ρ 3 0 0 qPP N 87 [a0, a1, a2] [(1, a0)] m o := h
              have h := CR_getf h rfl (by decide)
              have h : MR X ρ 3 0 0 qPP N 90 [a0, a1, a2] [(1, m a0 3)] m o := h
              have h := CR_iload_n h rfl
              have h : MR X ρ 3 0 0 qPP N 91 [a0, a1, a2] [(1, a1), (1, m a0 3)] m o := h
              obtain ⟨r25, m26, q27, h⟩ := MR_invV h rfl rfl
              have q27 : Run X ρ 145 [(1, m a0 3), (1, a1)] m r25 m26 := q27
              obtain ⟨e28, e29⟩ := d145 q27
              rw [e28, e29] at h
              have h : MR X ρ 3 0 0 qPP N 94 [a0, a1, a2] [(1, f145 m (m a0 3) a1)] m o := h
              exact CR_end h rfl rfl
            ·
              refine Or.inr ⟨c24, ?_⟩
              rcases Decidable.em (a2 = 3) with c30 | c30
              ·
                refine Or.inl ⟨c30, ?_⟩
                have us10 : swt 31 (73) (0) (3) #[29, 46, 55, 64] a2 = some 95 := by rw [c30]; rfl
                have s10 := us10.symm.trans s10
                cases s10
                have h : MR X ρ 3 0 0 qPP N 95 [a0, a1, a2] [] m o := h
                have h := CR_aload_n h rfl
                have h : MR X ρ 3 0 0 qPP N 96 [a0, a1, a2] [(1, a0)] m o := h
                have h := CR_getf h rfl (by decide)
                have h : MR X ρ 3 0 0 qPP N 99 [a0, a1, a2] [(1, m a0 3)] m o := h
                have h := CR_iload_n h rfl
                have h : MR X ρ 3 0 0 qPP N 100 [a0, a1, a2] [(1, a1), (1, m a0 3)] m o := h
                obtain ⟨r31, m32, q33, h⟩ := MR_invV h rfl rfl
                have q33 : Run X ρ 125 [(1, m a0 3), (1, a1)] m r31 m32 := q33
                obtain ⟨e34, e35⟩ := d125 q33
                rw [e34, e35] at h
                have h : MR X ρ 3 0 0 qPP N 103 [a0, a1, a2] [(1, f125 m (m a0 3) a1)] m o := h
                exact CR_end h rfl rfl
              ·
                refine Or.inr ⟨c30, ?_⟩
                have us10 := swt_d (pc := 31) (dflt := 73) (lw := 0) (hg := 3) (offs := #[29, 46, 55, 64]) (t := 104) (e := a2) (by omega) rfl
                have s10 := us10.symm.trans s10
                cases s10
                have h : MR X ρ 3 0 0 qPP N 104 [a0, a1, a2] [] m o := h
                have h := CR_aload_n h rfl
                have h : MR X ρ 3 0 0 qPP N 105 [a0, a1, a2] [(1, a0)] m o := h
                have h := CR_getf h rfl (by decide)
                have h : MR X ρ 3 0 0 qPP N 108 [a0, a1, a2] [(1, m a0 1)] m o := h
                have h := CR_iload_n h rfl
                have h : MR X ρ 3 0 0 qPP N 109 [a0, a1, a2] [(1, a1), (1, m a0 1)] m o := h
                obtain ⟨r36, m37, q38, h⟩ := MR_invV h rfl rfl
                have q38 : Run X ρ 84 [(1, m a0 1), (1, a1)] m r36 m37 := q38
                obtain ⟨e39, e40⟩ := d84 q38
                rw [e39, e40] at h
                have h : MR X ρ 3 0 0 qPP N 112 [a0, a1, a2] [(1, f84 m (m a0 1) a1)] m o := h
                exact CR_end h rfl rfl
      ·
        have c8 : ¬ (a2 ≤ 4) := c8
        refine Or.inr ⟨c8, ?_⟩
        have h : MR X ρ 3 0 0 qPP N 20 [a0, a1, a2] [] m o := h
        exact h
set_option maxRecDepth 16384 in
theorem help_CR {prog : List KEnt} {X : KO} {f d : Nat} {a b : Int32} {w w' : KW} {r : Option KV} (h : qHrun prog X f d a b w r w') (hW : kWT w) : ∃ (ig : Instr) (S : List (Nat × Int)), MR X zr 3 0 0 prog f 0 [0, a.toInt, b.toInt] [] (wm zr w) (ig, S, wm zr w') ∧ ((S = [] ∧ r = none) ∨ ∃ z : Int32, S = [(1, z.toInt)] ∧ r = some (.inl (.int z))) := by
  obtain ⟨ig, pc, lo, st, c, s, h1, -, -, h4, h5, -⟩ := h
  have hs := kretx_st h4
  refine ⟨ig, st.map (kcc zr), ⟨kcallx qmeths X f d, f, _, _, _, _, _, _, ⟨⟨f, d, rfl⟩, kcallx_pr _ _ _ _⟩, Nat.le_refl _, hW, lrel_args _ [.inl (.ref 0), .inl (.int a), .inl (.int b)] [], rfl, rfl, h1, rfl, rfl⟩, ?_⟩
  rcases h5 with h5 | ⟨z, h5⟩
  · rw [hs, h5]; exact Or.inl ⟨rfl, rfl⟩
  · rw [hs, h5]; exact Or.inr ⟨z, rfl, rfl⟩
set_option maxRecDepth 16384 in
theorem formC {X : KO} {f d : Nat} {a b : Int32} {w w' : KW} {r : Option KV} (h : qHrun qPF X f d a b w r w') (hW : kWT w) (h1 : wm zr w 0 1 = 3) (h3 : wm zr w 0 3 = 15) : (r = none ∧ (f72 (wm zr w) 3 a.toInt = 0 ∨ b.toInt < 0 ∨ 6 < b.toInt)) ∨ ∃ z : Int32, r = some (.inl (.int z)) ∧ (¬ f72 (wm zr w) 3 a.toInt = 0 ∧ 0 ≤ b.toInt ∧ b.toInt ≤ 6) ∧ z.toInt = vF (wm zr w) a.toInt b.toInt := by
  obtain ⟨ig, S, hr, hS⟩ := help_CR h hW
  have A := eqPF hr
  rw [h1, h3] at A
  have thr : MR X zr 3 0 0 qPF f 21 [0, a.toInt, b.toInt] [] (wm zr w) (ig, S, wm zr w') → r = none := fun q => by
    have e := CR_end q (ig := .new 125) (x := (0, 0, 0, 0, 0)) rfl rfl
    have e : S = [] := congrArg (fun z => z.2.1) e
    rcases hS with ⟨-, hS⟩ | ⟨z, hS, -⟩
    · exact hS
    · rw [e] at hS; cases hS
  have val : ∀ v : Int, (ig, S, wm zr w') = ((.ireturn, [(1, v)], wm zr w) : Instr × List (Nat × Int) × MM) → ∃ z : Int32, r = some (.inl (.int z)) ∧ z.toInt = v := fun v e => by
    have e : S = [(1, v)] := congrArg (fun z => z.2.1) e
    rcases hS with ⟨hS, -⟩ | ⟨z, hS, hz⟩
    · rw [e] at hS; cases hS
    · rw [e] at hS
      injection hS with q1 q2
      injection q1 with q1 q3
      exact ⟨z, hz, q3.symm⟩
  generalize a.toInt = x at *
  generalize b.toInt = y at *
  rcases A with ⟨c, A⟩ | ⟨c, A⟩
  · exact Or.inl ⟨thr A, Or.inl c⟩
  rcases A with ⟨c1, A⟩ | ⟨c1, A⟩
  · exact Or.inl ⟨thr A, Or.inr (Or.inl c1)⟩
  rcases A with ⟨c2, A⟩ | ⟨c2, A⟩
  · right
    have hc : ¬ f72 (wm zr w) 3 x = 0 ∧ 0 ≤ y ∧ y ≤ 6 := ⟨c, by omega, c2⟩
    have fin : ∀ v : Int, v = vF (wm zr w) x y → (ig, S, wm zr w') = ((.ireturn, [(1, v)], wm zr w) : Instr × List (Nat × Int) × MM) → ∃ z : Int32, r = some (.inl (.int z)) ∧ (¬ f72 (wm zr w) 3 x = 0 ∧ 0 ≤ y ∧ y ≤ 6) ∧ z.toInt = vF (wm zr w) x y := fun v hv e => by
      obtain ⟨z, z1, z2⟩ := val v e
      exact ⟨z, z1, hc, z2.trans hv⟩
    unfold vF at fin ⊢
    rcases A with ⟨e0, A⟩ | ⟨e0, A⟩
    · refine fin _ ?_ A; rw [if_pos e0]
    rcases A with ⟨e1, A⟩ | ⟨e1, A⟩
    · refine fin _ ?_ A; rw [if_neg e0, if_pos e1]
    rcases A with ⟨e2, A⟩ | ⟨e2, A⟩
    · refine fin _ ?_ A; rw [if_neg e0, if_neg e1, if_neg (by omega), if_neg (by omega)]
    rcases A with ⟨e3, A⟩ | ⟨e3, A⟩
    · refine fin _ ?_ A; rw [if_neg e0, if_neg e1, if_neg (by omega), if_neg (by omega)]
    rcases A with ⟨e4, A⟩ | ⟨e4, A⟩
    · refine fin _ ?_ A; rw [if_neg e0, if_neg e1, if_neg (by omega), if_neg (by omega)]
    rcases A with ⟨e5, A⟩ | ⟨e5, A⟩
    · refine fin _ ?_ A; rw [if_neg e0, if_neg e1, if_pos e5]
    rcases A with ⟨e6, A⟩ | ⟨e6, A⟩
    · refine fin _ ?_ A; rw [if_neg e0, if_neg e1, if_neg e5, if_pos e6]
    · refine fin _ ?_ A; rw [if_neg e0, if_neg e1, if_neg e5, if_neg e6]
  · exact Or.inl ⟨thr A, Or.inr (Or.inr (by omega))⟩
set_option maxRecDepth 16384 in
theorem personC {X : KO} {f d : Nat} {a b : Int32} {w w' : KW} {r : Option KV} (h : qHrun qPP X f d a b w r w') (hW : kWT w) (h1 : wm zr w 0 1 = 3) (h3 : wm zr w 0 3 = 15) : (r = none ∧ (f73 (wm zr w) 3 a.toInt = 0 ∨ b.toInt < 0 ∨ 4 < b.toInt)) ∨ ∃ z : Int32, r = some (.inl (.int z)) ∧ (¬ f73 (wm zr w) 3 a.toInt = 0 ∧ 0 ≤ b.toInt ∧ b.toInt ≤ 4) ∧ z.toInt = vP (wm zr w) a.toInt b.toInt := by
  obtain ⟨ig, S, hr, hS⟩ := help_CR h hW
  have A := eqPP hr
  rw [h1, h3] at A
  have thr : MR X zr 3 0 0 qPP f 20 [0, a.toInt, b.toInt] [] (wm zr w) (ig, S, wm zr w') → r = none := fun q => by
    have e := CR_end q (ig := .new 125) (x := (0, 0, 0, 0, 0)) rfl rfl
    have e : S = [] := congrArg (fun z => z.2.1) e
    rcases hS with ⟨-, hS⟩ | ⟨z, hS, -⟩
    · exact hS
    · rw [e] at hS; cases hS
  have val : ∀ v : Int, (ig, S, wm zr w') = ((.ireturn, [(1, v)], wm zr w) : Instr × List (Nat × Int) × MM) → ∃ z : Int32, r = some (.inl (.int z)) ∧ z.toInt = v := fun v e => by
    have e : S = [(1, v)] := congrArg (fun z => z.2.1) e
    rcases hS with ⟨hS, -⟩ | ⟨z, hS, hz⟩
    · rw [e] at hS; cases hS
    · rw [e] at hS
      injection hS with q1 q2
      injection q1 with q1 q3
      exact ⟨z, hz, q3.symm⟩
  generalize a.toInt = x at *
  generalize b.toInt = y at *
  rcases A with ⟨c, A⟩ | ⟨c, A⟩
  · exact Or.inl ⟨thr A, Or.inl c⟩
  rcases A with ⟨c1, A⟩ | ⟨c1, A⟩
  · exact Or.inl ⟨thr A, Or.inr (Or.inl c1)⟩
  rcases A with ⟨c2, A⟩ | ⟨c2, A⟩
  · right
    have hc : ¬ f73 (wm zr w) 3 x = 0 ∧ 0 ≤ y ∧ y ≤ 4 := ⟨c, by omega, c2⟩
    have fin : ∀ v : Int, v = vP (wm zr w) x y → (ig, S, wm zr w') = ((.ireturn, [(1, v)], wm zr w) : Instr × List (Nat × Int) × MM) → ∃ z : Int32, r = some (.inl (.int z)) ∧ (¬ f73 (wm zr w) 3 x = 0 ∧ 0 ≤ y ∧ y ≤ 4) ∧ z.toInt = vP (wm zr w) x y := fun v hv e => by
      obtain ⟨z, z1, z2⟩ := val v e
      exact ⟨z, z1, hc, z2.trans hv⟩
    unfold vP at fin ⊢
    rcases A with ⟨e0, A⟩ | ⟨e0, A⟩
    · rcases A with ⟨d, A⟩ | ⟨d, A⟩
      · refine fin _ ?_ A; rw [if_pos e0, if_pos d]
      · refine fin _ ?_ A; rw [if_pos e0, if_neg d]
    rcases A with ⟨e1, A⟩ | ⟨e1, A⟩
    · refine fin _ ?_ A; rw [if_neg e0, if_pos e1]
    rcases A with ⟨e2, A⟩ | ⟨e2, A⟩
    · refine fin _ ?_ A; rw [if_neg e0, if_neg e1, if_pos e2]
    rcases A with ⟨e3, A⟩ | ⟨e3, A⟩
    · refine fin _ ?_ A; rw [if_neg e0, if_neg e1, if_neg e2, if_pos e3]
    · refine fin _ ?_ A; rw [if_neg e0, if_neg e1, if_neg e2, if_neg e3]
  · exact Or.inl ⟨thr A, Or.inr (Or.inr (by omega))⟩
set_option maxRecDepth 16384 in
theorem g194_fr (b : MM) (f w : Int) : Fr (fun x k => x = 148 ∧ k = 0) b (g194 b 148 f w) := by
  have h0 : Fr (fun x k => x = 148 ∧ k = 0) b (mu b 148 0 0) := (Fr.rf _ _).mu ⟨rfl, rfl⟩
  have h1 : Fr (fun x k => x = 148 ∧ k = 0) b (g263 (mu b 148 0 0) 148) := h0.mu ⟨rfl, rfl⟩
  unfold g194
  repeat' split
  all_goals first | exact h0 | exact h1
set_option maxRecDepth 16384 in
theorem g238_fr (b : MM) (f w : Int) : Fr (fun x k => x = 148 ∧ k = 0) b (g238 b 148 f w) := by
  have h0 : Fr (fun x k => x = 148 ∧ k = 0) b (mu b 148 0 0) := (Fr.rf _ _).mu ⟨rfl, rfl⟩
  have h1 : Fr (fun x k => x = 148 ∧ k = 0) b (g263 (mu b 148 0 0) 148) := h0.mu ⟨rfl, rfl⟩
  unfold g238
  repeat' split
  all_goals first | exact h0 | exact h1
set_option maxRecDepth 16384 in
theorem C2_th {a b b' : MM} (h : C2 a b) (hf : Fr (fun x k => x = 148 ∧ k = 0) b b') : C2 a b' := C2_fr h (fun _ _ _ => rfl) (fun x k q => hf x k (by unfold PJs at q; omega))
set_option maxRecDepth 16384 in
theorem hp_formH (X : KO) : ∀ (f : Nat) (wa wb wb' : KW) (r0 : Option KV) (w0 : KW) (rl' : List (Nat × Int)) (a b : Int32), kTW qEnv wa → kWT wa → C2 (wm zr wa) (wm zr wb) → qHrun qPF X f 70 a b wa r0 w0 → Run X zr 194 [(1, 148), (1, a.toInt), (1, b.toInt)] (wm zr wb) rl' (wm zr wb') → C2 (wm zr wa) (wm zr wb') ∧ ((r0 = none ∧ wm zr wb' 148 0 = 1) ∨ ∃ z : Int32, r0 = some (.inl (.int z)) ∧ wm zr wb' 148 0 = 0 ∧ rl' = [(1, z.toInt)]) := by
  intro f wa wb wb' r0 w0 rl' a b hT hW hC hH hr
  obtain ⟨e1, e2⟩ := d194 hr
  rw [e2, e1]
  refine ⟨C2_th hC (g194_fr _ _ _), ?_⟩
  have h0 : C2 (wm zr wa) (mu (wm zr wb) 148 0 0) := C2_th hC ((Fr.rf _ _).mu ⟨rfl, rfl⟩)
  rcases formC hH hW hC.1.1.1 hC.1.1.2.1 with ⟨q1, q2⟩ | ⟨z, q1, q2, q3⟩
  · rcases formq_pair hC.1.2.1 h0.1.2.1 a.toInt b.toInt with ⟨-, p2⟩ | ⟨p1, -, -⟩
    · exact Or.inl ⟨q1, p2⟩
    · exfalso; omega
  · rcases formq_pair hC.1.2.1 h0.1.2.1 a.toInt b.toInt with ⟨p1, -⟩ | ⟨-, p2, p3⟩
    · exfalso; omega
    · exact Or.inr ⟨z, q1, p2, by rw [p3, q3]⟩
set_option maxRecDepth 16384 in
theorem hp_personH (X : KO) : ∀ (f : Nat) (wa wb wb' : KW) (r0 : Option KV) (w0 : KW) (rl' : List (Nat × Int)) (a b : Int32), kTW qEnv wa → kWT wa → C2 (wm zr wa) (wm zr wb) → qHrun qPP X f 70 a b wa r0 w0 → Run X zr 238 [(1, 148), (1, a.toInt), (1, b.toInt)] (wm zr wb) rl' (wm zr wb') → C2 (wm zr wa) (wm zr wb') ∧ ((r0 = none ∧ wm zr wb' 148 0 = 1) ∨ ∃ z : Int32, r0 = some (.inl (.int z)) ∧ wm zr wb' 148 0 = 0 ∧ rl' = [(1, z.toInt)]) := by
  intro f wa wb wb' r0 w0 rl' a b hT hW hC hH hr
  obtain ⟨e1, e2⟩ := d238 hr
  rw [e2, e1]
  refine ⟨C2_th hC (g238_fr _ _ _), ?_⟩
  have h0 : C2 (wm zr wa) (mu (wm zr wb) 148 0 0) := C2_th hC ((Fr.rf _ _).mu ⟨rfl, rfl⟩)
  rcases personC hH hW hC.1.1.1 hC.1.1.2.1 with ⟨q1, q2⟩ | ⟨z, q1, q2, q3⟩
  · rcases personq_pair hC.1.2.1 h0.1.2.1 a.toInt b.toInt with ⟨-, p2⟩ | ⟨p1, -, -⟩
    · exact Or.inl ⟨q1, p2⟩
    · exfalso; omega
  · rcases personq_pair hC.1.2.1 h0.1.2.1 a.toInt b.toInt with ⟨p1, -⟩ | ⟨-, p2, p3⟩
    · exfalso; omega
    · exact Or.inr ⟨z, q1, p2, by rw [p3, q3]⟩
set_option maxRecDepth 16384 in
/-- TriplicateFormsModel.thrown()I -/
noncomputable def f298 (m : MM) (a0 : Int) : Int := m a0 0
set_option maxRecDepth 16384 in
theorem d298 {X : KO} {ρ : Nat → Int32} {m m' : MM} {rl : List (Nat × Int)} {a0 : Int} (h : Run X ρ 298 [(1, a0)] m rl m') : rl = [(1, f298 m a0)] ∧ m' = m := by
  obtain ⟨N, ig, h⟩ := Run_CR h rfl
  have h : MR X ρ 1 0 0 qP298 N 0 [a0] [] m (ig, rl, m') := h
  have h := CR_aload_n h rfl
  have h : MR X ρ 1 0 0 qP298 N 1 [a0] [(1, a0)] m (ig, rl, m') := h
  have h := CR_getf h rfl (by decide)
  have h : MR X ρ 1 0 0 qP298 N 4 [a0] [(1, m a0 0)] m (ig, rl, m') := h
  have e := CR_end h rfl rfl
  cases e
  exact ⟨congrArg (fun z => [(1, z)]) (Eq.symm (show f298 m a0 = _ from rfl)), rfl⟩
set_option maxRecDepth 16384 in
theorem lq_ (hXW : XW X) (hXS : XS X) (hu : 0 ≤ u) (hu2 : u ≤ 940) (hN : lNext X xs i u) {ρ : Nat → Int} {k : KF} (hk : k.1 = 394) (hag : ∀ j, j < 9 → ρ j = wind xs i u j) (hG : aGS qEnv qPh ρ qSq k) (hT : kTW qEnv k.2.2.2.1) (hW : kWT k.2.2.2.1) (hR : RW k.2.2.2.1) : TGL X xs k :=
  law_fp X hN (pcA := 394) (pcB := 412) (pcT := 418) (pcL := 433) (pcE := 445) (midA := 399) (midB := 238) (midT := 298) (cixB := 11) (cixT := 11) (iA := 47) (iB := 49) (iT := 50) (off := 5) (mA := qMA_q) (mB := qMB_q) (mT := qMT_q) (cA := [458]) (cB := [286]) (cT := [456]) (S := qSq) (S1 := qSq1) (SB := qSqB) (SC0 := qSqC0) (ST := qSqT) (SD0 := qSqD0) (SD1 := qSqD1) (SD2 := qSqD2) (SL := qSqL) (L1 := qAq) (L3 := qBq) (L5 := qTq) (L6 := qD1q) (L7 := qD2q) (L8 := qLq) (prog := qPP) (fun _ _ _ => rfl) ⟨rfl, rfl, rfl, rfl⟩ ⟨rfl, rfl, rfl, rfl⟩ ⟨rfl, rfl, rfl, rfl⟩ (by decide +kernel) (by decide +kernel) (by decide +kernel) qAq_e qAq_c (by decide +kernel) rfl rfl qAq_x (by decide +kernel) rfl rfl qBq_e qBq_c (by decide +kernel) rfl rfl qBq_x (by decide +kernel) rfl rfl qTq_e qTq_c (by decide +kernel) rfl rfl (by decide) rfl rfl qD1q_e qD1q_x qD2q_e qD2q_x (by decide +kernel) (by decide) rfl rfl rfl qLq_e qLq_x (by decide +kernel) (by decide +kernel) (by decide +kernel) (by decide +kernel) (by decide +kernel) (by decide +kernel) (by decide +kernel) rfl (by decide) rfl (by decide +kernel) (by decide +kernel) (by decide +kernel) (by decide +kernel) (by decide +kernel) (by decide +kernel) (by decide +kernel) (by decide +kernel) (by decide +kernel) (by decide +kernel) (hp_personH X) (fun _ _ _ h => (d298 h).1) hk hag hG hT hW hR
end LCALLS
set_option maxRecDepth 16384 in
theorem law_TG (X : KO) (hXW : XW X) (hXS : XS X) {xs : List Int32} (hlen : xs.length ≤ 3072) : ∀ (m : Nat) (i u : Int) (k : KF), (xs.length : Int) - i < m → HeadAt 0 (fun _ => 0) i u k → kWT k.2.2.2.1 → RW k.2.2.2.1 → 0 ≤ i → i ≤ (xs.length : Int) → 0 ≤ u → u ≤ 940 → TGL X xs k := by
  intro m
  induction m with
  | zero => intro i u k h1 _ _ _ _ h4 _ _; omega
  | succ m ih =>
    intro i u k h1 hH hW hR hi hi2 hu hu2
    have hG := head_to hlen hH hi hi2 hu hu2
    have hT := hH.2.2.2.2.1
    have hN : lNext X xs i u := by
      intro ρ k' e1 e2 e3 e4 e5 e6
      obtain ⟨hH2, g1, g2, g3⟩ := head_of e1 e4 e3
      have e0 : ρ 0 = (xs.length : Int) := e2 0 (by decide)
      have e9 : ρ 1 = i := e2 1 (by decide)
      rw [e9] at hH2 g3
      rw [e0] at g3
      exact ih (i + 6) (ρ 9) k' (by omega) hH2 e5 e6 (by omega) g3 g1 g2
    have hC : HCT qEnv qPh qModC 9 qGL (wind xs i u) k.2.2.2.1 none kWT (TGL X xs) := by
      intro q hq ρ k' e1 e2 e3 e4 e5 e6 _
      have hR' := RW_fr hR hT e4 e5 qModC_rw qModC_c2
      rcases List.mem_cons.mp hq with rfl | hq
      · exact hN ρ k' e1 e2 e3 e4 e6 hR'
      rcases List.mem_cons.mp hq with rfl | hq
      · exact law_feed X hu hu2 hN e1 e2 e3 e4 e6 hR'
      rcases List.mem_cons.mp hq with rfl | hq
      · exact lc_sign X hXW hXS hu hu2 hN e1 e2 e3 e4 e6 hR'
      rcases List.mem_cons.mp hq with rfl | hq
      · exact lc_soften X hXW hXS hu hu2 hN e1 e2 e3 e4 e6 hR'
      rcases List.mem_cons.mp hq with rfl | hq
      · exact lc_resent X hXW hXS hu hu2 hN e1 e2 e3 e4 e6 hR'
      rcases List.mem_cons.mp hq with rfl | hq
      · exact lc_retire X hXW hXS hu hu2 hN e1 e2 e3 e4 e6 hR'
      rcases List.mem_cons.mp hq with rfl | hq
      · exact lc_back X hXW hXS hu hu2 hN e1 e2 e3 e4 e6 hR'
      rcases List.mem_cons.mp hq with rfl | hq
      · exact lc_cancel X hXW hXS hu hu2 hN e1 e2 e3 e4 e6 hR'
      rcases List.mem_cons.mp hq with rfl | hq
      · exact lc_lodge X hXW hXS hu hu2 hN e1 e2 e3 e4 e6 hR'
      rcases List.mem_cons.mp hq with rfl | hq
      · exact lc_days X hXW hXS hu hu2 hN e1 e2 e3 e4 e6 hR'
      rcases List.mem_cons.mp hq with rfl | hq
      · exact lc_undo X hXW hXS hu hu2 hN e1 e2 e3 e4 e6 hR'
      rcases List.mem_cons.mp hq with rfl | hq
      · exact lc_drawn X hXW hXS hu hu2 hN e1 e2 e3 e4 e6 hR'
      rcases List.mem_cons.mp hq with rfl | hq
      · exact lc_odds X hXW hXS hu hu2 hN e1 e2 e3 e4 e6 hR'
      rcases List.mem_cons.mp hq with rfl | hq
      · exact lc_image X hXW hXS hu hu2 hN e1 e2 e3 e4 e6 hR'
      rcases List.mem_cons.mp hq with rfl | hq
      · exact lc_restore X hXW hXS hu hu2 hN e1 e2 e3 e4 e6 hR'
      rcases List.mem_cons.mp hq with rfl | hq
      · exact lc_office X hXW hXS hu hu2 hN e1 e2 e3 e4 e6 hR'
      rcases List.mem_cons.mp hq with rfl | hq
      · exact lc_book X hXW hXS hu hu2 hN e1 e2 e3 e4 e6 hR'
      have hq := List.mem_singleton.mp hq
      subst hq
      exact lq_ X hXW hXS hu hu2 hN e1 e2 e3 e4 e6 hR'
    obtain ⟨f, hf⟩ := qLE
    exact ap_go X qGL_wf hC qLA_eq hf hH.1 (fun _ _ => rfl) (by decide) hG hT (kFr.rf _ _ _) hW
