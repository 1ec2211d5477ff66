/-! Feed, the calls one by one, the round. -/
set_option maxRecDepth 16384 in
theorem qGFb_wf : ∀ q ∈ qGFb.1, apwf 9 q.2.1 = true := by decide +kernel
set_option maxRecDepth 16384 in
theorem qModC_rw : rwok qModC = true := by decide +kernel
set_option maxRecDepth 16384 in
theorem qModC_c2 : c2ok qModC = true := by decide +kernel
set_option maxRecDepth 16384 in
theorem qModFA_c2 : c2ok qModFA = true := by decide +kernel
set_option maxRecDepth 16384 in
theorem qModFB_c2 : c2ok qModFB = true := by decide +kernel
set_option maxRecDepth 16384 in
theorem argsF {n m : Nat} {ρ : Nat → Int} {st : List KV} (h : aSt qEnv n ρ [.inl (0, [(7, 1)]), .inl (0, [(6, 1)]), .inl (0, [(5, 1)]), .inl (0, [(4, 1)]), .inl (0, [(3, 1)]), .inr (2, m)] st) : st = [iv ρ 7, iv ρ 6, iv ρ 5, iv ρ 4, iv ρ 3, .inl (.ref m)] := by
  obtain ⟨v1, s1, rfl, h1, h⟩ := aSt_cons h
  obtain ⟨v2, s2, rfl, h2, h⟩ := aSt_cons h
  obtain ⟨v3, s3, rfl, h3, h⟩ := aSt_cons h
  obtain ⟨v4, s4, rfl, h4, h⟩ := aSt_cons h
  obtain ⟨v5, s5, rfl, h5, h⟩ := aSt_cons h
  obtain ⟨v6, s6, rfl, h6, h⟩ := aSt_cons h
  rw [aSt_nil h, aR_iv h1, aR_iv h2, aR_iv h3, aR_iv h4, aR_iv h5, aR_rf h6]
section LFEED
variable (X : KO) {xs : List Int32} {i u : Int}
set_option maxRecDepth 16384 in
theorem law_feed2 (hu : 0 ≤ u) (hu2 : u ≤ 940) (hN : lNext X xs i u) {S : AS} {L : List (Nat × AS)} (hL1 : qstp 282 qModFB [210] S = some L) (hx : expl qEnv qPh qCSL [] true 7 kRc0 kRs0 (some .boolean) qPL qPostL 9 (lfc 70) qGH none 600 L = true) (hS1 : 9 ≤ S.1) (hS2 : S.2.2.2.2.1 = [.inl (0, [(7, 1)]), .inl (0, [(6, 1)]), .inl (0, [(5, 1)]), .inl (0, [(4, 1)]), .inl (0, [(3, 1)]), .inr (2, 148)]) (hS3 : ((148, (2, [])), (Sum.inl (0, [(8, 1)]) : AV)) ∈ S.2.2.2.2.2.1) {w w1 : KW} {rl : List (Nat × Int)} (hT0 : kTW qEnv w) (hT1 : kTW qEnv w1) (hR0 : RW w) (hu0 : wm zr w 1 1 = u) (ra : Run X zr 15 [(1, 0), (1, kc zr (iv (wind xs i u) 3)), (1, kc zr (iv (wind xs i u) 4)), (1, kc zr (iv (wind xs i u) 5)), (1, kc zr (iv (wind xs i u) 6)), (1, kc zr (iv (wind xs i u) 7))] (wm zr w) rl (wm zr w1)) (hF1 : kFr qEnv qModFA w w1) {ρ : Nat → Int} {k : KF} (hk : k.1 = 282) (hag : ∀ j, j < 9 → ρ j = wind xs i u j) (hG : aGS qEnv qPh ρ S k) (hT : kTW qEnv k.2.2.2.1) (hW : kWT k.2.2.2.1) (hF : kFr qEnv [] w1 k.2.2.2.1) : TGL X xs k := by
  obtain ⟨f, k3, e1, t3, f3, w3, n3, r3⟩ := qstp_ok X hL1 (ig := .invokevirtual 26) (x := (189, 5, 0, 0, 11)) (by decide +kernel) rfl hk hT hW hG hS1 hag
  have e1 : kcallV (callL X 70 f) kRc0 kRs0 (189, 5, 0, 0, 11) k.1 k.2.1 k.2.2.1 k.2.2.2.1 k.2.2.2.2.1 k.2.2.2.2.2 = some k3 := e1
  obtain ⟨b, rest, r, w', a1, a2, -, -, a5, a6⟩ := kcallV_inv e1
  have hst := hG.2.2.1
  rw [hS2] at hst
  have hst := argsF hst
  rw [hst] at a1 a2
  have a1 : [Sum.inl (.ref 148)] = (Sum.inl (.ref b) : KV) :: rest := a1
  cases a1
  have hiv : ∀ v, v < 9 → iv ρ v = iv (wind xs i u) v := fun v hv => by
    unfold iv
    rw [hag v hv]
  rw [hiv 3 (by decide), hiv 4 (by decide), hiv 5 (by decide), hiv 6 (by decide), hiv 7 (by decide)] at a2
  have rb : Run X zr 189 [(1, 148), (1, kc zr (iv (wind xs i u) 3)), (1, kc zr (iv (wind xs i u) 4)), (1, kc zr (iv (wind xs i u) 5)), (1, kc zr (iv (wind xs i u) 6)), (1, kc zr (iv (wind xs i u) 7))] (wm zr k.2.2.2.1) (r.toList.map (kcc zr)) (wm zr k3.2.2.2.1) := ⟨f, 70, _, _, r, w', a2, hW, rfl, rfl, rfl, by rw [a6]⟩
  have hR1 : RT w k.2.2.2.1 := RT_r (RT_r hR0.1 hF1 rfl) hF rfl
  obtain ⟨L', hj, -⟩ := feed_pair (kTW_ref hT0 (a := 0) (k := 0) (r := 1) (by decide) (by decide) rfl) (TJ_of hT0 hT hR1 hu0 (tc_u hu hu2 hag hG hS3 (by decide)) hu) hu2 ra rb
  have hR3 : RT w1 k3.2.2.2.1 := TJ_to hj
  have hR4 : RT k3.2.2.2.1 k3.2.2.2.1 := RT_l (RT_l hR3 hF rfl) f3 rfl
  have hL4 : LL k3.2.2.2.1 := LL_fr (LL_fr (LL_fr hR0.2.1 hF1 (by decide)) hF (by decide)) f3 (by decide)
  have hM4 : L2 k3.2.2.2.1 := L2_fr (L2_fr (L2_fr hR0.2.2.1 hF1 (by decide)) hF (by decide)) f3 (by decide)
  have hC1 : C2 (wm zr w1) (wm zr w1) := C2_kF hR0.2.2.2 hT0 hT1 hT0 hT1 hF1 hF1 qModFA_c2 qModFA_c2
  have hC2 : C2 (wm zr k.2.2.2.1) (wm zr k.2.2.2.1) := C2_kF hC1 hT1 hT hT1 hT hF hF rfl rfl
  have hC3 : C2 (wm zr k3.2.2.2.1) (wm zr k3.2.2.2.1) := C2_kF hC2 hT t3 hT t3 f3 f3 qModFB_c2 qModFB_c2
  exact r3 (ex_go X qGH_wf (lNext_H X hN t3 ⟨hR4, hL4, hM4, hC3⟩) hx hag hS1 n3 t3 (kFr.rf _ _ _) w3)
set_option maxRecDepth 16384 in
theorem law_feed (hu : 0 ≤ u) (hu2 : u ≤ 940) (hN : lNext X xs i u) {ρ : Nat → Int} {k : KF} (hk : k.1 = 247) (hag : ∀ j, j < 9 → ρ j = wind xs i u j) (hG : aGS qEnv qPh ρ qSF k) (hT : kTW qEnv k.2.2.2.1) (hW : kWT k.2.2.2.1) (hR : RW k.2.2.2.1) : TGL X xs k := by
  obtain ⟨f, k1, e1, t1, f1, w1, n1, r1⟩ := qstp_ok X qF1_e (ig := .invokevirtual 22) (x := (15, 5, 0, 0, 10)) (by decide +kernel) rfl hk hT hW hG (by decide) hag
  have e1 : kcallV (callL X 70 f) kRc0 kRs0 (15, 5, 0, 0, 10) k.1 k.2.1 k.2.2.1 k.2.2.2.1 k.2.2.2.2.1 k.2.2.2.2.2 = some k1 := e1
  obtain ⟨b, rest, r, w', a1, a2, -, -, a5, a6⟩ := kcallV_inv e1
  have hst := argsF hG.2.2.1
  rw [hst] at a1 a2
  have a1 : [Sum.inl (.ref 0)] = (Sum.inl (.ref b) : KV) :: rest := a1
  cases a1
  have hiv : ∀ v, v < 9 → iv ρ v = iv (wind xs i u) v := fun v hv => by
    unfold iv
    rw [hag v hv]
  rw [hiv 3 (by decide), hiv 4 (by decide), hiv 5 (by decide), hiv 6 (by decide), hiv 7 (by decide)] at a2
  have ra : Run X zr 15 [(1, 0), (1, kc zr (iv (wind xs i u) 3)), (1, kc zr (iv (wind xs i u) 4)), (1, kc zr (iv (wind xs i u) 5)), (1, kc zr (iv (wind xs i u) 6)), (1, kc zr (iv (wind xs i u) 7))] (wm zr k.2.2.2.1) (r.toList.map (kcc zr)) (wm zr k1.2.2.2.1) := ⟨f, 70, _, _, r, w', a2, hW, rfl, rfl, rfl, by rw [a6]⟩
  have hu0 : wm zr k.2.2.2.1 1 1 = u := tc_u hu hu2 hag hG (a := 1) (c := 1) List.mem_cons_self (by decide)
  refine r1 (ex_go X qGFb_wf (w0 := k1.2.2.2.1) (mods := []) ?_ qF1_x hag (by decide) n1 t1 (kFr.rf _ _ _) w1)
  intro q hq ρ2 k2 c1 c2 c3 c4 c5 c6 _
  rcases List.mem_cons.mp hq with rfl | hq
  · exact law_feed2 X hu hu2 hN qF2a_e qF2a_x (by decide) rfl (List.mem_cons_of_mem _ List.mem_cons_self) hT t1 hR hu0 ra f1 c1 c2 c3 c4 c6 c5
  · have hq := List.mem_singleton.mp hq
    subst hq
    exact law_feed2 X hu hu2 hN qF2b_e qF2b_x (by decide) rfl (List.mem_cons_of_mem _ List.mem_cons_self) hT t1 hR hu0 ra f1 c1 c2 c3 c4 c6 c5
end LFEED
set_option maxRecDepth 16384 in
/-- what a question's pair is -/
def HPq (X : KO) (xs : List Int32) (i u : Int) (mA mB : Nat) (vs : List Nat) : Prop := ∀ (wa wa' wb wb' : KW) (rl rl' : List (Nat × Int)), PH u wa wa' wb wb' → Run X zr mA ((1, 0) :: vs.reverse.map (fun v => (1, kc zr (iv (wind xs i u) v)))) (wm zr wa) rl (wm zr wa') → Run X zr mB ((1, 148) :: vs.reverse.map (fun v => (1, kc zr (iv (wind xs i u) v)))) (wm zr wb) rl' (wm zr wb') → rl = rl' ∧ C2 (wm zr wa') (wm zr wb')
set_option maxRecDepth 16384 in
theorem C2_tick {a b : MM} (h : C2 a b) (v : Int) : C2 a (mu b 148 0 v) := C2_fr3 h (fun _ _ _ => rfl) (fun x k q _ => by
  by_cases c : x = 148
  · exact mu_k (by unfold PJs at q; omega)
  · exact mu_a c)
set_option maxRecDepth 16384 in
theorem count_eq {a b : MM} {u : Int} (h : C2 a b) (h00 : a 0 0 = 1) (ha : a 1 1 = u) (hb : b 148 2 = u) (x : Int) : f7 a 0 x = f177 b 148 x := by
  have hS := h.1.2.1
  have e14 : (mu b 148 0 0) 148 14 = 150 := (mu_k (by decide)).trans hS.bn
  have e0 : (mu b 148 0 0) 150 0 = b 150 0 := mu_a (by decide)
  have e1 : (mu b 148 0 0) 150 1 = b 150 1 := mu_a (by decide)
  have e2 : (mu b 148 0 0) 150 2 = b 150 2 := mu_a (by decide)
  have e3 : (mu b 148 0 0) 148 2 = u := (mu_k (by decide)).trans hb
  have h1 : a 0 1 = 3 := h.1.1.1
  unfold f7 f177
  rw [e14, e0, e1, e2, e3, h1, h00, ha, hS.p.1, hS.f.1]
  by_cases c0 : x = 0
  · rw [if_pos c0, if_pos c0]
  · rw [if_neg c0, if_neg c0]
    by_cases c1 : x = 1
    · rw [if_pos c1, if_pos c1]
    · rw [if_neg c1, if_neg c1]
      by_cases c2 : x = 2
      · rw [if_pos c2, if_pos c2]
        rcases hS.r.2 with r | r
        · rw [if_pos r, ← hS.r.1, r]
        · rw [if_neg (by omega), ← hS.r.1, r]
      · rw [if_neg c2, if_neg c2]
set_option maxRecDepth 16384 in
theorem hq_count (X : KO) {xs : List Int32} {i u : Int} : HPq X xs i u 7 177 [3] := fun wa wa' wb wb' rl rl' hP ra rb => by
  obtain ⟨ha, -, -, -, -, -, hC, hT⟩ := hP
  have ra : Run X zr 7 [(1, 0), ivx xs i u 3] (wm zr wa) rl (wm zr wa') := ra
  have rb : Run X zr 177 [(1, 148), ivx xs i u 3] (wm zr wb) rl' (wm zr wb') := rb
  obtain ⟨q1, q2⟩ := d7 ra
  obtain ⟨q3, q4⟩ := d177 rb
  have e : ∀ x, g177 (wm zr wb) 148 x = mu (wm zr wb) 148 0 0 := fun x => by
    unfold g177
    (repeat' split) <;> rfl
  rw [q1, q2, q3, q4, e]
  exact ⟨by rw [count_eq hC (kTW_ref ha (a := 0) (k := 0) (r := 1) (by decide) (by decide) rfl) hT.1 hT.2.1], C2_tick hC 0⟩
set_option maxRecDepth 16384 in
theorem hq_back (X : KO) {xs : List Int32} {i u : Int} : HPq X xs i u 2 167 [3] := fun wa wa' wb wb' rl rl' hP ra rb => by
  obtain ⟨-, -, -, -, -, -, hC, -⟩ := hP
  have ra : Run X zr 2 [(1, 0), ivx xs i u 3] (wm zr wa) rl (wm zr wa') := ra
  have rb : Run X zr 167 [(1, 148), ivx xs i u 3] (wm zr wb) rl' (wm zr wb') := rb
  rw [(d2 ra).1, (d2 ra).2, (d167 rb).1, (d167 rb).2]
  obtain ⟨h1, h2⟩ := back_pair hC.1 (ivx xs i u 3).2
  exact ⟨by rw [h1], C2_1 hC h2⟩
section LCALLS
variable (X : KO) {xs : List Int32} {i u : Int}
set_option maxRecDepth 16384 in
theorem qGB_sign_wf : ∀ q ∈ qGB_sign, apwf 9 q.2.1 = true := by decide +kernel
set_option maxRecDepth 16384 in
theorem hB_sign : ∀ q ∈ qGB_sign, q.1 = 512 ∧ 9 ≤ q.2.1.1 ∧ q.2.1.2.2.2.2.1 = ([4, 3] : List Nat).map ai ++ [.inr (2, 148)] ∧ ∃ L, qstp 512 qMB_sign [329] q.2.1 = some L ∧ expl qEnv qPh qCSL [] true 7 kRc0 kRs0 (some .boolean) qPL qPostL 9 (lfc 70) qGH none 600 L = true := by
  intro q hq
  have hq := List.mem_singleton.mp hq
  subst hq
  exact ⟨rfl, by decide, rfl, _, qB0_sign_e, qB0_sign_x⟩
set_option maxRecDepth 16384 in
theorem lc_sign (hXW : XW X) (hXS : XS X) (hu : 0 ≤ u) (hu2 : u ≤ 940) (hN : lNext X xs i u) {ρ : Nat → Int} {k : KF} (hk : k.1 = 495) (hag : ∀ j, j < 9 → ρ j = wind xs i u j) (hG : aGS qEnv qPh ρ qS_sign k) (hT : kTW qEnv k.2.2.2.1) (hW : kWT k.2.2.2.1) (hR : RW k.2.2.2.1) : TGL X xs k :=
  law_pair X hu hu2 hN (pcA := 495) (pcB := 512) (midA := 33) (midB := 272) (cixA := 10) (cixB := 11) (iA := 59) (iB := 62) (cA := [33]) (cB := [329]) (vs := [4, 3]) (mA := qMA_sign) (mB := qMB_sign) (S := qS_sign) (L1 := qA_sign) (GB := qGB_sign) ⟨rfl, rfl, rfl, rfl⟩ ⟨rfl, rfl, rfl, rfl⟩ (by decide +kernel) (by decide +kernel) qA_sign_e qA_sign_x qGB_sign_wf hB_sign (by decide) rfl List.mem_cons_self (List.mem_cons_of_mem _ List.mem_cons_self) (by decide) (by decide +kernel) (by decide +kernel) (by decide +kernel) (by decide +kernel) (by decide +kernel) (hp_sign X) hk hag hG hT hW hR
set_option maxRecDepth 16384 in
theorem qGB_soften_wf : ∀ q ∈ qGB_soften, apwf 9 q.2.1 = true := by decide +kernel
set_option maxRecDepth 16384 in
theorem hB_soften : ∀ q ∈ qGB_soften, q.1 = 549 ∧ 9 ≤ q.2.1.1 ∧ q.2.1.2.2.2.2.1 = ([4, 3] : List Nat).map ai ++ [.inr (2, 148)] ∧ ∃ L, qstp 549 qMB_soften [334] q.2.1 = some L ∧ expl qEnv qPh qCSL [] true 7 kRc0 kRs0 (some .boolean) qPL qPostL 9 (lfc 70) qGH none 600 L = true := by
  intro q hq
  have hq := List.mem_singleton.mp hq
  subst hq
  exact ⟨rfl, by decide, rfl, _, qB0_soften_e, qB0_soften_x⟩
set_option maxRecDepth 16384 in
theorem lc_soften (hXW : XW X) (hXS : XS X) (hu : 0 ≤ u) (hu2 : u ≤ 940) (hN : lNext X xs i u) {ρ : Nat → Int} {k : KF} (hk : k.1 = 532) (hag : ∀ j, j < 9 → ρ j = wind xs i u j) (hG : aGS qEnv qPh ρ qS_soften k) (hT : kTW qEnv k.2.2.2.1) (hW : kWT k.2.2.2.1) (hR : RW k.2.2.2.1) : TGL X xs k :=
  law_pair X hu hu2 hN (pcA := 532) (pcB := 549) (midA := 34) (midB := 277) (cixA := 10) (cixB := 11) (iA := 63) (iB := 66) (cA := [34]) (cB := [334]) (vs := [4, 3]) (mA := qMA_soften) (mB := qMB_soften) (S := qS_soften) (L1 := qA_soften) (GB := qGB_soften) ⟨rfl, rfl, rfl, rfl⟩ ⟨rfl, rfl, rfl, rfl⟩ (by decide +kernel) (by decide +kernel) qA_soften_e qA_soften_x qGB_soften_wf hB_soften (by decide) rfl List.mem_cons_self (List.mem_cons_of_mem _ List.mem_cons_self) (by decide) (by decide +kernel) (by decide +kernel) (by decide +kernel) (by decide +kernel) (by decide +kernel) (hp_soften X) hk hag hG hT hW hR
set_option maxRecDepth 16384 in
theorem qGB_resent_wf : ∀ q ∈ qGB_resent, apwf 9 q.2.1 = true := by decide +kernel
set_option maxRecDepth 16384 in
theorem hB_resent : ∀ q ∈ qGB_resent, q.1 = 586 ∧ 9 ≤ q.2.1.1 ∧ q.2.1.2.2.2.2.1 = ([4, 3] : List Nat).map ai ++ [.inr (2, 148)] ∧ ∃ L, qstp 586 qMB_resent [318] q.2.1 = some L ∧ expl qEnv qPh qCSL [] true 7 kRc0 kRs0 (some .boolean) qPL qPostL 9 (lfc 70) qGH none 600 L = true := by
  intro q hq
  have hq := List.mem_singleton.mp hq
  subst hq
  exact ⟨rfl, by decide, rfl, _, qB0_resent_e, qB0_resent_x⟩
set_option maxRecDepth 16384 in
theorem lc_resent (hXW : XW X) (hXS : XS X) (hu : 0 ≤ u) (hu2 : u ≤ 940) (hN : lNext X xs i u) {ρ : Nat → Int} {k : KF} (hk : k.1 = 569) (hag : ∀ j, j < 9 → ρ j = wind xs i u j) (hG : aGS qEnv qPh ρ qS_resent k) (hT : kTW qEnv k.2.2.2.1) (hW : kWT k.2.2.2.1) (hR : RW k.2.2.2.1) : TGL X xs k :=
  law_pair X hu hu2 hN (pcA := 569) (pcB := 586) (midA := 27) (midB := 264) (cixA := 10) (cixB := 11) (iA := 67) (iB := 70) (cA := [27]) (cB := [318]) (vs := [4, 3]) (mA := qMA_resent) (mB := qMB_resent) (S := qS_resent) (L1 := qA_resent) (GB := qGB_resent) ⟨rfl, rfl, rfl, rfl⟩ ⟨rfl, rfl, rfl, rfl⟩ (by decide +kernel) (by decide +kernel) qA_resent_e qA_resent_x qGB_resent_wf hB_resent (by decide) rfl List.mem_cons_self (List.mem_cons_of_mem _ List.mem_cons_self) (by decide) (by decide +kernel) (by decide +kernel) (by decide +kernel) (by decide +kernel) (by decide +kernel) (hp_resent X) hk hag hG hT hW hR
set_option maxRecDepth 16384 in
theorem qGB_retire_wf : ∀ q ∈ qGB_retire, apwf 9 q.2.1 = true := by decide +kernel
set_option maxRecDepth 16384 in
theorem hB_retire : ∀ q ∈ qGB_retire, q.1 = 611 ∧ 9 ≤ q.2.1.1 ∧ q.2.1.2.2.2.2.1 = ([3] : List Nat).map ai ++ [.inr (2, 148)] ∧ ∃ L, qstp 611 qMB_retire [320] q.2.1 = some L ∧ expl qEnv qPh qCSL [] true 7 kRc0 kRs0 (some .boolean) qPL qPostL 9 (lfc 70) qGH none 600 L = true := by
  intro q hq
  have hq := List.mem_singleton.mp hq
  subst hq
  exact ⟨rfl, by decide, rfl, _, qB0_retire_e, qB0_retire_x⟩
set_option maxRecDepth 16384 in
theorem lc_retire (hXW : XW X) (hXS : XS X) (hu : 0 ≤ u) (hu2 : u ≤ 940) (hN : lNext X xs i u) {ρ : Nat → Int} {k : KF} (hk : k.1 = 600) (hag : ∀ j, j < 9 → ρ j = wind xs i u j) (hG : aGS qEnv qPh ρ qS_retire k) (hT : kTW qEnv k.2.2.2.1) (hW : kWT k.2.2.2.1) (hR : RW k.2.2.2.1) : TGL X xs k :=
  law_pair X hu hu2 hN (pcA := 600) (pcB := 611) (midA := 29) (midB := 266) (cixA := 10) (cixB := 11) (iA := 71) (iB := 74) (cA := [29]) (cB := [320]) (vs := [3]) (mA := qMA_retire) (mB := qMB_retire) (S := qS_retire) (L1 := qA_retire) (GB := qGB_retire) ⟨rfl, rfl, rfl, rfl⟩ ⟨rfl, rfl, rfl, rfl⟩ (by decide +kernel) (by decide +kernel) qA_retire_e qA_retire_x qGB_retire_wf hB_retire (by decide) rfl List.mem_cons_self (List.mem_cons_of_mem _ List.mem_cons_self) (by decide) (by decide +kernel) (by decide +kernel) (by decide +kernel) (by decide +kernel) (by decide +kernel) (hp_retire X) hk hag hG hT hW hR
set_option maxRecDepth 16384 in
theorem qGB_cancel_wf : ∀ q ∈ qGB_cancel, apwf 9 q.2.1 = true := by decide +kernel
set_option maxRecDepth 16384 in
theorem hB_cancel : ∀ q ∈ qGB_cancel, q.1 = 661 ∧ 9 ≤ q.2.1.1 ∧ q.2.1.2.2.2.2.1 = ([3] : List Nat).map ai ++ [.inr (2, 148)] ∧ ∃ L, qstp 661 qMB_cancel [196] q.2.1 = some L ∧ expl qEnv qPh qCSL [] true 7 kRc0 kRs0 (some .boolean) qPL qPostL 9 (lfc 70) qGH none 600 L = true := by
  intro q hq
  have hq := List.mem_singleton.mp hq
  subst hq
  exact ⟨rfl, by decide, rfl, _, qB0_cancel_e, qB0_cancel_x⟩
set_option maxRecDepth 16384 in
theorem lc_cancel (hXW : XW X) (hXS : XS X) (hu : 0 ≤ u) (hu2 : u ≤ 940) (hN : lNext X xs i u) {ρ : Nat → Int} {k : KF} (hk : k.1 = 650) (hag : ∀ j, j < 9 → ρ j = wind xs i u j) (hG : aGS qEnv qPh ρ qS_cancel k) (hT : kTW qEnv k.2.2.2.1) (hW : kWT k.2.2.2.1) (hR : RW k.2.2.2.1) : TGL X xs k :=
  law_pair X hu hu2 hN (pcA := 650) (pcB := 661) (midA := 6) (midB := 175) (cixA := 10) (cixB := 11) (iA := 79) (iB := 82) (cA := [6]) (cB := [196]) (vs := [3]) (mA := qMA_cancel) (mB := qMB_cancel) (S := qS_cancel) (L1 := qA_cancel) (GB := qGB_cancel) ⟨rfl, rfl, rfl, rfl⟩ ⟨rfl, rfl, rfl, rfl⟩ (by decide +kernel) (by decide +kernel) qA_cancel_e qA_cancel_x qGB_cancel_wf hB_cancel (by decide) rfl List.mem_cons_self (List.mem_cons_of_mem _ List.mem_cons_self) (by decide) (by decide +kernel) (by decide +kernel) (by decide +kernel) (by decide +kernel) (by decide +kernel) (hp_cancel X) hk hag hG hT hW hR
set_option maxRecDepth 16384 in
theorem qGB_lodge_wf : ∀ q ∈ qGB_lodge, apwf 9 q.2.1 = true := by decide +kernel
set_option maxRecDepth 16384 in
theorem hB_lodge : ∀ q ∈ qGB_lodge, q.1 = 686 ∧ 9 ≤ q.2.1.1 ∧ q.2.1.2.2.2.2.1 = ([3] : List Nat).map ai ++ [.inr (2, 148)] ∧ ∃ L, qstp 686 qMB_lodge [271] q.2.1 = some L ∧ expl qEnv qPh qCSL [] true 7 kRc0 kRs0 (some .boolean) qPL qPostL 9 (lfc 70) qGH none 600 L = true := by
  intro q hq
  have hq := List.mem_singleton.mp hq
  subst hq
  exact ⟨rfl, by decide, rfl, _, qB0_lodge_e, qB0_lodge_x⟩
set_option maxRecDepth 16384 in
theorem lc_lodge (hXW : XW X) (hXS : XS X) (hu : 0 ≤ u) (hu2 : u ≤ 940) (hN : lNext X xs i u) {ρ : Nat → Int} {k : KF} (hk : k.1 = 675) (hag : ∀ j, j < 9 → ρ j = wind xs i u j) (hG : aGS qEnv qPh ρ qS_lodge k) (hT : kTW qEnv k.2.2.2.1) (hW : kWT k.2.2.2.1) (hR : RW k.2.2.2.1) : TGL X xs k :=
  law_pair X hu hu2 hN (pcA := 675) (pcB := 686) (midA := 19) (midB := 223) (cixA := 10) (cixB := 11) (iA := 83) (iB := 86) (cA := [19]) (cB := [271]) (vs := [3]) (mA := qMA_lodge) (mB := qMB_lodge) (S := qS_lodge) (L1 := qA_lodge) (GB := qGB_lodge) ⟨rfl, rfl, rfl, rfl⟩ ⟨rfl, rfl, rfl, rfl⟩ (by decide +kernel) (by decide +kernel) qA_lodge_e qA_lodge_x qGB_lodge_wf hB_lodge (by decide) rfl List.mem_cons_self (List.mem_cons_of_mem _ List.mem_cons_self) (by decide) (by decide +kernel) (by decide +kernel) (by decide +kernel) (by decide +kernel) (by decide +kernel) (hp_lodge X) hk hag hG hT hW hR
set_option maxRecDepth 16384 in
theorem qGB_days_wf : ∀ q ∈ qGB_days, apwf 9 q.2.1 = true := by decide +kernel
set_option maxRecDepth 16384 in
theorem hB_days : ∀ q ∈ qGB_days, q.1 = 711 ∧ 9 ≤ q.2.1.1 ∧ q.2.1.2.2.2.2.1 = ([3] : List Nat).map ai ++ [.inr (2, 148)] ∧ ∃ L, qstp 711 qMB_days [201] q.2.1 = some L ∧ expl qEnv qPh qCSL [] true 7 kRc0 kRs0 (some .boolean) qPL qPostL 9 (lfc 70) qGH none 600 L = true := by
  intro q hq
  have hq := List.mem_singleton.mp hq
  subst hq
  exact ⟨rfl, by decide, rfl, _, qB0_days_e, qB0_days_x⟩
set_option maxRecDepth 16384 in
theorem lc_days (hXW : XW X) (hXS : XS X) (hu : 0 ≤ u) (hu2 : u ≤ 940) (hN : lNext X xs i u) {ρ : Nat → Int} {k : KF} (hk : k.1 = 700) (hag : ∀ j, j < 9 → ρ j = wind xs i u j) (hG : aGS qEnv qPh ρ qS_days k) (hT : kTW qEnv k.2.2.2.1) (hW : kWT k.2.2.2.1) (hR : RW k.2.2.2.1) : TGL X xs k :=
  law_pair X hu hu2 hN (pcA := 700) (pcB := 711) (midA := 10) (midB := 180) (cixA := 10) (cixB := 11) (iA := 87) (iB := 90) (cA := [10]) (cB := [201]) (vs := [3]) (mA := qMA_days) (mB := qMB_days) (S := qS_days) (L1 := qA_days) (GB := qGB_days) ⟨rfl, rfl, rfl, rfl⟩ ⟨rfl, rfl, rfl, rfl⟩ (by decide +kernel) (by decide +kernel) qA_days_e qA_days_x qGB_days_wf hB_days (by decide) rfl List.mem_cons_self (List.mem_cons_of_mem _ List.mem_cons_self) (by decide) (by decide +kernel) (by decide +kernel) (by decide +kernel) (by decide +kernel) (by decide +kernel) (hp_days X) hk hag hG hT hW hR
set_option maxRecDepth 16384 in
theorem qGB_undo_wf : ∀ q ∈ qGB_undo, apwf 9 q.2.1 = true := by decide +kernel
set_option maxRecDepth 16384 in
theorem hB_undo : ∀ q ∈ qGB_undo, q.1 = 724 ∧ 9 ≤ q.2.1.1 ∧ q.2.1.2.2.2.2.1 = ([] : List Nat).map ai ++ [.inr (2, 148)] ∧ ∃ L, qstp 724 qMB_undo [378] q.2.1 = some L ∧ expl qEnv qPh qCSL [] true 7 kRc0 kRs0 (some .boolean) qPL qPostL 9 (lfc 70) qGH none 600 L = true := by
  intro q hq
  have hq := List.mem_singleton.mp hq
  subst hq
  exact ⟨rfl, by decide, rfl, _, qB0_undo_e, qB0_undo_x⟩
set_option maxRecDepth 16384 in
theorem lc_undo (hXW : XW X) (hXS : XS X) (hu : 0 ≤ u) (hu2 : u ≤ 940) (hN : lNext X xs i u) {ρ : Nat → Int} {k : KF} (hk : k.1 = 719) (hag : ∀ j, j < 9 → ρ j = wind xs i u j) (hG : aGS qEnv qPh ρ qS_undo k) (hT : kTW qEnv k.2.2.2.1) (hW : kWT k.2.2.2.1) (hR : RW k.2.2.2.1) : TGL X xs k :=
  law_pair X hu hu2 hN (pcA := 719) (pcB := 724) (midA := 37) (midB := 288) (cixA := 10) (cixB := 11) (iA := 91) (iB := 94) (cA := [37]) (cB := [378]) (vs := []) (mA := qMA_undo) (mB := qMB_undo) (S := qS_undo) (L1 := qA_undo) (GB := qGB_undo) ⟨rfl, rfl, rfl, rfl⟩ ⟨rfl, rfl, rfl, rfl⟩ (by decide +kernel) (by decide +kernel) qA_undo_e qA_undo_x qGB_undo_wf hB_undo (by decide) rfl List.mem_cons_self (List.mem_cons_of_mem _ List.mem_cons_self) (by decide) (by decide +kernel) (by decide +kernel) (by decide +kernel) (by decide +kernel) (by decide +kernel) (hp_undo X) hk hag hG hT hW hR
set_option maxRecDepth 16384 in
theorem qGB_drawn_wf : ∀ q ∈ qGB_drawn, apwf 9 q.2.1 = true := by decide +kernel
set_option maxRecDepth 16384 in
theorem hB_drawn : ∀ q ∈ qGB_drawn, q.1 = 1063 ∧ 9 ≤ q.2.1.1 ∧ q.2.1.2.2.2.2.1 = ([4, 3] : List Nat).map ai ++ [.inr (2, 148)] ∧ ∃ L, qstp 1063 qMB_drawn [205] q.2.1 = some L ∧ expl qEnv qPh qCSL [] true 7 kRc0 kRs0 (some .boolean) qPL qPostL 9 (lfc 70) qGH none 600 L = true := by
  intro q hq
  have hq := List.mem_singleton.mp hq
  subst hq
  exact ⟨rfl, by decide, rfl, _, qB0_drawn_e, qB0_drawn_x⟩
set_option maxRecDepth 16384 in
theorem lc_drawn (hXW : XW X) (hXS : XS X) (hu : 0 ≤ u) (hu2 : u ≤ 940) (hN : lNext X xs i u) {ρ : Nat → Int} {k : KF} (hk : k.1 = 1046) (hag : ∀ j, j < 9 → ρ j = wind xs i u j) (hG : aGS qEnv qPh ρ qS_drawn k) (hT : kTW qEnv k.2.2.2.1) (hW : kWT k.2.2.2.1) (hR : RW k.2.2.2.1) : TGL X xs k :=
  law_pair X hu hu2 hN (pcA := 1046) (pcB := 1063) (midA := 11) (midB := 184) (cixA := 10) (cixB := 11) (iA := 151) (iB := 154) (cA := [11]) (cB := [205]) (vs := [4, 3]) (mA := qMA_drawn) (mB := qMB_drawn) (S := qS_drawn) (L1 := qA_drawn) (GB := qGB_drawn) ⟨rfl, rfl, rfl, rfl⟩ ⟨rfl, rfl, rfl, rfl⟩ (by decide +kernel) (by decide +kernel) qA_drawn_e qA_drawn_x qGB_drawn_wf hB_drawn (by decide) rfl List.mem_cons_self (List.mem_cons_of_mem _ List.mem_cons_self) (by decide) (by decide +kernel) (by decide +kernel) (by decide +kernel) (by decide +kernel) (by decide +kernel) (hp_drawn X) hk hag hG hT hW hR
set_option maxRecDepth 16384 in
theorem qGB_odds_wf : ∀ q ∈ qGB_odds, apwf 9 q.2.1 = true := by decide +kernel
set_option maxRecDepth 16384 in
theorem hB_odds : ∀ q ∈ qGB_odds, q.1 = 1112 ∧ 9 ≤ q.2.1.1 ∧ q.2.1.2.2.2.2.1 = ([5, 4, 3] : List Nat).map ai ++ [.inr (2, 148)] ∧ ∃ L, qstp 1112 qMB_odds [277] q.2.1 = some L ∧ expl qEnv qPh qCSL [] true 7 kRc0 kRs0 (some .boolean) qPL qPostL 9 (lfc 70) qGH none 600 L = true := by
  intro q hq
  have hq := List.mem_singleton.mp hq
  subst hq
  exact ⟨rfl, by decide, rfl, _, qB0_odds_e, qB0_odds_x⟩
set_option maxRecDepth 16384 in
theorem lc_odds (hXW : XW X) (hXS : XS X) (hu : 0 ≤ u) (hu2 : u ≤ 940) (hN : lNext X xs i u) {ρ : Nat → Int} {k : KF} (hk : k.1 = 1089) (hag : ∀ j, j < 9 → ρ j = wind xs i u j) (hG : aGS qEnv qPh ρ qS_odds k) (hT : kTW qEnv k.2.2.2.1) (hW : kWT k.2.2.2.1) (hR : RW k.2.2.2.1) : TGL X xs k :=
  law_pair X hu hu2 hN (pcA := 1089) (pcB := 1112) (midA := 24) (midB := 229) (cixA := 10) (cixB := 11) (iA := 155) (iB := 159) (cA := [24]) (cB := [277]) (vs := [5, 4, 3]) (mA := qMA_odds) (mB := qMB_odds) (S := qS_odds) (L1 := qA_odds) (GB := qGB_odds) ⟨rfl, rfl, rfl, rfl⟩ ⟨rfl, rfl, rfl, rfl⟩ (by decide +kernel) (by decide +kernel) qA_odds_e qA_odds_x qGB_odds_wf hB_odds (by decide) rfl List.mem_cons_self (List.mem_cons_of_mem _ List.mem_cons_self) (by decide) (by decide +kernel) (by decide +kernel) (by decide +kernel) (by decide +kernel) (by decide +kernel) (hp_odds X) hk hag hG hT hW hR
set_option maxRecDepth 16384 in
theorem qGB_image_wf : ∀ q ∈ qGB_image, apwf 9 q.2.1 = true := by decide +kernel
set_option maxRecDepth 16384 in
theorem hB_image : ∀ q ∈ qGB_image, q.1 = 1225 ∧ 9 ≤ q.2.1.1 ∧ q.2.1.2.2.2.2.1 = ([3] : List Nat).map ai ++ [.inr (2, 148)] ∧ ∃ L, qstp 1225 qMB_image [226] q.2.1 = some L ∧ expl qEnv qPh qCSL [] true 7 kRc0 kRs0 (some .boolean) qPL qPostL 9 (lfc 70) qGH none 600 L = true := by
  intro q hq
  have hq := List.mem_singleton.mp hq
  subst hq
  exact ⟨rfl, by decide, rfl, _, qB0_image_e, qB0_image_x⟩
set_option maxRecDepth 16384 in
theorem lc_image (hXW : XW X) (hXS : XS X) (hu : 0 ≤ u) (hu2 : u ≤ 940) (hN : lNext X xs i u) {ρ : Nat → Int} {k : KF} (hk : k.1 = 1214) (hag : ∀ j, j < 9 → ρ j = wind xs i u j) (hG : aGS qEnv qPh ρ qS_image k) (hT : kTW qEnv k.2.2.2.1) (hW : kWT k.2.2.2.1) (hR : RW k.2.2.2.1) : TGL X xs k :=
  law_pair X hu hu2 hN (pcA := 1214) (pcB := 1225) (midA := 18) (midB := 205) (cixA := 10) (cixB := 11) (iA := 176) (iB := 179) (cA := [18]) (cB := [226]) (vs := [3]) (mA := qMA_image) (mB := qMB_image) (S := qS_image) (L1 := qA_image) (GB := qGB_image) ⟨rfl, rfl, rfl, rfl⟩ ⟨rfl, rfl, rfl, rfl⟩ (by decide +kernel) (by decide +kernel) qA_image_e qA_image_x qGB_image_wf hB_image (by decide) rfl List.mem_cons_self (List.mem_cons_of_mem _ List.mem_cons_self) (by decide) (by decide +kernel) (by decide +kernel) (by decide +kernel) (by decide +kernel) (by decide +kernel) (hp_image X) hk hag hG hT hW hR
set_option maxRecDepth 16384 in
theorem qGB_restore_wf : ∀ q ∈ qGB_restore, apwf 9 q.2.1 = true := by decide +kernel
set_option maxRecDepth 16384 in
theorem hB_restore : ∀ q ∈ qGB_restore, q.1 = 1250 ∧ 9 ≤ q.2.1.1 ∧ q.2.1.2.2.2.2.1 = ([3] : List Nat).map ai ++ [.inr (2, 148)] ∧ ∃ L, qstp 1250 qMB_restore [319] q.2.1 = some L ∧ expl qEnv qPh qCSL [] true 7 kRc0 kRs0 (some .boolean) qPL qPostL 9 (lfc 70) qGH none 600 L = true := by
  intro q hq
  have hq := List.mem_singleton.mp hq
  subst hq
  exact ⟨rfl, by decide, rfl, _, qB0_restore_e, qB0_restore_x⟩
set_option maxRecDepth 16384 in
theorem lc_restore (hXW : XW X) (hXS : XS X) (hu : 0 ≤ u) (hu2 : u ≤ 940) (hN : lNext X xs i u) {ρ : Nat → Int} {k : KF} (hk : k.1 = 1239) (hag : ∀ j, j < 9 → ρ j = wind xs i u j) (hG : aGS qEnv qPh ρ qS_restore k) (hT : kTW qEnv k.2.2.2.1) (hW : kWT k.2.2.2.1) (hR : RW k.2.2.2.1) : TGL X xs k :=
  law_pair X hu hu2 hN (pcA := 1239) (pcB := 1250) (midA := 28) (midB := 265) (cixA := 10) (cixB := 11) (iA := 180) (iB := 183) (cA := [28]) (cB := [319]) (vs := [3]) (mA := qMA_restore) (mB := qMB_restore) (S := qS_restore) (L1 := qA_restore) (GB := qGB_restore) ⟨rfl, rfl, rfl, rfl⟩ ⟨rfl, rfl, rfl, rfl⟩ (by decide +kernel) (by decide +kernel) qA_restore_e qA_restore_x qGB_restore_wf hB_restore (by decide) rfl List.mem_cons_self (List.mem_cons_of_mem _ List.mem_cons_self) (by decide) (by decide +kernel) (by decide +kernel) (by decide +kernel) (by decide +kernel) (by decide +kernel) (hp_restore X) hk hag hG hT hW hR
set_option maxRecDepth 16384 in
theorem qGB_office_wf : ∀ q ∈ qGB_office, apwf 9 q.2.1 = true := by decide +kernel
set_option maxRecDepth 16384 in
theorem hB_office : ∀ q ∈ qGB_office, q.1 = 320 ∧ 9 ≤ q.2.1.1 ∧ q.2.1.2.2.2.2.1 = ([] : List Nat).map ai ++ [.inr (2, 148)] ∧ ∃ L, qstp 320 qMB_office [278] q.2.1 = some L ∧ expl qEnv qPh qCSL [] true 7 kRc0 kRs0 (some .boolean) qPL qPostL 9 (lfc 70) qGH none 600 L = true := by
  intro q hq
  have hq := List.mem_singleton.mp hq
  subst hq
  exact ⟨rfl, by decide, rfl, _, qB0_office_e, qB0_office_x⟩
set_option maxRecDepth 16384 in
theorem lc_office (hXW : XW X) (hXS : XS X) (hu : 0 ≤ u) (hu2 : u ≤ 940) (hN : lNext X xs i u) {ρ : Nat → Int} {k : KF} (hk : k.1 = 315) (hag : ∀ j, j < 9 → ρ j = wind xs i u j) (hG : aGS qEnv qPh ρ qS_office k) (hT : kTW qEnv k.2.2.2.1) (hW : kWT k.2.2.2.1) (hR : RW k.2.2.2.1) : TGL X xs k :=
  law_pair X hu hu2 hN (pcA := 315) (pcB := 320) (midA := 25) (midB := 230) (cixA := 10) (cixB := 11) (iA := 32) (iB := 36) (cA := [25]) (cB := [278]) (vs := []) (mA := qMA_office) (mB := qMB_office) (S := qS_office) (L1 := qA_office) (GB := qGB_office) ⟨rfl, rfl, rfl, rfl⟩ ⟨rfl, rfl, rfl, rfl⟩ (by decide +kernel) (by decide +kernel) qA_office_e qA_office_x qGB_office_wf hB_office (by decide) rfl List.mem_cons_self (List.mem_cons_of_mem _ List.mem_cons_self) (by decide) (by decide +kernel) (by decide +kernel) (by decide +kernel) (by decide +kernel) (by decide +kernel) (hp_office X hXW hXS) hk hag hG hT hW hR
set_option maxRecDepth 16384 in
theorem qGB_book_wf : ∀ q ∈ qGB_book, apwf 9 q.2.1 = true := by decide +kernel
set_option maxRecDepth 16384 in
theorem hB_book : ∀ q ∈ qGB_book, q.1 = 1137 ∧ 9 ≤ q.2.1.1 ∧ q.2.1.2.2.2.2.1 = ([3] : List Nat).map ai ++ [.inr (2, 148)] ∧ ∃ L, qstp 1137 qMB_book [192] q.2.1 = some L ∧ expl qEnv qPh qCSL [] true 7 kRc0 kRs0 (some .boolean) qPL qPostL 9 (lfc 70) qGH none 600 L = true := by
  intro q hq
  rcases List.mem_cons.mp hq with rfl | hq
  · exact ⟨rfl, by decide, rfl, _, qB0_book_e, qB0_book_x⟩
  rcases List.mem_cons.mp hq with rfl | hq
  · exact ⟨rfl, by decide, rfl, _, qB1_book_e, qB1_book_x⟩
  have hq := List.mem_singleton.mp hq
  subst hq
  exact ⟨rfl, by decide, rfl, _, qB2_book_e, qB2_book_x⟩
set_option maxRecDepth 16384 in
theorem lc_book (hXW : XW X) (hXS : XS X) (hu : 0 ≤ u) (hu2 : u ≤ 940) (hN : lNext X xs i u) {ρ : Nat → Int} {k : KF} (hk : k.1 = 1126) (hag : ∀ j, j < 9 → ρ j = wind xs i u j) (hG : aGS qEnv qPh ρ qS_book k) (hT : kTW qEnv k.2.2.2.1) (hW : kWT k.2.2.2.1) (hR : RW k.2.2.2.1) : TGL X xs k :=
  law_pair X hu hu2 hN (pcA := 1126) (pcB := 1137) (midA := 3) (midB := 171) (cixA := 10) (cixB := 11) (iA := 160) (iB := 163) (cA := [3]) (cB := [192]) (vs := [3]) (mA := qMA_book) (mB := qMB_book) (S := qS_book) (L1 := qA_book) (GB := qGB_book) ⟨rfl, rfl, rfl, rfl⟩ ⟨rfl, rfl, rfl, rfl⟩ (by decide +kernel) (by decide +kernel) qA_book_e qA_book_x qGB_book_wf hB_book (by decide) rfl List.mem_cons_self (List.mem_cons_of_mem _ List.mem_cons_self) (by decide) (by decide +kernel) (by decide +kernel) (by decide +kernel) (by decide +kernel) (by decide +kernel) (hp_book X hXW hXS) hk hag hG hT hW hR
set_option maxRecDepth 16384 in
theorem lq_ (hp : HPq X xs i u 2 167 [3]) (hXW : XW X) (hXS : XS X) (hu : 0 ≤ u) (hu2 : u ≤ 940) (hN : lNext X xs i u) {ρ : Nat → Int} {k : KF} (hk : k.1 = 625) (hag : ∀ j, j < 9 → ρ j = wind xs i u j) (hG : aGS qEnv qPh ρ qSq k) (hT : kTW qEnv k.2.2.2.1) (hW : kWT k.2.2.2.1) (hR : RW k.2.2.2.1) : TGL X xs k :=
  law_cmp X hu hu2 hN (pcA := 625) (pcB := 635) (midA := 2) (midB := 167) (cixA := 10) (cixB := 11) (iA := 75) (iB := 78) (cA := [2]) (cB := [188]) (vs := [3]) (mA := qMA_q) (mB := qMB_q) (S := qSq) (S1 := qSq1) (SB := qSqB) (SC0 := qSqC0) (SC := qSqC) (L1 := qAq) (L3 := qBq) (L4 := qCq) ⟨rfl, rfl, rfl, rfl⟩ ⟨rfl, rfl, rfl, rfl⟩ (by decide +kernel) (by decide +kernel) qAq_e qAq_c (by decide +kernel) rfl rfl qAq_x (by decide +kernel) (by decide) rfl qBq_e qBq_c (by decide +kernel) rfl rfl ⟨rfl, rfl, rfl, rfl, rfl⟩ rfl qCq_e qCq_x (by decide) rfl List.mem_cons_self (List.mem_cons_of_mem _ List.mem_cons_self) (by decide) (by decide +kernel) (by decide +kernel) (by decide +kernel) (by decide +kernel) (by decide +kernel) hp hk hag hG hT hW hR
end LCALLS
set_option maxRecDepth 16384 in
theorem law_TG (X : KO) (hXW : XW X) (hXS : XS X) {xs : List Int32} (hlen : xs.length ≤ 3072) : ∀ (m : Nat) (i u : Int) (k : KF), (xs.length : Int) - i < m → HeadAt 0 (fun _ => 0) i u k → kWT k.2.2.2.1 → RW k.2.2.2.1 → 0 ≤ i → i ≤ (xs.length : Int) → 0 ≤ u → u ≤ 940 → TGL X xs k := by
  intro m
  induction m with
  | zero => intro i u k h1 _ _ _ _ h4 _ _; omega
  | succ m ih =>
    intro i u k h1 hH hW hR hi hi2 hu hu2
    have hG := head_to hlen hH hi hi2 hu hu2
    have hT := hH.2.2.2.2.1
    have hN : lNext X xs i u := by
      intro ρ k' e1 e2 e3 e4 e5 e6
      obtain ⟨hH2, g1, g2, g3⟩ := head_of e1 e4 e3
      have e0 : ρ 0 = (xs.length : Int) := e2 0 (by decide)
      have e9 : ρ 1 = i := e2 1 (by decide)
      rw [e9] at hH2 g3
      rw [e0] at g3
      exact ih (i + 6) (ρ 9) k' (by omega) hH2 e5 e6 (by omega) g3 g1 g2
    have hC : HCT qEnv qPh qModC 9 qGL (wind xs i u) k.2.2.2.1 none kWT (TGL X xs) := by
      intro q hq ρ k' e1 e2 e3 e4 e5 e6 _
      have hR' := RW_fr hR hT e4 e5 qModC_rw qModC_c2
      rcases List.mem_cons.mp hq with rfl | hq
      · exact hN ρ k' e1 e2 e3 e4 e6 hR'
      rcases List.mem_cons.mp hq with rfl | hq
      · exact law_feed X hu hu2 hN e1 e2 e3 e4 e6 hR'
      rcases List.mem_cons.mp hq with rfl | hq
      · exact lc_sign X hXW hXS hu hu2 hN e1 e2 e3 e4 e6 hR'
      rcases List.mem_cons.mp hq with rfl | hq
      · exact lc_soften X hXW hXS hu hu2 hN e1 e2 e3 e4 e6 hR'
      rcases List.mem_cons.mp hq with rfl | hq
      · exact lc_resent X hXW hXS hu hu2 hN e1 e2 e3 e4 e6 hR'
      rcases List.mem_cons.mp hq with rfl | hq
      · exact lc_retire X hXW hXS hu hu2 hN e1 e2 e3 e4 e6 hR'
      rcases List.mem_cons.mp hq with rfl | hq
      · exact lc_cancel X hXW hXS hu hu2 hN e1 e2 e3 e4 e6 hR'
      rcases List.mem_cons.mp hq with rfl | hq
      · exact lc_lodge X hXW hXS hu hu2 hN e1 e2 e3 e4 e6 hR'
      rcases List.mem_cons.mp hq with rfl | hq
      · exact lc_days X hXW hXS hu hu2 hN e1 e2 e3 e4 e6 hR'
      rcases List.mem_cons.mp hq with rfl | hq
      · exact lc_undo X hXW hXS hu hu2 hN e1 e2 e3 e4 e6 hR'
      rcases List.mem_cons.mp hq with rfl | hq
      · exact lc_drawn X hXW hXS hu hu2 hN e1 e2 e3 e4 e6 hR'
      rcases List.mem_cons.mp hq with rfl | hq
      · exact lc_odds X hXW hXS hu hu2 hN e1 e2 e3 e4 e6 hR'
      rcases List.mem_cons.mp hq with rfl | hq
      · exact lc_image X hXW hXS hu hu2 hN e1 e2 e3 e4 e6 hR'
      rcases List.mem_cons.mp hq with rfl | hq
      · exact lc_restore X hXW hXS hu hu2 hN e1 e2 e3 e4 e6 hR'
      rcases List.mem_cons.mp hq with rfl | hq
      · exact lc_office X hXW hXS hu hu2 hN e1 e2 e3 e4 e6 hR'
      rcases List.mem_cons.mp hq with rfl | hq
      · exact lc_book X hXW hXS hu hu2 hN e1 e2 e3 e4 e6 hR'
      have hq := List.mem_singleton.mp hq
      subst hq
      exact lq_ X (hq_back X) hXW hXS hu hu2 hN e1 e2 e3 e4 e6 hR'
    obtain ⟨f, hf⟩ := qLE
    exact ap_go X qGL_wf hC qLA_eq hf hH.1 (fun _ _ => rfl) (by decide) hG hT (kFr.rf _ _ _) hW
