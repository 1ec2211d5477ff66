/-! Feed, the calls one by one, the round. -/
set_option maxRecDepth 16384 in
theorem qGFb_wf : ∀ q ∈ qGFb.1, apwf 9 q.2.1 = true := by decide +kernel
set_option maxRecDepth 16384 in
theorem qModC_rw : rwok qModC = true := by decide +kernel
set_option maxRecDepth 16384 in
theorem qModC_c2 : c2ok qModC = true := by decide +kernel
set_option maxRecDepth 16384 in
theorem qModC_ex : exok qModC = true := by decide +kernel
set_option maxRecDepth 16384 in
theorem qModFA_ex : exok qModFA = true := by decide +kernel
set_option maxRecDepth 16384 in
theorem qModFB_ex : exok qModFB = true := by decide +kernel
set_option maxRecDepth 16384 in
theorem qModFA_c2 : c2ok qModFA = true := by decide +kernel
set_option maxRecDepth 16384 in
theorem qModFB_c2 : c2ok qModFB = true := by decide +kernel
set_option maxRecDepth 16384 in
theorem argsF {n m : Nat} {ρ : Nat → Int} {st : List KV} (h : aSt qEnv n ρ [.inl (0, [(7, 1)]), .inl (0, [(6, 1)]), .inl (0, [(5, 1)]), .inl (0, [(4, 1)]), .inl (0, [(3, 1)]), .inr (2, m)] st) : st = [iv ρ 7, iv ρ 6, iv ρ 5, iv ρ 4, iv ρ 3, .inl (.ref m)] := by
  obtain ⟨v1, s1, rfl, h1, h⟩ := aSt_cons h
  obtain ⟨v2, s2, rfl, h2, h⟩ := aSt_cons h
  obtain ⟨v3, s3, rfl, h3, h⟩ := aSt_cons h
  obtain ⟨v4, s4, rfl, h4, h⟩ := aSt_cons h
  obtain ⟨v5, s5, rfl, h5, h⟩ := aSt_cons h
  obtain ⟨v6, s6, rfl, h6, h⟩ := aSt_cons h
  rw [aSt_nil h, aR_iv h1, aR_iv h2, aR_iv h3, aR_iv h4, aR_iv h5, aR_rf h6]
section LFEED
variable (X : KO) {xs : List Int32} {i u : Int}
set_option maxRecDepth 16384 in
theorem law_feed2 (hu : 0 ≤ u) (hu2 : u ≤ 940) (hN : lNext X xs i u) {S : AS} {L : List (Nat × AS)} (hL1 : qstp 282 qModFB [210] S = some L) (hx : expl qEnv qPh qCSL [] true 7 kRc0 kRs0 (some .boolean) qPL qPostL 9 (lfc 70) qGH none 600 L = true) (hS1 : 9 ≤ S.1) (hS2 : S.2.2.2.2.1 = [.inl (0, [(7, 1)]), .inl (0, [(6, 1)]), .inl (0, [(5, 1)]), .inl (0, [(4, 1)]), .inl (0, [(3, 1)]), .inr (2, 148)]) (hS3 : ((148, (2, [])), (Sum.inl (0, [(8, 1)]) : AV)) ∈ S.2.2.2.2.2.1) {w w1 : KW} {rl : List (Nat × Int)} (hT0 : kTW qEnv w) (hT1 : kTW qEnv w1) (hR0 : RW w) (hu0 : wm zr w 1 1 = u) (ra : Run X zr 15 [(1, 0), (1, kc zr (iv (wind xs i u) 3)), (1, kc zr (iv (wind xs i u) 4)), (1, kc zr (iv (wind xs i u) 5)), (1, kc zr (iv (wind xs i u) 6)), (1, kc zr (iv (wind xs i u) 7))] (wm zr w) rl (wm zr w1)) (hF1 : kFr qEnv qModFA w w1) {ρ : Nat → Int} {k : KF} (hk : k.1 = 282) (hag : ∀ j, j < 9 → ρ j = wind xs i u j) (hG : aGS qEnv qPh ρ S k) (hT : kTW qEnv k.2.2.2.1) (hW : kWT k.2.2.2.1) (hF : kFr qEnv [] w1 k.2.2.2.1) : TGL X xs k := by
  obtain ⟨f, k3, e1, t3, f3, w3, n3, r3⟩ := qstp_ok X hL1 (ig := .invokevirtual 26) (x := (189, 5, 0, 0, 11)) (by decide +kernel) rfl hk hT hW hG hS1 hag
  have e1 : kcallV (callL X 70 f) kRc0 kRs0 (189, 5, 0, 0, 11) k.1 k.2.1 k.2.2.1 k.2.2.2.1 k.2.2.2.2.1 k.2.2.2.2.2 = some k3 := e1
  obtain ⟨b, rest, r, w', a1, a2, -, -, a5, a6⟩ := kcallV_inv e1
  have hst := hG.2.2.1
  rw [hS2] at hst
  have hst := argsF hst
  rw [hst] at a1 a2
  have a1 : [Sum.inl (.ref 148)] = (Sum.inl (.ref b) : KV) :: rest := a1
  cases a1
  have hiv : ∀ v, v < 9 → iv ρ v = iv (wind xs i u) v := fun v hv => by
    unfold iv
    rw [hag v hv]
  rw [hiv 3 (by decide), hiv 4 (by decide), hiv 5 (by decide), hiv 6 (by decide), hiv 7 (by decide)] at a2
  have rb : Run X zr 189 [(1, 148), (1, kc zr (iv (wind xs i u) 3)), (1, kc zr (iv (wind xs i u) 4)), (1, kc zr (iv (wind xs i u) 5)), (1, kc zr (iv (wind xs i u) 6)), (1, kc zr (iv (wind xs i u) 7))] (wm zr k.2.2.2.1) (r.toList.map (kcc zr)) (wm zr k3.2.2.2.1) := ⟨f, 70, _, _, r, w', a2, hW, rfl, rfl, rfl, by rw [a6]⟩
  have hR1 : RT w k.2.2.2.1 := RT_r (RT_r hR0.1 hF1 rfl) hF rfl
  obtain ⟨L', hj, -⟩ := feed_pair (kTW_ref hT0 (a := 0) (k := 0) (r := 1) (by decide) (by decide) rfl) (TJ_of hT0 hT hR1 hu0 (tc_u hu hu2 hag hG hS3 (by decide)) hu) hu2 ra rb
  have hR3 : RT w1 k3.2.2.2.1 := TJ_to hj
  have hR4 : RT k3.2.2.2.1 k3.2.2.2.1 := RT_l (RT_l hR3 hF rfl) f3 rfl
  have hL4 : LL k3.2.2.2.1 := LL_fr (LL_fr (LL_fr hR0.2.1 hF1 (by decide)) hF (by decide)) f3 (by decide)
  have hM4 : L2 k3.2.2.2.1 := L2_fr (L2_fr (L2_fr hR0.2.2.1 hF1 (by decide)) hF (by decide)) f3 (by decide)
  have hC1 : C2 (wm zr w1) (wm zr w1) := C2_kF hR0.2.2.2.1 hT0 hT1 hT0 hT1 hF1 hF1 qModFA_c2 qModFA_c2
  have hC2 : C2 (wm zr k.2.2.2.1) (wm zr k.2.2.2.1) := C2_kF hC1 hT1 hT hT1 hT hF hF rfl rfl
  have hC3 : C2 (wm zr k3.2.2.2.1) (wm zr k3.2.2.2.1) := C2_kF hC2 hT t3 hT t3 f3 f3 qModFB_c2 qModFB_c2
  exact r3 (ex_go X qGH_wf (lNext_H X hN t3 ⟨hR4, hL4, hM4, hC3, EX_kF (EX_kF (EX_kF hR0.2.2.2.2 hF1 qModFA_ex) hF exok_nil) f3 qModFB_ex⟩) hx hag hS1 n3 t3 (kFr.rf _ _ _) w3)
set_option maxRecDepth 16384 in
theorem law_feed (hu : 0 ≤ u) (hu2 : u ≤ 940) (hN : lNext X xs i u) {ρ : Nat → Int} {k : KF} (hk : k.1 = 247) (hag : ∀ j, j < 9 → ρ j = wind xs i u j) (hG : aGS qEnv qPh ρ qSF k) (hT : kTW qEnv k.2.2.2.1) (hW : kWT k.2.2.2.1) (hR : RW k.2.2.2.1) : TGL X xs k := by
  obtain ⟨f, k1, e1, t1, f1, w1, n1, r1⟩ := qstp_ok X qF1_e (ig := .invokevirtual 22) (x := (15, 5, 0, 0, 10)) (by decide +kernel) rfl hk hT hW hG (by decide) hag
  have e1 : kcallV (callL X 70 f) kRc0 kRs0 (15, 5, 0, 0, 10) k.1 k.2.1 k.2.2.1 k.2.2.2.1 k.2.2.2.2.1 k.2.2.2.2.2 = some k1 := e1
  obtain ⟨b, rest, r, w', a1, a2, -, -, a5, a6⟩ := kcallV_inv e1
  have hst := argsF hG.2.2.1
  rw [hst] at a1 a2
  have a1 : [Sum.inl (.ref 0)] = (Sum.inl (.ref b) : KV) :: rest := a1
  cases a1
  have hiv : ∀ v, v < 9 → iv ρ v = iv (wind xs i u) v := fun v hv => by
    unfold iv
    rw [hag v hv]
  rw [hiv 3 (by decide), hiv 4 (by decide), hiv 5 (by decide), hiv 6 (by decide), hiv 7 (by decide)] at a2
  have ra : Run X zr 15 [(1, 0), (1, kc zr (iv (wind xs i u) 3)), (1, kc zr (iv (wind xs i u) 4)), (1, kc zr (iv (wind xs i u) 5)), (1, kc zr (iv (wind xs i u) 6)), (1, kc zr (iv (wind xs i u) 7))] (wm zr k.2.2.2.1) (r.toList.map (kcc zr)) (wm zr k1.2.2.2.1) := ⟨f, 70, _, _, r, w', a2, hW, rfl, rfl, rfl, by rw [a6]⟩
  have hu0 : wm zr k.2.2.2.1 1 1 = u := tc_u hu hu2 hag hG (a := 1) (c := 1) List.mem_cons_self (by decide)
  refine r1 (ex_go X qGFb_wf (w0 := k1.2.2.2.1) (mods := []) ?_ qF1_x hag (by decide) n1 t1 (kFr.rf _ _ _) w1)
  intro q hq ρ2 k2 c1 c2 c3 c4 c5 c6 _
  rcases List.mem_cons.mp hq with rfl | hq
  · exact law_feed2 X hu hu2 hN qF2a_e qF2a_x (by decide) rfl (List.mem_cons_of_mem _ List.mem_cons_self) hT t1 hR hu0 ra f1 c1 c2 c3 c4 c6 c5
  · have hq := List.mem_singleton.mp hq
    subst hq
    exact law_feed2 X hu hu2 hN qF2b_e qF2b_x (by decide) rfl (List.mem_cons_of_mem _ List.mem_cons_self) hT t1 hR hu0 ra f1 c1 c2 c3 c4 c6 c5
end LFEED
set_option maxRecDepth 16384 in
/-- what a question's pair is -/
def HPq (X : KO) (xs : List Int32) (i u : Int) (mA mB : Nat) (vs : List Nat) : Prop := ∀ (wa wa' wb wb' : KW) (rl rl' : List (Nat × Int)), PH u wa wa' wb wb' → Run X zr mA ((1, 0) :: vs.reverse.map (fun v => (1, kc zr (iv (wind xs i u) v)))) (wm zr wa) rl (wm zr wa') → Run X zr mB ((1, 148) :: vs.reverse.map (fun v => (1, kc zr (iv (wind xs i u) v)))) (wm zr wb) rl' (wm zr wb') → rl = rl' ∧ C2 (wm zr wa') (wm zr wb')
set_option maxRecDepth 16384 in
theorem C2_tick {a b : MM} (h : C2 a b) (v : Int) : C2 a (mu b 148 0 v) := C2_fr3 h (fun _ _ _ => rfl) (fun x k q _ => by
  by_cases c : x = 148
  · exact mu_k (by unfold PJs at q; omega)
  · exact mu_a c)
set_option maxRecDepth 16384 in
theorem count_eq {a b : MM} {u : Int} (h : C2 a b) (h00 : a 0 0 = 1) (ha : a 1 1 = u) (hb : b 148 2 = u) (x : Int) : f7 a 0 x = f177 b 148 x := by
  have hS := h.1.2.1
  have e14 : (mu b 148 0 0) 148 14 = 150 := (mu_k (by decide)).trans hS.bn
  have e0 : (mu b 148 0 0) 150 0 = b 150 0 := mu_a (by decide)
  have e1 : (mu b 148 0 0) 150 1 = b 150 1 := mu_a (by decide)
  have e2 : (mu b 148 0 0) 150 2 = b 150 2 := mu_a (by decide)
  have e3 : (mu b 148 0 0) 148 2 = u := (mu_k (by decide)).trans hb
  have h1 : a 0 1 = 3 := h.1.1.1
  unfold f7 f177
  rw [e14, e0, e1, e2, e3, h1, h00, ha, hS.p.1, hS.f.1]
  by_cases c0 : x = 0
  · rw [if_pos c0, if_pos c0]
  · rw [if_neg c0, if_neg c0]
    by_cases c1 : x = 1
    · rw [if_pos c1, if_pos c1]
    · rw [if_neg c1, if_neg c1]
      by_cases c2 : x = 2
      · rw [if_pos c2, if_pos c2]
        rcases hS.r.2 with r | r
        · rw [if_pos r, ← hS.r.1, r]
        · rw [if_neg (by omega), ← hS.r.1, r]
      · rw [if_neg c2, if_neg c2]
set_option maxRecDepth 16384 in
theorem hq_count (X : KO) {xs : List Int32} {i u : Int} : HPq X xs i u 7 177 [3] := fun wa wa' wb wb' rl rl' hP ra rb => by
  obtain ⟨ha, -, -, -, -, -, hC, hT⟩ := hP
  have ra : Run X zr 7 [(1, 0), ivx xs i u 3] (wm zr wa) rl (wm zr wa') := ra
  have rb : Run X zr 177 [(1, 148), ivx xs i u 3] (wm zr wb) rl' (wm zr wb') := rb
  obtain ⟨q1, q2⟩ := d7 ra
  obtain ⟨q3, q4⟩ := d177 rb
  have e : ∀ x, g177 (wm zr wb) 148 x = mu (wm zr wb) 148 0 0 := fun x => by
    unfold g177
    (repeat' split) <;> rfl
  rw [q1, q2, q3, q4, e]
  exact ⟨by rw [count_eq hC (kTW_ref ha (a := 0) (k := 0) (r := 1) (by decide) (by decide) rfl) hT.1 hT.2.1], C2_tick hC 0⟩
set_option maxRecDepth 16384 in
/-- what a question's pair is, where the relation is not its business -/
def HPn (X : KO) (xs : List Int32) (i u : Int) (mA mB : Nat) (vs : List Nat) : Prop := ∀ (wa wa' wb wb' : KW) (rl rl' : List (Nat × Int)), PH u wa wa' wb wb' → Run X zr mA ((1, 0) :: vs.reverse.map (fun v => (1, kc zr (iv (wind xs i u) v)))) (wm zr wa) rl (wm zr wa') → Run X zr mB ((1, 148) :: vs.reverse.map (fun v => (1, kc zr (iv (wind xs i u) v)))) (wm zr wb) rl' (wm zr wb') → rl = rl'
/-! Sentences told: kept and read. -/
set_option maxRecDepth 16384 in
theorem SaS.nz {a : MM} {s : Int} {nd : Int → Int} {h top : Int} (q : SaS a s nd h top) : h = 0 ∨ h = 1 := by
  rcases q with q | q
  · exact Or.inl q.1
  · exact Or.inr q.1
set_option maxRecDepth 16384 in
/-- a sentence's call keeps the relation -/
theorem SeR_EX {a b a' b' : MM} (h : EX a b) (q : SeR (a 0 12) a b a' b') : EX a' b' := by
  obtain ⟨⟨h1, h2⟩, h3, h4, h5, h6⟩ := h
  obtain ⟨q1, q2, q3⟩ := q
  have hs : (a 0 12 = 100 ∧ a 0 11 = 105) ∨ (a 0 12 = 105 ∧ a 0 11 = 100) := by omega
  have img : ∀ k, 0 ≤ k → k < 2 → b' 158 k ≠ 0 → SaS a' (117 + 19 * k) (fun j => b' 152 (456 * k + 216 + j)) (b' 152 (456 * k + 214)) (b' 152 (456 * k + 215)) := fun k k0 k1 hk => by
    have e : b' 158 k = b 158 k := q2 _ _ (by unfold FcB; omega)
    rw [e] at hk
    exact (h6 k k0 k1 hk).of (q1 _ _ (by unfold FcA; omega)) (q1 _ _ (by unfold FcA; omega)) (fun j j0 j1 => ⟨q1 _ _ (by unfold FcA; omega), q1 _ _ (by unfold FcA; omega), q1 _ _ (by unfold FcA; omega)⟩) (fun j j0 j1 => q2 _ _ (by unfold FcB; omega)) (q2 _ _ (by unfold FcB; omega)) (q2 _ _ (by unfold FcB; omega))
  refine ⟨⟨(q1 _ _ (by unfold FcA; omega)).trans h1, (q1 _ _ (by unfold FcA; omega)).trans h2⟩, (q2 _ _ (by unfold FcB; omega)).trans h3, ?_, ?_, img⟩
  · rcases q3 with ⟨e1, e2, -⟩ | ⟨e1, e2, -⟩
    · rw [e1, e2]; exact h4
    · rw [e1, e2]; omega
  · rcases q3 with ⟨e1, e2, e3⟩ | ⟨e1, e2, e3⟩
    · rw [e1]
      exact h5.of (q1 _ _ (by unfold FcA; omega)) (q1 _ _ (by unfold FcA; omega)) (fun j j0 j1 => ⟨q1 _ _ (by unfold FcA; omega), q1 _ _ (by unfold FcA; omega), q1 _ _ (by unfold FcA; omega)⟩) (fun j j0 j1 => e3 _) (e3 _) (e3 _)
    · rw [e1]; exact e3
set_option maxRecDepth 16384 in
def HPE (X : KO) (xs : List Int32) (i u : Int) (mA mB : Nat) (vs : List Nat) : Prop := ∀ (wa wa' wb wb' : KW) (rl rl' : List (Nat × Int)), PH u wa wa' wb wb' → EX (wm zr wa) (wm zr wb) → Run X zr mA ((1, 0) :: vs.reverse.map (fun v => (1, kc zr (iv (wind xs i u) v)))) (wm zr wa) rl (wm zr wa') → Run X zr mB ((1, 148) :: vs.reverse.map (fun v => (1, kc zr (iv (wind xs i u) v)))) (wm zr wb) rl' (wm zr wb') → EX (wm zr wa') (wm zr wb')
set_option maxRecDepth 16384 in
def HPF (X : KO) (xs : List Int32) (i u : Int) (mA mB : Nat) (vs : List Nat) : Prop := ∀ (wa wa' wb wb' : KW) (rl rl' : List (Nat × Int)), PH u wa wa' wb wb' → EX (wm zr wa) (wm zr wb) → Run X zr mA ((1, 0) :: vs.reverse.map (fun v => (1, kc zr (iv (wind xs i u) v)))) (wm zr wa) rl (wm zr wa') → Run X zr mB ((1, 148) :: vs.reverse.map (fun v => (1, kc zr (iv (wind xs i u) v)))) (wm zr wb) rl' (wm zr wb') → C2 (wm zr wa') (wm zr wb') ∧ EX (wm zr wa') (wm zr wb')
set_option maxRecDepth 16384 in
def HPx (X : KO) (xs : List Int32) (i u : Int) (mA mB : Nat) (vs : List Nat) : Prop := ∀ (wa wa' wb wb' : KW) (rl rl' : List (Nat × Int)), PH u wa wa' wb wb' → EX (wm zr wa) (wm zr wb) → Run X zr mA ((1, 0) :: vs.reverse.map (fun v => (1, kc zr (iv (wind xs i u) v)))) (wm zr wa) rl (wm zr wa') → Run X zr mB ((1, 148) :: vs.reverse.map (fun v => (1, kc zr (iv (wind xs i u) v)))) (wm zr wb) rl' (wm zr wb') → rl = rl'
set_option maxRecDepth 16384 in
theorem S40s {w : KW} (h : kTW qEnv w) {s : Int} (hs : s = 100 ∨ s = 105) : wm zr w (s + 1) (-1) = 40 ∧ wm zr w (s + 4) (-1) = 20 := by
  rcases hs with rfl | rfl
  · exact ⟨(kTW_len h (a := 101) (n := 40) (by decide) rfl (by decide)).1, (kTW_len h (a := 104) (n := 20) (by decide) rfl (by decide)).1⟩
  · exact ⟨(kTW_len h (a := 106) (n := 40) (by decide) rfl (by decide)).1, (kTW_len h (a := 109) (n := 20) (by decide) rfl (by decide)).1⟩
set_option maxRecDepth 16384 in
theorem N166 {w : KW} (h : kTW qEnv w) {k : Int} (k0 : 0 ≤ k) (k1 : k < 240) : s32 (wm zr w 166 k) = wm zr w 166 k := by
  obtain ⟨n, rfl⟩ : ∃ n : Nat, k = (n : Int) := ⟨k.toNat, by omega⟩
  exact (kTW_int h (a := 166) (k := n) (lo := -2147483648) (hi := 2147483647) (by decide) (by show n < 240; omega) rfl).2.2
set_option maxRecDepth 16384 in
theorem hpE_sentence (X : KO) (hXW : XW X) (hXS : XS X) {xs : List Int32} {i u : Int} : HPE X xs i u 31 269 [] := fun wa wa' wb wb' rl rl' hP hE ra rb => by
  obtain ⟨ha, -, hb, hb', -, -, hC, hT⟩ := hP
  have ra : Run X zr 31 [(1, 0)] (wm zr wa) rl (wm zr wa') := ra
  have rb : Run X zr 269 [(1, 148)] (wm zr wb) rl' (wm zr wb') := rb
  have hs : wm zr wa 0 12 = 100 ∨ wm zr wa 0 12 = 105 := by
    rcases hE.2.2.1 with q | q
    · exact Or.inr q.2
    · exact Or.inl q.2
  exact SeR_EX hE (sent_R hXW hXS hC rfl (by unfold Sl; omega) (S40s ha hs).1 hE.2.1 hT (kTW_ref ha (a := 0) (k := 0) (r := 1) (by decide) (by decide) rfl) (kTW_ref ha (a := 1) (k := 0) (r := 2) (by decide) (by decide) rfl) (kTW_len ha (a := 2) (n := 940) (by decide) rfl (by decide)).1 (kTW_ref hb (a := 148) (k := 1) (r := 149) (by decide) (by decide) rfl) ra rb (fun k k0 k1 => N166 hb' k0 k1))
set_option maxRecDepth 16384 in
theorem said_pair {X : KO} {ρ : Nat → Int32} {a b b' : MM} {rl' : List (Nat × Int)} {k : Int} (hC : C2 a b) (hE : EX a b) (h40 : ∀ s, s = 100 ∨ s = 105 → a (s + 1) (-1) = 40 ∧ a (s + 4) (-1) = 20) (rb : Run X ρ 267 [(1, 148), (1, k)] b rl' b') : rl' = [(1, f30 a 0 k)] := by
  obtain ⟨N, ig, rb⟩ := Run_CR rb rfl
  have rb : MR X ρ 4 0 0 qP267 N 0 [148, k, 0, 0] [] b (ig, rl', b') := rb
  obtain ⟨y, ey, A⟩ := s267_0 rb
  have hy : ∀ x j, ¬ (x = 148 ∧ j = 0) → y x j = b x j := fun x j h => by
    rw [ey]
    by_cases q : x = 148
    · exact mu_k (by omega)
    · exact mu_a q
  have hCy : C2 a y := C2_fr hC (fun _ _ _ => rfl) (fun x j q => hy x j (by unfold PJs at q; omega))
  have h14 := hCy.1.2.1.bn
  obtain ⟨⟨h1, h2⟩, -, h4, h5, -⟩ := hE
  rw [h14, hy 150 214 (by omega)] at A
  have hs : a 0 11 = 100 ∨ a 0 11 = 105 := by omega
  have hsl : Sl (a 0 11) := by unfold Sl; omega
  rcases A with ⟨c, A⟩ | ⟨c, A⟩
  · rcases h5 with ⟨-, q⟩ | ⟨q, _⟩
    · have e : rl' = [(1, -1)] := congrArg (fun z => z.2.1) A
      rw [e]
      unfold f30 f93
      rw [if_pos q, if_neg (by decide)]
    · omega
  · rcases h5 with ⟨q, _⟩ | ⟨-, q5, q4, K, cc, qc, qR⟩
    · exact absurd q c
    · have hl : LSx a (a 0 11) := by
        refine ⟨LSe_s hC hsl, ?_, h40 _ hs⟩
        rcases hs with e | e
        · rw [e]; exact h1
        · rw [e]; exact h2
      have e15 := hy 150 215 (by omega)
      have qR : Rep (a (a 0 11 + 1)) (a (a 0 11 + 2)) (a (a 0 11 + 3)) (fun k => y 150 (216 + k)) 60 K 0 (a (a 0 11) 4) (y 150 215) cc := by
        rw [e15]
        exact Rep_fr K (Int.le_refl 0) (fun _ _ _ => ⟨rfl, rfl, rfl⟩) (fun j _ _ => hy _ _ (by omega)) qR
      have e := said_eq hCy hl hsl q4 (by omega) rfl (by decide) qR qc A
      exact congrArg (fun z => z.2.1) e
set_option maxRecDepth 16384 in
theorem hq_said (X : KO) {xs : List Int32} {i u : Int} : HPx X xs i u 30 267 [3] := fun wa wa' wb wb' rl rl' hP hE ra rb => by
  obtain ⟨ha, -, hb, -, -, -, hC, -⟩ := hP
  have ra : Run X zr 30 [(1, 0), ivx xs i u 3] (wm zr wa) rl (wm zr wa') := ra
  have rb : Run X zr 267 [(1, 148), ivx xs i u 3] (wm zr wb) rl' (wm zr wb') := rb
  rw [(d30 ra).1, said_pair hC hE (fun s hs => S40s ha hs) rb]
set_option maxRecDepth 16384 in
theorem image_EX {a b : MM} (h : C2 a b) (hE : EX a b) (h150 : ∀ j, 0 ≤ j → j < 456 → s32 (b 150 j) = b 150 j) (k : Int) : EX (g18 a 0 k) (g205 b 148 k) := by
  have h11 : S11 a := by
    have := hE.2.2.1
    unfold S11
    omega
  have E0 : EX a (mu b 148 0 0) := EX_fr hE (fun _ _ _ _ _ => rfl) (fun q hq j j0 j1 => by
    by_cases c : (q.1 : Int) = 148
    · have : q = (148, 40, 40) := by
        simp only [exLB, List.mem_cons, List.not_mem_nil, or_false] at hq
        rcases hq with rfl | rfl | rfl | rfl | rfl
        · rfl
        · exact absurd c (by decide)
        · exact absurd c (by decide)
        · exact absurd c (by decide)
        · exact absurd c (by decide)
      subst this
      exact mu_k (by have : (40 : Int) ≤ j := j0; omega)
    · exact mu_a c)
  have h151 : ∀ j, 0 ≤ j → j < 456 → s32 ((mu b 148 0 0) 150 j) = (mu b 148 0 0) 150 j := fun j j0 j1 => by rw [mu_a (by decide)]; exact h150 j j0 j1
  clear hE h150
  have h0 : C2 a (mu b 148 0 0) := C2_fr h (fun _ _ _ => rfl) (fun x j q => by
    by_cases c : x = 148
    · rw [c, mu_k (by unfold PJs at q; omega)]
    · rw [mu_a c])
  obtain ⟨-, -, hI, -, -⟩ := h
  unfold g18 g205
  rw [im_ln hI.1.1 hI.1.2.1]
  revert h0 E0 h151
  generalize mu b 148 0 0 = b1
  intro E0 h151 h0
  rcases f209_01 b1 k with ⟨c, d⟩ | ⟨c, d⟩
  · rw [c, if_pos rfl]
    by_cases e : k < 0
    · simp only [if_pos e]; exact E0
    · have e2 : ¬ k < 2 := by omega
      simp only [if_neg e, if_neg e2]; exact E0
  · rw [c, if_neg n10]
    have e : ¬ k < 0 := by omega
    have e2 : k < 2 := by omega
    simp only [if_neg e, if_pos e2]
    have k0 : 0 ≤ k := by omega
    rw [im_el hI k0 e2]
    obtain ⟨⟨⟨d1, d2, d3, d4⟩, hS, hU⟩, hN, -, ⟨j1, j2, j3, j4⟩, hK⟩ := h0
    obtain ⟨i1, i2, i3, i4, i5, i6⟩ := hI.2.1 k k0 e2
    have hS' := hS
    obtain ⟨⟨y1, y2, y3, y4, y5, y6, y7⟩, r, n⟩ := hS
    -- the reference
    rw [B205_18 y4 j1 d]
    dsimp only
    have F1 : Fr (fun x j => x = 152 ∧ 456 * k ≤ j ∧ j < 456 * k + 456) b1 (fm b1 152 (456 * k + 0) (456 * k + 456) (fun j => s32 (b1 150 (j - 456 * k)))) := (Fr.rf _ _).fl fun j q1 q2 => ⟨rfl, by omega, by omega⟩
    have v1 : ∀ j, 0 ≤ j → j < 456 → (fm b1 152 (456 * k + 0) (456 * k + 456) (fun j => s32 (b1 150 (j - 456 * k)))) 152 (456 * k + j) = s32 (b1 150 j) := fun j q1 q2 => by
      rw [fm_i (by omega) (by omega)]
      congr 2
      omega
    revert F1 v1
    generalize fm b1 152 (456 * k + 0) (456 * k + 456) (fun j => s32 (b1 150 (j - 456 * k))) = n1
    intro F1 v1
    have w19 : n1 148 19 = 155 := by rw [F1 _ _ (by omega)]; exact j2
    have w21 : n1 148 21 = 157 := by rw [F1 _ _ (by omega)]; exact j3
    have w22 : n1 148 22 = 158 := by rw [F1 _ _ (by omega)]; exact j4
    rw [B205_51 w19 w21 d]
    dsimp only
    rw [fm_n (b := 148) (by decide), w22, jbst_1]
    have FB' : Fr (fun x j => (x = 152 ∧ 456 * k ≤ j ∧ j < 456 * k + 456) ∨ (x = 157 ∧ 16 * k ≤ j ∧ j < 16 * k + 16) ∨ (x = 158 ∧ j = k)) b1 (mu (fm n1 157 (16 * k + 0) (16 * k + 16) (fun j => n1 155 (j - 16 * k))) 158 k 1) := by
      have F1' : Fr (fun x j => (x = 152 ∧ 456 * k ≤ j ∧ j < 456 * k + 456) ∨ (x = 157 ∧ 16 * k ≤ j ∧ j < 16 * k + 16) ∨ (x = 158 ∧ j = k)) b1 n1 := F1.mo fun x j q => Or.inl q
      have F2' : Fr (fun x j => (x = 152 ∧ 456 * k ≤ j ∧ j < 456 * k + 456) ∨ (x = 157 ∧ 16 * k ≤ j ∧ j < 16 * k + 16) ∨ (x = 158 ∧ j = k)) b1 (fm n1 157 (16 * k + 0) (16 * k + 16) (fun j => n1 155 (j - 16 * k))) := F1'.fl (fun j q1 q2 => Or.inr (Or.inl ⟨rfl, by omega, by omega⟩))
      exact F2'.mu (Or.inr (Or.inr ⟨rfl, rfl⟩))
    have vb1 : ∀ j, 0 ≤ j → j < 456 → (mu (fm n1 157 (16 * k + 0) (16 * k + 16) (fun j => n1 155 (j - 16 * k))) 158 k 1) 152 (456 * k + j) = s32 (b1 150 j) := fun j q1 q2 => by rw [mu_a (by decide), fm_n (by decide)]; exact v1 j q1 q2
    have vb2 : ∀ j, 0 ≤ j → j < 16 → (mu (fm n1 157 (16 * k + 0) (16 * k + 16) (fun j => n1 155 (j - 16 * k))) 158 k 1) 157 (16 * k + j) = b1 155 j := fun j q1 q2 => by
      rw [mu_a (by decide), fm_i (by omega) (by omega), F1 155 _ (by omega)]
      congr 1
      omega
    have vb3 : (mu (fm n1 157 (16 * k + 0) (16 * k + 16) (fun j => n1 155 (j - 16 * k))) 158 k 1) 158 k = 1 := mu_s _ _ _ _
    revert FB' vb1 vb2 vb3
    generalize mu (fm n1 157 (16 * k + 0) (16 * k + 16) (fun j => n1 155 (j - 16 * k))) 158 k 1 = b'
    intro FB' vb1 vb2 vb3
    clear v1 F1 w19 w21 w22
    -- the class
    unfold g57
    rw [d1, d2, i1]
    obtain ⟨f1, f2, f3⟩ := c67 (m := a) (x := 111 + 19 * k) (y := 3) i4 y1 (by omega)
    have fr1 : ∀ x j, x < 111 + 19 * k ∨ 116 + 19 * k < x ∨ (x = 111 + 19 * k ∧ j < 5) → (g67 a (111 + 19 * k) 3) x j = a x j := fun x j q => f1 x j (by unfold PRo; omega)
    revert f2 f3 fr1
    clear f1
    generalize g67 a (111 + 19 * k) 3 = m1
    intro f2 f3 fr1
    have t1 : m1 (110 + 19 * k) 1 = 122 + 19 * k := by rw [fr1 _ _ (by omega)]; exact i2
    rw [t1]
    have z5 : LSt m1 (122 + 19 * k) := LSt_fr i5 fun j _ _ => fr1 _ _ (by omega)
    have z2 : LSt m1 15 := LSt_fr y2 fun j _ _ => fr1 _ _ (by omega)
    obtain ⟨g1, ⟨g2, g3⟩, g4, g5, g6⟩ := c113 (m := m1) (x := 122 + 19 * k) (y := 15) z5 z2 (by omega)
    have fr2 : ∀ x j, x < 122 + 19 * k ∨ 128 + 19 * k < x ∨ (x = 122 + 19 * k ∧ j < 7) → (g113 m1 (122 + 19 * k) 15) x j = m1 x j := fun x j q => g1 x j (by unfold PSt; omega)
    revert g2 g3 g4 g5 g6 fr2
    clear g1
    generalize g113 m1 (122 + 19 * k) 15 = m2
    intro g2 g3 g4 g5 g6 fr2
    have t2 : m2 (110 + 19 * k) 2 = 117 + 19 * k := by rw [fr2 _ _ (by omega), fr1 _ _ (by omega)]; exact i3
    rw [t2]
    have z6 : LSe m2 (117 + 19 * k) := LSe_fr i6 fun j _ _ => by rw [fr2 _ _ (by omega), fr1 _ _ (by omega)]
    have z7 : LSe m2 (a 0 11) := by
      have fe : ∀ x j, (x = 100 ∨ x = 105 ∨ x = 117 ∨ x = 136) → m2 x j = a x j := fun x j q => by rw [fr2 _ _ (by omega), fr1 _ _ (by omega)]
      rcases h11 with q | q | q | q <;> rw [q]
      · exact LSe_fr hI.2.2.1 fun j _ _ => fe _ _ (by omega)
      · exact LSe_fr hI.2.2.2.1 fun j _ _ => fe _ _ (by omega)
      · exact LSe_fr (hI.2.1 0 (by decide) (by decide)).2.2.2.2.2 fun j _ _ => fe _ _ (by omega)
      · exact LSe_fr (hI.2.1 1 (by decide) (by decide)).2.2.2.2.2 fun j _ _ => fe _ _ (by omega)
    have h4 := E0.2.2.1
    obtain ⟨s1, ⟨s2, s3⟩, s4⟩ := c88 (m := m2) (x := 117 + 19 * k) (y := a 0 11) z6 z7 (by omega)
    have e2x : ∀ x j, (x < 111 + 19 * k ∨ 128 + 19 * k < x) ∨ (117 + 19 * k ≤ x ∧ x < 122 + 19 * k) → m2 x j = a x j := fun x j q => by rw [fr2 _ _ (by omega), fr1 _ _ (by omega)]
    have fr3 : ∀ x j, ¬ (x = 110 + 19 * k ∧ j = 3) → (mu (g88 m2 (117 + 19 * k) (a 0 11)) (110 + 19 * k) 3 1) x j = (g88 m2 (117 + 19 * k) (a 0 11)) x j := fun x j c => if_neg c
    have ea : ∀ x j, x < 110 + 19 * k ∨ 128 + 19 * k < x → (mu (g88 m2 (117 + 19 * k) (a 0 11)) (110 + 19 * k) 3 1) x j = a x j := fun x j q => by rw [fr3 _ _ (by omega), s1 _ _ (by unfold PSe; omega), e2x _ _ (by omega)]
    have ec4 : ∀ j, j = 4 ∨ j = 5 → (mu (g88 m2 (117 + 19 * k) (a 0 11)) (110 + 19 * k) 3 1) (117 + 19 * k) j = a (a 0 11) j := fun j q => by
      rw [fr3 _ _ (by omega)]
      rcases q with rfl | rfl
      · rw [s2]; exact e2x _ _ (by omega)
      · rw [s3]; exact e2x _ _ (by omega)
    have eci : ∀ i j, 1 ≤ i → i ≤ 3 → 0 ≤ j → j < 40 → (mu (g88 m2 (117 + 19 * k) (a 0 11)) (110 + 19 * k) 3 1) (117 + 19 * k + i) j = a (a 0 11 + i) j := fun i j i1 i2 j1 j2 => by
      rw [fr3 _ _ (by omega), s4 i j i1 i2 j1 j2]; exact e2x _ _ (by omega)
    revert ea ec4 eci
    clear fr3 s1 s2 s3 s4
    generalize mu (g88 m2 (117 + 19 * k) (a 0 11)) (110 + 19 * k) 3 1 = a'
    intro ea ec4 eci
    obtain ⟨⟨x1, x2⟩, x3, -, x5, x6⟩ := E0
    have eb : ∀ x j, x ≠ 152 → x ≠ 157 → x ≠ 158 → b' x j = b1 x j := fun x j q1 q2 q3 => FB' x j (by omega)
    refine ⟨⟨(ea _ _ (by omega)).trans x1, (ea _ _ (by omega)).trans x2⟩, (eb _ _ (by decide) (by decide) (by decide)).trans x3, ?_, ?_, fun i i0 i1' hk => ?_⟩
    · rw [ea 0 11 (by omega), ea 0 12 (by omega)]; exact h4
    · rw [ea 0 11 (by omega)]
      exact x5.of (ea _ _ (by omega)) (ea _ _ (by omega)) (fun j _ _ => ⟨ea _ _ (by omega), ea _ _ (by omega), ea _ _ (by omega)⟩) (fun j _ _ => eb _ _ (by decide) (by decide) (by decide)) (eb _ _ (by decide) (by decide) (by decide)) (eb _ _ (by decide) (by decide) (by decide))
    · by_cases q : i = k
      · subst q
        have vb : ∀ j, 0 ≤ j → j < 456 → b' 152 (456 * i + j) = b1 150 j := fun j j0 j1 => (vb1 j j0 j1).trans (h151 j j0 j1)
        refine x5.of (ec4 5 (by omega)) (ec4 4 (by omega)) (fun j j0 j1 => ⟨eci 1 j (by decide) (by decide) j0 j1, eci 2 j (by decide) (by decide) j0 j1, eci 3 j (by decide) (by decide) j0 j1⟩) (fun j j0 j1 => ?_) (vb 214 (by decide) (by decide)) (vb 215 (by decide) (by decide))
        have := vb (216 + j) (by omega) (by omega)
        have e : 456 * i + 216 + j = 456 * i + (216 + j) := by omega
        rw [e]; exact this
      · have hk' : b1 158 i ≠ 0 := by rw [← FB' 158 i (by omega)]; exact hk
        exact (x6 i i0 i1' hk').of (ea _ _ (by omega)) (ea _ _ (by omega)) (fun j _ _ => ⟨ea _ _ (by omega), ea _ _ (by omega), ea _ _ (by omega)⟩) (fun j j0 j1 => FB' _ _ (by omega)) (FB' _ _ (by omega)) (FB' _ _ (by omega))
set_option maxRecDepth 16384 in
theorem restore_EX {a b : MM} (h : C2 a b) (hE : EX a b) (h152 : ∀ j, 0 ≤ j → j < 912 → s32 (b 152 j) = b 152 j) (k : Int) : EX (g28 a 0 k) (g265 b 148 k) := by
  have h11 : S11 a := by
    have := hE.2.2.1
    unfold S11
    omega
  have E0 : EX a (mu b 148 0 0) := EX_fr hE (fun _ _ _ _ _ => rfl) (fun q hq j j0 j1 => by
    by_cases c : (q.1 : Int) = 148
    · have : q = (148, 40, 40) := by
        simp only [exLB, List.mem_cons, List.not_mem_nil, or_false] at hq
        rcases hq with rfl | rfl | rfl | rfl | rfl
        · rfl
        · exact absurd c (by decide)
        · exact absurd c (by decide)
        · exact absurd c (by decide)
        · exact absurd c (by decide)
      subst this
      exact mu_k (by have : (40 : Int) ≤ j := j0; omega)
    · exact mu_a c)
  have h151 : ∀ j, 0 ≤ j → j < 912 → s32 ((mu b 148 0 0) 152 j) = (mu b 148 0 0) 152 j := fun j j0 j1 => by rw [mu_a (by decide)]; exact h152 j j0 j1
  clear hE h152
  have h0 : C2 a (mu b 148 0 0) := C2_fr h (fun _ _ _ => rfl) (fun x j q => by
    by_cases c : x = 148
    · rw [c, mu_k (by unfold PJs at q; omega)]
    · rw [mu_a c])
  obtain ⟨-, -, hI, -, -⟩ := h
  unfold g28 g265
  rw [im_ln hI.1.1 hI.1.2.1]
  revert E0 h151 h0
  generalize mu b 148 0 0 = b1
  intro E0 h151 h0
  rcases f209_01 b1 k with ⟨c, d⟩ | ⟨c, d⟩
  · rw [c, if_pos rfl]
    by_cases e : k < 0
    · simp only [if_pos e]; exact E0
    · have e2 : 2 ≤ k := by omega
      simp only [if_neg e, if_pos e2]; exact E0
  · rw [c, if_neg n10]
    have e : ¬ k < 0 := by omega
    have e2 : ¬ 2 ≤ k := by omega
    simp only [if_neg e, if_neg e2]
    have k0 : 0 ≤ k := by omega
    have k1 : k < 2 := by omega
    rw [im_el hI k0 k1]
    have h0' := h0
    obtain ⟨⟨⟨d1, d2, d3, d4⟩, hS, hU⟩, hN, -, ⟨j1, j2, j3, j4⟩, hK⟩ := h0
    obtain ⟨i1, i2, i3, i4, i5, i6⟩ := hI.2.1 k k0 k1
    obtain ⟨w1, w2⟩ := hK k k0 k1
    rw [j4, w1]
    by_cases w : b1 158 k = 0
    · simp only [if_pos w]
      exact E0
    · simp only [if_neg w]
      rcases w2 with w2 | ⟨wr, wn, ws⟩
      · exact absurd w2 w
      have hS' := hS
      obtain ⟨⟨y1, y2, y3, y4, y5, y6, y7⟩, r, n⟩ := hS
      -- the reference
      rw [B265_27 y4 j1 d]
      dsimp only
      have F1 : Fr (fun x j => x = 150 ∧ 0 ≤ j ∧ j < 456) b1 (fm b1 150 (0 + 0) (0 + 456) (fun j => s32 (b1 152 (456 * k + j)))) := (Fr.rf _ _).fl fun j q1 q2 => ⟨rfl, by omega, by omega⟩
      have v1 : ∀ j, 0 ≤ j → j < 456 → (fm b1 150 (0 + 0) (0 + 456) (fun j => s32 (b1 152 (456 * k + j)))) 150 j = s32 (b1 152 (456 * k + j)) := fun j q1 q2 => fm_i (by omega) (by omega)
      revert F1 v1
      generalize fm b1 150 (0 + 0) (0 + 456) (fun j => s32 (b1 152 (456 * k + j))) = n1
      intro F1 v1
      have w19 : n1 148 19 = 155 := by rw [F1 _ _ (by omega)]; exact j2
      have w21 : n1 148 21 = 157 := by rw [F1 _ _ (by omega)]; exact j3
      rw [B265_60 w19 w21 d]
      dsimp only
      have FB' : Fr (fun x j => (x = 150 ∧ 0 ≤ j ∧ j < 456) ∨ (x = 155 ∧ 0 ≤ j ∧ j < 16) ∨ (x = 148 ∧ j = 23)) b1 (mu (fm n1 155 (0 + 0) (0 + 16) (fun j => n1 157 (16 * k + j))) 148 23 0) := by
        have F1' : Fr (fun x j => (x = 150 ∧ 0 ≤ j ∧ j < 456) ∨ (x = 155 ∧ 0 ≤ j ∧ j < 16) ∨ (x = 148 ∧ j = 23)) b1 n1 := F1.mo fun x j q => Or.inl q
        have F2' : Fr (fun x j => (x = 150 ∧ 0 ≤ j ∧ j < 456) ∨ (x = 155 ∧ 0 ≤ j ∧ j < 16) ∨ (x = 148 ∧ j = 23)) b1 (fm n1 155 (0 + 0) (0 + 16) (fun j => n1 157 (16 * k + j))) := F1'.fl (fun j q1 q2 => Or.inr (Or.inl ⟨rfl, by omega, by omega⟩))
        exact F2'.mu (Or.inr (Or.inr ⟨rfl, rfl⟩))
      have vb1 : ∀ j, 0 ≤ j → j < 456 → (mu (fm n1 155 (0 + 0) (0 + 16) (fun j => n1 157 (16 * k + j))) 148 23 0) 150 j = s32 (b1 152 (456 * k + j)) := fun j q1 q2 => by rw [mu_a (by decide), fm_n (by decide)]; exact v1 j q1 q2
      have vb2 : ∀ j, 0 ≤ j → j < 16 → (mu (fm n1 155 (0 + 0) (0 + 16) (fun j => n1 157 (16 * k + j))) 148 23 0) 155 j = b1 157 (16 * k + j) := fun j q1 q2 => by
        rw [mu_a (by decide), fm_i (by omega) (by omega), F1 157 _ (by omega)]
      have vb3 : (mu (fm n1 155 (0 + 0) (0 + 16) (fun j => n1 157 (16 * k + j))) 148 23 0) 148 23 = 0 := mu_s _ _ _ _
      revert FB' vb1 vb2 vb3
      generalize mu (fm n1 155 (0 + 0) (0 + 16) (fun j => n1 157 (16 * k + j))) 148 23 0 = b'
      intro FB' vb1 vb2 vb3
      clear v1 F1 w19 w21
      -- the class
      rw [d1, i1]
      obtain ⟨f1, f2, f3⟩ := c67 (m := a) (x := 3) (y := 111 + 19 * k) y1 i4 (by omega)
      have fr1 : ∀ x j, (x < 3 ∨ 8 < x ∨ (x = 3 ∧ j < 5)) → (g67 a 3 (111 + 19 * k)) x j = a x j := fun x j q => f1 x j (by unfold PRo; omega)
      revert f2 f3 fr1
      clear f1
      generalize g67 a 3 (111 + 19 * k) = m1
      intro f2 f3 fr1
      have hI1 : LayI m1 := LayI_fr hI fun x j q => fr1 x j (by omega)
      have t1 : m1 (110 + 19 * k) 1 = 122 + 19 * k := by rw [fr1 _ _ (by omega)]; exact i2
      have t3 : m1 0 3 = 15 := by rw [fr1 _ _ (by omega)]; exact d2
      rw [im_el hI1 k0 k1, t1, t3]
      have z5 : LSt m1 (122 + 19 * k) := LSt_fr i5 fun j _ _ => fr1 _ _ (by omega)
      have z2 : LSt m1 15 := LSt_fr y2 fun j _ _ => fr1 _ _ (by omega)
      obtain ⟨g1, ⟨g2, g3⟩, g4, g5, g6⟩ := c113 (m := m1) (x := 15) (y := 122 + 19 * k) z2 z5 (by omega)
      have fr2 : ∀ x j, (x < 15 ∨ 21 < x ∨ (x = 15 ∧ j < 7) ∨ j < 0) → (g113 m1 15 (122 + 19 * k)) x j = m1 x j := fun x j q => g1 x j (by unfold PSt; omega)
      revert g2 g3 g4 g5 g6 fr2
      clear g1
      generalize g113 m1 15 (122 + 19 * k) = m2
      intro g2 g3 g4 g5 g6 fr2
      have hI2 : LayI m2 := LayI_fr hI1 fun x j q => fr2 x j (by omega)
      have t2 : m2 (110 + 19 * k) 2 = 117 + 19 * k := by rw [fr2 _ _ (by omega), fr1 _ _ (by omega)]; exact i3
      rw [im_el hI2 k0 k1, t2]
      have z6 : LSe m2 (117 + 19 * k) := LSe_fr i6 fun j _ _ => by rw [fr2 _ _ (by omega), fr1 _ _ (by omega)]
      have t11 : m2 0 11 = a 0 11 := by rw [fr2 _ _ (by omega), fr1 _ _ (by omega)]
      have z7 : LSe m2 (m2 0 11) := by
        rw [t11]
        rcases h11 with q | q | q | q <;> rw [q]
        · exact hI2.2.2.1
        · exact hI2.2.2.2.1
        · exact (hI2.2.1 0 (by decide) (by decide)).2.2.2.2.2
        · exact (hI2.2.1 1 (by decide) (by decide)).2.2.2.2.2
      have h11' : m2 0 11 = 100 ∨ m2 0 11 = 105 ∨ m2 0 11 = 117 ∨ m2 0 11 = 136 := by rw [t11]; exact h11
      have h4 := E0.2.2.1
      rw [t11]
      rw [t11] at z7
      obtain ⟨s1, ⟨s2, s3⟩, s4⟩ := c88 (m := m2) (x := a 0 11) (y := 117 + 19 * k) z7 z6 (by omega)
      have s5 : (g88 m2 (a 0 11) (117 + 19 * k)) 0 5 = 29 := by rw [s1 _ _ (by unfold PSe; omega), fr2 _ _ (by omega), fr1 _ _ (by omega)]; exact d3
      unfold g161
      rw [s5]
      have e2x : ∀ x j, x < 3 ∨ (8 < x ∧ x < 15) ∨ 21 < x → m2 x j = a x j := fun x j q => by rw [fr2 _ _ (by omega), fr1 _ _ (by omega)]
      have fr3 : ∀ x j, ¬ (x = 29 ∧ j = 2) → (mu (g88 m2 (a 0 11) (117 + 19 * k)) 29 2 0) x j = (g88 m2 (a 0 11) (117 + 19 * k)) x j := fun x j c => if_neg c
      have ea : ∀ x j, ¬ PSe (a 0 11) x j → x < 3 ∨ 29 < x → (mu (g88 m2 (a 0 11) (117 + 19 * k)) 29 2 0) x j = a x j := fun x j q q2 => by rw [fr3 _ _ (by omega), s1 _ _ q, e2x _ _ (by omega)]
      have ec4 : ∀ j, j = 4 ∨ j = 5 → (mu (g88 m2 (a 0 11) (117 + 19 * k)) 29 2 0) (a 0 11) j = a (117 + 19 * k) j := fun j q => by
        rw [fr3 _ _ (by omega)]
        rcases q with rfl | rfl
        · rw [s2]; exact e2x _ _ (by omega)
        · rw [s3]; exact e2x _ _ (by omega)
      have eci : ∀ i j, 1 ≤ i → i ≤ 3 → 0 ≤ j → j < 40 → (mu (g88 m2 (a 0 11) (117 + 19 * k)) 29 2 0) (a 0 11 + i) j = a (117 + 19 * k + i) j := fun i j i1 i2 j1 j2 => by
        rw [fr3 _ _ (by omega), s4 i j i1 i2 j1 j2]; exact e2x _ _ (by omega)
      revert ea ec4 eci
      clear fr3 s1 s2 s3 s4 s5
      generalize mu (g88 m2 (a 0 11) (117 + 19 * k)) 29 2 0 = a'
      intro ea ec4 eci
      obtain ⟨⟨x1, x2⟩, x3, -, x5, x6⟩ := E0
      have ey := x6 k k0 k1 w
      refine ⟨⟨(ea _ _ (by unfold PSe; omega) (by omega)).trans x1, (ea _ _ (by unfold PSe; omega) (by omega)).trans x2⟩, (FB' _ _ (by omega)).trans x3, ?_, ?_, fun i i0 i1' hk => ?_⟩
      · rw [ea 0 11 (by unfold PSe; omega) (by omega), ea 0 12 (by unfold PSe; omega) (by omega)]; exact h4
      · rw [ea 0 11 (by unfold PSe; omega) (by omega)]
        have vb : ∀ j, 0 ≤ j → j < 456 → b' 150 j = b1 152 (456 * k + j) := fun j j0 j1 => (vb1 j j0 j1).trans (h151 _ (by omega) (by omega))
        refine ey.of (ec4 5 (by omega)) (ec4 4 (by omega)) (fun j j0 j1 => ⟨eci 1 j (by decide) (by decide) j0 j1, eci 2 j (by decide) (by decide) j0 j1, eci 3 j (by decide) (by decide) j0 j1⟩) (fun j j0 j1 => ?_) (vb 214 (by decide) (by decide)) (vb 215 (by decide) (by decide))
        have := vb (216 + j) (by omega) (by omega)
        have e : 456 * k + 216 + j = 456 * k + (216 + j) := by omega
        rw [e]; exact this
      · have hk' : b1 158 i ≠ 0 := by rw [← FB' 158 i (by omega)]; exact hk
        have np : ∀ i2 j, 0 ≤ i2 → i2 ≤ 3 → ¬ PSe (a 0 11) (117 + 19 * i + i2) j := fun i2 j q1 q2 => by unfold PSe; omega
        have np0 : ∀ j, ¬ PSe (a 0 11) (117 + 19 * i) j := fun j => by unfold PSe; omega
        exact (x6 i i0 i1' hk').of (ea _ _ (np0 _) (by omega)) (ea _ _ (np0 _) (by omega)) (fun j _ _ => ⟨ea _ _ (np 1 _ (by decide) (by decide)) (by omega), ea _ _ (np 2 _ (by decide) (by decide)) (by omega), ea _ _ (np 3 _ (by decide) (by decide)) (by omega)⟩) (fun j j0 j1 => FB' _ _ (by omega)) (FB' _ _ (by omega)) (FB' _ _ (by omega))
set_option maxRecDepth 16384 in
theorem Nall {w : KW} (h : kTW qEnv w) (A L : Nat) (hA : A < 168) (hL : (qEnv.2.2 (qEnv.2.1 A)).1.2.2 = L) (key : (List.range L).all (fun n => Nat.beq (ksg (qEnv.2.2 (qEnv.2.1 A)).2 n).1 0) = true) {k : Int} (k0 : 0 ≤ k) (k1 : k < (L : Int)) : s32 (wm zr w (A : Int) k) = wm zr w (A : Int) k := by
  obtain ⟨n, rfl⟩ : ∃ n : Nat, k = (n : Int) := ⟨k.toNat, by omega⟩
  have hn : n < L := by omega
  have e := kb_t (List.all_eq_true.mp key n (List.mem_range.mpr hn))
  exact (kTW_int h (a := A) (k := n) (lo := (ksg (qEnv.2.2 (qEnv.2.1 A)).2 n).2.1) (hi := (ksg (qEnv.2.2 (qEnv.2.1 A)).2 n).2.2) hA (by omega) (Prod.ext e rfl)).2.2
set_option maxRecDepth 16384 in
theorem N150 {w : KW} (h : kTW qEnv w) {k : Int} (k0 : 0 ≤ k) (k1 : k < 456) : s32 (wm zr w 150 k) = wm zr w 150 k := Nall h 150 456 (by decide) rfl (by decide +kernel) k0 k1
set_option maxRecDepth 16384 in
theorem N152 {w : KW} (h : kTW qEnv w) {k : Int} (k0 : 0 ≤ k) (k1 : k < 912) : s32 (wm zr w 152 k) = wm zr w 152 k := Nall h 152 912 (by decide) rfl (by decide +kernel) k0 k1
set_option maxRecDepth 16384 in
theorem hpE_image (X : KO) {xs : List Int32} {i u : Int} : HPF X xs i u 18 205 [3] := fun wa wa' wb wb' rl rl' hP hE ra rb => by
  refine ⟨hp_image X wa wa' wb wb' rl rl' hP ra rb, ?_⟩
  obtain ⟨-, -, hb, -, -, -, hC, -⟩ := hP
  have ra : Run X zr 18 [(1, 0), ivx xs i u 3] (wm zr wa) rl (wm zr wa') := ra
  have rb : Run X zr 205 [(1, 148), ivx xs i u 3] (wm zr wb) rl' (wm zr wb') := rb
  rw [(d18 ra).2, (d205 rb).2]
  exact image_EX hC hE (fun j j0 j1 => N150 hb j0 j1) _
set_option maxRecDepth 16384 in
theorem hpE_restore (X : KO) {xs : List Int32} {i u : Int} : HPF X xs i u 28 265 [3] := fun wa wa' wb wb' rl rl' hP hE ra rb => by
  refine ⟨hp_restore X wa wa' wb wb' rl rl' hP ra rb, ?_⟩
  obtain ⟨-, -, hb, -, -, -, hC, -⟩ := hP
  have ra : Run X zr 28 [(1, 0), ivx xs i u 3] (wm zr wa) rl (wm zr wa') := ra
  have rb : Run X zr 265 [(1, 148), ivx xs i u 3] (wm zr wb) rl' (wm zr wb') := rb
  rw [(d28 ra).2, (d265 rb).2]
  exact restore_EX hC hE (fun j j0 j1 => N152 hb j0 j1) _
set_option maxRecDepth 16384 in
theorem off_cls5 {X : KO} {ρ : Nat → Int32} {y m9 m12 m15 a' : MM} (h1 : y 0 1 = 3) (h2 : y 0 2 = 9) (h3 : y 0 3 = 15) (h4 : y 0 4 = 22) (h5 : y 0 5 = 29) (h11 : S11 y) (l3 : LRo y 3) (l9 : LRo y 9) (s15 : LSt y 15) (s22 : LSt y 22) (r9 : Run X ρ 67 [(1, y 0 1), (1, y 0 2)] y [] m9) (r12 : Run X ρ 113 [(1, m9 0 3), (1, m9 0 4)] m9 [] m12) (r15 : Run X ρ 89 [(1, m12 0 11)] m12 [] m15) (r18 : Run X ρ 161 [(1, m15 0 5)] m15 [] a') : a' (y 0 11) 5 = 0 ∧ ∀ x k, 30 ≤ x → ¬ (x = y 0 11 ∧ (k = 4 ∨ k = 5)) → a' x k = y x k := by
  rw [h1, h2] at r9
  obtain ⟨-, F9, -, -⟩ := A67 l3 l9 (by decide) r9
  have e9 : ∀ x k, x < 3 ∨ 8 < x ∨ (x = 3 ∧ k < 5) → m9 x k = y x k := fun x k q => F9 x k (by unfold PRo; omega)
  rw [e9 0 3 (by omega), e9 0 4 (by omega), h3, h4] at r12
  have t15 : LSt m9 15 := LSt_fr s15 fun k _ _ => e9 _ _ (by omega)
  have t22 : LSt m9 22 := LSt_fr s22 fun k _ _ => e9 _ _ (by omega)
  obtain ⟨-, F12, -, -, -, -⟩ := A113 t15 t22 (by decide) r12
  have e12 : ∀ x k, x < 15 ∨ 21 < x ∨ (x = 15 ∧ k < 7) → m12 x k = m9 x k := fun x k q => F12 x k (by unfold PSt; omega)
  rw [e12 0 11 (by omega), e9 0 11 (by omega)] at r15
  obtain ⟨-, q15⟩ := d89 r15
  have h11 : y 0 11 = 100 ∨ y 0 11 = 105 ∨ y 0 11 = 117 ∨ y 0 11 = 136 := h11
  have e15 : ∀ x k, ¬ (x = y 0 11 ∧ (k = 4 ∨ k = 5)) → m15 x k = m12 x k := fun x k q => by
    rw [q15]
    unfold g89
    by_cases c : x = y 0 11
    · rw [mu_k (by omega), mu_k (by omega)]
    · rw [mu_a c, mu_a c]
  rw [e15 0 5 (by omega), e12 0 5 (by omega), e9 0 5 (by omega), h5] at r18
  obtain ⟨-, q18⟩ := d161 r18
  have q18 : a' = mu m15 29 2 0 := q18
  have e18 : ∀ x k, ¬ (x = 29 ∧ k = 2) → a' x k = m15 x k := fun x k q => by
    rw [q18]
    exact if_neg q
  refine ⟨?_, fun x k x0 hn => ?_⟩
  · rw [e18 _ _ (by omega), q15]
    unfold g89
    exact mu_s _ _ _ _
  · rw [e18 x k (by omega), e15 x k hn, e12 x k (by omega), e9 x k (by omega)]
set_option maxRecDepth 16384 in
theorem EX_keep {a y b b2 : MM} (h : EX a b) (F : ∀ x k, ¬ VA2 x k → ¬ (x = 0 ∧ k = 13) → x ≠ 1 → y x k = a x k) (G : Fr VB2 b b2) : EX y b2 := by
  have k1 : ∀ q ∈ exLA, (q.1 = 0 ∧ q.2.1 = 11 ∧ q.2.2 = 12) ∨ (100 ≤ q.1 ∧ q.1 ≤ 139) := by decide
  have k2 : ∀ q ∈ exLB, (q.1 = 148 ∧ q.2.1 = 40 ∧ q.2.2 = 40) ∨ q.1 = 150 ∨ q.1 = 152 ∨ q.1 = 158 := by decide
  refine EX_fr h (fun q hq k k0 k1' => ?_) (fun q hq k k0 k1' => ?_)
  · have c := k1 q hq
    refine F _ _ (fun w => ?_) (by omega) (by omega)
    unfold VA2 at w
    omega
  · have c := k2 q hq
    refine G _ _ (fun w => ?_)
    have w : ((q.1 : Int) = 148 ∧ 0 ≤ k ∧ k ≤ 13) ∨ ((q.1 : Int) = 148 ∧ k = 24) ∨ (((q.1 : Int) = 151 ∨ (q.1 : Int) = 156) ∧ 0 ≤ k) := w
    omega
set_option maxRecDepth 16384 in
theorem office_EX {X : KO} {ρ : Nat → Int32} {a a' b b' : MM} {rl rl' : List (Nat × Int)} {L : Int} (hX : XW X) (hS : XS X) (h : C2 a b) (h11 : S11 a) (hA : OffA a) (hB : OffB b) (hT : TapeR a b L) (ra : Run X ρ 25 [(1, 0)] a rl a') (rb : Run X ρ 230 [(1, 148)] b rl' b') (hE : EX a b) : EX a' b' := by
  have hA' := hA
  obtain ⟨z0, z2, z4, -, -, ⟨q0, q1, q2, q3, q4, -⟩, -⟩ := hA
  obtain ⟨N, ig, ra⟩ := Run_CR ra rfl
  have ra : MR X ρ 2 0 0 qP25 N 0 [0, 0] [] a (ig, rl, a') := ra
  obtain ⟨M, ig', rb⟩ := Run_CR rb rfl
  have rb : MR X ρ 3 0 0 qP230 M 0 [148, 0, 0] [] b (ig', rl', b') := rb
  obtain ⟨v4, m2, r83, y5, e5, y6, e6, A⟩ := q25_0 ra
  rw [z0, z2, z4] at r83
  have key : Fr VA2 a m2 → (∀ x k, ¬ (x = 0 ∧ k = 13) → ¬ (x = 1 ∧ k = 1) → y6 x k = m2 x k) ∧ y6 0 13 = m2 1 9 := fun F => by
    have x0 : m2 0 0 = 1 := by rw [F 0 0 (by unfold VA2; omega)]; exact z0
    rw [x0] at e5
    have x5 : y5 0 0 = 1 := by rw [e5, mu_k (by decide)]; exact x0
    rw [x5] at e6
    refine ⟨fun x k n1 n2 => ?_, ?_⟩
    · rw [e6]
      have t : mu y5 1 1 0 x k = y5 x k := if_neg n2
      rw [t, e5]
      exact if_neg n1
    · rw [e6, mu_a (by decide), e5, mu_s]
  have fr6 : Fr VA2 a m2 → ∀ x k, ¬ VA2 x k → ¬ (x = 0 ∧ k = 13) → x ≠ 1 → y6 x k = a x k := fun F x k n1 n2 n3 => by
    rw [(key F).1 x k n2 (by omega)]
    exact F x k n1
  rcases text_ok2 hX hS hA' hB hT r83 rb with ⟨p1, p2, p3, p4, p5⟩ | ⟨k, M', b2, p1, p2, p3, p4, p5, p6, p7, p8⟩
  · have p5 : Fr VB2 b b' := p5
    obtain ⟨d1, -, d3⟩ := p2
    rcases A with ⟨c, _⟩ | ⟨_, A⟩
    · rw [(key p4).2] at c
      exact absurd c d3
    · have A : a' = y6 := congrArg (fun z => z.2.2) A
      rw [A]
      exact EX_keep hE (fr6 p4) p5
  · have hst : y6 0 13 = 0 := by rw [(key p4).2]; exact p2.2.2.1
    rcases A with ⟨_, m9, r9, m12, r12, m15, r15, m18, r18, A⟩ | ⟨c, _⟩
    · have A : a' = m18 := congrArg (fun z => z.2.2) A
      subst A
      have hE6 : EX y6 b2 := EX_keep hE (fr6 p4) p5
      have hc := off_fr (fr6 p4) p5 h
      obtain ⟨⟨⟨d1, d2, d3, d4⟩, hS6, hU⟩, hN, hI, hJ, hK⟩ := hc
      obtain ⟨j1, j2, j3, j4⟩ := hJ
      obtain ⟨i6, i7, i8, i9⟩ := hI.2.2.2
      have t0 : ∀ x k, (x = 9 ∧ 0 ≤ k ∧ k < 5) ∨ (x = 0 ∧ k ≠ 13) → y6 x k = a x k := fun x k q => fr6 p4 x k (by unfold VA2; omega) (by omega) (by omega)
      have l9 : LRo y6 9 := by
        refine ⟨?_, ?_, ?_, ?_, ?_⟩ <;> rw [t0 _ _ (by omega)] <;> assumption
      have t11 : S11 y6 := by unfold S11; rw [t0 0 11 (by omega)]; exact h11
      obtain ⟨⟨y1, y2, y3, y4, y7, y8, y9⟩, -, -⟩ := hS6
      obtain ⟨o1, -⟩ := off_cls d1 (by rw [t0 _ _ (by omega)]; exact z2) d2 d4 d3 t11 y1 l9 y2 i7 r9 r12 r15 r18
      obtain ⟨u1, u2⟩ := off_cls5 d1 (by rw [t0 _ _ (by omega)]; exact z2) d2 d4 d3 t11 y1 l9 y2 i7 r9 r12 r15 r18
      have w15 : b2 148 15 = 151 := p2.2.1.2.1.1
      have w20 : b2 148 20 = 156 := p2.2.1.2.1.2
      obtain ⟨m1, -, eb, F1, v1, v2⟩ := B230_tail y4 w15 j2 w20 p3
      have eb : b' = mu (g280 m1 148) 148 23 0 := eb
      have w14 : m1 148 14 = 150 := by rw [F1 148 14 (by omega)]; exact y4
      obtain ⟨x1, -⟩ := off_mod w14 F1 v1 v2
      rw [← eb] at x1
      have x214 : b' 150 214 = 0 := by
        rw [eb, mu_a (by decide)]
        exact (g280_ok w14).2.2.2.2.2.2 214 (by decide) (by decide)
      obtain ⟨⟨e1, e2⟩, e3, e4, -, e6⟩ := hE6
      have hs : y6 0 11 = 100 ∨ y6 0 11 = 105 := by omega
      have o11 : a' 0 11 = y6 0 11 := o1 0 11 (by unfold Pof PRo PSt; omega)
      have o12 : a' 0 12 = y6 0 12 := o1 0 12 (by unfold Pof PRo PSt; omega)
      refine ⟨⟨(u2 100 3 (by decide) (by omega)).trans e1, (u2 105 3 (by decide) (by omega)).trans e2⟩, (x1 148 40 (by omega)).trans e3, ?_, ?_, fun k k0 k1 hk => ?_⟩
      · rw [o11, o12]; exact e4
      · rw [o11]; exact Or.inl ⟨x214, u1⟩
      · rw [x1 158 k (by omega)] at hk
        exact (e6 k k0 k1 hk).of (u2 _ _ (by omega) (by omega)) (u2 _ _ (by omega) (by omega)) (fun j j0 j1 => ⟨u2 _ _ (by omega) (by omega), u2 _ _ (by omega) (by omega), u2 _ _ (by omega) (by omega)⟩) (fun j j0 j1 => x1 _ _ (by omega)) (x1 _ _ (by omega)) (x1 _ _ (by omega))
    · exact absurd hst c
set_option maxRecDepth 16384 in
theorem hpE_office (X : KO) (hXW : XW X) (hXS : XS X) {xs : List Int32} {i u : Int} : HPF X xs i u 25 230 [] := fun wa wa' wb wb' rl rl' hP hE ra rb => by
  refine ⟨hp_office X hXW hXS wa wa' wb wb' rl rl' hP ra rb, ?_⟩
  obtain ⟨ha, -, hb, -, hL, -, hC, hT⟩ := hP
  have ra : Run X zr 25 [(1, 0)] (wm zr wa) rl (wm zr wa') := ra
  have rb : Run X zr 230 [(1, 148)] (wm zr wb) rl' (wm zr wb') := rb
  exact office_EX hXW hXS hC (S11_of ha) (OffA_of ha hL) (OffB_of hb) hT ra rb hE
set_option maxRecDepth 16384 in
/-- a book leaves what was said alone -/
theorem book_cls {X : KO} {ρ : Nat → Int32} {a a' b b' : MM} {rl rl' : List (Nat × Int)} {L lv : Int} (hX : XW X) (hS : XS X) (hc : C2 a b) (hl : BLay a b) (hT : TapeR a b L) (t00 : a 0 0 = 1) (t10 : a 0 10 = 96) (t0 : a 1 0 = 2) (t1 : a 2 (-1) = 940) (u1 : b 148 1 = 149) (u18 : b 148 18 = 154) (u37 : b 148 37 = 165) (ra : Run X ρ 3 [(1, 0), (1, lv)] a rl a') (rb : Run X ρ 171 [(1, 148), (1, lv)] b rl' b') : ∀ x k, (100 ≤ x ∨ (x = 0 ∧ (k = 11 ∨ k = 12))) → a' x k = a x k := by
  obtain ⟨N, ig, ra⟩ := Run_CR ra rfl
  have ra : MR X ρ 3 0 0 qP3 N 0 [0, lv, 0] [] a (ig, rl, a') := ra
  obtain ⟨M, ig', rb⟩ := Run_CR rb rfl
  have rb : MR X ρ 4 0 0 qP171 M 0 [148, lv, 0, 0] [] b (ig', rl', b') := rb
  have A := k3_0 ra
  rw [t00, t10, hc.1.1.1] at A
  by_cases hlv : lv = 0 ∨ lv = 1
  · -- read
    have A' : ∃ m3, Run X ρ 55 [(1, 96), (1, 1), (1, 3)] a [] m3 ∧ (∃ y5, y5 = mu m3 0 13 (m3 (m3 0 0) 9) ∧ (∃ y6, y6 = mu y5 (y5 0 0) 1 0 ∧ ((((y6 0 13) = 0) ∧ (∃ y13, y13 = g113 y6 (y6 0 4) (y6 0 3) ∧ (((lv = 0) ∧ (∃ y33, y33 = g47 y13 (y13 0 10) (y13 0 4) ∧ ((ig, rl, a') = ((.ireturn, [(1, f47 y13 (y13 0 10) (y13 0 4))], y33) : Instr × List (Nat × Int) × MM)))) ∨ (¬ (lv = 0) ∧ (∃ y20, y20 = g47 y13 (y13 0 10) (y13 0 3) ∧ ((((y20 (y20 0 10) 6) ≤ 0) ∧ ((ig, rl, a') = ((.ireturn, [(1, f47 y13 (y13 0 10) (y13 0 3))], y20) : Instr × List (Nat × Int) × MM))) ∨ (¬ ((y20 (y20 0 10) 6) ≤ 0) ∧ (∃ y27, y27 = g162 y20 (y20 0 5) (y20 0 4) ∧ ((ig, rl, a') = ((.ireturn, [(1, f47 y13 (y13 0 10) (y13 0 3))], y27) : Instr × List (Nat × Int) × MM)))))))))) ∨ (¬ ((y6 0 13) = 0) ∧ ((ig, rl, a') = ((.ireturn, [(1, s32 ((-2) - (y6 (y6 0 0) 10)))], y6) : Instr × List (Nat × Int) × MM)))))) := by
      rcases A with ⟨-, A⟩ | ⟨c, A⟩
      · exact A
      · rcases A with ⟨-, A⟩ | ⟨d, _⟩
        · exact A
        · omega
    clear A
    obtain ⟨m3, r3, y5, e5, y6, e6, A⟩ := A'
    obtain ⟨fr, R⟩ := readT hX hS hc hl hT t0 t1 u1 hlv r3 rb
    have x00 : m3 0 0 = 1 := by rw [fr 0 0 (by unfold Wa2 WA; omega)]; exact t00
    rw [x00] at e5
    have x5 : y5 0 0 = 1 := by rw [e5, mu_k (by decide)]; exact x00
    rw [x5] at e6
    have f6 : ∀ x k, ¬ (x = 0 ∧ k = 13) → ¬ (x = 1 ∧ k = 1) → y6 x k = m3 x k := fun x k n1 n2 => by
      rw [e6]
      have t : mu y5 1 1 0 x k = y5 x k := if_neg n2
      rw [t, e5]
      exact if_neg n1
    have fr' : ∀ x k, (100 ≤ x ∨ (x = 0 ∧ (k = 11 ∨ k = 12))) → y6 x k = a x k := fun x k q => by
      rw [f6 x k (by omega) (by omega)]
      exact fr x k (by unfold Wa2 WA; omega)
    have z13 : y6 0 13 = m3 1 9 := by rw [e6, mu_a (by decide), e5, mu_s]
    rcases R with ⟨R1, R2, R3⟩ | ⟨M', b1, R1, R2, R3, R4, R5, R6, R7, R8⟩
    · -- a fault
      rcases A with ⟨c, _⟩ | ⟨_, A⟩
      · rw [z13] at c; exact absurd c R1.2.2
      · have A2 : a' = y6 := congrArg (fun z => z.2.2) A
        have A1 : rl = [(1, s32 ((-2) - (y6 (y6 0 0) 10)))] := congrArg (fun z => z.2.1) A
        have R2 : rl' = [(1, s32 (-2 - b' 148 11))] := R2
        rw [A2]
        exact fr'
    · -- read well
      obtain ⟨⟨R1p, R19, R110⟩, hC, hL⟩ := R1
      rcases A with ⟨_, y13, e13, A⟩ | ⟨c, _⟩
      · have w14 := hC.1.2.1.bn
        have w18 : b1 148 18 = 154 := by rw [R7 _ _ (by unfold Wb2; omega)]; exact u18
        have w37 : b1 148 37 = 165 := by rw [R7 _ _ (by unfold Wb2; omega)]; exact u37
        rw [L219_ok w18 w14] at R6
        have Fn : Fr (fun x k => x = 154 ∧ 0 ≤ k) b1 (fm b1 154 (0 + 0) (0 + 122) (fun j => s32 (b1 150 (92 + j)))) := (Fr.rf _ _).fl fun j j0 j1 => ⟨rfl, by omega⟩
        have Vn : ∀ j, 0 ≤ j → j < 122 → (fm b1 154 (0 + 0) (0 + 122) (fun j => s32 (b1 150 (92 + j)))) 154 j = s32 (b1 150 (92 + j)) := fun j j0 j1 => fm_i (by omega) (by omega)
        revert R6 Fn Vn
        generalize fm b1 154 (0 + 0) (0 + 122) (fun j => s32 (b1 150 (92 + j))) = n1
        intro R6 Fn Vn
        have en : ∀ x k, x ≠ 154 → n1 x k = b1 x k := fun x k q => Fn x k (by omega)
        have hC6 : C2 y6 n1 := C2_fr hC (fun x k q => f6 x k (by unfold PCs at q; omega) (by unfold PCs at q; omega)) (fun x k q => en x k (by unfold PJs at q; omega))
        have hL6 : BLay y6 n1 := by
          obtain ⟨⟨q1, q2, q3, q4, q5, q6⟩, q7⟩ := hL
          refine ⟨⟨?_, ?_, ?_, ?_, ?_, ?_⟩, ?_⟩
          · rw [f6 _ _ (by omega) (by omega)]; exact q1
          · rw [f6 _ _ (by omega) (by omega)]; exact q2
          · rw [f6 _ _ (by omega) (by omega)]; exact q3
          · rw [f6 _ _ (by omega) (by omega)]; exact q4
          · rw [f6 _ _ (by omega) (by omega)]; exact q5
          · rw [f6 _ _ (by omega) (by omega)]; exact q6
          · rw [en _ _ (by decide)]; exact q7
        obtain ⟨T1, T2⟩ := trial_ok hC6
        rw [hC6.1.1.2.2.2, hC6.1.1.2.1] at e13
        rw [← e13] at T1 T2
        have p13 : ∀ x k, x < 22 ∨ (x = 22 ∧ k < 7) ∨ 28 < x ∨ k < 0 → y13 x k = y6 x k := fun x k q => T2 x k (by unfold PSt; omega)
        have hL13 : BLay y13 n1 := by
          obtain ⟨⟨q1, q2, q3, q4, q5, q6⟩, q7⟩ := hL6
          refine ⟨⟨?_, ?_, ?_, ?_, ?_, ?_⟩, q7⟩
          · rw [p13 _ _ (by omega)]; exact q1
          · rw [p13 _ _ (by omega)]; exact q2
          · rw [p13 _ _ (by omega)]; exact q3
          · rw [p13 _ _ (by omega)]; exact q4
          · rw [p13 _ _ (by omega)]; exact q5
          · rw [p13 _ _ (by omega)]; exact q6
        have hC13 : C2 y13 n1 := C2_fr hC6 (fun x k q => p13 x k (by unfold PCs at q; omega)) (fun _ _ _ => rfl)
        have cnt3 : y13 96 3 = m3 96 3 := by rw [p13 _ _ (by omega), f6 _ _ (by omega) (by omega)]
        have cnt8 : n1 148 38 = m3 96 3 := by rw [en _ _ (by decide), R2]
        have hv13 : ∀ i, 0 ≤ i → i < m3 96 3 → Lv y13 n1 i := fun i i0 i1 => by
          have q := R5 i i0 i1
          unfold Lv Is at *
          have e : ∀ x k, x = 97 ∨ x = 98 ∨ x = 99 ∨ x = 3 → y13 x k = m3 x k := fun x k q => by rw [p13 _ _ (by omega), f6 _ _ (by omega) (by omega)]
          rw [e 97 i (by omega), e 98 i (by omega), e 99 i (by omega), e 3 6 (by omega), e 3 7 (by omega), en 164 _ (by decide), en 164 _ (by decide), en 164 _ (by decide)]
          exact q
        have w37' : n1 148 37 = 165 := by rw [en _ _ (by decide)]; exact w37
        have w18' : n1 148 18 = 154 := by rw [en _ _ (by decide)]; exact w18
        have x10 : y13 0 10 = 96 := by rw [p13 _ _ (by omega), f6 _ _ (by omega) (by omega), fr _ _ (by unfold Wa2 WA; omega)]; exact t10
        have hSn := hC13.1.2.1
        -- what was so, from beside
        have hAs : ∀ (aa bb : MM), (∀ x k, (x = 15 ∧ 7 ≤ k) ∨ (16 ≤ x ∧ x ≤ 21 ∧ 0 ≤ k) ∨ (3 ≤ x ∧ x ≤ 8 ∧ 0 ≤ k) → aa x k = y13 x k) → (∀ k, 0 ≤ k → k < 122 → bb 150 (92 + k) = s32 (n1 154 k)) → Sn aa bb 3 15 150 0 := fun aa bb h1 h2 => by
          refine Sn_cp hSn.2.2 (h1 _ _ (by omega)) hSn.f.2.2 (fun f f0 f1 => (hSn.sp f0 f1).2) (fun f f0 f1 => ⟨h1 _ _ (by omega), h1 _ _ (by omega)⟩) ⟨h1 _ _ (by omega), h1 _ _ (by omega)⟩ (fun j q1 q2 => h1 _ _ (by omega)) (fun i j q1 q2 q3 q4 => h1 _ _ (by omega)) (fun j q1 q2 => h1 _ _ (by omega)) (fun j q1 q2 => Or.inr ?_)
          have := h2 (j - 92) (by omega) (by omega)
          rw [show 92 + (j - 92) = j by omega, Vn (j - 92) (by omega) (by omega), show 92 + (j - 92) = j by omega, s32_s32, ← en 150 _ (by decide)] at this
          rw [Int.zero_add]
          exact this
        rcases A with ⟨l0, y33, e33, A⟩ | ⟨l0, y20, e20, A⟩
        · -- judged
          rw [hC13.1.1.2.2.2, x10] at e33 A
          obtain ⟨n', y11, k, w, g1, g2, g3, g4, g5, g6, g7, g8, g9⟩ := thruG (Or.inr rfl) T1 hL13 cnt3 cnt8 w37' R3 R4 hv13 R6
          rw [← e33] at g1 g2 g7 g9
          cases A
          have g6 : b' = g281 y11 148 (if lv = 1 ∧ 0 < k then 1 else 0) := g6
          rw [if_neg (show ¬ (lv = 1 ∧ 0 < k) by omega)] at g6
          have eg : g281 y11 148 0 = (L281_2 y11 148 0 0 0).2.2.2.2 := rfl
          rw [eg] at g6
          obtain ⟨s1, s2⟩ := swap_ok (b := y11) (z := 0) (by rw [g4 _ _ (by omega), g3 _ _ (by unfold Qb; omega)]; exact w18') (by rw [g4 _ _ (by omega), g3 _ _ (by unfold Qb; omega)]; exact hC13.1.2.1.bn)
          rw [← g6] at s1 s2
          intro x j q
          rw [g2 x j (by unfold Qa; omega), p13 x j (by omega), fr' x j q]
        · -- lived
          have l1 : lv = 1 := by omega
          rw [hC13.1.1.2.1, x10] at e20 A
          obtain ⟨n', y11, k, w, g1, g2, g3, g4, g5, g6, g7, g8, g9⟩ := thruG (Or.inl rfl) hSn hL13 cnt3 cnt8 w37' R3 R4 hv13 R6
          rw [← e20] at g1 g2 g7 g9
          have ea : ∀ x j, x < 15 ∨ (x = 15 ∧ j < 7) ∨ (21 < x ∧ x < 96) ∨ 96 < x ∨ j < 0 ∨ (x = 96 ∧ j < 4) → y20 x j = y13 x j := fun x j q => g2 x j (by unfold Qa; omega)
          have z10 : y20 0 10 = 96 := by rw [ea _ _ (by omega)]; exact x10
          rw [z10, g7] at A
          have q18 : y11 148 18 = 154 := by rw [g4 _ _ (by omega), g3 _ _ (by unfold Qb; omega)]; exact w18'
          have q14 : y11 148 14 = 150 := by rw [g4 _ _ (by omega), g3 _ _ (by unfold Qb; omega)]; exact hC13.1.2.1.bn
          rcases A with ⟨c, A⟩ | ⟨c, y27, e27, A⟩
          · cases A
            have g6 : b' = g281 y11 148 (if lv = 1 ∧ 0 < k then 1 else 0) := g6
            rw [if_neg (show ¬ (lv = 1 ∧ 0 < k) by omega)] at g6
            have eg : g281 y11 148 0 = (L281_2 y11 148 0 0 0).2.2.2.2 := rfl
            rw [eg] at g6
            obtain ⟨s1, s2⟩ := swap_ok (b := y11) (z := 0) q18 q14
            rw [← g6] at s1 s2
            intro x j q
            rw [g2 x j (by unfold Qa; omega), p13 x j (by omega), fr' x j q]
          · have z5 : y20 0 5 = 29 := by rw [ea _ _ (by omega)]; exact hC13.1.1.2.2.1
            have z4 : y20 0 4 = 22 := by rw [ea _ _ (by omega)]; exact hC13.1.1.2.2.2
            rw [z5, z4] at e27
            cases A
            have g6 : b' = g281 y11 148 (if lv = 1 ∧ 0 < k then 1 else 0) := g6
            rw [if_pos (show lv = 1 ∧ 0 < k by omega)] at g6
            have eg : g281 y11 148 1 = g284 (g276 ((L281_2 y11 148 1 0 0).2.2.2.2) 148) 148 := rfl
            rw [eg] at g6
            obtain ⟨s1, s2⟩ := swap_ok (b := y11) (z := 1) q18 q14
            revert s1 s2 g6
            generalize (L281_2 y11 148 1 0 0).2.2.2.2 = n2
            intro g6 s1 s2
            have eb : ∀ x j, x ≠ 154 → x ≠ 165 → ¬ (x = 148 ∧ j = 39) → ¬ (x = 150 ∧ 92 ≤ j) → n2 x j = n1 x j := fun x j q1 q2 q3 q4 => by rw [s1 _ _ (by omega), g4 _ _ (by omega), g3 _ _ (by unfold Qb; omega)]
            -- the standing beside is what was so
            have hT2 : Sn y20 n2 3 22 150 0 := by
              refine Sn_cp T1.2.2 (ea _ _ (by omega)) T1.f.2.2 (fun f f0 f1 => (T1.sp f0 f1).2) (fun f f0 f1 => ⟨ea _ _ (by omega), ea _ _ (by omega)⟩) ⟨ea _ _ (by omega), ea _ _ (by omega)⟩ (fun j q1 q2 => ea _ _ (by omega)) (fun i j q1 q2 q3 q4 => ea _ _ (by omega)) (fun j q1 q2 => ea _ _ (by omega)) (fun j q1 q2 => Or.inr ?_)
              have := (s2 (j - 92) (by omega) (by omega)).1
              rw [g4 _ _ (by omega), g3 _ _ (by unfold Qb; omega), Vn (j - 92) (by omega) (by omega), show 92 + (j - 92) = j by omega, s32_s32, ← en 150 _ (by decide)] at this
              rw [Int.zero_add]
              exact this
            have hS22 : Sx y20 n2 22 := Sx_mk T1 (fun x j q0 q1 j0 => ea x j (by omega)) (fun j j0 j1 => ea _ _ (by omega)) (ea _ _ (by omega)) (eb _ _ (by decide) (by decide) (by decide) (by decide)) (fun j j0 j1 => eb _ _ (by decide) (by decide) (by omega) (by omega)) hT2
            have hU2 : Un y20 n2 := Un_fr hC13.1.2.2 (fun x j q => ea x j (by omega)) (fun j => eb _ _ (by decide) (by decide) (by omega) (by omega)) (eb _ _ (by decide) (by decide) (by omega) (by omega)) (eb _ _ (by decide) (by decide) (by omega) (by omega))
            obtain ⟨k1, k2, k3, k4⟩ := p_keep hS22 (Or.inr rfl) hU2
            rw [← e27] at k1 k2 k4
            rw [L284_ok (by rw [k3 _ _ (by unfold Qv; omega), s1 _ _ (by omega)]; exact q18) k4.bn] at g6
            have Fb' : Fr (fun x j => x = 150 ∧ 92 ≤ j ∧ j < 214) (g276 n2 148) b' := by rw [g6]; exact (Fr.rf _ _).fl fun j j0 j1 => ⟨rfl, by omega, by omega⟩
            intro x j q
            rw [k2 x j (by unfold Qu; omega), g2 x j (by unfold Qa; omega), p13 x j (by omega), fr' x j q]
      · rw [z13] at c; exact absurd R19 c
  · -- neither
    rcases A with ⟨c, _⟩ | ⟨_, A⟩
    · exact absurd (Or.inl c) hlv
    · rcases A with ⟨c, _⟩ | ⟨_, A⟩
      · exact absurd (Or.inr c) hlv
      · cases A
        exact fun _ _ _ => rfl
set_option maxRecDepth 16384 in
def HPK (X : KO) (xs : List Int32) (i u : Int) (mA mB : Nat) (vs : List Nat) : Prop := ∀ (wa wa' wb wb' : KW) (rl rl' : List (Nat × Int)), PH u wa wa' wb wb' → EX (wm zr wa) (wm zr wb) → Run X zr mA ((1, 0) :: vs.reverse.map (fun v => (1, kc zr (iv (wind xs i u) v)))) (wm zr wa) rl (wm zr wa') → Run X zr mB ((1, 148) :: vs.reverse.map (fun v => (1, kc zr (iv (wind xs i u) v)))) (wm zr wb) rl' (wm zr wb') → C2 (wm zr wa') (wm zr wb') ∧ ∀ q ∈ exLA, ∀ k : Int, (q.2.1 : Int) ≤ k → k ≤ (q.2.2 : Int) → wm zr wa' (q.1 : Int) k = wm zr wa (q.1 : Int) k
set_option maxRecDepth 16384 in
theorem hpE_book (X : KO) (hXW : XW X) (hXS : XS X) {xs : List Int32} {i u : Int} : HPK X xs i u 3 171 [3] := fun wa wa' wb wb' rl rl' hP hE ra rb => by
  refine ⟨hp_book X hXW hXS wa wa' wb wb' rl rl' hP ra rb, ?_⟩
  obtain ⟨ha, -, hb, -, hL, hL2, hC, hT⟩ := hP
  have ra : Run X zr 3 [(1, 0), ivx xs i u 3] (wm zr wa) rl (wm zr wa') := ra
  have rb : Run X zr 171 [(1, 148), ivx xs i u 3] (wm zr wb) rl' (wm zr wb') := rb
  have L : ∀ (a : Nat) (n : Nat), a < 168 → (∃ c t, (qEnv.2.2 (qEnv.2.1 a)).1 = (c, t, n) ∧ c < 9) → wm zr wa (a : Int) (-1) = (n : Int) := fun a n ha' ⟨c, t, h1, h2⟩ => (kTW_len ha ha' h1 h2).1
  have hBL : BLay (wm zr wa) (wm zr wb) := ⟨⟨hL2 (96, 0, 97) (by decide), hL2 (96, 1, 98) (by decide), hL2 (96, 2, 99) (by decide), L 97 40 (by decide) ⟨_, _, rfl, by decide⟩, L 98 40 (by decide) ⟨_, _, rfl, by decide⟩, L 99 40 (by decide) ⟨_, _, rfl, by decide⟩⟩, kTW_ref hb (a := 148) (k := 36) (r := 164) (by decide) (by decide) rfl⟩
  have B := book_cls hXW hXS hC hBL hT (kTW_ref ha (a := 0) (k := 0) (r := 1) (by decide) (by decide) rfl) (kTW_ref ha (a := 0) (k := 10) (r := 96) (by decide) (by decide) rfl) (kTW_ref ha (a := 1) (k := 0) (r := 2) (by decide) (by decide) rfl) (L 2 940 (by decide) ⟨_, _, rfl, by decide⟩) (kTW_ref hb (a := 148) (k := 1) (r := 149) (by decide) (by decide) rfl) (kTW_ref hb (a := 148) (k := 18) (r := 154) (by decide) (by decide) rfl) (kTW_ref hb (a := 148) (k := 37) (r := 165) (by decide) (by decide) rfl) ra rb
  have key : ∀ q ∈ exLA, (q.1 = 0 ∧ 11 ≤ q.2.1 ∧ q.2.2 ≤ 12) ∨ 100 ≤ q.1 := by decide
  intro q hq k k0 k1
  have c := key q hq
  exact B _ _ (by omega)
section LCALLS
variable (X : KO) {xs : List Int32} {i u : Int}
set_option maxRecDepth 16384 in
theorem qGB_sign_wf : ∀ q ∈ qGB_sign, apwf 9 q.2.1 = true := by decide +kernel
set_option maxRecDepth 16384 in
theorem hB_sign : ∀ q ∈ qGB_sign, q.1 = 512 ∧ 9 ≤ q.2.1.1 ∧ q.2.1.2.2.2.2.1 = ([4, 3] : List Nat).map ai ++ [.inr (2, 148)] ∧ ∃ L, qstp 512 qMB_sign [329] q.2.1 = some L ∧ expl qEnv qPh qCSL [] true 7 kRc0 kRs0 (some .boolean) qPL qPostL 9 (lfc 70) qGH none 600 L = true := by
  intro q hq
  have hq := List.mem_singleton.mp hq
  subst hq
  exact ⟨rfl, by decide, rfl, _, qB0_sign_e, qB0_sign_x⟩
set_option maxRecDepth 16384 in
theorem lc_sign (hXW : XW X) (hXS : XS X) (hu : 0 ≤ u) (hu2 : u ≤ 940) (hN : lNext X xs i u) {ρ : Nat → Int} {k : KF} (hk : k.1 = 495) (hag : ∀ j, j < 9 → ρ j = wind xs i u j) (hG : aGS qEnv qPh ρ qS_sign k) (hT : kTW qEnv k.2.2.2.1) (hW : kWT k.2.2.2.1) (hR : RW k.2.2.2.1) : TGL X xs k :=
  law_pair X hu hu2 hN (pcA := 495) (pcB := 512) (midA := 33) (midB := 272) (cixA := 10) (cixB := 11) (iA := 59) (iB := 62) (cA := [33]) (cB := [329]) (vs := [4, 3]) (mA := qMA_sign) (mB := qMB_sign) (S := qS_sign) (L1 := qA_sign) (GB := qGB_sign) ⟨rfl, rfl, rfl, rfl⟩ ⟨rfl, rfl, rfl, rfl⟩ (by decide +kernel) (by decide +kernel) qA_sign_e qA_sign_x qGB_sign_wf hB_sign (by decide) rfl List.mem_cons_self (List.mem_cons_of_mem _ List.mem_cons_self) (by decide) (by decide +kernel) (by decide +kernel) (by decide +kernel) (by decide +kernel) (by decide +kernel) (by decide +kernel) (by decide +kernel) (hp_sign X) hk hag hG hT hW hR
set_option maxRecDepth 16384 in
theorem qGB_soften_wf : ∀ q ∈ qGB_soften, apwf 9 q.2.1 = true := by decide +kernel
set_option maxRecDepth 16384 in
theorem hB_soften : ∀ q ∈ qGB_soften, q.1 = 549 ∧ 9 ≤ q.2.1.1 ∧ q.2.1.2.2.2.2.1 = ([4, 3] : List Nat).map ai ++ [.inr (2, 148)] ∧ ∃ L, qstp 549 qMB_soften [334] q.2.1 = some L ∧ expl qEnv qPh qCSL [] true 7 kRc0 kRs0 (some .boolean) qPL qPostL 9 (lfc 70) qGH none 600 L = true := by
  intro q hq
  have hq := List.mem_singleton.mp hq
  subst hq
  exact ⟨rfl, by decide, rfl, _, qB0_soften_e, qB0_soften_x⟩
set_option maxRecDepth 16384 in
theorem lc_soften (hXW : XW X) (hXS : XS X) (hu : 0 ≤ u) (hu2 : u ≤ 940) (hN : lNext X xs i u) {ρ : Nat → Int} {k : KF} (hk : k.1 = 532) (hag : ∀ j, j < 9 → ρ j = wind xs i u j) (hG : aGS qEnv qPh ρ qS_soften k) (hT : kTW qEnv k.2.2.2.1) (hW : kWT k.2.2.2.1) (hR : RW k.2.2.2.1) : TGL X xs k :=
  law_pair X hu hu2 hN (pcA := 532) (pcB := 549) (midA := 34) (midB := 277) (cixA := 10) (cixB := 11) (iA := 63) (iB := 66) (cA := [34]) (cB := [334]) (vs := [4, 3]) (mA := qMA_soften) (mB := qMB_soften) (S := qS_soften) (L1 := qA_soften) (GB := qGB_soften) ⟨rfl, rfl, rfl, rfl⟩ ⟨rfl, rfl, rfl, rfl⟩ (by decide +kernel) (by decide +kernel) qA_soften_e qA_soften_x qGB_soften_wf hB_soften (by decide) rfl List.mem_cons_self (List.mem_cons_of_mem _ List.mem_cons_self) (by decide) (by decide +kernel) (by decide +kernel) (by decide +kernel) (by decide +kernel) (by decide +kernel) (by decide +kernel) (by decide +kernel) (hp_soften X) hk hag hG hT hW hR
set_option maxRecDepth 16384 in
theorem qGB_resent_wf : ∀ q ∈ qGB_resent, apwf 9 q.2.1 = true := by decide +kernel
set_option maxRecDepth 16384 in
theorem hB_resent : ∀ q ∈ qGB_resent, q.1 = 586 ∧ 9 ≤ q.2.1.1 ∧ q.2.1.2.2.2.2.1 = ([4, 3] : List Nat).map ai ++ [.inr (2, 148)] ∧ ∃ L, qstp 586 qMB_resent [318] q.2.1 = some L ∧ expl qEnv qPh qCSL [] true 7 kRc0 kRs0 (some .boolean) qPL qPostL 9 (lfc 70) qGH none 600 L = true := by
  intro q hq
  have hq := List.mem_singleton.mp hq
  subst hq
  exact ⟨rfl, by decide, rfl, _, qB0_resent_e, qB0_resent_x⟩
set_option maxRecDepth 16384 in
theorem lc_resent (hXW : XW X) (hXS : XS X) (hu : 0 ≤ u) (hu2 : u ≤ 940) (hN : lNext X xs i u) {ρ : Nat → Int} {k : KF} (hk : k.1 = 569) (hag : ∀ j, j < 9 → ρ j = wind xs i u j) (hG : aGS qEnv qPh ρ qS_resent k) (hT : kTW qEnv k.2.2.2.1) (hW : kWT k.2.2.2.1) (hR : RW k.2.2.2.1) : TGL X xs k :=
  law_pair X hu hu2 hN (pcA := 569) (pcB := 586) (midA := 27) (midB := 264) (cixA := 10) (cixB := 11) (iA := 67) (iB := 70) (cA := [27]) (cB := [318]) (vs := [4, 3]) (mA := qMA_resent) (mB := qMB_resent) (S := qS_resent) (L1 := qA_resent) (GB := qGB_resent) ⟨rfl, rfl, rfl, rfl⟩ ⟨rfl, rfl, rfl, rfl⟩ (by decide +kernel) (by decide +kernel) qA_resent_e qA_resent_x qGB_resent_wf hB_resent (by decide) rfl List.mem_cons_self (List.mem_cons_of_mem _ List.mem_cons_self) (by decide) (by decide +kernel) (by decide +kernel) (by decide +kernel) (by decide +kernel) (by decide +kernel) (by decide +kernel) (by decide +kernel) (hp_resent X) hk hag hG hT hW hR
set_option maxRecDepth 16384 in
theorem qGB_retire_wf : ∀ q ∈ qGB_retire, apwf 9 q.2.1 = true := by decide +kernel
set_option maxRecDepth 16384 in
theorem hB_retire : ∀ q ∈ qGB_retire, q.1 = 611 ∧ 9 ≤ q.2.1.1 ∧ q.2.1.2.2.2.2.1 = ([3] : List Nat).map ai ++ [.inr (2, 148)] ∧ ∃ L, qstp 611 qMB_retire [320] q.2.1 = some L ∧ expl qEnv qPh qCSL [] true 7 kRc0 kRs0 (some .boolean) qPL qPostL 9 (lfc 70) qGH none 600 L = true := by
  intro q hq
  have hq := List.mem_singleton.mp hq
  subst hq
  exact ⟨rfl, by decide, rfl, _, qB0_retire_e, qB0_retire_x⟩
set_option maxRecDepth 16384 in
theorem lc_retire (hXW : XW X) (hXS : XS X) (hu : 0 ≤ u) (hu2 : u ≤ 940) (hN : lNext X xs i u) {ρ : Nat → Int} {k : KF} (hk : k.1 = 600) (hag : ∀ j, j < 9 → ρ j = wind xs i u j) (hG : aGS qEnv qPh ρ qS_retire k) (hT : kTW qEnv k.2.2.2.1) (hW : kWT k.2.2.2.1) (hR : RW k.2.2.2.1) : TGL X xs k :=
  law_pair X hu hu2 hN (pcA := 600) (pcB := 611) (midA := 29) (midB := 266) (cixA := 10) (cixB := 11) (iA := 71) (iB := 74) (cA := [29]) (cB := [320]) (vs := [3]) (mA := qMA_retire) (mB := qMB_retire) (S := qS_retire) (L1 := qA_retire) (GB := qGB_retire) ⟨rfl, rfl, rfl, rfl⟩ ⟨rfl, rfl, rfl, rfl⟩ (by decide +kernel) (by decide +kernel) qA_retire_e qA_retire_x qGB_retire_wf hB_retire (by decide) rfl List.mem_cons_self (List.mem_cons_of_mem _ List.mem_cons_self) (by decide) (by decide +kernel) (by decide +kernel) (by decide +kernel) (by decide +kernel) (by decide +kernel) (by decide +kernel) (by decide +kernel) (hp_retire X) hk hag hG hT hW hR
set_option maxRecDepth 16384 in
theorem qGB_back_wf : ∀ q ∈ qGB_back, apwf 9 q.2.1 = true := by decide +kernel
set_option maxRecDepth 16384 in
theorem hB_back : ∀ q ∈ qGB_back, q.1 = 636 ∧ 9 ≤ q.2.1.1 ∧ q.2.1.2.2.2.2.1 = ([3] : List Nat).map ai ++ [.inr (2, 148)] ∧ ∃ L, qstp 636 qMB_back [188] q.2.1 = some L ∧ expl qEnv qPh qCSL [] true 7 kRc0 kRs0 (some .boolean) qPL qPostL 9 (lfc 70) qGH none 600 L = true := by
  intro q hq
  have hq := List.mem_singleton.mp hq
  subst hq
  exact ⟨rfl, by decide, rfl, _, qB0_back_e, qB0_back_x⟩
set_option maxRecDepth 16384 in
theorem lc_back (hXW : XW X) (hXS : XS X) (hu : 0 ≤ u) (hu2 : u ≤ 940) (hN : lNext X xs i u) {ρ : Nat → Int} {k : KF} (hk : k.1 = 625) (hag : ∀ j, j < 9 → ρ j = wind xs i u j) (hG : aGS qEnv qPh ρ qS_back k) (hT : kTW qEnv k.2.2.2.1) (hW : kWT k.2.2.2.1) (hR : RW k.2.2.2.1) : TGL X xs k :=
  law_pair X hu hu2 hN (pcA := 625) (pcB := 636) (midA := 2) (midB := 167) (cixA := 10) (cixB := 11) (iA := 75) (iB := 78) (cA := [2]) (cB := [188]) (vs := [3]) (mA := qMA_back) (mB := qMB_back) (S := qS_back) (L1 := qA_back) (GB := qGB_back) ⟨rfl, rfl, rfl, rfl⟩ ⟨rfl, rfl, rfl, rfl⟩ (by decide +kernel) (by decide +kernel) qA_back_e qA_back_x qGB_back_wf hB_back (by decide) rfl List.mem_cons_self (List.mem_cons_of_mem _ List.mem_cons_self) (by decide) (by decide +kernel) (by decide +kernel) (by decide +kernel) (by decide +kernel) (by decide +kernel) (by decide +kernel) (by decide +kernel) (hp_back X) hk hag hG hT hW hR
set_option maxRecDepth 16384 in
theorem qGB_cancel_wf : ∀ q ∈ qGB_cancel, apwf 9 q.2.1 = true := by decide +kernel
set_option maxRecDepth 16384 in
theorem hB_cancel : ∀ q ∈ qGB_cancel, q.1 = 661 ∧ 9 ≤ q.2.1.1 ∧ q.2.1.2.2.2.2.1 = ([3] : List Nat).map ai ++ [.inr (2, 148)] ∧ ∃ L, qstp 661 qMB_cancel [196] q.2.1 = some L ∧ expl qEnv qPh qCSL [] true 7 kRc0 kRs0 (some .boolean) qPL qPostL 9 (lfc 70) qGH none 600 L = true := by
  intro q hq
  have hq := List.mem_singleton.mp hq
  subst hq
  exact ⟨rfl, by decide, rfl, _, qB0_cancel_e, qB0_cancel_x⟩
set_option maxRecDepth 16384 in
theorem lc_cancel (hXW : XW X) (hXS : XS X) (hu : 0 ≤ u) (hu2 : u ≤ 940) (hN : lNext X xs i u) {ρ : Nat → Int} {k : KF} (hk : k.1 = 650) (hag : ∀ j, j < 9 → ρ j = wind xs i u j) (hG : aGS qEnv qPh ρ qS_cancel k) (hT : kTW qEnv k.2.2.2.1) (hW : kWT k.2.2.2.1) (hR : RW k.2.2.2.1) : TGL X xs k :=
  law_pair X hu hu2 hN (pcA := 650) (pcB := 661) (midA := 6) (midB := 175) (cixA := 10) (cixB := 11) (iA := 79) (iB := 82) (cA := [6]) (cB := [196]) (vs := [3]) (mA := qMA_cancel) (mB := qMB_cancel) (S := qS_cancel) (L1 := qA_cancel) (GB := qGB_cancel) ⟨rfl, rfl, rfl, rfl⟩ ⟨rfl, rfl, rfl, rfl⟩ (by decide +kernel) (by decide +kernel) qA_cancel_e qA_cancel_x qGB_cancel_wf hB_cancel (by decide) rfl List.mem_cons_self (List.mem_cons_of_mem _ List.mem_cons_self) (by decide) (by decide +kernel) (by decide +kernel) (by decide +kernel) (by decide +kernel) (by decide +kernel) (by decide +kernel) (by decide +kernel) (hp_cancel X) hk hag hG hT hW hR
set_option maxRecDepth 16384 in
theorem qGB_lodge_wf : ∀ q ∈ qGB_lodge, apwf 9 q.2.1 = true := by decide +kernel
set_option maxRecDepth 16384 in
theorem hB_lodge : ∀ q ∈ qGB_lodge, q.1 = 686 ∧ 9 ≤ q.2.1.1 ∧ q.2.1.2.2.2.2.1 = ([3] : List Nat).map ai ++ [.inr (2, 148)] ∧ ∃ L, qstp 686 qMB_lodge [271] q.2.1 = some L ∧ expl qEnv qPh qCSL [] true 7 kRc0 kRs0 (some .boolean) qPL qPostL 9 (lfc 70) qGH none 600 L = true := by
  intro q hq
  have hq := List.mem_singleton.mp hq
  subst hq
  exact ⟨rfl, by decide, rfl, _, qB0_lodge_e, qB0_lodge_x⟩
set_option maxRecDepth 16384 in
theorem lc_lodge (hXW : XW X) (hXS : XS X) (hu : 0 ≤ u) (hu2 : u ≤ 940) (hN : lNext X xs i u) {ρ : Nat → Int} {k : KF} (hk : k.1 = 675) (hag : ∀ j, j < 9 → ρ j = wind xs i u j) (hG : aGS qEnv qPh ρ qS_lodge k) (hT : kTW qEnv k.2.2.2.1) (hW : kWT k.2.2.2.1) (hR : RW k.2.2.2.1) : TGL X xs k :=
  law_pair X hu hu2 hN (pcA := 675) (pcB := 686) (midA := 19) (midB := 223) (cixA := 10) (cixB := 11) (iA := 83) (iB := 86) (cA := [19]) (cB := [271]) (vs := [3]) (mA := qMA_lodge) (mB := qMB_lodge) (S := qS_lodge) (L1 := qA_lodge) (GB := qGB_lodge) ⟨rfl, rfl, rfl, rfl⟩ ⟨rfl, rfl, rfl, rfl⟩ (by decide +kernel) (by decide +kernel) qA_lodge_e qA_lodge_x qGB_lodge_wf hB_lodge (by decide) rfl List.mem_cons_self (List.mem_cons_of_mem _ List.mem_cons_self) (by decide) (by decide +kernel) (by decide +kernel) (by decide +kernel) (by decide +kernel) (by decide +kernel) (by decide +kernel) (by decide +kernel) (hp_lodge X) hk hag hG hT hW hR
set_option maxRecDepth 16384 in
theorem qGB_days_wf : ∀ q ∈ qGB_days, apwf 9 q.2.1 = true := by decide +kernel
set_option maxRecDepth 16384 in
theorem hB_days : ∀ q ∈ qGB_days, q.1 = 711 ∧ 9 ≤ q.2.1.1 ∧ q.2.1.2.2.2.2.1 = ([3] : List Nat).map ai ++ [.inr (2, 148)] ∧ ∃ L, qstp 711 qMB_days [201] q.2.1 = some L ∧ expl qEnv qPh qCSL [] true 7 kRc0 kRs0 (some .boolean) qPL qPostL 9 (lfc 70) qGH none 600 L = true := by
  intro q hq
  have hq := List.mem_singleton.mp hq
  subst hq
  exact ⟨rfl, by decide, rfl, _, qB0_days_e, qB0_days_x⟩
set_option maxRecDepth 16384 in
theorem lc_days (hXW : XW X) (hXS : XS X) (hu : 0 ≤ u) (hu2 : u ≤ 940) (hN : lNext X xs i u) {ρ : Nat → Int} {k : KF} (hk : k.1 = 700) (hag : ∀ j, j < 9 → ρ j = wind xs i u j) (hG : aGS qEnv qPh ρ qS_days k) (hT : kTW qEnv k.2.2.2.1) (hW : kWT k.2.2.2.1) (hR : RW k.2.2.2.1) : TGL X xs k :=
  law_pair X hu hu2 hN (pcA := 700) (pcB := 711) (midA := 10) (midB := 180) (cixA := 10) (cixB := 11) (iA := 87) (iB := 90) (cA := [10]) (cB := [201]) (vs := [3]) (mA := qMA_days) (mB := qMB_days) (S := qS_days) (L1 := qA_days) (GB := qGB_days) ⟨rfl, rfl, rfl, rfl⟩ ⟨rfl, rfl, rfl, rfl⟩ (by decide +kernel) (by decide +kernel) qA_days_e qA_days_x qGB_days_wf hB_days (by decide) rfl List.mem_cons_self (List.mem_cons_of_mem _ List.mem_cons_self) (by decide) (by decide +kernel) (by decide +kernel) (by decide +kernel) (by decide +kernel) (by decide +kernel) (by decide +kernel) (by decide +kernel) (hp_days X) hk hag hG hT hW hR
set_option maxRecDepth 16384 in
theorem qGB_undo_wf : ∀ q ∈ qGB_undo, apwf 9 q.2.1 = true := by decide +kernel
set_option maxRecDepth 16384 in
theorem hB_undo : ∀ q ∈ qGB_undo, q.1 = 724 ∧ 9 ≤ q.2.1.1 ∧ q.2.1.2.2.2.2.1 = ([] : List Nat).map ai ++ [.inr (2, 148)] ∧ ∃ L, qstp 724 qMB_undo [378] q.2.1 = some L ∧ expl qEnv qPh qCSL [] true 7 kRc0 kRs0 (some .boolean) qPL qPostL 9 (lfc 70) qGH none 600 L = true := by
  intro q hq
  have hq := List.mem_singleton.mp hq
  subst hq
  exact ⟨rfl, by decide, rfl, _, qB0_undo_e, qB0_undo_x⟩
set_option maxRecDepth 16384 in
theorem lc_undo (hXW : XW X) (hXS : XS X) (hu : 0 ≤ u) (hu2 : u ≤ 940) (hN : lNext X xs i u) {ρ : Nat → Int} {k : KF} (hk : k.1 = 719) (hag : ∀ j, j < 9 → ρ j = wind xs i u j) (hG : aGS qEnv qPh ρ qS_undo k) (hT : kTW qEnv k.2.2.2.1) (hW : kWT k.2.2.2.1) (hR : RW k.2.2.2.1) : TGL X xs k :=
  law_pair X hu hu2 hN (pcA := 719) (pcB := 724) (midA := 37) (midB := 288) (cixA := 10) (cixB := 11) (iA := 91) (iB := 94) (cA := [37]) (cB := [378]) (vs := []) (mA := qMA_undo) (mB := qMB_undo) (S := qS_undo) (L1 := qA_undo) (GB := qGB_undo) ⟨rfl, rfl, rfl, rfl⟩ ⟨rfl, rfl, rfl, rfl⟩ (by decide +kernel) (by decide +kernel) qA_undo_e qA_undo_x qGB_undo_wf hB_undo (by decide) rfl List.mem_cons_self (List.mem_cons_of_mem _ List.mem_cons_self) (by decide) (by decide +kernel) (by decide +kernel) (by decide +kernel) (by decide +kernel) (by decide +kernel) (by decide +kernel) (by decide +kernel) (hp_undo X) hk hag hG hT hW hR
set_option maxRecDepth 16384 in
theorem qGB_drawn_wf : ∀ q ∈ qGB_drawn, apwf 9 q.2.1 = true := by decide +kernel
set_option maxRecDepth 16384 in
theorem hB_drawn : ∀ q ∈ qGB_drawn, q.1 = 1063 ∧ 9 ≤ q.2.1.1 ∧ q.2.1.2.2.2.2.1 = ([4, 3] : List Nat).map ai ++ [.inr (2, 148)] ∧ ∃ L, qstp 1063 qMB_drawn [205] q.2.1 = some L ∧ expl qEnv qPh qCSL [] true 7 kRc0 kRs0 (some .boolean) qPL qPostL 9 (lfc 70) qGH none 600 L = true := by
  intro q hq
  have hq := List.mem_singleton.mp hq
  subst hq
  exact ⟨rfl, by decide, rfl, _, qB0_drawn_e, qB0_drawn_x⟩
set_option maxRecDepth 16384 in
theorem lc_drawn (hXW : XW X) (hXS : XS X) (hu : 0 ≤ u) (hu2 : u ≤ 940) (hN : lNext X xs i u) {ρ : Nat → Int} {k : KF} (hk : k.1 = 1046) (hag : ∀ j, j < 9 → ρ j = wind xs i u j) (hG : aGS qEnv qPh ρ qS_drawn k) (hT : kTW qEnv k.2.2.2.1) (hW : kWT k.2.2.2.1) (hR : RW k.2.2.2.1) : TGL X xs k :=
  law_pair X hu hu2 hN (pcA := 1046) (pcB := 1063) (midA := 11) (midB := 184) (cixA := 10) (cixB := 11) (iA := 151) (iB := 154) (cA := [11]) (cB := [205]) (vs := [4, 3]) (mA := qMA_drawn) (mB := qMB_drawn) (S := qS_drawn) (L1 := qA_drawn) (GB := qGB_drawn) ⟨rfl, rfl, rfl, rfl⟩ ⟨rfl, rfl, rfl, rfl⟩ (by decide +kernel) (by decide +kernel) qA_drawn_e qA_drawn_x qGB_drawn_wf hB_drawn (by decide) rfl List.mem_cons_self (List.mem_cons_of_mem _ List.mem_cons_self) (by decide) (by decide +kernel) (by decide +kernel) (by decide +kernel) (by decide +kernel) (by decide +kernel) (by decide +kernel) (by decide +kernel) (hp_drawn X) hk hag hG hT hW hR
set_option maxRecDepth 16384 in
theorem qGB_odds_wf : ∀ q ∈ qGB_odds, apwf 9 q.2.1 = true := by decide +kernel
set_option maxRecDepth 16384 in
theorem hB_odds : ∀ q ∈ qGB_odds, q.1 = 1112 ∧ 9 ≤ q.2.1.1 ∧ q.2.1.2.2.2.2.1 = ([5, 4, 3] : List Nat).map ai ++ [.inr (2, 148)] ∧ ∃ L, qstp 1112 qMB_odds [277] q.2.1 = some L ∧ expl qEnv qPh qCSL [] true 7 kRc0 kRs0 (some .boolean) qPL qPostL 9 (lfc 70) qGH none 600 L = true := by
  intro q hq
  have hq := List.mem_singleton.mp hq
  subst hq
  exact ⟨rfl, by decide, rfl, _, qB0_odds_e, qB0_odds_x⟩
set_option maxRecDepth 16384 in
theorem lc_odds (hXW : XW X) (hXS : XS X) (hu : 0 ≤ u) (hu2 : u ≤ 940) (hN : lNext X xs i u) {ρ : Nat → Int} {k : KF} (hk : k.1 = 1089) (hag : ∀ j, j < 9 → ρ j = wind xs i u j) (hG : aGS qEnv qPh ρ qS_odds k) (hT : kTW qEnv k.2.2.2.1) (hW : kWT k.2.2.2.1) (hR : RW k.2.2.2.1) : TGL X xs k :=
  law_pair X hu hu2 hN (pcA := 1089) (pcB := 1112) (midA := 24) (midB := 229) (cixA := 10) (cixB := 11) (iA := 155) (iB := 159) (cA := [24]) (cB := [277]) (vs := [5, 4, 3]) (mA := qMA_odds) (mB := qMB_odds) (S := qS_odds) (L1 := qA_odds) (GB := qGB_odds) ⟨rfl, rfl, rfl, rfl⟩ ⟨rfl, rfl, rfl, rfl⟩ (by decide +kernel) (by decide +kernel) qA_odds_e qA_odds_x qGB_odds_wf hB_odds (by decide) rfl List.mem_cons_self (List.mem_cons_of_mem _ List.mem_cons_self) (by decide) (by decide +kernel) (by decide +kernel) (by decide +kernel) (by decide +kernel) (by decide +kernel) (by decide +kernel) (by decide +kernel) (hp_odds X) hk hag hG hT hW hR
set_option maxRecDepth 16384 in
theorem qGB_image_wf : ∀ q ∈ qGB_image, apwf 9 q.2.1 = true := by decide +kernel
set_option maxRecDepth 16384 in
theorem hB_image : ∀ q ∈ qGB_image, q.1 = 1225 ∧ 9 ≤ q.2.1.1 ∧ q.2.1.2.2.2.2.1 = ([3] : List Nat).map ai ++ [.inr (2, 148)] ∧ ∃ L, qstp 1225 qMB_image [226] q.2.1 = some L ∧ expl qEnv qPh qCSL [] true 7 kRc0 kRs0 (some .boolean) qPL qPostL 9 (lfc 70) qGH none 600 L = true := by
  intro q hq
  have hq := List.mem_singleton.mp hq
  subst hq
  exact ⟨rfl, by decide, rfl, _, qB0_image_e, qB0_image_x⟩
set_option maxRecDepth 16384 in
theorem lc_image (hXW : XW X) (hXS : XS X) (hu : 0 ≤ u) (hu2 : u ≤ 940) (hN : lNext X xs i u) {ρ : Nat → Int} {k : KF} (hk : k.1 = 1214) (hag : ∀ j, j < 9 → ρ j = wind xs i u j) (hG : aGS qEnv qPh ρ qS_image k) (hT : kTW qEnv k.2.2.2.1) (hW : kWT k.2.2.2.1) (hR : RW k.2.2.2.1) : TGL X xs k :=
  law_pairF X hu hu2 hN (pcA := 1214) (pcB := 1225) (midA := 18) (midB := 205) (cixA := 10) (cixB := 11) (iA := 176) (iB := 179) (cA := [18]) (cB := [226]) (vs := [3]) (mA := qMA_image) (mB := qMB_image) (S := qS_image) (L1 := qA_image) (GB := qGB_image) ⟨rfl, rfl, rfl, rfl⟩ ⟨rfl, rfl, rfl, rfl⟩ (by decide +kernel) (by decide +kernel) qA_image_e qA_image_x qGB_image_wf hB_image (by decide) rfl List.mem_cons_self (List.mem_cons_of_mem _ List.mem_cons_self) (by decide) (by decide +kernel) (by decide +kernel) (by decide +kernel) (by decide +kernel) (by decide +kernel) (by decide +kernel) (by decide +kernel) (hpE_image X) hk hag hG hT hW hR
set_option maxRecDepth 16384 in
theorem qGB_restore_wf : ∀ q ∈ qGB_restore, apwf 9 q.2.1 = true := by decide +kernel
set_option maxRecDepth 16384 in
theorem hB_restore : ∀ q ∈ qGB_restore, q.1 = 1250 ∧ 9 ≤ q.2.1.1 ∧ q.2.1.2.2.2.2.1 = ([3] : List Nat).map ai ++ [.inr (2, 148)] ∧ ∃ L, qstp 1250 qMB_restore [319] q.2.1 = some L ∧ expl qEnv qPh qCSL [] true 7 kRc0 kRs0 (some .boolean) qPL qPostL 9 (lfc 70) qGH none 600 L = true := by
  intro q hq
  have hq := List.mem_singleton.mp hq
  subst hq
  exact ⟨rfl, by decide, rfl, _, qB0_restore_e, qB0_restore_x⟩
set_option maxRecDepth 16384 in
theorem lc_restore (hXW : XW X) (hXS : XS X) (hu : 0 ≤ u) (hu2 : u ≤ 940) (hN : lNext X xs i u) {ρ : Nat → Int} {k : KF} (hk : k.1 = 1239) (hag : ∀ j, j < 9 → ρ j = wind xs i u j) (hG : aGS qEnv qPh ρ qS_restore k) (hT : kTW qEnv k.2.2.2.1) (hW : kWT k.2.2.2.1) (hR : RW k.2.2.2.1) : TGL X xs k :=
  law_pairF X hu hu2 hN (pcA := 1239) (pcB := 1250) (midA := 28) (midB := 265) (cixA := 10) (cixB := 11) (iA := 180) (iB := 183) (cA := [28]) (cB := [319]) (vs := [3]) (mA := qMA_restore) (mB := qMB_restore) (S := qS_restore) (L1 := qA_restore) (GB := qGB_restore) ⟨rfl, rfl, rfl, rfl⟩ ⟨rfl, rfl, rfl, rfl⟩ (by decide +kernel) (by decide +kernel) qA_restore_e qA_restore_x qGB_restore_wf hB_restore (by decide) rfl List.mem_cons_self (List.mem_cons_of_mem _ List.mem_cons_self) (by decide) (by decide +kernel) (by decide +kernel) (by decide +kernel) (by decide +kernel) (by decide +kernel) (by decide +kernel) (by decide +kernel) (hpE_restore X) hk hag hG hT hW hR
set_option maxRecDepth 16384 in
theorem qGB_office_wf : ∀ q ∈ qGB_office, apwf 9 q.2.1 = true := by decide +kernel
set_option maxRecDepth 16384 in
theorem hB_office : ∀ q ∈ qGB_office, q.1 = 320 ∧ 9 ≤ q.2.1.1 ∧ q.2.1.2.2.2.2.1 = ([] : List Nat).map ai ++ [.inr (2, 148)] ∧ ∃ L, qstp 320 qMB_office [278] q.2.1 = some L ∧ expl qEnv qPh qCSL [] true 7 kRc0 kRs0 (some .boolean) qPL qPostL 9 (lfc 70) qGH none 600 L = true := by
  intro q hq
  have hq := List.mem_singleton.mp hq
  subst hq
  exact ⟨rfl, by decide, rfl, _, qB0_office_e, qB0_office_x⟩
set_option maxRecDepth 16384 in
theorem lc_office (hXW : XW X) (hXS : XS X) (hu : 0 ≤ u) (hu2 : u ≤ 940) (hN : lNext X xs i u) {ρ : Nat → Int} {k : KF} (hk : k.1 = 315) (hag : ∀ j, j < 9 → ρ j = wind xs i u j) (hG : aGS qEnv qPh ρ qS_office k) (hT : kTW qEnv k.2.2.2.1) (hW : kWT k.2.2.2.1) (hR : RW k.2.2.2.1) : TGL X xs k :=
  law_pairF X hu hu2 hN (pcA := 315) (pcB := 320) (midA := 25) (midB := 230) (cixA := 10) (cixB := 11) (iA := 32) (iB := 36) (cA := [25]) (cB := [278]) (vs := []) (mA := qMA_office) (mB := qMB_office) (S := qS_office) (L1 := qA_office) (GB := qGB_office) ⟨rfl, rfl, rfl, rfl⟩ ⟨rfl, rfl, rfl, rfl⟩ (by decide +kernel) (by decide +kernel) qA_office_e qA_office_x qGB_office_wf hB_office (by decide) rfl List.mem_cons_self (List.mem_cons_of_mem _ List.mem_cons_self) (by decide) (by decide +kernel) (by decide +kernel) (by decide +kernel) (by decide +kernel) (by decide +kernel) (by decide +kernel) (by decide +kernel) (hpE_office X hXW hXS) hk hag hG hT hW hR
set_option maxRecDepth 16384 in
theorem qGB_book_wf : ∀ q ∈ qGB_book, apwf 9 q.2.1 = true := by decide +kernel
set_option maxRecDepth 16384 in
theorem hB_book : ∀ q ∈ qGB_book, q.1 = 1137 ∧ 9 ≤ q.2.1.1 ∧ q.2.1.2.2.2.2.1 = ([3] : List Nat).map ai ++ [.inr (2, 148)] ∧ ∃ L, qstp 1137 qMB_book [192] q.2.1 = some L ∧ expl qEnv qPh qCSL [] true 7 kRc0 kRs0 (some .boolean) qPL qPostL 9 (lfc 70) qGH none 600 L = true := by
  intro q hq
  rcases List.mem_cons.mp hq with rfl | hq
  · exact ⟨rfl, by decide, rfl, _, qB0_book_e, qB0_book_x⟩
  rcases List.mem_cons.mp hq with rfl | hq
  · exact ⟨rfl, by decide, rfl, _, qB1_book_e, qB1_book_x⟩
  have hq := List.mem_singleton.mp hq
  subst hq
  exact ⟨rfl, by decide, rfl, _, qB2_book_e, qB2_book_x⟩
set_option maxRecDepth 16384 in
theorem lc_book (hXW : XW X) (hXS : XS X) (hu : 0 ≤ u) (hu2 : u ≤ 940) (hN : lNext X xs i u) {ρ : Nat → Int} {k : KF} (hk : k.1 = 1126) (hag : ∀ j, j < 9 → ρ j = wind xs i u j) (hG : aGS qEnv qPh ρ qS_book k) (hT : kTW qEnv k.2.2.2.1) (hW : kWT k.2.2.2.1) (hR : RW k.2.2.2.1) : TGL X xs k :=
  law_pairG X hu hu2 hN (pcA := 1126) (pcB := 1137) (midA := 3) (midB := 171) (cixA := 10) (cixB := 11) (iA := 160) (iB := 163) (cA := [3]) (cB := [192]) (vs := [3]) (mA := qMA_book) (mB := qMB_book) (S := qS_book) (L1 := qA_book) (GB := qGB_book) ⟨rfl, rfl, rfl, rfl⟩ ⟨rfl, rfl, rfl, rfl⟩ (by decide +kernel) (by decide +kernel) qA_book_e qA_book_x qGB_book_wf hB_book (by decide) rfl List.mem_cons_self (List.mem_cons_of_mem _ List.mem_cons_self) (by decide) (by decide +kernel) (by decide +kernel) (by decide +kernel) (by decide +kernel) (by decide +kernel) (by decide +kernel) (by decide +kernel) (by decide +kernel) (hpE_book X hXW hXS) hk hag hG hT hW hR
set_option maxRecDepth 16384 in
theorem qGB_sentence_wf : ∀ q ∈ qGB_sentence, apwf 9 q.2.1 = true := by decide +kernel
set_option maxRecDepth 16384 in
theorem hB_sentence : ∀ q ∈ qGB_sentence, q.1 = 1175 ∧ 9 ≤ q.2.1.1 ∧ q.2.1.2.2.2.2.1 = ([] : List Nat).map ai ++ [.inr (2, 148)] ∧ ∃ L, qstp 1175 qMB_sentence [326] q.2.1 = some L ∧ expl qEnv qPh qCSL [] true 7 kRc0 kRs0 (some .boolean) qPL qPostL 9 (lfc 70) qGH none 600 L = true := by
  intro q hq
  have hq := List.mem_singleton.mp hq
  subst hq
  exact ⟨rfl, by decide, rfl, _, qB0_sentence_e, qB0_sentence_x⟩
set_option maxRecDepth 16384 in
theorem lc_sentence (hXW : XW X) (hXS : XS X) (hu : 0 ≤ u) (hu2 : u ≤ 940) (hN : lNext X xs i u) {ρ : Nat → Int} {k : KF} (hk : k.1 = 1170) (hag : ∀ j, j < 9 → ρ j = wind xs i u j) (hG : aGS qEnv qPh ρ qS_sentence k) (hT : kTW qEnv k.2.2.2.1) (hW : kWT k.2.2.2.1) (hR : RW k.2.2.2.1) : TGL X xs k :=
  law_pairE X hu hu2 hN (pcA := 1170) (pcB := 1175) (midA := 31) (midB := 269) (cixA := 10) (cixB := 11) (iA := 168) (iB := 171) (cA := [31]) (cB := [326]) (vs := []) (mA := qMA_sentence) (mB := qMB_sentence) (S := qS_sentence) (L1 := qA_sentence) (GB := qGB_sentence) ⟨rfl, rfl, rfl, rfl⟩ ⟨rfl, rfl, rfl, rfl⟩ (by decide +kernel) (by decide +kernel) qA_sentence_e qA_sentence_x qGB_sentence_wf hB_sentence (by decide) rfl List.mem_cons_self (List.mem_cons_of_mem _ List.mem_cons_self) (by decide) (by decide +kernel) (by decide +kernel) (by decide +kernel) (by decide +kernel) (by decide +kernel) (by decide +kernel) (by decide +kernel) (by decide +kernel) (hpE_sentence X hXW hXS) hk hag hG hT hW hR
set_option maxRecDepth 16384 in
theorem lq_ (hp : HPx X xs i u 30 267 [3]) (hXW : XW X) (hXS : XS X) (hu : 0 ≤ u) (hu2 : u ≤ 940) (hN : lNext X xs i u) {ρ : Nat → Int} {k : KF} (hk : k.1 = 1189) (hag : ∀ j, j < 9 → ρ j = wind xs i u j) (hG : aGS qEnv qPh ρ qSq k) (hT : kTW qEnv k.2.2.2.1) (hW : kWT k.2.2.2.1) (hR : RW k.2.2.2.1) : TGL X xs k :=
  law_cmn X hu hu2 hN (pcA := 1189) (pcB := 1199) (midA := 30) (midB := 267) (cixA := 10) (cixB := 11) (iA := 172) (iB := 175) (cA := [30]) (cB := [321]) (vs := [3]) (mA := qMA_q) (mB := qMB_q) (S := qSq) (S1 := qSq1) (SB := qSqB) (SC0 := qSqC0) (SC := qSqC) (L1 := qAq) (L3 := qBq) (L4 := qCq) ⟨rfl, rfl, rfl, rfl⟩ ⟨rfl, rfl, rfl, rfl⟩ (by decide +kernel) (by decide +kernel) qAq_e qAq_c (by decide +kernel) rfl rfl qAq_x (by decide +kernel) (by decide) rfl qBq_e qBq_c (by decide +kernel) rfl rfl ⟨rfl, rfl, rfl, rfl, rfl⟩ rfl qCq_e qCq_x (by decide) rfl List.mem_cons_self (List.mem_cons_of_mem _ List.mem_cons_self) (by decide) (by decide +kernel) (by decide +kernel) (by decide +kernel) (by decide +kernel) (by decide +kernel) (by decide +kernel) (by decide +kernel) (by decide +kernel) (by decide +kernel) hp hk hag hG hT hW hR
end LCALLS
set_option maxRecDepth 16384 in
theorem law_TG (X : KO) (hXW : XW X) (hXS : XS X) {xs : List Int32} (hlen : xs.length ≤ 3072) : ∀ (m : Nat) (i u : Int) (k : KF), (xs.length : Int) - i < m → HeadAt 0 (fun _ => 0) i u k → kWT k.2.2.2.1 → RW k.2.2.2.1 → 0 ≤ i → i ≤ (xs.length : Int) → 0 ≤ u → u ≤ 940 → TGL X xs k := by
  intro m
  induction m with
  | zero => intro i u k h1 _ _ _ _ h4 _ _; omega
  | succ m ih =>
    intro i u k h1 hH hW hR hi hi2 hu hu2
    have hG := head_to hlen hH hi hi2 hu hu2
    have hT := hH.2.2.2.2.1
    have hN : lNext X xs i u := by
      intro ρ k' e1 e2 e3 e4 e5 e6
      obtain ⟨hH2, g1, g2, g3⟩ := head_of e1 e4 e3
      have e0 : ρ 0 = (xs.length : Int) := e2 0 (by decide)
      have e9 : ρ 1 = i := e2 1 (by decide)
      rw [e9] at hH2 g3
      rw [e0] at g3
      exact ih (i + 6) (ρ 9) k' (by omega) hH2 e5 e6 (by omega) g3 g1 g2
    have hC : HCT qEnv qPh qModC 9 qGL (wind xs i u) k.2.2.2.1 none kWT (TGL X xs) := by
      intro q hq ρ k' e1 e2 e3 e4 e5 e6 _
      have hR' := RW_fr hR hT e4 e5 qModC_rw qModC_c2 qModC_ex
      rcases List.mem_cons.mp hq with rfl | hq
      · exact hN ρ k' e1 e2 e3 e4 e6 hR'
      rcases List.mem_cons.mp hq with rfl | hq
      · exact law_feed X hu hu2 hN e1 e2 e3 e4 e6 hR'
      rcases List.mem_cons.mp hq with rfl | hq
      · exact lc_sign X hXW hXS hu hu2 hN e1 e2 e3 e4 e6 hR'
      rcases List.mem_cons.mp hq with rfl | hq
      · exact lc_soften X hXW hXS hu hu2 hN e1 e2 e3 e4 e6 hR'
      rcases List.mem_cons.mp hq with rfl | hq
      · exact lc_resent X hXW hXS hu hu2 hN e1 e2 e3 e4 e6 hR'
      rcases List.mem_cons.mp hq with rfl | hq
      · exact lc_retire X hXW hXS hu hu2 hN e1 e2 e3 e4 e6 hR'
      rcases List.mem_cons.mp hq with rfl | hq
      · exact lc_back X hXW hXS hu hu2 hN e1 e2 e3 e4 e6 hR'
      rcases List.mem_cons.mp hq with rfl | hq
      · exact lc_cancel X hXW hXS hu hu2 hN e1 e2 e3 e4 e6 hR'
      rcases List.mem_cons.mp hq with rfl | hq
      · exact lc_lodge X hXW hXS hu hu2 hN e1 e2 e3 e4 e6 hR'
      rcases List.mem_cons.mp hq with rfl | hq
      · exact lc_days X hXW hXS hu hu2 hN e1 e2 e3 e4 e6 hR'
      rcases List.mem_cons.mp hq with rfl | hq
      · exact lc_undo X hXW hXS hu hu2 hN e1 e2 e3 e4 e6 hR'
      rcases List.mem_cons.mp hq with rfl | hq
      · exact lc_drawn X hXW hXS hu hu2 hN e1 e2 e3 e4 e6 hR'
      rcases List.mem_cons.mp hq with rfl | hq
      · exact lc_odds X hXW hXS hu hu2 hN e1 e2 e3 e4 e6 hR'
      rcases List.mem_cons.mp hq with rfl | hq
      · exact lc_image X hXW hXS hu hu2 hN e1 e2 e3 e4 e6 hR'
      rcases List.mem_cons.mp hq with rfl | hq
      · exact lc_restore X hXW hXS hu hu2 hN e1 e2 e3 e4 e6 hR'
      rcases List.mem_cons.mp hq with rfl | hq
      · exact lc_office X hXW hXS hu hu2 hN e1 e2 e3 e4 e6 hR'
      rcases List.mem_cons.mp hq with rfl | hq
      · exact lc_book X hXW hXS hu hu2 hN e1 e2 e3 e4 e6 hR'
      rcases List.mem_cons.mp hq with rfl | hq
      · exact lc_sentence X hXW hXS hu hu2 hN e1 e2 e3 e4 e6 hR'
      have hq := List.mem_singleton.mp hq
      subst hq
      exact lq_ X (hq_said X) hXW hXS hu hu2 hN e1 e2 e3 e4 e6 hR'
    obtain ⟨f, hf⟩ := qLE
    exact ap_go X qGL_wf hC qLA_eq hf hH.1 (fun _ _ => rfl) (by decide) hG hT (kFr.rf _ _ _) hW
