/-! Each pair of calls, as the law's round wants it. -/
set_option maxRecDepth 16384 in
theorem kTW_int {w : KW} (h : kTW qEnv w) {a k : Nat} {lo hi : Int} (ha : a < 168) (hk : k < (qEnv.2.2 (qEnv.2.1 a)).1.2.2) (hs : ksg (qEnv.2.2 (qEnv.2.1 a)).2 k = (0, lo, hi)) : lo ≤ wm zr w (a : Int) (k : Int) ∧ wm zr w (a : Int) (k : Int) ≤ hi ∧ s32 (wm zr w (a : Int) (k : Int)) = wm zr w (a : Int) (k : Int) := by
  obtain ⟨e, h1, -, h2⟩ := h.2 a ha
  obtain ⟨v, h3, h4⟩ := h2 k hk
  rw [hs] at h4
  obtain ⟨x, h5, h7, h8⟩ := (vOK0 (t := (0, lo, hi)) rfl).mp h4
  have h6 : wval w a k = some v := by
    unfold wval
    rw [h1]
    exact h3
  rw [wm_val h6, h5]
  refine ⟨h7, h8, ?_⟩
  show s32 x.toInt = x.toInt
  exact s32_id (Int32.le_toInt x) (Int32.toInt_lt x)
set_option maxRecDepth 16384 in
theorem kTW_knd {w : KW} (h : kTW qEnv w) {a k t : Nat} (ha : a < 168) (hk : k < (qEnv.2.2 (qEnv.2.1 a)).1.2.2) (hs : ksg (qEnv.2.2 (qEnv.2.1 a)).2 k = (3, (t : Int), 0)) : ∃ r : Nat, wm zr w (a : Int) (k : Int) = (r : Int) ∧ qEnv.2.1 r = t := by
  obtain ⟨e, h1, -, h2⟩ := h.2 a ha
  obtain ⟨v, h3, h4⟩ := h2 k hk
  rw [hs] at h4
  obtain ⟨r, h5, -, h7⟩ := (vOK3 (t := (3, (t : Int), 0)) rfl).mp h4
  have h6 : wval w a k = some v := by
    unfold wval
    rw [h1]
    exact h3
  refine ⟨r, ?_, h7⟩
  rw [wm_val h6, h5]
  rfl
set_option maxRecDepth 16384 in
theorem S11_of {w : KW} (h : kTW qEnv w) : S11 (wm zr w) := by
  obtain ⟨r, h1, h2⟩ := kTW_knd h (a := 0) (k := 11) (t := 18) (by decide) (by decide) rfl
  have h3 : r < 168 := by
    by_cases c : r < 168
    · exact c
    · have e : qEnv.2.1 r = bif Nat.ble 1000100 r && Nat.ble r 1000129 then 60 else 61 := qTau_out (by omega)
      rw [e] at h2
      cases q : Nat.ble 1000100 r && Nat.ble r 1000129 <;> rw [q] at h2 <;> exact absurd h2 (by decide)
  have h4 : (List.range 168).all (fun r => !(Nat.beq (qEnv.2.1 r) 18) || (Nat.beq r 100 || (Nat.beq r 105 || (Nat.beq r 117 || Nat.beq r 136)))) = true := by decide +kernel
  have h5 := List.all_eq_true.mp h4 r (List.mem_range.mpr h3)
  rw [h2, Nat.beq_refl] at h5
  simp only [Bool.not_true, Bool.false_or, Bool.or_eq_true, Nat.beq_eq] at h5
  have h1 : wm zr w 0 11 = (r : Int) := h1
  unfold S11
  rw [h1]
  omega
section HP
variable (X : KO) {xs : List Int32} {i u : Int}
abbrev ivx (xs : List Int32) (i u : Int) (v : Nat) : Nat × Int := (1, kc zr (iv (wind xs i u) v))
set_option maxRecDepth 16384 in
/-- what a state's pair is -/
def HPt (X : KO) (xs : List Int32) (i u : Int) (mA mB : Nat) (vs : List Nat) : Prop := ∀ (wa wa' wb wb' : KW) (rl rl' : List (Nat × Int)), PH u wa wa' wb wb' → Run X zr mA ((1, 0) :: vs.reverse.map (fun v => (1, kc zr (iv (wind xs i u) v)))) (wm zr wa) rl (wm zr wa') → Run X zr mB ((1, 148) :: vs.reverse.map (fun v => (1, kc zr (iv (wind xs i u) v)))) (wm zr wb) rl' (wm zr wb') → C2 (wm zr wa') (wm zr wb')
set_option maxRecDepth 16384 in
theorem hp_sign : HPt X xs i u 33 272 [4, 3] := fun wa wa' wb wb' rl rl' hP ra rb => by
  obtain ⟨-, -, -, -, -, -, hC, -⟩ := hP
  have ra : Run X zr 33 [(1, 0), ivx xs i u 3, ivx xs i u 4] (wm zr wa) rl (wm zr wa') := ra
  have rb : Run X zr 272 [(1, 148), ivx xs i u 3, ivx xs i u 4] (wm zr wb) rl' (wm zr wb') := rb
  rw [(d33 ra).2, (d272 rb).2]
  exact C2_1 hC (sign_pair hC.1 _ _).2
set_option maxRecDepth 16384 in
theorem hp_soften : HPt X xs i u 34 277 [4, 3] := fun wa wa' wb wb' rl rl' hP ra rb => by
  obtain ⟨-, -, -, -, -, -, hC, -⟩ := hP
  have ra : Run X zr 34 [(1, 0), ivx xs i u 3, ivx xs i u 4] (wm zr wa) rl (wm zr wa') := ra
  have rb : Run X zr 277 [(1, 148), ivx xs i u 3, ivx xs i u 4] (wm zr wb) rl' (wm zr wb') := rb
  rw [(d34 ra).2, (d277 rb).2]
  exact C2_1 hC (soften_pair hC.1 _ _).2
set_option maxRecDepth 16384 in
theorem hp_resent : HPt X xs i u 27 264 [4, 3] := fun wa wa' wb wb' rl rl' hP ra rb => by
  obtain ⟨-, -, -, -, -, -, hC, -⟩ := hP
  have ra : Run X zr 27 [(1, 0), ivx xs i u 3, ivx xs i u 4] (wm zr wa) rl (wm zr wa') := ra
  have rb : Run X zr 264 [(1, 148), ivx xs i u 3, ivx xs i u 4] (wm zr wb) rl' (wm zr wb') := rb
  rw [(d27 ra).2, (d264 rb).2]
  exact C2_1 hC (resent_pair hC.1 _ _).2
set_option maxRecDepth 16384 in
theorem hp_retire : HPt X xs i u 29 266 [3] := fun wa wa' wb wb' rl rl' hP ra rb => by
  obtain ⟨-, -, -, -, -, -, hC, -⟩ := hP
  have ra : Run X zr 29 [(1, 0), ivx xs i u 3] (wm zr wa) rl (wm zr wa') := ra
  have rb : Run X zr 266 [(1, 148), ivx xs i u 3] (wm zr wb) rl' (wm zr wb') := rb
  rw [(d29 ra).2, (d266 rb).2]
  exact C2_1 hC (retire_pair hC.1 _).2
set_option maxRecDepth 16384 in
theorem hp_back : HPt X xs i u 2 167 [3] := fun wa wa' wb wb' rl rl' hP ra rb => by
  obtain ⟨-, -, -, -, -, -, hC, -⟩ := hP
  have ra : Run X zr 2 [(1, 0), ivx xs i u 3] (wm zr wa) rl (wm zr wa') := ra
  have rb : Run X zr 167 [(1, 148), ivx xs i u 3] (wm zr wb) rl' (wm zr wb') := rb
  rw [(d2 ra).2, (d167 rb).2]
  exact C2_1 hC (back_pair hC.1 _).2
set_option maxRecDepth 16384 in
theorem hp_cancel : HPt X xs i u 6 175 [3] := fun wa wa' wb wb' rl rl' hP ra rb => by
  obtain ⟨-, -, -, -, -, -, hC, -⟩ := hP
  have ra : Run X zr 6 [(1, 0), ivx xs i u 3] (wm zr wa) rl (wm zr wa') := ra
  have rb : Run X zr 175 [(1, 148), ivx xs i u 3] (wm zr wb) rl' (wm zr wb') := rb
  rw [(d6 ra).2, (d175 rb).2]
  exact C2_1 hC (cancel_pair hC.1 _).2
set_option maxRecDepth 16384 in
theorem hp_lodge : HPt X xs i u 19 223 [3] := fun wa wa' wb wb' rl rl' hP ra rb => by
  obtain ⟨-, -, -, -, -, -, hC, -⟩ := hP
  have ra : Run X zr 19 [(1, 0), ivx xs i u 3] (wm zr wa) rl (wm zr wa') := ra
  have rb : Run X zr 223 [(1, 148), ivx xs i u 3] (wm zr wb) rl' (wm zr wb') := rb
  rw [(d19 ra).2, (d223 rb).2]
  exact C2_1 hC (lodge_pair hC.1 _).2
set_option maxRecDepth 16384 in
theorem hp_days : HPt X xs i u 10 180 [3] := fun wa wa' wb wb' rl rl' hP ra rb => by
  obtain ⟨-, -, -, -, -, -, hC, -⟩ := hP
  have ra : Run X zr 10 [(1, 0), ivx xs i u 3] (wm zr wa) rl (wm zr wa') := ra
  have rb : Run X zr 180 [(1, 148), ivx xs i u 3] (wm zr wb) rl' (wm zr wb') := rb
  rw [(d10 ra).2, (d180 rb).2]
  exact C2_1 hC (days_pair hC.1 _).2
set_option maxRecDepth 16384 in
theorem hp_undo : HPt X xs i u 37 288 [] := fun wa wa' wb wb' rl rl' hP ra rb => by
  obtain ⟨-, -, -, -, -, -, hC, -⟩ := hP
  have ra : Run X zr 37 [(1, 0)] (wm zr wa) rl (wm zr wa') := ra
  have rb : Run X zr 288 [(1, 148)] (wm zr wb) rl' (wm zr wb') := rb
  rw [(d37 ra).2, (d288 rb).2]
  exact C2_1 hC (undo_pair hC.1).2
set_option maxRecDepth 16384 in
theorem hp_drawn : HPt X xs i u 11 184 [4, 3] := fun wa wa' wb wb' rl rl' hP ra rb => by
  obtain ⟨-, -, -, -, -, -, hC, -⟩ := hP
  have ra : Run X zr 11 [(1, 0), ivx xs i u 3, ivx xs i u 4] (wm zr wa) rl (wm zr wa') := ra
  have rb : Run X zr 184 [(1, 148), ivx xs i u 3, ivx xs i u 4] (wm zr wb) rl' (wm zr wb') := rb
  rw [(d11 ra).2, (d184 rb).2]
  exact C2_1 hC (drawn_pair hC.1 _ _).2
set_option maxRecDepth 16384 in
theorem hp_odds : HPt X xs i u 24 229 [5, 4, 3] := fun wa wa' wb wb' rl rl' hP ra rb => by
  obtain ⟨-, -, hb, -, -, -, hC, -⟩ := hP
  have ra : Run X zr 24 [(1, 0), ivx xs i u 3, ivx xs i u 4, ivx xs i u 5] (wm zr wa) rl (wm zr wa') := ra
  have rb : Run X zr 229 [(1, 148), ivx xs i u 3, ivx xs i u 4, ivx xs i u 5] (wm zr wb) rl' (wm zr wb') := rb
  rw [(d24 ra).2, (d229 rb).2]
  exact (odds_pair hC (kTW_ref hb (a := 148) (k := 18) (r := 154) (by decide) (by decide) rfl) _ _ _).2
set_option maxRecDepth 16384 in
theorem hp_image : HPt X xs i u 18 205 [3] := fun wa wa' wb wb' rl rl' hP ra rb => by
  obtain ⟨ha, -, -, -, -, -, hC, -⟩ := hP
  have ra : Run X zr 18 [(1, 0), ivx xs i u 3] (wm zr wa) rl (wm zr wa') := ra
  have rb : Run X zr 205 [(1, 148), ivx xs i u 3] (wm zr wb) rl' (wm zr wb') := rb
  rw [(d18 ra).2, (d205 rb).2]
  exact (image_pair hC (S11_of ha) _).2
set_option maxRecDepth 16384 in
theorem hp_restore : HPt X xs i u 28 265 [3] := fun wa wa' wb wb' rl rl' hP ra rb => by
  obtain ⟨ha, -, -, -, -, -, hC, -⟩ := hP
  have ra : Run X zr 28 [(1, 0), ivx xs i u 3] (wm zr wa) rl (wm zr wa') := ra
  have rb : Run X zr 265 [(1, 148), ivx xs i u 3] (wm zr wb) rl' (wm zr wb') := rb
  rw [(d28 ra).2, (d265 rb).2]
  exact (restore_pair hC (S11_of ha) _).2
set_option maxRecDepth 16384 in
theorem hp_office (hXW : XW X) (hXS : XS X) : HPt X xs i u 25 230 [] := fun wa wa' wb wb' rl rl' hP ra rb => by
  obtain ⟨ha, ha', hb, -, hL, -, hC, hT⟩ := hP
  have ra : Run X zr 25 [(1, 0)] (wm zr wa) rl (wm zr wa') := ra
  have rb : Run X zr 230 [(1, 148)] (wm zr wb) rl' (wm zr wb') := rb
  refine office_c2 hXW hXS hC (S11_of ha) (OffA_of ha hL) (OffB_of hb) hT ?_ (fun k k0 k1 => ?_) ?_ ra rb
  · have q := kTW_int ha' (a := 3) (k := 8) (lo := 0) (hi := 1) (by decide) (by decide) rfl
    have q1 : 0 ≤ wm zr wa' 3 8 := q.1
    have q2 : wm zr wa' 3 8 ≤ 1 := q.2.1
    omega
  · obtain ⟨j, rfl⟩ : ∃ j : Nat, k = (j : Int) := ⟨k.toNat, by omega⟩
    have hj : j < 8 := by omega
    have hs : ksg (qEnv.2.2 (qEnv.2.1 8)).2 j = (0, -2147483648, 2147483647) := by
      match j, hj with
      | 0, _ => rfl
      | 1, _ => rfl
      | 2, _ => rfl
      | 3, _ => rfl
      | 4, _ => rfl
      | 5, _ => rfl
      | 6, _ => rfl
      | 7, _ => rfl
      | n + 8, h => omega
    exact (kTW_int ha' (a := 8) (k := j) (by decide) (by show j < 8; omega) hs).2.2
  · exact (kTW_int ha' (a := 15) (k := 7) (lo := -2147483648) (hi := 2147483647) (by decide) (by decide) rfl).2.2
set_option maxRecDepth 16384 in
theorem hp_book (hXW : XW X) (hXS : XS X) : HPt X xs i u 3 171 [3] := fun wa wa' wb wb' rl rl' hP ra rb => by
  obtain ⟨ha, -, hb, -, hL, hL2, hC, hT⟩ := hP
  have ra : Run X zr 3 [(1, 0), ivx xs i u 3] (wm zr wa) rl (wm zr wa') := ra
  have rb : Run X zr 171 [(1, 148), ivx xs i u 3] (wm zr wb) rl' (wm zr wb') := rb
  have L : ∀ (a : Nat) (n : Nat), a < 168 → (∃ c t, (qEnv.2.2 (qEnv.2.1 a)).1 = (c, t, n) ∧ c < 9) → wm zr wa (a : Int) (-1) = (n : Int) := fun a n ha' ⟨c, t, h1, h2⟩ => (kTW_len ha ha' h1 h2).1
  have hBL : BLay (wm zr wa) (wm zr wb) := ⟨⟨hL2 (96, 0, 97) (by decide), hL2 (96, 1, 98) (by decide), hL2 (96, 2, 99) (by decide), L 97 40 (by decide) ⟨_, _, rfl, by decide⟩, L 98 40 (by decide) ⟨_, _, rfl, by decide⟩, L 99 40 (by decide) ⟨_, _, rfl, by decide⟩⟩, kTW_ref hb (a := 148) (k := 36) (r := 164) (by decide) (by decide) rfl⟩
  exact (book_pair hXW hXS hC hBL hT (kTW_ref ha (a := 0) (k := 0) (r := 1) (by decide) (by decide) rfl) (kTW_ref ha (a := 0) (k := 10) (r := 96) (by decide) (by decide) rfl) (kTW_ref ha (a := 1) (k := 0) (r := 2) (by decide) (by decide) rfl) (L 2 940 (by decide) ⟨_, _, rfl, by decide⟩) (kTW_ref hb (a := 148) (k := 1) (r := 149) (by decide) (by decide) rfl) (kTW_ref hb (a := 148) (k := 18) (r := 154) (by decide) (by decide) rfl) (kTW_ref hb (a := 148) (k := 37) (r := 165) (by decide) (by decide) rfl) ra rb).1
end HP
