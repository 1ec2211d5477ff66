/-! The world's numbers out of what is known of the world; a call's run out of a step. -/
set_option maxRecDepth 16384 in
def zr : Nat → Int32 := fun _ => 0
set_option maxRecDepth 16384 in
theorem wm_fr {w w' : KW} {a k : Nat} (h : wval w a k = wval w' a k) : wm zr w (a : Int) (k : Int) = wm zr w' (a : Int) (k : Int) := by
  unfold wm
  rw [if_pos (Int.natCast_nonneg _), if_neg (by omega), if_neg (by omega), if_pos (Int.natCast_nonneg _), if_pos (Int.natCast_nonneg _), if_neg (by omega), if_neg (by omega), if_pos (Int.natCast_nonneg _), Int.toNat_natCast, Int.toNat_natCast, h]
set_option maxRecDepth 16384 in
theorem kTW_len {w : KW} (h : kTW qEnv w) {a c t n : Nat} (ha : a < 168) (hd : (qEnv.2.2 (qEnv.2.1 a)).1 = (c, t, n)) (hc : c < 9) : wm zr w (a : Int) (-1) = (n : Int) ∧ wm zr w (a : Int) (-2) = (t : Int) := by
  obtain ⟨e, h1, h2, -⟩ := h.2 a ha
  rw [hd] at h2
  rcases e with ⟨t', n', ⟨l, d⟩ | ⟨l, d⟩ | l⟩ | ⟨ci, fs⟩
  · cases h2; exact ⟨wm_len h1, wm_typ h1⟩
  · cases h2; exact ⟨wm_len h1, wm_typ h1⟩
  · cases h2; exact ⟨wm_len h1, wm_typ h1⟩
  · have : (9, ci, fs.length) = (c, t, n) := h2
    cases this
    omega
set_option maxRecDepth 16384 in
theorem kTW_ref {w : KW} (h : kTW qEnv w) {a k r : Nat} (ha : a < 168) (hk : k < (qEnv.2.2 (qEnv.2.1 a)).1.2.2) (hs : ksg (qEnv.2.2 (qEnv.2.1 a)).2 k = (2, (r : Int), 0)) : wm zr w (a : Int) (k : Int) = (r : Int) := by
  obtain ⟨e, h1, -, h2⟩ := h.2 a ha
  obtain ⟨v, h3, h4⟩ := h2 k hk
  rw [hs] at h4
  have h5 := ((vOK2 (t := (2, (r : Int), 0)) rfl).mp h4).1
  have h6 : wval w a k = some v := by
    unfold wval
    rw [h1]
    exact h3
  rw [wm_val h6, h5]
  rfl
set_option maxRecDepth 16384 in
def kmodb (ms : MOD) (a k : Nat) : Bool := ms.any (fun q => Nat.beq q.1 (qEnv.2.1 a) && (Nat.ble q.2.1 k && Nat.ble k q.2.2))
set_option maxRecDepth 16384 in
theorem kmodb_n {ms : MOD} {a k : Nat} (h : kmodb ms a k = false) : ¬ kmod qEnv ms a k := by
  rintro ⟨q, hq, h1, h2, h3⟩
  have : kmodb ms a k = true := by
    unfold kmodb
    refine List.any_eq_true.mpr ⟨q, hq, ?_⟩
    rw [h1, Nat.beq_refl, Nat.ble_eq.mpr h2, Nat.ble_eq.mpr h3]
    rfl
  rw [this] at h
  cases h
set_option maxRecDepth 16384 in
theorem fr_one {ms : MOD} {w0 w : KW} (hF : kFr qEnv ms w0 w) {a k : Nat} (ha : a < 168) (h : kmodb ms a k = false) : wm zr w (a : Int) (k : Int) = wm zr w0 (a : Int) (k : Int) := wm_fr (hF a k ha (kmodb_n h))
set_option maxRecDepth 16384 in
theorem fr_all {ms : MOD} {w0 w : KW} (hF : kFr qEnv ms w0 w) {a : Nat} (ha : a < 168) (h : ms.all (fun q => !(Nat.beq q.1 (qEnv.2.1 a))) = true) (k : Nat) : wm zr w (a : Int) (k : Int) = wm zr w0 (a : Int) (k : Int) := by
  refine wm_fr (hF a k ha ?_)
  rintro ⟨q, hq, h1, -⟩
  have := List.all_eq_true.mp h q hq
  rw [h1, Nat.beq_refl] at this
  cases this
set_option maxRecDepth 16384 in
/-- fields that are never changed -/
def lls : List (Nat × Nat × Nat) := [(9, 0, 10), (9, 1, 11), (9, 2, 12), (9, 3, 13), (9, 4, 14), (22, 1, 23), (22, 2, 24), (22, 3, 25), (22, 4, 26), (22, 5, 27), (22, 6, 28)]
set_option maxRecDepth 16384 in
def LL (w : KW) : Prop := ∀ q ∈ lls, wm zr w (q.1 : Int) (q.2.1 : Int) = (q.2.2 : Int)
set_option maxRecDepth 16384 in
/-- the tapes alike -/
def RT (w w' : KW) : Prop := ∀ j : Nat, j < 940 → jand (wm zr w 2 (j : Int)) 255 = wm zr w' 149 (j : Int)
set_option maxRecDepth 16384 in
theorem LL_fr {ms : MOD} {w0 w : KW} (h : LL w0) (hF : kFr qEnv ms w0 w) (hb : lls.all (fun q => Nat.blt q.1 168 && !(kmodb ms q.1 q.2.1)) = true) : LL w := by
  intro q hq
  have h1 := Bool.and_eq_true_iff.mp (List.all_eq_true.mp hb q hq)
  have h2 : kmodb ms q.1 q.2.1 = false := by
    cases e : kmodb ms q.1 q.2.1 with
    | false => rfl
    | true => rw [e] at h1; exact absurd h1.2 Bool.false_ne_true
  rw [fr_one hF (Nat.blt_eq.mp h1.1) h2]
  exact h q hq
set_option maxRecDepth 16384 in
theorem RT_l {ms : MOD} {w0 w w' : KW} (h : RT w0 w') (hF : kFr qEnv ms w0 w) (hb : ms.all (fun q => !(Nat.beq q.1 2)) = true) : RT w w' := fun j hj => by
  have := fr_all hF (a := 2) (by decide) hb j
  have e : wm zr w 2 (j : Int) = wm zr w0 2 (j : Int) := this
  rw [e]; exact h j hj
set_option maxRecDepth 16384 in
theorem RT_r {ms : MOD} {w0 w w' : KW} (h : RT w' w0) (hF : kFr qEnv ms w0 w) (hb : ms.all (fun q => !(Nat.beq q.1 22)) = true) : RT w' w := fun j hj => by
  have := fr_all hF (a := 149) (by decide) hb j
  have e : wm zr w 149 (j : Int) = wm zr w0 149 (j : Int) := this
  rw [e]; exact h j hj
set_option maxRecDepth 16384 in
theorem TJ_of {wa wb : KW} (ha : kTW qEnv wa) (hb : kTW qEnv wb) (h : RT wa wb) {L : Int} (e1 : wm zr wa 1 1 = L) (e2 : wm zr wb 148 2 = L) (h0 : 0 ≤ L) : TJ (wm zr wa) (wm zr wb) L := by
  have l := kTW_len ha (a := 2) (c := 0) (t := 2) (n := 940) (by decide) rfl (by decide)
  refine ⟨kTW_ref ha (a := 1) (k := 0) (r := 2) (by decide) (by decide) rfl, l.1, l.2, kTW_ref hb (a := 148) (k := 1) (r := 149) (by decide) (by decide) rfl, e1, e2, h0, fun j h1 h2 => ?_⟩
  have := h j.toNat (by omega)
  rw [Int.toNat_of_nonneg h1] at this
  exact this
set_option maxRecDepth 16384 in
theorem TJ_to {wa wb : KW} {L : Int} (h : TJ (wm zr wa) (wm zr wb) L) : RT wa wb := fun j hj => h.2.2.2.2.2.2.2 j (Int.natCast_nonneg _) (by omega)
set_option maxRecDepth 16384 in
theorem OffA_of {w : KW} (h : kTW qEnv w) (hl : LL w) : OffA (wm zr w) := by
  have L : ∀ (a : Nat) (n : Nat), a < 168 → (∃ c t, (qEnv.2.2 (qEnv.2.1 a)).1 = (c, t, n) ∧ c < 9) → wm zr w (a : Int) (-1) = (n : Int) := fun a n ha ⟨c, t, h1, h2⟩ => (kTW_len h ha h1 h2).1
  refine ⟨kTW_ref h (a := 0) (k := 0) (r := 1) (by decide) (by decide) rfl, kTW_ref h (a := 0) (k := 2) (r := 9) (by decide) (by decide) rfl, kTW_ref h (a := 0) (k := 4) (r := 22) (by decide) (by decide) rfl, kTW_ref h (a := 1) (k := 0) (r := 2) (by decide) (by decide) rfl, L 2 940 (by decide) ⟨0, 2, rfl, by decide⟩, ?_, ?_⟩
  · exact ⟨hl (9, 0, 10) (by decide), hl (9, 1, 11) (by decide), hl (9, 2, 12) (by decide), hl (9, 3, 13) (by decide), hl (9, 4, 14) (by decide), hl (22, 1, 23) (by decide)⟩
  · exact ⟨hl (22, 1, 23) (by decide), hl (22, 2, 24) (by decide), hl (22, 3, 25) (by decide), hl (22, 4, 26) (by decide), hl (22, 5, 27) (by decide), hl (22, 6, 28) (by decide), L 23 64 (by decide) ⟨_, _, rfl, by decide⟩, L 24 8 (by decide) ⟨_, _, rfl, by decide⟩, L 25 8 (by decide) ⟨_, _, rfl, by decide⟩, L 26 8 (by decide) ⟨_, _, rfl, by decide⟩, L 27 8 (by decide) ⟨_, _, rfl, by decide⟩, L 28 24 (by decide) ⟨_, _, rfl, by decide⟩⟩
set_option maxRecDepth 16384 in
theorem OffB_of {w : KW} (h : kTW qEnv w) : OffB (wm zr w) := ⟨kTW_ref h (a := 148) (k := 1) (r := 149) (by decide) (by decide) rfl, kTW_ref h (a := 148) (k := 15) (r := 151) (by decide) (by decide) rfl, kTW_ref h (a := 148) (k := 20) (r := 156) (by decide) (by decide) rfl⟩
set_option maxRecDepth 16384 in
theorem TapeR_of {wa wb : KW} (h : RT wa wb) {L : Int} (e1 : wm zr wa 1 1 = L) (e2 : wm zr wb 148 2 = L) (h0 : 0 ≤ L) (h1 : L ≤ 940) : TapeR (wm zr wa) (wm zr wb) L := ⟨e1, e2, h0, h1, fun j j1 j2 => by
  have := h j.toNat (by omega)
  rw [Int.toNat_of_nonneg j1] at this
  exact this⟩
set_option maxRecDepth 16384 in
/-- a known place's number -/
theorem tc_num {ρ : Nat → Int} {S : AS} {k : KF} (hG : aGS qEnv qPh ρ S k) {a c : Nat} {f : LF} (hm : ((a, ((c : Int), [])), (Sum.inl f : AV)) ∈ S.2.2.2.2.2.1) (ha : a < 2000000) : wm zr k.2.2.2.1 (a : Int) (c : Int) = (Int32.ofInt (lev ρ f)).toInt := by
  obtain ⟨-, q⟩ := hG.2.2.2.1 _ hm
  rcases q with q | ⟨-, -, v, q1, q2⟩
  · exact absurd q (Nat.not_le.mpr ha)
  · have q1 : wval k.2.2.2.1 a (lev ρ ((c : Int), [])).toNat = some v := q1
    have e : (lev ρ ((c : Int), [])).toNat = c := by
      show ((c : Int) + 0).toNat = c
      omega
    rw [e] at q1
    have q3 : v = .inl (.int (Int32.ofInt (lev ρ f))) := q2.2
    rw [wm_val q1, q3]
    rfl
set_option maxRecDepth 16384 in
theorem i32_id {x : Int} (h1 : -2147483648 ≤ x) (h2 : x ≤ 2147483647) : (Int32.ofInt x).toInt = x := by
  rw [Int32.toInt_ofInt, Int.bmod_def]
  have : (Int32.size : Int) = 4294967296 := rfl
  rw [this]
  split <;> omega
set_option maxRecDepth 16384 in
theorem kcallV_inv {call : Nat → List KV → KW → Option (Option KV × KW)} {Rc Rs : Nat} {x : KX} {pc : Nat} {lo : List (Nat × KV)} {st : List KV} {w : KW} {c s : Nat} {k : KF} (h : kcallV call Rc Rs x pc lo st w c s = some k) : ∃ (b : Nat) (rest : List KV) (r : Option KV) (w' : KW), st.drop x.2.1 = .inl (.ref b) :: rest ∧ call x.1 (.inl (.ref b) :: (st.take x.2.1).reverse) w = some (r, w') ∧ k.1 = pc + 3 ∧ k.2.1 = lo ∧ k.2.2.1 = r.toList ++ rest ∧ k.2.2.2.1 = w' := by
  unfold kcallV at h
  split at h
  · rename_i b rest hd
    split at h
    · have hq := kcond_inv h
      clear h
      obtain ⟨-, h⟩ := hq
      split at h
      · rename_i r w' hcall
        cases h
        exact ⟨b, rest, r, w', hd, hcall, rfl, rfl, rfl, rfl⟩
      · cases h
    · cases h
  · cases h
