section
/-! A run as numbers, step by step: what a run that ends says of the run behind its first step. -/
abbrev CL : Type := Nat → List KV → KW → Option (Option KV × KW)
set_option maxRecDepth 16384 in
def kat (prog : List KEnt) (pc : Nat) : Option (Instr × KX) := match kfrom prog pc with
  | [] => none
  | e :: _ => bif Nat.beq e.1 pc then some e.2 else none
set_option maxRecDepth 16384 in
def lrel (ρ : Nat → Int32) (lo : List (Nat × KV)) (l : List Int) : Prop := ∀ q ∈ lo, l.getD q.1 0 = kc ρ q.2
set_option maxRecDepth 16384 in
def CR (PC : CL → Prop) (X : KO) (ρ : Nat → Int32) (rg : List (Int × Int)) (L nL Rc Rs : Nat) (prog : List KEnt) (N pc : Nat) (l : List Int) (S : List (Nat × Int)) (m : MM) (o : Instr × List (Nat × Int) × MM) : Prop := ∃ (call : CL) (n : Nat) (lo : List (Nat × KV)) (st : List KV) (w : KW) (c s : Nat) (k : KF), (PC call ∧ kPrC call) ∧ n ≤ N ∧ kWT w ∧ lrel ρ lo l ∧ st.map (kcc ρ) = S ∧ wm ρ w = m ∧ krx call X rg L nL Rc Rs prog n (pc, lo, st, w, c, s) = some (o.1, k) ∧ k.2.2.1.map (kcc ρ) = o.2.1 ∧ wm ρ k.2.2.2.1 = o.2.2
set_option maxRecDepth 16384 in
theorem kat_inv {prog : List KEnt} {pc : Nat} {ig : Instr} {x : KX} (h : kat prog pc = some (ig, x)) : ∃ l, kfrom prog pc = (pc, ig, x) :: l := by
  unfold kat at h
  split at h
  · cases h
  · rename_i e l hk
    obtain ⟨hb, h⟩ := kcond_inv h
    obtain ⟨a, b⟩ := e
    cases h
    obtain rfl : a = pc := kb_t hb
    exact ⟨l, hk⟩
set_option maxRecDepth 16384 in
def cdP (cnd : Jvm.ClassFile.Cond) (a b : Int) : Prop := match cnd with
  | .eq => a = b
  | .ne => ¬ a = b
  | .lt => a < b
  | .ge => b ≤ a
  | .gt => b < a
  | .le => a ≤ b
set_option maxRecDepth 16384 in
theorem kcondc_ok {rg : List (Int × Int)} {ρ : Nat → Int32} (hr : kRg rg ρ) {cnd : Jvm.ClassFile.Cond} {a b : KV} {r : Bool} (ha : kisI a = true) (hb : kisI b = true) (h : kcond rg cnd a b = some r) : r = true ↔ cdP cnd (kc ρ a) (kc ρ b) := by
  have e1 : ∀ x y : KV, kisI x = true → kisI y = true → ((kiv ρ x < kiv ρ y) ↔ kc ρ x < kc ρ y) := fun x y hx hy => by
    rw [(kc_int hx).1, (kc_int hy).1]; exact Int32.lt_iff_toInt_lt
  have e2 : ∀ x y : KV, kisI x = true → kisI y = true → ((kiv ρ x = kiv ρ y) ↔ kc ρ x = kc ρ y) := fun x y hx hy => by
    rw [(kc_int hx).1, (kc_int hy).1]; exact Int32.toInt_inj.symm
  have e3 : ∀ {o : Option Bool} {r : Bool}, o.map not = some r → o = some (!r) := fun {o r} h => by
    cases o with
    | none => cases h
    | some v => cases h; cases v <;> rfl
  have e4 : ∀ {r : Bool}, r = true ↔ ¬ ((!r) = true) := fun {r} => by cases r <;> decide
  cases cnd with
  | eq => exact (keq_ok hr h).trans (e2 a b ha hb)
  | ne => exact e4.trans (not_congr ((keq_ok hr (e3 h)).trans (e2 a b ha hb)))
  | lt => exact (klt_ok hr h).trans (e1 a b ha hb)
  | ge => exact (e4.trans (not_congr ((klt_ok hr (e3 h)).trans (e1 a b ha hb)))).trans Int.not_lt
  | gt => exact (klt_ok hr h).trans (e1 b a hb ha)
  | le => exact (e4.trans (not_congr ((klt_ok hr (e3 h)).trans (e1 b a hb ha)))).trans Int.not_lt
set_option maxRecDepth 16384 in
theorem getD_set_eq {l : List Int} {i : Nat} (h : i < l.length) (e : Int) : (l.set i e).getD i 0 = e := by
  rw [List.getD_eq_getElem?_getD, List.getElem?_set_self h]
  rfl
set_option maxRecDepth 16384 in
theorem getD_set_ne {l : List Int} {i j : Nat} (h : i ≠ j) (e : Int) : (l.set i e).getD j 0 = l.getD j 0 := by
  rw [List.getD_eq_getElem?_getD, List.getD_eq_getElem?_getD, List.getElem?_set_ne h]
set_option maxRecDepth 16384 in
theorem lrel_lo {ρ : Nat → Int32} {lo : List (Nat × KV)} {l : List Int} (h : lrel ρ lo l) {i : Nat} {v : KV} (hi : i < l.length) : lrel ρ (klo lo i v) (l.set i (kc ρ v)) := by
  intro q hq
  rcases List.mem_cons.mp hq with rfl | hq
  · exact getD_set_eq hi _
  · rw [kflt_eq] at hq
    obtain ⟨h1, h2⟩ := List.mem_filter.mp hq
    have h2 := (Bool.and_eq_true_iff.mp h2).1
    have : ¬ q.1 = i := fun e => by rw [e, beq_self_eq_true] at h2; cases h2
    rw [getD_set_ne (fun e => this e.symm)]
    exact h q h1
set_option maxRecDepth 16384 in
theorem lrel_lo2 {ρ : Nat → Int32} {lo : List (Nat × KV)} {l : List Int} (h : lrel ρ lo l) {i : Nat} {v : KV} (hi : i < l.length) : lrel ρ (klo2 lo i v) (l.set i (kc ρ v)) := by
  intro q hq
  rcases List.mem_cons.mp hq with rfl | hq
  · exact getD_set_eq hi _
  · obtain ⟨h1, h2⟩ := List.mem_filter.mp hq
    have h2 := (Bool.and_eq_true_iff.mp h2).1
    have : ¬ q.1 = i := fun e => by rw [e, beq_self_eq_true] at h2; cases h2
    rw [getD_set_ne (fun e => this e.symm)]
    exact h q h1
set_option maxRecDepth 16384 in
theorem s32_ex : ∃ f : Int → Int, ∀ z, f z = (Int32.ofInt z).toInt := ⟨_, fun _ => rfl⟩
set_option maxRecDepth 16384 in
noncomputable def s32 : Int → Int := Classical.choose s32_ex
set_option maxRecDepth 16384 in
theorem s32_eq (z : Int) : s32 z = (Int32.ofInt z).toInt := Classical.choose_spec s32_ex z
set_option maxRecDepth 16384 in
theorem s64_ex : ∃ f : Int → Int, ∀ z, f z = (Int64.ofInt z).toInt := ⟨_, fun _ => rfl⟩
set_option maxRecDepth 16384 in
noncomputable def s64 : Int → Int := Classical.choose s64_ex
set_option maxRecDepth 16384 in
theorem s64_eq (z : Int) : s64 z = (Int64.ofInt z).toInt := Classical.choose_spec s64_ex z
set_option maxRecDepth 16384 in
theorem s32_id {z : Int} (h1 : -2147483648 ≤ z) (h2 : z < 2147483648) : s32 z = z := (s32_eq z).trans (Int32.toInt_ofInt_of_le h1 h2)
set_option maxRecDepth 16384 in
theorem s64_id {z : Int} (h1 : -9223372036854775808 ≤ z) (h2 : z < 9223372036854775808) : s64 z = z := (s64_eq z).trans (Int64.toInt_ofInt_of_le h1 h2)
set_option maxRecDepth 16384 in
def o32 (f : Int32 → Int32 → Int32) (a b : Int) : Int := (f (Int32.ofInt a) (Int32.ofInt b)).toInt
set_option maxRecDepth 16384 in
theorem o32_add (a b : Int) : o32 (fun a b => a + b) a b = s32 (a + b) := by
  rw [s32_eq]; unfold o32; rw [Int32.ofInt_add]
set_option maxRecDepth 16384 in
theorem o32_sub (a b : Int) : o32 (fun a b => a - b) a b = s32 (a - b) := by
  rw [s32_eq]; unfold o32; rw [Int32.ofInt_sub]
set_option maxRecDepth 16384 in
theorem o32_mul (a b : Int) : o32 (fun a b => a * b) a b = s32 (a * b) := by
  rw [s32_eq]; unfold o32; rw [Int32.ofInt_mul]
set_option maxRecDepth 16384 in
def o64 (f : Int64 → Int64 → Int64) (a b : Int) : Int := (f (Int64.ofInt a) (Int64.ofInt b)).toInt
set_option maxRecDepth 16384 in
theorem o64_add (a b : Int) : o64 (fun a b => a + b) a b = s64 (a + b) := by
  rw [s64_eq]; unfold o64; rw [Int64.ofInt_add]
set_option maxRecDepth 16384 in
theorem o64_sub (a b : Int) : o64 (fun a b => a - b) a b = s64 (a - b) := by
  rw [s64_eq]; unfold o64; rw [Int64.ofInt_sub]
set_option maxRecDepth 16384 in
theorem o64_mul (a b : Int) : o64 (fun a b => a * b) a b = s64 (a * b) := by
  rw [s64_eq]; unfold o64; rw [Int64.ofInt_mul]
section CRS
variable {PC : CL → Prop} {X : KO} {ρ : Nat → Int32} {rg : List (Int × Int)} {L nL Rc Rs : Nat} {prog : List KEnt} {N pc : Nat} {l : List Int} {S : List (Nat × Int)} {m : MM} {o : Instr × List (Nat × Int) × MM} {ig : Instr} {x : KX}
set_option maxRecDepth 16384 in
theorem CR_s (h : CR PC X ρ rg L nL Rc Rs prog N pc l S m o) (hp : kat prog pc = some (ig, x)) (he : kendx ig = false) : ∃ (call : CL) (n : Nat) (lo : List (Nat × KV)) (st : List KV) (w : KW) (c s : Nat) (k : KF), (PC call ∧ kPrC call) ∧ n + 1 ≤ N ∧ kWT w ∧ lrel ρ lo l ∧ st.map (kcc ρ) = S ∧ wm ρ w = m ∧ kdx ig X call rg L nL Rc Rs x pc lo st w c s = some k ∧ ∀ (N' : Nat) (l' : List Int) (S' : List (Nat × Int)) (m' : MM), n ≤ N' → lrel ρ k.2.1 l' → k.2.2.1.map (kcc ρ) = S' → wm ρ k.2.2.2.1 = m' → CR PC X ρ rg L nL Rc Rs prog N' k.1 l' S' m' o := by
  obtain ⟨call, n, lo, st, w, c, s, k, h1, h2, h3, h4, h5, h6, h7, h8, h9⟩ := h
  obtain ⟨r, hk⟩ := kat_inv hp
  cases n with
  | zero => cases h7
  | succ n =>
    unfold krx at h7
    rw [hk] at h7
    simp only [kb_r rfl, cond_true, he, cond_false] at h7
    split at h7
    · cases h7
    · rename_i k1 hk1
      exact ⟨call, n, lo, st, w, c, s, k1, h1, h2, h3, h4, h5, h6, hk1, fun N' l' S' m' g1 g2 g3 g4 => ⟨call, n, k1.2.1, k1.2.2.1, k1.2.2.2.1, k1.2.2.2.2.1, k1.2.2.2.2.2, k, h1, g1, kdx_pr he h1.2 h3 k1 hk1, g2, g3, g4, h7, h8, h9⟩⟩
set_option maxRecDepth 16384 in
theorem CR_end (h : CR PC X ρ rg L nL Rc Rs prog N pc l S m o) (hp : kat prog pc = some (ig, x)) (he : kendx ig = true) : o = (ig, S, m) := by
  obtain ⟨call, n, lo, st, w, c, s, k, h1, h2, h3, h4, h5, h6, h7, h8, h9⟩ := h
  obtain ⟨r, hk⟩ := kat_inv hp
  cases n with
  | zero => cases h7
  | succ n =>
    unfold krx at h7
    rw [hk] at h7
    simp only [kb_r rfl, cond_true, he] at h7
    obtain ⟨a, b, d⟩ := o
    cases h7
    exact Prod.ext rfl (Prod.ext (h8.symm.trans h5) (h9.symm.trans h6))
set_option maxRecDepth 16384 in
theorem kcc_cons {st : List KV} {t : Nat} {e : Int} {S : List (Nat × Int)} (h : st.map (kcc ρ) = (t, e) :: S) : ∃ v r, st = v :: r ∧ kcat v = t ∧ kc ρ v = e ∧ r.map (kcc ρ) = S := by
  cases st with
  | nil => cases h
  | cons v r =>
    rw [List.map_cons] at h
    injection h with h1 h2
    exact ⟨v, r, rfl, congrArg Prod.fst h1, congrArg Prod.snd h1, h2⟩
set_option maxRecDepth 16384 in
theorem CR_push {len : Nat} {v : KV} {t : Nat} {z : Int} (h : CR PC X ρ rg L nL Rc Rs prog N pc l S m o) (hp : kat prog pc = some (ig, x)) (he : kendx ig = false) (hk : ∀ (call : CL) (lo : List (Nat × KV)) (st : List KV) (w : KW) (c s : Nat), kdx ig X call rg L nL Rc Rs x pc lo st w c s = some (pc + len, lo, v :: st, w, c, s)) (hv : kcc ρ v = (t, z)) : CR PC X ρ rg L nL Rc Rs prog N (pc + len) l ((t, z) :: S) m o := by
  obtain ⟨call, n, lo, st, w, c, s, k, h1, h2, h3, h4, h5, h6, h7, hc⟩ := CR_s h hp he
  rw [hk] at h7
  cases h7
  exact hc N l _ m (by omega) h4 (by rw [List.map_cons, hv, h5]) h6
set_option maxRecDepth 16384 in
theorem CR_ld {ok : KV → Bool} {i len t : Nat} (h : CR PC X ρ rg L nL Rc Rs prog N pc l S m o) (hp : kat prog pc = some (ig, x)) (he : kendx ig = false) (hk : ∀ (call : CL) (lo : List (Nat × KV)) (st : List KV) (w : KW) (c s : Nat), kdx ig X call rg L nL Rc Rs x pc lo st w c s = kld ok i len pc lo st w c s) (hok : ∀ v, ok v = true → kcat v = t) : CR PC X ρ rg L nL Rc Rs prog N (pc + len) l ((t, l.getD i 0) :: S) m o := by
  obtain ⟨call, n, lo, st, w, c, s, k, h1, h2, h3, h4, h5, h6, h7, hc⟩ := CR_s h hp he
  rw [hk] at h7
  unfold kld at h7
  split at h7
  · rename_i v hv
    obtain ⟨hb, h7⟩ := kcond_inv h7
    cases h7
    refine hc N l _ m (by omega) h4 ?_ h6
    rw [List.map_cons, h5]
    congr 1
    exact Prod.ext (hok v hb) (h4 _ (klook_mem hv)).symm
  · cases h7
set_option maxRecDepth 16384 in
theorem okI_cat (v : KV) (h : kisI v = true) : kcat v = 1 := (kc_int (ρ := fun _ => 0) h).2
set_option maxRecDepth 16384 in
theorem okQ_cat (v : KV) (h : kisQ v = true) : kcat v = 1 := by
  rcases kisQ_eq h with ⟨a, rfl⟩ | rfl <;> rfl
set_option maxRecDepth 16384 in
theorem okG_cat (v : KV) (h : kisG v = true) : kcat v = 2 := by
  obtain ⟨x, rfl⟩ := kisG_eq h
  rfl
set_option maxRecDepth 16384 in
theorem CR_st {ok : KV → Bool} {i len t : Nat} {e : Int} (h : CR PC X ρ rg L nL Rc Rs prog N pc l ((t, e) :: S) m o) (hp : kat prog pc = some (ig, x)) (he : kendx ig = false) (hk : ∀ (call : CL) (lo : List (Nat × KV)) (st : List KV) (w : KW) (c s : Nat), kdx ig X call rg L nL Rc Rs x pc lo st w c s = kst ok i len nL pc lo st w c s) (hl : i < l.length) : CR PC X ρ rg L nL Rc Rs prog N (pc + len) (l.set i e) S m o := by
  obtain ⟨call, n, lo, st, w, c, s, k, h1, h2, h3, h4, h5, h6, h7, hc⟩ := CR_s h hp he
  obtain ⟨v, r, rfl, h8, h9, h10⟩ := kcc_cons h5
  rw [hk] at h7
  obtain ⟨hb, h7⟩ := kcond_inv h7
  cases h7
  exact hc N _ S m (by omega) (by rw [← h9]; exact lrel_lo h4 hl) h10 h6
set_option maxRecDepth 16384 in
theorem CR_st2 {i len t : Nat} {e : Int} (h : CR PC X ρ rg L nL Rc Rs prog N pc l ((t, e) :: S) m o) (hp : kat prog pc = some (ig, x)) (he : kendx ig = false) (hk : ∀ (call : CL) (lo : List (Nat × KV)) (st : List KV) (w : KW) (c s : Nat), kdx ig X call rg L nL Rc Rs x pc lo st w c s = kst2 i len nL pc lo st w c s) (hl : i < l.length) : CR PC X ρ rg L nL Rc Rs prog N (pc + len) (l.set i e) S m o := by
  obtain ⟨call, n, lo, st, w, c, s, k, h1, h2, h3, h4, h5, h6, h7, hc⟩ := CR_s h hp he
  obtain ⟨v, r, rfl, h8, h9, h10⟩ := kcc_cons h5
  rw [hk] at h7
  unfold kst2 at h7
  split at h7
  · rename_i y rest hst
    cases hst
    obtain ⟨hb, h7⟩ := kcond_inv h7
    cases h7
    exact hc N _ S m (by omega) (by rw [← h9]; exact lrel_lo2 h4 hl) h10 h6
  · cases h7
set_option maxRecDepth 16384 in
theorem CR_inc {i : Nat} {z : Int} (h : CR PC X ρ rg L nL Rc Rs prog N pc l S m o) (hp : kat prog pc = some (.iinc i z, x)) (hl : i < l.length) : CR PC X ρ rg L nL Rc Rs prog N (pc + 3) (l.set i (s32 (l.getD i 0 + z))) S m o := by
  obtain ⟨call, n, lo, st, w, c, s, k, h1, h2, h3, h4, h5, h6, h7, hc⟩ := CR_s h hp rfl
  have h7 : kinc i z nL pc lo st w c s = some k := h7
  unfold kinc at h7
  split at h7
  · rename_i y hy
    obtain ⟨hb, h7⟩ := kcond_inv h7
    cases h7
    have e1 : l.getD i 0 = y.toInt := h4 _ (klook_mem hy)
    have e2 : s32 (l.getD i 0 + z) = kc ρ (.inl (.int (y + Int32.ofInt z))) := by
      rw [e1, s32_eq]
      show (Int32.ofInt (y.toInt + z)).toInt = (y + Int32.ofInt z).toInt
      rw [Int32.ofInt_add, Int32.ofInt_toInt]
    exact hc N _ S m (by omega) (by rw [e2]; exact lrel_lo h4 hl) h5 h6
  · cases h7
set_option maxRecDepth 16384 in
theorem CR_bin {f : Int32 → Int32 → Int32} {t1 t2 : Nat} {a b : Int} (h : CR PC X ρ rg L nL Rc Rs prog N pc l ((t2, b) :: (t1, a) :: S) m o) (hp : kat prog pc = some (ig, x)) (he : kendx ig = false) (hk : ∀ (call : CL) (lo : List (Nat × KV)) (st : List KV) (w : KW) (c s : Nat), kdx ig X call rg L nL Rc Rs x pc lo st w c s = kbin f pc lo st w c s) : CR PC X ρ rg L nL Rc Rs prog N (pc + 1) l ((1, o32 f a b) :: S) m o := by
  obtain ⟨call, n, lo, st, w, c, s, k, h1, h2, h3, h4, h5, h6, h7, hc⟩ := CR_s h hp he
  obtain ⟨y, r, rfl, h8, h9, h10⟩ := kcc_cons h5
  obtain ⟨u, r, rfl, h11, h12, h13⟩ := kcc_cons h10
  rw [hk] at h7
  obtain ⟨hb, h7⟩ := kcond_inv h7
  cases h7
  have hb := Bool.and_eq_true_iff.mp hb
  refine hc N l _ m (by omega) h4 ?_ h6
  rw [List.map_cons, h13]
  congr 1
  have e := kc_op2 ρ f u y
  refine Prod.ext e.2 (e.1.trans ?_)
  unfold o32
  rw [kiv_kc hb.1, kiv_kc hb.2, h9, h12]
set_option maxRecDepth 16384 in
theorem CR_and {t1 t2 : Nat} {a b : Int} (h : CR PC X ρ rg L nL Rc Rs prog N pc l ((t2, b) :: (t1, a) :: S) m o) (hp : kat prog pc = some (.iand, x)) : CR PC X ρ rg L nL Rc Rs prog N (pc + 1) l ((1, o32 (fun a b => a &&& b) a b) :: S) m o := by
  obtain ⟨call, n, lo, st, w, c, s, k, h1, h2, h3, h4, h5, h6, h7, hc⟩ := CR_s h hp rfl
  obtain ⟨y, r, rfl, h8, h9, h10⟩ := kcc_cons h5
  obtain ⟨u, r, rfl, h11, h12, h13⟩ := kcc_cons h10
  have h7 : kand none pc lo (y :: u :: r) w c s = some k := h7
  have h7 : (bif kisO u && kis63 y then (none : Option KF) else kbin (fun a b => a &&& b) pc lo (y :: u :: r) w c s) = some k := h7
  cases q : kisO u && kis63 y with
  | true => rw [q] at h7; cases h7
  | false =>
    rw [q] at h7
    simp only [cond_false] at h7
    obtain ⟨hb, h7⟩ := kcond_inv h7
    cases h7
    have hb := Bool.and_eq_true_iff.mp hb
    refine hc N l _ m (by omega) h4 ?_ h6
    rw [List.map_cons, h13]
    congr 1
    have e := kc_op2 ρ (fun a b => a &&& b) u y
    refine Prod.ext e.2 (e.1.trans ?_)
    unfold o32
    rw [kiv_kc hb.1, kiv_kc hb.2, h9, h12]
set_option maxRecDepth 16384 in
theorem CR_un {f : Int32 → Int32} {t1 : Nat} {a : Int} (h : CR PC X ρ rg L nL Rc Rs prog N pc l ((t1, a) :: S) m o) (hp : kat prog pc = some (ig, x)) (he : kendx ig = false) (hk : ∀ (call : CL) (lo : List (Nat × KV)) (st : List KV) (w : KW) (c s : Nat), kdx ig X call rg L nL Rc Rs x pc lo st w c s = kun f pc lo st w c s) : CR PC X ρ rg L nL Rc Rs prog N (pc + 1) l ((1, (f (Int32.ofInt a)).toInt) :: S) m o := by
  obtain ⟨call, n, lo, st, w, c, s, k, h1, h2, h3, h4, h5, h6, h7, hc⟩ := CR_s h hp he
  obtain ⟨y, r, rfl, h8, h9, h10⟩ := kcc_cons h5
  rw [hk] at h7
  obtain ⟨hb, h7⟩ := kcond_inv h7
  cases h7
  refine hc N l _ m (by omega) h4 ?_ h6
  rw [List.map_cons, h10]
  congr 1
  have e := kc_op1 ρ f y
  refine Prod.ext e.2 (e.1.trans ?_)
  rw [kiv_kc hb, h9]
set_option maxRecDepth 16384 in
theorem CR_rem {t1 t2 : Nat} {a b : Int} (h : CR PC X ρ rg L nL Rc Rs prog N pc l ((t2, b) :: (t1, a) :: S) m o) (hp : kat prog pc = some (.irem, x)) : CR PC X ρ rg L nL Rc Rs prog N (pc + 1) l ((1, o32 (fun x y => x - x / y * y) a b) :: S) m o := by
  obtain ⟨call, n, lo, st, w, c, s, k, h1, h2, h3, h4, h5, h6, h7, hc⟩ := CR_s h hp rfl
  obtain ⟨y, r, rfl, h8, h9, h10⟩ := kcc_cons h5
  obtain ⟨u, r, rfl, h11, h12, h13⟩ := kcc_cons h10
  have h7 : krem pc lo (y :: u :: r) w c s = some k := h7
  unfold krem at h7
  split at h7
  · rename_i y' x' rest hst
    cases hst
    cases q : decide (y' = 0) with
    | true => rw [q] at h7; cases h7
    | false =>
      rw [q] at h7
      cases h7
      refine hc N l _ m (by omega) h4 ?_ h6
      rw [List.map_cons, h13, ← h9, ← h12]
      congr 1
      refine Prod.ext rfl ?_
      show (x' - x' / y' * y').toInt = (Int32.ofInt x'.toInt - Int32.ofInt x'.toInt / Int32.ofInt y'.toInt * Int32.ofInt y'.toInt).toInt
      rw [Int32.ofInt_toInt, Int32.ofInt_toInt]
  · cases h7
set_option maxRecDepth 16384 in
theorem CR_i2l {t1 : Nat} {a : Int} (h : CR PC X ρ rg L nL Rc Rs prog N pc l ((t1, a) :: S) m o) (hp : kat prog pc = some (.i2l, x)) : CR PC X ρ rg L nL Rc Rs prog N (pc + 1) l ((2, a) :: S) m o := by
  obtain ⟨call, n, lo, st, w, c, s, k, h1, h2, h3, h4, h5, h6, h7, hc⟩ := CR_s h hp rfl
  obtain ⟨y, r, rfl, h8, h9, h10⟩ := kcc_cons h5
  have h7 : ki2l pc lo (y :: r) w c s = some k := h7
  unfold ki2l at h7
  split at h7
  · rename_i x' rest hst
    cases hst
    cases h7
    refine hc N l _ m (by omega) h4 ?_ h6
    rw [List.map_cons, h10, ← h9]
    congr 1
    exact Prod.ext rfl (Int32.toInt_toInt64 x')
  · cases h7
set_option maxRecDepth 16384 in
theorem CR_l2i {t1 : Nat} {a : Int} (h : CR PC X ρ rg L nL Rc Rs prog N pc l ((t1, a) :: S) m o) (hp : kat prog pc = some (.l2i, x)) : CR PC X ρ rg L nL Rc Rs prog N (pc + 1) l ((1, (Int64.ofInt a).toInt32.toInt) :: S) m o := by
  obtain ⟨call, n, lo, st, w, c, s, k, h1, h2, h3, h4, h5, h6, h7, hc⟩ := CR_s h hp rfl
  obtain ⟨y, r, rfl, h8, h9, h10⟩ := kcc_cons h5
  have h7 : kl2i pc lo (y :: r) w c s = some k := h7
  unfold kl2i at h7
  split at h7
  · rename_i x' rest hst
    cases hst
    cases h7
    refine hc N l _ m (by omega) h4 ?_ h6
    rw [List.map_cons, h10, ← h9]
    congr 1
    refine Prod.ext rfl ?_
    show x'.toInt32.toInt = (Int64.ofInt x'.toInt).toInt32.toInt
    rw [Int64.ofInt_toInt]
  · cases h7
set_option maxRecDepth 16384 in
theorem CR_binL {f : Int64 → Int64 → Int64} {t1 t2 : Nat} {a b : Int} (h : CR PC X ρ rg L nL Rc Rs prog N pc l ((t2, b) :: (t1, a) :: S) m o) (hp : kat prog pc = some (ig, x)) (he : kendx ig = false) (hk : ∀ (call : CL) (lo : List (Nat × KV)) (st : List KV) (w : KW) (c s : Nat), kdx ig X call rg L nL Rc Rs x pc lo st w c s = kbinL f pc lo st w c s) : CR PC X ρ rg L nL Rc Rs prog N (pc + 1) l ((2, o64 f a b) :: S) m o := by
  obtain ⟨call, n, lo, st, w, c, s, k, h1, h2, h3, h4, h5, h6, h7, hc⟩ := CR_s h hp he
  obtain ⟨y, r, rfl, h8, h9, h10⟩ := kcc_cons h5
  obtain ⟨u, r, rfl, h11, h12, h13⟩ := kcc_cons h10
  rw [hk] at h7
  unfold kbinL at h7
  split at h7
  · rename_i y' x' rest hst
    cases hst
    cases h7
    refine hc N l _ m (by omega) h4 ?_ h6
    rw [List.map_cons, h13, ← h9, ← h12]
    congr 1
    refine Prod.ext rfl ?_
    show (f x' y').toInt = (f (Int64.ofInt x'.toInt) (Int64.ofInt y'.toInt)).toInt
    rw [Int64.ofInt_toInt, Int64.ofInt_toInt]
  · cases h7
set_option maxRecDepth 16384 in
theorem CR_dvL {f : Int64 → Int64 → Int64} {t1 t2 : Nat} {a b : Int} (h : CR PC X ρ rg L nL Rc Rs prog N pc l ((t2, b) :: (t1, a) :: S) m o) (hp : kat prog pc = some (ig, x)) (he : kendx ig = false) (hk : ∀ (call : CL) (lo : List (Nat × KV)) (st : List KV) (w : KW) (c s : Nat), kdx ig X call rg L nL Rc Rs x pc lo st w c s = kdvL f pc lo st w c s) : CR PC X ρ rg L nL Rc Rs prog N (pc + 1) l ((2, o64 f a b) :: S) m o := by
  obtain ⟨call, n, lo, st, w, c, s, k, h1, h2, h3, h4, h5, h6, h7, hc⟩ := CR_s h hp he
  obtain ⟨y, r, rfl, h8, h9, h10⟩ := kcc_cons h5
  obtain ⟨u, r, rfl, h11, h12, h13⟩ := kcc_cons h10
  rw [hk] at h7
  unfold kdvL at h7
  split at h7
  · rename_i y' x' rest hst
    cases hst
    cases q : decide (y' = 0) with
    | true => rw [q] at h7; cases h7
    | false =>
      rw [q] at h7
      cases h7
      refine hc N l _ m (by omega) h4 ?_ h6
      rw [List.map_cons, h13, ← h9, ← h12]
      congr 1
      refine Prod.ext rfl ?_
      show (f x' y').toInt = (f (Int64.ofInt x'.toInt) (Int64.ofInt y'.toInt)).toInt
      rw [Int64.ofInt_toInt, Int64.ofInt_toInt]
  · cases h7
set_option maxRecDepth 16384 in
theorem CR_lsr {t1 t2 : Nat} {a b : Int} (h : CR PC X ρ rg L nL Rc Rs prog N pc l ((t2, b) :: (t1, a) :: S) m o) (hp : kat prog pc = some (.lushr, x)) : CR PC X ρ rg L nL Rc Rs prog N (pc + 1) l ((2, ((Int64.ofInt a).toUInt64 >>> ((Int32.ofInt b).toInt64.toUInt64 &&& Int64.toUInt64 63)).toInt64.toInt) :: S) m o := by
  obtain ⟨call, n, lo, st, w, c, s, k, h1, h2, h3, h4, h5, h6, h7, hc⟩ := CR_s h hp rfl
  obtain ⟨y, r, rfl, h8, h9, h10⟩ := kcc_cons h5
  obtain ⟨u, r, rfl, h11, h12, h13⟩ := kcc_cons h10
  have h7 : klsr pc lo (y :: u :: r) w c s = some k := h7
  unfold klsr at h7
  split at h7
  · rename_i y' x' rest hst
    cases hst
    cases h7
    refine hc N l _ m (by omega) h4 ?_ h6
    rw [List.map_cons, h13, ← h9, ← h12]
    congr 1
    refine Prod.ext rfl ?_
    show _ = ((Int64.ofInt x'.toInt).toUInt64 >>> ((Int32.ofInt y'.toInt).toInt64.toUInt64 &&& Int64.toUInt64 63)).toInt64.toInt
    rw [Int64.ofInt_toInt, Int32.ofInt_toInt]
    rfl
  · cases h7
set_option maxRecDepth 16384 in
theorem CR_lcmp {t1 t2 : Nat} {a b : Int} (h : CR PC X ρ rg L nL Rc Rs prog N pc l ((t2, b) :: (t1, a) :: S) m o) (hp : kat prog pc = some (.lcmp, x)) : CR PC X ρ rg L nL Rc Rs prog N (pc + 1) l ((1, if b < a then 1 else if a = b then 0 else -1) :: S) m o := by
  obtain ⟨call, n, lo, st, w, c, s, k, h1, h2, h3, h4, h5, h6, h7, hc⟩ := CR_s h hp rfl
  obtain ⟨y, r, rfl, h8, h9, h10⟩ := kcc_cons h5
  obtain ⟨u, r, rfl, h11, h12, h13⟩ := kcc_cons h10
  have h7 : kcmpL pc lo (y :: u :: r) w c s = some k := h7
  unfold kcmpL at h7
  split at h7
  · rename_i y' x' rest hst
    cases hst
    cases h7
    refine hc N l _ m (by omega) h4 ?_ h6
    rw [List.map_cons, h13, ← h9, ← h12]
    congr 1
    refine Prod.ext rfl ?_
    show (lg_cmp x' y').toInt = if y'.toInt < x'.toInt then 1 else if x'.toInt = y'.toInt then 0 else -1
    unfold lg_cmp
    by_cases c1 : x' > y'
    · rw [if_pos c1, if_pos (Int64.lt_iff_toInt_lt.mp c1)]; rfl
    · rw [if_neg c1, if_neg (fun q => c1 (Int64.lt_iff_toInt_lt.mpr q))]
      by_cases c2 : x' = y'
      · rw [if_pos c2, if_pos (by rw [c2])]; rfl
      · rw [if_neg c2, if_neg (fun q => c2 (Int64.toInt_inj.mp q))]; rfl
  · cases h7
set_option maxRecDepth 16384 in
theorem kbr_inv {o : Option Nat} {r : Option Bool} {pc c s t : Nat} {lo : List (Nat × KV)} {st : List KV} {w : KW} {k : KF} (h : kbr o r pc lo st w c s = some k) (ht : o = some t) : ∃ b, r = some b ∧ k = ((bif b then t else pc + 3), lo, st, w, c, s) := by
  subst ht
  cases r with
  | none => cases h
  | some b => cases b <;> (cases h; exact ⟨_, rfl, rfl⟩)
set_option maxRecDepth 16384 in
theorem CR_if (hr : kRg rg ρ) {cnd : Jvm.ClassFile.Cond} {off : Int} {t t1 : Nat} {a : Int} (h : CR PC X ρ rg L nL Rc Rs prog N pc l ((t1, a) :: S) m o) (hp : kat prog pc = some (.ifCond cnd off, x)) (ht : ktg pc off = some t) : (cdP cnd a 0 ∧ CR PC X ρ rg L nL Rc Rs prog N t l S m o) ∨ (¬ cdP cnd a 0 ∧ CR PC X ρ rg L nL Rc Rs prog N (pc + 3) l S m o) := by
  obtain ⟨call, n, lo, st, w, c, s, k, h1, h2, h3, h4, h5, h6, h7, hc⟩ := CR_s h hp rfl
  obtain ⟨y, r, rfl, h8, h9, h10⟩ := kcc_cons h5
  have h7 : kif rg cnd off pc lo (y :: r) w c s = some k := h7
  obtain ⟨hb, h7⟩ := kcond_inv h7
  obtain ⟨b, hb2, rfl⟩ := kbr_inv h7 ht
  have e := kcondc_ok hr hb rfl hb2
  rw [h9] at e
  have := hc N l S m (by omega) h4 h10 h6
  cases b with
  | true => exact Or.inl ⟨e.mp rfl, this⟩
  | false => exact Or.inr ⟨fun q => (nomatch e.mpr q), this⟩
set_option maxRecDepth 16384 in
theorem CR_icmp (hr : kRg rg ρ) {cnd : Jvm.ClassFile.Cond} {off : Int} {t t1 t2 : Nat} {a b : Int} (h : CR PC X ρ rg L nL Rc Rs prog N pc l ((t2, b) :: (t1, a) :: S) m o) (hp : kat prog pc = some (.if_icmp cnd off, x)) (ht : ktg pc off = some t) : (cdP cnd a b ∧ CR PC X ρ rg L nL Rc Rs prog N t l S m o) ∨ (¬ cdP cnd a b ∧ CR PC X ρ rg L nL Rc Rs prog N (pc + 3) l S m o) := by
  obtain ⟨call, n, lo, st, w, c, s, k, h1, h2, h3, h4, h5, h6, h7, hc⟩ := CR_s h hp rfl
  obtain ⟨y, r, rfl, h8, h9, h10⟩ := kcc_cons h5
  obtain ⟨u, r, rfl, h11, h12, h13⟩ := kcc_cons h10
  have h7 : kicmp rg cnd off pc lo (y :: u :: r) w c s = some k := h7
  obtain ⟨hb, h7⟩ := kcond_inv h7
  obtain ⟨b', hb2, rfl⟩ := kbr_inv h7 ht
  have hb := Bool.and_eq_true_iff.mp hb
  have e := kcondc_ok hr hb.1 hb.2 hb2
  rw [h9, h12] at e
  have := hc N l S m (by omega) h4 h13 h6
  cases b' with
  | true => exact Or.inl ⟨e.mp rfl, this⟩
  | false => exact Or.inr ⟨fun q => (nomatch e.mpr q), this⟩
set_option maxRecDepth 16384 in
theorem CR_goto {off : Int} {t : Nat} (h : CR PC X ρ rg L nL Rc Rs prog N pc l S m o) (hp : kat prog pc = some (.goto off, x)) (ht : ktg pc off = some t) : ∃ N', N = N' + 1 ∧ CR PC X ρ rg L nL Rc Rs prog N' t l S m o := by
  obtain ⟨call, n, lo, st, w, c, s, k, h1, h2, h3, h4, h5, h6, h7, hc⟩ := CR_s h hp rfl
  have h7 : (match ktg pc off with
    | some t => some (t, lo, st, w, c, s)
    | none => none) = some k := h7
  rw [ht] at h7
  cases h7
  exact ⟨N - 1, by omega, hc (N - 1) l S m (by omega) h4 h5 h6⟩
set_option maxRecDepth 16384 in
theorem CR_up (h : CR PC X ρ rg L nL Rc Rs prog N pc l S m o) {N' : Nat} (hN : N ≤ N') : CR PC X ρ rg L nL Rc Rs prog N' pc l S m o := by
  obtain ⟨call, n, lo, st, w, c, s, k, h1, h2, h3⟩ := h
  exact ⟨call, n, lo, st, w, c, s, k, h1, Nat.le_trans h2 hN, h3⟩
set_option maxRecDepth 16384 in
theorem CR_go {off : Int} {t : Nat} (h : CR PC X ρ rg L nL Rc Rs prog N pc l S m o) (hp : kat prog pc = some (.goto off, x)) (ht : ktg pc off = some t) : CR PC X ρ rg L nL Rc Rs prog N t l S m o := by
  obtain ⟨N', e, h⟩ := CR_goto h hp ht
  exact CR_up h (by omega)
end CRS
end
section
/-! A run as numbers: the heap, calls, answers. -/
section CRS2
variable {PC : CL → Prop} {X : KO} {ρ : Nat → Int32} {rg : List (Int × Int)} {L nL Rc Rs : Nat} {prog : List KEnt} {N pc : Nat} {l : List Int} {S : List (Nat × Int)} {m : MM} {o : Instr × List (Nat × Int) × MM} {ig : Instr} {x : KX}
set_option maxRecDepth 16384 in
theorem CR_dup {t : Nat} {a : Int} (h : CR PC X ρ rg L nL Rc Rs prog N pc l ((t, a) :: S) m o) (hp : kat prog pc = some (.dup, x)) : CR PC X ρ rg L nL Rc Rs prog N (pc + 1) l ((t, a) :: (t, a) :: S) m o := by
  obtain ⟨call, n, lo, st, w, c, s, k, h1, h2, h3, h4, h5, h6, h7, hc⟩ := CR_s h hp rfl
  obtain ⟨y, r, rfl, h8, h9, h10⟩ := kcc_cons h5
  have h7 : kdup pc lo (y :: r) w c s = some k := h7
  have hq := kcond_inv h7; clear h7; obtain ⟨hb, h7⟩ := hq
  cases h7
  exact hc N l _ m (by omega) h4 (by rw [List.map_cons, h5]; show (kcat y, kc ρ y) :: _ = _; rw [h8, h9]) h6
set_option maxRecDepth 16384 in
theorem CR_dup2 {t u : Nat} {a b : Int} (h : CR PC X ρ rg L nL Rc Rs prog N pc l ((t, a) :: (u, b) :: S) m o) (hp : kat prog pc = some (.dup2, x)) : CR PC X ρ rg L nL Rc Rs prog N (pc + 1) l ((t, a) :: (u, b) :: (t, a) :: (u, b) :: S) m o := by
  obtain ⟨call, n, lo, st, w, c, s, k, h1, h2, h3, h4, h5, h6, h7, hc⟩ := CR_s h hp rfl
  obtain ⟨y, r, rfl, h8, h9, h10⟩ := kcc_cons h5
  obtain ⟨z, r, rfl, h11, h12, h13⟩ := kcc_cons h10
  have h7 : kdup2 pc lo (y :: z :: r) w c s = some k := h7
  have hq := kcond_inv h7; clear h7; obtain ⟨hb, h7⟩ := hq
  cases h7
  exact hc N l _ m (by omega) h4 (by rw [List.map_cons, List.map_cons, h5]; show (kcat y, kc ρ y) :: (kcat z, kc ρ z) :: _ = _; rw [h8, h9, h11, h12]) h6
set_option maxRecDepth 16384 in
theorem CR_pop {t : Nat} {a : Int} (h : CR PC X ρ rg L nL Rc Rs prog N pc l ((t, a) :: S) m o) (hp : kat prog pc = some (.pop, x)) : CR PC X ρ rg L nL Rc Rs prog N (pc + 1) l S m o := by
  obtain ⟨call, n, lo, st, w, c, s, k, h1, h2, h3, h4, h5, h6, h7, hc⟩ := CR_s h hp rfl
  obtain ⟨y, r, rfl, h8, h9, h10⟩ := kcc_cons h5
  have h7 : kpop pc lo (y :: r) w c s = some k := h7
  have hq := kcond_inv h7; clear h7; obtain ⟨hb, h7⟩ := hq
  cases h7
  exact hc N l _ m (by omega) h4 h10 h6
/-- references alike: the same label, or outside and the same thing -/
abbrev qer (X : KO) (a b : Int) : Prop := a = b ∨ (1000000 ≤ a ∧ 1000000 ≤ b ∧ X.1 a.toNat b.toNat = true)
set_option maxRecDepth 16384 in
def rcode : Option Nat → Int
  | none => -1
  | some a => (a : Int)
set_option maxRecDepth 16384 in
def acP (cnd : Jvm.ClassFile.ACond) (P : Prop) : Prop := match cnd with
  | .eq => P
  | .ne => ¬ P
set_option maxRecDepth 16384 in
theorem krf_kc {v : KV} {q : Option Nat} (h : krf v = some q) : kc ρ v = rcode q := by
  rcases v with v | z
  · cases v <;> cases h <;> rfl
  · cases h
set_option maxRecDepth 16384 in
theorem crxreq_ok {a b : KV} {r : Bool} (h : kxreq X.1 a b = some r) : r = true ↔ qer X (kc ρ a) (kc ρ b) := by
  unfold kxreq at h
  split at h
  · rename_i h1 h2
    cases h
    rw [krf_kc h1, krf_kc h2]
    exact ⟨fun _ => Or.inl rfl, fun _ => rfl⟩
  · rename_i j h1 h2
    cases h
    rw [krf_kc h1, krf_kc h2]
    refine ⟨fun q => (nomatch q), fun q => ?_⟩
    rcases q with q | ⟨q, -⟩ <;> dsimp only [rcode] at q <;> omega
  · rename_i j h1 h2
    cases h
    rw [krf_kc h1, krf_kc h2]
    refine ⟨fun q => (nomatch q), fun q => ?_⟩
    rcases q with q | ⟨-, q, -⟩ <;> dsimp only [rcode] at q <;> omega
  · rename_i i j h1 h2
    rw [krf_kc h1, krf_kc h2]
    cases q : Nat.beq i j with
    | true =>
      rw [q] at h
      cases h
      exact ⟨fun _ => Or.inl (by rw [kb_t q]), fun _ => rfl⟩
    | false =>
      rw [q] at h
      simp only [cond_false] at h
      obtain ⟨hb, h⟩ := kcond_inv h
      cases h
      have hb := Bool.and_eq_true_iff.mp hb
      have b1 := Nat.ble_eq.mp hb.1
      have b2 := Nat.ble_eq.mp hb.2
      have q := kb_f q
      constructor
      · intro e
        refine Or.inr ⟨?_, ?_, ?_⟩
        · show (1000000 : Int) ≤ (i : Int); omega
        · show (1000000 : Int) ≤ (j : Int); omega
        · exact e
      · intro e
        rcases e with e | ⟨-, -, e⟩
        · dsimp only [rcode] at e; omega
        · exact e
  · cases h
set_option maxRecDepth 16384 in
theorem CR_acmp {cnd : Jvm.ClassFile.ACond} {off : Int} {t t1 t2 : Nat} {a b : Int} (h : CR PC X ρ rg L nL Rc Rs prog N pc l ((t2, b) :: (t1, a) :: S) m o) (hp : kat prog pc = some (.if_acmp cnd off, x)) (ht : ktg pc off = some t) : (acP cnd (qer X a b) ∧ CR PC X ρ rg L nL Rc Rs prog N t l S m o) ∨ (¬ acP cnd (qer X a b) ∧ CR PC X ρ rg L nL Rc Rs prog N (pc + 3) l S m o) := by
  obtain ⟨call, n, lo, st, w, c, s, k, h1, h2, h3, h4, h5, h6, h7, hc⟩ := CR_s h hp rfl
  obtain ⟨y, r, rfl, h8, h9, h10⟩ := kcc_cons h5
  obtain ⟨u, r, rfl, h11, h12, h13⟩ := kcc_cons h10
  have h7 : kxacmp X.1 cnd off pc lo (y :: u :: r) w c s = some k := h7
  obtain ⟨b', hb2, rfl⟩ := kbr_inv h7 ht
  have := hc N l S m (by omega) h4 h13 h6
  have e : b' = true ↔ acP cnd (qer X a b) := by
    cases cnd with
    | eq =>
      have e := crxreq_ok (ρ := ρ) hb2
      rw [h9, h12] at e
      exact e
    | ne =>
      have hb2 : (kxreq X.1 u y).map not = some b' := hb2
      cases q : kxreq X.1 u y with
      | none => rw [q] at hb2; cases hb2
      | some v =>
        rw [q] at hb2
        cases hb2
        have e := crxreq_ok (ρ := ρ) q
        rw [h9, h12] at e
        show (!v) = true ↔ ¬ qer X a b
        rw [← e]
        cases v <;> decide
  cases b' with
  | true => exact Or.inl ⟨e.mp rfl, this⟩
  | false => exact Or.inr ⟨fun q => (nomatch e.mpr q), this⟩
set_option maxRecDepth 16384 in
theorem CR_ifnn {off : Int} {t t1 : Nat} {a : Int} (h : CR PC X ρ rg L nL Rc Rs prog N pc l ((t1, a) :: S) m o) (hp : kat prog pc = some (.ifnonnull off, x)) (ht : ktg pc off = some t) : (¬ a = -1 ∧ CR PC X ρ rg L nL Rc Rs prog N t l S m o) ∨ (a = -1 ∧ CR PC X ρ rg L nL Rc Rs prog N (pc + 3) l S m o) := by
  obtain ⟨call, n, lo, st, w, c, s, k, h1, h2, h3, h4, h5, h6, h7, hc⟩ := CR_s h hp rfl
  obtain ⟨y, r, rfl, h8, h9, h10⟩ := kcc_cons h5
  have h7 : kifnn off pc lo (y :: r) w c s = some k := h7
  unfold kifnn at h7
  dsimp only at h7
  split at h7
  · rename_i e
    cases h7
    exact Or.inr ⟨by rw [← h9, krf_kc e]; rfl, hc N l S m (by omega) h4 h10 h6⟩
  · rename_i e
    rw [ht] at h7
    cases h7
    refine Or.inl ⟨?_, hc N l S m (by omega) h4 h10 h6⟩
    rw [← h9, krf_kc e]
    dsimp only [rcode]
    omega
  · cases h7
set_option maxRecDepth 16384 in
/-- a switch' target -/
def swt (pc : Nat) (dflt lw hg : Int) (offs : Array Int) (e : Int) : Option Nat := if e < lw ∨ hg < e then ktg pc dflt else match offs.toList[(e - lw).toNat]? with
  | some off => ktg pc off
  | none => none
set_option maxRecDepth 16384 in
theorem swt_d {pc : Nat} {dflt lw hg : Int} {offs : Array Int} {t : Nat} {e : Int} (h : e < lw ∨ hg < e) (ht : ktg pc dflt = some t) : swt pc dflt lw hg offs e = some t := by
  unfold swt
  rw [if_pos h]
  exact ht
set_option maxRecDepth 16384 in
theorem krg_pt (hr : kRg rg ρ) {v : KV} {a b : Int} (h : krg rg v = some (a, b)) : a ≤ kc ρ v ∧ kc ρ v ≤ b := by
  have h1 := krg_ok hr h
  rcases v with v | z
  · cases v <;> first | exact h1 | cases h
  · exact h1
set_option maxRecDepth 16384 in
theorem CR_tsw (hr : kRg rg ρ) {dflt lw hg : Int} {offs : Array Int} {t1 : Nat} {a : Int} (h : CR PC X ρ rg L nL Rc Rs prog N pc l ((t1, a) :: S) m o) (hp : kat prog pc = some (.tableswitch dflt lw hg offs, x)) : ∃ t, swt pc dflt lw hg offs a = some t ∧ CR PC X ρ rg L nL Rc Rs prog N t l S m o := by
  obtain ⟨call, n, lo, st, w, c, s, k, h1, h2, h3, h4, h5, h6, h7, hc⟩ := CR_s h hp rfl
  obtain ⟨y, r, rfl, h8, h9, h10⟩ := kcc_cons h5
  have h7 : ksw rg dflt lw hg offs pc lo (y :: r) w c s = some k := h7
  unfold ksw at h7
  dsimp only at h7
  split at h7
  · rename_i a1 b1 hg1
    have e := krg_pt hr hg1
    rw [h9] at e
    cases q : decide (b1 < lw) || decide (hg < a1) with
    | true =>
      rw [q] at h7
      simp only [cond_true] at h7
      have hq : a < lw ∨ hg < a := by
        rcases Bool.or_eq_true_iff.mp q with q | q
        · have := of_decide_eq_true q; exact Or.inl (by omega)
        · have := of_decide_eq_true q; exact Or.inr (by omega)
      split at h7
      · rename_i t ht
        cases h7
        exact ⟨t, by unfold swt; rw [if_pos hq]; exact ht, hc N l S m (by omega) h4 h10 h6⟩
      · cases h7
    | false =>
      rw [q] at h7
      simp only [cond_false] at h7
      have hq := kcond_inv h7; clear h7; obtain ⟨hb, h7⟩ := hq
      have hb := of_decide_eq_true hb
      have q := Bool.or_eq_false_iff.mp q
      have q1 := of_decide_eq_false q.1
      have q2 := of_decide_eq_false q.2
      have e2 : a1 = a := by omega
      subst e2
      split at h7
      · rename_i off ho
        split at h7
        · rename_i t ht
          cases h7
          exact ⟨t, by unfold swt; rw [if_neg (by omega), ho]; exact ht, hc N l S m (by omega) h4 h10 h6⟩
        · cases h7
      · cases h7
  · cases h7
set_option maxRecDepth 16384 in
theorem CR_lsw {dflt : Int} {ps : Array (Int × Int)} {t1 : Nat} {a : Int} (h : CR PC X ρ rg L nL Rc Rs prog N pc l ((t1, a) :: S) m o) (hp : kat prog pc = some (.lookupswitch dflt ps, x)) : ∃ t, ktg pc (Op.lookupswitch.offset ps.toList dflt a) = some t ∧ CR PC X ρ rg L nL Rc Rs prog N t l S m o := by
  obtain ⟨call, n, lo, st, w, c, s, k, h1, h2, h3, h4, h5, h6, h7, hc⟩ := CR_s h hp rfl
  obtain ⟨y, r, rfl, h8, h9, h10⟩ := kcc_cons h5
  have h7 : klk dflt ps.toList pc lo (y :: r) w c s = some k := h7
  unfold klk at h7
  split at h7
  · rename_i z rest hst
    cases hst
    split at h7
    · rename_i t ht
      cases h7
      exact ⟨t, by rw [← h9]; exact ht, hc N l S m (by omega) h4 h10 h6⟩
    · cases h7
  · cases h7
set_option maxRecDepth 16384 in
theorem CR_getf {t1 : Nat} {a : Int} {i : Nat} (h : CR PC X ρ rg L nL Rc Rs prog N pc l ((t1, a) :: S) m o) (hp : kat prog pc = some (.getfield i, x)) (hx : x.1 ≠ 99) : CR PC X ρ rg L nL Rc Rs prog N (pc + 3) l ((kTc (kTy x.1 x.2.1), m a (x.2.1 : Int)) :: S) m o := by
  obtain ⟨call, n, lo, st, w, c, s, k, h1, h2, h3, h4, h5, h6, h7, hc⟩ := CR_s h hp rfl
  obtain ⟨y, r, rfl, h8, h9, h10⟩ := kcc_cons h5
  have h7 : kwget X.2 x.1 x.2.1 pc lo (y :: r) w c s = some k := h7
  unfold kwget at h7
  split at h7
  · rename_i b rest hst
    cases hst
    cases q : Nat.ble 1000000 b with
    | true =>
      rw [q] at h7
      simp only [cond_true] at h7
      have hq := kcond_inv h7; clear h7; obtain ⟨hb, h7⟩ := hq
      exact absurd (kb_t (Bool.and_eq_true_iff.mp hb).1) hx
    | false =>
      rw [q] at h7
      simp only [cond_false] at h7
      unfold kgetf at h7
      dsimp only at h7
      split at h7
      · rename_i cj fs hw
        have hq := kcond_inv h7
        clear h7
        obtain ⟨hb, h7⟩ := hq
        have e := kb_t hb
        subst e
        split at h7
        · rename_i v hv
          cases h7
          have hval : wval w b x.2.1 = some v := by
            unfold wval
            rw [hw]
            exact hv
          refine hc N l _ m (by omega) h4 ?_ h6
          rw [List.map_cons, h10, ← h9, ← h6]
          congr 1
          exact Prod.ext (kWT_get h3 hw x.2.1 v hv) (wm_val hval).symm
        · cases h7
      · cases h7
  · cases h7
set_option maxRecDepth 16384 in
theorem CR_getw {t1 : Nat} {a : Int} {i : Nat} (h : CR PC X ρ rg L nL Rc Rs prog N pc l ((t1, a) :: S) m o) (hp : kat prog pc = some (.getfield i, x)) (hx : Nat.ble kTys.length x.1 = true) : (¬ a < 1000000 ∧ CR PC X ρ rg L nL Rc Rs prog N (pc + 3) l ((2, (X.2 a.toNat).toInt) :: S) m o) ∨ a < 1000000 := by
  obtain ⟨call, n, lo, st, w, c, s, k, h1, h2, h3, h4, h5, h6, h7, hc⟩ := CR_s h hp rfl
  obtain ⟨y, r, rfl, h8, h9, h10⟩ := kcc_cons h5
  have h7 : kwget X.2 x.1 x.2.1 pc lo (y :: r) w c s = some k := h7
  unfold kwget at h7
  split at h7
  · rename_i b rest hst
    cases hst
    cases q : Nat.ble 1000000 b with
    | true =>
      rw [q] at h7
      simp only [cond_true] at h7
      have hq := kcond_inv h7; clear h7; obtain ⟨hb, h7⟩ := hq
      cases h7
      have q := Nat.ble_eq.mp q
      refine Or.inl ⟨?_, hc N l _ m (by omega) h4 ?_ h6⟩
      · rw [← h9]
        exact Int.not_lt.mpr (Int.ofNat_le.mpr q)
      rw [List.map_cons, h10, ← h9]
      rfl
    | false =>
      have : b < 1000000 := Nat.lt_of_not_le (fun e => by rw [Nat.ble_eq.mpr e] at q; cases q)
      right
      rw [← h9]
      exact Int.ofNat_lt.mpr this
  · cases h7
set_option maxRecDepth 16384 in
theorem kputf_inv {ci k pc c s : Nat} {lo : List (Nat × KV)} {st : List KV} {w : KW} {q : KF} (h : kputf ci k pc lo st w c s = some q) : ∃ v b rest cj fs, st = v :: .inl (.ref b) :: rest ∧ kwg w b = some (.inr (cj, fs)) ∧ k < fs.length ∧ q = (pc + 3, lo, rest, kws w b (.inr (cj, fs.set k v)), c, s) := by
  unfold kputf at h
  split at h
  · rename_i v b rest
    split at h
    · rename_i cj fs hw
      have hq := kcond_inv h
      clear h
      obtain ⟨hb, h⟩ := hq
      simp only [Bool.and_eq_true] at hb
      cases h
      exact ⟨v, b, rest, cj, fs, rfl, hw, Nat.blt_eq.mp hb.2.1, rfl⟩
    · cases h
  · cases h
set_option maxRecDepth 16384 in
theorem CR_putf {t1 t2 : Nat} {a e : Int} {i : Nat} (h : CR PC X ρ rg L nL Rc Rs prog N pc l ((t2, e) :: (t1, a) :: S) m o) (hp : kat prog pc = some (.putfield i, x)) : CR PC X ρ rg L nL Rc Rs prog N (pc + 3) l S (mu m a (x.2.1 : Int) e) o := by
  obtain ⟨call, n, lo, st, w, c, s, k, h1, h2, h3, h4, h5, h6, h7, hc⟩ := CR_s h hp rfl
  obtain ⟨y, r, rfl, h8, h9, h10⟩ := kcc_cons h5
  obtain ⟨u, r, rfl, h11, h12, h13⟩ := kcc_cons h10
  have h7 : kputf x.1 x.2.1 pc lo (y :: u :: r) w c s = some k := h7
  obtain ⟨v, b, rest, cj, fs, e1, hw, hk, rfl⟩ := kputf_inv h7
  cases e1
  refine hc N l S _ (by omega) h4 h13 ?_
  rw [← h6, ← h12]
  refine wm_set (k := x.2.1) hw (fun j hj => ?_) ⟨y, ?_, h9⟩ rfl rfl
  · show (fs.set x.2.1 y)[j]? = fs[j]?
    rw [List.getElem?_set_ne (fun q => hj q.symm)]
  · show (fs.set x.2.1 y)[x.2.1]? = some y
    rw [List.getElem?_set_self hk]
set_option maxRecDepth 16384 in
theorem i32nat {i : Int32} {n : Nat} (h : kinB i n = true) : (i.toNatClampNeg : Int) = i.toInt ∧ i.toNatClampNeg < n := by
  unfold kinB at h
  have h := Bool.and_eq_true_iff.mp h
  have h1 : ¬ i < 0 := by
    intro q
    rw [decide_eq_true q] at h
    exact absurd h.1 (by decide)
  have h2 : 0 ≤ i.toInt := by
    rw [Int32.lt_iff_toInt_lt] at h1
    have : (0 : Int32).toInt = 0 := by decide
    omega
  exact ⟨by rw [← Int32.toNat_toInt]; omega, Nat.blt_eq.mp h.2⟩
set_option maxRecDepth 16384 in
theorem CR_alen (hL : L = 0) {t1 : Nat} {a : Int} (h : CR PC X ρ rg L nL Rc Rs prog N pc l ((t1, a) :: S) m o) (hp : kat prog pc = some (.arraylength, x)) : CR PC X ρ rg L nL Rc Rs prog N (pc + 1) l ((1, if a = 1000050 then 30 else s32 (m a (-1))) :: S) m o := by
  obtain ⟨call, n, lo, st, w, c, s, k, h1, h2, h3, h4, h5, h6, h7, hc⟩ := CR_s h hp rfl
  obtain ⟨y, r, rfl, h8, h9, h10⟩ := kcc_cons h5
  have h7 : kwal L pc lo (y :: r) w c s = some k := h7
  subst hL
  unfold kwal at h7
  split at h7
  · rename_i b rest hst
    cases hst
    cases q : Nat.beq b 1000050 with
    | true =>
      rw [q] at h7
      cases h7
      have q := kb_t q
      have e : a = 1000050 := by rw [← h9, q]; rfl
      refine hc N l _ m (by omega) h4 ?_ h6
      rw [List.map_cons, h10, if_pos e]
      rfl
    | false =>
      rw [q] at h7
      have q := kb_f q
      have e : ¬ a = 1000050 := by
        rw [← h9]
        show ¬ (b : Int) = 1000050
        omega
      have h7 : kalen 0 pc lo (.inl (.ref b) :: r) w c s = some k := h7
      unfold kalen at h7
      dsimp only at h7
      have e0 : (kscr (.inl (.ref b)) && Nat.blt 0 0) = false := by rw [show Nat.blt 0 0 = false from rfl, Bool.and_false]
      rw [e0] at h7
      simp only [cond_false] at h7
      split at h7
      · rename_i t nn z hw
        have hq := kcond_inv h7
        clear h7
        obtain ⟨hb, h7⟩ := hq
        cases h7
        refine hc N l _ m (by omega) h4 ?_ h6
        rw [List.map_cons, h10, if_neg e, ← h9, ← h6]
        congr 1
        refine Prod.ext rfl ?_
        show (Int32.ofNat nn).toInt = s32 (wm ρ w (b : Int) (-1))
        rw [wm_len hw, s32_eq]
        rfl
      · cases h7
  · cases h7
set_option maxRecDepth 16384 in
theorem CR_ald (hL : L = 0) {ok : Nat → Bool} {rg0 : List (Int × Int)} {L0 : Nat} {t1 t2 : Nat} {a i : Int} (h : CR PC X ρ rg L nL Rc Rs prog N pc l ((t2, i) :: (t1, a) :: S) m o) (hp : kat prog pc = some (ig, x)) (he : kendx ig = false) (hL0 : L0 = L ∨ L0 = 0) (hk : ∀ (call : CL) (lo : List (Nat × KV)) (st : List KV) (w : KW) (c s : Nat), kdx ig X call rg L nL Rc Rs x pc lo st w c s = kald rg0 L0 ok pc lo st w c s) : CR PC X ρ rg L nL Rc Rs prog N (pc + 1) l ((1, m a i) :: S) m o := by
  obtain ⟨call, n, lo, st, w, c, s, k, h1, h2, h3, h4, h5, h6, h7, hc⟩ := CR_s h hp he
  obtain ⟨y, r, rfl, h8, h9, h10⟩ := kcc_cons h5
  obtain ⟨u, r, rfl, h11, h12, h13⟩ := kcc_cons h10
  rw [hk] at h7
  have hL1 : L0 = 0 := by rcases hL0 with e | e <;> omega
  subst hL1
  unfold kald at h7
  split at h7
  · rename_i j v rest hst
    cases hst
    have e0 : (kscr u && kinB j (0 - 1)) = false := by
      cases q : kinB j (0 - 1) with
      | false => rw [Bool.and_false]
      | true => exact absurd (i32nat q).2 (Nat.not_lt_zero _)
    rw [e0] at h7
    simp only [cond_false] at h7
    split at h7
    · split at h7
      · rename_i b _ t nn ll d hw
        have hq := kcond_inv h7; clear h7; obtain ⟨hb, h7⟩ := hq
        cases h7
        have hb := (Bool.and_eq_true_iff.mp hb).2
        have hj := i32nat hb
        refine hc N l _ m (by omega) h4 ?_ h6
        rw [List.map_cons, h13]
        congr 1
        have e3 := kc_ofI ρ (kget ll d j.toNatClampNeg)
        refine Prod.ext e3.2 ?_
        have hval : wval w b j.toNatClampNeg = some (kofI (kget ll d j.toNatClampNeg)) := by
          unfold wval
          rw [hw]
          show (bif Nat.blt j.toNatClampNeg nn then some (kofI (kget ll d j.toNatClampNeg)) else none) = _
          rw [Nat.blt_eq.mpr hj.2]
          rfl
        show kc ρ (kofI (kget ll d j.toNatClampNeg)) = m a i
        rw [← h6, ← h12, ← h9]
        show _ = wm ρ w (b : Int) j.toInt
        rw [← hj.1, wm_val hval]
      · cases h7
    · cases h7
  · cases h7
set_option maxRecDepth 16384 in
theorem CR_lald {t1 t2 : Nat} {a i : Int} (h : CR PC X ρ rg L nL Rc Rs prog N pc l ((t2, i) :: (t1, a) :: S) m o) (hp : kat prog pc = some (.laload, x)) : CR PC X ρ rg L nL Rc Rs prog N (pc + 1) l ((2, m a i) :: S) m o := by
  obtain ⟨call, n, lo, st, w, c, s, k, h1, h2, h3, h4, h5, h6, h7, hc⟩ := CR_s h hp rfl
  obtain ⟨y, r, rfl, h8, h9, h10⟩ := kcc_cons h5
  obtain ⟨u, r, rfl, h11, h12, h13⟩ := kcc_cons h10
  have h7 : klald pc lo (y :: u :: r) w c s = some k := h7
  unfold klald at h7
  split at h7
  · rename_i j b rest hst
    cases hst
    split at h7
    · rename_i t nn ll d hw
      have hq := kcond_inv h7; clear h7; obtain ⟨hb, h7⟩ := hq
      cases h7
      have hj := i32nat (Bool.and_eq_true_iff.mp hb).2
      refine hc N l _ m (by omega) h4 ?_ h6
      rw [List.map_cons, h13]
      congr 1
      refine Prod.ext rfl ?_
      have hval : wval w b j.toNatClampNeg = some (.inl (.long (kget ll d j.toNatClampNeg))) := by
        unfold wval
        rw [hw]
        show (bif Nat.blt j.toNatClampNeg nn then some _ else none) = _
        rw [Nat.blt_eq.mpr hj.2]
        rfl
      show kc ρ (.inl (.long (kget ll d j.toNatClampNeg))) = m a i
      rw [← h6, ← h12, ← h9]
      show _ = wm ρ w (b : Int) j.toInt
      rw [← hj.1, wm_val hval]
    · cases h7
  · cases h7
set_option maxRecDepth 16384 in
theorem CR_aald {t1 t2 : Nat} {a i : Int} (h : CR PC X ρ rg L nL Rc Rs prog N pc l ((t2, i) :: (t1, a) :: S) m o) (hp : kat prog pc = some (.aaload, x)) : CR PC X ρ rg L nL Rc Rs prog N (pc + 1) l ((1, if a = 1000050 then 1000100 + i else m a i) :: S) m o := by
  obtain ⟨call, n, lo, st, w, c, s, k, h1, h2, h3, h4, h5, h6, h7, hc⟩ := CR_s h hp rfl
  obtain ⟨y, r, rfl, h8, h9, h10⟩ := kcc_cons h5
  obtain ⟨u, r, rfl, h11, h12, h13⟩ := kcc_cons h10
  have h7 : kwald pc lo (y :: u :: r) w c s = some k := h7
  unfold kwald at h7
  split at h7
  · rename_i j b rest hst
    cases hst
    cases q : Nat.beq b 1000050 with
    | true =>
      rw [q] at h7
      simp only [cond_true] at h7
      have hq := kcond_inv h7; clear h7; obtain ⟨hb, h7⟩ := hq
      cases h7
      have q := kb_t q
      have e : a = 1000050 := by rw [← h12, q]; rfl
      have hj := i32nat hb
      refine hc N l _ m (by omega) h4 ?_ h6
      rw [List.map_cons, h13, if_pos e]
      congr 1
      refine Prod.ext rfl ?_
      show ((1000100 + j.toNatClampNeg : Nat) : Int) = 1000100 + i
      rw [← h9]
      show _ = 1000100 + j.toInt
      omega
    | false =>
      rw [q] at h7
      have q := kb_f q
      have e : ¬ a = 1000050 := by
        rw [← h12]
        show ¬ (b : Int) = 1000050
        omega
      have h7 : kaald pc lo (.inl (.int j) :: .inl (.ref b) :: r) w c s = some k := h7
      unfold kaald at h7
      dsimp only at h7
      split at h7
      · rename_i t nn ll hw
        have hq := kcond_inv h7; clear h7; obtain ⟨hb, h7⟩ := hq
        cases h7
        have hj := i32nat (Bool.and_eq_true_iff.mp hb).2
        refine hc N l _ m (by omega) h4 ?_ h6
        rw [List.map_cons, h13, if_neg e]
        congr 1
        refine Prod.ext (kc_ofR ρ _) ?_
        have hval : wval w b j.toNatClampNeg = some (kofR (kget ll none j.toNatClampNeg)) := by
          unfold wval
          rw [hw]
          show (bif Nat.blt j.toNatClampNeg nn then some _ else none) = _
          rw [Nat.blt_eq.mpr hj.2]
          rfl
        show kc ρ (kofR (kget ll none j.toNatClampNeg)) = m a i
        rw [← h6, ← h12, ← h9]
        show _ = wm ρ w (b : Int) j.toInt
        rw [← hj.1, wm_val hval]
      · cases h7
  · cases h7
set_option maxRecDepth 16384 in
theorem CR_ast {ok : Nat → Bool} {f : Nat → Int32 → Int32} {t1 t2 t3 : Nat} {a i e : Int} (h : CR PC X ρ rg L nL Rc Rs prog N pc l ((t3, e) :: (t2, i) :: (t1, a) :: S) m o) (hp : kat prog pc = some (ig, x)) (he : kendx ig = false) (hk : ∀ (call : CL) (lo : List (Nat × KV)) (st : List KV) (w : KW) (c s : Nat), kdx ig X call rg L nL Rc Rs x pc lo st w c s = kast ok f pc lo st w c s) : CR PC X ρ rg L nL Rc Rs prog N (pc + 1) l S (mu m a i (f (m a (-2)).toNat (Int32.ofInt e)).toInt) o := by
  obtain ⟨call, n, lo, st, w, c, s, k, h1, h2, h3, h4, h5, h6, h7, hc⟩ := CR_s h hp he
  obtain ⟨z, r, rfl, h14, h15, h16⟩ := kcc_cons h5
  obtain ⟨y, r, rfl, h8, h9, h10⟩ := kcc_cons h16
  obtain ⟨u, r, rfl, h11, h12, h13⟩ := kcc_cons h10
  rw [hk] at h7
  unfold kast at h7
  split at h7
  · rename_i x' j b rest hst
    cases hst
    split at h7
    · rename_i t nn ll d hw
      have hq := kcond_inv h7; clear h7; obtain ⟨hb, h7⟩ := hq
      cases h7
      simp only [Bool.and_eq_true] at hb
      have hj := i32nat hb.2.1
      refine hc N l S _ (by omega) h4 h13 ?_
      have e1 : wm ρ w (b : Int) (-2) = (t : Int) := wm_typ hw
      have e2 : m a (-2) = (t : Int) := by rw [← h6, ← h12]; exact e1
      rw [e2, ← h6, ← h12, ← h9]
      show _ = mu (wm ρ w) (b : Int) j.toInt _
      rw [← hj.1, Int.toNat_natCast]
      have key : ∀ q : Nat, kget (kset ll j.toNatClampNeg (kop1I (f t) (ktoI z))) d q = if q = j.toNatClampNeg then kop1I (f t) (ktoI z) else kget ll d q := fun q => kget_set ll d _ q _
      refine wm_set (k := j.toNatClampNeg) hw (fun q hq => ?_) ⟨kofI (kop1I (f t) (ktoI z)), ?_, ?_⟩ rfl rfl
      · show (bif Nat.blt q nn then some (kofI (kget (kset ll j.toNatClampNeg (kop1I (f t) (ktoI z))) d q)) else none) = (bif Nat.blt q nn then some (kofI (kget ll d q)) else none)
        rw [key, if_neg hq]
      · show (bif Nat.blt j.toNatClampNeg nn then some (kofI (kget (kset ll j.toNatClampNeg (kop1I (f t) (ktoI z))) d j.toNatClampNeg)) else none) = _
        rw [key, if_pos rfl, Nat.blt_eq.mpr hj.2]
        rfl
      · rw [(kc_ofI ρ _).1, kop1I_ok, ktoI_ok, kiv_kc hb.2.2, h15]
    · cases h7
  · cases h7
set_option maxRecDepth 16384 in
theorem CR_last {t1 t2 t3 : Nat} {a i e : Int} (h : CR PC X ρ rg L nL Rc Rs prog N pc l ((t3, e) :: (t2, i) :: (t1, a) :: S) m o) (hp : kat prog pc = some (.lastore, x)) : CR PC X ρ rg L nL Rc Rs prog N (pc + 1) l S (mu m a i e) o := by
  obtain ⟨call, n, lo, st, w, c, s, k, h1, h2, h3, h4, h5, h6, h7, hc⟩ := CR_s h hp rfl
  obtain ⟨z, r, rfl, h14, h15, h16⟩ := kcc_cons h5
  obtain ⟨y, r, rfl, h8, h9, h10⟩ := kcc_cons h16
  obtain ⟨u, r, rfl, h11, h12, h13⟩ := kcc_cons h10
  have h7 : klast pc lo (z :: y :: u :: r) w c s = some k := h7
  unfold klast at h7
  split at h7
  · rename_i x' j b rest hst
    cases hst
    split at h7
    · rename_i t nn ll d hw
      have hq := kcond_inv h7; clear h7; obtain ⟨hb, h7⟩ := hq
      cases h7
      simp only [Bool.and_eq_true] at hb
      have hj := i32nat hb.2
      refine hc N l S _ (by omega) h4 h13 ?_
      rw [← h6, ← h12, ← h9]
      show _ = mu (wm ρ w) (b : Int) j.toInt _
      rw [← hj.1]
      have key : ∀ q : Nat, kget (kset ll j.toNatClampNeg x') d q = if q = j.toNatClampNeg then x' else kget ll d q := fun q => kget_set ll d _ q _
      refine wm_set (k := j.toNatClampNeg) hw (fun q hq => ?_) ⟨.inl (.long x'), ?_, h15⟩ rfl rfl
      · show (bif Nat.blt q nn then some (Sum.inl (Value.long (kget (kset ll j.toNatClampNeg x') d q)) : KV) else none) = (bif Nat.blt q nn then some (Sum.inl (Value.long (kget ll d q)) : KV) else none)
        rw [key, if_neg hq]
      · show (bif Nat.blt j.toNatClampNeg nn then some (Sum.inl (Value.long (kget (kset ll j.toNatClampNeg x') d j.toNatClampNeg)) : KV) else none) = _
        rw [key, if_pos rfl, Nat.blt_eq.mpr hj.2]
        rfl
    · cases h7
  · cases h7
end CRS2
end
section
/-! A run as numbers: calls, a method's run from its arguments to its answer. -/
set_option maxRecDepth 16384 in
def kPM (X : KO) : CL → Prop := fun call => ∃ f d, call = kcallx qmeths X f d
set_option maxRecDepth 16384 in
/-- a method's run: its arguments, the world before, its answer, the world behind -/
def Run (X : KO) (ρ : Nat → Int32) (mid : Nat) (args : List (Nat × Int)) (m : MM) (rl : List (Nat × Int)) (m' : MM) : Prop := ∃ (f d : Nat) (av : List KV) (w : KW) (r : Option KV) (w' : KW), kcallx qmeths X f d mid av w = some (r, w') ∧ kWT w ∧ av.map (kcc ρ) = args ∧ wm ρ w = m ∧ r.toList.map (kcc ρ) = rl ∧ wm ρ w' = m'
set_option maxRecDepth 16384 in
def locs : List (Nat × Int) → List Int
  | [] => []
  | q :: t => bif Nat.beq q.1 2 then q.2 :: 0 :: locs t else q.2 :: locs t
set_option maxRecDepth 16384 in
def locsN (nL : Nat) (args : List (Nat × Int)) : List Int := locs args ++ List.replicate (nL - (locs args).length) 0
set_option maxRecDepth 16384 in
theorem getD_mid (P R : List Int) (e : Int) : (P ++ e :: R).getD P.length 0 = e := by
  rw [List.getD_eq_getElem?_getD, List.getElem?_append_right (Nat.le_refl _), Nat.sub_self]
  rfl
set_option maxRecDepth 16384 in
theorem lrel_args {ρ : Nat → Int32} (R : List Int) : ∀ (av : List KV) (P : List Int), lrel ρ (kargs P.length av) (P ++ (locs (av.map (kcc ρ)) ++ R)) := by
  intro av
  induction av with
  | nil => intro P q hq; cases hq
  | cons v t ih =>
    intro P q hq
    show (P ++ ((bif Nat.beq (kcat v) 2 then kc ρ v :: 0 :: locs (t.map (kcc ρ)) else kc ρ v :: locs (t.map (kcc ρ))) ++ R)).getD q.1 0 = kc ρ q.2
    have hq : q ∈ (P.length, v) :: kargs (if kcat v = 2 then P.length + 2 else P.length + 1) t := hq
    by_cases hc : kcat v = 2
    · rw [kb_r hc]
      rw [if_pos hc] at hq
      simp only [cond_true]
      rcases List.mem_cons.mp hq with rfl | hq
      · exact getD_mid P _ _
      · have := ih (P ++ [kc ρ v, 0]) q (by
          rw [List.length_append]
          exact hq)
        rw [List.append_assoc] at this
        exact this
    · rw [kb_n hc]
      rw [if_neg hc] at hq
      simp only [cond_false]
      rcases List.mem_cons.mp hq with rfl | hq
      · exact getD_mid P _ _
      · have := ih (P ++ [kc ρ v]) q (by
          rw [List.length_append]
          exact hq)
        rw [List.append_assoc] at this
        exact this
set_option maxRecDepth 16384 in
theorem kretx_st {ret : Option FieldType} {ig : Instr} {st : List KV} {r : Option KV} (h : kretx ret ig st = some r) : st = r.toList := by
  unfold kretx at h
  split at h
  · split at h
    · cases h; rfl
    · cases h
  · split at h
    · have hq := kcond_inv h; clear h; obtain ⟨-, h⟩ := hq; cases h; rfl
    · have hq := kcond_inv h; clear h; obtain ⟨-, h⟩ := hq; cases h; rfl
    · have hq := kcond_inv h; clear h; obtain ⟨-, h⟩ := hq; cases h; rfl
    · cases h
  · split at h
    · cases h; rfl
    · cases h
  · split at h
    · cases h; rfl
    · cases h
  · cases h
set_option maxRecDepth 16384 in
theorem Run_CR {X : KO} {ρ : Nat → Int32} {mid : Nat} {args rl : List (Nat × Int)} {m m' : MM} (h : Run X ρ mid args m rl m') {nm : MethodName} {cd : ByteArray} {nL mc msl : Nat} {ret : Option FieldType} {prog : List KEnt} (hm : qmeths[mid]? = some (nm, cd, nL, ret, mc, msl, prog)) : ∃ N ig, CR (kPM X) X ρ [] 0 nL mc msl prog N 0 (locsN nL args) [] m (ig, rl, m') := by
  obtain ⟨f, d, av, w, r, w', h1, h2, h3, h4, h5, h6⟩ := h
  cases d with
  | zero => cases h1
  | succ d =>
    unfold kcallx at h1
    rw [hm] at h1
    dsimp only at h1
    obtain ⟨hb, h1⟩ := kcond_inv h1
    split at h1
    · rename_i ig pc2 lo2 st2 w2 c2 s2 hr
      obtain ⟨hb2, h1⟩ := kcond_inv h1
      split at h1
      · rename_i rr hrr
        cases h1
        refine ⟨f, ig, kcallx qmeths X f d, f, _, _, _, _, _, _, ⟨⟨f, d, rfl⟩, kcallx_pr _ _ _ _⟩, Nat.le_refl _, h2, ?_, rfl, h4, hr, ?_, h6⟩
        · rw [← h3]
          exact lrel_args _ av []
        · rw [← h5, ← kretx_st hrr]
      · cases h1
    · cases h1
set_option maxRecDepth 16384 in
theorem r_append {α β : Type} (f : α → β) (r : Option α) (t : List α) : (r.toList ++ t).map f = r.toList.map f ++ t.map f := List.map_append
section CRS3
variable {PC : CL → Prop} {X : KO} {ρ : Nat → Int32} {rg : List (Int × Int)} {L nL Rc Rs : Nat} {prog : List KEnt} {N pc : Nat} {l : List Int} {S : List (Nat × Int)} {m : MM} {o : Instr × List (Nat × Int) × MM} {ig : Instr} {x : KX}
set_option maxRecDepth 16384 in
theorem CR_callV0 {y : KX} (h : CR PC X ρ rg L nL Rc Rs prog N pc l S m o) (hp : kat prog pc = some (ig, x)) (he : kendx ig = false) (hk : ∀ (call : CL) (lo : List (Nat × KV)) (st : List KV) (w : KW) (c s : Nat), kdx ig X call rg L nL Rc Rs x pc lo st w c s = kcallV call Rc Rs y pc lo st w c s) : ∃ (call : CL) (av : List KV) (w : KW) (r : Option KV) (w' : KW), PC call ∧ kWT w ∧ wm ρ w = m ∧ av.map (kcc ρ) = (S.take (y.2.1 + 1)).reverse ∧ call y.1 av w = some (r, w') ∧ CR PC X ρ rg L nL Rc Rs prog N (pc + 3) l (r.toList.map (kcc ρ) ++ S.drop (y.2.1 + 1)) (wm ρ w') o := by
  obtain ⟨call, n, lo, st, w, c, s, k, h1, h2, h3, h4, h5, h6, h7, hc⟩ := CR_s h hp he
  rw [hk] at h7
  unfold kcallV at h7
  split at h7
  · rename_i b rest hd
    split at h7
    · rename_i cj fs hw
      have hq := kcond_inv h7
      clear h7
      obtain ⟨hb, h7⟩ := hq
      split at h7
      · rename_i r w' hcall
        cases h7
        have ht : st.take (y.2.1 + 1) = st.take y.2.1 ++ [.inl (.ref b)] := by
          rw [List.take_add_one]
          have : st[y.2.1]? = some (.inl (.ref b)) := by
            have e := congrArg (fun t => t[0]?) hd
            have e : (st.drop y.2.1)[0]? = some (.inl (.ref b)) := e
            rw [List.getElem?_drop] at e
            exact e
          rw [this]
          rfl
        have hdr : st.drop (y.2.1 + 1) = rest := by
          rw [← List.drop_drop, hd]
          rfl
        refine ⟨call, _, w, r, w', h1.1, h3, h6, ?_, hcall, hc N l _ _ (by omega) h4 ?_ rfl⟩
        · rw [← h5, ← List.map_take, ← List.map_reverse, ht, List.reverse_append]
          rfl
        · rw [r_append, ← h5, ← List.map_drop, hdr]
      · cases h7
    · cases h7
  · cases h7
set_option maxRecDepth 16384 in
theorem CR_callS0 (h : CR PC X ρ rg L nL Rc Rs prog N pc l S m o) (hp : kat prog pc = some (ig, x)) (he : kendx ig = false) (hk : ∀ (call : CL) (lo : List (Nat × KV)) (st : List KV) (w : KW) (c s : Nat), kdx ig X call rg L nL Rc Rs x pc lo st w c s = kcallS call Rc Rs x pc lo st w c s) : ∃ (call : CL) (av : List KV) (w : KW) (r : Option KV) (w' : KW), PC call ∧ kWT w ∧ wm ρ w = m ∧ av.map (kcc ρ) = (S.take x.2.1).reverse ∧ call x.1 av w = some (r, w') ∧ CR PC X ρ rg L nL Rc Rs prog N (pc + 3) l (r.toList.map (kcc ρ) ++ S.drop x.2.1) (wm ρ w') o := by
  obtain ⟨call, n, lo, st, w, c, s, k, h1, h2, h3, h4, h5, h6, h7, hc⟩ := CR_s h hp he
  rw [hk] at h7
  unfold kcallS at h7
  have hq := kcond_inv h7
  clear h7
  obtain ⟨hb, h7⟩ := hq
  split at h7
  · rename_i r w' hcall
    cases h7
    refine ⟨call, _, w, r, w', h1.1, h3, h6, ?_, hcall, hc N l _ _ (by omega) h4 ?_ rfl⟩
    · rw [← h5, ← List.map_take, ← List.map_reverse]
    · rw [r_append, ← h5, ← List.map_drop]
  · cases h7
set_option maxRecDepth 16384 in
theorem CR_callV {y : KX} (h : CR (kPM X) X ρ rg L nL Rc Rs prog N pc l S m o) (hp : kat prog pc = some (ig, x)) (he : kendx ig = false) (hk : ∀ (call : CL) (lo : List (Nat × KV)) (st : List KV) (w : KW) (c s : Nat), kdx ig X call rg L nL Rc Rs x pc lo st w c s = kcallV call Rc Rs y pc lo st w c s) : ∃ rl m', Run X ρ y.1 (S.take (y.2.1 + 1)).reverse m rl m' ∧ CR (kPM X) X ρ rg L nL Rc Rs prog N (pc + 3) l (rl ++ S.drop (y.2.1 + 1)) m' o := by
  obtain ⟨call, av, w, r, w', ⟨f, d, rfl⟩, h2, h3, h4, h5, h6⟩ := CR_callV0 h hp he hk
  exact ⟨_, _, ⟨f, d, av, w, r, w', h5, h2, h4, h3, rfl, rfl⟩, h6⟩
set_option maxRecDepth 16384 in
theorem CR_callS (h : CR (kPM X) X ρ rg L nL Rc Rs prog N pc l S m o) (hp : kat prog pc = some (ig, x)) (he : kendx ig = false) (hk : ∀ (call : CL) (lo : List (Nat × KV)) (st : List KV) (w : KW) (c s : Nat), kdx ig X call rg L nL Rc Rs x pc lo st w c s = kcallS call Rc Rs x pc lo st w c s) : ∃ rl m', Run X ρ x.1 (S.take x.2.1).reverse m rl m' ∧ CR (kPM X) X ρ rg L nL Rc Rs prog N (pc + 3) l (rl ++ S.drop x.2.1) m' o := by
  obtain ⟨call, av, w, r, w', ⟨f, d, rfl⟩, h2, h3, h4, h5, h6⟩ := CR_callS0 h hp he hk
  exact ⟨_, _, ⟨f, d, av, w, r, w', h5, h2, h4, h3, rfl, rfl⟩, h6⟩
set_option maxRecDepth 16384 in
theorem CR_cpy {t1 t2 t3 t4 t5 : Nat} {c0 dp r1 sp r0 : Int} (h : CR PC X ρ rg L nL Rc Rs prog N pc l ((t1, c0) :: (t2, dp) :: (t3, r1) :: (t4, sp) :: (t5, r0) :: S) m o) (hp : kat prog pc = some (ig, x)) (he : kendx ig = false) (hk : ∀ (call : CL) (lo : List (Nat × KV)) (st : List KV) (w : KW) (c s : Nat), kdx ig X call rg L nL Rc Rs x pc lo st w c s = kcopy pc lo st w c s) : CR PC X ρ rg L nL Rc Rs prog N (pc + 3) l S (mcp m r1 r0 c0) o := by
  obtain ⟨call, n, lo, st, w, c, s, k, h1, h2, h3, h4, h5, h6, h7, hc⟩ := CR_s h hp he
  rw [hk] at h7
  obtain ⟨v1, r, rfl, a1, b1, g1⟩ := kcc_cons h5
  obtain ⟨v2, r, rfl, a2, b2, g2⟩ := kcc_cons g1
  obtain ⟨v3, r, rfl, a3, b3, g3⟩ := kcc_cons g2
  obtain ⟨v4, r, rfl, a4, b4, g4⟩ := kcc_cons g3
  obtain ⟨v5, r, rfl, a5, b5, g5⟩ := kcc_cons g4
  unfold kcopy at h7
  split at h7
  · rename_i nn dd q1 ss q0 rest hst
    cases hst
    split at h7
    · rename_i t0 n0 e0 t1' n1 e1 hw0 hw1
      have hq := kcond_inv h7
      clear h7
      obtain ⟨hb, h7⟩ := hq
      simp only [Bool.and_eq_true] at hb
      obtain ⟨d1, d2, d3, d4, d5, d6, -⟩ := hb
      have d4 := kb_t d4
      have d5 := kb_t d5
      have d6 := kb_t d6
      subst d5; subst d6
      have hn : (n0 : Int) = nn.toInt := by
        have h9 : ¬ nn < 0 := by
          intro q
          rw [decide_eq_true q] at d3
          cases d3
        have h8 : 0 ≤ nn.toInt := by
          rw [Int32.lt_iff_toInt_lt] at h9
          have : (0 : Int32).toInt = 0 := by decide
          omega
        rw [← d4, ← Int32.toNat_toInt]
        omega
      have key : k = (pc + 3, lo, r, kws w q1 (.inl (t0, n0, e0)), c, s) := by
        split at h7
        · have hq := kcond_inv h7; clear h7; obtain ⟨-, h7⟩ := hq; cases h7; rfl
        · have hq := kcond_inv h7; clear h7; obtain ⟨-, h7⟩ := hq; cases h7; rfl
        · cases h7
      subst key
      refine hc N l S _ (by omega) h4 g5 ?_
      rw [← h6, ← b3, ← b5, ← b1]
      show wm ρ (kws w q1 (.inl (t0, n0, e0))) = mcp (wm ρ w) (q1 : Int) (q0 : Int) nn.toInt
      rw [← hn]
      funext b j
      unfold mcp
      have hg := kwg_kws (e' := .inl (t0, n0, e0)) hw1
      by_cases c1 : b = (q1 : Int) ∧ 0 ≤ j ∧ j < (n0 : Int)
      · obtain ⟨c1, c2, c3⟩ := c1
        rw [if_pos ⟨c1, c2, c3⟩, c1]
        unfold wm
        rw [if_pos (Int.natCast_nonneg _), if_neg (by omega), if_neg (by omega), if_pos c2, if_pos (Int.natCast_nonneg _), if_neg (by omega), if_neg (by omega), if_pos c2, Int.toNat_natCast, Int.toNat_natCast]
        have : wval (kws w q1 (.inl (t0, n0, e0))) q1 j.toNat = wval w q0 j.toNat := by
          unfold wval
          rw [hg, if_pos rfl, hw0]
        rw [this]
      · rw [if_neg c1]
        unfold wm
        by_cases c2 : 0 ≤ b
        · rw [if_pos c2, if_pos c2, hg]
          by_cases c4 : b.toNat = q1
          · rw [if_pos c4, c4, hw1]
            by_cases c3 : j = -1
            · rw [if_pos c3, if_pos c3]
            · rw [if_neg c3, if_neg c3]
              by_cases c6 : j = -2
              · rw [if_pos c6, if_pos c6]
              · rw [if_neg c6, if_neg c6]
                by_cases c5 : 0 ≤ j
                · rw [if_pos c5, if_pos c5]
                  have hj : n0 ≤ j.toNat := by
                    rcases Nat.lt_or_ge j.toNat n0 with q | q
                    · exact absurd ⟨by omega, c5, by omega⟩ c1
                    · exact q
                  have o1 : wval (kws w q1 (.inl (t0, n0, e0))) q1 j.toNat = none := by
                    unfold wval
                    rw [hg, if_pos rfl]
                    rcases e0 with ⟨l1, l2⟩ | ⟨l1, l2⟩ | l1 <;> (show (bif Nat.blt j.toNat n0 then some _ else none) = none) <;> rw [show Nat.blt j.toNat n0 = false from by
                      cases q : Nat.blt j.toNat n0 with
                      | false => rfl
                      | true => exact absurd (Nat.blt_eq.mp q) (Nat.not_lt.mpr hj)] <;> rfl
                  have o2 : wval w q1 j.toNat = none := by
                    unfold wval
                    rw [hw1]
                    rcases e1 with ⟨l1, l2⟩ | ⟨l1, l2⟩ | l1 <;> (show (bif Nat.blt j.toNat n0 then some _ else none) = none) <;> rw [show Nat.blt j.toNat n0 = false from by
                      cases q : Nat.blt j.toNat n0 with
                      | false => rfl
                      | true => exact absurd (Nat.blt_eq.mp q) (Nat.not_lt.mpr hj)] <;> rfl
                  rw [o1, o2]
                · rw [if_neg c5, if_neg c5]
          · rw [if_neg c4]
            by_cases c3 : j = -1
            · rw [if_pos c3, if_pos c3]
            · rw [if_neg c3, if_neg c3]
              by_cases c6 : j = -2
              · rw [if_pos c6, if_pos c6]
              · rw [if_neg c6, if_neg c6]
                have : wval (kws w q1 (.inl (t0, n0, e0))) b.toNat j.toNat = wval w b.toNat j.toNat := by
                  unfold wval
                  rw [hg, if_neg c4]
                rw [this]
        · rw [if_neg c2, if_neg c2]
    · cases h7
  · cases h7
end CRS3
end
