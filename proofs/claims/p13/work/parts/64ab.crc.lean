/-! A run as numbers, step by step: what a run that ends says of the run behind its first step. -/
abbrev CL : Type := Nat → List KV → KW → Option (Option KV × KW)
set_option maxRecDepth 16384 in
def kat (prog : List KEnt) (pc : Nat) : Option (Instr × KX) := match kfrom prog pc with
  | [] => none
  | e :: _ => bif Nat.beq e.1 pc then some e.2 else none
set_option maxRecDepth 16384 in
def lrel (ρ : Nat → Int32) (lo : List (Nat × KV)) (l : List Int) : Prop := ∀ q ∈ lo, l.getD q.1 0 = kc ρ q.2
set_option maxRecDepth 16384 in
def CR (PC : CL → Prop) (X : KO) (ρ : Nat → Int32) (rg : List (Int × Int)) (L nL Rc Rs : Nat) (prog : List KEnt) (N pc : Nat) (l : List Int) (S : List (Nat × Int)) (m : MM) (o : Instr × List (Nat × Int) × MM) : Prop := ∃ (call : CL) (n : Nat) (lo : List (Nat × KV)) (st : List KV) (w : KW) (c s : Nat) (k : KF), (PC call ∧ kPrC call) ∧ n ≤ N ∧ kWT w ∧ lrel ρ lo l ∧ st.map (kcc ρ) = S ∧ wm ρ w = m ∧ krx call X rg L nL Rc Rs prog n (pc, lo, st, w, c, s) = some (o.1, k) ∧ k.2.2.1.map (kcc ρ) = o.2.1 ∧ wm ρ k.2.2.2.1 = o.2.2
set_option maxRecDepth 16384 in
theorem kat_inv {prog : List KEnt} {pc : Nat} {ig : Instr} {x : KX} (h : kat prog pc = some (ig, x)) : ∃ l, kfrom prog pc = (pc, ig, x) :: l := by
  unfold kat at h
  split at h
  · cases h
  · rename_i e l hk
    obtain ⟨hb, h⟩ := kcond_inv h
    obtain ⟨a, b⟩ := e
    cases h
    obtain rfl : a = pc := kb_t hb
    exact ⟨l, hk⟩
set_option maxRecDepth 16384 in
def cdP (cnd : Jvm.ClassFile.Cond) (a b : Int) : Prop := match cnd with
  | .eq => a = b
  | .ne => ¬ a = b
  | .lt => a < b
  | .ge => b ≤ a
  | .gt => b < a
  | .le => a ≤ b
set_option maxRecDepth 16384 in
theorem kcondc_ok {rg : List (Int × Int)} {ρ : Nat → Int32} (hr : kRg rg ρ) {cnd : Jvm.ClassFile.Cond} {a b : KV} {r : Bool} (ha : kisI a = true) (hb : kisI b = true) (h : kcond rg cnd a b = some r) : r = true ↔ cdP cnd (kc ρ a) (kc ρ b) := by
  have e1 : ∀ x y : KV, kisI x = true → kisI y = true → ((kiv ρ x < kiv ρ y) ↔ kc ρ x < kc ρ y) := fun x y hx hy => by
    rw [(kc_int hx).1, (kc_int hy).1]; exact Int32.lt_iff_toInt_lt
  have e2 : ∀ x y : KV, kisI x = true → kisI y = true → ((kiv ρ x = kiv ρ y) ↔ kc ρ x = kc ρ y) := fun x y hx hy => by
    rw [(kc_int hx).1, (kc_int hy).1]; exact Int32.toInt_inj.symm
  have e3 : ∀ {o : Option Bool} {r : Bool}, o.map not = some r → o = some (!r) := fun {o r} h => by
    cases o with
    | none => cases h
    | some v => cases h; cases v <;> rfl
  have e4 : ∀ {r : Bool}, r = true ↔ ¬ ((!r) = true) := fun {r} => by cases r <;> decide
  cases cnd with
  | eq => exact (keq_ok hr h).trans (e2 a b ha hb)
  | ne => exact e4.trans (not_congr ((keq_ok hr (e3 h)).trans (e2 a b ha hb)))
  | lt => exact (klt_ok hr h).trans (e1 a b ha hb)
  | ge => exact (e4.trans (not_congr ((klt_ok hr (e3 h)).trans (e1 a b ha hb)))).trans Int.not_lt
  | gt => exact (klt_ok hr h).trans (e1 b a hb ha)
  | le => exact (e4.trans (not_congr ((klt_ok hr (e3 h)).trans (e1 b a hb ha)))).trans Int.not_lt
set_option maxRecDepth 16384 in
theorem getD_set_eq {l : List Int} {i : Nat} (h : i < l.length) (e : Int) : (l.set i e).getD i 0 = e := by
  rw [List.getD_eq_getElem?_getD, List.getElem?_set_self h]
  rfl
set_option maxRecDepth 16384 in
theorem getD_set_ne {l : List Int} {i j : Nat} (h : i ≠ j) (e : Int) : (l.set i e).getD j 0 = l.getD j 0 := by
  rw [List.getD_eq_getElem?_getD, List.getD_eq_getElem?_getD, List.getElem?_set_ne h]
set_option maxRecDepth 16384 in
theorem lrel_lo {ρ : Nat → Int32} {lo : List (Nat × KV)} {l : List Int} (h : lrel ρ lo l) {i : Nat} {v : KV} (hi : i < l.length) : lrel ρ (klo lo i v) (l.set i (kc ρ v)) := by
  intro q hq
  rcases List.mem_cons.mp hq with rfl | hq
  · exact getD_set_eq hi _
  · rw [kflt_eq] at hq
    obtain ⟨h1, h2⟩ := List.mem_filter.mp hq
    have h2 := (Bool.and_eq_true_iff.mp h2).1
    have : ¬ q.1 = i := fun e => by rw [e, beq_self_eq_true] at h2; cases h2
    rw [getD_set_ne (fun e => this e.symm)]
    exact h q h1
set_option maxRecDepth 16384 in
theorem lrel_lo2 {ρ : Nat → Int32} {lo : List (Nat × KV)} {l : List Int} (h : lrel ρ lo l) {i : Nat} {v : KV} (hi : i < l.length) : lrel ρ (klo2 lo i v) (l.set i (kc ρ v)) := by
  intro q hq
  rcases List.mem_cons.mp hq with rfl | hq
  · exact getD_set_eq hi _
  · obtain ⟨h1, h2⟩ := List.mem_filter.mp hq
    have h2 := (Bool.and_eq_true_iff.mp h2).1
    have : ¬ q.1 = i := fun e => by rw [e, beq_self_eq_true] at h2; cases h2
    rw [getD_set_ne (fun e => this e.symm)]
    exact h q h1
set_option maxRecDepth 16384 in
theorem s32_ex : ∃ f : Int → Int, ∀ z, f z = (Int32.ofInt z).toInt := ⟨_, fun _ => rfl⟩
set_option maxRecDepth 16384 in
noncomputable def s32 : Int → Int := Classical.choose s32_ex
set_option maxRecDepth 16384 in
theorem s32_eq (z : Int) : s32 z = (Int32.ofInt z).toInt := Classical.choose_spec s32_ex z
set_option maxRecDepth 16384 in
theorem s64_ex : ∃ f : Int → Int, ∀ z, f z = (Int64.ofInt z).toInt := ⟨_, fun _ => rfl⟩
set_option maxRecDepth 16384 in
noncomputable def s64 : Int → Int := Classical.choose s64_ex
set_option maxRecDepth 16384 in
theorem s64_eq (z : Int) : s64 z = (Int64.ofInt z).toInt := Classical.choose_spec s64_ex z
set_option maxRecDepth 16384 in
theorem s32_id {z : Int} (h1 : -2147483648 ≤ z) (h2 : z < 2147483648) : s32 z = z := (s32_eq z).trans (Int32.toInt_ofInt_of_le h1 h2)
set_option maxRecDepth 16384 in
theorem s64_id {z : Int} (h1 : -9223372036854775808 ≤ z) (h2 : z < 9223372036854775808) : s64 z = z := (s64_eq z).trans (Int64.toInt_ofInt_of_le h1 h2)
set_option maxRecDepth 16384 in
def o32 (f : Int32 → Int32 → Int32) (a b : Int) : Int := (f (Int32.ofInt a) (Int32.ofInt b)).toInt
set_option maxRecDepth 16384 in
theorem o32_add (a b : Int) : o32 (fun a b => a + b) a b = s32 (a + b) := by
  rw [s32_eq]; unfold o32; rw [Int32.ofInt_add]
set_option maxRecDepth 16384 in
theorem o32_sub (a b : Int) : o32 (fun a b => a - b) a b = s32 (a - b) := by
  rw [s32_eq]; unfold o32; rw [Int32.ofInt_sub]
set_option maxRecDepth 16384 in
theorem o32_mul (a b : Int) : o32 (fun a b => a * b) a b = s32 (a * b) := by
  rw [s32_eq]; unfold o32; rw [Int32.ofInt_mul]
set_option maxRecDepth 16384 in
def o64 (f : Int64 → Int64 → Int64) (a b : Int) : Int := (f (Int64.ofInt a) (Int64.ofInt b)).toInt
set_option maxRecDepth 16384 in
theorem o64_add (a b : Int) : o64 (fun a b => a + b) a b = s64 (a + b) := by
  rw [s64_eq]; unfold o64; rw [Int64.ofInt_add]
set_option maxRecDepth 16384 in
theorem o64_sub (a b : Int) : o64 (fun a b => a - b) a b = s64 (a - b) := by
  rw [s64_eq]; unfold o64; rw [Int64.ofInt_sub]
set_option maxRecDepth 16384 in
theorem o64_mul (a b : Int) : o64 (fun a b => a * b) a b = s64 (a * b) := by
  rw [s64_eq]; unfold o64; rw [Int64.ofInt_mul]
section CRS
variable {PC : CL → Prop} {X : KO} {ρ : Nat → Int32} {rg : List (Int × Int)} {L nL Rc Rs : Nat} {prog : List KEnt} {N pc : Nat} {l : List Int} {S : List (Nat × Int)} {m : MM} {o : Instr × List (Nat × Int) × MM} {ig : Instr} {x : KX}
set_option maxRecDepth 16384 in
theorem CR_s (h : CR PC X ρ rg L nL Rc Rs prog N pc l S m o) (hp : kat prog pc = some (ig, x)) (he : kendx ig = false) : ∃ (call : CL) (n : Nat) (lo : List (Nat × KV)) (st : List KV) (w : KW) (c s : Nat) (k : KF), (PC call ∧ kPrC call) ∧ n + 1 ≤ N ∧ kWT w ∧ lrel ρ lo l ∧ st.map (kcc ρ) = S ∧ wm ρ w = m ∧ kdx ig X call rg L nL Rc Rs x pc lo st w c s = some k ∧ ∀ (N' : Nat) (l' : List Int) (S' : List (Nat × Int)) (m' : MM), n ≤ N' → lrel ρ k.2.1 l' → k.2.2.1.map (kcc ρ) = S' → wm ρ k.2.2.2.1 = m' → CR PC X ρ rg L nL Rc Rs prog N' k.1 l' S' m' o := by
  obtain ⟨call, n, lo, st, w, c, s, k, h1, h2, h3, h4, h5, h6, h7, h8, h9⟩ := h
  obtain ⟨r, hk⟩ := kat_inv hp
  cases n with
  | zero => cases h7
  | succ n =>
    unfold krx at h7
    rw [hk] at h7
    simp only [kb_r rfl, cond_true, he, cond_false] at h7
    split at h7
    · cases h7
    · rename_i k1 hk1
      exact ⟨call, n, lo, st, w, c, s, k1, h1, h2, h3, h4, h5, h6, hk1, fun N' l' S' m' g1 g2 g3 g4 => ⟨call, n, k1.2.1, k1.2.2.1, k1.2.2.2.1, k1.2.2.2.2.1, k1.2.2.2.2.2, k, h1, g1, kdx_pr he h1.2 h3 k1 hk1, g2, g3, g4, h7, h8, h9⟩⟩
set_option maxRecDepth 16384 in
theorem CR_end (h : CR PC X ρ rg L nL Rc Rs prog N pc l S m o) (hp : kat prog pc = some (ig, x)) (he : kendx ig = true) : o = (ig, S, m) := by
  obtain ⟨call, n, lo, st, w, c, s, k, h1, h2, h3, h4, h5, h6, h7, h8, h9⟩ := h
  obtain ⟨r, hk⟩ := kat_inv hp
  cases n with
  | zero => cases h7
  | succ n =>
    unfold krx at h7
    rw [hk] at h7
    simp only [kb_r rfl, cond_true, he] at h7
    obtain ⟨a, b, d⟩ := o
    cases h7
    exact Prod.ext rfl (Prod.ext (h8.symm.trans h5) (h9.symm.trans h6))
set_option maxRecDepth 16384 in
theorem kcc_cons {st : List KV} {t : Nat} {e : Int} {S : List (Nat × Int)} (h : st.map (kcc ρ) = (t, e) :: S) : ∃ v r, st = v :: r ∧ kcat v = t ∧ kc ρ v = e ∧ r.map (kcc ρ) = S := by
  cases st with
  | nil => cases h
  | cons v r =>
    rw [List.map_cons] at h
    injection h with h1 h2
    exact ⟨v, r, rfl, congrArg Prod.fst h1, congrArg Prod.snd h1, h2⟩
set_option maxRecDepth 16384 in
theorem CR_push {len : Nat} {v : KV} {t : Nat} {z : Int} (h : CR PC X ρ rg L nL Rc Rs prog N pc l S m o) (hp : kat prog pc = some (ig, x)) (he : kendx ig = false) (hk : ∀ (call : CL) (lo : List (Nat × KV)) (st : List KV) (w : KW) (c s : Nat), kdx ig X call rg L nL Rc Rs x pc lo st w c s = some (pc + len, lo, v :: st, w, c, s)) (hv : kcc ρ v = (t, z)) : CR PC X ρ rg L nL Rc Rs prog N (pc + len) l ((t, z) :: S) m o := by
  obtain ⟨call, n, lo, st, w, c, s, k, h1, h2, h3, h4, h5, h6, h7, hc⟩ := CR_s h hp he
  rw [hk] at h7
  cases h7
  exact hc N l _ m (by omega) h4 (by rw [List.map_cons, hv, h5]) h6
set_option maxRecDepth 16384 in
theorem CR_ld {ok : KV → Bool} {i len t : Nat} (h : CR PC X ρ rg L nL Rc Rs prog N pc l S m o) (hp : kat prog pc = some (ig, x)) (he : kendx ig = false) (hk : ∀ (call : CL) (lo : List (Nat × KV)) (st : List KV) (w : KW) (c s : Nat), kdx ig X call rg L nL Rc Rs x pc lo st w c s = kld ok i len pc lo st w c s) (hok : ∀ v, ok v = true → kcat v = t) : CR PC X ρ rg L nL Rc Rs prog N (pc + len) l ((t, l.getD i 0) :: S) m o := by
  obtain ⟨call, n, lo, st, w, c, s, k, h1, h2, h3, h4, h5, h6, h7, hc⟩ := CR_s h hp he
  rw [hk] at h7
  unfold kld at h7
  split at h7
  · rename_i v hv
    obtain ⟨hb, h7⟩ := kcond_inv h7
    cases h7
    refine hc N l _ m (by omega) h4 ?_ h6
    rw [List.map_cons, h5]
    congr 1
    exact Prod.ext (hok v hb) (h4 _ (klook_mem hv)).symm
  · cases h7
set_option maxRecDepth 16384 in
theorem okI_cat (v : KV) (h : kisI v = true) : kcat v = 1 := (kc_int (ρ := fun _ => 0) h).2
set_option maxRecDepth 16384 in
theorem okQ_cat (v : KV) (h : kisQ v = true) : kcat v = 1 := by
  rcases kisQ_eq h with ⟨a, rfl⟩ | rfl <;> rfl
set_option maxRecDepth 16384 in
theorem okG_cat (v : KV) (h : kisG v = true) : kcat v = 2 := by
  obtain ⟨x, rfl⟩ := kisG_eq h
  rfl
set_option maxRecDepth 16384 in
theorem CR_st {ok : KV → Bool} {i len t : Nat} {e : Int} (h : CR PC X ρ rg L nL Rc Rs prog N pc l ((t, e) :: S) m o) (hp : kat prog pc = some (ig, x)) (he : kendx ig = false) (hk : ∀ (call : CL) (lo : List (Nat × KV)) (st : List KV) (w : KW) (c s : Nat), kdx ig X call rg L nL Rc Rs x pc lo st w c s = kst ok i len nL pc lo st w c s) (hl : i < l.length) : CR PC X ρ rg L nL Rc Rs prog N (pc + len) (l.set i e) S m o := by
  obtain ⟨call, n, lo, st, w, c, s, k, h1, h2, h3, h4, h5, h6, h7, hc⟩ := CR_s h hp he
  obtain ⟨v, r, rfl, h8, h9, h10⟩ := kcc_cons h5
  rw [hk] at h7
  obtain ⟨hb, h7⟩ := kcond_inv h7
  cases h7
  exact hc N _ S m (by omega) (by rw [← h9]; exact lrel_lo h4 hl) h10 h6
set_option maxRecDepth 16384 in
theorem CR_st2 {i len t : Nat} {e : Int} (h : CR PC X ρ rg L nL Rc Rs prog N pc l ((t, e) :: S) m o) (hp : kat prog pc = some (ig, x)) (he : kendx ig = false) (hk : ∀ (call : CL) (lo : List (Nat × KV)) (st : List KV) (w : KW) (c s : Nat), kdx ig X call rg L nL Rc Rs x pc lo st w c s = kst2 i len nL pc lo st w c s) (hl : i < l.length) : CR PC X ρ rg L nL Rc Rs prog N (pc + len) (l.set i e) S m o := by
  obtain ⟨call, n, lo, st, w, c, s, k, h1, h2, h3, h4, h5, h6, h7, hc⟩ := CR_s h hp he
  obtain ⟨v, r, rfl, h8, h9, h10⟩ := kcc_cons h5
  rw [hk] at h7
  unfold kst2 at h7
  split at h7
  · rename_i y rest hst
    cases hst
    obtain ⟨hb, h7⟩ := kcond_inv h7
    cases h7
    exact hc N _ S m (by omega) (by rw [← h9]; exact lrel_lo2 h4 hl) h10 h6
  · cases h7
set_option maxRecDepth 16384 in
theorem CR_inc {i : Nat} {z : Int} (h : CR PC X ρ rg L nL Rc Rs prog N pc l S m o) (hp : kat prog pc = some (.iinc i z, x)) (hl : i < l.length) : CR PC X ρ rg L nL Rc Rs prog N (pc + 3) (l.set i (s32 (l.getD i 0 + z))) S m o := by
  obtain ⟨call, n, lo, st, w, c, s, k, h1, h2, h3, h4, h5, h6, h7, hc⟩ := CR_s h hp rfl
  have h7 : kinc i z nL pc lo st w c s = some k := h7
  unfold kinc at h7
  split at h7
  · rename_i y hy
    obtain ⟨hb, h7⟩ := kcond_inv h7
    cases h7
    have e1 : l.getD i 0 = y.toInt := h4 _ (klook_mem hy)
    have e2 : s32 (l.getD i 0 + z) = kc ρ (.inl (.int (y + Int32.ofInt z))) := by
      rw [e1, s32_eq]
      show (Int32.ofInt (y.toInt + z)).toInt = (y + Int32.ofInt z).toInt
      rw [Int32.ofInt_add, Int32.ofInt_toInt]
    exact hc N _ S m (by omega) (by rw [e2]; exact lrel_lo h4 hl) h5 h6
  · cases h7
set_option maxRecDepth 16384 in
theorem CR_bin {f : Int32 → Int32 → Int32} {t1 t2 : Nat} {a b : Int} (h : CR PC X ρ rg L nL Rc Rs prog N pc l ((t2, b) :: (t1, a) :: S) m o) (hp : kat prog pc = some (ig, x)) (he : kendx ig = false) (hk : ∀ (call : CL) (lo : List (Nat × KV)) (st : List KV) (w : KW) (c s : Nat), kdx ig X call rg L nL Rc Rs x pc lo st w c s = kbin f pc lo st w c s) : CR PC X ρ rg L nL Rc Rs prog N (pc + 1) l ((1, o32 f a b) :: S) m o := by
  obtain ⟨call, n, lo, st, w, c, s, k, h1, h2, h3, h4, h5, h6, h7, hc⟩ := CR_s h hp he
  obtain ⟨y, r, rfl, h8, h9, h10⟩ := kcc_cons h5
  obtain ⟨u, r, rfl, h11, h12, h13⟩ := kcc_cons h10
  rw [hk] at h7
  obtain ⟨hb, h7⟩ := kcond_inv h7
  cases h7
  have hb := Bool.and_eq_true_iff.mp hb
  refine hc N l _ m (by omega) h4 ?_ h6
  rw [List.map_cons, h13]
  congr 1
  have e := kc_op2 ρ f u y
  refine Prod.ext e.2 (e.1.trans ?_)
  unfold o32
  rw [kiv_kc hb.1, kiv_kc hb.2, h9, h12]
set_option maxRecDepth 16384 in
theorem CR_and {t1 t2 : Nat} {a b : Int} (h : CR PC X ρ rg L nL Rc Rs prog N pc l ((t2, b) :: (t1, a) :: S) m o) (hp : kat prog pc = some (.iand, x)) : CR PC X ρ rg L nL Rc Rs prog N (pc + 1) l ((1, o32 (fun a b => a &&& b) a b) :: S) m o := by
  obtain ⟨call, n, lo, st, w, c, s, k, h1, h2, h3, h4, h5, h6, h7, hc⟩ := CR_s h hp rfl
  obtain ⟨y, r, rfl, h8, h9, h10⟩ := kcc_cons h5
  obtain ⟨u, r, rfl, h11, h12, h13⟩ := kcc_cons h10
  have h7 : kand none pc lo (y :: u :: r) w c s = some k := h7
  have h7 : (bif kisO u && kis63 y then (none : Option KF) else kbin (fun a b => a &&& b) pc lo (y :: u :: r) w c s) = some k := h7
  cases q : kisO u && kis63 y with
  | true => rw [q] at h7; cases h7
  | false =>
    rw [q] at h7
    simp only [cond_false] at h7
    obtain ⟨hb, h7⟩ := kcond_inv h7
    cases h7
    have hb := Bool.and_eq_true_iff.mp hb
    refine hc N l _ m (by omega) h4 ?_ h6
    rw [List.map_cons, h13]
    congr 1
    have e := kc_op2 ρ (fun a b => a &&& b) u y
    refine Prod.ext e.2 (e.1.trans ?_)
    unfold o32
    rw [kiv_kc hb.1, kiv_kc hb.2, h9, h12]
set_option maxRecDepth 16384 in
theorem CR_un {f : Int32 → Int32} {t1 : Nat} {a : Int} (h : CR PC X ρ rg L nL Rc Rs prog N pc l ((t1, a) :: S) m o) (hp : kat prog pc = some (ig, x)) (he : kendx ig = false) (hk : ∀ (call : CL) (lo : List (Nat × KV)) (st : List KV) (w : KW) (c s : Nat), kdx ig X call rg L nL Rc Rs x pc lo st w c s = kun f pc lo st w c s) : CR PC X ρ rg L nL Rc Rs prog N (pc + 1) l ((1, (f (Int32.ofInt a)).toInt) :: S) m o := by
  obtain ⟨call, n, lo, st, w, c, s, k, h1, h2, h3, h4, h5, h6, h7, hc⟩ := CR_s h hp he
  obtain ⟨y, r, rfl, h8, h9, h10⟩ := kcc_cons h5
  rw [hk] at h7
  obtain ⟨hb, h7⟩ := kcond_inv h7
  cases h7
  refine hc N l _ m (by omega) h4 ?_ h6
  rw [List.map_cons, h10]
  congr 1
  have e := kc_op1 ρ f y
  refine Prod.ext e.2 (e.1.trans ?_)
  rw [kiv_kc hb, h9]
set_option maxRecDepth 16384 in
theorem CR_rem {t1 t2 : Nat} {a b : Int} (h : CR PC X ρ rg L nL Rc Rs prog N pc l ((t2, b) :: (t1, a) :: S) m o) (hp : kat prog pc = some (.irem, x)) : CR PC X ρ rg L nL Rc Rs prog N (pc + 1) l ((1, o32 (fun x y => x - x / y * y) a b) :: S) m o := by
  obtain ⟨call, n, lo, st, w, c, s, k, h1, h2, h3, h4, h5, h6, h7, hc⟩ := CR_s h hp rfl
  obtain ⟨y, r, rfl, h8, h9, h10⟩ := kcc_cons h5
  obtain ⟨u, r, rfl, h11, h12, h13⟩ := kcc_cons h10
  have h7 : krem pc lo (y :: u :: r) w c s = some k := h7
  unfold krem at h7
  split at h7
  · rename_i y' x' rest hst
    cases hst
    cases q : decide (y' = 0) with
    | true => rw [q] at h7; cases h7
    | false =>
      rw [q] at h7
      cases h7
      refine hc N l _ m (by omega) h4 ?_ h6
      rw [List.map_cons, h13, ← h9, ← h12]
      congr 1
      refine Prod.ext rfl ?_
      show (x' - x' / y' * y').toInt = (Int32.ofInt x'.toInt - Int32.ofInt x'.toInt / Int32.ofInt y'.toInt * Int32.ofInt y'.toInt).toInt
      rw [Int32.ofInt_toInt, Int32.ofInt_toInt]
  · cases h7
set_option maxRecDepth 16384 in
theorem CR_i2l {t1 : Nat} {a : Int} (h : CR PC X ρ rg L nL Rc Rs prog N pc l ((t1, a) :: S) m o) (hp : kat prog pc = some (.i2l, x)) : CR PC X ρ rg L nL Rc Rs prog N (pc + 1) l ((2, a) :: S) m o := by
  obtain ⟨call, n, lo, st, w, c, s, k, h1, h2, h3, h4, h5, h6, h7, hc⟩ := CR_s h hp rfl
  obtain ⟨y, r, rfl, h8, h9, h10⟩ := kcc_cons h5
  have h7 : ki2l pc lo (y :: r) w c s = some k := h7
  unfold ki2l at h7
  split at h7
  · rename_i x' rest hst
    cases hst
    cases h7
    refine hc N l _ m (by omega) h4 ?_ h6
    rw [List.map_cons, h10, ← h9]
    congr 1
    exact Prod.ext rfl (Int32.toInt_toInt64 x')
  · cases h7
set_option maxRecDepth 16384 in
theorem CR_l2i {t1 : Nat} {a : Int} (h : CR PC X ρ rg L nL Rc Rs prog N pc l ((t1, a) :: S) m o) (hp : kat prog pc = some (.l2i, x)) : CR PC X ρ rg L nL Rc Rs prog N (pc + 1) l ((1, (Int64.ofInt a).toInt32.toInt) :: S) m o := by
  obtain ⟨call, n, lo, st, w, c, s, k, h1, h2, h3, h4, h5, h6, h7, hc⟩ := CR_s h hp rfl
  obtain ⟨y, r, rfl, h8, h9, h10⟩ := kcc_cons h5
  have h7 : kl2i pc lo (y :: r) w c s = some k := h7
  unfold kl2i at h7
  split at h7
  · rename_i x' rest hst
    cases hst
    cases h7
    refine hc N l _ m (by omega) h4 ?_ h6
    rw [List.map_cons, h10, ← h9]
    congr 1
    refine Prod.ext rfl ?_
    show x'.toInt32.toInt = (Int64.ofInt x'.toInt).toInt32.toInt
    rw [Int64.ofInt_toInt]
  · cases h7
set_option maxRecDepth 16384 in
theorem CR_binL {f : Int64 → Int64 → Int64} {t1 t2 : Nat} {a b : Int} (h : CR PC X ρ rg L nL Rc Rs prog N pc l ((t2, b) :: (t1, a) :: S) m o) (hp : kat prog pc = some (ig, x)) (he : kendx ig = false) (hk : ∀ (call : CL) (lo : List (Nat × KV)) (st : List KV) (w : KW) (c s : Nat), kdx ig X call rg L nL Rc Rs x pc lo st w c s = kbinL f pc lo st w c s) : CR PC X ρ rg L nL Rc Rs prog N (pc + 1) l ((2, o64 f a b) :: S) m o := by
  obtain ⟨call, n, lo, st, w, c, s, k, h1, h2, h3, h4, h5, h6, h7, hc⟩ := CR_s h hp he
  obtain ⟨y, r, rfl, h8, h9, h10⟩ := kcc_cons h5
  obtain ⟨u, r, rfl, h11, h12, h13⟩ := kcc_cons h10
  rw [hk] at h7
  unfold kbinL at h7
  split at h7
  · rename_i y' x' rest hst
    cases hst
    cases h7
    refine hc N l _ m (by omega) h4 ?_ h6
    rw [List.map_cons, h13, ← h9, ← h12]
    congr 1
    refine Prod.ext rfl ?_
    show (f x' y').toInt = (f (Int64.ofInt x'.toInt) (Int64.ofInt y'.toInt)).toInt
    rw [Int64.ofInt_toInt, Int64.ofInt_toInt]
  · cases h7
set_option maxRecDepth 16384 in
theorem CR_dvL {f : Int64 → Int64 → Int64} {t1 t2 : Nat} {a b : Int} (h : CR PC X ρ rg L nL Rc Rs prog N pc l ((t2, b) :: (t1, a) :: S) m o) (hp : kat prog pc = some (ig, x)) (he : kendx ig = false) (hk : ∀ (call : CL) (lo : List (Nat × KV)) (st : List KV) (w : KW) (c s : Nat), kdx ig X call rg L nL Rc Rs x pc lo st w c s = kdvL f pc lo st w c s) : CR PC X ρ rg L nL Rc Rs prog N (pc + 1) l ((2, o64 f a b) :: S) m o := by
  obtain ⟨call, n, lo, st, w, c, s, k, h1, h2, h3, h4, h5, h6, h7, hc⟩ := CR_s h hp he
  obtain ⟨y, r, rfl, h8, h9, h10⟩ := kcc_cons h5
  obtain ⟨u, r, rfl, h11, h12, h13⟩ := kcc_cons h10
  rw [hk] at h7
  unfold kdvL at h7
  split at h7
  · rename_i y' x' rest hst
    cases hst
    cases q : decide (y' = 0) with
    | true => rw [q] at h7; cases h7
    | false =>
      rw [q] at h7
      cases h7
      refine hc N l _ m (by omega) h4 ?_ h6
      rw [List.map_cons, h13, ← h9, ← h12]
      congr 1
      refine Prod.ext rfl ?_
      show (f x' y').toInt = (f (Int64.ofInt x'.toInt) (Int64.ofInt y'.toInt)).toInt
      rw [Int64.ofInt_toInt, Int64.ofInt_toInt]
  · cases h7
set_option maxRecDepth 16384 in
theorem CR_lsr {t1 t2 : Nat} {a b : Int} (h : CR PC X ρ rg L nL Rc Rs prog N pc l ((t2, b) :: (t1, a) :: S) m o) (hp : kat prog pc = some (.lushr, x)) : CR PC X ρ rg L nL Rc Rs prog N (pc + 1) l ((2, ((Int64.ofInt a).toUInt64 >>> ((Int32.ofInt b).toInt64.toUInt64 &&& Int64.toUInt64 63)).toInt64.toInt) :: S) m o := by
  obtain ⟨call, n, lo, st, w, c, s, k, h1, h2, h3, h4, h5, h6, h7, hc⟩ := CR_s h hp rfl
  obtain ⟨y, r, rfl, h8, h9, h10⟩ := kcc_cons h5
  obtain ⟨u, r, rfl, h11, h12, h13⟩ := kcc_cons h10
  have h7 : klsr pc lo (y :: u :: r) w c s = some k := h7
  unfold klsr at h7
  split at h7
  · rename_i y' x' rest hst
    cases hst
    cases h7
    refine hc N l _ m (by omega) h4 ?_ h6
    rw [List.map_cons, h13, ← h9, ← h12]
    congr 1
    refine Prod.ext rfl ?_
    show _ = ((Int64.ofInt x'.toInt).toUInt64 >>> ((Int32.ofInt y'.toInt).toInt64.toUInt64 &&& Int64.toUInt64 63)).toInt64.toInt
    rw [Int64.ofInt_toInt, Int32.ofInt_toInt]
    rfl
  · cases h7
set_option maxRecDepth 16384 in
theorem CR_lcmp {t1 t2 : Nat} {a b : Int} (h : CR PC X ρ rg L nL Rc Rs prog N pc l ((t2, b) :: (t1, a) :: S) m o) (hp : kat prog pc = some (.lcmp, x)) : CR PC X ρ rg L nL Rc Rs prog N (pc + 1) l ((1, if b < a then 1 else if a = b then 0 else -1) :: S) m o := by
  obtain ⟨call, n, lo, st, w, c, s, k, h1, h2, h3, h4, h5, h6, h7, hc⟩ := CR_s h hp rfl
  obtain ⟨y, r, rfl, h8, h9, h10⟩ := kcc_cons h5
  obtain ⟨u, r, rfl, h11, h12, h13⟩ := kcc_cons h10
  have h7 : kcmpL pc lo (y :: u :: r) w c s = some k := h7
  unfold kcmpL at h7
  split at h7
  · rename_i y' x' rest hst
    cases hst
    cases h7
    refine hc N l _ m (by omega) h4 ?_ h6
    rw [List.map_cons, h13, ← h9, ← h12]
    congr 1
    refine Prod.ext rfl ?_
    show (lg_cmp x' y').toInt = if y'.toInt < x'.toInt then 1 else if x'.toInt = y'.toInt then 0 else -1
    unfold lg_cmp
    by_cases c1 : x' > y'
    · rw [if_pos c1, if_pos (Int64.lt_iff_toInt_lt.mp c1)]; rfl
    · rw [if_neg c1, if_neg (fun q => c1 (Int64.lt_iff_toInt_lt.mpr q))]
      by_cases c2 : x' = y'
      · rw [if_pos c2, if_pos (by rw [c2])]; rfl
      · rw [if_neg c2, if_neg (fun q => c2 (Int64.toInt_inj.mp q))]; rfl
  · cases h7
set_option maxRecDepth 16384 in
theorem kbr_inv {o : Option Nat} {r : Option Bool} {pc c s t : Nat} {lo : List (Nat × KV)} {st : List KV} {w : KW} {k : KF} (h : kbr o r pc lo st w c s = some k) (ht : o = some t) : ∃ b, r = some b ∧ k = ((bif b then t else pc + 3), lo, st, w, c, s) := by
  subst ht
  cases r with
  | none => cases h
  | some b => cases b <;> (cases h; exact ⟨_, rfl, rfl⟩)
set_option maxRecDepth 16384 in
theorem CR_if (hr : kRg rg ρ) {cnd : Jvm.ClassFile.Cond} {off : Int} {t t1 : Nat} {a : Int} (h : CR PC X ρ rg L nL Rc Rs prog N pc l ((t1, a) :: S) m o) (hp : kat prog pc = some (.ifCond cnd off, x)) (ht : ktg pc off = some t) : (cdP cnd a 0 ∧ CR PC X ρ rg L nL Rc Rs prog N t l S m o) ∨ (¬ cdP cnd a 0 ∧ CR PC X ρ rg L nL Rc Rs prog N (pc + 3) l S m o) := by
  obtain ⟨call, n, lo, st, w, c, s, k, h1, h2, h3, h4, h5, h6, h7, hc⟩ := CR_s h hp rfl
  obtain ⟨y, r, rfl, h8, h9, h10⟩ := kcc_cons h5
  have h7 : kif rg cnd off pc lo (y :: r) w c s = some k := h7
  obtain ⟨hb, h7⟩ := kcond_inv h7
  obtain ⟨b, hb2, rfl⟩ := kbr_inv h7 ht
  have e := kcondc_ok hr hb rfl hb2
  rw [h9] at e
  have := hc N l S m (by omega) h4 h10 h6
  cases b with
  | true => exact Or.inl ⟨e.mp rfl, this⟩
  | false => exact Or.inr ⟨fun q => (nomatch e.mpr q), this⟩
set_option maxRecDepth 16384 in
theorem CR_icmp (hr : kRg rg ρ) {cnd : Jvm.ClassFile.Cond} {off : Int} {t t1 t2 : Nat} {a b : Int} (h : CR PC X ρ rg L nL Rc Rs prog N pc l ((t2, b) :: (t1, a) :: S) m o) (hp : kat prog pc = some (.if_icmp cnd off, x)) (ht : ktg pc off = some t) : (cdP cnd a b ∧ CR PC X ρ rg L nL Rc Rs prog N t l S m o) ∨ (¬ cdP cnd a b ∧ CR PC X ρ rg L nL Rc Rs prog N (pc + 3) l S m o) := by
  obtain ⟨call, n, lo, st, w, c, s, k, h1, h2, h3, h4, h5, h6, h7, hc⟩ := CR_s h hp rfl
  obtain ⟨y, r, rfl, h8, h9, h10⟩ := kcc_cons h5
  obtain ⟨u, r, rfl, h11, h12, h13⟩ := kcc_cons h10
  have h7 : kicmp rg cnd off pc lo (y :: u :: r) w c s = some k := h7
  obtain ⟨hb, h7⟩ := kcond_inv h7
  obtain ⟨b', hb2, rfl⟩ := kbr_inv h7 ht
  have hb := Bool.and_eq_true_iff.mp hb
  have e := kcondc_ok hr hb.1 hb.2 hb2
  rw [h9, h12] at e
  have := hc N l S m (by omega) h4 h13 h6
  cases b' with
  | true => exact Or.inl ⟨e.mp rfl, this⟩
  | false => exact Or.inr ⟨fun q => (nomatch e.mpr q), this⟩
set_option maxRecDepth 16384 in
theorem CR_goto {off : Int} {t : Nat} (h : CR PC X ρ rg L nL Rc Rs prog N pc l S m o) (hp : kat prog pc = some (.goto off, x)) (ht : ktg pc off = some t) : ∃ N', N = N' + 1 ∧ CR PC X ρ rg L nL Rc Rs prog N' t l S m o := by
  obtain ⟨call, n, lo, st, w, c, s, k, h1, h2, h3, h4, h5, h6, h7, hc⟩ := CR_s h hp rfl
  have h7 : (match ktg pc off with
    | some t => some (t, lo, st, w, c, s)
    | none => none) = some k := h7
  rw [ht] at h7
  cases h7
  exact ⟨N - 1, by omega, hc (N - 1) l S m (by omega) h4 h5 h6⟩
set_option maxRecDepth 16384 in
theorem CR_up (h : CR PC X ρ rg L nL Rc Rs prog N pc l S m o) {N' : Nat} (hN : N ≤ N') : CR PC X ρ rg L nL Rc Rs prog N' pc l S m o := by
  obtain ⟨call, n, lo, st, w, c, s, k, h1, h2, h3⟩ := h
  exact ⟨call, n, lo, st, w, c, s, k, h1, Nat.le_trans h2 hN, h3⟩
set_option maxRecDepth 16384 in
theorem CR_go {off : Int} {t : Nat} (h : CR PC X ρ rg L nL Rc Rs prog N pc l S m o) (hp : kat prog pc = some (.goto off, x)) (ht : ktg pc off = some t) : CR PC X ρ rg L nL Rc Rs prog N t l S m o := by
  obtain ⟨N', e, h⟩ := CR_goto h hp ht
  exact CR_up h (by omega)
end CRS
