/-! Runs read as numbers: every value a number, every world a function of label and place. -/
set_option maxRecDepth 16384 in
def kc (ρ : Nat → Int32) : KV → Int
  | .inl v => match v with
    | .int x => x.toInt
    | .long x => x.toInt
    | .ref a => (a : Int)
    | .null => -1
    | _ => 0
  | .inr z => (kS ρ z).toInt
set_option maxRecDepth 16384 in
def kcc (ρ : Nat → Int32) (v : KV) : Nat × Int := (kcat v, kc ρ v)
set_option maxRecDepth 16384 in
theorem kc_int {ρ : Nat → Int32} {v : KV} (h : kisI v = true) : kc ρ v = (kiv ρ v).toInt ∧ kcat v = 1 := by
  rcases v with v | z
  · cases v <;> first | exact ⟨rfl, rfl⟩ | cases h
  · exact ⟨rfl, rfl⟩
set_option maxRecDepth 16384 in
theorem kiv_kc {ρ : Nat → Int32} {v : KV} (h : kisI v = true) : kiv ρ v = Int32.ofInt (kc ρ v) := by
  rw [(kc_int h).1, Int32.ofInt_toInt]
set_option maxRecDepth 16384 in
theorem kc_op2 (ρ : Nat → Int32) (f : Int32 → Int32 → Int32) (a b : KV) : kc ρ (kop2 f a b) = (f (kiv ρ a) (kiv ρ b)).toInt ∧ kcat (kop2 f a b) = 1 := by
  rcases a with va | za
  · cases va <;> first | exact ⟨rfl, rfl⟩ | skip
    rcases b with vb | zb
    · cases vb <;> exact ⟨rfl, rfl⟩
    · exact ⟨rfl, rfl⟩
  · exact ⟨rfl, rfl⟩
set_option maxRecDepth 16384 in
theorem kc_op1 (ρ : Nat → Int32) (f : Int32 → Int32) (a : KV) : kc ρ (kop1 f a) = (f (kiv ρ a)).toInt ∧ kcat (kop1 f a) = 1 := by
  rcases a with va | za
  · cases va <;> exact ⟨rfl, rfl⟩
  · exact ⟨rfl, rfl⟩
set_option maxRecDepth 16384 in
theorem kc_ofI (ρ : Nat → Int32) (x : KI) : kc ρ (kofI x) = (kI ρ x).toInt ∧ kcat (kofI x) = 1 := by
  cases x <;> exact ⟨rfl, rfl⟩
set_option maxRecDepth 16384 in
theorem kc_ofR (ρ : Nat → Int32) (o : Option Nat) : kcat (kofR o) = 1 := by
  cases o <;> rfl
/-- the world as numbers: label and place; the place -1 is an array's length, -2 its elements' kind -/
abbrev MM : Type := Int → Int → Int
set_option maxRecDepth 16384 in
def wm (ρ : Nat → Int32) (w : KW) : MM := fun a k => if 0 ≤ a then (if k = -1 then (match kwg w a.toNat with
  | some (.inl (_, n, _)) => (n : Int)
  | _ => 0) else if k = -2 then (match kwg w a.toNat with
  | some (.inl (t, _, _)) => (t : Int)
  | _ => 0) else if 0 ≤ k then (match wval w a.toNat k.toNat with
  | some v => kc ρ v
  | none => 0) else 0) else 0
set_option maxRecDepth 16384 in
def mu (m : MM) (a k v : Int) : MM := fun b j => if b = a ∧ j = k then v else m b j
set_option maxRecDepth 16384 in
def mcp (m : MM) (d s n : Int) : MM := fun b j => if b = d ∧ 0 ≤ j ∧ j < n then m s j else m b j
set_option maxRecDepth 16384 in
theorem wm_val {ρ : Nat → Int32} {w : KW} {a k : Nat} {v : KV} (h : wval w a k = some v) : wm ρ w (a : Int) (k : Int) = kc ρ v := by
  unfold wm
  rw [if_pos (Int.natCast_nonneg _), if_neg (by omega), if_neg (by omega), if_pos (Int.natCast_nonneg _), Int.toNat_natCast, Int.toNat_natCast, h]
set_option maxRecDepth 16384 in
theorem wm_len {ρ : Nat → Int32} {w : KW} {a t n : Nat} {x : (List (Nat × KI) × KI) ⊕ (List (Nat × Int64) × Int64) ⊕ List (Nat × Option Nat)} (h : kwg w a = some (.inl (t, n, x))) : wm ρ w (a : Int) (-1) = (n : Int) := by
  unfold wm
  rw [if_pos (Int.natCast_nonneg _), if_pos rfl, Int.toNat_natCast, h]
set_option maxRecDepth 16384 in
theorem wm_typ {ρ : Nat → Int32} {w : KW} {a t n : Nat} {x : (List (Nat × KI) × KI) ⊕ (List (Nat × Int64) × Int64) ⊕ List (Nat × Option Nat)} (h : kwg w a = some (.inl (t, n, x))) : wm ρ w (a : Int) (-2) = (t : Int) := by
  unfold wm
  rw [if_pos (Int.natCast_nonneg _), if_neg (by decide), if_pos rfl, Int.toNat_natCast, h]
set_option maxRecDepth 16384 in
/-- a cell put in another's place, alike but at one place -/
theorem wm_set {ρ : Nat → Int32} {w : KW} {a k : Nat} {e e' : KE} {z : Int} (h : kwg w a = some e) (h1 : ∀ j, j ≠ k → kev e' j = kev e j) (h2 : ∃ v, kev e' k = some v ∧ kc ρ v = z) (h3 : (match (some e' : Option KE) with
  | some (.inl (_, n, _)) => (n : Int)
  | _ => 0) = (match (some e : Option KE) with
  | some (.inl (_, n, _)) => (n : Int)
  | _ => 0)) (h4 : (match (some e' : Option KE) with
  | some (.inl (t, _, _)) => (t : Int)
  | _ => 0) = (match (some e : Option KE) with
  | some (.inl (t, _, _)) => (t : Int)
  | _ => 0)) : wm ρ (kws w a e') = mu (wm ρ w) (a : Int) (k : Int) z := by
  funext b j
  unfold mu
  by_cases c1 : b = (a : Int) ∧ j = (k : Int)
  · rw [if_pos c1, c1.1, c1.2]
    obtain ⟨v, h6, h5⟩ := h2
    have : wval (kws w a e') a k = some v := by
      unfold wval
      rw [kwg_kws h, if_pos rfl]
      exact h6
    rw [wm_val this, h5]
  · rw [if_neg c1]
    unfold wm
    by_cases c2 : 0 ≤ b
    · rw [if_pos c2, if_pos c2]
      by_cases c3 : j = -1
      · rw [if_pos c3, if_pos c3, kwg_kws h]
        by_cases c4 : b.toNat = a
        · rw [if_pos c4, c4, h, h3]
        · rw [if_neg c4]
      · rw [if_neg c3, if_neg c3]
        by_cases c6 : j = -2
        · rw [if_pos c6, if_pos c6, kwg_kws h]
          by_cases c4 : b.toNat = a
          · rw [if_pos c4, c4, h, h4]
          · rw [if_neg c4]
        rw [if_neg c6, if_neg c6]
        by_cases c5 : 0 ≤ j
        · rw [if_pos c5, if_pos c5]
          have : wval (kws w a e') b.toNat j.toNat = wval w b.toNat j.toNat := by
            unfold wval
            rw [kwg_kws h]
            by_cases c4 : b.toNat = a
            · rw [if_pos c4, c4, h]
              exact h1 _ (fun q => c1 ⟨by omega, by omega⟩)
            · rw [if_neg c4]
          rw [this]
        · rw [if_neg c5, if_neg c5]
    · rw [if_neg c2, if_neg c2]
/-! the categories of the fields' values -/
set_option maxRecDepth 16384 in
def kTc : FieldType → Nat
  | .long => 2
  | .double => 2
  | _ => 1
set_option maxRecDepth 16384 in
def kET : KE → Prop
  | .inl _ => True
  | .inr (ci, fs) => ∀ k v, fs[k]? = some v → kcat v = kTc (kTy ci k)
set_option maxRecDepth 16384 in
def kWT (w : KW) : Prop := ∀ ch ∈ w, ∀ e ∈ ch, kET e
set_option maxRecDepth 16384 in
theorem kWT_get {w : KW} (h : kWT w) {a : Nat} {e : KE} (he : kwg w a = some e) : kET e := by
  unfold kwg at he
  split at he
  · rename_i ch hc
    exact h ch (List.mem_of_getElem? hc) e (List.mem_of_getElem? he)
  · cases he
set_option maxRecDepth 16384 in
theorem kWT_set {w : KW} (h : kWT w) {a : Nat} {e : KE} (he : kET e) : kWT (kws w a e) := by
  unfold kws
  split
  · rename_i ch hc
    intro c2 h2 x hx
    rcases List.mem_or_eq_of_mem_set h2 with h2 | rfl
    · exact h c2 h2 x hx
    · rcases List.mem_or_eq_of_mem_set hx with hx | rfl
      · exact h ch (List.mem_of_getElem? hc) x hx
      · exact he
  · exact h
set_option maxRecDepth 16384 in
theorem kWT_push {w : KW} {e : KE} (h : kWT w) (he : kET e) : kWT (kwp e w) := by
  induction w with
  | nil =>
    intro ch hc x hx
    rw [List.mem_singleton.mp hc] at hx
    rw [List.mem_singleton.mp hx]
    exact he
  | cons c1 t ih =>
    have ht : kWT t := fun ch hc => h ch (List.mem_cons_of_mem _ hc)
    cases t with
    | nil =>
      show kWT (bif Nat.blt c1.length 16 then [c1 ++ [e]] else [c1, [e]])
      cases Nat.blt c1.length 16 with
      | true =>
        intro ch hc x hx
        rw [List.mem_singleton.mp hc] at hx
        rcases List.mem_append.mp hx with hx | hx
        · exact h c1 List.mem_cons_self x hx
        · rw [List.mem_singleton.mp hx]; exact he
      | false =>
        intro ch hc x hx
        rcases List.mem_cons.mp hc with rfl | hc
        · exact h _ List.mem_cons_self x hx
        · rw [List.mem_singleton.mp hc] at hx
          rw [List.mem_singleton.mp hx]; exact he
    | cons c2 t =>
      intro ch hc x hx
      rcases List.mem_cons.mp (show ch ∈ c1 :: kwp e (c2 :: t) from hc) with rfl | hc
      · exact h _ List.mem_cons_self x hx
      · exact ih ht ch hc x hx
set_option maxRecDepth 16384 in
theorem kfit_cat {ty : FieldType} {v : KV} (h : kfit ty v = true) : kcat v = kTc ty := by
  unfold kfit at h
  split at h
  · exact (kc_int (ρ := fun _ => 0) h).2
  · split at h
    · rfl
    · cases h
  · split at h
    · rfl
    · cases h
  · split at h
    · rfl
    · rfl
    · cases h
  · split at h
    · rfl
    · rfl
    · cases h
  · cases h
set_option maxRecDepth 16384 in
/-- what a step keeps of the categories -/
def kPr (w : KW) (o : Option KF) : Prop := ∀ k, o = some k → kWT k.2.2.2.1
set_option maxRecDepth 16384 in
def kPrC (call : Nat → List KV → KW → Option (Option KV × KW)) : Prop := ∀ mid as w r w', call mid as w = some (r, w') → kWT w → kWT w'
section PRES
variable {w : KW} {pc c s : Nat} {lo : List (Nat × KV)} {st : List KV}
set_option maxRecDepth 16384 in
theorem pr_one {pc2 c2 s2 : Nat} {lo2 : List (Nat × KV)} {st2 : List KV} {w2 : KW} (h : kWT w2) : kPr w (some (pc2, lo2, st2, w2, c2, s2)) := fun k hk => by cases hk; exact h
set_option maxRecDepth 16384 in
theorem pr_none : kPr w none := fun k hk => by cases hk
set_option maxRecDepth 16384 in
theorem pr_kputf (h : kWT w) {ci k : Nat} : kPr w (kputf ci k pc lo st w c s) := by
  unfold kputf
  split
  · split
    · rename_i v a rest cj fs hw
      intro q hq
      obtain ⟨hb, hq⟩ := kcond_inv hq
      cases hq
      have hb := Bool.and_eq_true_iff.mp hb
      have e1 := kb_t hb.1
      subst e1
      refine kWT_set h (fun j u hj => ?_)
      rw [List.getElem?_set] at hj
      by_cases e : k = j
      · subst e
        rw [if_pos rfl] at hj
        split at hj
        · cases hj
          exact kfit_cat (Bool.and_eq_true_iff.mp hb.2).2
        · cases hj
      · rw [if_neg e] at hj
        exact kWT_get h hw j u hj
    · exact pr_none
  · exact pr_none
set_option maxRecDepth 16384 in
theorem pr_kast (h : kWT w) {ok : Nat → Bool} {f : Nat → Int32 → Int32} : kPr w (kast ok f pc lo st w c s) := by
  unfold kast
  repeat' split
  all_goals first | exact pr_none | skip
  all_goals (intro q hq; obtain ⟨-, hq⟩ := kcond_inv hq; cases hq; exact kWT_set h trivial)
set_option maxRecDepth 16384 in
theorem pr_klast (h : kWT w) : kPr w (klast pc lo st w c s) := by
  unfold klast
  repeat' split
  all_goals first | exact pr_none | skip
  all_goals (intro q hq; obtain ⟨-, hq⟩ := kcond_inv hq; cases hq; exact kWT_set h trivial)
set_option maxRecDepth 16384 in
theorem pr_kaast (h : kWT w) : kPr w (kaast pc lo st w c s) := by
  unfold kaast
  repeat' split
  all_goals first | exact pr_none | skip
  all_goals (intro q hq; obtain ⟨-, hq⟩ := kcond_inv hq; cases hq; exact kWT_set h trivial)
set_option maxRecDepth 16384 in
theorem pr_kcopy (h : kWT w) : kPr w (kcopy pc lo st w c s) := by
  unfold kcopy
  split
  · split
    · intro q hq
      obtain ⟨-, hq⟩ := kcond_inv hq
      split at hq
      · obtain ⟨-, hq⟩ := kcond_inv hq; cases hq; exact kWT_set h trivial
      · obtain ⟨-, hq⟩ := kcond_inv hq; cases hq; exact kWT_set h trivial
      · cases hq
    · exact pr_none
  · exact pr_none
set_option maxRecDepth 16384 in
theorem pr_knewa (h : kWT w) {ref : Bool} {t len Rc Rs : Nat} : kPr w (knewa ref t len Rc Rs pc lo st w c s) := by
  unfold knewa
  split
  · intro q hq
    obtain ⟨-, hq⟩ := kcond_inv hq
    cases hq
    exact kWT_push h trivial
  · exact pr_none
set_option maxRecDepth 16384 in
theorem pr_kV {call : Nat → List KV → KW → Option (Option KV × KW)} (hc : kPrC call) (h : kWT w) {Rc Rs : Nat} {x : KX} : kPr w (kcallV call Rc Rs x pc lo st w c s) := by
  unfold kcallV
  split
  · split
    · intro q hq
      obtain ⟨-, hq⟩ := kcond_inv hq
      split at hq
      · rename_i hcall
        cases hq
        exact hc _ _ _ _ _ hcall h
      · cases hq
    · exact pr_none
  · exact pr_none
set_option maxRecDepth 16384 in
theorem pr_kS {call : Nat → List KV → KW → Option (Option KV × KW)} (hc : kPrC call) (h : kWT w) {Rc Rs : Nat} {x : KX} : kPr w (kcallS call Rc Rs x pc lo st w c s) := by
  unfold kcallS
  intro q hq
  obtain ⟨-, hq⟩ := kcond_inv hq
  split at hq
  · rename_i hcall
    cases hq
    exact hc _ _ _ _ _ hcall h
  · cases hq
set_option maxRecDepth 16384 in
/-- the world is the same -/
def kSm (w : KW) (o : Option KF) : Prop := ∀ k, o = some k → k.2.2.2.1 = w
set_option maxRecDepth 16384 in
theorem sm_pr {o : Option KF} (h : kWT w) (hs : kSm w o) : kPr w o := fun k hk => by rw [hs k hk]; exact h
set_option maxRecDepth 16384 in
theorem sm_one {pc2 c2 s2 : Nat} {lo2 : List (Nat × KV)} {st2 : List KV} : kSm w (some (pc2, lo2, st2, w, c2, s2)) := fun k hk => by cases hk; rfl
set_option maxRecDepth 16384 in
theorem sm_none : kSm w none := fun k hk => by cases hk
set_option maxRecDepth 16384 in
theorem sm_if {b : Bool} {x y : Option KF} (h1 : kSm w x) (h2 : kSm w y) : kSm w (bif b then x else y) := by
  cases b with
  | true => exact h1
  | false => exact h2
set_option maxRecDepth 16384 in
theorem sm_kbr {o : Option Nat} {r : Option Bool} : kSm w (kbr o r pc lo st w c s) := by
  unfold kbr
  repeat' split
  all_goals first | exact sm_none | exact sm_one
set_option maxRecDepth 16384 in
theorem kdx_pr {ig : Instr} (he : kendx ig = false) {X : KO} {call : Nat → List KV → KW → Option (Option KV × KW)} (hc : kPrC call) (h : kWT w) {rg : List (Int × Int)} {L nL Rc Rs : Nat} {x : KX} : kPr w (kdx ig X call rg L nL Rc Rs x pc lo st w c s) := by
  have sm1 : ∀ {ok : KV → Bool} {i len : Nat}, kSm w (kld ok i len pc lo st w c s) := by
    intro ok i len
    unfold kld
    split
    · exact sm_if sm_one sm_none
    · exact sm_none
  have sm2 : ∀ {ok : KV → Bool} {i len : Nat}, kSm w (kst ok i len nL pc lo st w c s) := by
    intro ok i len
    unfold kst
    split
    · exact sm_if sm_one sm_none
    · exact sm_none
  have sm3 : ∀ {f : Int32 → Int32 → Int32}, kSm w (kbin f pc lo st w c s) := by
    intro f
    unfold kbin
    split
    · exact sm_if sm_one sm_none
    · exact sm_none
  have sm4 : ∀ {f : Int32 → Int32}, kSm w (kun f pc lo st w c s) := by
    intro f
    unfold kun
    split
    · exact sm_if sm_one sm_none
    · exact sm_none
  have sm5 : ∀ {f : Int64 → Int64 → Int64}, kSm w (kbinL f pc lo st w c s) := by
    intro f
    unfold kbinL
    split
    · exact sm_one
    · exact sm_none
  have sm6 : ∀ {f : Int64 → Int64 → Int64}, kSm w (kdvL f pc lo st w c s) := by
    intro f
    unfold kdvL
    split
    · exact sm_if sm_none sm_one
    · exact sm_none
  have sm7 : ∀ {i len : Nat}, kSm w (kst2 i len nL pc lo st w c s) := by
    intro i len
    unfold kst2
    split
    · exact sm_if sm_one sm_none
    · exact sm_none
  have sm8 : ∀ {ok : Nat → Bool} {rg : List (Int × Int)} {L : Nat}, kSm w (kald rg L ok pc lo st w c s) := by
    intro ok rg L
    unfold kald
    split
    · refine sm_if ?_ ?_
      · split
        · exact sm_one
        · exact sm_none
      · split
        · split
          · exact sm_if sm_one sm_none
          · exact sm_none
        · exact sm_none
    · exact sm_none
  have sm9 : kSm w (kgetf x.1 x.2.1 pc lo st w c s) := by
    unfold kgetf
    split
    · split
      · refine sm_if ?_ sm_none
        split
        · exact sm_one
        · exact sm_none
      · exact sm_none
    · exact sm_none
  have sma : kSm w (kalen L pc lo st w c s) := by
    unfold kalen
    split
    · refine sm_if sm_one ?_
      split
      · split
        · exact sm_if sm_one sm_none
        · exact sm_none
      · exact sm_none
    · exact sm_none
  have smb : kSm w (kaald pc lo st w c s) := by
    unfold kaald
    split
    · split
      · exact sm_if sm_one sm_none
      · exact sm_none
    · exact sm_none
  cases ig <;> first | (exact absurd he (by decide)) | (exact sm_pr h sm1) | (exact sm_pr h sm2) | (exact sm_pr h sm3) | (exact sm_pr h sm4) | (exact sm_pr h sm5) | (exact sm_pr h sm6) | (exact sm_pr h sm7) | (exact sm_pr h sm8) | (exact pr_one h) | (exact pr_none) | (exact pr_kputf h) | (exact pr_kast h) | (exact pr_klast h) | (exact pr_kaast h) | (exact pr_knewa h) | skip
  case iand => exact sm_pr h (by
      show kSm w (kand none pc lo st w c s)
      unfold kand
      split
      · exact sm_if sm_none sm3
      · exact sm_none)
  case iinc i z => exact sm_pr h (by
      show kSm w (kinc i z nL pc lo st w c s)
      unfold kinc
      split
      · exact sm_if sm_one sm_none
      · exact sm_none)
  case new i => cases he
  case aaload => exact sm_pr h (by
      show kSm w (kwald pc lo st w c s)
      unfold kwald
      split
      · exact sm_if (sm_if sm_one sm_none) smb
      · exact sm_none)
  case arraylength => exact sm_pr h (by
      show kSm w (kwal L pc lo st w c s)
      unfold kwal
      split
      · exact sm_if sm_one sma
      · exact sm_none)
  case caload => exact sm_pr h (sm8 (ok := fun t => Nat.beq t 3) (rg := []) (L := 0))
  case dup => exact sm_pr h (by
      show kSm w (kdup pc lo st w c s)
      unfold kdup
      split
      · exact sm_if sm_one sm_none
      · exact sm_none)
  case dup2 => exact sm_pr h (by
      show kSm w (kdup2 pc lo st w c s)
      unfold kdup2
      split
      · exact sm_if sm_one sm_none
      · exact sm_none)
  case pop => exact sm_pr h (by
      show kSm w (kpop pc lo st w c s)
      unfold kpop
      split
      · exact sm_if sm_one sm_none
      · exact sm_none)
  case getfield i => exact sm_pr h (by
      show kSm w (kwget X.2 x.1 x.2.1 pc lo st w c s)
      unfold kwget
      split
      · exact sm_if (sm_if sm_one sm_none) sm9
      · exact sm_none)
  case goto off => exact sm_pr h (by
      show kSm w (match ktg pc off with
        | some t => some (t, lo, st, w, c, s)
        | none => none)
      split
      · exact sm_one
      · exact sm_none)
  case i2l => exact sm_pr h (by
      show kSm w (ki2l pc lo st w c s)
      unfold ki2l
      split
      · exact sm_one
      · exact sm_none)
  case l2i => exact sm_pr h (by
      show kSm w (kl2i pc lo st w c s)
      unfold kl2i
      split
      · exact sm_one
      · exact sm_none)
  case if_acmp cnd off => exact sm_pr h (by
      show kSm w (kxacmp X.1 cnd off pc lo st w c s)
      unfold kxacmp
      split
      · exact sm_kbr
      · exact sm_none)
  case if_icmp cnd off => exact sm_pr h (by
      show kSm w (kicmp rg cnd off pc lo st w c s)
      unfold kicmp
      split
      · exact sm_if sm_kbr sm_none
      · exact sm_none)
  case ifCond cnd off => exact sm_pr h (by
      show kSm w (kif rg cnd off pc lo st w c s)
      unfold kif
      split
      · exact sm_if sm_kbr sm_none
      · exact sm_none)
  case ifnonnull off => exact sm_pr h (by
      show kSm w (kifnn off pc lo st w c s)
      unfold kifnn
      split
      · split
        · exact sm_one
        · split
          · exact sm_one
          · exact sm_none
        · exact sm_none
      · exact sm_none)
  case irem => exact sm_pr h (by
      show kSm w (krem pc lo st w c s)
      unfold krem
      split
      · exact sm_if sm_none sm_one
      · exact sm_none)
  case laload => exact sm_pr h (by
      show kSm w (klald pc lo st w c s)
      unfold klald
      split
      · split
        · exact sm_if sm_one sm_none
        · exact sm_none
      · exact sm_none)
  case lcmp => exact sm_pr h (by
      show kSm w (kcmpL pc lo st w c s)
      unfold kcmpL
      split
      · exact sm_one
      · exact sm_none)
  case lushr => exact sm_pr h (by
      show kSm w (klsr pc lo st w c s)
      unfold klsr
      split
      · exact sm_one
      · exact sm_none)
  case ldc i => exact sm_pr h (by
      show kSm w (bif Nat.beq x.2.1 1 then some (pc + 2, lo, .inl (.ref (1000200 + x.1)) :: st, w, c, s) else some (pc + 2, lo, .inl (.int (Int32.ofNat x.1)) :: st, w, c, s))
      exact sm_if sm_one sm_one)
  case lookupswitch dflt ps => exact sm_pr h (by
      show kSm w (klk dflt ps.toList pc lo st w c s)
      unfold klk
      split
      · split
        · exact sm_one
        · exact sm_none
      · exact sm_none)
  case tableswitch dflt lw hg offs => exact sm_pr h (by
      show kSm w (ksw rg dflt lw hg offs pc lo st w c s)
      unfold ksw
      split
      · split
        · refine sm_if ?_ (sm_if ?_ sm_none)
          · split
            · exact sm_one
            · exact sm_none
          · split
            · split
              · exact sm_one
              · exact sm_none
            · exact sm_none
        · exact sm_none
      · exact sm_none)
  case invokevirtual i =>
    unfold kdx
    dsimp only
    cases Nat.beq x.1 999994 with
    | true => exact sm_pr h (by
        show kSm w (kslen Rc Rs pc lo st w c s)
        unfold kslen
        split
        · split
          · exact sm_if sm_one sm_none
          · exact sm_none
        · exact sm_none)
    | false =>
      cases Nat.beq x.1 999993 with
      | true => exact sm_pr h (by
          show kSm w (kschr Rc Rs pc lo st w c s)
          unfold kschr
          split
          · split
            · exact sm_if sm_one sm_none
            · exact sm_none
          · exact sm_none)
      | false => exact pr_kV hc h
  case invokespecial i =>
    unfold kdx kdo
    dsimp only
    cases Nat.beq x.1 999999 with
    | true => exact sm_pr h (by
        show kSm w (kobj pc lo st w c s)
        unfold kobj
        split
        · exact sm_if sm_one sm_none
        · exact sm_none)
    | false => exact pr_kV hc h
  case invokestatic i =>
    unfold kdx
    dsimp only
    cases Nat.beq x.1 999996 with
    | true => exact sm_pr h (by
        show kSm w (kmax rg Rc Rs pc lo st w c s)
        unfold kmax
        split
        · exact sm_if sm_one sm_none
        · exact sm_none)
    | false =>
      cases Nat.beq x.1 999995 with
      | true => exact sm_pr h (by
          show kSm w (kabs Rc Rs pc lo st w c s)
          unfold kabs
          split
          · exact sm_if sm_one sm_none
          · exact sm_none)
      | false =>
        cases Nat.beq x.1 999998 with
        | true => exact sm_pr h (by
            show kSm w (kmin rg Rc Rs pc lo st w c s)
            unfold kmin
            split
            · refine sm_if ?_ sm_none
              split
              · exact sm_one
              · exact sm_none
            · exact sm_none)
        | false =>
          cases Nat.beq x.1 999997 with
          | true => exact pr_kcopy h
          | false => exact pr_kS hc h
set_option maxRecDepth 16384 in
theorem krx_pr {call : Nat → List KV → KW → Option (Option KV × KW)} (hc : kPrC call) {X : KO} {rg : List (Int × Int)} {L nL Rc Rs : Nat} {prog : List KEnt} : ∀ (n : Nat) (k : KF) (r : Instr × KF), kWT k.2.2.2.1 → krx call X rg L nL Rc Rs prog n k = some r → kWT r.2.2.2.2.1 := by
  intro n
  induction n with
  | zero => intro k r _ h; cases h
  | succ n ih =>
    intro k r hw h
    obtain ⟨pc, lo, st, w, c, s⟩ := k
    unfold krx at h
    split at h
    · cases h
    · rename_i e l hk
      obtain ⟨hb, h⟩ := kcond_inv h
      cases he : kendx e.2.1 with
      | true =>
        rw [he] at h
        simp only [cond_true] at h
        cases h
        exact hw
      | false =>
        rw [he] at h
        simp only [cond_false] at h
        split at h
        · cases h
        · rename_i k1 hk1
          exact ih k1 r (kdx_pr he hc hw k1 hk1) h
set_option maxRecDepth 16384 in
theorem kcallx_pr (ms : List KMeth) (X : KO) (f : Nat) : ∀ d, kPrC (kcallx ms X f d) := by
  intro d
  induction d with
  | zero => intro mid as w r w' h; cases h
  | succ d ih =>
    intro mid as w r w' h hw
    unfold kcallx at h
    split at h
    · cases h
    · obtain ⟨hb, h⟩ := kcond_inv h
      split at h
      · rename_i ig pc2 lo2 st2 w2 c2 s2 hr
        obtain ⟨hb2, h⟩ := kcond_inv h
        split at h
        · cases h
          exact krx_pr ih f (0, _, [], w, 0, 0) _ hw hr
        · cases h
      · cases h
end PRES
