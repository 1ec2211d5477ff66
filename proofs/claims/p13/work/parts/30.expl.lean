/-! The explorer: all ways of a method, between its cuts. -/
/-- cuts: place, pattern, measure; cases told ahead of them, behind them; the contracts tried at a call -/
abbrev KG : Type := List (Nat × AS × LF) × List (Nat × List AH) × List (Nat × List AH) × List (Nat × List Nat)
def ahl {α : Type} : List (Nat × List α) → Nat → List α
  | [], _ => []
  | q :: l, pc => bif Nat.beq q.1 pc then q.2 else ahl l pc
def aflat {α β : Type} (f : α → Option (List β)) : List α → Option (List β)
  | [] => some []
  | a :: l => (match f a, aflat f l with
    | some x, some y => some (x ++ y)
    | _, _ => none)
def ahints (E : TEnv) (ph : PHI) : List AH → List AS → Option (List AS)
  | [], Ss => some Ss
  | h :: l, Ss => (match aflat (ahint E ph h) Ss with
    | some Ss' => ahints E ph l Ss'
    | none => none)
def acut (E : TEnv) (n0 : Nat) (Mc : Option LF) (pc : Nat) (S : AS) : List (Nat × AS × LF) → Bool
  | [] => false
  | q :: l => (bif Nat.beq q.1 pc then (match amatch E n0 S q.2.1 with
    | some r => (match Mc with
      | none => true
      | some M => (match ssub n0 r.2 q.2.2 with
        | some g => lle r.1.2.1 r.1.2.2.1 (lfadd (lfsub g M) (lfc 1))
        | none => false))
    | none => false) else false) || acut E n0 Mc pc S l
def arcv (E : TEnv) (m cl : Nat) (S : AS) : Bool := match S.2.2.2.2.1.drop m with
  | r :: _ => (match arec E r with
    | some q => Nat.beq (E.2.2 q.1).1.1 9 && Nat.beq (E.2.2 q.1).1.2.1 cl
    | none => false)
  | [] => false
def astp (E : TEnv) (ph : PHI) (CS : List KC) (mods : MOD) (sc : Bool) (nL Rc Rs : Nat) (M0 : LF) (cl : List Nat) (ig : Instr) (x : KX) (pc : Nat) (S : AS) : Option (List (Nat × AS)) := match cl with
  | [] => ado E mods ph sc nL Rc Rs ig x pc S.1 S.2.1 S.2.2.1 S.2.2.2.1 S.2.2.2.2.1 S.2.2.2.2.2.1 S.2.2.2.2.2.2.1 S.2.2.2.2.2.2.2
  | _ :: _ => bif Nat.blt x.1 999990 then (match ig with
    | .invokestatic _ => acall E CS cl M0 mods x.1 x.2.1 x.2.2.1 x.2.2.2.1 Rc Rs pc S
    | .invokevirtual _ => bif arcv E x.2.1 x.2.2.2.2 S then acall E CS cl M0 mods x.1 (x.2.1 + 1) x.2.2.1 x.2.2.2.1 Rc Rs pc S else none
    | .invokespecial _ => bif arcv E x.2.1 (x.2.2.2.2 % 100) S then acall E CS cl M0 mods x.1 (x.2.1 + 1) x.2.2.1 x.2.2.2.1 Rc Rs pc S else none
    | _ => none) else none
def arets (E : TEnv) (rg : RG) (ret : Option FieldType) (ig : Instr) (st : List AV) : Bool := match ig with
  | .return_ => (match ret, st with
    | none, [] => true
    | _, _ => false)
  | .ireturn => (match ret, st with
    | some .int, [a] => aisI a
    | some .boolean, [a] => aisI a && afit E rg a (0, 0, 1)
    | some .byte, [a] => aisI a
    | _, _ => false)
  | .new _ => (match ret, st with
    | some .byte, [] => true
    | _, _ => false)
  | .lreturn => (match ret, st with
    | some .long, [a] => aisG a
    | _, _ => false)
  | _ => false
def aret (E : TEnv) (n0 : Nat) (posts : List AS) (ret : Option FieldType) (mc ml : Nat) (ig : Instr) (S : AS) : Bool := arets E S.2.1 ret ig S.2.2.2.2.1 && (lb0 S.2.1 (lfadd S.2.2.2.2.2.2.1 (lfc (- (mc : Int)))) && (lb0 S.2.1 (lfadd S.2.2.2.2.2.2.2 (lfc (- (ml : Int)))) && posts.any (fun P => (amatch E n0 (S.1, S.2.1, S.2.2.1, [], S.2.2.2.2.1, S.2.2.2.2.2.1, lfc 0, lfc 0) P).isSome)))
def aproc (E : TEnv) (ph : PHI) (CS : List KC) (mods : MOD) (sc : Bool) (nL mc ml : Nat) (ret : Option FieldType) (prog : List KEnt) (posts : List AS) (n0 : Nat) (M0 : LF) (G : KG) (Mc : Option LF) (first : Bool) (pc : Nat) (S : AS) : Option (List (Nat × AS)) := bif !first && acut E n0 Mc pc S G.1 then some [] else (match kfrom prog pc with
  | [] => none
  | e :: _ => bif Nat.beq e.1 pc then (match ahints E ph (ahl G.2.2.1 pc) [S] with
    | some Ss => aflat (fun S => bif kendx e.2.1 then (bif aret E n0 posts ret mc ml e.2.1 S then some [] else none) else astp E ph CS mods sc nL mc ml M0 (ahl G.2.2.2 pc) e.2.1 e.2.2 pc S) Ss
    | none => none) else none)
def expl (E : TEnv) (ph : PHI) (CS : List KC) (mods : MOD) (sc : Bool) (nL mc ml : Nat) (ret : Option FieldType) (prog : List KEnt) (posts : List AS) (n0 : Nat) (M0 : LF) (G : KG) (Mc : Option LF) : Nat → List (Nat × AS) → Bool
  | 0, _ => false
  | f + 1, W => (match W with
    | [] => true
    | q :: W => (match ahints E ph (ahl G.2.1 q.1) [q.2] with
      | some Ss => (match aflat (aproc E ph CS mods sc nL mc ml ret prog posts n0 M0 G Mc false q.1) Ss with
        | some L => expl E ph CS mods sc nL mc ml ret prog posts n0 M0 G Mc f (L ++ W)
        | none => false)
      | none => false))
section EXPL
variable {E : TEnv} {ph : PHI}
theorem aflat_ok {α β : Type} {f : α → Option (List β)} : ∀ (l : List α) (L : List β), aflat f l = some L → ∀ a ∈ l, ∃ x, f a = some x ∧ ∀ b ∈ x, b ∈ L := by
  intro l
  induction l with
  | nil => intro L _ a ha; cases ha
  | cons a0 l ih =>
    intro L h a ha
    unfold aflat at h
    split at h
    · rename_i x y hx hy
      cases h
      cases ha with
      | head => exact ⟨x, hx, fun b hb => List.mem_append_left _ hb⟩
      | tail _ ha =>
        obtain ⟨z, h1, h2⟩ := ih y hy a ha
        exact ⟨z, h1, fun b hb => List.mem_append_right _ (h2 b hb)⟩
    · cases h
theorem ahints_ok (hE : kEok E) {k : KF} (hT : kTW E k.2.2.2.1) : ∀ (l : List AH) (Ss L : List AS), ahints E ph l Ss = some L → ∀ S ∈ Ss, ∀ ρ, aGS E ph ρ S k → ∃ S' ∈ L, aUp E ph ρ S.1 S' k := by
  intro l
  induction l with
  | nil =>
    intro Ss L h S hS ρ hG
    cases h
    exact ⟨S, hS, aUp.rf hG⟩
  | cons h0 l ih =>
    intro Ss L h S hS ρ hG
    unfold ahints at h
    split at h
    · rename_i Ss' h1
      obtain ⟨x, x1, x2⟩ := aflat_ok _ _ h1 S hS
      obtain ⟨S1, s1, ρ1, s2, s3, s4⟩ := ahint_ok hE hT hG x1
      obtain ⟨S2, t1, ρ2, t2, t3, t4⟩ := ih Ss' L h S1 (x2 S1 s1) ρ1 s4
      exact ⟨S2, t1, ρ2, fun i hi => by rw [t2 i (by omega), s2 i hi], Nat.le_trans s3 t3, t4⟩
    · cases h
theorem arcv_ok (hE : kEok E) {ρ : Nat → Int} {S : AS} {k : KF} (hT : kTW E k.2.2.2.1) (hG : aGS E ph ρ S k) {m cl : Nat} (h : arcv E m cl S = true) : ∃ b rest fs, k.2.2.1.drop m = .inl (.ref b) :: rest ∧ kwg k.2.2.2.1 b = some (.inr (cl, fs)) := by
  unfold arcv at h
  obtain ⟨-, t2, -⟩ := aSt_cut m _ _ hG.2.2.1
  split at h
  · rename_i r l hr
    rw [hr] at t2
    obtain ⟨v, s', e, h1, -⟩ := aSt_cons t2
    split at h
    · rename_i q hq
      obtain ⟨t, oa⟩ := q
      obtain ⟨a, rfl, ha, hta, -⟩ := arec_ok hE hq h1
      have h := Bool.and_eq_true_iff.mp h
      obtain ⟨c0, g1, g2, -⟩ := hT.2 a ha
      rw [hta, ct_of (b := 0) h.1, kb_t h.2] at g2
      obtain ⟨fs, rfl, -⟩ := khd9 g2
      exact ⟨a, s', fs, e, g1⟩
    · cases h
  · cases h
theorem astp_ok {clk : KCL} {X : KO} {d : Nat} (hE : kEok E) (hW : kEw E) (hph : phW ph) {CS : List KC} (hCS : ∀ C ∈ CS, kcwf C = true ∧ CV E ph clk d C) {ρ : Nat → Int} {S : AS} {pc : Nat} {lo : List (Nat × KV)} {st : List KV} {w : KW} {c s : Nat} (hT : kTW E w) (hG : aGS E ph ρ S (pc, lo, st, w, c, s)) {M0 : LF} (hMw : lwf S.1 M0) (hM : lev ρ M0 < (d : Int) + 1) {mods : MOD} {sc : Bool} {rgk : List (Int × Int)} {L0 nL Rc Rs : Nat} (hsc : kScA sc S.1 ρ rgk L0) {cl : List Nat} {ig : Instr} {x : KX} {L : List (Nat × AS)} (h : astp E ph CS mods sc nL Rc Rs M0 cl ig x pc S = some L) : ∃ f k', kdx ig X (clk f) rgk L0 nL Rc Rs x pc lo st w c s = some k' ∧ kStp E mods w k'.2.2.2.1 ∧ aNx E ph ρ S.1 L k' := by
  unfold astp at h
  split at h
  · obtain ⟨k', h1, h2, h3⟩ := ado_ok (X := X) (call := clk 0) hE hW hph hT hG hsc h
    exact ⟨0, k', h1, h2, h3⟩
  · obtain ⟨hx, h⟩ := kcond_inv h
    have hx : x.1 < 999990 := Nat.ble_eq.mp hx
    have nb : ∀ z, 999990 ≤ z → Nat.beq x.1 z = false := fun z hz => kb_n (by omega)
    split at h
    · obtain ⟨r, w', f, u1, u2, u3, u4, u5, u6, u7, u8, u9, u10⟩ := acall_ok hE hph hCS hT hG hMw hM h
      refine ⟨f, _, ?_, ⟨u8, u9⟩, u10⟩
      show (bif Nat.beq x.1 999996 then _ else bif Nat.beq x.1 999995 then _ else bif Nat.beq x.1 999998 then _ else bif Nat.beq x.1 999997 then _ else kcallS (clk f) Rc Rs x pc lo st w c s) = _
      rw [nb _ (by decide), nb _ (by decide), nb _ (by decide), nb _ (by decide)]
      unfold kcallS
      simp only [cond_false, show Nat.ble x.2.1 st.length = true from Nat.ble_eq.mpr u2, u3, u4, u5, u6, u7, u1, Bool.and_self, cond_true]
    · obtain ⟨hr, h⟩ := kcond_inv h
      obtain ⟨b, rest, fs, e1, e2⟩ := arcv_ok hE hT hG hr
      have e1 : st.drop x.2.1 = .inl (.ref b) :: rest := e1
      have e3 : st.drop (x.2.1 + 1) = rest := by rw [← List.drop_drop, e1]; rfl
      have e4 : (st.take (x.2.1 + 1)).reverse = .inl (.ref b) :: (st.take x.2.1).reverse := by
        rw [List.take_add, e1]
        simp
      obtain ⟨r, w', f, u1, u2, u3, u4, u5, u6, u7, u8, u9, u10⟩ := acall_ok hE hph hCS hT hG hMw hM h
      rw [e3] at u4 u7 u10
      rw [e4] at u1
      refine ⟨f, _, ?_, ⟨u8, u9⟩, u10⟩
      show (bif Nat.beq x.1 999994 then _ else bif Nat.beq x.1 999993 then _ else kcallV (clk f) Rc Rs x pc lo st w c s) = _
      rw [nb _ (by decide), nb _ (by decide)]
      unfold kcallV
      simp only [cond_false, e1, e2, Nat.beq_refl, u3, u4, u5, u6, u7, u1, Bool.and_self, cond_true]
    · obtain ⟨hr, h⟩ := kcond_inv h
      obtain ⟨b, rest, fs, e1, e2⟩ := arcv_ok hE hT hG hr
      have e1 : st.drop x.2.1 = .inl (.ref b) :: rest := e1
      have e3 : st.drop (x.2.1 + 1) = rest := by rw [← List.drop_drop, e1]; rfl
      have e4 : (st.take (x.2.1 + 1)).reverse = .inl (.ref b) :: (st.take x.2.1).reverse := by
        rw [List.take_add, e1]
        simp
      obtain ⟨r, w', f, u1, u2, u3, u4, u5, u6, u7, u8, u9, u10⟩ := acall_ok hE hph hCS hT hG hMw hM h
      rw [e3] at u4 u7 u10
      rw [e4] at u1
      refine ⟨f, _, ?_, ⟨u8, u9⟩, u10⟩
      show (bif Nat.beq x.1 999999 then _ else kcallV (clk f) Rc Rs (x.1, x.2.1, x.2.2.1, x.2.2.2.1, x.2.2.2.2 % 100) pc lo st w c s) = _
      rw [nb _ (by decide)]
      unfold kcallV
      simp only [cond_false, e1, e2, Nat.beq_refl, u3, u4, u5, u6, u7, u1, Bool.and_self, cond_true]
    · cases h
end EXPL
