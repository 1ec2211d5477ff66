section
/-! The contracts checked by the kernel. -/
theorem qK426 : kchk qEnv qPh qCS qmeths 3000 qC426 qG426 = true := by decide +kernel
theorem qK427 : kchk qEnv qPh qCS qmeths 3000 qC427 qG427 = true := by decide +kernel
theorem qK428 : kchk qEnv qPh qCS qmeths 3000 qC428 qG428 = true := by decide +kernel
theorem qK429 : kchk qEnv qPh qCS qmeths 3000 qC429 qG429 = true := by decide +kernel
theorem qK430 : kchk qEnv qPh qCS qmeths 3000 qC430 qG430 = true := by decide +kernel
theorem qK431 : kchk qEnv qPh qCS qmeths 3000 qC431 qG431 = true := by decide +kernel
theorem qK432 : kchk qEnv qPh qCS qmeths 3000 qC432 qG432 = true := by decide +kernel
theorem qK433 : kchk qEnv qPh qCS qmeths 3000 qC433 qG433 = true := by decide +kernel
theorem qK434 : kchk qEnv qPh qCS qmeths 3000 qC434 qG434 = true := by decide +kernel
theorem qK435 : kchk qEnv qPh qCS qmeths 3000 qC435 qG435 = true := by decide +kernel
theorem qK436 : kchk qEnv qPh qCS qmeths 3000 qC436 qG436 = true := by decide +kernel
theorem qK437 : kchk qEnv qPh qCS qmeths 3000 qC437 qG437 = true := by decide +kernel
theorem qK438 : kchk qEnv qPh qCS qmeths 3000 qC438 qG438 = true := by decide +kernel
theorem qK439 : kchk qEnv qPh qCS qmeths 3000 qC439 qG439 = true := by decide +kernel
theorem qK440 : kchk qEnv qPh qCS qmeths 3000 qC440 qG440 = true := by decide +kernel
theorem qK441 : kchk qEnv qPh qCS qmeths 3000 qC441 qG441 = true := by decide +kernel
theorem qK442 : kchk qEnv qPh qCS qmeths 3000 qC442 qG442 = true := by decide +kernel
theorem qK443 : kchk qEnv qPh qCS qmeths 3000 qC443 qG443 = true := by decide +kernel
theorem qK444 : kchk qEnv qPh qCS qmeths 3000 qC444 qG444 = true := by decide +kernel
theorem qK445 : kchk qEnv qPh qCS qmeths 3000 qC445 qG445 = true := by decide +kernel
theorem qK446 : kchk qEnv qPh qCS qmeths 3000 qC446 qG446 = true := by decide +kernel
theorem qK447 : kchk qEnv qPh qCS qmeths 3000 qC447 qG447 = true := by decide +kernel
theorem qK448 : kchk qEnv qPh qCS qmeths 3000 qC448 qG448 = true := by decide +kernel
theorem qK449 : kchk qEnv qPh qCS qmeths 3000 qC449 qG449 = true := by decide +kernel
theorem qK450 : kchk qEnv qPh qCS qmeths 3000 qC450 qG450 = true := by decide +kernel
theorem qK451 : kchk qEnv qPh qCS qmeths 3000 qC451 qG451 = true := by decide +kernel
theorem qK452 : kchk qEnv qPh qCS qmeths 3000 qC452 qG452 = true := by decide +kernel
theorem qK453 : kchk qEnv qPh qCS qmeths 3000 qC453 qG453 = true := by decide +kernel
theorem qK454 : kchk qEnv qPh qCS qmeths 3000 qC454 qG454 = true := by decide +kernel
theorem qK455 : kchk qEnv qPh qCS qmeths 3000 qC455 qG455 = true := by decide +kernel
end
section
/-! A long check in shares: the explorer run a while, what is open then checked share by share. -/
def expn (E : TEnv) (ph : PHI) (CS : List KC) (mods : MOD) (sc : Bool) (nL mc ml : Nat) (ret : Option FieldType) (prog : List KEnt) (posts : List AS) (n0 : Nat) (M0 : LF) (G : KG) (Mc : Option LF) : Nat → List (Nat × AS) → Option (List (Nat × AS))
  | 0, W => some W
  | n + 1, W => (match W with
    | [] => some []
    | q :: W => (match ahints E ph (ahl G.2.1 q.1) [q.2] with
      | some Ss => (match aflat (aproc E ph CS mods sc nL mc ml ret prog posts n0 M0 G Mc false q.1) Ss with
        | some L => expn E ph CS mods sc nL mc ml ret prog posts n0 M0 G Mc n (L ++ W)
        | none => none)
      | none => none))
section SPLIT
variable {E : TEnv} {ph : PHI} {CS : List KC} {mods : MOD} {sc : Bool} {nL mc ml : Nat} {ret : Option FieldType} {prog : List KEnt} {posts : List AS} {n0 : Nat} {M0 : LF} {G : KG} {Mc : Option LF}
theorem expl_nil (f : Nat) : expl E ph CS mods sc nL mc ml ret prog posts n0 M0 G Mc (f + 1) [] = true := by unfold expl; rfl
theorem expl_succ : ∀ (f : Nat) (W : List (Nat × AS)), expl E ph CS mods sc nL mc ml ret prog posts n0 M0 G Mc f W = true → expl E ph CS mods sc nL mc ml ret prog posts n0 M0 G Mc (f + 1) W = true := by
  intro f
  induction f with
  | zero => intro W h; unfold expl at h; cases h
  | succ f ih =>
    intro W h
    cases W with
    | nil => exact expl_nil _
    | cons q W =>
      rw [expl] at h
      rw [expl]
      split at h
      · split at h
        · exact ih _ h
        · cases h
      · cases h
theorem expl_le {f : Nat} {W : List (Nat × AS)} (h : expl E ph CS mods sc nL mc ml ret prog posts n0 M0 G Mc f W = true) : ∀ m, expl E ph CS mods sc nL mc ml ret prog posts n0 M0 G Mc (f + m) W = true := by
  intro m
  induction m with
  | zero => exact h
  | succ m ih => exact expl_succ _ _ ih
theorem expl_app {g : Nat} {B : List (Nat × AS)} (hB : expl E ph CS mods sc nL mc ml ret prog posts n0 M0 G Mc g B = true) : ∀ (f : Nat) (A : List (Nat × AS)), expl E ph CS mods sc nL mc ml ret prog posts n0 M0 G Mc f A = true → expl E ph CS mods sc nL mc ml ret prog posts n0 M0 G Mc (g + f) (A ++ B) = true := by
  intro f
  induction f with
  | zero => intro A h; unfold expl at h; cases h
  | succ f ih =>
    intro A h
    cases A with
    | nil => exact expl_le hB _
    | cons q W =>
      show expl E ph CS mods sc nL mc ml ret prog posts n0 M0 G Mc (g + f + 1) (q :: (W ++ B)) = true
      rw [expl] at h
      rw [expl]
      split at h
      · split at h
        · rename_i L _
          have := ih _ h
          rw [List.append_assoc] at this
          exact this
        · cases h
      · cases h
theorem expn_ok {f : Nat} : ∀ (n : Nat) (W W' : List (Nat × AS)), expn E ph CS mods sc nL mc ml ret prog posts n0 M0 G Mc n W = some W' → expl E ph CS mods sc nL mc ml ret prog posts n0 M0 G Mc (f + 1) W' = true → expl E ph CS mods sc nL mc ml ret prog posts n0 M0 G Mc (f + 1 + n) W = true := by
  intro n
  induction n with
  | zero => intro W W' h h'; cases h; exact h'
  | succ n ih =>
    intro W W' h h'
    cases W with
    | nil => exact expl_nil _
    | cons q W =>
      show expl E ph CS mods sc nL mc ml ret prog posts n0 M0 G Mc (f + 1 + n + 1) (q :: W) = true
      rw [expn] at h
      rw [expl]
      split at h
      · rename_i Ss h1
        split at h
        · rename_i L h2
          simp only [h1, h2]
          exact ih _ _ h h'
        · cases h
      · cases h
theorem expl_take {f : Nat} (k : Nat) {W : List (Nat × AS)} (h1 : expl E ph CS mods sc nL mc ml ret prog posts n0 M0 G Mc f (W.take k) = true) {g : Nat} (h2 : expl E ph CS mods sc nL mc ml ret prog posts n0 M0 G Mc g (W.drop k) = true) : expl E ph CS mods sc nL mc ml ret prog posts n0 M0 G Mc (g + f) W = true := by
  have := expl_app h2 f _ h1
  rw [List.take_append_drop] at this
  exact this
end SPLIT
theorem osome {α : Type} {o : Option α} (h : o.isSome = true) (d : α) : o = some (o.getD d) := by
  cases o with
  | none => cases h
  | some a => rfl
/-- the way behind one cut, as kchk asks it -/
def kcut (E : TEnv) (ph : PHI) (CS : List KC) (fuel : Nat) (C : KC) (G : KG) (q : Nat × AS × LF) (maxL mc ml : Nat) (ret : Option FieldType) (prog : List KEnt) : Bool := match aproc E ph CS C.2.2.2.1 false maxL mc ml ret prog C.2.2.1 C.2.1.1 C.2.2.2.2 G (some q.2.2) true q.1 q.2.1 with
  | some L => expl E ph CS C.2.2.2.1 false maxL mc ml ret prog C.2.2.1 C.2.1.1 C.2.2.2.2 G (some q.2.2) fuel L
  | none => false
def kchk0 (E : TEnv) (ph : PHI) (CS : List KC) (fuel : Nat) (C : KC) (G : KG) (maxL mc ml : Nat) (ret : Option FieldType) (prog : List KEnt) : Bool := kcwf C && (lwfb C.2.1.1 C.2.2.2.2 && (lle C.2.1.2.1 C.2.1.2.2.1 (lfneg C.2.2.2.2) && (Nat.ble ((C.2.1.2.2.2.2.1.reverse.map acat).sum) maxL && (G.1.all (fun q => apwf C.2.1.1 q.2.1 && (lwfb q.2.1.1 q.2.2 && lle q.2.1.2.1 q.2.1.2.2.1 (lfneg q.2.2))) && expl E ph CS C.2.2.2.1 false maxL mc ml ret prog C.2.2.1 C.2.1.1 C.2.2.2.2 G none fuel [(0, C.2.1.1, C.2.1.2.1, C.2.1.2.2.1, aargs 0 C.2.1.2.2.2.2.1.reverse, [], C.2.1.2.2.2.2.2.1, lfc 0, lfc 0)]))))
theorem kchk_shares {E : TEnv} {ph : PHI} {CS : List KC} {ms : List KMeth} {fuel : Nat} {C : KC} {G : KG} {mn : MethodName} {y : ByteArray} {maxL mc ml : Nat} {ret : Option FieldType} {prog : List KEnt} (hms : ms[C.1]? = some (mn, y, maxL, ret, mc, ml, prog)) (h0 : kchk0 E ph CS fuel C G maxL mc ml ret prog = true) (h1 : ∀ q ∈ G.1, kcut E ph CS fuel C G q maxL mc ml ret prog = true) : kchk E ph CS ms fuel C G = true := by
  unfold kchk0 at h0
  simp only [Bool.and_eq_true] at h0
  obtain ⟨a, b, c, d, e, f⟩ := h0
  unfold kchk
  rw [hms]
  simp only [Bool.and_eq_true]
  refine ⟨a, b, c, d, List.all_eq_true.mpr fun q hq => ?_, f⟩
  have e := List.all_eq_true.mp e q hq
  simp only [Bool.and_eq_true] at e ⊢
  exact ⟨e.1, e.2.1, e.2.2, h1 q hq⟩
end
