/-! What a step of the small machine says of the machine: from the judgement behind it to the judgement ahead of it. -/
def kTyL (dA : Nat → ClassId) : List (ClassId × FieldType) := [(dA 0, .int), (dA 1, .long), (dA 2, .byte), (dA 3, .char), (dA 4, .boolean), (dA 5, .object "TriplicateForms$Standing"), (dA 6, .object "TriplicateForms$Image")]
/-- the words that an instruction needs -/
def kwords (ms : List KMeth) (zs : KY) (own : String) (e : KEnt) : List Cond := match e.2.1 with
  | .getfield i => (match kCl[e.2.2.1]? with
    | some q => [.fieldLink own i (q.2.1 e.2.2.2.1).1 (q.2.1 e.2.2.2.1).2.1 (q.2.1 e.2.2.2.1).2.2.1]
    | none => [])
  | .putfield i => (match kCl[e.2.2.1]? with
    | some q => [.fieldLink own i (q.2.1 e.2.2.2.1).1 (q.2.1 e.2.2.2.1).2.1 (q.2.1 e.2.2.2.1).2.2.1]
    | none => [])
  | .getstatic i => (match zs[e.2.2.1]? with
    | some z => [.fieldLink own i z.1 z.2.1 z.2.2]
    | none => [])
  | .new i => (match kCl[e.2.2.1]? with
    | some q => [.classLink own i q.1, .instantiable q.1 q.2.2, .initialized q.1]
    | none => [])
  | .newarray t => [.arrayClass (newarray.typeOf t)]
  | .anewarray i => (match kEl[e.2.2.1]? with
    | some (.object C) => [.classLink own i C]
    | _ => [])
  | .ldc i => [.constant own i (Int32.ofNat e.2.2.1)]
  | .ldc_w i => [.constant own i (Int32.ofNat e.2.2.1)]
  | .invokevirtual i => (match ms[e.2.2.1]? with
    | some r => [.methodLink own i r.1, .instanceMethod r.1, .selects r.1.cls r.1 r.1, .initialized r.1.cls, .code r.1 r.2.1 r.2.2.1 r.2.2.2.1]
    | none => [])
  | .invokespecial i => bif Nat.beq e.2.2.1 999999 then [.methodLink own i objectInit, .instanceMethod objectInit, .code objectInit ⟨#[0xb1]⟩ 1 none] else (match ms[e.2.2.1]? with
    | some r => (bif Nat.ble 100 e.2.2.2.2.2.2 then [] else [.methodLink own i r.1]) ++ [.instanceMethod r.1, .initialized r.1.cls, .code r.1 r.2.1 r.2.2.1 r.2.2.2.1]
    | none => [])
  | .invokestatic i => bif Nat.beq e.2.2.1 999998 then [.methodLink own i Lib.Math.min.name, .static Lib.Math.min.name, .initialized "java/lang/Math", .code Lib.Math.min.name Lib.Math.min.code 2 (some .int)]
    else bif Nat.beq e.2.2.1 999997 then [.methodLink own i arraycopyName, .native arraycopyName, .static arraycopyName, .initialized "java/lang/System"] else (match ms[e.2.2.1]? with
    | some r => [.methodLink own i r.1, .static r.1, .initialized r.1.cls, .code r.1 r.2.1 r.2.2.1 r.2.2.2.1]
    | none => [])
  | _ => []
def ksideM (ms : List KMeth) (x : KX) (f : KMeth → Bool) : Bool := match ms[x.1]? with
  | some r => decide ((parseMethodDescriptor r.1.desc).map (fun d => d.parameters.length) = some x.2.1) && (Nat.beq r.2.2.2.2.1 x.2.2.1 && (Nat.beq r.2.2.2.2.2.1 x.2.2.2.1 && (decide (r.1.cls ≠ "java/lang/invoke/MethodHandle") && (decide (r.1.cls ≠ "java/lang/invoke/VarHandle") && (Nat.ble r.2.2.1 21 && f r)))))
  | none => false
/-- what else must be so of an instruction -/
def kside (ms : List KMeth) (zs : KY) (own mname : String) (e : KEnt) : Bool := match e.2.1 with
  | .getfield _ => (match kCl[e.2.2.1]? with
    | some q => Nat.blt e.2.2.2.1 q.2.2
    | none => false)
  | .putfield _ => (match kCl[e.2.2.1]? with
    | some q => Nat.blt e.2.2.2.1 q.2.2 && (bif (q.2.1 e.2.2.2.1).2.2.2 then decide (mname = "<init>") && decide ((q.2.1 e.2.2.2.1).1 = own) else true)
    | none => false)
  | .getstatic _ => Nat.blt e.2.2.1 zs.length
  | .new _ => (match kCl[e.2.2.1]?, kTys[e.2.2.1]? with
    | some q, some t => Nat.beq q.2.2 t.length
    | _, _ => false)
  | .newarray t => decide (kEl[e.2.2.1]? = some (newarray.typeOf t))
  | .anewarray _ => Nat.beq e.2.2.1 5 || Nat.beq e.2.2.1 6
  | .invokevirtual _ => ksideM ms e.2.2 (fun r => (match kCl[e.2.2.2.2.2.2]? with
    | some q => decide (q.1 = r.1.cls)
    | none => false))
  | .invokespecial i => Nat.beq e.2.2.1 999999 || ksideM ms e.2.2 (fun r => decide (r.1.name = "<init>") && (decide (r.2.2.2.1 = none) && (!Nat.ble 100 e.2.2.2.2.2.2 || decide ((own, i, r.1) ∈ kNW))))
  | .invokestatic _ => Nat.beq e.2.2.1 999998 || (Nat.beq e.2.2.1 999997 || ksideM ms e.2.2 (fun _ => true))
  | _ => true
/-- what the tables say that is not told by a method's words -/
def kSt (U : State) : Prop := (∀ q ∈ kNW, va_Nw (.methodLinkNest q.1 q.2.1 q.2.2 "TriplicateForms") U) ∧ va_AO "TriplicateForms$Standing" U ∧ va_AO "TriplicateForms$Image" U
theorem kSt.warm {s U : State} (hW : s.WarmedH U.vm) (h : kSt s) : kSt U := ⟨fun q hq => (h.1 q hq).warmM hW, h.2.1.moved hW.alike, h.2.2.moved hW.alike⟩
theorem kSt.same {u U : State} (hvm : u.vm = U.vm) (h : kSt u) : kSt U := ⟨fun q hq => va_Nw.same rfl hvm (h.1 q hq), h.2.1.moved (by rw [hvm]; exact Vm.Alike.refl _), h.2.2.moved (by rw [hvm]; exact Vm.Alike.refl _)⟩
def kFix (p : Program) (s : State) (m : MethodId) (args : Array Value) (meth : Method) (cd : Code) (cc : ByteArray) (nL : Nat) (own mname : String) (D : va_G) (dA : Nat → ClassId) (A : Nat → Prop) (zs : KZ) (ad0 : Nat → Nat) : Prop :=
  p.tables.exec = Jvm.exec ∧ cd.code = cc ∧ cd.maxLocals = nL ∧ s.vm.findClass own = some m.cls ∧ (∀ w ∈ LT, w.before args s = true) ∧ va_K D kCl (kTyL dA) s ∧ (∀ q, s.heap.size ≤ q → A q) ∧ (mname = "<init>" → meth.name = "<init>") ∧
  kOuts zs ad0 A s s.heap ∧
  kSt s
def kAt (s : State) (D : va_G) (dA : Nat → ClassId) (ρ : Nat → Int32) (A : Nat → Prop) (nL : Nat) (ad0 : Nat → Nat) (n0 : Nat) (ad : Nat → Nat) (ls : Array Slot) (lo : List (Nat × KV)) (w : KW) (H : Heap) (locs : List Loc) : Prop :=
  lv_has ls nL (kL ad ρ lo) ∧ va_P D kCl (kW dA ad ρ w) H ∧ va_D A (kW dA ad ρ w) ∧ va_S A s.heap H locs ∧ n0 ≤ kfr 0 w ∧ kExt n0 ad0 ad
def kGo (p : Program) (l : Launch) (e : Env) (R : Room) (s : State) (m : MethodId) (args : Array Value) (below : List Frame) (meth : Method) (cd : Code) (Q : State → Prop) (D : va_G) (dA : Nat → ClassId) (ρ : Nat → Int32) (A : Nat → Prop) (nL : Nat) (ad0 : Nat → Nat) (n0 : Nat) (k : KF) : Prop :=
  ∀ (ad : Nat → Nat) (H : Heap) (locs : List Loc) (ls : Array Slot), kAt s D dA ρ A nL ad0 n0 ad ls k.2.1 k.2.2.2.1 H locs → W p l e R s m args below meth cd H locs k.2.2.2.2.1 k.2.2.2.2.2 Q (F0 m k.1 ls (k.2.2.1.map (kV ad ρ)))
section KROWS
variable {p : Program} {l : Launch} {e : Env} {R : Room} {s : State} {m : MethodId} {args : Array Value} {below : List Frame} {meth : Method} {cd : Code} {Q : State → Prop} {D : va_G} {dA : Nat → ClassId} {ρ : Nat → Int32} {A : Nat → Prop} {nL : Nat} {ad0 : Nat → Nat} {n0 : Nat} {cc : ByteArray} {own mname : String} {zs : KZ} {rg : List (Int × Int)}
variable {pc : Nat} {lo : List (Nat × KV)} {st : List KV} {w : KW} {c sl : Nat} {k : KF}
theorem k_ild {i len : Nat} (hrow : ∀ (ad : Nat → Nat) (H : Heap) (locs : List Loc) (ls : Array Slot) (x : Int32), ls[i]? = some (.val (.int x)) → W p l e R s m args below meth cd H locs c sl Q (F0 m (pc + len) ls (.int x :: st.map (kV ad ρ))) → W p l e R s m args below meth cd H locs c sl Q (F0 m pc ls (st.map (kV ad ρ)))) (h : kld kisI i len pc lo st w c sl = some k) (g : kGo p l e R s m args below meth cd Q D dA ρ A nL ad0 n0 (k)) : kGo p l e R s m args below meth cd Q D dA ρ A nL ad0 n0 ((pc, lo, st, w, c, sl)) := by
  unfold kld at h
  split at h
  · rename_i v hk
    cases hv : kisI v with
    | false => rw [hv] at h; cases h
    | true =>
      rw [hv] at h; cases h
      intro ad H locs ls hat
      have g1 := g ad H locs ls hat
      simp only [List.map_cons] at g1
      rw [kisI_eq hv] at g1
      exact hrow ad H locs ls _ (by rw [kL_get hat.1 hk, kisI_eq hv]) g1
  · cases h
theorem k_ald {i len : Nat} (hrow : ∀ (ad : Nat → Nat) (H : Heap) (locs : List Loc) (ls : Array Slot) (x : Nat), ls[i]? = some (.val (.ref x)) → W p l e R s m args below meth cd H locs c sl Q (F0 m (pc + len) ls (.ref x :: st.map (kV ad ρ))) → W p l e R s m args below meth cd H locs c sl Q (F0 m pc ls (st.map (kV ad ρ))))
    (hrowN : ∀ (ad : Nat → Nat) (H : Heap) (locs : List Loc) (ls : Array Slot), ls[i]? = some (.val .null) → W p l e R s m args below meth cd H locs c sl Q (F0 m (pc + len) ls (.null :: st.map (kV ad ρ))) → W p l e R s m args below meth cd H locs c sl Q (F0 m pc ls (st.map (kV ad ρ)))) (h : kld kisQ i len pc lo st w c sl = some k) (g : kGo p l e R s m args below meth cd Q D dA ρ A nL ad0 n0 (k)) : kGo p l e R s m args below meth cd Q D dA ρ A nL ad0 n0 ((pc, lo, st, w, c, sl)) := by
  unfold kld at h
  split at h
  · rename_i v hk
    cases hv : kisQ v with
    | false => rw [hv] at h; cases h
    | true =>
      rw [hv] at h; cases h
      rcases kisQ_eq hv with ⟨a, rfl⟩ | rfl
      · intro ad H locs ls hat
        exact hrow ad H locs ls _ (kL_get hat.1 hk) (g ad H locs ls hat)
      · intro ad H locs ls hat
        exact hrowN ad H locs ls (kL_get hat.1 hk) (g ad H locs ls hat)
  · cases h
theorem k_ist {i len : Nat} (hrow : ∀ (ad : Nat → Nat) (H : Heap) (locs : List Loc) (ls : Array Slot) (x : Int32) (rest : List Value) (lv lv' : List (Nat × Value)), lv_has ls nL lv → i < nL → (i, Value.int x) :: lv.filter (fun q => !(q.1 == i) && !(q.1 + 1 == i && q.2.category == 2)) = lv' → (∀ ls' : Array Slot, lv_has ls' nL lv' → W p l e R s m args below meth cd H locs c sl Q (F0 m (pc + len) ls' rest)) → W p l e R s m args below meth cd H locs c sl Q (F0 m pc ls (.int x :: rest))) (h : kst kisI i len nL pc lo st w c sl = some k) (g : kGo p l e R s m args below meth cd Q D dA ρ A nL ad0 n0 (k)) : kGo p l e R s m args below meth cd Q D dA ρ A nL ad0 n0 ((pc, lo, st, w, c, sl)) := by
  unfold kst at h
  split at h
  · rename_i v rest
    cases hv : kisI v with
    | false => rw [hv] at h; cases h
    | true =>
      cases hi : Nat.blt i nL with
      | false => rw [hv, hi] at h; cases h
      | true =>
        rw [hv, hi] at h; cases h
        intro ad H locs ls hat
        have e1 := klo_c ad ρ lo i v
        rw [kisI_eq hv] at e1
        simp only [List.map_cons]
        rw [kisI_eq hv]
        exact hrow ad H locs ls _ _ _ _ hat.1 (Nat.ble_eq.mp hi) e1 (fun ls' hl' => g ad H locs ls' ⟨hl', hat.2⟩)
  · cases h
theorem k_ast {i len : Nat} (hrow : ∀ (ad : Nat → Nat) (H : Heap) (locs : List Loc) (ls : Array Slot) (x : Nat) (rest : List Value) (lv lv' : List (Nat × Value)), lv_has ls nL lv → i < nL → (i, Value.ref x) :: lv.filter (fun q => !(q.1 == i) && !(q.1 + 1 == i && q.2.category == 2)) = lv' → (∀ ls' : Array Slot, lv_has ls' nL lv' → W p l e R s m args below meth cd H locs c sl Q (F0 m (pc + len) ls' rest)) → W p l e R s m args below meth cd H locs c sl Q (F0 m pc ls (.ref x :: rest)))
    (hrowN : ∀ (ad : Nat → Nat) (H : Heap) (locs : List Loc) (ls : Array Slot) (rest : List Value) (lv lv' : List (Nat × Value)), lv_has ls nL lv → i < nL → (i, Value.null) :: lv.filter (fun q => !(q.1 == i) && !(q.1 + 1 == i && q.2.category == 2)) = lv' → (∀ ls' : Array Slot, lv_has ls' nL lv' → W p l e R s m args below meth cd H locs c sl Q (F0 m (pc + len) ls' rest)) → W p l e R s m args below meth cd H locs c sl Q (F0 m pc ls (.null :: rest))) (h : kst kisQ i len nL pc lo st w c sl = some k) (g : kGo p l e R s m args below meth cd Q D dA ρ A nL ad0 n0 (k)) : kGo p l e R s m args below meth cd Q D dA ρ A nL ad0 n0 ((pc, lo, st, w, c, sl)) := by
  unfold kst at h
  split at h
  · rename_i v rest
    cases hv : kisQ v with
    | false => rw [hv] at h; cases h
    | true =>
      cases hi : Nat.blt i nL with
      | false => rw [hv, hi] at h; cases h
      | true =>
        rw [hv, hi] at h; cases h
        rcases kisQ_eq hv with ⟨a, rfl⟩ | rfl
        · intro ad H locs ls hat
          exact hrow ad H locs ls _ _ _ _ hat.1 (Nat.ble_eq.mp hi) (klo_c ad ρ lo i (.inl (.ref a))) (fun ls' hl' => g ad H locs ls' ⟨hl', hat.2⟩)
        · intro ad H locs ls hat
          exact hrowN ad H locs ls _ _ _ hat.1 (Nat.ble_eq.mp hi) (klo_c ad ρ lo i (.inl .null)) (fun ls' hl' => g ad H locs ls' ⟨hl', hat.2⟩)
  · cases h
theorem kL_at {ad : Nat → Nat} {lo : List (Nat × KV)} {i : Nat} {v : KV} (hk : klook lo i = some v) : ∃ q : Nat, (kL ad ρ lo)[q]? = some (i, kV ad ρ v) := List.getElem?_of_mem (List.mem_map.mpr ⟨(i, v), klook_mem hk, rfl⟩)
theorem k_inc (F : kFix p s m args meth cd cc nL own mname D dA A zs ad0) {i : Nat} {n : Int} (hd : decode cc pc = .ok (.iinc i n, 3)) (h : kinc i n nL pc lo st w c sl = some k) (g : kGo p l e R s m args below meth cd Q D dA ρ A nL ad0 n0 (k)) : kGo p l e R s m args below meth cd Q D dA ρ A nL ad0 n0 ((pc, lo, st, w, c, sl)) := by
  unfold kinc at h
  split at h
  · rename_i x hk
    cases hi : Nat.blt i nL with
    | false => rw [hi] at h; cases h
    | true =>
      rw [hi] at h; cases h
      intro ad H locs ls hat
      obtain ⟨q, hq⟩ := kL_at (ad := ad) (ρ := ρ) hk
      exact lv_iinc F.1 F.2.1 hd hat.1 hq rfl (Nat.ble_eq.mp hi) (klo_c ad ρ lo i (.inl (.int (x + Int32.ofInt n)))) (fun ls' hl' => g ad H locs ls' ⟨hl', hat.2⟩)
  · cases h
theorem k_bin {f : Int32 → Int32 → Int32} (hrow : ∀ (H : Heap) (locs : List Loc) (ls : Array Slot) (x y : Int32) (rest : List Value), W p l e R s m args below meth cd H locs c sl Q (F0 m (pc + 1) ls (.int (f x y) :: rest)) → W p l e R s m args below meth cd H locs c sl Q (F0 m pc ls (.int y :: .int x :: rest))) (h : kbin f pc lo st w c sl = some k) (g : kGo p l e R s m args below meth cd Q D dA ρ A nL ad0 n0 (k)) : kGo p l e R s m args below meth cd Q D dA ρ A nL ad0 n0 ((pc, lo, st, w, c, sl)) := by
  unfold kbin at h
  split at h
  · rename_i y x rest
    cases hx : kisI x with
    | false => rw [hx] at h; cases h
    | true =>
      cases hy : kisI y with
      | false => rw [hx, hy] at h; cases h
      | true =>
        rw [hx, hy] at h; cases h
        intro ad H locs ls hat
        have g1 := g ad H locs ls hat
        simp only [List.map_cons] at g1 ⊢
        rw [kop2_ok] at g1
        rw [kisI_eq hx, kisI_eq hy]
        exact hrow H locs ls _ _ _ g1
  · cases h
theorem k_un {f : Int32 → Int32} (hrow : ∀ (H : Heap) (locs : List Loc) (ls : Array Slot) (x : Int32) (rest : List Value), W p l e R s m args below meth cd H locs c sl Q (F0 m (pc + 1) ls (.int (f x) :: rest)) → W p l e R s m args below meth cd H locs c sl Q (F0 m pc ls (.int x :: rest))) (h : kun f pc lo st w c sl = some k) (g : kGo p l e R s m args below meth cd Q D dA ρ A nL ad0 n0 (k)) : kGo p l e R s m args below meth cd Q D dA ρ A nL ad0 n0 ((pc, lo, st, w, c, sl)) := by
  unfold kun at h
  split at h
  · rename_i x rest
    cases hx : kisI x with
    | false => rw [hx] at h; cases h
    | true =>
      rw [hx] at h; cases h
      intro ad H locs ls hat
      have g1 := g ad H locs ls hat
      simp only [List.map_cons] at g1 ⊢
      rw [kop1_ok] at g1
      rw [kisI_eq hx]
      exact hrow H locs ls _ _ g1
  · cases h
theorem kisO_eq {v : KV} (h : kisO v = true) : v = .inr (.inl 0) := by
  rcases v with v | (i | f)
  · cases h
  · rw [kb_t (i := i) (j := 0) h]
  · cases h
theorem kis63_eq {v : KV} (h : kis63 v = true) : v = .inl (.int 63) := by
  unfold kis63 at h
  split at h
  · rw [of_decide_eq_true h]
  · cases h
theorem k_and (F : kFix p s m args meth cd cc nL own mname D dA A zs ad0) {ks : Option Int32} (hks : ∀ v, ks = some v → ρ 0 &&& 63 = v) (hd : decode cc pc = .ok (.iand, 1)) (h : kand ks pc lo st w c sl = some k) (g : kGo p l e R s m args below meth cd Q D dA ρ A nL ad0 n0 (k)) : kGo p l e R s m args below meth cd Q D dA ρ A nL ad0 n0 ((pc, lo, st, w, c, sl)) := by
  unfold kand at h
  split at h
  · rename_i y x rest
    cases hb : kisO x && kis63 y with
    | false =>
      rw [hb] at h
      exact k_bin (fun H locs ls x y rest q => lv_iand F.1 F.2.1 hd q) h g
    | true =>
      rw [hb] at h
      simp only [cond_true] at h
      split at h
      · rename_i v
        cases h
        have hb := Bool.and_eq_true_iff.mp hb
        rw [kisO_eq hb.1, kis63_eq hb.2]
        intro ad H locs ls hat
        have g1 := g ad H locs ls hat
        simp only [List.map_cons] at g1 ⊢
        refine lv_iand F.1 F.2.1 hd ?_
        rw [show kV ad ρ (.inl (.int v)) = .int (ρ 0 &&& 63) from by rw [hks v rfl]; rfl] at g1
        exact g1
      · cases h
  · cases h
theorem k_br {r : Option Bool} {P : Prop} {off : Int} {st0 : List KV} (hP : ∀ b, r = some b → (b = true ↔ P)) (hrow : ∀ (ad : Nat → Nat) (H : Heap) (locs : List Loc) (ls : Array Slot) (tgt : Nat), (pc : Int) + off = (tgt : Int) → (P → W p l e R s m args below meth cd H locs c sl Q (F0 m tgt ls (st.map (kV ad ρ)))) → (¬ P → W p l e R s m args below meth cd H locs c sl Q (F0 m (pc + 3) ls (st.map (kV ad ρ)))) → W p l e R s m args below meth cd H locs c sl Q (F0 m pc ls (st0.map (kV ad ρ))))
    (h : kbr (ktg pc off) r pc lo st w c sl = some k) (g : kGo p l e R s m args below meth cd Q D dA ρ A nL ad0 n0 (k)) : kGo p l e R s m args below meth cd Q D dA ρ A nL ad0 n0 ((pc, lo, st0, w, c, sl)) := by
  unfold kbr at h
  split at h
  · rename_i t ht
    split at h
    · rename_i b
      have hp := hP b rfl
      cases b with
      | true =>
        cases h
        intro ad H locs ls hat
        exact hrow ad H locs ls t (ktg_ok ht) (fun _ => g ad H locs ls hat) (fun q => absurd (hp.mp rfl) q)
      | false =>
        cases h
        intro ad H locs ls hat
        exact hrow ad H locs ls t (ktg_ok ht) (fun q => absurd (hp.mpr q) Bool.false_ne_true) (fun _ => g ad H locs ls hat)
    · cases h
  · cases h
end KROWS
