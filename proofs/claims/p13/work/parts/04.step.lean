/-! One step of the small machine. -/
/-- an instruction's length; 0: any -/
def klen : Instr → Nat
  | .bipush _ => 2 | .sipush _ => 3 | .iload _ => 2 | .aload _ => 2 | .istore _ => 2 | .astore _ => 2 | .lload _ => 2 | .lstore _ => 2
  | .iinc _ _ => 3 | .goto _ => 3 | .ifCond _ _ => 3 | .if_icmp _ _ => 3 | .if_acmp _ _ => 3 | .getfield _ => 3 | .putfield _ => 3 | .getstatic _ => 3
  | .new _ => 3 | .anewarray _ => 3 | .newarray _ => 2 | .invokevirtual _ => 3 | .invokespecial _ => 3 | .invokestatic _ => 3 | .ldc _ => 2 | .ldc2_w _ => 3 | .ldc_w _ => 3
  | .tableswitch _ _ _ _ => 0 | .lookupswitch _ _ => 0 | .ifnull _ => 3 | .ifnonnull _ => 3
  | _ => 1
def kdec (cc : ByteArray) (e : KEnt) : Bool := match decode cc e.1 with
  | .ok r => decide (r.1 = e.2.1) && (Nat.beq (klen e.2.1) 0 || Nat.beq r.2 (klen e.2.1))
  | _ => false
theorem kdec_ok {cc : ByteArray} {e : KEnt} (h : kdec cc e = true) : ∃ len, decode cc e.1 = .ok (e.2.1, len) ∧ (klen e.2.1 = 0 ∨ len = klen e.2.1) := by
  unfold kdec at h
  split at h
  · rename_i r hr
    have h1 := Bool.and_eq_true_iff.mp h
    have h2 := of_decide_eq_true h1.1
    refine ⟨r.2, by rw [hr, ← h2], ?_⟩
    rcases Bool.or_eq_true_iff.mp h1.2 with q | q
    · exact Or.inl (kb_t q)
    · exact Or.inr (kb_t q)
  · cases h
/-- a jump's target -/
def ktg (pc : Nat) (off : Int) : Option Nat := match (pc : Int) + off with
  | .ofNat t => some t
  | .negSucc _ => none
theorem ktg_ok {pc t : Nat} {off : Int} (h : ktg pc off = some t) : (pc : Int) + off = (t : Int) := by
  unfold ktg at h
  split at h
  · rename_i t' ht
    cases h
    exact ht
  · cases h
def kisR : KV → Bool
  | .inl v => match v with
    | .ref _ => true
    | _ => false
  | .inr _ => false
theorem kisR_eq {v : KV} (h : kisR v = true) : ∃ a, v = .inl (.ref a) := by
  rcases v with v | z
  · cases v <;> first | exact ⟨_, rfl⟩ | cases h
  · cases h
def kisQ : KV → Bool
  | .inl v => match v with
    | .ref _ => true
    | .null => true
    | _ => false
  | .inr _ => false
theorem kisQ_eq {v : KV} (h : kisQ v = true) : (∃ a, v = .inl (.ref a)) ∨ v = .inl .null := by
  rcases v with v | z
  · cases v <;> first | exact Or.inl ⟨_, rfl⟩ | exact Or.inr rfl | cases h
  · cases h
def kld (ok : KV → Bool) (i len : Nat) (pc : Nat) (lo : List (Nat × KV)) (st : List KV) (w : KW) (c s : Nat) : Option KF := match klook lo i with
  | some v => bif ok v then some (pc + len, lo, v :: st, w, c, s) else none
  | none => none
def kst (ok : KV → Bool) (i len nL : Nat) (pc : Nat) (lo : List (Nat × KV)) (st : List KV) (w : KW) (c s : Nat) : Option KF := match st with
  | v :: rest => bif ok v && Nat.blt i nL then some (pc + len, klo lo i v, rest, w, c, s) else none
  | [] => none
def kinc (i : Nat) (n : Int) (nL : Nat) (pc : Nat) (lo : List (Nat × KV)) (st : List KV) (w : KW) (c s : Nat) : Option KF := match klook lo i with
  | some (.inl (.int x)) => bif Nat.blt i nL then some (pc + 3, klo lo i (.inl (.int (x + Int32.ofInt n))), st, w, c, s) else none
  | _ => none
def kop2 (f : Int32 → Int32 → Int32) (a b : KV) : KV := match a with
  | .inl va => match va with
    | .int x => match b with
      | .inl vb => match vb with
        | .int y => .inl (.int (f x y))
        | _ => .inr (.inr (fun ρ => f (kiv ρ a) (kiv ρ b)))
      | .inr _ => .inr (.inr (fun ρ => f (kiv ρ a) (kiv ρ b)))
    | _ => .inr (.inr (fun ρ => f (kiv ρ a) (kiv ρ b)))
  | .inr _ => .inr (.inr (fun ρ => f (kiv ρ a) (kiv ρ b)))
theorem kop2_ok (f : Int32 → Int32 → Int32) (a b : KV) (ad : Nat → Nat) (ρ : Nat → Int32) : kV ad ρ (kop2 f a b) = .int (f (kiv ρ a) (kiv ρ b)) := by
  rcases a with va | za
  · cases va <;> first | rfl | skip
    rcases b with vb | zb
    · cases vb <;> rfl
    · rfl
  · rfl
def kop1 (f : Int32 → Int32) (a : KV) : KV := match a with
  | .inl va => match va with
    | .int x => .inl (.int (f x))
    | _ => .inr (.inr (fun ρ => f (kiv ρ a)))
  | .inr _ => .inr (.inr (fun ρ => f (kiv ρ a)))
theorem kop1_ok (f : Int32 → Int32) (a : KV) (ad : Nat → Nat) (ρ : Nat → Int32) : kV ad ρ (kop1 f a) = .int (f (kiv ρ a)) := by
  rcases a with va | za
  · cases va <;> rfl
  · rfl
def kbin (f : Int32 → Int32 → Int32) (pc : Nat) (lo : List (Nat × KV)) (st : List KV) (w : KW) (c s : Nat) : Option KF := match st with
  | y :: x :: rest => bif kisI x && kisI y then some (pc + 1, lo, kop2 f x y :: rest, w, c, s) else none
  | _ => none
def kun (f : Int32 → Int32) (pc : Nat) (lo : List (Nat × KV)) (st : List KV) (w : KW) (c s : Nat) : Option KF := match st with
  | x :: rest => bif kisI x then some (pc + 1, lo, kop1 f x :: rest, w, c, s) else none
  | _ => none
/-- iand: the first input and 63 is known -/
def kisO : KV → Bool
  | .inr (.inl i) => Nat.beq i 0
  | _ => false
def kis63 : KV → Bool
  | .inl (.int y) => decide (y = 63)
  | _ => false
def kand (ks : Option Int32) (pc : Nat) (lo : List (Nat × KV)) (st : List KV) (w : KW) (c s : Nat) : Option KF := match st with
  | y :: x :: rest => bif kisO x && kis63 y then (match ks with
    | some v => some (pc + 1, lo, .inl (.int v) :: rest, w, c, s)
    | none => none) else kbin (fun a b => a &&& b) pc lo st w c s
  | _ => none
def kbr (o : Option Nat) (r : Option Bool) (pc : Nat) (lo : List (Nat × KV)) (st : List KV) (w : KW) (c s : Nat) : Option KF := match o with
  | some t => match r with
    | some b => match b with
      | true => some (t, lo, st, w, c, s)
      | false => some (pc + 3, lo, st, w, c, s)
    | none => none
  | none => none
def kcond (rg : List (Int × Int)) (cnd : Jvm.ClassFile.Cond) (a b : KV) : Option Bool := match cnd with
  | .eq => keq rg a b
  | .ne => (keq rg a b).map not
  | .lt => klt rg a b
  | .ge => (klt rg a b).map not
  | .gt => klt rg b a
  | .le => (klt rg b a).map not
def kif (rg : List (Int × Int)) (cnd : Jvm.ClassFile.Cond) (off : Int) (pc : Nat) (lo : List (Nat × KV)) (st : List KV) (w : KW) (c s : Nat) : Option KF := match st with
  | x :: rest => bif kisI x then kbr (ktg pc off) (kcond rg cnd x (.inl (.int 0))) pc lo rest w c s else none
  | _ => none
def kicmp (rg : List (Int × Int)) (cnd : Jvm.ClassFile.Cond) (off : Int) (pc : Nat) (lo : List (Nat × KV)) (st : List KV) (w : KW) (c s : Nat) : Option KF := match st with
  | y :: x :: rest => bif kisI x && kisI y then kbr (ktg pc off) (kcond rg cnd x y) pc lo rest w c s else none
  | _ => none
def krf : KV → Option (Option Nat)
  | .inl v => match v with
    | .null => some none
    | .ref i => some (some i)
    | _ => none
  | .inr _ => none
def kreq (a b : KV) : Option Bool := match krf a, krf b with
  | some none, some none => some true
  | some none, some (some _) => some false
  | some (some _), some none => some false
  | some (some i), some (some j) => bif Nat.beq i j then some true else none
  | _, _ => none
def kacmp (cnd : Jvm.ClassFile.ACond) (off : Int) (pc : Nat) (lo : List (Nat × KV)) (st : List KV) (w : KW) (c s : Nat) : Option KF := match st with
  | y :: x :: rest => kbr (ktg pc off) (match cnd with
    | .eq => kreq x y
    | .ne => (kreq x y).map not) pc lo rest w c s
  | _ => none
def ksw (rg : List (Int × Int)) (dflt lw hg : Int) (offs : Array Int) (pc : Nat) (lo : List (Nat × KV)) (st : List KV) (w : KW) (c s : Nat) : Option KF := match st with
  | v :: rest => match krg rg v with
    | some (a, b) => bif decide (b < lw) || decide (hg < a) then (match ktg pc dflt with
        | some t => some (t, lo, rest, w, c, s)
        | none => none)
      else bif decide (a = b) then (match offs.toList[(a - lw).toNat]? with
        | some off => match ktg pc off with
          | some t => some (t, lo, rest, w, c, s)
          | none => none
        | none => none) else none
    | none => none
  | _ => none
def kgetf (ci k : Nat) (pc : Nat) (lo : List (Nat × KV)) (st : List KV) (w : KW) (c s : Nat) : Option KF := match st with
  | .inl (.ref a) :: rest => match kwg w a with
    | some (.inr (cj, fs)) => bif Nat.beq cj ci then (match fs[k]? with
      | some v => some (pc + 3, lo, v :: rest, w, c, s)
      | none => none) else none
    | _ => none
  | _ => none
def kfit (ty : FieldType) (v : KV) : Bool := match ty with
  | .int => kisI v
  | .boolean => match v with
    | .inl (.int x) => decide (x = 0) || decide (x = 1)
    | _ => false
  | .long => match v with
    | .inl (.long _) => true
    | _ => false
  | .object _ => match v with
    | .inl (.ref _) => true
    | .inl .null => true
    | _ => false
  | .array _ => match v with
    | .inl (.ref _) => true
    | .inl .null => true
    | _ => false
  | _ => false
def kputf (ci k : Nat) (pc : Nat) (lo : List (Nat × KV)) (st : List KV) (w : KW) (c s : Nat) : Option KF := match st with
  | v :: .inl (.ref a) :: rest => match kwg w a with
    | some (.inr (cj, fs)) => bif Nat.beq cj ci && (Nat.blt k fs.length && kfit (kTy ci k) v) then some (pc + 3, lo, rest, kws w a (.inr (cj, fs.set k v)), c, s) else none
    | _ => none
  | _ => none
def kfresh (c s n Rc Rs : Nat) (lo : List (Nat × KV)) (st : List KV) (w : KW) : Bool := Nat.ble (c + 1) Rc && (Nat.ble (s + n) Rs && (Nat.blt (kfr 0 w) 1000000 && (kokW (kfr 0 w) w && (kokS (kfr 0 w) st && kokL (kfr 0 w) lo))))
def knew (ci Rc Rs : Nat) (pc : Nat) (lo : List (Nat × KV)) (st : List KV) (w : KW) (c s : Nat) : Option KF := match kTys[ci]? with
  | some tys => bif kfresh c s tys.length Rc Rs lo st w then some (pc + 3, lo, .inl (.ref (kfr 0 w)) :: st, kwp (.inr (ci, tys.map (fun t => (.inl (defaultValue t) : KV)))) w, c + 1, s + tys.length) else none
  | none => none
/-- the kinds of arrays -/
def kEl : List FieldType := [.int, .long, .byte, .char, .boolean, .object "TriplicateForms$Standing", .object "TriplicateForms$Image"]
def kElc : List Nat := [99, 99, 99, 99, 99, 7, 2]
def karr0 (t n : Nat) : KA := (t, n, match t with
  | 1 => .inr (.inl ([], 0))
  | 5 => .inr (.inr [])
  | 6 => .inr (.inr [])
  | _ => .inl ([], .inl 0))
def knewa (ref : Bool) (t len Rc Rs : Nat) (pc : Nat) (lo : List (Nat × KV)) (st : List KV) (w : KW) (c s : Nat) : Option KF := match st with
  | .inl (.int n) :: rest => bif !decide (n < 0) && (Nat.blt n.toNatClampNeg 100000 && (kfresh c s n.toNatClampNeg Rc Rs lo rest w && (Nat.blt t 7 && (Nat.ble 5 t == ref)))) then some (pc + len, lo, .inl (.ref (kfr 0 w)) :: rest, kwp (.inl (karr0 t n.toNatClampNeg)) w, c + 1, s + n.toNatClampNeg) else none
  | _ => none
/-- the script (L: its length and one more; 0 where there is none) -/
def kscr : KV → Bool
  | .inl (.ref a) => Nat.beq a 1000000
  | _ => false
def kalen (L : Nat) (pc : Nat) (lo : List (Nat × KV)) (st : List KV) (w : KW) (c s : Nat) : Option KF := match st with
  | v :: rest => bif kscr v && Nat.blt 0 L then some (pc + 1, lo, .inl (.int (Int32.ofNat (L - 1))) :: rest, w, c, s) else (match v with
    | .inl (.ref a) => match kwg w a with
      | some (.inl (t, n, _)) => bif Nat.blt t 7 then some (pc + 1, lo, .inl (.int (Int32.ofNat n)) :: rest, w, c, s) else none
      | _ => none
    | _ => none)
  | _ => none
def kinB (i : Int32) (n : Nat) : Bool := !decide (i < 0) && Nat.blt i.toNatClampNeg n
def kofI : KI → KV
  | .inl x => .inl (.int x)
  | .inr z => .inr z
def ktoI : KV → KI
  | .inl v => match v with
    | .int x => .inl x
    | _ => .inl 0
  | .inr z => .inr z
theorem kofI_ok (ad : Nat → Nat) (ρ : Nat → Int32) (x : KI) : kV ad ρ (kofI x) = .int (kI ρ x) := by
  cases x <;> rfl
theorem ktoI_ok (ρ : Nat → Int32) (v : KV) : kI ρ (ktoI v) = kiv ρ v := by
  rcases v with v | z
  · cases v <;> rfl
  · rfl
def kscl (rg : List (Int × Int)) (j : Nat) : Option KV := match rg[j]? with
  | some (a, b) => bif decide (a = b) then some (.inl (.int (Int32.ofInt a))) else some (.inr (.inl j))
  | none => none
def kald (rg : List (Int × Int)) (L : Nat) (ok : Nat → Bool) (pc : Nat) (lo : List (Nat × KV)) (st : List KV) (w : KW) (c s : Nat) : Option KF := match st with
  | .inl (.int i) :: v :: rest => bif kscr v && kinB i (L - 1) then (match kscl rg i.toNatClampNeg with
      | some x => some (pc + 1, lo, x :: rest, w, c, s)
      | none => none) else (match v with
    | .inl (.ref a) => match kwg w a with
      | some (.inl (t, n, .inl (l, d))) => bif ok t && kinB i n then some (pc + 1, lo, kofI (kget l d i.toNatClampNeg) :: rest, w, c, s) else none
      | _ => none
    | _ => none)
  | _ => none
def klald (pc : Nat) (lo : List (Nat × KV)) (st : List KV) (w : KW) (c s : Nat) : Option KF := match st with
  | .inl (.int i) :: .inl (.ref a) :: rest => match kwg w a with
    | some (.inl (t, n, .inr (.inl (l, d)))) => bif Nat.beq t 1 && kinB i n then some (pc + 1, lo, .inl (.long (kget l d i.toNatClampNeg)) :: rest, w, c, s) else none
    | _ => none
  | _ => none
def kofR : Option Nat → KV
  | none => .inl .null
  | some a => .inl (.ref a)
theorem kofR_ok (ad : Nat → Nat) (ρ : Nat → Int32) (o : Option Nat) : kV ad ρ (kofR o) = va_rf (o.map ad) := by
  cases o <;> rfl
def kaald (pc : Nat) (lo : List (Nat × KV)) (st : List KV) (w : KW) (c s : Nat) : Option KF := match st with
  | .inl (.int i) :: .inl (.ref a) :: rest => match kwg w a with
    | some (.inl (t, n, .inr (.inr l))) => bif (Nat.beq t 5 || Nat.beq t 6) && kinB i n then some (pc + 1, lo, kofR (kget l none i.toNatClampNeg) :: rest, w, c, s) else none
    | _ => none
  | _ => none
def kop1I (f : Int32 → Int32) : KI → KI
  | .inl x => .inl (f x)
  | .inr z => .inr (.inr (fun ρ => f (kS ρ z)))
theorem kop1I_ok (f : Int32 → Int32) (ρ : Nat → Int32) (x : KI) : kI ρ (kop1I f x) = f (kI ρ x) := by
  cases x <;> rfl
def kast (ok : Nat → Bool) (f : Nat → Int32 → Int32) (pc : Nat) (lo : List (Nat × KV)) (st : List KV) (w : KW) (c s : Nat) : Option KF := match st with
  | x :: .inl (.int i) :: .inl (.ref a) :: rest => match kwg w a with
    | some (.inl (t, n, .inl (l, d))) => bif ok t && (kinB i n && kisI x) then some (pc + 1, lo, rest, kws w a (.inl (t, n, .inl (kset l i.toNatClampNeg (kop1I (f t) (ktoI x)), d))), c, s) else none
    | _ => none
  | _ => none
def klast (pc : Nat) (lo : List (Nat × KV)) (st : List KV) (w : KW) (c s : Nat) : Option KF := match st with
  | .inl (.long x) :: .inl (.int i) :: .inl (.ref a) :: rest => match kwg w a with
    | some (.inl (t, n, .inr (.inl (l, d)))) => bif Nat.beq t 1 && kinB i n then some (pc + 1, lo, rest, kws w a (.inl (t, n, .inr (.inl (kset l i.toNatClampNeg x, d)))), c, s) else none
    | _ => none
  | _ => none
def kaast (pc : Nat) (lo : List (Nat × KV)) (st : List KV) (w : KW) (c s : Nat) : Option KF := match st with
  | .inl (.ref r) :: .inl (.int i) :: .inl (.ref a) :: rest => match kwg w a, kwg w r with
    | some (.inl (t, n, .inr (.inr l))), some (.inr (cj, _)) => bif (Nat.beq t 5 && Nat.beq cj 7 || Nat.beq t 6 && Nat.beq cj 2) && kinB i n then some (pc + 1, lo, rest, kws w a (.inl (t, n, .inr (.inr (kset l i.toNatClampNeg (some r))))), c, s) else none
    | _, _ => none
  | _ => none
def kdup (pc : Nat) (lo : List (Nat × KV)) (st : List KV) (w : KW) (c s : Nat) : Option KF := match st with
  | v :: rest => bif Nat.beq (kcat v) 1 then some (pc + 1, lo, v :: v :: rest, w, c, s) else none
  | _ => none
def kdup2 (pc : Nat) (lo : List (Nat × KV)) (st : List KV) (w : KW) (c s : Nat) : Option KF := match st with
  | a :: b :: rest => bif Nat.beq (kcat a) 1 && Nat.beq (kcat b) 1 then some (pc + 1, lo, a :: b :: a :: b :: rest, w, c, s) else none
  | _ => none
def kpop (pc : Nat) (lo : List (Nat × KV)) (st : List KV) (w : KW) (c s : Nat) : Option KF := match st with
  | v :: rest => bif Nat.beq (kcat v) 1 then some (pc + 1, lo, rest, w, c, s) else none
  | _ => none
def kcats (st : List KV) : Nat := (st.map kcat).sum
/-- calls: the method's number, how many arguments, the cells and slots that it may make, the receiver's class -/
def kcallV (call : Nat → List KV → KW → Option (Option KV × KW)) (Rc Rs : Nat) (x : KX) (pc : Nat) (lo : List (Nat × KV)) (st : List KV) (w : KW) (c s : Nat) : Option KF := match st.drop x.2.1 with
  | .inl (.ref b) :: rest => match kwg w b with
    | some (.inr (cj, _)) => bif Nat.beq cj x.2.2.2.2 && (kokL (kfr 0 w) lo && (kokS (kfr 0 w) rest && (Nat.ble (c + x.2.2.1) Rc && (Nat.ble (s + x.2.2.2.1) Rs && Nat.ble (kcats rest) 8)))) then
        (match call x.1 (.inl (.ref b) :: (st.take x.2.1).reverse) w with
        | some (r, w') => some (pc + 3, lo, r.toList ++ rest, w', c + x.2.2.1, s + x.2.2.2.1)
        | none => none) else none
    | _ => none
  | _ => none
def kcallS (call : Nat → List KV → KW → Option (Option KV × KW)) (Rc Rs : Nat) (x : KX) (pc : Nat) (lo : List (Nat × KV)) (st : List KV) (w : KW) (c s : Nat) : Option KF :=
  bif Nat.ble x.2.1 st.length && (kokL (kfr 0 w) lo && (kokS (kfr 0 w) (st.drop x.2.1) && (Nat.ble (c + x.2.2.1) Rc && (Nat.ble (s + x.2.2.2.1) Rs && Nat.ble (kcats (st.drop x.2.1)) 8)))) then
        (match call x.1 (st.take x.2.1).reverse w with
        | some (r, w') => some (pc + 3, lo, r.toList ++ st.drop x.2.1, w', c + x.2.2.1, s + x.2.2.2.1)
        | none => none) else none
def kobj (pc : Nat) (lo : List (Nat × KV)) (st : List KV) (w : KW) (c s : Nat) : Option KF := match st with
  | .inl (.ref _) :: rest => bif Nat.ble (kcats rest) 8 then some (pc + 3, lo, rest, w, c, s) else none
  | _ => none
def kmin (rg : List (Int × Int)) (Rc Rs : Nat) (pc : Nat) (lo : List (Nat × KV)) (st : List KV) (w : KW) (c s : Nat) : Option KF := match st with
  | y :: x :: rest => bif kisI x && (kisI y && (Nat.ble c Rc && (Nat.ble s Rs && Nat.ble (kcats rest) 8))) then (match klt rg y x with
      | some b => some (pc + 3, lo, (bif b then y else x) :: rest, w, c, s)
      | none => none) else none
  | _ => none
def kcopy (pc : Nat) (lo : List (Nat × KV)) (st : List KV) (w : KW) (c s : Nat) : Option KF := match st with
  | .inl (.int n) :: .inl (.int dp) :: .inl (.ref a1) :: .inl (.int sp) :: .inl (.ref a0) :: rest => match kwg w a0, kwg w a1 with
    | some (.inl (t0, n0, e0)), some (.inl (t1, n1, e1)) => bif decide (sp = 0) && (decide (dp = 0) && (!decide (n < 0) && (Nat.beq n.toNatClampNeg n0 && (Nat.beq n0 n1 && (Nat.beq t0 t1 && Nat.ble (kcats rest) 8))))) then
        (match e0, e1 with
        | .inl _, .inl _ => bif Nat.beq t0 0 then some (pc + 3, lo, rest, kws w a1 (.inl (t1, n1, e0)), c, s) else none
        | .inr (.inl _), .inr (.inl _) => bif Nat.beq t0 1 then some (pc + 3, lo, rest, kws w a1 (.inl (t1, n1, e0)), c, s) else none
        | _, _ => none) else none
    | _, _ => none
  | _ => none
def kdo (ig : Instr) : (Nat → List KV → KW → Option (Option KV × KW)) → List (Int × Int) → Option Int32 → Nat → Nat → Nat → Nat → KX → Nat → List (Nat × KV) → List KV → KW → Nat → Nat → Option KF := match ig with
  | .iconst n => fun call rg ks L nL Rc Rs x pc lo st w c s => some (pc + 1, lo, .inl (.int (Int32.ofInt n)) :: st, w, c, s)
  | .bipush n => fun call rg ks L nL Rc Rs x pc lo st w c s => some (pc + 2, lo, .inl (.int (Int8.ofInt n).toInt32) :: st, w, c, s)
  | .sipush n => fun call rg ks L nL Rc Rs x pc lo st w c s => some (pc + 3, lo, .inl (.int (Int16.ofInt n).toInt32) :: st, w, c, s)
  | .lconst n => fun call rg ks L nL Rc Rs x pc lo st w c s => some (pc + 1, lo, .inl (.long (Int64.ofNat n.val)) :: st, w, c, s)
  | .aconst_null => fun call rg ks L nL Rc Rs x pc lo st w c s => some (pc + 1, lo, .inl .null :: st, w, c, s)
  | .iload_n n => fun call rg ks L nL Rc Rs x pc lo st w c s => kld kisI n.val 1 pc lo st w c s
  | .iload n => fun call rg ks L nL Rc Rs x pc lo st w c s => kld kisI n 2 pc lo st w c s
  | .aload_n n => fun call rg ks L nL Rc Rs x pc lo st w c s => kld kisQ n.val 1 pc lo st w c s
  | .aload n => fun call rg ks L nL Rc Rs x pc lo st w c s => kld kisQ n 2 pc lo st w c s
  | .istore_n n => fun call rg ks L nL Rc Rs x pc lo st w c s => kst kisI n.val 1 nL pc lo st w c s
  | .istore n => fun call rg ks L nL Rc Rs x pc lo st w c s => kst kisI n 2 nL pc lo st w c s
  | .astore_n n => fun call rg ks L nL Rc Rs x pc lo st w c s => kst kisQ n.val 1 nL pc lo st w c s
  | .astore n => fun call rg ks L nL Rc Rs x pc lo st w c s => kst kisQ n 2 nL pc lo st w c s
  | .iinc i n => fun call rg ks L nL Rc Rs x pc lo st w c s => kinc i n nL pc lo st w c s
  | .iadd => fun call rg ks L nL Rc Rs x pc lo st w c s => kbin (fun a b => a + b) pc lo st w c s
  | .isub => fun call rg ks L nL Rc Rs x pc lo st w c s => kbin (fun a b => a - b) pc lo st w c s
  | .imul => fun call rg ks L nL Rc Rs x pc lo st w c s => kbin (fun a b => a * b) pc lo st w c s
  | .ishl => fun call rg ks L nL Rc Rs x pc lo st w c s => kbin (fun a b => a <<< (b &&& 31)) pc lo st w c s
  | .iushr => fun call rg ks L nL Rc Rs x pc lo st w c s => kbin (fun a b => (a.toUInt32 >>> (b.toUInt32 &&& Int32.toUInt32 31)).toInt32) pc lo st w c s
  | .iand => fun call rg ks L nL Rc Rs x pc lo st w c s => kand ks pc lo st w c s
  | .i2b => fun call rg ks L nL Rc Rs x pc lo st w c s => kun (fun a => a.toInt8.toInt32) pc lo st w c s
  | .dup => fun call rg ks L nL Rc Rs x pc lo st w c s => kdup pc lo st w c s
  | .dup2 => fun call rg ks L nL Rc Rs x pc lo st w c s => kdup2 pc lo st w c s
  | .pop => fun call rg ks L nL Rc Rs x pc lo st w c s => kpop pc lo st w c s
  | .goto off => fun call rg ks L nL Rc Rs x pc lo st w c s => (match ktg pc off with
    | some t => some (t, lo, st, w, c, s)
    | none => none)
  | .ifCond cnd off => fun call rg ks L nL Rc Rs x pc lo st w c s => kif rg cnd off pc lo st w c s
  | .if_icmp cnd off => fun call rg ks L nL Rc Rs x pc lo st w c s => kicmp rg cnd off pc lo st w c s
  | .if_acmp cnd off => fun call rg ks L nL Rc Rs x pc lo st w c s => kacmp cnd off pc lo st w c s
  | .tableswitch dflt lw hg offs => fun call rg ks L nL Rc Rs x pc lo st w c s => ksw rg dflt lw hg offs pc lo st w c s
  | .getfield _ => fun call rg ks L nL Rc Rs x pc lo st w c s => kgetf x.1 x.2.1 pc lo st w c s
  | .putfield _ => fun call rg ks L nL Rc Rs x pc lo st w c s => kputf x.1 x.2.1 pc lo st w c s
  | .getstatic _ => fun call rg ks L nL Rc Rs x pc lo st w c s => some (pc + 3, lo, .inl (.ref (1000001 + x.1)) :: st, w, c, s)
  | .new _ => fun call rg ks L nL Rc Rs x pc lo st w c s => knew x.1 Rc Rs pc lo st w c s
  | .newarray _ => fun call rg ks L nL Rc Rs x pc lo st w c s => knewa false x.1 2 Rc Rs pc lo st w c s
  | .anewarray _ => fun call rg ks L nL Rc Rs x pc lo st w c s => knewa true x.1 3 Rc Rs pc lo st w c s
  | .arraylength => fun call rg ks L nL Rc Rs x pc lo st w c s => kalen L pc lo st w c s
  | .iaload => fun call rg ks L nL Rc Rs x pc lo st w c s => kald rg L (fun t => Nat.beq t 0) pc lo st w c s
  | .baload => fun call rg ks L nL Rc Rs x pc lo st w c s => kald rg 0 (fun t => Nat.beq t 2 || Nat.beq t 4) pc lo st w c s
  | .laload => fun call rg ks L nL Rc Rs x pc lo st w c s => klald pc lo st w c s
  | .aaload => fun call rg ks L nL Rc Rs x pc lo st w c s => kaald pc lo st w c s
  | .iastore => fun call rg ks L nL Rc Rs x pc lo st w c s => kast (fun t => Nat.beq t 0) (fun _ a => a) pc lo st w c s
  | .bastore => fun call rg ks L nL Rc Rs x pc lo st w c s => kast (fun t => Nat.beq t 2 || Nat.beq t 4) (fun t a => bif Nat.beq t 2 then vp_nar .byte a else vp_nar .boolean a) pc lo st w c s
  | .lastore => fun call rg ks L nL Rc Rs x pc lo st w c s => klast pc lo st w c s
  | .aastore => fun call rg ks L nL Rc Rs x pc lo st w c s => kaast pc lo st w c s
  | .invokevirtual _ => fun call rg ks L nL Rc Rs x pc lo st w c s => kcallV call Rc Rs x pc lo st w c s
  | .invokespecial _ => fun call rg ks L nL Rc Rs x pc lo st w c s => bif Nat.beq x.1 999999 then kobj pc lo st w c s else kcallV call Rc Rs (x.1, x.2.1, x.2.2.1, x.2.2.2.1, x.2.2.2.2 % 100) pc lo st w c s
  | .ldc _ => fun call rg ks L nL Rc Rs x pc lo st w c s => some (pc + 2, lo, .inl (.int (Int32.ofNat x.1)) :: st, w, c, s)
  | .ldc_w _ => fun call rg ks L nL Rc Rs x pc lo st w c s => some (pc + 3, lo, .inl (.int (Int32.ofNat x.1)) :: st, w, c, s)
  | .invokestatic _ => fun call rg ks L nL Rc Rs x pc lo st w c s => bif Nat.beq x.1 999998 then kmin rg Rc Rs pc lo st w c s else bif Nat.beq x.1 999997 then kcopy pc lo st w c s else kcallS call Rc Rs x pc lo st w c s
  | _ => fun _ _ _ _ _ _ _ _ _ _ _ _ _ _ => none
def kend : Instr → Bool
  | .ireturn => true
  | .return_ => true
  | .lreturn => true
  | .areturn => true
  | _ => false
/-- what stands from a place on -/
def kfrom : List KEnt → Nat → List KEnt
  | [], _ => []
  | e :: l, pc => bif Nat.beq e.1 pc then e :: l else kfrom l pc
theorem kfrom_sub {l : List KEnt} {pc : Nat} : ∀ e ∈ kfrom l pc, e ∈ l := by
  induction l with
  | nil => intro e h; cases h
  | cons q l ih =>
    intro e h
    unfold kfrom at h
    cases q1 : Nat.beq q.1 pc with
    | true => rw [q1] at h; exact h
    | false => rw [q1] at h; exact List.mem_cons_of_mem _ (ih e h)
def krun (call : Nat → List KV → KW → Option (Option KV × KW)) (rg : List (Int × Int)) (ks : Option Int32) (L nL Rc Rs : Nat) (prog : List KEnt) : Nat → List KEnt → KF → Option (Instr × KF)
  | 0, _, _ => none
  | n + 1, cur, (pc, lo, st, w, c, s) => match cur with
    | [] => (match kfrom prog pc with
      | [] => none
      | e :: l => krun call rg ks L nL Rc Rs prog n (e :: l) (pc, lo, st, w, c, s))
    | e :: l => bif Nat.beq e.1 pc then
        (bif kend e.2.1 then some (e.2.1, pc, lo, st, w, c, s) else match kdo e.2.1 call rg ks L nL Rc Rs e.2.2 pc lo st w c s with
        | none => none
        | some k => krun call rg ks L nL Rc Rs prog n l k)
      else krun call rg ks L nL Rc Rs prog n [] (pc, lo, st, w, c, s)
def kargs : Nat → List KV → List (Nat × KV)
  | _, [] => []
  | i, v :: vs => (i, v) :: kargs (if kcat v = 2 then i + 2 else i + 1) vs
/-- an answer: none for void -/
def kret (ret : Option FieldType) (ig : Instr) (st : List KV) : Option (Option KV) := match ig with
  | .return_ => match ret, st with
    | none, [] => some none
    | _, _ => none
  | .ireturn => match ret, st with
    | some .int, [v] => bif kisI v then some (some v) else none
    | some .boolean, [.inl (.int x)] => bif decide (x = 0) || decide (x = 1) then some (some (.inl (.int x))) else none
    | _, _ => none
  | _ => none
def kfuel : Nat := 1000000
def kcall (ms : List KMeth) (rg : List (Int × Int)) (ks : Option Int32) : Nat → Nat → List KV → KW → Option (Option KV × KW)
  | 0, _, _, _ => none
  | d + 1, mid, args, w => match ms[mid]? with
    | none => none
    | some (_, _, maxL, ret, mc, mslots, prog) => bif Nat.ble (kcats args) maxL && Nat.blt (kfr 0 w) 1000000 then
        (match krun (kcall ms rg ks d) rg ks 0 maxL mc mslots prog kfuel prog (0, kargs 0 args, [], w, 0, 0) with
        | some (ig, _, _, st, w', c, s) => bif Nat.ble c mc && Nat.ble s mslots then (match kret ret ig st with
          | some r => some (r, w')
          | none => none) else none
        | none => none) else none
