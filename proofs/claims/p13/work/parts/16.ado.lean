/-! One step over abstract states: the states that can follow. -/
/-- the next unknown, ranges, facts, locals, stack, known places, bounds of the cells and slots that were made -/
abbrev AS : Type := Nat × RG × List LF × List (Nat × AV) × List AV × TC × LF × LF
def alook : List (Nat × AV) → Nat → Option AV
  | [], _ => none
  | q :: l, j => bif Nat.beq q.1 j then some q.2 else alook l j
def aisI : AV → Bool
  | .inl _ => true
  | .inr _ => false
def aisG : AV → Bool
  | .inl _ => false
  | .inr q => Nat.beq q.1 1
def aisQ : AV → Bool
  | .inl _ => false
  | .inr q => Nat.ble 2 q.1
def adel (i : Nat) : List (Nat × AV) → List (Nat × AV)
  | [] => []
  | q :: l => bif Nat.beq q.1 i then adel i l else q :: adel i l
def adel2 (i : Nat) (lo : List (Nat × AV)) : List (Nat × AV) := match i with
  | 0 => lo
  | j + 1 => (match alook lo j with
    | some a => bif Nat.beq (acat a) 2 then adel j lo else lo
    | none => lo)
def ast1 (i : Nat) (a : AV) (lo : List (Nat × AV)) : List (Nat × AV) := (i, a) :: adel i (adel2 i lo)
def ast2 (i : Nat) (a : AV) (lo : List (Nat × AV)) : List (Nat × AV) := (i, a) :: adel (i + 1) (adel i (adel2 i lo))
def anorm (n : Nat) (rg : RG) (f : LF) : Nat × RG × LF := bif l32 rg f then (n, rg, f) else (n + 1, (n, (-2147483648, 2147483647)) :: rg, lfv n)
/-- 0: = 0; 1: not; 2: at least 0; 3: less; 4: greater; 5: at most -/
def aas (k : Nat) (d : LF) (rg : RG) (cs : List LF) : Option (RG × List LF) := match k with
  | 0 => (match lasm rg cs d with
    | some q => lasm q.1 q.2 (lfneg d)
    | none => none)
  | 1 => (match d.2 with
    | [] => bif iz d.1 then none else some (rg, cs)
    | _ => (let rg' := lne rg d
      bif lbad rg' then none else some (rg', cs)))
  | 2 => lasm rg cs d
  | 3 => lasm rg cs (lfadd (lfneg d) (lfc (-1)))
  | 4 => lasm rg cs (lfadd d (lfc (-1)))
  | 5 => lasm rg cs (lfneg d)
  | _ => some (rg, cs)
def acT (cnd : Jvm.ClassFile.Cond) : Nat := match cnd with
  | .eq => 0 | .ne => 1 | .lt => 3 | .ge => 2 | .gt => 4 | .le => 5
def acF (cnd : Jvm.ClassFile.Cond) : Nat := match cnd with
  | .eq => 1 | .ne => 0 | .lt => 2 | .ge => 3 | .gt => 5 | .le => 4
/-- the states of a fact: one or none -/
def aone (pc : Nat) (n : Nat) (q : Option (RG × List LF)) (lo : List (Nat × AV)) (st : List AV) (tc : TC) (cB sB : LF) : List (Nat × AS) := match q with
  | some q => [(pc, n, q.1, q.2, lo, st, tc, cB, sB)]
  | none => []
def abr (cnd : Jvm.ClassFile.Cond) (off : Int) (x y : LF) (pc n : Nat) (rg : RG) (cs : List LF) (lo : List (Nat × AV)) (st : List AV) (tc : TC) (cB sB : LF) : Option (List (Nat × AS)) := match ktg pc off with
  | some t => bif l32 rg x && l32 rg y then (let d := lfsub x y
      some (aone t n (aas (acT cnd) d rg cs) lo st tc cB sB ++ aone (pc + 3) n (aas (acF cnd) d rg cs) lo st tc cB sB))
    else some [(t, n, rg, cs, lo, st, tc, cB, sB), (pc + 3, n, rg, cs, lo, st, tc, cB, sB)]
  | none => none
def atget : TC → Nat → LF → Option AV
  | [], _, _ => none
  | q :: l, a, k => bif Nat.beq q.1.1 a && lfeq q.1.2 k then some q.2 else atget l a k
/-- a place outside of some -/
def aout (rg : RG) (key : LF) (lo hi : Int) : Bool := (match lub rg key with
  | some b => !ile lo b
  | none => false) || (match lub rg (lfneg key) with
  | some a => !ile (- a) hi
  | none => false)
/-- without the places of a label, of a kind -/
def atdelA (rg : RG) (a : Nat) (f : LF) (lo hi : Int) : TC → TC
  | [] => []
  | q :: l => bif Nat.beq q.1.1 a && !(aout rg q.1.2 lo hi || lfne q.1.2 f) then atdelA rg a f lo hi l else q :: atdelA rg a f lo hi l
def atdelT (E : TEnv) (rg : RG) (t : Nat) (lo hi : Int) : TC → TC
  | [] => []
  | q :: l => bif Nat.beq (E.2.1 q.1.1) t && !aout rg q.1.2 lo hi then atdelT E rg t lo hi l else q :: atdelT E rg t lo hi l
def atdelM (E : TEnv) (rg : RG) (ms : MOD) : TC → TC
  | [] => []
  | q :: l => bif ms.any (fun r => Nat.beq r.1 (E.2.1 q.1.1) && !aout rg q.1.2 r.2.1 r.2.2) then atdelM E rg ms l else q :: atdelM E rg ms l
/-- a value of a kind, newly looked at -/
def aval (n : Nat) (rg : RG) (t : VT) : Nat × RG × AV := match t.1 with
  | 0 => bif iz (t.2.2 - t.2.1) then (n, rg, .inl (lfc t.2.1)) else (n + 1, (n, (t.2.1, t.2.2)) :: rg, .inl (lfv n))
  | _ => (n, rg, .inr (t.1, t.2.1.toNat))
/-- what an abstract value's kind is -/
def avt (rg : RG) : AV → VT
  | .inl f => (match lub rg f, lub rg (lfneg f) with
    | some b, some a => (0, - a, b)
    | _, _ => (8, 0, 0))
  | .inr q => (q.1, (q.2 : Int), 0)
/-- whether a value may stand in a place of a kind -/
def afit (E : TEnv) (rg : RG) (a : AV) (t : VT) : Bool := match a with
  | .inl f => bif l32 rg f then vsub E (avt rg (.inl f)) t else Nat.beq t.1 0 && (ile t.2.1 (-2147483648) && ile 2147483647 t.2.2)
  | .inr q => vsub E (q.1, (q.2 : Int), 0) t
/-- the kind of a receiver's label, and the label where it is known -/
def arec (E : TEnv) : AV → Option (Nat × Option Nat)
  | .inl _ => none
  | .inr q => match q.1 with
    | 2 => bif Nat.blt q.2 E.1 then some (E.2.1 q.2, some q.2) else none
    | 3 => bif Nat.blt q.2 60 then some (q.2, none) else none
    | _ => none
def agetf (E : TEnv) (ci k : Nat) (pc n : Nat) (rg : RG) (cs : List LF) (lo : List (Nat × AV)) (st : List AV) (tc : TC) (cB sB : LF) : Option (List (Nat × AS)) := match st with
  | r :: rest => bif Nat.beq ci 99 then (match r with
      | .inr (3, 60) => some [(pc + 3, n, rg, cs, lo, .inr (1, 0) :: rest, tc, cB, sB)]
      | _ => none)
    else (match arec E r with
    | some (t, oa) => bif Nat.beq (E.2.2 t).1.1 9 && (Nat.beq (E.2.2 t).1.2.1 ci && Nat.blt k (E.2.2 t).1.2.2) then
        (match oa with
        | some a => (match atget tc a (lfc (k : Int)) with
          | some v => some [(pc + 3, n, rg, cs, lo, v :: rest, tc, cB, sB)]
          | none => (match aval n rg (ksg (E.2.2 t).2 k) with
            | (n', rg', v) => some [(pc + 3, n', rg', cs, lo, v :: rest, ((a, lfc (k : Int)), v) :: tc, cB, sB)]))
        | none => (match aval n rg (ksg (E.2.2 t).2 k) with
            | (n', rg', v) => some [(pc + 3, n', rg', cs, lo, v :: rest, tc, cB, sB)])) else none
    | none => none)
  | _ => none
/-- a kind of which no told row is -/
def aqout (E : TEnv) (ph : PHI) (t : Nat) : Bool := ph.all (fun p => !Nat.beq (E.2.1 p.2.1) t)
/-- a form as a record's place: base + stride * r + o -/
def adec (f : LF) (b st : Nat) : Option (LF × Nat) := (fun o : Int => (fun r : LF => bif lfeq f (lfadd (lfmul (st : Int) r) (lfc ((b : Int) + (o.toNat : Int)))) && Nat.blt o.toNat st then some (r, o.toNat) else none) ((f.1 - (b : Int) - o) / (st : Int), f.2.map (fun t => (t.1, t.2 / (st : Int))))) ((f.1 - (b : Int)) % (st : Int))
/-- whether a write touches a told row -/
def aqhit (E : TEnv) (t : Nat) (oa : Option Nat) (l h : Int) (f : LF) (q : QI) : Bool := Nat.beq (E.2.1 q.1) t && ((ile (q.2.1 : Int) h && !ile ((q.2.1 + q.2.2.1 * q.2.2.2.1 : Nat) : Int) l) && (match oa with
  | none => true
  | some a => Nat.beq a q.1 && (match adec f q.2.1 q.2.2.1 with
    | none => true
    | some d => q.2.2.2.2.any (fun al => al.any (fun z => Nat.beq z.1 d.2)))))
/-- whether a record is of one of its kinds, by what is known -/
def aqfold (rg : RG) (cs : List LF) (q : QI) (r : LF) (tc : TC) : Bool := q.2.2.2.2.any (fun al => al.all (fun z => match atget tc q.1 (lfadd (lfmul (q.2.2.1 : Int) r) (lfc ((q.2.1 + z.1 : Nat) : Int))) with
  | some (.inl g) => l32 rg g && lle rg cs (lfneg (lfadd (lfadd (lfc z.2.1) (lfmul z.2.2.1 r)) (lfmul z.2.2.2 g)))
  | _ => false))
/-- the marks behind a write -/
def aqw (E : TEnv) (ph : PHI) (rg : RG) (cs : List LF) (t : Nat) (oa : Option Nat) (l h : Int) (f : LF) (tc : TC) : Option TC := match ph.filter (fun p => aqhit E t oa l h f p.2) with
  | [] => some tc
  | [p] => (match oa, adec f p.2.2.1 p.2.2.2.1 with
    | some _, some d => bif Nat.ble 2000000 p.1 && tc.all (fun e => Nat.blt e.1.1 2000000 || Nat.beq e.1.1 p.1 && lfeq e.1.2 d.1) then
        some (bif aqfold rg cs p.2 d.1 tc then tc.filter (fun e => Nat.blt e.1.1 2000000) else ((p.1, d.1), .inl (lfc 0)) :: tc) else none
    | _, _ => none)
  | _ => none
def amods (ms : MOD) (t : Nat) (lo hi : Int) : Bool := ms.any (fun q => Nat.beq q.1 t && (ile q.2.1 lo && ile hi q.2.2))
def aputf (E : TEnv) (ms : MOD) (ph : PHI) (ci k : Nat) (ty : FieldType) (pc n : Nat) (rg : RG) (cs : List LF) (lo : List (Nat × AV)) (st : List AV) (tc : TC) (cB sB : LF) : Option (List (Nat × AS)) := match st with
  | v :: r :: rest => (match arec E r with
    | some (t, oa) => bif Nat.beq (E.2.2 t).1.1 9 && (Nat.beq (E.2.2 t).1.2.1 ci && (Nat.blt k (E.2.2 t).1.2.2 && (afit E rg v (ksg (E.2.2 t).2 k) && (amods ms t k k && (aqout E ph t && (match ty with
        | .int => aisI v
        | .boolean => afit E rg v (0, 0, 1)
        | .long => aisG v
        | .object _ => aisQ v
        | .array _ => aisQ v
        | _ => false)))))) then
        (match oa with
        | some a => some [(pc + 3, n, rg, cs, lo, rest, ((a, lfc (k : Int)), v) :: atdelA rg a (lfc (k : Int)) k k tc, cB, sB)]
        | none => some [(pc + 3, n, rg, cs, lo, rest, atdelT E rg t k k tc, cB, sB)]) else none
    | none => none)
  | _ => none
/-- an index' bounds, where it lies within a row -/
def aidx (rg : RG) (cs : List LF) (f : LF) (n : Nat) : Option (Int × Int) := match lub rg f, lub rg (lfneg f) with
  | some b, some a => bif l32 rg f && (lle rg cs (lfneg f) && lle rg cs (lfadd f (lfc (1 - (n : Int))))) then some ((bif ile 0 (- a) then - a else 0), (bif ile b ((n : Int) - 1) then b else (n : Int) - 1)) else none
  | _, _ => none
/-- a kind over those of a row's part -/
def auni (E : TEnv) (lo hi : Int) : List (Nat × VT) → Option VT
  | [] => none
  | q :: l => match l with
    | [] => some q.2
    | r :: _ => bif ile r.1 lo then auni E lo hi l else bif ile r.1 hi then (match auni E lo hi l with
      | some u => (match u.1 with
        | 0 => some (0, (bif ile q.2.2.1 u.2.1 then q.2.2.1 else u.2.1), (bif ile u.2.2 q.2.2.2 then q.2.2.2 else u.2.2))
        | 2 => some (3, (E.2.1 u.2.1.toNat : Int), 0)
        | _ => some u)
      | none => none) else some q.2
def aldx (E : TEnv) (hd : Nat) (ok : Nat → Bool) (pc n : Nat) (rg : RG) (cs : List LF) (lo : List (Nat × AV)) (st : List AV) (tc : TC) (cB sB : LF) : Option (List (Nat × AS)) := match st with
  | .inl f :: r :: rest => (match arec E r with
    | some (t, oa) => bif Nat.beq (E.2.2 t).1.1 hd && ok (E.2.2 t).1.2.1 then
        (match aidx rg cs f (E.2.2 t).1.2.2 with
        | some (l, h) => (match auni E l h (E.2.2 t).2 with
          | some u => bif ksall l h (fun x => vsub E x u) (E.2.2 t).2 then
              (match aval n rg u with
              | (n', rg', v) => (match oa with
                | some a => (match atget tc a f with
                  | some v0 => some [(pc + 1, n, rg, cs, lo, v0 :: rest, tc, cB, sB)]
                  | none => some [(pc + 1, n', rg', cs, lo, v :: rest, ((a, f), v) :: tc, cB, sB)])
                | none => some [(pc + 1, n', rg', cs, lo, v :: rest, tc, cB, sB)])) else none
          | none => none)
        | none => none) else none
    | none => none)
  | _ => none
/-- nar: whether what is written is made smaller; then only what is known, or a place of any int -/
def astx (E : TEnv) (ms : MOD) (ph : PHI) (hd : Nat) (ok : Nat → Bool) (nar : Nat → Int32 → Int32) (pc n : Nat) (rg : RG) (cs : List LF) (lo : List (Nat × AV)) (st : List AV) (tc : TC) (cB sB : LF) : Option (List (Nat × AS)) := match st with
  | v :: .inl f :: r :: rest => (match arec E r with
    | some (t, oa) => bif Nat.beq (E.2.2 t).1.1 hd && ok (E.2.2 t).1.2.1 then
        (match aidx rg cs f (E.2.2 t).1.2.2 with
        | some (l, h) => (match (match hd with
            | 0 => bif Nat.beq (E.2.2 t).1.2.1 0 then some v else (match v with
              | .inl g => (match g.2 with
                | [] => some (.inl (lfc (nar (E.2.2 t).1.2.1 (Int32.ofInt g.1)).toInt))
                | _ => bif ksall l h (fun x => Nat.beq x.1 0 && (ile x.2.1 (-2147483648) && ile 2147483647 x.2.2)) (E.2.2 t).2 then some (.inr (9, 0)) else none)
              | _ => none)
            | _ => some v) with
          | some v' => bif (match v' with
              | .inr (9, _) => true
              | _ => ksall l h (afit E rg v') (E.2.2 t).2) && ((match hd with
              | 0 => aisI v
              | 1 => aisG v
              | _ => false) && amods ms t l h) then
              (match aqw E ph rg cs t oa l h f (match oa, v' with
              | some a, .inr (9, _) => atdelA rg a f l h tc
              | some a, v' => ((a, f), v') :: atdelA rg a f l h tc
              | none, _ => atdelT E rg t l h tc) with
              | some tc' => some [(pc + 1, n, rg, cs, lo, rest, tc', cB, sB)]
              | none => none) else none
          | none => none)
        | none => none) else none
    | none => none)
  | _ => none
def aswc (f : LF) (pc n : Nat) (rg : RG) (cs : List LF) (lo : List (Nat × AV)) (st : List AV) (tc : TC) (cB sB : LF) : Int → List Int → Option (List (Nat × AS))
  | _, [] => some []
  | z, off :: l => match ktg pc off, aswc f pc n rg cs lo st tc cB sB (z + 1) l with
    | some t, some L => some (aone t n (aas 0 (lfadd f (lfc (- z))) rg cs) lo st tc cB sB ++ L)
    | _, _ => none
def asw (dflt lw hg : Int) (offs : List Int) (pc n : Nat) (rg : RG) (cs : List LF) (lo : List (Nat × AV)) (st : List AV) (tc : TC) (cB sB : LF) : Option (List (Nat × AS)) := match st with
  | .inl f :: rest => bif l32 rg f && decide (hg = lw + (offs.length : Int) - 1) then (match ktg pc dflt, aswc f pc n rg cs lo rest tc cB sB lw offs with
      | some t, some L => some (aone t n (aas 3 (lfadd f (lfc (- lw))) rg cs) lo rest tc cB sB ++ (aone t n (aas 4 (lfadd f (lfc (- hg))) rg cs) lo rest tc cB sB ++ L))
      | _, _ => none) else none
  | _ => none
def aword : AV → Bool
  | .inl _ => false
  | .inr q => match q.1 with
    | 2 => Nat.ble 1000000 q.2
    | 3 => Nat.ble 60 q.2
    | 4 => Nat.ble 60 q.2
    | 5 => true
    | _ => false
def aacmp (off : Int) (pc n : Nat) (rg : RG) (cs : List LF) (lo : List (Nat × AV)) (st : List AV) (tc : TC) (cB sB : LF) : Option (List (Nat × AS)) := match st with
  | y :: x :: rest => bif aword x && aword y then (match ktg pc off with
    | some t => some [(t, n, rg, cs, lo, rest, tc, cB, sB), (pc + 3, n, rg, cs, lo, rest, tc, cB, sB)]
    | none => none) else none
  | _ => none
def aifnn (off : Int) (pc n : Nat) (rg : RG) (cs : List LF) (lo : List (Nat × AV)) (st : List AV) (tc : TC) (cB sB : LF) : Option (List (Nat × AS)) := match st with
  | x :: rest => bif aisQ x then (match ktg pc off with
    | some t => some [(t, n, rg, cs, lo, rest, tc, cB, sB), (pc + 3, n, rg, cs, lo, rest, tc, cB, sB)]
    | none => none) else none
  | _ => none
/-- an int of a range, newly -/
def anew (lo hi : Int) (n : Nat) (rg : RG) : RG := (n, (lo, hi)) :: rg
def aint (len : Nat) (lo' hi' : Int) (pc n : Nat) (rg : RG) (cs : List LF) (lo : List (Nat × AV)) (rest : List AV) (tc : TC) (cB sB : LF) : Option (List (Nat × AS)) := some [(pc + len, n + 1, anew lo' hi' n rg, cs, lo, .inl (lfv n) :: rest, tc, cB, sB)]
def aform (len : Nat) (f : LF) (pc n : Nat) (rg : RG) (cs : List LF) (lo : List (Nat × AV)) (rest : List AV) (tc : TC) (cB sB : LF) : Option (List (Nat × AS)) := match anorm n rg f with
  | (n', rg', g) => some [(pc + len, n', rg', cs, lo, .inl g :: rest, tc, cB, sB)]
/-- kinds of two-place operations: 0 +, 1 -, 2 *, 3 &, 4 the shift of an unsigned one, else any -/
def aop2 (k : Nat) (f : Int32 → Int32 → Int32) (pc n : Nat) (rg : RG) (cs : List LF) (lo : List (Nat × AV)) (st : List AV) (tc : TC) (cB sB : LF) : Option (List (Nat × AS)) := match st with
  | .inl y :: .inl x :: rest => (match x.2, y.2 with
    | [], [] => some [(pc + 1, n, rg, cs, lo, .inl (lfc (f (Int32.ofInt x.1) (Int32.ofInt y.1)).toInt) :: rest, tc, cB, sB)]
    | _, yt => (match k with
      | 0 => aform 1 (lfadd x y) pc n rg cs lo rest tc cB sB
      | 1 => aform 1 (lfsub x y) pc n rg cs lo rest tc cB sB
      | 2 => (match yt with
        | [] => aform 1 (lfmul y.1 x) pc n rg cs lo rest tc cB sB
        | _ => (match x.2 with
          | [] => aform 1 (lfmul x.1 y) pc n rg cs lo rest tc cB sB
          | _ => aint 1 (-2147483648) 2147483647 pc n rg cs lo rest tc cB sB))
      | 3 => (match yt with
        | [] => bif ile 0 y.1 && ile y.1 2147483647 then aint 1 0 y.1 pc n rg cs lo rest tc cB sB else aint 1 (-2147483648) 2147483647 pc n rg cs lo rest tc cB sB
        | _ => aint 1 (-2147483648) 2147483647 pc n rg cs lo rest tc cB sB)
      | 4 => (match yt with
        | [] => bif ile 1 y.1 && ile y.1 31 then aint 1 0 2147483647 pc n rg cs lo rest tc cB sB else aint 1 (-2147483648) 2147483647 pc n rg cs lo rest tc cB sB
        | _ => aint 1 (-2147483648) 2147483647 pc n rg cs lo rest tc cB sB)
      | _ => aint 1 (-2147483648) 2147483647 pc n rg cs lo rest tc cB sB))
  | _ => none
def aop1 (f : Int32 → Int32) (pc n : Nat) (rg : RG) (cs : List LF) (lo : List (Nat × AV)) (st : List AV) (tc : TC) (cB sB : LF) : Option (List (Nat × AS)) := match st with
  | .inl x :: rest => (match x.2 with
    | [] => some [(pc + 1, n, rg, cs, lo, .inl (lfc (f (Int32.ofInt x.1)).toInt) :: rest, tc, cB, sB)]
    | _ => aint 1 (-2147483648) 2147483647 pc n rg cs lo rest tc cB sB)
  | _ => none
def arem (pc n : Nat) (rg : RG) (cs : List LF) (lo : List (Nat × AV)) (st : List AV) (tc : TC) (cB sB : LF) : Option (List (Nat × AS)) := match st with
  | .inl y :: .inl x :: rest => bif l32 rg x && (l32 rg y && lle rg cs (lfadd (lfneg y) (lfc 1))) then
      (bif lle rg cs (lfneg x) then (match lub rg y with
        | some b => some [(pc + 1, n + 1, (n, (0, b - 1)) :: rg, lfadd (lfadd y (lfneg (lfv n))) (lfc (-1)) :: cs, lo, .inl (lfv n) :: rest, tc, cB, sB)]
        | none => none) else aint 1 (-2147483648) 2147483647 pc n rg cs lo rest tc cB sB) else none
  | _ => none
def lex (n : Nat) : Bool := Nat.ble 2 n && Nat.blt (n - 2) lBig
def lenc (m : Nat) : Nat := bif Nat.blt m lBig then m + 2 else 0
def lbd (n : Nat) : Option Nat := bif Nat.ble (lBig + 2) n then some (n - 2 - lBig) else none
/-- two longs: k 0 +, 1 -, 2 * -/
def aL2 (k : Nat) (pc n : Nat) (rg : RG) (cs : List LF) (lo : List (Nat × AV)) (st : List AV) (tc : TC) (cB sB : LF) : Option (List (Nat × AS)) := match st with
  | .inr (1, y) :: .inr (1, x) :: rest => some [(pc + 1, n, rg, cs, lo, .inr (1, bif lex x && lex y then (match k with
      | 0 => lenc ((x - 2) + (y - 2))
      | 1 => bif Nat.ble y x then lenc ((x - 2) - (y - 2)) else 0
      | 2 => lenc ((x - 2) * (y - 2))
      | _ => 0) else 0) :: rest, tc, cB, sB)]
  | _ => none
/-- a word of those against one that is none of them -/
def aLS (x y : Nat) : Bool := Nat.beq x 1 && (lex y && kLS.any (fun z => decide (z = Int64.ofNat (y - 2))))
/-- less by its bound -/
def aLB (x y : Nat) : Bool := match lbd x with
  | some b => lex y && (Nat.ble (27 ^ b) (y - 2) && Nat.blt (y - 2) 9223372036854775808)
  | none => false
def acmpL (pc n : Nat) (rg : RG) (cs : List LF) (lo : List (Nat × AV)) (st : List AV) (tc : TC) (cB sB : LF) : Option (List (Nat × AS)) := match st with
  | .inr (1, y) :: .inr (1, x) :: rest => bif lex x && lex y then some [(pc + 1, n, rg, cs, lo, .inl (lfc (lg_cmp (Int64.ofNat (x - 2)) (Int64.ofNat (y - 2))).toInt) :: rest, tc, cB, sB)]
    else bif aLS x y || aLS y x then some [(pc + 1, n, rg, cs, lo, .inl (lfc (-1)) :: rest, tc, cB, sB), (pc + 1, n, rg, cs, lo, .inl (lfc 1) :: rest, tc, cB, sB)]
    else bif aLB x y then some [(pc + 1, n, rg, cs, lo, .inl (lfc (-1)) :: rest, tc, cB, sB)]
    else aint 1 (-2147483648) 2147483647 pc n rg cs lo rest tc cB sB
  | _ => none
/-- by 27: what is less than a power of 27 -/
def aldv (pc n : Nat) (rg : RG) (cs : List LF) (lo : List (Nat × AV)) (st : List AV) (tc : TC) (cB sB : LF) : Option (List (Nat × AS)) := match st with
  | .inr (1, 29) :: .inr (1, x) :: rest => some [(pc + 1, n, rg, cs, lo, .inr (1, bif lex x && Nat.blt (x - 2) 9223372036854775808 then lenc ((x - 2) / 27) else match lbd x with
      | some (b + 1) => lBig + b + 2
      | _ => lBig + 13 + 2) :: rest, tc, cB, sB)]
  | _ => none
def alrm (pc n : Nat) (rg : RG) (cs : List LF) (lo : List (Nat × AV)) (st : List AV) (tc : TC) (cB sB : LF) : Option (List (Nat × AS)) := match st with
  | .inr (1, 29) :: .inr (1, _) :: rest => some [(pc + 1, n, rg, cs, lo, .inr (1, 0) :: rest, tc, cB, sB)]
  | _ => none
def alsr (pc n : Nat) (rg : RG) (cs : List LF) (lo : List (Nat × AV)) (st : List AV) (tc : TC) (cB sB : LF) : Option (List (Nat × AS)) := match st with
  | .inl _ :: .inr (1, _) :: rest => some [(pc + 1, n, rg, cs, lo, .inr (1, 0) :: rest, tc, cB, sB)]
  | _ => none
def ai2l (pc n : Nat) (rg : RG) (cs : List LF) (lo : List (Nat × AV)) (st : List AV) (tc : TC) (cB sB : LF) : Option (List (Nat × AS)) := match st with
  | .inl f :: rest => some [(pc + 1, n, rg, cs, lo, .inr (1, match f.2 with
      | [] => bif ile 0 f.1 && ile f.1 2147483647 then lenc f.1.toNat else 0
      | _ => 0) :: rest, tc, cB, sB)]
  | _ => none
def al2i (pc n : Nat) (rg : RG) (cs : List LF) (lo : List (Nat × AV)) (st : List AV) (tc : TC) (cB sB : LF) : Option (List (Nat × AS)) := match st with
  | .inr (1, x) :: rest => bif lex x then some [(pc + 1, n, rg, cs, lo, .inl (lfc (Int64.ofNat (x - 2)).toInt32.toInt) :: rest, tc, cB, sB)] else aint 1 (-2147483648) 2147483647 pc n rg cs lo rest tc cB sB
  | _ => none
def alk (dflt : Int) (pc : Nat) (n : Nat) (rg : RG) (cs : List LF) (lo : List (Nat × AV)) (f : LF) (st : List AV) (tc : TC) (cB sB : LF) : List (Int × Int) → Option (List (Nat × AS))
  | [] => (match ktg pc dflt with
    | some t => some [(t, n, rg, cs, lo, st, tc, cB, sB)]
    | none => none)
  | p :: l => (match ktg pc p.2, alk dflt pc n rg cs lo f st tc cB sB l with
    | some t, some L => some (aone t n (aas 0 (lfadd f (lfc (- p.1))) rg cs) lo st tc cB sB ++ L)
    | _, _ => none)
def amx (Rc Rs : Nat) (tk fk : Nat) (pc n : Nat) (rg : RG) (cs : List LF) (lo : List (Nat × AV)) (st : List AV) (tc : TC) (cB sB : LF) : Option (List (Nat × AS)) := match st with
  | .inl y :: .inl x :: rest => bif l32 rg x && (l32 rg y && (lb0 rg (lfadd cB (lfc (- (Rc : Int)))) && (lb0 rg (lfadd sB (lfc (- (Rs : Int)))) && Nat.ble ((rest.map acat).sum) 8))) then (let d := lfsub x y
      some (aone (pc + 3) n (aas tk d rg cs) lo (.inl y :: rest) tc cB sB ++ aone (pc + 3) n (aas fk d rg cs) lo (.inl x :: rest) tc cB sB)) else none
  | _ => none
def aabs (Rc Rs : Nat) (pc n : Nat) (rg : RG) (cs : List LF) (lo : List (Nat × AV)) (st : List AV) (tc : TC) (cB sB : LF) : Option (List (Nat × AS)) := match st with
  | .inl x :: rest => bif l32 rg x && (lb0 rg (lfadd cB (lfc (- (Rc : Int)))) && (lb0 rg (lfadd sB (lfc (- (Rs : Int)))) && Nat.ble ((rest.map acat).sum) 8)) then
      aint 3 (-2147483648) 2147483647 pc n rg cs lo rest tc cB sB else none
  | _ => none
def acpy (E : TEnv) (ms : MOD) (ph : PHI) (pc n : Nat) (rg : RG) (cs : List LF) (lo : List (Nat × AV)) (st : List AV) (tc : TC) (cB sB : LF) : Option (List (Nat × AS)) := match st with
  | .inl c :: .inl dp :: r1 :: .inl sp :: r0 :: rest => (match c.2, dp.2, sp.2, arec E r0, arec E r1 with
    | [], [], [], some (t0, _), some (t1, _) => bif iz dp.1 && (iz sp.1 && (decide (c.1 = ((E.2.2 t0).1.2.2 : Int)) && (Nat.blt (E.2.2 t0).1.2.2 100000 && (Nat.beq (E.2.2 t0).1.2.2 (E.2.2 t1).1.2.2 && (Nat.beq (E.2.2 t0).1.2.1 (E.2.2 t1).1.2.1 && (Nat.beq (E.2.2 t0).1.1 (E.2.2 t1).1.1 && ((Nat.beq (E.2.2 t0).1.1 0 && Nat.beq (E.2.2 t0).1.2.1 0 || Nat.beq (E.2.2 t0).1.1 1 && Nat.beq (E.2.2 t0).1.2.1 1) && ((Nat.beq t0 t1 || (match (E.2.2 t0).2, (E.2.2 t1).2 with
          | [a], [b] => vsub E a.2 b.2
          | _, _ => false)) && (amods ms t1 0 (((E.2.2 t0).1.2.2 : Int) - 1) && (aqout E ph t1 && Nat.ble ((rest.map acat).sum) 8)))))))))) then
        some [(pc + 3, n, rg, cs, lo, rest, atdelT E rg t1 0 (((E.2.2 t0).1.2.2 : Int) - 1) tc, cB, sB)] else none
    | _, _, _, _, _ => none)
  | _ => none
def alen (E : TEnv) (sc : Bool) (pc n : Nat) (rg : RG) (cs : List LF) (lo : List (Nat × AV)) (st : List AV) (tc : TC) (cB sB : LF) : Option (List (Nat × AS)) := match st with
  | r :: rest => (match r with
    | .inr (2, 1000050) => some [(pc + 1, n, rg, cs, lo, .inl (lfc 30) :: rest, tc, cB, sB)]
    | .inr (2, 1000000) => bif sc then some [(pc + 1, n, rg, cs, lo, .inl (lfv 0) :: rest, tc, cB, sB)] else none
    | r => (match arec E r with
      | some (t, _) => bif Nat.ble (E.2.2 t).1.1 2 && (Nat.blt (E.2.2 t).1.2.1 7 && Nat.blt (E.2.2 t).1.2.2 100000) then some [(pc + 1, n, rg, cs, lo, .inl (lfc ((E.2.2 t).1.2.2 : Int)) :: rest, tc, cB, sB)] else none
      | none => none))
  | _ => none
def awld (E : TEnv) (pc n : Nat) (rg : RG) (cs : List LF) (lo : List (Nat × AV)) (st : List AV) (tc : TC) (cB sB : LF) : Option (List (Nat × AS)) := match st with
  | .inl f :: .inr (2, 1000050) :: rest => (match aidx rg cs f 30 with
    | some _ => some [(pc + 1, n, rg, cs, lo, .inr (3, 60) :: rest, tc, cB, sB)]
    | none => none)
  | st => aldx E 2 (fun t => Nat.beq t 5 || Nat.beq t 6) pc n rg cs lo st tc cB sB
/-- a place of the window: the second unknown and a number below 6 -/
def awin (f : LF) : Bool := match f.2 with
  | [q] => Nat.beq q.1 1 && (ile 1 q.2 && (ile q.2 1 && (ile 0 f.1 && ile f.1 5)))
  | _ => false
/-- the law's script: within the window its unknowns, else any int -/
def asld (E : TEnv) (sc : Bool) (pc n : Nat) (rg : RG) (cs : List LF) (lo : List (Nat × AV)) (st : List AV) (tc : TC) (cB sB : LF) : Option (List (Nat × AS)) := match st with
  | .inl f :: .inr (2, 1000000) :: rest => bif sc && (l32 rg f && (lle rg cs (lfneg f) && lle rg cs (lfadd (lfsub f (lfv 0)) (lfc 1)))) then (bif awin f then some [(pc + 1, n, rg, cs, lo, .inl (lfv (2 + f.1.toNat)) :: rest, tc, cB, sB)] else aint 1 (-2147483648) 2147483647 pc n rg cs lo rest tc cB sB) else none
  | st => aldx E 0 (fun t => Nat.beq t 0) pc n rg cs lo st tc cB sB
def asln (Rc Rs : Nat) (pc n : Nat) (rg : RG) (cs : List LF) (lo : List (Nat × AV)) (st : List AV) (tc : TC) (cB sB : LF) : Option (List (Nat × AS)) := match st with
  | .inr (2, a) :: rest => (match kstr a with
    | some l => bif lb0 rg (lfadd cB (lfc (- (Rc : Int)))) && (lb0 rg (lfadd sB (lfc (- (Rs : Int)))) && (Nat.ble ((rest.map acat).sum) 8 && Nat.blt l.length 100000)) then some [(pc + 3, n, rg, cs, lo, .inl (lfc (l.length : Int)) :: rest, tc, cB, sB)] else none
    | none => none)
  | _ => none
def aschr (Rc Rs : Nat) (pc n : Nat) (rg : RG) (cs : List LF) (lo : List (Nat × AV)) (st : List AV) (tc : TC) (cB sB : LF) : Option (List (Nat × AS)) := match st with
  | .inl f :: .inr (2, a) :: rest => (match kstr a with
    | some l => (match aidx rg cs f l.length with
      | some _ => bif lb0 rg (lfadd cB (lfc (- (Rc : Int)))) && (lb0 rg (lfadd sB (lfc (- (Rs : Int)))) && Nat.ble ((rest.map acat).sum) 8) then aint 3 (-2147483648) 2147483647 pc n rg cs lo rest tc cB sB else none
      | none => none)
    | none => none)
  | _ => none
def aload (ok : AV → Bool) (i len : Nat) (pc n : Nat) (rg : RG) (cs : List LF) (lo : List (Nat × AV)) (st : List AV) (tc : TC) (cB sB : LF) : Option (List (Nat × AS)) := match alook lo i with
  | some a => bif ok a then some [(pc + len, n, rg, cs, lo, a :: st, tc, cB, sB)] else none
  | none => none
def astore (ok : AV → Bool) (i len nL : Nat) (pc n : Nat) (rg : RG) (cs : List LF) (lo : List (Nat × AV)) (st : List AV) (tc : TC) (cB sB : LF) : Option (List (Nat × AS)) := match st with
  | a :: rest => bif ok a && Nat.blt i nL then some [(pc + len, n, rg, cs, ast1 i a lo, rest, tc, cB, sB)] else none
  | _ => none
def astore2 (i len nL : Nat) (pc n : Nat) (rg : RG) (cs : List LF) (lo : List (Nat × AV)) (st : List AV) (tc : TC) (cB sB : LF) : Option (List (Nat × AS)) := match st with
  | .inr (1, q) :: rest => bif Nat.blt (i + 1) nL then some [(pc + len, n, rg, cs, ast2 i (.inr (1, q)) lo, rest, tc, cB, sB)] else none
  | _ => none
def ainc (i : Nat) (z : Int) (nL : Nat) (pc n : Nat) (rg : RG) (cs : List LF) (lo : List (Nat × AV)) (st : List AV) (tc : TC) (cB sB : LF) : Option (List (Nat × AS)) := match alook lo i with
  | some (.inl f) => bif Nat.blt i nL then (match anorm n rg (lfadd f (lfc z)) with
    | (n', rg', g) => some [(pc + 3, n', rg', cs, ast1 i (.inl g) lo, st, tc, cB, sB)]) else none
  | _ => none
def ado (E : TEnv) (ms : MOD) (ph : PHI) (sc : Bool) (nL Rc Rs : Nat) (ig : Instr) (x : KX) (pc n : Nat) (rg : RG) (cs : List LF) (lo : List (Nat × AV)) (st : List AV) (tc : TC) (cB sB : LF) : Option (List (Nat × AS)) := match ig with
  | .iconst z => some [(pc + 1, n, rg, cs, lo, .inl (lfc (Int32.ofInt z).toInt) :: st, tc, cB, sB)]
  | .bipush z => some [(pc + 2, n, rg, cs, lo, .inl (lfc (Int8.ofInt z).toInt32.toInt) :: st, tc, cB, sB)]
  | .sipush z => some [(pc + 3, n, rg, cs, lo, .inl (lfc (Int16.ofInt z).toInt32.toInt) :: st, tc, cB, sB)]
  | .lconst z => some [(pc + 1, n, rg, cs, lo, .inr (1, lenc z.val) :: st, tc, cB, sB)]
  | .ldc2_w _ => some [(pc + 3, n, rg, cs, lo, .inr (1, lenc x.1) :: st, tc, cB, sB)]
  | .aconst_null => some [(pc + 1, n, rg, cs, lo, .inr (5, 0) :: st, tc, cB, sB)]
  | .ldc _ => bif Nat.beq x.2.1 1 then some [(pc + 2, n, rg, cs, lo, .inr (2, 1000200 + x.1) :: st, tc, cB, sB)] else some [(pc + 2, n, rg, cs, lo, .inl (lfc (Int32.ofNat x.1).toInt) :: st, tc, cB, sB)]
  | .ldc_w _ => some [(pc + 3, n, rg, cs, lo, .inl (lfc (Int32.ofNat x.1).toInt) :: st, tc, cB, sB)]
  | .getstatic _ => some [(pc + 3, n, rg, cs, lo, .inr (2, 1000001 + x.1) :: st, tc, cB, sB)]
  | .iload_n i => aload aisI i.val 1 pc n rg cs lo st tc cB sB
  | .iload i => aload aisI i 2 pc n rg cs lo st tc cB sB
  | .aload_n i => aload aisQ i.val 1 pc n rg cs lo st tc cB sB
  | .aload i => aload aisQ i 2 pc n rg cs lo st tc cB sB
  | .lload_n i => aload aisG i.val 1 pc n rg cs lo st tc cB sB
  | .lload i => aload aisG i 2 pc n rg cs lo st tc cB sB
  | .istore_n i => astore aisI i.val 1 nL pc n rg cs lo st tc cB sB
  | .istore i => astore aisI i 2 nL pc n rg cs lo st tc cB sB
  | .astore_n i => astore aisQ i.val 1 nL pc n rg cs lo st tc cB sB
  | .astore i => astore aisQ i 2 nL pc n rg cs lo st tc cB sB
  | .lstore_n i => astore2 i.val 1 nL pc n rg cs lo st tc cB sB
  | .lstore i => astore2 i 2 nL pc n rg cs lo st tc cB sB
  | .iinc i z => ainc i z nL pc n rg cs lo st tc cB sB
  | .iadd => aop2 0 (fun a b => a + b) pc n rg cs lo st tc cB sB
  | .isub => aop2 1 (fun a b => a - b) pc n rg cs lo st tc cB sB
  | .imul => aop2 2 (fun a b => a * b) pc n rg cs lo st tc cB sB
  | .iand => aop2 3 (fun a b => a &&& b) pc n rg cs lo st tc cB sB
  | .iushr => aop2 4 (fun a b => (a.toUInt32 >>> (b.toUInt32 &&& Int32.toUInt32 31)).toInt32) pc n rg cs lo st tc cB sB
  | .ishl => aop2 9 (fun a b => a <<< (b &&& 31)) pc n rg cs lo st tc cB sB
  | .ior => aop2 9 (fun a b => a ||| b) pc n rg cs lo st tc cB sB
  | .ixor => aop2 9 (fun a b => a ^^^ b) pc n rg cs lo st tc cB sB
  | .ishr => aop2 9 (fun a b => a >>> (b &&& 31)) pc n rg cs lo st tc cB sB
  | .ineg => (match st with
    | .inl f :: rest => aform 1 (lfneg f) pc n rg cs lo rest tc cB sB
    | _ => none)
  | .irem => arem pc n rg cs lo st tc cB sB
  | .i2b => aop1 (fun a => a.toInt8.toInt32) pc n rg cs lo st tc cB sB
  | .i2c => aop1 (fun a => (a.toUInt32 % 65536).toInt32) pc n rg cs lo st tc cB sB
  | .i2l => ai2l pc n rg cs lo st tc cB sB
  | .l2i => al2i pc n rg cs lo st tc cB sB
  | .ladd => aL2 0 pc n rg cs lo st tc cB sB
  | .lsub => aL2 1 pc n rg cs lo st tc cB sB
  | .lmul => aL2 2 pc n rg cs lo st tc cB sB
  | .ldiv => aldv pc n rg cs lo st tc cB sB
  | .lrem => alrm pc n rg cs lo st tc cB sB
  | .lushr => alsr pc n rg cs lo st tc cB sB
  | .lcmp => acmpL pc n rg cs lo st tc cB sB
  | .dup => (match st with
    | a :: rest => bif Nat.beq (acat a) 1 then some [(pc + 1, n, rg, cs, lo, a :: a :: rest, tc, cB, sB)] else none
    | _ => none)
  | .dup2 => (match st with
    | a :: b :: rest => bif Nat.beq (acat a) 1 && Nat.beq (acat b) 1 then some [(pc + 1, n, rg, cs, lo, a :: b :: a :: b :: rest, tc, cB, sB)] else none
    | _ => none)
  | .pop => (match st with
    | a :: rest => bif Nat.beq (acat a) 1 then some [(pc + 1, n, rg, cs, lo, rest, tc, cB, sB)] else none
    | _ => none)
  | .goto off => (match ktg pc off with
    | some t => some [(t, n, rg, cs, lo, st, tc, cB, sB)]
    | none => none)
  | .ifCond cnd off => (match st with
    | .inl f :: rest => abr cnd off f (lfc 0) pc n rg cs lo rest tc cB sB
    | _ => none)
  | .if_icmp cnd off => (match st with
    | .inl y :: .inl f :: rest => abr cnd off f y pc n rg cs lo rest tc cB sB
    | _ => none)
  | .if_acmp _ off => aacmp off pc n rg cs lo st tc cB sB
  | .ifnonnull off => aifnn off pc n rg cs lo st tc cB sB
  | .lookupswitch dflt ps => (match st with
    | .inl f :: rest => bif l32 rg f then alk dflt pc n rg cs lo f rest tc cB sB ps.toList else none
    | _ => none)
  | .tableswitch dflt lw hg offs => asw dflt lw hg offs.toList pc n rg cs lo st tc cB sB
  | .getfield _ => agetf E x.1 x.2.1 pc n rg cs lo st tc cB sB
  | .putfield _ => aputf E ms ph x.1 x.2.1 (kTy x.1 x.2.1) pc n rg cs lo st tc cB sB
  | .arraylength => alen E sc pc n rg cs lo st tc cB sB
  | .iaload => asld E sc pc n rg cs lo st tc cB sB
  | .baload => aldx E 0 (fun t => Nat.beq t 2 || Nat.beq t 4) pc n rg cs lo st tc cB sB
  | .caload => aldx E 0 (fun t => Nat.beq t 3) pc n rg cs lo st tc cB sB
  | .laload => aldx E 1 (fun t => Nat.beq t 1) pc n rg cs lo st tc cB sB
  | .aaload => awld E pc n rg cs lo st tc cB sB
  | .iastore => astx E ms ph 0 (fun t => Nat.beq t 0) (fun _ a => a) pc n rg cs lo st tc cB sB
  | .bastore => astx E ms ph 0 (fun t => Nat.beq t 2 || Nat.beq t 4) (fun t a => bif Nat.beq t 2 then vp_nar .byte a else vp_nar .boolean a) pc n rg cs lo st tc cB sB
  | .castore => astx E ms ph 0 (fun t => Nat.beq t 3) (fun _ a => vp_nar .char a) pc n rg cs lo st tc cB sB
  | .lastore => astx E ms ph 1 (fun t => Nat.beq t 1) (fun _ a => a) pc n rg cs lo st tc cB sB
  | .invokestatic _ => bif Nat.beq x.1 999998 then amx Rc Rs 4 5 pc n rg cs lo st tc cB sB else bif Nat.beq x.1 999996 then amx Rc Rs 3 2 pc n rg cs lo st tc cB sB else bif Nat.beq x.1 999995 then aabs Rc Rs pc n rg cs lo st tc cB sB else bif Nat.beq x.1 999997 then acpy E ms ph pc n rg cs lo st tc cB sB else none
  | .invokevirtual _ => bif Nat.beq x.1 999994 then asln Rc Rs pc n rg cs lo st tc cB sB else bif Nat.beq x.1 999993 then aschr Rc Rs pc n rg cs lo st tc cB sB else none
  | _ => none
