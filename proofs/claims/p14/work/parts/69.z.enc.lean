/-! An instruction's bytes: a quicker look at what decodes (written by a program). -/
def xn_l (l : List UInt8) (p k : Nat) : Prop := ∃ b : UInt8, l[p]? = some b ∧ b.toNat = k
theorem xn_bind {α β : Type} {x : Decoder α} {F : α → Decoder β} {cc : ByteArray} {p q : Nat} {a : α} {r : Except DecodeError (β × Nat)} (hx : x cc p = .ok (a, q)) (hF : F a cc q = r) : (x >>= F) cc p = r := by
  show (Except.bind (x cc p) (fun z => F z.1 cc z.2)) = r
  rw [hx]
  exact hF
theorem xn_map {α β : Type} {x : Decoder α} {f : α → β} {cc : ByteArray} {p q : Nat} {a : α} (hx : x cc p = .ok (a, q)) : (f <$> x) cc p = .ok (f a, q) := by
  show (Except.bind (x cc p) (fun z => Except.ok (f z.1, z.2))) = _
  rw [hx]
  rfl
theorem xn_u1 {l : List UInt8} {p k : Nat} (h : xn_l l p k) : (Reader.u1 : Decoder Nat) ⟨⟨l⟩⟩ p = .ok (k, p + 1) := by
  obtain ⟨b, h, hk⟩ := h
  obtain ⟨hs, hb⟩ := List.getElem?_eq_some_iff.mp h
  have hs' : p < (⟨⟨l⟩⟩ : ByteArray).size := hs
  have e : (Reader.u1 : Decoder Nat) ⟨⟨l⟩⟩ p = (dite (p < (⟨⟨l⟩⟩ : ByteArray).size) (fun h => (do set (p + 1); pure ((⟨⟨l⟩⟩ : ByteArray)[p]'h).toNat : Decoder Nat)) (fun _ => throw (HasTruncated.truncated p))) ⟨⟨l⟩⟩ p := rfl
  rw [e, dif_pos hs']
  have e2 : (⟨⟨l⟩⟩ : ByteArray)[p]'hs' = l[p] := rfl
  show (Except.ok (((⟨⟨l⟩⟩ : ByteArray)[p]'hs').toNat, p + 1) : Except DecodeError (Nat × Nat)) = _
  rw [e2, hb, hk]
theorem xn_u2 {l : List UInt8} {p a b : Nat} (h1 : xn_l l p a) (h2 : xn_l l (p + 1) b) : (Reader.u2 : Decoder Nat) ⟨⟨l⟩⟩ p = .ok (a * 256 + b, p + 2) := xn_bind (xn_u1 h1) (xn_bind (xn_u1 h2) rfl)
theorem xn_s1 {l : List UInt8} {p a : Nat} (h1 : xn_l l p a) : (Reader.s1 : Decoder Int) ⟨⟨l⟩⟩ p = .ok (Reader.signed 8 a, p + 1) := xn_map (xn_u1 h1)
theorem xn_s2 {l : List UInt8} {p a b : Nat} (h1 : xn_l l p a) (h2 : xn_l l (p + 1) b) : (Reader.s2 : Decoder Int) ⟨⟨l⟩⟩ p = .ok (Reader.signed 16 (a * 256 + b), p + 2) := xn_map (xn_u2 h1 h2)
theorem xn_ok {l : List UInt8} {pc n : Nat} {ig : Instr} (h : Decoder.instr pc ⟨⟨l⟩⟩ pc = .ok (ig, pc + n)) : decode ⟨⟨l⟩⟩ pc = .ok (ig, n) := by
  show (Except.bind (Decoder.instr pc ⟨⟨l⟩⟩ pc) (fun z => Except.ok (z.1, z.2 - pc))) = _
  rw [h]
  show (Except.ok (ig, pc + n - pc) : Except DecodeError (Instr × Nat)) = _
  rw [Nat.add_sub_cancel_left]
/-- a signed number's bytes -/
def xn_b1 (z : Int) : Option Nat := match z with
  | .ofNat n => bif Nat.blt n 128 then some n else none
  | .negSucc m => bif Nat.blt m 128 then some (255 - m) else none
def xn_b2 (z : Int) : Option (Nat × Nat) := match z with
  | .ofNat n => bif Nat.blt n 32768 then some (n / 256, n % 256) else none
  | .negSucc m => bif Nat.blt m 32768 then some ((65535 - m) / 256, (65535 - m) % 256) else none
theorem xn_g1 {z : Int} {b : Nat} (h : xn_b1 z = some b) : Reader.signed 8 b = z := by
  cases z with
  | ofNat n =>
    have h : (bif Nat.blt n 128 then some n else none) = some b := h
    obtain ⟨c, h⟩ := kcond_inv h
    have c : n < 128 := Nat.blt_eq.mp c
    have h : n = b := Option.some.inj h
    rw [← h]
    unfold Reader.signed
    rw [if_pos (show n < 2 ^ (8 - 1) from c)]
    rfl
  | negSucc m =>
    have h : (bif Nat.blt m 128 then some (255 - m) else none) = some b := h
    obtain ⟨c, h⟩ := kcond_inv h
    have c : m < 128 := Nat.blt_eq.mp c
    cases h
    unfold Reader.signed
    rw [if_neg (show ¬ (255 - m < 2 ^ (8 - 1)) from fun q => absurd (show 255 - m < 128 from q) (by omega))]
    show ((255 - m : Nat) : Int) - ((256 : Nat) : Int) = _
    rw [Int.negSucc_eq]
    omega
theorem xn_g2 {z : Int} {q : Nat × Nat} (h : xn_b2 z = some q) : Reader.signed 16 (q.1 * 256 + q.2) = z := by
  cases z with
  | ofNat n =>
    have h : (bif Nat.blt n 32768 then some (n / 256, n % 256) else none) = some q := h
    obtain ⟨c, h⟩ := kcond_inv h
    have c : n < 32768 := Nat.blt_eq.mp c
    cases h
    have e : n / 256 * 256 + n % 256 = n := by omega
    show Reader.signed 16 (n / 256 * 256 + n % 256) = _
    rw [e]
    unfold Reader.signed
    rw [if_pos (show n < 2 ^ (16 - 1) from c)]
    rfl
  | negSucc m =>
    have h : (bif Nat.blt m 32768 then some ((65535 - m) / 256, (65535 - m) % 256) else none) = some q := h
    obtain ⟨c, h⟩ := kcond_inv h
    have c : m < 32768 := Nat.blt_eq.mp c
    cases h
    have e : (65535 - m) / 256 * 256 + (65535 - m) % 256 = 65535 - m := by omega
    show Reader.signed 16 ((65535 - m) / 256 * 256 + (65535 - m) % 256) = _
    rw [e]
    unfold Reader.signed
    rw [if_neg (show ¬ (65535 - m < 2 ^ (16 - 1)) from fun q => absurd (show 65535 - m < 32768 from q) (by omega))]
    show ((65535 - m : Nat) : Int) - ((65536 : Nat) : Int) = _
    rw [Int.negSucc_eq]
    omega
def xn_s (k : Nat) (o : Option (Nat × Nat)) : Option (List Nat) := match o with
  | some q => some [k, q.1, q.2]
  | none => none
def xn_t (ks : List Nat) (o : Option Nat) : Option (List Nat) := match o with
  | some b => some (ks ++ [b])
  | none => none
theorem xn_sI {k : Nat} {o : Option (Nat × Nat)} {bs : List Nat} (h : xn_s k o = some bs) : ∃ q, o = some q ∧ bs = [k, q.1, q.2] := by
  cases o with
  | none => cases h
  | some q => cases h; exact ⟨q, rfl, rfl⟩
theorem xn_tI {ks : List Nat} {o : Option Nat} {bs : List Nat} (h : xn_t ks o = some bs) : ∃ b, o = some b ∧ bs = ks ++ [b] := by
  cases o with
  | none => cases h
  | some q => cases h; exact ⟨q, rfl, rfl⟩
def xn_c (c : Jvm.ClassFile.Cond) : Nat := match c with
  | .eq => 0
  | .ne => 1
  | .lt => 2
  | .ge => 3
  | .gt => 4
  | .le => 5
/-- an instruction's bytes, of those that programs have most -/
def xn_e : Instr → Option (List Nat)
  | .aload_n n => some [42 + n.val]
  | .iload_n n => some [26 + n.val]
  | .istore_n n => some [59 + n.val]
  | .iconst z => (match z with
    | .ofNat n => bif Nat.ble n 5 then some [3 + n] else none
    | .negSucc m => bif Nat.beq m 0 then some [2] else none)
  | .iadd => some [96]
  | .isub => some [100]
  | .imul => some [104]
  | .iaload => some [46]
  | .iastore => some [79]
  | .ireturn => some [172]
  | .return_ => some [177]
  | .dup => some [89]
  | .dup2 => some [92]
  | .pop => some [87]
  | .iand => some [126]
  | .ior => some [128]
  | .ishl => some [120]
  | .lreturn => some [173]
  | .arraylength => some [190]
  | .i2l => some [133]
  | .iload i => some [21, i]
  | .istore i => some [54, i]
  | .aload i => some [25, i]
  | .getfield i => some [180, i / 256, i % 256]
  | .putfield i => some [181, i / 256, i % 256]
  | .getstatic i => some [178, i / 256, i % 256]
  | .invokevirtual i => some [182, i / 256, i % 256]
  | .invokespecial i => some [183, i / 256, i % 256]
  | .invokestatic i => some [184, i / 256, i % 256]
  | .new i => some [187, i / 256, i % 256]
  | .iinc i z => xn_t [132, i] (xn_b1 z)
  | .bipush z => xn_t [16] (xn_b1 z)
  | .sipush z => xn_s 17 (xn_b2 z)
  | .goto z => xn_s 167 (xn_b2 z)
  | .ifCond c z => xn_s (153 + xn_c c) (xn_b2 z)
  | .if_icmp c z => xn_s (159 + xn_c c) (xn_b2 z)
  | _ => none
def xn_p : List Nat → List UInt8 → Bool
  | [], _ => true
  | k :: r, l => (match l with
    | [] => false
    | b :: l => Nat.beq b.toNat k && xn_p r l)
theorem xn_p_ok : ∀ (bs : List Nat) (l : List UInt8), xn_p bs l = true → ∀ j k, bs[j]? = some k → xn_l l j k := by
  intro bs
  induction bs with
  | nil => intro l _ j k h; cases h
  | cons k0 r ih =>
    intro l h j k hj
    cases l with
    | nil => cases h
    | cons b l =>
      have h : (Nat.beq b.toNat k0 && xn_p r l) = true := h
      obtain ⟨h1, h2⟩ := Bool.and_eq_true_iff.mp h
      cases j with
      | zero =>
        have hj : some k0 = some k := hj
        cases hj
        exact ⟨b, rfl, kb_t h1⟩
      | succ j =>
        obtain ⟨b', e1, e2⟩ := ih l h2 j k hj
        exact ⟨b', e1, e2⟩
theorem xn_e_ok {l : List UInt8} {pc : Nat} (ig : Instr) (bs : List Nat) (h : xn_e ig = some bs) (hp : xn_p bs (l.drop pc) = true) : decode ⟨⟨l⟩⟩ pc = .ok (ig, bs.length) := by
  have hb : ∀ j k, bs[j]? = some k → xn_l l (pc + j) k := fun j k hj => by
    obtain ⟨b, e1, e2⟩ := xn_p_ok bs _ hp j k hj
    rw [List.getElem?_drop] at e1
    exact ⟨b, e1, e2⟩
  clear hp
  cases ig
  case aload_n n =>
    have h : some [42 + n.val] = some bs := h
    cases h
    have e : ∀ n : Fin 4, n = 0 ∨ n = 1 ∨ n = 2 ∨ n = 3 := by decide
    rcases e n with rfl | rfl | rfl | rfl
    · exact xn_ok (n := 1) (xn_bind (xn_u1 (hb 0 42 rfl)) rfl)
    · exact xn_ok (n := 1) (xn_bind (xn_u1 (hb 0 43 rfl)) rfl)
    · exact xn_ok (n := 1) (xn_bind (xn_u1 (hb 0 44 rfl)) rfl)
    · exact xn_ok (n := 1) (xn_bind (xn_u1 (hb 0 45 rfl)) rfl)
  case iload_n n =>
    have h : some [26 + n.val] = some bs := h
    cases h
    have e : ∀ n : Fin 4, n = 0 ∨ n = 1 ∨ n = 2 ∨ n = 3 := by decide
    rcases e n with rfl | rfl | rfl | rfl
    · exact xn_ok (n := 1) (xn_bind (xn_u1 (hb 0 26 rfl)) rfl)
    · exact xn_ok (n := 1) (xn_bind (xn_u1 (hb 0 27 rfl)) rfl)
    · exact xn_ok (n := 1) (xn_bind (xn_u1 (hb 0 28 rfl)) rfl)
    · exact xn_ok (n := 1) (xn_bind (xn_u1 (hb 0 29 rfl)) rfl)
  case istore_n n =>
    have h : some [59 + n.val] = some bs := h
    cases h
    have e : ∀ n : Fin 4, n = 0 ∨ n = 1 ∨ n = 2 ∨ n = 3 := by decide
    rcases e n with rfl | rfl | rfl | rfl
    · exact xn_ok (n := 1) (xn_bind (xn_u1 (hb 0 59 rfl)) rfl)
    · exact xn_ok (n := 1) (xn_bind (xn_u1 (hb 0 60 rfl)) rfl)
    · exact xn_ok (n := 1) (xn_bind (xn_u1 (hb 0 61 rfl)) rfl)
    · exact xn_ok (n := 1) (xn_bind (xn_u1 (hb 0 62 rfl)) rfl)
  case iconst z =>
    cases z with
    | ofNat n =>
      have h : (bif Nat.ble n 5 then some [3 + n] else none) = some bs := h
      obtain ⟨c, h⟩ := kcond_inv h
      have c : n ≤ 5 := Nat.ble_eq.mp c
      cases h
      have e : n = 0 ∨ n = 1 ∨ n = 2 ∨ n = 3 ∨ n = 4 ∨ n = 5 := by omega
      rcases e with rfl | rfl | rfl | rfl | rfl | rfl
      · exact xn_ok (n := 1) (xn_bind (xn_u1 (hb 0 3 rfl)) rfl)
      · exact xn_ok (n := 1) (xn_bind (xn_u1 (hb 0 4 rfl)) rfl)
      · exact xn_ok (n := 1) (xn_bind (xn_u1 (hb 0 5 rfl)) rfl)
      · exact xn_ok (n := 1) (xn_bind (xn_u1 (hb 0 6 rfl)) rfl)
      · exact xn_ok (n := 1) (xn_bind (xn_u1 (hb 0 7 rfl)) rfl)
      · exact xn_ok (n := 1) (xn_bind (xn_u1 (hb 0 8 rfl)) rfl)
    | negSucc m =>
      have h : (bif Nat.beq m 0 then some [2] else none) = some bs := h
      obtain ⟨c, h⟩ := kcond_inv h
      have c : m = 0 := kb_t c
      subst c
      cases h
      exact xn_ok (n := 1) (xn_bind (xn_u1 (hb 0 2 rfl)) rfl)
  case iadd =>
    have h : some [96] = some bs := h
    cases h
    exact xn_ok (n := 1) (xn_bind (xn_u1 (hb 0 96 rfl)) rfl)
  case isub =>
    have h : some [100] = some bs := h
    cases h
    exact xn_ok (n := 1) (xn_bind (xn_u1 (hb 0 100 rfl)) rfl)
  case imul =>
    have h : some [104] = some bs := h
    cases h
    exact xn_ok (n := 1) (xn_bind (xn_u1 (hb 0 104 rfl)) rfl)
  case iaload =>
    have h : some [46] = some bs := h
    cases h
    exact xn_ok (n := 1) (xn_bind (xn_u1 (hb 0 46 rfl)) rfl)
  case iastore =>
    have h : some [79] = some bs := h
    cases h
    exact xn_ok (n := 1) (xn_bind (xn_u1 (hb 0 79 rfl)) rfl)
  case ireturn =>
    have h : some [172] = some bs := h
    cases h
    exact xn_ok (n := 1) (xn_bind (xn_u1 (hb 0 172 rfl)) rfl)
  case return_ =>
    have h : some [177] = some bs := h
    cases h
    exact xn_ok (n := 1) (xn_bind (xn_u1 (hb 0 177 rfl)) rfl)
  case dup =>
    have h : some [89] = some bs := h
    cases h
    exact xn_ok (n := 1) (xn_bind (xn_u1 (hb 0 89 rfl)) rfl)
  case dup2 =>
    have h : some [92] = some bs := h
    cases h
    exact xn_ok (n := 1) (xn_bind (xn_u1 (hb 0 92 rfl)) rfl)
  case pop =>
    have h : some [87] = some bs := h
    cases h
    exact xn_ok (n := 1) (xn_bind (xn_u1 (hb 0 87 rfl)) rfl)
  case iand =>
    have h : some [126] = some bs := h
    cases h
    exact xn_ok (n := 1) (xn_bind (xn_u1 (hb 0 126 rfl)) rfl)
  case ior =>
    have h : some [128] = some bs := h
    cases h
    exact xn_ok (n := 1) (xn_bind (xn_u1 (hb 0 128 rfl)) rfl)
  case ishl =>
    have h : some [120] = some bs := h
    cases h
    exact xn_ok (n := 1) (xn_bind (xn_u1 (hb 0 120 rfl)) rfl)
  case lreturn =>
    have h : some [173] = some bs := h
    cases h
    exact xn_ok (n := 1) (xn_bind (xn_u1 (hb 0 173 rfl)) rfl)
  case arraylength =>
    have h : some [190] = some bs := h
    cases h
    exact xn_ok (n := 1) (xn_bind (xn_u1 (hb 0 190 rfl)) rfl)
  case i2l =>
    have h : some [133] = some bs := h
    cases h
    exact xn_ok (n := 1) (xn_bind (xn_u1 (hb 0 133 rfl)) rfl)
  case iload i =>
    have h : some [21, i] = some bs := h
    cases h
    exact xn_ok (n := 2) (xn_bind (xn_u1 (hb 0 21 rfl)) (xn_bind (xn_u1 (hb 1 i rfl)) rfl))
  case istore i =>
    have h : some [54, i] = some bs := h
    cases h
    exact xn_ok (n := 2) (xn_bind (xn_u1 (hb 0 54 rfl)) (xn_bind (xn_u1 (hb 1 i rfl)) rfl))
  case aload i =>
    have h : some [25, i] = some bs := h
    cases h
    exact xn_ok (n := 2) (xn_bind (xn_u1 (hb 0 25 rfl)) (xn_bind (xn_u1 (hb 1 i rfl)) rfl))
  case getfield i =>
    have h : some [180, i / 256, i % 256] = some bs := h
    cases h
    have e := xn_u2 (hb 1 (i / 256) rfl) (hb 2 (i % 256) rfl)
    rw [show i / 256 * 256 + i % 256 = i by omega] at e
    exact xn_ok (n := 3) (xn_bind (xn_u1 (hb 0 180 rfl)) (xn_bind e rfl))
  case putfield i =>
    have h : some [181, i / 256, i % 256] = some bs := h
    cases h
    have e := xn_u2 (hb 1 (i / 256) rfl) (hb 2 (i % 256) rfl)
    rw [show i / 256 * 256 + i % 256 = i by omega] at e
    exact xn_ok (n := 3) (xn_bind (xn_u1 (hb 0 181 rfl)) (xn_bind e rfl))
  case getstatic i =>
    have h : some [178, i / 256, i % 256] = some bs := h
    cases h
    have e := xn_u2 (hb 1 (i / 256) rfl) (hb 2 (i % 256) rfl)
    rw [show i / 256 * 256 + i % 256 = i by omega] at e
    exact xn_ok (n := 3) (xn_bind (xn_u1 (hb 0 178 rfl)) (xn_bind e rfl))
  case invokevirtual i =>
    have h : some [182, i / 256, i % 256] = some bs := h
    cases h
    have e := xn_u2 (hb 1 (i / 256) rfl) (hb 2 (i % 256) rfl)
    rw [show i / 256 * 256 + i % 256 = i by omega] at e
    exact xn_ok (n := 3) (xn_bind (xn_u1 (hb 0 182 rfl)) (xn_bind e rfl))
  case invokespecial i =>
    have h : some [183, i / 256, i % 256] = some bs := h
    cases h
    have e := xn_u2 (hb 1 (i / 256) rfl) (hb 2 (i % 256) rfl)
    rw [show i / 256 * 256 + i % 256 = i by omega] at e
    exact xn_ok (n := 3) (xn_bind (xn_u1 (hb 0 183 rfl)) (xn_bind e rfl))
  case invokestatic i =>
    have h : some [184, i / 256, i % 256] = some bs := h
    cases h
    have e := xn_u2 (hb 1 (i / 256) rfl) (hb 2 (i % 256) rfl)
    rw [show i / 256 * 256 + i % 256 = i by omega] at e
    exact xn_ok (n := 3) (xn_bind (xn_u1 (hb 0 184 rfl)) (xn_bind e rfl))
  case new i =>
    have h : some [187, i / 256, i % 256] = some bs := h
    cases h
    have e := xn_u2 (hb 1 (i / 256) rfl) (hb 2 (i % 256) rfl)
    rw [show i / 256 * 256 + i % 256 = i by omega] at e
    exact xn_ok (n := 3) (xn_bind (xn_u1 (hb 0 187 rfl)) (xn_bind e rfl))
  case iinc i z =>
    obtain ⟨b, hq, rfl⟩ := xn_tI (show xn_t [132, i] (xn_b1 z) = some bs from h)
    have e := xn_s1 (hb 2 b rfl)
    rw [xn_g1 hq] at e
    exact xn_ok (n := 3) (xn_bind (xn_u1 (hb 0 132 rfl)) (xn_bind (xn_u1 (hb 1 i rfl)) (xn_bind e rfl)))
  case bipush z =>
    obtain ⟨b, hq, rfl⟩ := xn_tI (show xn_t [16] (xn_b1 z) = some bs from h)
    have e := xn_s1 (hb 1 b rfl)
    rw [xn_g1 hq] at e
    exact xn_ok (n := 2) (xn_bind (xn_u1 (hb 0 16 rfl)) (xn_bind e rfl))
  case sipush z =>
    obtain ⟨q, hq, rfl⟩ := xn_sI (show xn_s 17 (xn_b2 z) = some bs from h)
    have e := xn_s2 (hb 1 q.1 rfl) (hb 2 q.2 rfl)
    rw [xn_g2 hq] at e
    exact xn_ok (n := 3) (xn_bind (xn_u1 (hb 0 17 rfl)) (xn_bind e rfl))
  case goto z =>
    obtain ⟨q, hq, rfl⟩ := xn_sI (show xn_s 167 (xn_b2 z) = some bs from h)
    have e := xn_s2 (hb 1 q.1 rfl) (hb 2 q.2 rfl)
    rw [xn_g2 hq] at e
    exact xn_ok (n := 3) (xn_bind (xn_u1 (hb 0 167 rfl)) (xn_bind e rfl))
  case ifCond c z =>
    obtain ⟨q, hq, rfl⟩ := xn_sI (show xn_s (153 + xn_c c) (xn_b2 z) = some bs from h)
    have e := xn_s2 (hb 1 q.1 rfl) (hb 2 q.2 rfl)
    rw [xn_g2 hq] at e
    cases c
    · exact xn_ok (n := 3) (xn_bind (xn_u1 (hb 0 153 rfl)) (xn_bind e rfl))
    · exact xn_ok (n := 3) (xn_bind (xn_u1 (hb 0 154 rfl)) (xn_bind e rfl))
    · exact xn_ok (n := 3) (xn_bind (xn_u1 (hb 0 155 rfl)) (xn_bind e rfl))
    · exact xn_ok (n := 3) (xn_bind (xn_u1 (hb 0 156 rfl)) (xn_bind e rfl))
    · exact xn_ok (n := 3) (xn_bind (xn_u1 (hb 0 157 rfl)) (xn_bind e rfl))
    · exact xn_ok (n := 3) (xn_bind (xn_u1 (hb 0 158 rfl)) (xn_bind e rfl))
  case if_icmp c z =>
    obtain ⟨q, hq, rfl⟩ := xn_sI (show xn_s (159 + xn_c c) (xn_b2 z) = some bs from h)
    have e := xn_s2 (hb 1 q.1 rfl) (hb 2 q.2 rfl)
    rw [xn_g2 hq] at e
    cases c
    · exact xn_ok (n := 3) (xn_bind (xn_u1 (hb 0 159 rfl)) (xn_bind e rfl))
    · exact xn_ok (n := 3) (xn_bind (xn_u1 (hb 0 160 rfl)) (xn_bind e rfl))
    · exact xn_ok (n := 3) (xn_bind (xn_u1 (hb 0 161 rfl)) (xn_bind e rfl))
    · exact xn_ok (n := 3) (xn_bind (xn_u1 (hb 0 162 rfl)) (xn_bind e rfl))
    · exact xn_ok (n := 3) (xn_bind (xn_u1 (hb 0 163 rfl)) (xn_bind e rfl))
    · exact xn_ok (n := 3) (xn_bind (xn_u1 (hb 0 164 rfl)) (xn_bind e rfl))
  all_goals (have h : (none : Option (List Nat)) = some bs := h; cases h)
/-- a program's rows against its bytes, one walk -/
def xn_1 (cc : ByteArray) (e : KEnt) (l : List UInt8) : Bool := match xn_e e.2.1 with
  | some bs => xn_p bs l && (Nat.beq (klen e.2.1) 0 || Nat.beq bs.length (klen e.2.1))
  | none => kdec cc e
def xn_w (cc : ByteArray) : List KEnt → Nat → List UInt8 → Bool
  | [], _, _ => true
  | e :: r, p, l => Nat.ble p e.1 && (xn_1 cc e (l.drop (e.1 - p)) && xn_w cc r e.1 (l.drop (e.1 - p)))
theorem xn_1_ok {cc : ByteArray} {e : KEnt} (h : xn_1 cc e (cc.data.toList.drop e.1) = true) : kdec cc e = true := by
  unfold xn_1 at h
  split at h
  · rename_i bs hbs
    obtain ⟨h1, h2⟩ := Bool.and_eq_true_iff.mp h
    obtain ⟨⟨l⟩⟩ := cc
    have d := xn_e_ok (pc := e.1) e.2.1 bs hbs h1
    unfold kdec
    rw [d]
    show (decide (e.2.1 = e.2.1) && (Nat.beq (klen e.2.1) 0 || Nat.beq bs.length (klen e.2.1))) = true
    rw [h2, decide_eq_true rfl]
    rfl
  · exact h
theorem xn_w_ok {cc : ByteArray} : ∀ (prog : List KEnt) (p : Nat), xn_w cc prog p (cc.data.toList.drop p) = true → ∀ e ∈ prog, kdec cc e = true := by
  intro prog
  induction prog with
  | nil => intro p _ e he; cases he
  | cons e0 r ih =>
    intro p h e he
    have h : (Nat.ble p e0.1 && (xn_1 cc e0 ((cc.data.toList.drop p).drop (e0.1 - p)) && xn_w cc r e0.1 ((cc.data.toList.drop p).drop (e0.1 - p)))) = true := h
    obtain ⟨h1, h⟩ := Bool.and_eq_true_iff.mp h
    have h1 : p ≤ e0.1 := Nat.ble_eq.mp h1
    rw [List.drop_drop, show p + (e0.1 - p) = e0.1 by omega] at h
    obtain ⟨h2, h3⟩ := Bool.and_eq_true_iff.mp h
    rcases List.mem_cons.mp he with rfl | he
    · exact xn_1_ok h2
    · exact ih e0.1 h3 e he
