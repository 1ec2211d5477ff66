/-! A run as numbers: one row an instruction. -/
section CRW
variable {PC : CL → Prop} {X : KO} {ρ : Nat → Int32} {rg : List (Int × Int)} {L nL Rc Rs : Nat} {prog : List KEnt} {N pc : Nat} {l : List Int} {S : List (Nat × Int)} {m : MM} {o : Instr × List (Nat × Int) × MM} {x : KX}
set_option maxRecDepth 16384 in
theorem n8 {z : Int} (h : (decide (-128 ≤ z) && decide (z < 128)) = true) : (Int8.ofInt z).toInt32.toInt = z := by
  have h := Bool.and_eq_true_iff.mp h
  rw [Int8.toInt_toInt32]
  exact Int8.toInt_ofInt_of_le (of_decide_eq_true h.1) (of_decide_eq_true h.2)
set_option maxRecDepth 16384 in
theorem n16 {z : Int} (h : (decide (-32768 ≤ z) && decide (z < 32768)) = true) : (Int16.ofInt z).toInt32.toInt = z := by
  have h := Bool.and_eq_true_iff.mp h
  rw [Int16.toInt_toInt32]
  exact Int16.toInt_ofInt_of_le (of_decide_eq_true h.1) (of_decide_eq_true h.2)
set_option maxRecDepth 16384 in
theorem n32 {z : Int} (h : (decide (-2147483648 ≤ z) && decide (z < 2147483648)) = true) : (Int32.ofInt z).toInt = z := by
  have h := Bool.and_eq_true_iff.mp h
  exact Int32.toInt_ofInt_of_le (of_decide_eq_true h.1) (of_decide_eq_true h.2)
set_option maxRecDepth 16384 in
theorem n32n {n : Nat} (h : Nat.blt n 2147483648 = true) : (Int32.ofNat n).toInt = (n : Int) := by
  have h := Nat.blt_eq.mp h
  show (Int32.ofInt (n : Int)).toInt = _
  exact Int32.toInt_ofInt_of_le (by omega) (by omega)
set_option maxRecDepth 16384 in
theorem n64n {n : Nat} (h : Nat.blt n 2147483648 = true) : (Int64.ofNat n).toInt = (n : Int) := by
  have h := Nat.blt_eq.mp h
  show (Int64.ofInt (n : Int)).toInt = _
  exact Int64.toInt_ofInt_of_le (by omega) (by omega)
set_option maxRecDepth 16384 in
theorem CR_iconst {z : Int} (h : CR PC X ρ rg L nL Rc Rs prog N pc l S m o) (hp : kat prog pc = some (.iconst z, x)) (hz : (decide (-2147483648 ≤ z) && decide (z < 2147483648)) = true) : CR PC X ρ rg L nL Rc Rs prog N (pc + 1) l ((1, z) :: S) m o := CR_push h hp rfl (fun _ _ _ _ _ _ => rfl) (Prod.ext rfl (n32 hz))
set_option maxRecDepth 16384 in
theorem CR_bipush {z : Int} (h : CR PC X ρ rg L nL Rc Rs prog N pc l S m o) (hp : kat prog pc = some (.bipush z, x)) (hz : (decide (-128 ≤ z) && decide (z < 128)) = true) : CR PC X ρ rg L nL Rc Rs prog N (pc + 2) l ((1, z) :: S) m o := CR_push h hp rfl (fun _ _ _ _ _ _ => rfl) (Prod.ext rfl (n8 hz))
set_option maxRecDepth 16384 in
theorem CR_sipush {z : Int} (h : CR PC X ρ rg L nL Rc Rs prog N pc l S m o) (hp : kat prog pc = some (.sipush z, x)) (hz : (decide (-32768 ≤ z) && decide (z < 32768)) = true) : CR PC X ρ rg L nL Rc Rs prog N (pc + 3) l ((1, z) :: S) m o := CR_push h hp rfl (fun _ _ _ _ _ _ => rfl) (Prod.ext rfl (n16 hz))
set_option maxRecDepth 16384 in
theorem CR_ldcw {i : Nat} (h : CR PC X ρ rg L nL Rc Rs prog N pc l S m o) (hp : kat prog pc = some (.ldc_w i, x)) (hz : Nat.blt x.1 2147483648 = true) : CR PC X ρ rg L nL Rc Rs prog N (pc + 3) l ((1, (x.1 : Int)) :: S) m o := CR_push h hp rfl (fun _ _ _ _ _ _ => rfl) (Prod.ext rfl (n32n hz))
set_option maxRecDepth 16384 in
theorem CR_ldci {i : Nat} (h : CR PC X ρ rg L nL Rc Rs prog N pc l S m o) (hp : kat prog pc = some (.ldc i, x)) (hx : Nat.beq x.2.1 1 = false) (hz : Nat.blt x.1 2147483648 = true) : CR PC X ρ rg L nL Rc Rs prog N (pc + 2) l ((1, (x.1 : Int)) :: S) m o :=
  CR_push h hp rfl (v := .inl (.int (Int32.ofNat x.1))) (fun call lo st w c s => by
    show (bif Nat.beq x.2.1 1 then some (pc + 2, lo, .inl (.ref (1000200 + x.1)) :: st, w, c, s) else some (pc + 2, lo, .inl (.int (Int32.ofNat x.1)) :: st, w, c, s)) = _
    rw [hx]; rfl) (Prod.ext rfl (n32n hz))
set_option maxRecDepth 16384 in
theorem CR_ldct {i : Nat} (h : CR PC X ρ rg L nL Rc Rs prog N pc l S m o) (hp : kat prog pc = some (.ldc i, x)) (hx : Nat.beq x.2.1 1 = true) : CR PC X ρ rg L nL Rc Rs prog N (pc + 2) l ((1, ((1000200 + x.1 : Nat) : Int)) :: S) m o :=
  CR_push h hp rfl (v := .inl (.ref (1000200 + x.1))) (fun call lo st w c s => by
    show (bif Nat.beq x.2.1 1 then some (pc + 2, lo, .inl (.ref (1000200 + x.1)) :: st, w, c, s) else some (pc + 2, lo, .inl (.int (Int32.ofNat x.1)) :: st, w, c, s)) = _
    rw [hx]; rfl) rfl
set_option maxRecDepth 16384 in
theorem CR_ldc2w {i : Nat} (h : CR PC X ρ rg L nL Rc Rs prog N pc l S m o) (hp : kat prog pc = some (.ldc2_w i, x)) (hz : Nat.blt x.1 2147483648 = true) : CR PC X ρ rg L nL Rc Rs prog N (pc + 3) l ((2, (x.1 : Int)) :: S) m o := CR_push h hp rfl (fun _ _ _ _ _ _ => rfl) (Prod.ext rfl (n64n hz))
set_option maxRecDepth 16384 in
theorem CR_lconst {z : Fin 2} (h : CR PC X ρ rg L nL Rc Rs prog N pc l S m o) (hp : kat prog pc = some (.lconst z, x)) : CR PC X ρ rg L nL Rc Rs prog N (pc + 1) l ((2, (z.val : Int)) :: S) m o := CR_push h hp rfl (fun _ _ _ _ _ _ => rfl) (Prod.ext rfl (n64n (Nat.blt_eq.mpr (by omega))))
set_option maxRecDepth 16384 in
theorem CR_anull  (h : CR PC X ρ rg L nL Rc Rs prog N pc l S m o) (hp : kat prog pc = some (.aconst_null, x))  : CR PC X ρ rg L nL Rc Rs prog N (pc + 1) l ((1, -1) :: S) m o := CR_push h hp rfl (fun _ _ _ _ _ _ => rfl) rfl
set_option maxRecDepth 16384 in
theorem CR_getstatic {i : Nat} (h : CR PC X ρ rg L nL Rc Rs prog N pc l S m o) (hp : kat prog pc = some (.getstatic i, x))  : CR PC X ρ rg L nL Rc Rs prog N (pc + 3) l ((1, ((1000001 + x.1 : Nat) : Int)) :: S) m o := CR_push h hp rfl (fun _ _ _ _ _ _ => rfl) rfl
set_option maxRecDepth 16384 in
theorem CR_iload_n {i : Fin 4} (h : CR PC X ρ rg L nL Rc Rs prog N pc l S m o) (hp : kat prog pc = some (.iload_n i, x))  : CR PC X ρ rg L nL Rc Rs prog N (pc + 1) l ((1, l.getD i.val 0) :: S) m o := CR_ld h hp rfl (fun _ _ _ _ _ _ => rfl) okI_cat
set_option maxRecDepth 16384 in
theorem CR_iload {i : Nat} (h : CR PC X ρ rg L nL Rc Rs prog N pc l S m o) (hp : kat prog pc = some (.iload i, x))  : CR PC X ρ rg L nL Rc Rs prog N (pc + 2) l ((1, l.getD i 0) :: S) m o := CR_ld h hp rfl (fun _ _ _ _ _ _ => rfl) okI_cat
set_option maxRecDepth 16384 in
theorem CR_istore_n {i : Fin 4} {t : Nat} {e : Int} (h : CR PC X ρ rg L nL Rc Rs prog N pc l ((t, e) :: S) m o) (hp : kat prog pc = some (.istore_n i, x)) (hl : i.val < l.length) : CR PC X ρ rg L nL Rc Rs prog N (pc + 1) (l.set i.val e) S m o := CR_st h hp rfl (fun _ _ _ _ _ _ => rfl) hl
set_option maxRecDepth 16384 in
theorem CR_istore {i : Nat} {t : Nat} {e : Int} (h : CR PC X ρ rg L nL Rc Rs prog N pc l ((t, e) :: S) m o) (hp : kat prog pc = some (.istore i, x)) (hl : i < l.length) : CR PC X ρ rg L nL Rc Rs prog N (pc + 2) (l.set i e) S m o := CR_st h hp rfl (fun _ _ _ _ _ _ => rfl) hl
set_option maxRecDepth 16384 in
theorem CR_aload_n {i : Fin 4} (h : CR PC X ρ rg L nL Rc Rs prog N pc l S m o) (hp : kat prog pc = some (.aload_n i, x))  : CR PC X ρ rg L nL Rc Rs prog N (pc + 1) l ((1, l.getD i.val 0) :: S) m o := CR_ld h hp rfl (fun _ _ _ _ _ _ => rfl) okQ_cat
set_option maxRecDepth 16384 in
theorem CR_aload {i : Nat} (h : CR PC X ρ rg L nL Rc Rs prog N pc l S m o) (hp : kat prog pc = some (.aload i, x))  : CR PC X ρ rg L nL Rc Rs prog N (pc + 2) l ((1, l.getD i 0) :: S) m o := CR_ld h hp rfl (fun _ _ _ _ _ _ => rfl) okQ_cat
set_option maxRecDepth 16384 in
theorem CR_astore_n {i : Fin 4} {t : Nat} {e : Int} (h : CR PC X ρ rg L nL Rc Rs prog N pc l ((t, e) :: S) m o) (hp : kat prog pc = some (.astore_n i, x)) (hl : i.val < l.length) : CR PC X ρ rg L nL Rc Rs prog N (pc + 1) (l.set i.val e) S m o := CR_st h hp rfl (fun _ _ _ _ _ _ => rfl) hl
set_option maxRecDepth 16384 in
theorem CR_astore {i : Nat} {t : Nat} {e : Int} (h : CR PC X ρ rg L nL Rc Rs prog N pc l ((t, e) :: S) m o) (hp : kat prog pc = some (.astore i, x)) (hl : i < l.length) : CR PC X ρ rg L nL Rc Rs prog N (pc + 2) (l.set i e) S m o := CR_st h hp rfl (fun _ _ _ _ _ _ => rfl) hl
set_option maxRecDepth 16384 in
theorem CR_lload_n {i : Fin 4} (h : CR PC X ρ rg L nL Rc Rs prog N pc l S m o) (hp : kat prog pc = some (.lload_n i, x))  : CR PC X ρ rg L nL Rc Rs prog N (pc + 1) l ((2, l.getD i.val 0) :: S) m o := CR_ld h hp rfl (fun _ _ _ _ _ _ => rfl) okG_cat
set_option maxRecDepth 16384 in
theorem CR_lload {i : Nat} (h : CR PC X ρ rg L nL Rc Rs prog N pc l S m o) (hp : kat prog pc = some (.lload i, x))  : CR PC X ρ rg L nL Rc Rs prog N (pc + 2) l ((2, l.getD i 0) :: S) m o := CR_ld h hp rfl (fun _ _ _ _ _ _ => rfl) okG_cat
set_option maxRecDepth 16384 in
theorem CR_lstore_n {i : Fin 4} {t : Nat} {e : Int} (h : CR PC X ρ rg L nL Rc Rs prog N pc l ((t, e) :: S) m o) (hp : kat prog pc = some (.lstore_n i, x)) (hl : i.val < l.length) : CR PC X ρ rg L nL Rc Rs prog N (pc + 1) (l.set i.val e) S m o := CR_st2 h hp rfl (fun _ _ _ _ _ _ => rfl) hl
set_option maxRecDepth 16384 in
theorem CR_lstore {i : Nat} {t : Nat} {e : Int} (h : CR PC X ρ rg L nL Rc Rs prog N pc l ((t, e) :: S) m o) (hp : kat prog pc = some (.lstore i, x)) (hl : i < l.length) : CR PC X ρ rg L nL Rc Rs prog N (pc + 2) (l.set i e) S m o := CR_st2 h hp rfl (fun _ _ _ _ _ _ => rfl) hl
set_option maxRecDepth 16384 in
theorem CR_iadd {t1 t2 : Nat} {a b : Int} (h : CR PC X ρ rg L nL Rc Rs prog N pc l ((t2, b) :: (t1, a) :: S) m o) (hp : kat prog pc = some (.iadd, x))  : CR PC X ρ rg L nL Rc Rs prog N (pc + 1) l ((1, s32 (a + b)) :: S) m o := by rw [← o32_add]; exact CR_bin h hp rfl (fun _ _ _ _ _ _ => rfl)
set_option maxRecDepth 16384 in
theorem CR_isub {t1 t2 : Nat} {a b : Int} (h : CR PC X ρ rg L nL Rc Rs prog N pc l ((t2, b) :: (t1, a) :: S) m o) (hp : kat prog pc = some (.isub, x))  : CR PC X ρ rg L nL Rc Rs prog N (pc + 1) l ((1, s32 (a - b)) :: S) m o := by rw [← o32_sub]; exact CR_bin h hp rfl (fun _ _ _ _ _ _ => rfl)
set_option maxRecDepth 16384 in
theorem CR_imul {t1 t2 : Nat} {a b : Int} (h : CR PC X ρ rg L nL Rc Rs prog N pc l ((t2, b) :: (t1, a) :: S) m o) (hp : kat prog pc = some (.imul, x))  : CR PC X ρ rg L nL Rc Rs prog N (pc + 1) l ((1, s32 (a * b)) :: S) m o := by rw [← o32_mul]; exact CR_bin h hp rfl (fun _ _ _ _ _ _ => rfl)
set_option maxRecDepth 16384 in
theorem jor_ex : ∃ f : Int → Int → Int, ∀ a b, f a b = o32 (fun a b => a ||| b) a b := ⟨fun a b => o32 (fun a b => a ||| b) a b, fun _ _ => rfl⟩
set_option maxRecDepth 16384 in
noncomputable def jor : Int → Int → Int := Classical.choose jor_ex
set_option maxRecDepth 16384 in
theorem jor_eq (a b : Int) : jor a b = o32 (fun a b => a ||| b) a b := Classical.choose_spec jor_ex a b
set_option maxRecDepth 16384 in
theorem jxor_ex : ∃ f : Int → Int → Int, ∀ a b, f a b = o32 (fun a b => a ^^^ b) a b := ⟨fun a b => o32 (fun a b => a ^^^ b) a b, fun _ _ => rfl⟩
set_option maxRecDepth 16384 in
noncomputable def jxor : Int → Int → Int := Classical.choose jxor_ex
set_option maxRecDepth 16384 in
theorem jxor_eq (a b : Int) : jxor a b = o32 (fun a b => a ^^^ b) a b := Classical.choose_spec jxor_ex a b
set_option maxRecDepth 16384 in
theorem jand_ex : ∃ f : Int → Int → Int, ∀ a b, f a b = o32 (fun a b => a &&& b) a b := ⟨fun a b => o32 (fun a b => a &&& b) a b, fun _ _ => rfl⟩
set_option maxRecDepth 16384 in
noncomputable def jand : Int → Int → Int := Classical.choose jand_ex
set_option maxRecDepth 16384 in
theorem jand_eq (a b : Int) : jand a b = o32 (fun a b => a &&& b) a b := Classical.choose_spec jand_ex a b
set_option maxRecDepth 16384 in
theorem jshl_ex : ∃ f : Int → Int → Int, ∀ a b, f a b = o32 (fun a b => a <<< (b &&& 31)) a b := ⟨fun a b => o32 (fun a b => a <<< (b &&& 31)) a b, fun _ _ => rfl⟩
set_option maxRecDepth 16384 in
noncomputable def jshl : Int → Int → Int := Classical.choose jshl_ex
set_option maxRecDepth 16384 in
theorem jshl_eq (a b : Int) : jshl a b = o32 (fun a b => a <<< (b &&& 31)) a b := Classical.choose_spec jshl_ex a b
set_option maxRecDepth 16384 in
theorem jshr_ex : ∃ f : Int → Int → Int, ∀ a b, f a b = o32 (fun a b => a >>> (b &&& 31)) a b := ⟨fun a b => o32 (fun a b => a >>> (b &&& 31)) a b, fun _ _ => rfl⟩
set_option maxRecDepth 16384 in
noncomputable def jshr : Int → Int → Int := Classical.choose jshr_ex
set_option maxRecDepth 16384 in
theorem jshr_eq (a b : Int) : jshr a b = o32 (fun a b => a >>> (b &&& 31)) a b := Classical.choose_spec jshr_ex a b
set_option maxRecDepth 16384 in
theorem jushr_ex : ∃ f : Int → Int → Int, ∀ a b, f a b = o32 (fun a b => (a.toUInt32 >>> (b.toUInt32 &&& Int32.toUInt32 31)).toInt32) a b := ⟨fun a b => o32 (fun a b => (a.toUInt32 >>> (b.toUInt32 &&& Int32.toUInt32 31)).toInt32) a b, fun _ _ => rfl⟩
set_option maxRecDepth 16384 in
noncomputable def jushr : Int → Int → Int := Classical.choose jushr_ex
set_option maxRecDepth 16384 in
theorem jushr_eq (a b : Int) : jushr a b = o32 (fun a b => (a.toUInt32 >>> (b.toUInt32 &&& Int32.toUInt32 31)).toInt32) a b := Classical.choose_spec jushr_ex a b
set_option maxRecDepth 16384 in
theorem jrem_ex : ∃ f : Int → Int → Int, ∀ a b, f a b = o32 (fun x y => x - x / y * y) a b := ⟨fun a b => o32 (fun x y => x - x / y * y) a b, fun _ _ => rfl⟩
set_option maxRecDepth 16384 in
noncomputable def jrem : Int → Int → Int := Classical.choose jrem_ex
set_option maxRecDepth 16384 in
theorem jrem_eq (a b : Int) : jrem a b = o32 (fun x y => x - x / y * y) a b := Classical.choose_spec jrem_ex a b
set_option maxRecDepth 16384 in
theorem jneg_ex : ∃ f : Int → Int, ∀ a, f a = (- Int32.ofInt a).toInt := ⟨fun a => (- Int32.ofInt a).toInt, fun _ => rfl⟩
set_option maxRecDepth 16384 in
noncomputable def jneg : Int → Int := Classical.choose jneg_ex
set_option maxRecDepth 16384 in
theorem jneg_eq (a : Int) : jneg a = (- Int32.ofInt a).toInt := Classical.choose_spec jneg_ex a
set_option maxRecDepth 16384 in
theorem ji2b_ex : ∃ f : Int → Int, ∀ a, f a = (Int32.ofInt a).toInt8.toInt32.toInt := ⟨fun a => (Int32.ofInt a).toInt8.toInt32.toInt, fun _ => rfl⟩
set_option maxRecDepth 16384 in
noncomputable def ji2b : Int → Int := Classical.choose ji2b_ex
set_option maxRecDepth 16384 in
theorem ji2b_eq (a : Int) : ji2b a = (Int32.ofInt a).toInt8.toInt32.toInt := Classical.choose_spec ji2b_ex a
set_option maxRecDepth 16384 in
theorem ji2c_ex : ∃ f : Int → Int, ∀ a, f a = ((Int32.ofInt a).toUInt32 % 65536).toInt32.toInt := ⟨fun a => ((Int32.ofInt a).toUInt32 % 65536).toInt32.toInt, fun _ => rfl⟩
set_option maxRecDepth 16384 in
noncomputable def ji2c : Int → Int := Classical.choose ji2c_ex
set_option maxRecDepth 16384 in
theorem ji2c_eq (a : Int) : ji2c a = ((Int32.ofInt a).toUInt32 % 65536).toInt32.toInt := Classical.choose_spec ji2c_ex a
set_option maxRecDepth 16384 in
theorem jl2i_ex : ∃ f : Int → Int, ∀ a, f a = (Int64.ofInt a).toInt32.toInt := ⟨fun a => (Int64.ofInt a).toInt32.toInt, fun _ => rfl⟩
set_option maxRecDepth 16384 in
noncomputable def jl2i : Int → Int := Classical.choose jl2i_ex
set_option maxRecDepth 16384 in
theorem jl2i_eq (a : Int) : jl2i a = (Int64.ofInt a).toInt32.toInt := Classical.choose_spec jl2i_ex a
set_option maxRecDepth 16384 in
theorem jldiv_ex : ∃ f : Int → Int → Int, ∀ a b, f a b = o64 (fun a b => a / b) a b := ⟨fun a b => o64 (fun a b => a / b) a b, fun _ _ => rfl⟩
set_option maxRecDepth 16384 in
noncomputable def jldiv : Int → Int → Int := Classical.choose jldiv_ex
set_option maxRecDepth 16384 in
theorem jldiv_eq (a b : Int) : jldiv a b = o64 (fun a b => a / b) a b := Classical.choose_spec jldiv_ex a b
set_option maxRecDepth 16384 in
theorem jlrem_ex : ∃ f : Int → Int → Int, ∀ a b, f a b = o64 (fun a b => a - a / b * b) a b := ⟨fun a b => o64 (fun a b => a - a / b * b) a b, fun _ _ => rfl⟩
set_option maxRecDepth 16384 in
noncomputable def jlrem : Int → Int → Int := Classical.choose jlrem_ex
set_option maxRecDepth 16384 in
theorem jlrem_eq (a b : Int) : jlrem a b = o64 (fun a b => a - a / b * b) a b := Classical.choose_spec jlrem_ex a b
set_option maxRecDepth 16384 in
theorem jlushr_ex : ∃ f : Int → Int → Int, ∀ a b, f a b = ((Int64.ofInt a).toUInt64 >>> ((Int32.ofInt b).toInt64.toUInt64 &&& Int64.toUInt64 63)).toInt64.toInt := ⟨fun a b => ((Int64.ofInt a).toUInt64 >>> ((Int32.ofInt b).toInt64.toUInt64 &&& Int64.toUInt64 63)).toInt64.toInt, fun _ _ => rfl⟩
set_option maxRecDepth 16384 in
noncomputable def jlushr : Int → Int → Int := Classical.choose jlushr_ex
set_option maxRecDepth 16384 in
theorem jlushr_eq (a b : Int) : jlushr a b = ((Int64.ofInt a).toUInt64 >>> ((Int32.ofInt b).toInt64.toUInt64 &&& Int64.toUInt64 63)).toInt64.toInt := Classical.choose_spec jlushr_ex a b
set_option maxRecDepth 16384 in
theorem CR_ior {t1 t2 : Nat} {a b : Int} (h : CR PC X ρ rg L nL Rc Rs prog N pc l ((t2, b) :: (t1, a) :: S) m o) (hp : kat prog pc = some (.ior, x))  : CR PC X ρ rg L nL Rc Rs prog N (pc + 1) l ((1, jor a b) :: S) m o := by rw [jor_eq]; exact CR_bin h hp rfl (fun _ _ _ _ _ _ => rfl)
set_option maxRecDepth 16384 in
theorem CR_ixor {t1 t2 : Nat} {a b : Int} (h : CR PC X ρ rg L nL Rc Rs prog N pc l ((t2, b) :: (t1, a) :: S) m o) (hp : kat prog pc = some (.ixor, x))  : CR PC X ρ rg L nL Rc Rs prog N (pc + 1) l ((1, jxor a b) :: S) m o := by rw [jxor_eq]; exact CR_bin h hp rfl (fun _ _ _ _ _ _ => rfl)
set_option maxRecDepth 16384 in
theorem CR_ishl {t1 t2 : Nat} {a b : Int} (h : CR PC X ρ rg L nL Rc Rs prog N pc l ((t2, b) :: (t1, a) :: S) m o) (hp : kat prog pc = some (.ishl, x))  : CR PC X ρ rg L nL Rc Rs prog N (pc + 1) l ((1, jshl a b) :: S) m o := by rw [jshl_eq]; exact CR_bin h hp rfl (fun _ _ _ _ _ _ => rfl)
set_option maxRecDepth 16384 in
theorem CR_ishr {t1 t2 : Nat} {a b : Int} (h : CR PC X ρ rg L nL Rc Rs prog N pc l ((t2, b) :: (t1, a) :: S) m o) (hp : kat prog pc = some (.ishr, x))  : CR PC X ρ rg L nL Rc Rs prog N (pc + 1) l ((1, jshr a b) :: S) m o := by rw [jshr_eq]; exact CR_bin h hp rfl (fun _ _ _ _ _ _ => rfl)
set_option maxRecDepth 16384 in
theorem CR_iushr {t1 t2 : Nat} {a b : Int} (h : CR PC X ρ rg L nL Rc Rs prog N pc l ((t2, b) :: (t1, a) :: S) m o) (hp : kat prog pc = some (.iushr, x))  : CR PC X ρ rg L nL Rc Rs prog N (pc + 1) l ((1, jushr a b) :: S) m o := by rw [jushr_eq]; exact CR_bin h hp rfl (fun _ _ _ _ _ _ => rfl)
set_option maxRecDepth 16384 in
theorem CR_iand {t1 t2 : Nat} {a b : Int} (h : CR PC X ρ rg L nL Rc Rs prog N pc l ((t2, b) :: (t1, a) :: S) m o) (hp : kat prog pc = some (.iand, x))  : CR PC X ρ rg L nL Rc Rs prog N (pc + 1) l ((1, jand a b) :: S) m o := by rw [jand_eq]; exact CR_and h hp
set_option maxRecDepth 16384 in
theorem CR_irem {t1 t2 : Nat} {a b : Int} (h : CR PC X ρ rg L nL Rc Rs prog N pc l ((t2, b) :: (t1, a) :: S) m o) (hp : kat prog pc = some (.irem, x))  : CR PC X ρ rg L nL Rc Rs prog N (pc + 1) l ((1, jrem a b) :: S) m o := by rw [jrem_eq]; exact CR_rem h hp
set_option maxRecDepth 16384 in
theorem CR_ineg {t1 : Nat} {a : Int} (h : CR PC X ρ rg L nL Rc Rs prog N pc l ((t1, a) :: S) m o) (hp : kat prog pc = some (.ineg, x))  : CR PC X ρ rg L nL Rc Rs prog N (pc + 1) l ((1, jneg a) :: S) m o := by rw [jneg_eq]; exact CR_un h hp rfl (fun _ _ _ _ _ _ => rfl)
set_option maxRecDepth 16384 in
theorem CR_i2b {t1 : Nat} {a : Int} (h : CR PC X ρ rg L nL Rc Rs prog N pc l ((t1, a) :: S) m o) (hp : kat prog pc = some (.i2b, x))  : CR PC X ρ rg L nL Rc Rs prog N (pc + 1) l ((1, ji2b a) :: S) m o := by rw [ji2b_eq]; exact CR_un h hp rfl (fun _ _ _ _ _ _ => rfl)
set_option maxRecDepth 16384 in
theorem CR_i2c {t1 : Nat} {a : Int} (h : CR PC X ρ rg L nL Rc Rs prog N pc l ((t1, a) :: S) m o) (hp : kat prog pc = some (.i2c, x))  : CR PC X ρ rg L nL Rc Rs prog N (pc + 1) l ((1, ji2c a) :: S) m o := by rw [ji2c_eq]; exact CR_un h hp rfl (fun _ _ _ _ _ _ => rfl)
set_option maxRecDepth 16384 in
theorem CR_l2i_ {t1 : Nat} {a : Int} (h : CR PC X ρ rg L nL Rc Rs prog N pc l ((t1, a) :: S) m o) (hp : kat prog pc = some (.l2i, x))  : CR PC X ρ rg L nL Rc Rs prog N (pc + 1) l ((1, jl2i a) :: S) m o := by rw [jl2i_eq]; exact CR_l2i h hp
set_option maxRecDepth 16384 in
theorem CR_ladd {t1 t2 : Nat} {a b : Int} (h : CR PC X ρ rg L nL Rc Rs prog N pc l ((t2, b) :: (t1, a) :: S) m o) (hp : kat prog pc = some (.ladd, x))  : CR PC X ρ rg L nL Rc Rs prog N (pc + 1) l ((2, s64 (a + b)) :: S) m o := by rw [← o64_add]; exact CR_binL h hp rfl (fun _ _ _ _ _ _ => rfl)
set_option maxRecDepth 16384 in
theorem CR_lsub {t1 t2 : Nat} {a b : Int} (h : CR PC X ρ rg L nL Rc Rs prog N pc l ((t2, b) :: (t1, a) :: S) m o) (hp : kat prog pc = some (.lsub, x))  : CR PC X ρ rg L nL Rc Rs prog N (pc + 1) l ((2, s64 (a - b)) :: S) m o := by rw [← o64_sub]; exact CR_binL h hp rfl (fun _ _ _ _ _ _ => rfl)
set_option maxRecDepth 16384 in
theorem CR_lmul {t1 t2 : Nat} {a b : Int} (h : CR PC X ρ rg L nL Rc Rs prog N pc l ((t2, b) :: (t1, a) :: S) m o) (hp : kat prog pc = some (.lmul, x))  : CR PC X ρ rg L nL Rc Rs prog N (pc + 1) l ((2, s64 (a * b)) :: S) m o := by rw [← o64_mul]; exact CR_binL h hp rfl (fun _ _ _ _ _ _ => rfl)
set_option maxRecDepth 16384 in
theorem CR_ldiv {t1 t2 : Nat} {a b : Int} (h : CR PC X ρ rg L nL Rc Rs prog N pc l ((t2, b) :: (t1, a) :: S) m o) (hp : kat prog pc = some (.ldiv, x))  : CR PC X ρ rg L nL Rc Rs prog N (pc + 1) l ((2, jldiv a b) :: S) m o := by rw [jldiv_eq]; exact CR_dvL h hp rfl (fun _ _ _ _ _ _ => rfl)
set_option maxRecDepth 16384 in
theorem CR_lrem {t1 t2 : Nat} {a b : Int} (h : CR PC X ρ rg L nL Rc Rs prog N pc l ((t2, b) :: (t1, a) :: S) m o) (hp : kat prog pc = some (.lrem, x))  : CR PC X ρ rg L nL Rc Rs prog N (pc + 1) l ((2, jlrem a b) :: S) m o := by rw [jlrem_eq]; exact CR_dvL h hp rfl (fun _ _ _ _ _ _ => rfl)
set_option maxRecDepth 16384 in
theorem CR_lushr {t1 t2 : Nat} {a b : Int} (h : CR PC X ρ rg L nL Rc Rs prog N pc l ((t2, b) :: (t1, a) :: S) m o) (hp : kat prog pc = some (.lushr, x))  : CR PC X ρ rg L nL Rc Rs prog N (pc + 1) l ((2, jlushr a b) :: S) m o := by rw [jlushr_eq]; exact CR_lsr h hp
set_option maxRecDepth 16384 in
theorem CR_iaload {t1 t2 : Nat} {a i : Int} (h : CR PC X ρ rg L nL Rc Rs prog N pc l ((t2, i) :: (t1, a) :: S) m o) (hp : kat prog pc = some (.iaload, x)) (hL : L = 0) : CR PC X ρ rg L nL Rc Rs prog N (pc + 1) l ((1, m a i) :: S) m o := CR_ald hL h hp rfl (Or.inl rfl) (fun _ _ _ _ _ _ => rfl)
set_option maxRecDepth 16384 in
theorem CR_baload {t1 t2 : Nat} {a i : Int} (h : CR PC X ρ rg L nL Rc Rs prog N pc l ((t2, i) :: (t1, a) :: S) m o) (hp : kat prog pc = some (.baload, x)) (hL : L = 0) : CR PC X ρ rg L nL Rc Rs prog N (pc + 1) l ((1, m a i) :: S) m o := CR_ald hL (rg0 := rg) (L0 := 0) (ok := fun t => Nat.beq t 2 || Nat.beq t 4) h hp rfl (Or.inr rfl) (fun _ _ _ _ _ _ => rfl)
set_option maxRecDepth 16384 in
theorem CR_caload {t1 t2 : Nat} {a i : Int} (h : CR PC X ρ rg L nL Rc Rs prog N pc l ((t2, i) :: (t1, a) :: S) m o) (hp : kat prog pc = some (.caload, x)) (hL : L = 0) : CR PC X ρ rg L nL Rc Rs prog N (pc + 1) l ((1, m a i) :: S) m o := CR_ald hL (rg0 := []) (L0 := 0) (ok := fun t => Nat.beq t 3) h hp rfl (Or.inr rfl) (fun _ _ _ _ _ _ => rfl)
set_option maxRecDepth 16384 in
theorem jbst_ex : ∃ f : Int → Int → Int, ∀ t e, f t e = (bif Nat.beq t.toNat 2 then vp_nar .byte (Int32.ofInt e) else vp_nar .boolean (Int32.ofInt e)).toInt := ⟨fun t e => (bif Nat.beq t.toNat 2 then vp_nar .byte (Int32.ofInt e) else vp_nar .boolean (Int32.ofInt e)).toInt, fun _ _ => rfl⟩
set_option maxRecDepth 16384 in
noncomputable def jbst : Int → Int → Int := Classical.choose jbst_ex
set_option maxRecDepth 16384 in
theorem jbst_eq (t e : Int) : jbst t e = (bif Nat.beq t.toNat 2 then vp_nar .byte (Int32.ofInt e) else vp_nar .boolean (Int32.ofInt e)).toInt := Classical.choose_spec jbst_ex t e
set_option maxRecDepth 16384 in
theorem jcst_ex : ∃ f : Int → Int, ∀ e, f e = (vp_nar .char (Int32.ofInt e)).toInt := ⟨fun e => (vp_nar .char (Int32.ofInt e)).toInt, fun _ => rfl⟩
set_option maxRecDepth 16384 in
noncomputable def jcst : Int → Int := Classical.choose jcst_ex
set_option maxRecDepth 16384 in
theorem jcst_eq (e : Int) : jcst e = (vp_nar .char (Int32.ofInt e)).toInt := Classical.choose_spec jcst_ex e
set_option maxRecDepth 16384 in
theorem CR_iastore_ {t1 t2 t3 : Nat} {a i e : Int} (h : CR PC X ρ rg L nL Rc Rs prog N pc l ((t3, e) :: (t2, i) :: (t1, a) :: S) m o) (hp : kat prog pc = some (.iastore, x))  : CR PC X ρ rg L nL Rc Rs prog N (pc + 1) l S (mu m a i (s32 e)) o := by rw [s32_eq]; exact CR_ast h hp rfl (fun _ _ _ _ _ _ => rfl)
set_option maxRecDepth 16384 in
theorem CR_bastore {t1 t2 t3 : Nat} {a i e : Int} (h : CR PC X ρ rg L nL Rc Rs prog N pc l ((t3, e) :: (t2, i) :: (t1, a) :: S) m o) (hp : kat prog pc = some (.bastore, x))  : CR PC X ρ rg L nL Rc Rs prog N (pc + 1) l S (mu m a i (jbst (m a (-2)) e)) o := by rw [jbst_eq]; exact CR_ast h hp rfl (fun _ _ _ _ _ _ => rfl)
set_option maxRecDepth 16384 in
theorem CR_castore {t1 t2 t3 : Nat} {a i e : Int} (h : CR PC X ρ rg L nL Rc Rs prog N pc l ((t3, e) :: (t2, i) :: (t1, a) :: S) m o) (hp : kat prog pc = some (.castore, x))  : CR PC X ρ rg L nL Rc Rs prog N (pc + 1) l S (mu m a i (jcst e)) o := by rw [jcst_eq]; exact CR_ast h hp rfl (fun _ _ _ _ _ _ => rfl)
end CRW
section CRM
variable {PC : CL → Prop} {X : KO} {ρ : Nat → Int32} {nL Rc Rs : Nat} {prog : List KEnt} {N pc : Nat} {l : List Int} {S : List (Nat × Int)} {m : MM} {o : Instr × List (Nat × Int) × MM} {x : KX}
set_option maxRecDepth 16384 in
theorem kRg0 {ρ : Nat → Int32} : kRg [] ρ := fun i lo hi h => by simp at h
abbrev MR (X : KO) (ρ : Nat → Int32) (nL Rc Rs : Nat) (prog : List KEnt) (N pc : Nat) (l : List Int) (S : List (Nat × Int)) (m : MM) (o : Instr × List (Nat × Int) × MM) : Prop := CR (kPM X) X ρ [] 0 nL Rc Rs prog N pc l S m o
set_option maxRecDepth 16384 in
theorem MR_if {cnd : Jvm.ClassFile.Cond} {off : Int} {t t1 : Nat} {a : Int} (h : MR X ρ nL Rc Rs prog N pc l ((t1, a) :: S) m o) (hp : kat prog pc = some (.ifCond cnd off, x)) (ht : ktg pc off = some t) : (cdP cnd a 0 ∧ MR X ρ nL Rc Rs prog N t l S m o) ∨ (¬ cdP cnd a 0 ∧ MR X ρ nL Rc Rs prog N (pc + 3) l S m o) := CR_if kRg0 h hp ht
set_option maxRecDepth 16384 in
theorem MR_icmp {cnd : Jvm.ClassFile.Cond} {off : Int} {t t1 t2 : Nat} {a b : Int} (h : MR X ρ nL Rc Rs prog N pc l ((t2, b) :: (t1, a) :: S) m o) (hp : kat prog pc = some (.if_icmp cnd off, x)) (ht : ktg pc off = some t) : (cdP cnd a b ∧ MR X ρ nL Rc Rs prog N t l S m o) ∨ (¬ cdP cnd a b ∧ MR X ρ nL Rc Rs prog N (pc + 3) l S m o) := CR_icmp kRg0 h hp ht
set_option maxRecDepth 16384 in
theorem MR_invV {i : Nat} (h : MR X ρ nL Rc Rs prog N pc l S m o) (hp : kat prog pc = some (.invokevirtual i, x)) (hx : Nat.blt x.1 900000 = true) : ∃ rl m', Run X ρ x.1 (S.take (x.2.1 + 1)).reverse m rl m' ∧ MR X ρ nL Rc Rs prog N (pc + 3) l (rl ++ S.drop (x.2.1 + 1)) m' o := CR_callV h hp rfl (fun call lo st w c s => by
  have hx := Nat.blt_eq.mp hx
  unfold kdx
  dsimp only
  rw [kb_n (by omega), kb_n (by omega)]
  rfl)
set_option maxRecDepth 16384 in
theorem MR_invP {i : Nat} (h : MR X ρ nL Rc Rs prog N pc l S m o) (hp : kat prog pc = some (.invokespecial i, x)) (hx : Nat.blt x.1 900000 = true) : ∃ rl m', Run X ρ x.1 (S.take (x.2.1 + 1)).reverse m rl m' ∧ MR X ρ nL Rc Rs prog N (pc + 3) l (rl ++ S.drop (x.2.1 + 1)) m' o := CR_callV (y := (x.1, x.2.1, x.2.2.1, x.2.2.2.1, x.2.2.2.2 % 100)) h hp rfl (fun call lo st w c s => by
  have hx := Nat.blt_eq.mp hx
  unfold kdx kdo
  dsimp only
  rw [kb_n (by omega)]
  rfl)
set_option maxRecDepth 16384 in
theorem MR_invS {i : Nat} (h : MR X ρ nL Rc Rs prog N pc l S m o) (hp : kat prog pc = some (.invokestatic i, x)) (hx : Nat.blt x.1 900000 = true) : ∃ rl m', Run X ρ x.1 (S.take x.2.1).reverse m rl m' ∧ MR X ρ nL Rc Rs prog N (pc + 3) l (rl ++ S.drop x.2.1) m' o := CR_callS h hp rfl (fun call lo st w c s => by
  have hx := Nat.blt_eq.mp hx
  unfold kdx
  dsimp only
  rw [kb_n (by omega), kb_n (by omega), kb_n (by omega), kb_n (by omega)]
  rfl)
set_option maxRecDepth 16384 in
theorem MR_acopy {i : Nat} {t1 t2 t3 t4 t5 : Nat} {c0 dp r1 sp r0 : Int} (h : MR X ρ nL Rc Rs prog N pc l ((t1, c0) :: (t2, dp) :: (t3, r1) :: (t4, sp) :: (t5, r0) :: S) m o) (hp : kat prog pc = some (.invokestatic i, x)) (hx : x.1 = 999997) : MR X ρ nL Rc Rs prog N (pc + 3) l S (mcp m r1 r0 c0) o := CR_cpy h hp rfl (fun call lo st w c s => by
  unfold kdx
  dsimp only
  rw [hx]
  rfl)
/-! what an answer looks like -/
set_option maxRecDepth 16384 in
theorem Run_v {mid : Nat} {args rl : List (Nat × Int)} {m m' : MM} (h : Run X ρ mid args m rl m') {nm : MethodName} {cd : ByteArray} {nL mc msl : Nat} {prog : List KEnt} (hm : qmeths[mid]? = some (nm, cd, nL, none, mc, msl, prog)) : rl = [] := by
  obtain ⟨f, d, av, w, r, w', h1, h2, h3, h4, h5, h6⟩ := h
  cases d with
  | zero => cases h1
  | succ d =>
    unfold kcallx at h1
    rw [hm] at h1
    dsimp only at h1
    obtain ⟨hb, h1⟩ := kcond_inv h1
    split at h1
    · rename_i ig pc2 lo2 st2 w2 c2 s2 hr
      obtain ⟨hb2, h1⟩ := kcond_inv h1
      split at h1
      · rename_i rr hrr
        cases h1
        rw [← h5]
        unfold kretx at hrr
        split at hrr
        · split at hrr
          · cases hrr; rfl
          · cases hrr
        · cases hrr
        · cases hrr
        · cases hrr
        · cases hrr
      · cases h1
    · cases h1
set_option maxRecDepth 16384 in
theorem Run_i {mid : Nat} {args rl : List (Nat × Int)} {m m' : MM} (h : Run X ρ mid args m rl m') {nm : MethodName} {cd : ByteArray} {nL mc msl : Nat} {prog : List KEnt} (hm : qmeths[mid]? = some (nm, cd, nL, some .int, mc, msl, prog)) : ∃ v, rl = [(1, v)] := by
  obtain ⟨f, d, av, w, r, w', h1, h2, h3, h4, h5, h6⟩ := h
  cases d with
  | zero => cases h1
  | succ d =>
    unfold kcallx at h1
    rw [hm] at h1
    dsimp only at h1
    obtain ⟨hb, h1⟩ := kcond_inv h1
    split at h1
    · rename_i ig pc2 lo2 st2 w2 c2 s2 hr
      obtain ⟨hb2, h1⟩ := kcond_inv h1
      split at h1
      · rename_i rr hrr
        cases h1
        rw [← h5]
        unfold kretx at hrr
        split at hrr
        · cases hrr
        · split at hrr
          · obtain ⟨hi, hrr⟩ := kcond_inv hrr
            cases hrr
            rename_i v _ _
            exact ⟨kc ρ v, by show [kcc ρ v] = _; unfold kcc; rw [okI_cat v hi]⟩
          · exact absurd ‹some FieldType.int = some FieldType.boolean› (fun h => by cases h)
          · exact absurd ‹some FieldType.int = some FieldType.byte› (fun h => by cases h)
          · cases hrr
        · cases hrr
        · cases hrr
        · cases hrr
      · cases h1
    · cases h1
set_option maxRecDepth 16384 in
theorem Run_z {mid : Nat} {args rl : List (Nat × Int)} {m m' : MM} (h : Run X ρ mid args m rl m') {nm : MethodName} {cd : ByteArray} {nL mc msl : Nat} {prog : List KEnt} (hm : qmeths[mid]? = some (nm, cd, nL, some .boolean, mc, msl, prog)) : ∃ v, rl = [(1, v)] ∧ (v = 0 ∨ v = 1) := by
  obtain ⟨f, d, av, w, r, w', h1, h2, h3, h4, h5, h6⟩ := h
  cases d with
  | zero => cases h1
  | succ d =>
    unfold kcallx at h1
    rw [hm] at h1
    dsimp only at h1
    obtain ⟨hb, h1⟩ := kcond_inv h1
    split at h1
    · rename_i ig pc2 lo2 st2 w2 c2 s2 hr
      obtain ⟨hb2, h1⟩ := kcond_inv h1
      split at h1
      · rename_i rr hrr
        cases h1
        rw [← h5]
        unfold kretx at hrr
        split at hrr
        · cases hrr
        · split at hrr
          · exact absurd ‹some FieldType.boolean = some FieldType.int› (fun h => by cases h)
          · obtain ⟨hi, hrr⟩ := kcond_inv hrr
            cases hrr
            rename_i v _ _
            refine ⟨v.toInt, rfl, ?_⟩
            rcases Bool.or_eq_true_iff.mp hi with q | q
            · rw [of_decide_eq_true q]; exact Or.inl rfl
            · rw [of_decide_eq_true q]; exact Or.inr rfl
          · exact absurd ‹some FieldType.boolean = some FieldType.byte› (fun h => by cases h)
          · cases hrr
        · cases hrr
        · cases hrr
        · cases hrr
      · cases h1
    · cases h1
set_option maxRecDepth 16384 in
theorem Run_l {mid : Nat} {args rl : List (Nat × Int)} {m m' : MM} (h : Run X ρ mid args m rl m') {nm : MethodName} {cd : ByteArray} {nL mc msl : Nat} {prog : List KEnt} (hm : qmeths[mid]? = some (nm, cd, nL, some .long, mc, msl, prog)) : ∃ v, rl = [(2, v)] := by
  obtain ⟨f, d, av, w, r, w', h1, h2, h3, h4, h5, h6⟩ := h
  cases d with
  | zero => cases h1
  | succ d =>
    unfold kcallx at h1
    rw [hm] at h1
    dsimp only at h1
    obtain ⟨hb, h1⟩ := kcond_inv h1
    split at h1
    · rename_i ig pc2 lo2 st2 w2 c2 s2 hr
      obtain ⟨hb2, h1⟩ := kcond_inv h1
      split at h1
      · rename_i rr hrr
        cases h1
        rw [← h5]
        unfold kretx at hrr
        split at hrr
        · cases hrr
        · split at hrr
          · exact absurd ‹some FieldType.long = some FieldType.int› (fun h => by cases h)
          · exact absurd ‹some FieldType.long = some FieldType.boolean› (fun h => by cases h)
          · exact absurd ‹some FieldType.long = some FieldType.byte› (fun h => by cases h)
          · cases hrr
        · cases hrr
        · split at hrr
          · cases hrr
            exact ⟨_, rfl⟩
          · cases hrr
        · cases hrr
      · cases h1
    · cases h1
end CRM
