/-! More steps that are sound: is it there, the greater, without its sign, long constants, references compared. -/
section KROWS10
variable {p : Program} {l : Launch} {e : Env} {R : Room} {s : State} {m : MethodId} {args : Array Value} {below : List Frame} {meth : Method} {cd : Code} {Q : State → Prop} {D : va_G} {dA : Nat → ClassId} {ρ : Nat → Int32} {A : Nat → Prop} {nL : Nat} {ad0 : Nat → Nat} {n0 : Nat} {cc : ByteArray} {own mname : String} {zs : KZ} {rg : List (Int × Int)}
variable {pc : Nat} {lo : List (Nat × KV)} {st : List KV} {w : KW} {c sl : Nat} {k : KF} {Rc Rs : Nat}
theorem k_ifnn (F : kFix p s m args meth cd cc nL own mname D dA A zs ad0) {off : Int} (hd : decode cc pc = .ok (.ifnonnull off, 3)) (h : kifnn off pc lo st w c sl = some k) (g : kGo p l e R s m args below meth cd Q D dA ρ A nL ad0 n0 (k)) : kGo p l e R s m args below meth cd Q D dA ρ A nL ad0 n0 ((pc, lo, st, w, c, sl)) := by
  unfold kifnn at h
  split at h
  · rename_i x rest
    split at h
    · rename_i hx
      cases h
      intro ad H locs ls hat
      simp only [List.map_cons]
      rw [krf_eq hx ad]
      exact lv_ifnonnullN F.1 F.2.1 hd (g ad H locs ls hat)
    · rename_i i hx
      split at h
      · rename_i t ht
        cases h
        intro ad H locs ls hat
        simp only [List.map_cons]
        rw [krf_eq hx ad]
        exact lv_ifnonnull F.1 F.2.1 hd (ktg_ok ht) (g ad H locs ls hat)
      · cases h
    · cases h
  · cases h
theorem k_max (F : kFix p s m args meth cd cc nL own mname D dA A zs ad0) (hRc : Rc ≤ R.cells) (hRs : Rs ≤ R.slots) (hf : 1 ≤ R.frames) (hl : 40 ≤ R.locals) {i : Nat} (h1 : Cond.methodLink own i Lib.Math.max.name ∈ LT) (h2 : Cond.static Lib.Math.max.name ∈ LT) (h3 : Cond.initialized "java/lang/Math" ∈ LT) (h4 : Cond.code Lib.Math.max.name Lib.Math.max.code 2 (some .int) ∈ LT) (hd : decode cc pc = .ok (.invokestatic i, 3)) (h : kmax rg Rc Rs pc lo st w c sl = some k) (g : kGo p l e R s m args below meth cd Q D dA ρ A nL ad0 n0 (k)) : kGo p l e R s m args below meth cd Q D dA ρ A nL ad0 n0 ((pc, lo, st, w, c, sl)) := by
  unfold kmax at h
  split at h
  · rename_i y x rest
    obtain ⟨hc, h⟩ := kcond_inv h
    cases h
    simp only [Bool.and_eq_true] at hc
    obtain ⟨c3, c4, c5⟩ := hc
    have c3 := Nat.ble_eq.mp c3
    have c4 := Nat.ble_eq.mp c4
    have c5 := Nat.ble_eq.mp c5
    have hts := F.2.2.2.2.1
    intro ad H locs ls hat
    exact va_mmax F.1 F.2.1 (F.2.2.1.trans hat.1.1.symm) F.2.2.2.1 (hts _ h1) (hts _ h2) (hts _ h3) (hts _ h4) hf (by rw [kcats_eq]; omega) (Nat.le_trans c3 hRc) (Nat.le_trans c4 hRs) hd (g ad H locs ls hat)
  · cases h
theorem k_abs (F : kFix p s m args meth cd cc nL own mname D dA A zs ad0) (hRc : Rc ≤ R.cells) (hRs : Rs ≤ R.slots) (hf : 1 ≤ R.frames) (hl : 40 ≤ R.locals) {i : Nat} (h1 : Cond.methodLink own i Lib.Math.abs.name ∈ LT) (h2 : Cond.static Lib.Math.abs.name ∈ LT) (h3 : Cond.initialized "java/lang/Math" ∈ LT) (h4 : Cond.code Lib.Math.abs.name Lib.Math.abs.code 1 (some .int) ∈ LT) (hd : decode cc pc = .ok (.invokestatic i, 3)) (h : kabs Rc Rs pc lo st w c sl = some k) (g : kGo p l e R s m args below meth cd Q D dA ρ A nL ad0 n0 (k)) : kGo p l e R s m args below meth cd Q D dA ρ A nL ad0 n0 ((pc, lo, st, w, c, sl)) := by
  unfold kabs at h
  split at h
  · rename_i x rest
    obtain ⟨hc, h⟩ := kcond_inv h
    cases h
    simp only [Bool.and_eq_true] at hc
    obtain ⟨c3, c4, c5⟩ := hc
    have c3 := Nat.ble_eq.mp c3
    have c4 := Nat.ble_eq.mp c4
    have c5 := Nat.ble_eq.mp c5
    have hts := F.2.2.2.2.1
    intro ad H locs ls hat
    exact va_mabs F.1 F.2.1 (F.2.2.1.trans hat.1.1.symm) F.2.2.2.1 (hts _ h1) (hts _ h2) (hts _ h3) (hts _ h4) hf (by rw [kcats_eq]; omega) (Nat.le_trans c3 hRc) (Nat.le_trans c4 hRs) hd (g ad H locs ls hat)
  · cases h
theorem k_ldc2 (F : kFix p s m args meth cd cc nL own mname D dA A zs ad0) {i : Nat} {v : Int64} (h1 : Cond.constantLong own i v ∈ LT) (hd : decode cc pc = .ok (.ldc2_w i, 3)) (h : some (pc + 3, lo, (Sum.inl (Value.long v) : KV) :: st, w, c, sl) = some k) (g : kGo p l e R s m args below meth cd Q D dA ρ A nL ad0 n0 (k)) : kGo p l e R s m args below meth cd Q D dA ρ A nL ad0 n0 ((pc, lo, st, w, c, sl)) := by
  cases h
  exact fun ad H locs ls hat => lv_ldc2 F.1 F.2.1 F.2.2.2.1 (F.2.2.2.2.1 _ h1) hd (g ad H locs ls hat)
theorem kxreq_ok {er : Nat → Nat → Bool} (hE : ∀ i j, 1000000 ≤ i → 1000000 ≤ j → (er i j = true ↔ ad0 i = ad0 j)) {a b : KV} {r : Bool} (h : kxreq er a b = some r) : ∃ oa ob, krf a = some oa ∧ krf b = some ob ∧ ∀ ad : Nat → Nat, (∀ i, 1000000 ≤ i → ad i = ad0 i) → (r = true ↔ oa.map ad = ob.map ad) := by
  unfold kxreq at h
  split at h
  · rename_i h1 h2
    cases h
    exact ⟨_, _, h1, h2, fun ad _ => ⟨fun _ => rfl, fun _ => rfl⟩⟩
  · rename_i j h1 h2
    cases h
    exact ⟨_, _, h1, h2, fun ad _ => ⟨fun q => absurd q Bool.false_ne_true, fun q => by cases q⟩⟩
  · rename_i j h1 h2
    cases h
    exact ⟨_, _, h1, h2, fun ad _ => ⟨fun q => absurd q Bool.false_ne_true, fun q => by cases q⟩⟩
  · rename_i i j h1 h2
    cases q : Nat.beq i j with
    | false =>
      rw [q] at h
      simp only [cond_false] at h
      obtain ⟨h3, h⟩ := kcond_inv h
      cases h
      have h3 := Bool.and_eq_true_iff.mp h3
      have hi := Nat.ble_eq.mp h3.1
      have hj := Nat.ble_eq.mp h3.2
      refine ⟨_, _, h1, h2, fun ad had => ?_⟩
      rw [hE i j hi hj]
      show ad0 i = ad0 j ↔ some (ad i) = some (ad j)
      rw [had i hi, had j hj]
      exact ⟨fun z => by rw [z], fun z => Option.some.inj z⟩
    | true =>
      rw [q] at h; cases h
      have e := kb_t q
      subst e
      exact ⟨_, _, h1, h2, fun ad _ => ⟨fun _ => rfl, fun _ => rfl⟩⟩
  · cases h
theorem k_xacmp (F : kFix p s m args meth cd cc nL own mname D dA A zs ad0) {er : Nat → Nat → Bool} (hE : ∀ i j, 1000000 ≤ i → 1000000 ≤ j → (er i j = true ↔ ad0 i = ad0 j)) {cnd : Jvm.ClassFile.ACond} {off : Int} (hd : decode cc pc = .ok (.if_acmp cnd off, 3)) (h : kxacmp er cnd off pc lo st w c sl = some k) (g : kGo p l e R s m args below meth cd Q D dA ρ A nL ad0 n0 (k)) : kGo p l e R s m args below meth cd Q D dA ρ A nL ad0 n0 ((pc, lo, st, w, c, sl)) := by
  unfold kxacmp at h
  split at h
  · rename_i y x rest
    intro ad H locs ls hat
    have hx : ∀ i, 1000000 ≤ i → ad i = ad0 i := fun i hi => hat.2.2.2.2.2 i (Or.inr hi)
    cases cnd with
    | eq =>
      dsimp only at h
      unfold kbr at h
      split at h
      · rename_i t ht
        split at h
        · rename_i b hb
          obtain ⟨ox, oy, h1, h2, h3⟩ := kxreq_ok hE hb
          have h3 := h3 ad hx
          simp only [List.map_cons]
          rw [krf_eq h1 ad, krf_eq h2 ad]
          cases b with
          | true => cases h; exact lv_acmp_eq F.1 F.2.1 hd (ktg_ok ht) (fun _ => g ad H locs ls hat) (fun q => absurd (h3.mp rfl) q)
          | false => cases h; exact lv_acmp_eq F.1 F.2.1 hd (ktg_ok ht) (fun q => absurd (h3.mpr q) Bool.false_ne_true) (fun _ => g ad H locs ls hat)
        · cases h
      · cases h
    | ne =>
      dsimp only at h
      cases hb : kxreq er x y with
      | none =>
        rw [hb] at h
        unfold kbr at h
        split at h <;> cases h
      | some b =>
        rw [hb] at h
        unfold kbr at h
        split at h
        · rename_i t ht
          obtain ⟨ox, oy, h1, h2, h3⟩ := kxreq_ok hE hb
          have h3 := h3 ad hx
          simp only [List.map_cons]
          rw [krf_eq h1 ad, krf_eq h2 ad]
          cases b with
          | true => cases h; exact lv_acmp_ne F.1 F.2.1 hd (ktg_ok ht) (fun q => absurd (h3.mp rfl) q) (fun _ => g ad H locs ls hat)
          | false => cases h; exact lv_acmp_ne F.1 F.2.1 hd (ktg_ok ht) (fun _ => g ad H locs ls hat) (fun q => absurd (h3.mpr q) Bool.false_ne_true)
        · cases h
  · cases h
end KROWS10
