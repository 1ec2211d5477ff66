/-! The other steps are sound: longs, rests, switches by numbers, rows of chars. -/
section KROWS9
variable {p : Program} {l : Launch} {e : Env} {R : Room} {s : State} {m : MethodId} {args : Array Value} {below : List Frame} {meth : Method} {cd : Code} {Q : State → Prop} {D : va_G} {dA : Nat → ClassId} {ρ : Nat → Int32} {A : Nat → Prop} {nL : Nat} {ad0 : Nat → Nat} {n0 : Nat} {cc : ByteArray} {own mname : String} {zs : KZ} {rg : List (Int × Int)}
variable {pc : Nat} {lo : List (Nat × KV)} {st : List KV} {w : KW} {c sl : Nat} {k : KF} {Rc Rs : Nat}
theorem k_lld {i len : Nat} (hrow : ∀ (ad : Nat → Nat) (H : Heap) (locs : List Loc) (ls : Array Slot) (x : Int64), ls[i]? = some (.val (.long x)) → W p l e R s m args below meth cd H locs c sl Q (F0 m (pc + len) ls (.long x :: st.map (kV ad ρ))) → W p l e R s m args below meth cd H locs c sl Q (F0 m pc ls (st.map (kV ad ρ)))) (h : kld kisG i len pc lo st w c sl = some k) (g : kGo p l e R s m args below meth cd Q D dA ρ A nL ad0 n0 (k)) : kGo p l e R s m args below meth cd Q D dA ρ A nL ad0 n0 ((pc, lo, st, w, c, sl)) := by
  unfold kld at h
  split at h
  · rename_i v hk
    cases hv : kisG v with
    | false => rw [hv] at h; cases h
    | true =>
      rw [hv] at h; cases h
      obtain ⟨x, rfl⟩ := kisG_eq hv
      intro ad H locs ls hat
      exact hrow ad H locs ls _ (kL_get hat.1 hk) (g ad H locs ls hat)
  · cases h
theorem k_lst2 {i len : Nat} (hrow : ∀ (ad : Nat → Nat) (H : Heap) (locs : List Loc) (ls : Array Slot) (x : Int64) (rest : List Value) (lv lv' : List (Nat × Value)), lv_has ls nL lv → i + 1 < nL → (i, Value.long x) :: lv.filter (fun q => !(q.1 == i) && (!(q.1 == i + 1) && !(q.1 + 1 == i && q.2.category == 2))) = lv' → (∀ ls' : Array Slot, lv_has ls' nL lv' → W p l e R s m args below meth cd H locs c sl Q (F0 m (pc + len) ls' rest)) → W p l e R s m args below meth cd H locs c sl Q (F0 m pc ls (.long x :: rest))) (h : kst2 i len nL pc lo st w c sl = some k) (g : kGo p l e R s m args below meth cd Q D dA ρ A nL ad0 n0 (k)) : kGo p l e R s m args below meth cd Q D dA ρ A nL ad0 n0 ((pc, lo, st, w, c, sl)) := by
  unfold kst2 at h
  split at h
  · rename_i x rest
    obtain ⟨hi, h⟩ := kcond_inv h
    cases h
    intro ad H locs ls hat
    have e1 := klo2_c ad ρ lo i (.inl (.long x))
    exact hrow ad H locs ls _ _ _ _ hat.1 (Nat.ble_eq.mp hi) e1 (fun ls' hl' => g ad H locs ls' ⟨hl', hat.2⟩)
  · cases h
theorem k_binL {f : Int64 → Int64 → Int64} (hrow : ∀ (H : Heap) (locs : List Loc) (ls : Array Slot) (x y : Int64) (rest : List Value), W p l e R s m args below meth cd H locs c sl Q (F0 m (pc + 1) ls (.long (f x y) :: rest)) → W p l e R s m args below meth cd H locs c sl Q (F0 m pc ls (.long y :: .long x :: rest))) (h : kbinL f pc lo st w c sl = some k) (g : kGo p l e R s m args below meth cd Q D dA ρ A nL ad0 n0 (k)) : kGo p l e R s m args below meth cd Q D dA ρ A nL ad0 n0 ((pc, lo, st, w, c, sl)) := by
  unfold kbinL at h
  split at h
  · cases h
    exact fun ad H locs ls hat => hrow H locs ls _ _ _ (g ad H locs ls hat)
  · cases h
theorem k_dvL {f : Int64 → Int64 → Int64} (hrow : ∀ (H : Heap) (locs : List Loc) (ls : Array Slot) (x y : Int64) (rest : List Value), ¬ y = 0 → W p l e R s m args below meth cd H locs c sl Q (F0 m (pc + 1) ls (.long (f x y) :: rest)) → W p l e R s m args below meth cd H locs c sl Q (F0 m pc ls (.long y :: .long x :: rest))) (h : kdvL f pc lo st w c sl = some k) (g : kGo p l e R s m args below meth cd Q D dA ρ A nL ad0 n0 (k)) : kGo p l e R s m args below meth cd Q D dA ρ A nL ad0 n0 ((pc, lo, st, w, c, sl)) := by
  unfold kdvL at h
  split at h
  · rename_i y x rest
    cases hb : decide (y = 0) with
    | true => rw [hb] at h; cases h
    | false =>
      rw [hb] at h
      cases h
      exact fun ad H locs ls hat => hrow H locs ls _ _ _ (of_decide_eq_false hb) (g ad H locs ls hat)
  · cases h
theorem k_lsr (F : kFix p s m args meth cd cc nL own mname D dA A zs ad0) (hd : decode cc pc = .ok (.lushr, 1)) (h : klsr pc lo st w c sl = some k) (g : kGo p l e R s m args below meth cd Q D dA ρ A nL ad0 n0 (k)) : kGo p l e R s m args below meth cd Q D dA ρ A nL ad0 n0 ((pc, lo, st, w, c, sl)) := by
  unfold klsr at h
  split at h
  · cases h
    exact fun ad H locs ls hat => lv_lushr F.1 F.2.1 hd rfl (g ad H locs ls hat)
  · cases h
theorem k_cmpL (F : kFix p s m args meth cd cc nL own mname D dA A zs ad0) (hd : decode cc pc = .ok (.lcmp, 1)) (h : kcmpL pc lo st w c sl = some k) (g : kGo p l e R s m args below meth cd Q D dA ρ A nL ad0 n0 (k)) : kGo p l e R s m args below meth cd Q D dA ρ A nL ad0 n0 ((pc, lo, st, w, c, sl)) := by
  unfold kcmpL at h
  split at h
  · cases h
    exact fun ad H locs ls hat => W.lcmp F.1 F.2.1 hd (g ad H locs ls hat)
  · cases h
theorem k_i2l (F : kFix p s m args meth cd cc nL own mname D dA A zs ad0) (hd : decode cc pc = .ok (.i2l, 1)) (h : ki2l pc lo st w c sl = some k) (g : kGo p l e R s m args below meth cd Q D dA ρ A nL ad0 n0 (k)) : kGo p l e R s m args below meth cd Q D dA ρ A nL ad0 n0 ((pc, lo, st, w, c, sl)) := by
  unfold ki2l at h
  split at h
  · cases h
    exact fun ad H locs ls hat => lv_i2l F.1 F.2.1 hd rfl (g ad H locs ls hat)
  · cases h
theorem k_l2i (F : kFix p s m args meth cd cc nL own mname D dA A zs ad0) (hd : decode cc pc = .ok (.l2i, 1)) (h : kl2i pc lo st w c sl = some k) (g : kGo p l e R s m args below meth cd Q D dA ρ A nL ad0 n0 (k)) : kGo p l e R s m args below meth cd Q D dA ρ A nL ad0 n0 ((pc, lo, st, w, c, sl)) := by
  unfold kl2i at h
  split at h
  · cases h
    exact fun ad H locs ls hat => lv_l2i F.1 F.2.1 hd rfl (g ad H locs ls hat)
  · cases h
theorem k_rem (F : kFix p s m args meth cd cc nL own mname D dA A zs ad0) (hd : decode cc pc = .ok (.irem, 1)) (h : krem pc lo st w c sl = some k) (g : kGo p l e R s m args below meth cd Q D dA ρ A nL ad0 n0 (k)) : kGo p l e R s m args below meth cd Q D dA ρ A nL ad0 n0 ((pc, lo, st, w, c, sl)) := by
  unfold krem at h
  split at h
  · rename_i y x rest
    cases hb : decide (y = 0) with
    | true => rw [hb] at h; cases h
    | false =>
      rw [hb] at h
      cases h
      exact fun ad H locs ls hat => lv_irem F.1 F.2.1 hd (of_decide_eq_false hb) (g ad H locs ls hat)
  · cases h
theorem k_lk (F : kFix p s m args meth cd cc nL own mname D dA A zs ad0) {dflt : Int} {ps : Array (Int × Int)} {len : Nat} (hd : decode cc pc = .ok (.lookupswitch dflt ps, len)) (hp : (ps.toList.zip (ps.toList.drop 1)).all (fun (a, next) => a.1 < next.1) = true) (h : klk dflt ps.toList pc lo st w c sl = some k) (g : kGo p l e R s m args below meth cd Q D dA ρ A nL ad0 n0 (k)) : kGo p l e R s m args below meth cd Q D dA ρ A nL ad0 n0 ((pc, lo, st, w, c, sl)) := by
  unfold klk at h
  split at h
  · split at h
    · rename_i t ht
      cases h
      exact fun ad H locs ls hat => lv_lookup F.1 F.2.1 hd hp rfl (ktg_ok ht) (g ad H locs ls hat)
    · cases h
  · cases h
theorem k_cald (F : kFix p s m args meth cd cc nL own mname D dA A zs ad0) (hd : decode cc pc = .ok (.caload, 1)) (h : kald [] 0 (fun t => Nat.beq t 3) pc lo st w c sl = some k) (g : kGo p l e R s m args below meth cd Q D dA ρ A nL ad0 n0 (k)) : kGo p l e R s m args below meth cd Q D dA ρ A nL ad0 n0 ((pc, lo, st, w, c, sl)) := by
  unfold kald at h
  split at h
  · rename_i i v rest
    cases hb : kscr v && kinB i 0 with
    | true =>
      have hb := Bool.and_eq_true_iff.mp hb
      exact absurd (Nat.not_le.mp fun q => kinB_ok hb.2 (Or.inr q)) (Nat.not_lt_zero i.toNatClampNeg)
    | false =>
      rw [hb] at h
      simp only [cond_false] at h
      split at h
      · rename_i a
        split at h
        · rename_i t n l1 d1 hw
          cases ht : Nat.beq t 3 && kinB i n with
          | false => rw [ht] at h; cases h
          | true =>
            rw [ht] at h; cases h
            have ht := Bool.and_eq_true_iff.mp ht
            intro ad H locs ls hat
            obtain ⟨q0, h1, -⟩ := kW_get (dA := dA) (ad := ad) (ρ := ρ) hw
            have g1 := g ad H locs ls hat
            simp only [List.map_cons] at g1
            rw [kofI_ok] at g1
            have e := kb_t ht.1
            subst e
            exact va_cald (ws := kW dA ad ρ w) F.1 F.2.1 F.2.2.2.2.2.1 hat.2.1 q0 3 h1 rfl (kinB_ok ht.2) hd g1
        · cases h
      · cases h
  · cases h
theorem k_cast (F : kFix p s m args meth cd cc nL own mname D dA A zs ad0) (hd : decode cc pc = .ok (.castore, 1)) (h : kast (fun t => Nat.beq t 3) (fun _ a => vp_nar .char a) pc lo st w c sl = some k) (g : kGo p l e R s m args below meth cd Q D dA ρ A nL ad0 n0 (k)) : kGo p l e R s m args below meth cd Q D dA ρ A nL ad0 n0 ((pc, lo, st, w, c, sl)) := by
  unfold kast at h
  split at h
  · rename_i x i a rest
    split at h
    · rename_i t n l1 d1 hw
      cases ht : Nat.beq t 3 && (kinB i n && kisI x) with
      | false => rw [ht] at h; cases h
      | true =>
        rw [ht] at h; cases h
        simp only [Bool.and_eq_true] at ht
        obtain ⟨t1, t2, t3⟩ := ht
        intro ad H locs ls hat
        obtain ⟨q0, h1, h2⟩ := kW_get (dA := dA) (ad := ad) (ρ := ρ) hw
        simp only [List.map_cons]
        rw [kisI_eq t3]
        have e := kb_t t1
        subst e
        refine va_cast (ws := kW dA ad ρ w) F.1 F.2.1 F.2.2.2.2.2.1 hat.2.1 hat.2.2.1 hat.2.2.2.1 q0 3 h1 rfl (kinB_ok t2) hd (k_put h2 ?_ hat g)
        rw [kset_f l1 d1 i.toNatClampNeg (kop1I (fun a => vp_nar .char a) (ktoI x)) (vp_nar .char (kiv ρ x)) (by rw [kop1I_ok, ktoI_ok])]
        rfl
    · cases h
  · cases h
end KROWS9
