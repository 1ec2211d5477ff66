section KROWS3
variable {p : Program} {l : Launch} {e : Env} {R : Room} {s : State} {m : MethodId} {args : Array Value} {below : List Frame} {meth : Method} {cd : Code} {Q : State → Prop} {D : va_G} {dA : Nat → ClassId} {ρ : Nat → Int32} {A : Nat → Prop} {nL : Nat} {ad0 : Nat → Nat} {n0 : Nat} {cc : ByteArray} {own mname : String} {zs : KZ} {rg : List (Int × Int)}
variable {pc : Nat} {lo : List (Nat × KV)} {st : List KV} {w : KW} {c sl : Nat} {k : KF} {Rc Rs : Nat}
/-- the script, as the law's frame sees it -/
def kSc (s : State) (A : Nat → Prop) (ad0 : Nat → Nat) (ρ : Nat → Int32) (L : Nat) : Prop := 0 < L → ∃ (b : Nat) (xs : Nat → Int32), va_X b (L - 1) xs s s.heap ∧ b < s.heap.size ∧ ¬ A b ∧ ad0 1000000 = b ∧ ∀ j, j < L - 1 → ρ j = xs j
theorem kfresh_ok {n : Nat} (h : kfresh c sl n Rc Rs lo st w = true) : c + 1 ≤ Rc ∧ sl + n ≤ Rs ∧ kfr 0 w < 1000000 ∧ kokW (kfr 0 w) w = true ∧ kokS (kfr 0 w) st = true ∧ kokL (kfr 0 w) lo = true := by
  unfold kfresh at h
  simp only [Bool.and_eq_true] at h
  obtain ⟨h1, h2, h3, h4, h5, h6⟩ := h
  exact ⟨Nat.ble_eq.mp h1, Nat.ble_eq.mp h2, Nat.ble_eq.mp h3, h4, h5, h6⟩
theorem k_born {n : Nat} {x : KE} {pc2 c2 s2 : Nat} {ad : Nat → Nat} {H : Heap} {locs : List Loc} {ls : Array Slot} (hf : kfresh c sl n Rc Rs lo st w = true) (hat : kAt s D dA ρ A nL ad0 n0 ad ls lo w H locs) (hx : ∀ q, kE dA (kup ad (kfr 0 w) q) ρ x = kE dA ad ρ x) (g : kGo p l e R s m args below meth cd Q D dA ρ A nL ad0 n0 ((pc2, lo, .inl (.ref (kfr 0 w)) :: st, kwp x w, c2, s2))) :
    ∀ (q : Nat) (H1 : Heap), va_P D kCl (kW dA ad ρ w ++ [(q, kE dA ad ρ x)]) H1 → va_D A (kW dA ad ρ w ++ [(q, kE dA ad ρ x)]) → va_S A s.heap H1 locs → W p l e R s m args below meth cd H1 locs c2 s2 Q (F0 m pc2 ls (.ref q :: st.map (kV ad ρ))) := by
  intro q H1 p1 p2 p3
  obtain ⟨-, -, h3, h4, h5, h6⟩ := kfresh_ok hf
  obtain ⟨hl, hP, hD, hS, hn, hE⟩ := hat
  rw [kW_push q x h3 h4 (hx q)] at p1 p2
  have hup : kExt (kfr 0 w) ad (kup ad (kfr 0 w) q) := kExt.up q h3
  have g1 := g (kup ad (kfr 0 w) q) H1 locs ls ⟨by rw [kL_ext hup h6]; exact hl, p1, p2, p3, by rw [kfr_push]; exact Nat.le_succ_of_le hn, hE.tr hup hn⟩
  simp only [List.map_cons] at g1
  rw [kS_ext hup h5] at g1
  have e1 : kV (kup ad (kfr 0 w) q) ρ (.inl (.ref (kfr 0 w))) = .ref q := by
    show Value.ref (kup ad (kfr 0 w) q (kfr 0 w)) = _
    unfold kup
    rw [if_pos rfl]
  rw [e1] at g1
  exact g1
theorem kdef_ok (ad : Nat → Nat) (t : FieldType) : kV ad ρ (.inl (defaultValue t)) = defaultValue t := by
  cases t <;> rfl
theorem k_new (F : kFix p s m args meth cd cc nL own mname D dA A zs ad0) (hRc : Rc ≤ R.cells) (hRs : Rs ≤ R.slots) {ci i : Nat} {q : vw_C} {tys : List FieldType} (hq : kCl[ci]? = some q) (ht : kTys[ci]? = some tys) (hN : q.2.2 = tys.length) (h1 : Cond.classLink own i q.1 ∈ LT) (h2 : Cond.instantiable q.1 q.2.2 ∈ LT) (h3 : Cond.initialized q.1 ∈ LT) (hd : decode cc pc = .ok (.new i, 3)) (h : knew ci Rc Rs pc lo st w c sl = some k) (g : kGo p l e R s m args below meth cd Q D dA ρ A nL ad0 n0 (k)) : kGo p l e R s m args below meth cd Q D dA ρ A nL ad0 n0 ((pc, lo, st, w, c, sl)) := by
  unfold knew at h
  rw [ht] at h
  dsimp only at h
  cases hf : kfresh c sl tys.length Rc Rs lo st w with
  | false => rw [hf] at h; cases h
  | true =>
    rw [hf] at h; cases h
    obtain ⟨f1, f2, -⟩ := kfresh_ok hf
    intro ad H locs ls hat
    obtain ⟨C, T, N⟩ := q
    have hN : N = tys.length := hN
    subst hN
    obtain ⟨G1, G2, G3⟩ := kCl_ok ci _ hq
    have hts := F.2.2.2.2.1
    refine va_new (ws := kW dA ad ρ w) (fs := (tys.map (fun t => (.inl (defaultValue t) : KV))).map (kV ad ρ)) F.1 F.2.1 hts G1 (kTy ci) G2 F.2.2.2.1 (hts _ h1) (hts _ h2) (hts _ h3) F.2.2.2.2.2.1 hat.2.1 hat.2.2.1 hat.2.2.2.1 F.2.2.2.2.2.2.1 hq ?_ (Nat.le_trans f1 hRc) (Nat.le_trans f2 hRs) hd (k_born hf hat ?_ g)
    · intro j hj
      have hj : j < tys.length := hj
      unfold vp_V kTy
      simp only [List.getD_eq_getElem?_getD, List.getElem?_map, ht, Option.getD_some, List.getElem?_eq_getElem hj, Option.map_some, kdef_ok]
    · intro q
      show (Sum.inr (ci, (tys.map (fun t => (.inl (defaultValue t) : KV))).map (kV (kup ad (kfr 0 w) q) ρ)) : va_E) = .inr (ci, (tys.map (fun t => (.inl (defaultValue t) : KV))).map (kV ad ρ))
      simp only [List.map_map]
      congr 3
      funext t
      simp only [Function.comp_apply, kdef_ok]
theorem kbl {n : Nat} (h : n < 100000) (b : Nat) (hb : b ≤ 8) : n * b ≤ 536870912 := Nat.le_trans (Nat.mul_le_mul (Nat.le_of_lt h) hb) (by decide)
theorem kra_eq {U : State} {a b : ClassId} {ty : FieldType} (h1 : va_RA U a ty) (h2 : va_RA U b ty) : a = b := by
  cases ty with
  | object C =>
    obtain ⟨_, _, _, _, _, q1⟩ := h1
    obtain ⟨_, _, _, _, _, q2⟩ := h2
    exact Option.some.inj (q1.symm.trans q2)
  | _ => exact Option.some.inj (h1.symm.trans h2)
theorem k_cA {U : State} {t : Nat} {cA : ClassId} {ty : FieldType} (ht : (kTyL dA)[t]? = some (dA t, ty)) (hK : va_K D kCl (kTyL dA) U) (hK2 : va_K D kCl (kTyL dA ++ [(cA, ty)]) U) : cA = dA t :=
  kra_eq (hK2.2 (kTyL dA).length (cA, ty) (by rw [List.getElem?_append_right (Nat.le_refl _), Nat.sub_self]; rfl)).2 (hK.2 t _ ht).2
theorem kEl_ty {t : Nat} {ty : FieldType} (h : kEl[t]? = some ty) : (kTyL dA)[t]? = some (dA t, ty) := by
  match t, h with
  | 0, h => cases h; rfl
  | 1, h => cases h; rfl
  | 2, h => cases h; rfl
  | 3, h => cases h; rfl
  | 4, h => cases h; rfl
  | 5, h => cases h; rfl
  | 6, h => cases h; rfl
  | n + 7, h => simp [kEl] at h
theorem k_newa (F : kFix p s m args meth cd cc nL own mname D dA A zs ad0) (hRc : Rc ≤ R.cells) (hRs : Rs ≤ R.slots) {t : Nat} {at0 : ArrayType} (ht : kEl[t]? = some (newarray.typeOf at0)) (h1 : Cond.arrayClass (newarray.typeOf at0) ∈ LT) (hd : decode cc pc = .ok (.newarray at0, 2)) (h : knewa false t 2 Rc Rs pc lo st w c sl = some k) (g : kGo p l e R s m args below meth cd Q D dA ρ A nL ad0 n0 (k)) : kGo p l e R s m args below meth cd Q D dA ρ A nL ad0 n0 ((pc, lo, st, w, c, sl)) := by
  unfold knewa at h
  split at h
  · rename_i n rest
    cases hb : (!decide (n < 0) && (Nat.blt n.toNatClampNeg 100000 && (kfresh c sl n.toNatClampNeg Rc Rs lo rest w && (Nat.blt t 7 && (Nat.ble 5 t == false))))) with
    | false => rw [hb] at h; cases h
    | true =>
      rw [hb] at h; cases h
      simp only [Bool.and_eq_true, Bool.not_eq_true', decide_eq_false_iff_not] at hb
      obtain ⟨b1, b2, hf, b3, b4⟩ := hb
      have b2 : n.toNatClampNeg < 100000 := Nat.ble_eq.mp b2
      obtain ⟨f1, f2, -⟩ := kfresh_ok hf
      have hts := F.2.2.2.2.1
      intro ad H locs ls hat
      have key : ∀ (a0 : vp_A), (∀ cA : ClassId, vp_cell cA a0 = arrV cA n.toNatClampNeg (fun _ => defaultValue (newarray.typeOf at0))) → kE dA ad ρ (.inl (karr0 t n.toNatClampNeg)) = .inl (dA t, a0) → (∀ q, kE dA (kup ad (kfr 0 w) q) ρ (.inl (karr0 t n.toNatClampNeg)) = kE dA ad ρ (.inl (karr0 t n.toNatClampNeg))) → W p l e R s m args below meth cd H locs c sl Q (F0 m pc ls (((.inl (.int n) :: rest : List KV)).map (kV ad ρ))) := by
        intro a0 ha he hq
        refine va_newa (ws := kW dA ad ρ w) (a0 := a0) F.1 F.2.1 (hts _ h1) rfl F.2.2.2.2.2.1 hat.2.1 hat.2.2.1 hat.2.2.2.1 F.2.2.2.2.2.2.1 ha b1 rfl (kbl b2 _ (by cases at0 <;> decide)) (Nat.le_trans f1 hRc) (Nat.le_trans f2 hRs) hd ?_
        intro q cA H1 hK2 p1 p2 p3
        have ec := k_cA (kEl_ty ht) F.2.2.2.2.2.1 hK2
        subst ec
        rw [← he] at p1 p2
        exact k_born hf hat hq g q H1 p1 p2 p3
      match t, ht with
      | 0, ht => exact key (_, .inl (fun _ => 0)) (fun cA => by rw [← Option.some.inj ht]; rfl) rfl (fun _ => rfl)
      | 1, ht => exact key (_, .inr (.inl (fun _ => 0))) (fun cA => by rw [← Option.some.inj ht]; rfl) rfl (fun _ => rfl)
      | 2, ht => exact key (_, .inl (fun _ => 0)) (fun cA => by rw [← Option.some.inj ht]; rfl) rfl (fun _ => rfl)
      | 3, ht => exact key (_, .inl (fun _ => 0)) (fun cA => by rw [← Option.some.inj ht]; rfl) rfl (fun _ => rfl)
      | 4, ht => exact key (_, .inl (fun _ => 0)) (fun cA => by rw [← Option.some.inj ht]; rfl) rfl (fun _ => rfl)
      | 5, ht => exact absurd b4 (by decide)
      | 6, ht => exact absurd b4 (by decide)
      | n + 7, ht => simp [kEl] at ht
  · cases h
theorem k_newq (F : kFix p s m args meth cd cc nL own mname D dA A zs ad0) (hRc : Rc ≤ R.cells) (hRs : Rs ≤ R.slots) {t i : Nat} {C : String} (ht : kEl[t]? = some (.object C)) (h56 : t = 5 ∨ t = 6) (h1 : Cond.classLink own i C ∈ LT) (h2 : va_AO C s) (hd : decode cc pc = .ok (.anewarray i, 3)) (h : knewa true t 3 Rc Rs pc lo st w c sl = some k) (g : kGo p l e R s m args below meth cd Q D dA ρ A nL ad0 n0 (k)) : kGo p l e R s m args below meth cd Q D dA ρ A nL ad0 n0 ((pc, lo, st, w, c, sl)) := by
  unfold knewa at h
  split at h
  · rename_i n rest
    cases hb : (!decide (n < 0) && (Nat.blt n.toNatClampNeg 100000 && (kfresh c sl n.toNatClampNeg Rc Rs lo rest w && (Nat.blt t 7 && (Nat.ble 5 t == true))))) with
    | false => rw [hb] at h; cases h
    | true =>
      rw [hb] at h; cases h
      simp only [Bool.and_eq_true, Bool.not_eq_true', decide_eq_false_iff_not] at hb
      obtain ⟨b1, b2, hf, b3, b4⟩ := hb
      have b2 : n.toNatClampNeg < 100000 := Nat.ble_eq.mp b2
      obtain ⟨f1, f2, -⟩ := kfresh_ok hf
      have hts := F.2.2.2.2.1
      intro ad H locs ls hat
      have he : ∀ ad : Nat → Nat, kE dA ad ρ (.inl (karr0 t n.toNatClampNeg)) = .inl (dA t, n.toNatClampNeg, .inr (.inr (.inr (.inr (fun _ => none))))) := by
        intro ad
        rcases h56 with rfl | rfl <;> rfl
      refine va_newq (ws := kW dA ad ρ w) F.1 F.2.1 F.2.2.2.1 (hts _ h1) h2 F.2.2.2.2.2.1 hat.2.1 hat.2.2.1 hat.2.2.2.1 F.2.2.2.2.2.2.1 b1 rfl (kbl b2 _ (by decide)) (Nat.le_trans f1 hRc) (Nat.le_trans f2 hRs) hd ?_
      intro q cA H1 hK2 p1 p2 p3
      have ec := k_cA (kEl_ty ht) F.2.2.2.2.2.1 hK2
      subst ec
      rw [← he ad] at p1 p2
      exact k_born hf hat (fun q => by rw [he, he]) g q H1 p1 p2 p3
  · cases h
theorem kscr_eq {v : KV} (h : kscr v = true) : v = .inl (.ref 1000000) := by
  unfold kscr at h
  split at h
  · rw [kb_t h]
  · cases h
theorem k_alen (F : kFix p s m args meth cd cc nL own mname D dA A zs ad0) {L : Nat} (hX : kSc s A ad0 ρ L) (hd : decode cc pc = .ok (.arraylength, 1)) (h : kalen L pc lo st w c sl = some k) (g : kGo p l e R s m args below meth cd Q D dA ρ A nL ad0 n0 (k)) : kGo p l e R s m args below meth cd Q D dA ρ A nL ad0 n0 ((pc, lo, st, w, c, sl)) := by
  unfold kalen at h
  split at h
  · rename_i v rest
    cases hb : kscr v && Nat.blt 0 L with
    | true =>
      rw [hb] at h; cases h
      have hb := Bool.and_eq_true_iff.mp hb
      obtain ⟨b, xs, x1, x2, x3, x4, x5⟩ := hX (Nat.ble_eq.mp hb.2)
      rw [kscr_eq hb.1]
      intro ad H locs ls hat
      have g1 := g ad H locs ls hat
      simp only [List.map_cons] at g1 ⊢
      have e1 : kV ad ρ (.inl (.ref 1000000)) = .ref b := by
        show Value.ref (ad 1000000) = _
        rw [hat.2.2.2.2.2 1000000 (Or.inr (Nat.le_refl _)), x4]
      rw [e1]
      exact va_slen F.1 F.2.1 x1 x2 x3 hat.2.2.2.1 hd g1
    | false =>
      rw [hb] at h
      simp only [cond_false] at h
      split at h
      · rename_i a
        split at h
        · rename_i t n x hw
          cases ht : Nat.blt t 7 with
          | false => rw [ht] at h; cases h
          | true =>
            rw [ht] at h; cases h
            have ht : t < 7 := Nat.ble_eq.mp ht
            intro ad H locs ls hat
            obtain ⟨q0, h1, -⟩ := kW_get (dA := dA) (ad := ad) (ρ := ρ) hw
            have g1 := g ad H locs ls hat
            obtain ⟨ty, hty⟩ : ∃ ty, kEl[t]? = some ty := ⟨kEl[t]'(by show t < 7; exact ht), List.getElem?_eq_getElem _⟩
            rcases x with ⟨l1, d1⟩ | ⟨l1, d1⟩ | l1
            · exact va_alen (ws := kW dA ad ρ w) F.1 F.2.1 F.2.2.2.2.2.1 hat.2.1 q0 t h1 (kEl_ty hty) rfl hd g1
            · exact va_alen (ws := kW dA ad ρ w) F.1 F.2.1 F.2.2.2.2.2.1 hat.2.1 q0 t h1 (kEl_ty hty) rfl hd g1
            · exact va_alen (ws := kW dA ad ρ w) F.1 F.2.1 F.2.2.2.2.2.1 hat.2.1 q0 t h1 (kEl_ty hty) rfl hd g1
        · cases h
      · cases h
  · cases h
theorem kinB_ok {i : Int32} {n : Nat} (h : kinB i n = true) : vp_in i n := by
  unfold kinB at h
  simp only [Bool.and_eq_true, Bool.not_eq_true', decide_eq_false_iff_not] at h
  have h2 : i.toNatClampNeg < n := Nat.ble_eq.mp h.2
  intro q
  rcases q with q | q
  · exact h.1 q
  · omega
theorem kscl_ok (hr : kRg rg ρ) {j : Nat} {x : KV} (h : kscl rg j = some x) (ad : Nat → Nat) : kV ad ρ x = .int (ρ j) := by
  unfold kscl at h
  split at h
  · rename_i a b hab
    have h1 := hr j a b hab
    cases hc : decide (a = b) with
    | true =>
      rw [hc] at h; cases h
      have e := of_decide_eq_true hc
      have e2 : (ρ j).toInt = a := by omega
      show Value.int (Int32.ofInt a) = _
      rw [← e2, Int32.ofInt_toInt]
    | false =>
      rw [hc] at h; cases h
      rfl
  · cases h
theorem k_iald (F : kFix p s m args meth cd cc nL own mname D dA A zs ad0) (hr : kRg rg ρ) {L : Nat} (hX : kSc s A ad0 ρ L) (hd : decode cc pc = .ok (.iaload, 1)) (h : kald rg L (fun t => Nat.beq t 0) pc lo st w c sl = some k) (g : kGo p l e R s m args below meth cd Q D dA ρ A nL ad0 n0 (k)) : kGo p l e R s m args below meth cd Q D dA ρ A nL ad0 n0 ((pc, lo, st, w, c, sl)) := by
  unfold kald at h
  split at h
  · rename_i i v rest
    cases hb : kscr v && kinB i (L - 1) with
    | true =>
      rw [hb] at h
      simp only [cond_true] at h
      split at h
      · rename_i x hx
        cases h
        have hb := Bool.and_eq_true_iff.mp hb
        have hin := kinB_ok hb.2
        have hlt : i.toNatClampNeg < L - 1 := Nat.not_le.mp fun q => hin (Or.inr q)
        obtain ⟨b, xs, x1, x2, x3, x4, x5⟩ := hX (by omega)
        rw [kscr_eq hb.1]
        intro ad H locs ls hat
        have g1 := g ad H locs ls hat
        simp only [List.map_cons] at g1 ⊢
        have e1 : kV ad ρ (.inl (.ref 1000000)) = .ref b := by
          show Value.ref (ad 1000000) = _
          rw [hat.2.2.2.2.2 1000000 (Or.inr (Nat.le_refl _)), x4]
        rw [e1]
        rw [kscl_ok hr hx, x5 _ hlt] at g1
        exact va_sld F.1 F.2.1 x1 x2 x3 hat.2.2.2.1 hin hd g1
      · cases h
    | false =>
      rw [hb] at h
      simp only [cond_false] at h
      split at h
      · rename_i a
        split at h
        · rename_i t n l1 d1 hw
          cases ht : Nat.beq t 0 && kinB i n with
          | false => rw [ht] at h; cases h
          | true =>
            rw [ht] at h; cases h
            have ht := Bool.and_eq_true_iff.mp ht
            have e := kb_t ht.1
            subst e
            intro ad H locs ls hat
            obtain ⟨q0, h1, -⟩ := kW_get (dA := dA) (ad := ad) (ρ := ρ) hw
            have g1 := g ad H locs ls hat
            simp only [List.map_cons] at g1
            rw [kofI_ok] at g1
            exact va_iald (ws := kW dA ad ρ w) F.1 F.2.1 F.2.2.2.2.2.1 hat.2.1 q0 0 h1 rfl (kinB_ok ht.2) hd g1
        · cases h
      · cases h
  · cases h
theorem k_bald (F : kFix p s m args meth cd cc nL own mname D dA A zs ad0) (hd : decode cc pc = .ok (.baload, 1)) (h : kald rg 0 (fun t => Nat.beq t 2 || Nat.beq t 4) pc lo st w c sl = some k) (g : kGo p l e R s m args below meth cd Q D dA ρ A nL ad0 n0 (k)) : kGo p l e R s m args below meth cd Q D dA ρ A nL ad0 n0 ((pc, lo, st, w, c, sl)) := by
  unfold kald at h
  split at h
  · rename_i i v rest
    cases hb : kscr v && kinB i 0 with
    | true =>
      have hb := Bool.and_eq_true_iff.mp hb
      exact absurd (Nat.not_le.mp fun q => kinB_ok hb.2 (Or.inr q)) (Nat.not_lt_zero i.toNatClampNeg)
    | false =>
      rw [hb] at h
      simp only [cond_false] at h
      split at h
      · rename_i a
        split at h
        · rename_i t n l1 d1 hw
          cases ht : (Nat.beq t 2 || Nat.beq t 4) && kinB i n with
          | false => rw [ht] at h; cases h
          | true =>
            rw [ht] at h; cases h
            have ht := Bool.and_eq_true_iff.mp ht
            intro ad H locs ls hat
            obtain ⟨q0, h1, -⟩ := kW_get (dA := dA) (ad := ad) (ρ := ρ) hw
            have g1 := g ad H locs ls hat
            simp only [List.map_cons] at g1
            rw [kofI_ok] at g1
            rcases Bool.or_eq_true_iff.mp ht.1 with q | q
            · have e := kb_t q
              subst e
              exact va_bald (ws := kW dA ad ρ w) F.1 F.2.1 F.2.2.2.2.2.1 hat.2.1 q0 2 h1 rfl (kinB_ok ht.2) hd g1
            · have e := kb_t q
              subst e
              exact va_zald (ws := kW dA ad ρ w) F.1 F.2.1 F.2.2.2.2.2.1 hat.2.1 q0 4 h1 rfl (kinB_ok ht.2) hd g1
        · cases h
      · cases h
  · cases h
theorem k_lald (F : kFix p s m args meth cd cc nL own mname D dA A zs ad0) (hd : decode cc pc = .ok (.laload, 1)) (h : klald pc lo st w c sl = some k) (g : kGo p l e R s m args below meth cd Q D dA ρ A nL ad0 n0 (k)) : kGo p l e R s m args below meth cd Q D dA ρ A nL ad0 n0 ((pc, lo, st, w, c, sl)) := by
  unfold klald at h
  split at h
  · rename_i i a rest
    split at h
    · rename_i t n l1 d1 hw
      cases ht : Nat.beq t 1 && kinB i n with
      | false => rw [ht] at h; cases h
      | true =>
        rw [ht] at h; cases h
        have ht := Bool.and_eq_true_iff.mp ht
        have e := kb_t ht.1
        subst e
        intro ad H locs ls hat
        obtain ⟨q0, h1, -⟩ := kW_get (dA := dA) (ad := ad) (ρ := ρ) hw
        exact va_lald (ws := kW dA ad ρ w) F.1 F.2.1 F.2.2.2.2.2.1 hat.2.1 q0 1 h1 rfl (kinB_ok ht.2) hd (g ad H locs ls hat)
    · cases h
  · cases h
theorem k_aald (F : kFix p s m args meth cd cc nL own mname D dA A zs ad0) (hd : decode cc pc = .ok (.aaload, 1)) (h : kaald pc lo st w c sl = some k) (g : kGo p l e R s m args below meth cd Q D dA ρ A nL ad0 n0 (k)) : kGo p l e R s m args below meth cd Q D dA ρ A nL ad0 n0 ((pc, lo, st, w, c, sl)) := by
  unfold kaald at h
  split at h
  · rename_i i a rest
    split at h
    · rename_i t n l1 hw
      cases ht : (Nat.beq t 5 || Nat.beq t 6) && kinB i n with
      | false => rw [ht] at h; cases h
      | true =>
        rw [ht] at h; cases h
        have ht := Bool.and_eq_true_iff.mp ht
        intro ad H locs ls hat
        obtain ⟨q0, h1, -⟩ := kW_get (dA := dA) (ad := ad) (ρ := ρ) hw
        have g1 := g ad H locs ls hat
        simp only [List.map_cons] at g1
        rw [kofR_ok] at g1
        rcases Bool.or_eq_true_iff.mp ht.1 with q | q
        · have e := kb_t q
          subst e
          exact va_aldq (ws := kW dA ad ρ w) F.1 F.2.1 F.2.2.2.2.2.1 hat.2.1 q0 5 h1 rfl (kinB_ok ht.2) hd g1
        · have e := kb_t q
          subst e
          exact va_aldq (ws := kW dA ad ρ w) F.1 F.2.1 F.2.2.2.2.2.1 hat.2.1 q0 6 h1 rfl (kinB_ok ht.2) hd g1
    · cases h
  · cases h
end KROWS3
