section KROWS2
variable {p : Program} {l : Launch} {e : Env} {R : Room} {s : State} {m : MethodId} {args : Array Value} {below : List Frame} {meth : Method} {cd : Code} {Q : State → Prop} {D : va_G} {dA : Nat → ClassId} {ρ : Nat → Int32} {A : Nat → Prop} {nL : Nat} {ad0 : Nat → Nat} {n0 : Nat} {cc : ByteArray} {own mname : String} {zs : KZ} {rg : List (Int × Int)}
variable {pc : Nat} {lo : List (Nat × KV)} {st : List KV} {w : KW} {c sl : Nat} {k : KF}
theorem kmap_not {o : Option Bool} {b : Bool} (h : o.map not = some b) : ∃ b', o = some b' ∧ b = !b' := by
  cases o with
  | none => cases h
  | some b' => cases h; exact ⟨b', rfl, rfl⟩
theorem kneg {b' b : Bool} {P P' : Prop} (h : b = !b') (h1 : b' = true ↔ P) (hn : P' ↔ ¬ P) : b = true ↔ P' := by
  subst h
  rw [hn, ← h1]
  cases b' <;> simp
def kholds (cnd : Jvm.ClassFile.Cond) (x y : Int32) : Prop := match cnd with
  | .eq => x = y
  | .ne => ¬ x = y
  | .lt => x < y
  | .ge => y ≤ x
  | .gt => y < x
  | .le => x ≤ y
theorem kcond_ok (hr : kRg rg ρ) {cnd : Jvm.ClassFile.Cond} {a b : KV} {r : Bool} (h : kcond rg cnd a b = some r) : r = true ↔ kholds cnd (kiv ρ a) (kiv ρ b) := by
  cases cnd with
  | eq => exact keq_ok hr h
  | ne =>
    obtain ⟨b', h1, h2⟩ := kmap_not h
    exact kneg h2 (keq_ok hr h1) Iff.rfl
  | lt => exact klt_ok hr h
  | ge =>
    obtain ⟨b', h1, h2⟩ := kmap_not h
    exact kneg h2 (klt_ok hr h1) Int32.not_lt.symm
  | gt => exact klt_ok hr h
  | le =>
    obtain ⟨b', h1, h2⟩ := kmap_not h
    exact kneg h2 (klt_ok hr h1) Int32.not_lt.symm
theorem k_icmp (F : kFix p s m args meth cd cc nL own mname D dA A zs ad0) (hr : kRg rg ρ) {cnd : Jvm.ClassFile.Cond} {off : Int} (hd : decode cc pc = .ok (.if_icmp cnd off, 3)) (h : kicmp rg cnd off pc lo st w c sl = some k) (g : kGo p l e R s m args below meth cd Q D dA ρ A nL ad0 n0 (k)) : kGo p l e R s m args below meth cd Q D dA ρ A nL ad0 n0 ((pc, lo, st, w, c, sl)) := by
  unfold kicmp at h
  split at h
  · rename_i y x rest
    cases hx : kisI x with
    | false => rw [hx] at h; cases h
    | true =>
      cases hy : kisI y with
      | false => rw [hx, hy] at h; cases h
      | true =>
        rw [hx, hy] at h
        refine k_br (P := kholds cnd (kiv ρ x) (kiv ρ y)) (fun b hb => kcond_ok hr hb) (fun ad H locs ls tgt ht k1 k2 => ?_) h g
        simp only [List.map_cons]
        rw [kisI_eq hx, kisI_eq hy]
        cases cnd with
        | eq => exact lv_icmp_eq F.1 F.2.1 hd ht k1 k2
        | ne => exact lv_icmp_ne F.1 F.2.1 hd ht k1 (fun q => k2 (fun q2 => q2 q))
        | lt => exact lv_icmp_lt F.1 F.2.1 hd ht k1 k2
        | ge => exact lv_icmp_ge F.1 F.2.1 hd ht k1 k2
        | gt => exact lv_icmp_gt F.1 F.2.1 hd ht k1 k2
        | le => exact lv_icmp_le F.1 F.2.1 hd ht k1 k2
  · cases h
theorem k_if (F : kFix p s m args meth cd cc nL own mname D dA A zs ad0) (hr : kRg rg ρ) {cnd : Jvm.ClassFile.Cond} {off : Int} (hd : decode cc pc = .ok (.ifCond cnd off, 3)) (h : kif rg cnd off pc lo st w c sl = some k) (g : kGo p l e R s m args below meth cd Q D dA ρ A nL ad0 n0 (k)) : kGo p l e R s m args below meth cd Q D dA ρ A nL ad0 n0 ((pc, lo, st, w, c, sl)) := by
  unfold kif at h
  split at h
  · rename_i x rest
    cases hx : kisI x with
    | false => rw [hx] at h; cases h
    | true =>
      rw [hx] at h
      refine k_br (P := kholds cnd (kiv ρ x) 0) (fun b hb => kcond_ok hr hb) (fun ad H locs ls tgt ht k1 k2 => ?_) h g
      simp only [List.map_cons]
      rw [kisI_eq hx]
      cases cnd with
      | eq => exact lv_if_eq F.1 F.2.1 hd ht k1 k2
      | ne => exact lv_if_ne F.1 F.2.1 hd ht k1 (fun q => k2 (fun q2 => q2 q))
      | lt => exact lv_if_lt F.1 F.2.1 hd ht k1 k2
      | ge => exact lv_if_ge F.1 F.2.1 hd ht k1 k2
      | gt => exact lv_if_gt F.1 F.2.1 hd ht k1 k2
      | le => exact lv_if_le F.1 F.2.1 hd ht k1 k2
  · cases h
theorem krf_eq {v : KV} {o : Option Nat} (h : krf v = some o) (ad : Nat → Nat) : kV ad ρ v = va_rf (o.map ad) := by
  rcases v with v | z
  · cases v <;> first | (cases h; rfl) | cases h
  · cases h
theorem kreq_ok {a b : KV} {r : Bool} (h : kreq a b = some r) : ∃ oa ob, krf a = some oa ∧ krf b = some ob ∧ ∀ ad : Nat → Nat, r = true ↔ oa.map ad = ob.map ad := by
  unfold kreq at h
  split at h
  · rename_i h1 h2
    cases h
    exact ⟨_, _, h1, h2, fun ad => ⟨fun _ => rfl, fun _ => rfl⟩⟩
  · rename_i j h1 h2
    cases h
    exact ⟨_, _, h1, h2, fun ad => ⟨fun q => absurd q Bool.false_ne_true, fun q => by cases q⟩⟩
  · rename_i j h1 h2
    cases h
    exact ⟨_, _, h1, h2, fun ad => ⟨fun q => absurd q Bool.false_ne_true, fun q => by cases q⟩⟩
  · rename_i i j h1 h2
    cases q : Nat.beq i j with
    | false => rw [q] at h; cases h
    | true =>
      rw [q] at h; cases h
      have e := kb_t q
      subst e
      exact ⟨_, _, h1, h2, fun ad => ⟨fun _ => rfl, fun _ => rfl⟩⟩
  · cases h
theorem k_acmp (F : kFix p s m args meth cd cc nL own mname D dA A zs ad0) {cnd : Jvm.ClassFile.ACond} {off : Int} (hd : decode cc pc = .ok (.if_acmp cnd off, 3)) (h : kacmp cnd off pc lo st w c sl = some k) (g : kGo p l e R s m args below meth cd Q D dA ρ A nL ad0 n0 (k)) : kGo p l e R s m args below meth cd Q D dA ρ A nL ad0 n0 ((pc, lo, st, w, c, sl)) := by
  unfold kacmp at h
  split at h
  · rename_i y x rest
    cases cnd with
    | eq =>
      dsimp only at h
      cases hq : kreq x y with
      | none =>
        rw [hq] at h
        unfold kbr at h
        split at h <;> cases h
      | some b0 =>
        obtain ⟨ox, oy, h1, h2, h3⟩ := kreq_ok hq
        rw [hq] at h
        refine k_br (P := b0 = true) (fun b hb => by cases hb; exact Iff.rfl) (fun ad H locs ls tgt ht k1 k2 => ?_) h g
        simp only [List.map_cons]
        rw [krf_eq h1 ad, krf_eq h2 ad]
        exact lv_acmp_eq F.1 F.2.1 hd ht (fun q => k1 ((h3 ad).mpr q)) (fun q => k2 (fun b => q ((h3 ad).mp b)))
    | ne =>
      dsimp only at h
      cases hq : kreq x y with
      | none =>
        rw [hq] at h
        unfold kbr at h
        split at h <;> cases h
      | some b0 =>
        obtain ⟨ox, oy, h1, h2, h3⟩ := kreq_ok hq
        rw [hq] at h
        refine k_br (P := ¬ b0 = true) (fun b hb => by cases hb; cases b0 <;> simp) (fun ad H locs ls tgt ht k1 k2 => ?_) h g
        simp only [List.map_cons]
        rw [krf_eq h1 ad, krf_eq h2 ad]
        exact lv_acmp_ne F.1 F.2.1 hd ht (fun q => k1 (fun b => q ((h3 ad).mp b))) (fun q => k2 (fun b => b ((h3 ad).mpr q)))
  · cases h
theorem krg_isI {v : KV} {r : Int × Int} (h : krg rg v = some r) : kisI v = true := by
  rcases v with v | z
  · cases v <;> first | rfl | cases h
  · rfl
theorem k_sw (F : kFix p s m args meth cd cc nL own mname D dA A zs ad0) (hr : kRg rg ρ) {dflt lw hg : Int} {offs : Array Int} {len : Nat} (hd : decode cc pc = .ok (.tableswitch dflt lw hg offs, len)) (h : ksw rg dflt lw hg offs pc lo st w c sl = some k) (g : kGo p l e R s m args below meth cd Q D dA ρ A nL ad0 n0 (k)) : kGo p l e R s m args below meth cd Q D dA ρ A nL ad0 n0 ((pc, lo, st, w, c, sl)) := by
  unfold ksw at h
  split at h
  · rename_i v rest
    split at h
    · rename_i a b hv
      have hI := krg_isI hv
      have hb := krg_ok hr hv
      cases c1 : (decide (b < lw) || decide (hg < a)) with
      | true =>
        rw [c1] at h
        simp only [cond_true] at h
        split at h
        · rename_i t ht
          cases h
          intro ad H locs ls hat
          have g1 := g ad H locs ls hat
          simp only [List.map_cons]
          rw [kisI_eq hI]
          refine lv_tableOut F.1 F.2.1 hd ?_ (ktg_ok ht) g1
          rcases Bool.or_eq_true_iff.mp c1 with q | q
          · have := of_decide_eq_true q; omega
          · have := of_decide_eq_true q; omega
        · cases h
      | false =>
        rw [c1] at h
        simp only [cond_false] at h
        cases c2 : decide (a = b) with
        | false => rw [c2] at h; cases h
        | true =>
          rw [c2] at h
          simp only [cond_true] at h
          have e1 := of_decide_eq_true c2
          split at h
          · rename_i off ho
            split at h
            · rename_i t ht
              cases h
              have c1 := Bool.or_eq_false_iff.mp c1
              have q1 := of_decide_eq_false c1.1
              have q2 := of_decide_eq_false c1.2
              have e2 : (kiv ρ v).toInt = a := by omega
              intro ad H locs ls hat
              have g1 := g ad H locs ls hat
              simp only [List.map_cons]
              rw [kisI_eq hI]
              exact lv_tableIn F.1 F.2.1 hd (by omega) (by omega) (by rw [e2, ← Array.getElem?_toList]; exact ho) (ktg_ok ht) g1
            · cases h
          · cases h
    · cases h
  · cases h
theorem k_getf (F : kFix p s m args meth cd cc nL own mname D dA A zs ad0) {ci k0 i : Nat} {q : vw_C} (hq : kCl[ci]? = some q) (hk : k0 < q.2.2) (hlink : (Cond.fieldLink own i (q.2.1 k0).1 (q.2.1 k0).2.1 (q.2.1 k0).2.2.1) ∈ LT) (hd : decode cc pc = .ok (.getfield i, 3)) (h : kgetf ci k0 pc lo st w c sl = some k) (g : kGo p l e R s m args below meth cd Q D dA ρ A nL ad0 n0 (k)) : kGo p l e R s m args below meth cd Q D dA ρ A nL ad0 n0 ((pc, lo, st, w, c, sl)) := by
  unfold kgetf at h
  split at h
  · rename_i a rest
    split at h
    · rename_i cj fs hw
      cases hc : Nat.beq cj ci with
      | false => rw [hc] at h; cases h
      | true =>
        rw [hc] at h
        simp only [cond_true] at h
        have e := kb_t hc
        subst e
        split at h
        · rename_i v hv
          cases h
          intro ad H locs ls hat
          obtain ⟨q0, h1, -⟩ := kW_get (dA := dA) (ad := ad) (ρ := ρ) hw
          obtain ⟨C, T, N⟩ := q
          exact va_get (ws := kW dA ad ρ w) F.1 F.2.1 F.2.2.2.2.1 (kCl_ok cj _ hq).1 F.2.2.2.1 F.2.2.2.2.2.1 hat.2.1 q0 h1 hq k0 hk (F.2.2.2.2.1 _ hlink) (fun _ h9 => h9) (v := kV ad ρ v) (by rw [List.getElem?_map, hv]; rfl) hd (g ad H locs ls hat)
        · cases h
    · cases h
  · cases h
theorem kfit_ok {ty : FieldType} {v : KV} {ad : Nat → Nat} (h : kfit ty v = true) : narrow ty (kV ad ρ v) = kV ad ρ v ∧ fits ty (kV ad ρ v) = true := by
  unfold kfit at h
  split at h
  · rw [kisI_eq h]
    exact ⟨rfl, rfl⟩
  · split at h
    · rename_i x
      rcases Bool.or_eq_true_iff.mp h with q | q
      · have e := of_decide_eq_true q
        subst e
        exact ⟨rfl, rfl⟩
      · have e := of_decide_eq_true q
        subst e
        exact ⟨rfl, rfl⟩
    · cases h
  · split at h
    · exact ⟨rfl, rfl⟩
    · cases h
  · split at h
    · exact ⟨rfl, rfl⟩
    · exact ⟨rfl, rfl⟩
    · cases h
  · split at h
    · exact ⟨rfl, rfl⟩
    · exact ⟨rfl, rfl⟩
    · cases h
  · cases h
theorem k_putf (F : kFix p s m args meth cd cc nL own mname D dA A zs ad0) {ci k0 i : Nat} {q : vw_C} (hq : kCl[ci]? = some q) (hk : k0 < q.2.2) (hfin : (q.2.1 k0).2.2.2 = false ∨ ((q.2.1 k0).2.2.2 = true ∧ mname = "<init>" ∧ (q.2.1 k0).1 = own)) (hlink : (Cond.fieldLink own i (q.2.1 k0).1 (q.2.1 k0).2.1 (q.2.1 k0).2.2.1) ∈ LT) (hd : decode cc pc = .ok (.putfield i, 3)) (h : kputf ci k0 pc lo st w c sl = some k) (g : kGo p l e R s m args below meth cd Q D dA ρ A nL ad0 n0 (k)) : kGo p l e R s m args below meth cd Q D dA ρ A nL ad0 n0 ((pc, lo, st, w, c, sl)) := by
  unfold kputf at h
  split at h
  · rename_i v a rest
    split at h
    · rename_i cj fs hw
      cases hc : (Nat.beq cj ci && (Nat.blt k0 fs.length && kfit (kTy ci k0) v)) with
      | false => rw [hc] at h; cases h
      | true =>
        rw [hc] at h; cases h
        have hc := Bool.and_eq_true_iff.mp hc
        have hc2 := Bool.and_eq_true_iff.mp hc.2
        have e := kb_t hc.1
        subst e
        intro ad H locs ls hat
        obtain ⟨hl, hP, hD, hS, hn, hE⟩ := hat
        obtain ⟨q0, h1, h2⟩ := kW_get (dA := dA) (ad := ad) (ρ := ρ) hw
        obtain ⟨C, T, N⟩ := q
        obtain ⟨G1, G2, G3⟩ := kCl_ok cj _ hq
        have hf := kfit_ok (ρ := ρ) (ad := ad) hc2.2
        have hlt : k0 < (fs.map (kV ad ρ)).length := by rw [List.length_map]; exact Nat.ble_eq.mp hc2.1
        have e3 : (ad a, (.inr (cj, (fs.map (kV ad ρ)).set k0 (kV ad ρ v)) : va_E)) = (ad a, kE dA ad ρ (.inr (cj, fs.set k0 v))) := by
          show _ = (ad a, (Sum.inr (cj, (fs.set k0 v).map (kV ad ρ)) : va_E))
          rw [List.map_set]
        have kk : ∀ (H1 : Heap) (locs1 : List Loc), va_P D kCl ((kW dA ad ρ w).set q0 (ad a, .inr (cj, (fs.map (kV ad ρ)).set k0 (kV ad ρ v)))) H1 → va_D A ((kW dA ad ρ w).set q0 (ad a, .inr (cj, (fs.map (kV ad ρ)).set k0 (kV ad ρ v)))) → va_S A s.heap H1 locs1 → W p l e R s m args below meth cd H1 locs1 c sl Q (F0 m (pc + 3) ls (rest.map (kV ad ρ))) := by
          intro H1 locs1 p1 p2 p3
          rw [e3, h2] at p1 p2
          exact g ad H1 locs1 ls ⟨hl, p1, p2, p3, by rw [kfr_set]; exact hn, hE⟩
        rcases hfin with hf1 | ⟨hf1, hf2, hf3⟩
        · exact va_put (ws := kW dA ad ρ w) F.1 F.2.1 F.2.2.2.2.1 G1 (kTy cj) G2 G3 F.2.2.2.1 F.2.2.2.2.2.1 hP hD hS q0 h1 hq k0 hk (F.2.2.2.2.1 _ hlink) (fun _ h9 => h9) hf1 (G2 k0 hk) hf.1 hf.2 hlt hd kk
        · exact va_putF (ws := kW dA ad ρ w) F.1 F.2.1 F.2.2.2.2.1 G1 (kTy cj) G2 G3 F.2.2.2.1 F.2.2.2.2.2.1 hP hD hS q0 h1 hq k0 hk (F.2.2.2.2.1 _ hlink) (fun _ h9 => h9) hf1 (F.2.2.2.2.2.2.2.1 hf2) hf3 (G2 k0 hk) hf.1 hf.2 hlt hd kk
    · cases h
  · cases h
end KROWS2
