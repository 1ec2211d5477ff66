section KROWS7
variable {p : Program} {l : Launch} {e : Env} {R : Room} {s : State} {m : MethodId} {args : Array Value} {below : List Frame} {meth : Method} {cd : Code} {Q : State → Prop} {D : va_G} {dA : Nat → ClassId} {ρ : Nat → Int32} {A : Nat → Prop} {nL : Nat} {ad0 : Nat → Nat} {n0 : Nat} {cc : ByteArray} {own mname : String} {zs : KZ} {rg : List (Int × Int)}
variable {Rc Rs : Nat} {ms : List KMeth} {call : Nat → List KV → KW → Option (Option KV × KW)} {d : Nat} {prog : List KEnt} {ks : Option Int32} {L : Nat}
/-- a run of the small machine, down to a return -/
theorem k_run (F : kFix p s m args meth cd cc nL own mname D dA A zs ad0) (hr : kRg rg ρ) (hks : ∀ v, ks = some v → ρ 0 &&& 63 = v) (hX : kSc s A ad0 ρ L) (hC : kCalls l ms zs ρ call d) (hRc : Rc ≤ R.cells) (hRs : Rs ≤ R.slots) (hRf : d + 6 ≤ R.frames) (hRl : 40 * d + 280 ≤ R.locals) (hP : ∀ x ∈ prog, kEntOK ms zs.1 own mname cc x) :
    ∀ (n : Nat) (cur : List KEnt) (k : KF) (ig : Instr) (k' : KF), (∀ x ∈ cur, x ∈ prog) → krun call rg ks L nL Rc Rs prog n cur k = some (ig, k') → (∃ x, (k'.1, ig, x) ∈ prog) ∧ kend ig = true ∧ (kGo p l e R s m args below meth cd Q D dA ρ A nL ad0 n0 (k') → kGo p l e R s m args below meth cd Q D dA ρ A nL ad0 n0 (k)) := by
  intro n
  induction n with
  | zero => intro cur k ig k' _ h; cases h
  | succ n ih =>
    intro cur k ig k' hsub h
    obtain ⟨pc, lo, st, w, c, sl⟩ := k
    unfold krun at h
    split at h
    · split at h
      · cases h
      · rename_i x l1 hx
        exact ih _ _ _ _ (fun y hy => kfrom_sub y (by rw [hx]; exact hy)) h
    · rename_i x l1
      cases hb : Nat.beq x.1 pc with
      | false =>
        rw [hb] at h
        exact ih _ _ _ _ (fun y hy => by cases hy) h
      | true =>
        rw [hb] at h
        simp only [cond_true] at h
        have e1 := kb_t hb
        cases he : kend x.2.1 with
        | true =>
          rw [he] at h
          simp only [cond_true] at h
          cases h
          refine ⟨⟨x.2.2, ?_⟩, he, id⟩
          rw [← e1]
          exact hsub x List.mem_cons_self
        | false =>
          rw [he] at h
          simp only [cond_false] at h
          split at h
          · cases h
          · rename_i k1 hk1
            obtain ⟨h1, h2, h3⟩ := ih _ _ _ _ (fun y hy => hsub y (List.mem_cons_of_mem _ hy)) h
            refine ⟨h1, h2, fun g => ?_⟩
            have hx := hP x (hsub x List.mem_cons_self)
            have ex : x = (pc, x.2.1, x.2.2) := by rw [← e1]
            rw [ex] at hx
            exact k_one F hr hks hX hC hRc hRs hRf hRl hx hk1 (h3 g)
end KROWS7
theorem kargs_eq (ad : Nat → Nat) (ρ : Nat → Int32) : ∀ (as : List KV) (i : Nat), lv_args i (as.map (kV ad ρ)) = kL ad ρ (kargs i as) := by
  intro as
  induction as with
  | nil => intro i; rfl
  | cons v t ih =>
    intro i
    show (i, kV ad ρ v) :: lv_args (if (kV ad ρ v).category = 2 then i + 2 else i + 1) (t.map (kV ad ρ)) = (i, kV ad ρ v) :: kL ad ρ (kargs (if kcat v = 2 then i + 2 else i + 1) t)
    rw [kV_cat, ih]
theorem ksl_len (ad : Nat → Nat) (ρ : Nat → Int32) (as : List KV) : (lg_sl (as.map (kV ad ρ))).length = kcats as := by
  induction as with
  | nil => rfl
  | cons v t ih =>
    have h1 : (lg_sl ((v :: t).map (kV ad ρ))).length = (if (kV ad ρ v).category = 2 then [Slot.val (kV ad ρ v), .second] else [.val (kV ad ρ v)]).length + (lg_sl (t.map (kV ad ρ))).length := by
      unfold lg_sl
      rw [List.map_cons, List.flatMap_cons, List.length_append]
    rw [h1, ih]
    have h2 : kcats (v :: t) = kcat v + kcats t := by
      unfold kcats
      rw [List.map_cons, List.sum_cons]
    rw [h2, kV_cat]
    have h3 := lv_cat (kV ad ρ v)
    rw [kV_cat] at h3
    rcases h3 with h3 | h3 <;> rw [h3] <;> rfl
/-- the tables of the small machine are as they should be -/
def kOK (ms : List KMeth) (zs : KY) : Prop := ∀ (mid : Nat) (r : KMeth), ms[mid]? = some r → (∀ x ∈ r.2.2.2.2.2.2, kEntOK ms zs r.1.cls r.1.name r.2.1 x) ∧ plainName r.1.cls = true
set_option maxHeartbeats 4000000 in
theorem k_met {l : Launch} {ms : List KMeth} {zs : KZ} {ρ : Nat → Int32} {rg : List (Int × Int)} {ks : Option Int32} (hok : kOK ms zs.1) (hr : kRg rg ρ) (hks : ∀ v, ks = some v → ρ 0 &&& 63 = v) : ∀ d : Nat, kCalls l ms zs ρ (kcall ms rg ks d) d := by
  intro d
  induction d with
  | zero => intro mid r as w ret w' _ h; cases h
  | succ d ih =>
    intro mid r as w ret w' hmid h D dA ad sz
    unfold kcall at h
    rw [hmid] at h
    obtain ⟨y, cc, maxL, rt, mc, msl, prog⟩ := r
    dsimp only at h
    cases hc : Nat.ble (kcats as) maxL && Nat.blt (kfr 0 w) 1000000 with
    | false => rw [hc] at h; cases h
    | true =>
      rw [hc] at h
      simp only [cond_true] at h
      have hc := Bool.and_eq_true_iff.mp hc
      split at h
      · rename_i ig pc2 lo2 st2 w2 c2 s2 hrun
        cases hcs : Nat.ble c2 mc && Nat.ble s2 msl with
        | false => rw [hcs] at h; cases h
        | true =>
          rw [hcs] at h
          simp only [cond_true] at h
          have hcs := Bool.and_eq_true_iff.mp hcs
          split at h
          · rename_i r2 hret
            cases h
            obtain ⟨hP, hpl⟩ := hok mid _ hmid
            refine Met.ofW (cc := cc) (maxL := maxL) (ret := rt) hpl rfl ?_
            intro p e s m args below meth c s₁ B hml hv
            obtain ⟨rfl, hsz, hPw, hK, hD0, hZ, hN⟩ := hv
            have hts := atoms_spec (ws := kwsOf (y, cc, maxL, rt, mc, msl, prog)) B.pre
            have hlocks := B.notSynchronized
            have hrt := B.returns
            subst hsz
            have F : kFix p s m (as.map (kV ad ρ)).toArray meth c cc maxL y.cls y.name D dA (va_A (kW dA ad ρ w) s.heap.size) zs ad := ⟨B.exec, B.bytes, hml, findClass_of_methodNamed B.named, fun w hw => hts w (List.mem_cons_of_mem _ hw), hK, fun q h => Or.inr h, fun q => (name_of_methodNamed B.named B.method).1.trans q, hZ, hN⟩
            have hl := lv_entry (as.map (kV ad ρ)) (n := maxL) (by rw [ksl_len]; exact Nat.ble_eq.mp hc.1)
            rw [lg_entry_eq]
            generalize (lg_sl (as.map (kV ad ρ)) ++ List.replicate (maxL - (lg_sl (as.map (kV ad ρ))).length) Slot.unset).toArray = ls at hl ⊢
            rw [kargs_eq] at hl
            obtain ⟨⟨x, hx⟩, hend, hgo⟩ := k_run (p := p) (e := e) (R := (headSpec (kwsOf (y, cc, maxL, rt, mc, msl, prog)) (krm (d + 1) (y, cc, maxL, rt, mc, msl, prog))).room) (s := s) (m := m) (below := below) (n0 := kfr 0 w)
              (Q := MQ below (kQc D dA ρ ad w ret w' s.heap.size) (as.map (kV ad ρ)).toArray s mc msl (va_A (kW dA ad ρ w) s.heap.size)) F hr hks (L := 0) (fun q => absurd q (Nat.lt_irrefl 0)) ih (Nat.le_refl _) (Nat.le_refl _) (Nat.le_refl _) (by show 40 * d + 280 ≤ 40 * (d + 1) + 240; omega) hP kfuel prog _ _ _ (fun _ h => h) hrun
            refine hgo ?_ ad s.heap [] ls ⟨hl, hPw, hD0.self, va_S.rf, Nat.le_refl _, kExt.rf _ _⟩
            intro ad' H locs ls' hat
            obtain ⟨hl', hP', hD', hS', hn', hE'⟩ := hat
            obtain ⟨len, hd, hlen⟩ := kdec_ok (hP _ hx).1
            have fin : ∀ t : State, t.heap = H → s.WarmedH t.vm → ∀ oc : Outcome, oc = .returned (ret.map (kV ad' ρ)) → kQc D dA ρ ad w ret w' s.heap.size (as.map (kV ad ρ)).toArray s oc t := fun t ht hW oc hoc => ⟨⟨ad', hoc, hE', hn', by rw [ht]; exact hP', hD'⟩, hS'.F ht⟩
            refine W.widen (k := mc) (n := msl) (Nat.ble_eq.mp hcs.1) (Nat.ble_eq.mp hcs.2) ?_
            unfold kret at hret
            split at hret
            · rcases hlen with q | q
              · exact absurd q (Nat.succ_ne_zero _)
              · subst q
                split at hret
                · cases hret
                  exact W.vret B.exec B.bytes hrt (fun t ht hW => fin t ht hW _ rfl) hS'.2.2 hd
                · cases hret
            · rcases hlen with q | q
              · exact absurd q (Nat.succ_ne_zero _)
              · subst q
                split at hret
                · rename_i v
                  cases hv : kisI v with
                  | false => rw [hv] at hret; cases hret
                  | true =>
                    rw [hv] at hret; cases hret
                    simp only [List.map_cons, List.map_nil]
                    rw [kisI_eq hv]
                    exact W.iret B.exec B.bytes hrt (fun t ht hW => fin t ht hW _ (by rw [Option.map_some, kisI_eq hv])) hS'.2.2 hd
                · rename_i v
                  cases hv : decide (v = 0) || decide (v = 1) with
                  | false => rw [hv] at hret; cases hret
                  | true =>
                    rw [hv] at hret; cases hret
                    refine W.zret B.exec B.bytes hrt ?_ (fun t ht hW => fin t ht hW _ rfl) hS'.2.2 hd
                    rcases Bool.or_eq_true_iff.mp hv with q | q <;> rw [of_decide_eq_true q] <;> rfl
                · cases hret
            · cases hret
          · cases h
      · cases h
