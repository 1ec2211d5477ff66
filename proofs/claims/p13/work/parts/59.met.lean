/-! Runs of the machine with all instructions; its calls have contracts. -/
section KRUNX
variable {p : Program} {l : Launch} {e : Env} {R : Room} {s : State} {m : MethodId} {args : Array Value} {below : List Frame} {meth : Method} {cd : Code} {Q : State → Prop} {D : va_G} {dA : Nat → ClassId} {ρ : Nat → Int32} {A : Nat → Prop} {nL : Nat} {ad0 : Nat → Nat} {n0 : Nat} {cc : ByteArray} {own mname : String} {zs : KZ} {rg : List (Int × Int)}
variable {Rc Rs : Nat} {ms : List KMeth} {call : Nat → List KV → KW → Option (Option KV × KW)} {d : Nat} {prog : List KEnt} {L : Nat} {X : KO}
theorem k_runx (F : kFix p s m args meth cd cc nL own mname D dA A zs ad0) (hX1 : zs.2 = some X) (hr : kRg rg ρ) (hX : kSc s A ad0 ρ L) (hC : kCalls l ms zs ρ call d) (hRc : Rc ≤ R.cells) (hRs : Rs ≤ R.slots) (hRf : d + 6 ≤ R.frames) (hRl : 40 * d + 280 ≤ R.locals) (hP : ∀ x ∈ prog, kendx x.2.1 = false → kEntX ms zs.1 own mname cc x) :
    ∀ (n : Nat) (k : KF) (ig : Instr) (k' : KF), krx call X rg L nL Rc Rs prog n k = some (ig, k') → (∃ x, (k'.1, ig, x) ∈ prog) ∧ kendx ig = true ∧ (kGo p l e R s m args below meth cd Q D dA ρ A nL ad0 n0 (k') → kGo p l e R s m args below meth cd Q D dA ρ A nL ad0 n0 (k)) := by
  intro n
  induction n with
  | zero => intro k ig k' h; cases h
  | succ n ih =>
    intro k ig k' h
    obtain ⟨pc, lo, st, w, c, sl⟩ := k
    unfold krx at h
    split at h
    · cases h
    · rename_i x l1 hk
      obtain ⟨hb, h⟩ := kcond_inv h
      have e1 := kb_t hb
      have hm : x ∈ prog := kfrom_sub x (by rw [hk]; exact List.mem_cons_self)
      cases he : kendx x.2.1 with
      | true =>
        rw [he] at h
        simp only [cond_true] at h
        cases h
        refine ⟨⟨x.2.2, ?_⟩, he, id⟩
        rw [← e1]
        exact hm
      | false =>
        rw [he] at h
        simp only [cond_false] at h
        split at h
        · cases h
        · rename_i k1 hk1
          obtain ⟨h1, h2, h3⟩ := ih _ _ _ h
          refine ⟨h1, h2, fun g => ?_⟩
          have hx := hP x hm he
          have ex : x = (pc, x.2.1, x.2.2) := by rw [← e1]
          rw [ex] at hx
          exact k_onex F hX1 hr hX hC hRc hRs hRf hRl hx hk1 (h3 g)
end KRUNX
/-- the tables of the machine with all instructions are as they should be -/
def kOKX (ms : List KMeth) (zs : KY) : Prop := ∀ (mid : Nat) (r : KMeth), ms[mid]? = some r → (∀ x ∈ r.2.2.2.2.2.2, kEntX ms zs r.1.cls r.1.name r.2.1 x) ∧ plainName r.1.cls = true ∧ r.2.2.2.1 ≠ some .byte
set_option maxHeartbeats 4000000 in
theorem k_metx {l : Launch} {ms : List KMeth} {zs : KZ} {ρ : Nat → Int32} {X : KO} (hX1 : zs.2 = some X) (hok : kOKX ms zs.1) (f : Nat) : ∀ d : Nat, kCalls l ms zs ρ (kcallx ms X f d) d := by
  intro d
  induction d with
  | zero => intro mid r as w ret w' _ h; cases h
  | succ d ih =>
    intro mid r as w ret w' hmid h D dA ad sz
    unfold kcallx at h
    rw [hmid] at h
    obtain ⟨y, cc, maxL, rt, mc, msl, prog⟩ := r
    dsimp only at h
    have hq1 := kcond_inv h
    clear h
    obtain ⟨hc, h⟩ := hq1
    have hc := Bool.and_eq_true_iff.mp hc
    split at h
    · rename_i ig pc2 lo2 st2 w2 c2 s2 hrun
      have hq2 := kcond_inv h
      clear h
      obtain ⟨hcs, h⟩ := hq2
      have hcs := Bool.and_eq_true_iff.mp hcs
      split at h
      · rename_i r2 hret
        cases h
        obtain ⟨hP, hpl, hnb⟩ := hok mid _ hmid
        replace hnb : rt ≠ some .byte := hnb
        refine Met.ofW (cc := cc) (maxL := maxL) (ret := rt) hpl rfl ?_
        intro p e s m args below meth c s₁ B hml hv
        obtain ⟨rfl, hsz, hPw, hK, hD0, hZ, hN⟩ := hv
        have hts := atoms_spec (ws := kwsOf (y, cc, maxL, rt, mc, msl, prog)) B.pre
        have hlocks := B.notSynchronized
        have hrt := B.returns
        subst hsz
        have F : kFix p s m (as.map (kV ad ρ)).toArray meth c cc maxL y.cls y.name D dA (va_A (kW dA ad ρ w) s.heap.size) zs ad := ⟨B.exec, B.bytes, hml, findClass_of_methodNamed B.named, fun w hw => hts w (List.mem_cons_of_mem _ hw), hK, fun q h => Or.inr h, fun q => (name_of_methodNamed B.named B.method).1.trans q, hZ, hN⟩
        have hl := lv_entry (as.map (kV ad ρ)) (n := maxL) (by rw [ksl_len]; exact Nat.ble_eq.mp hc.1)
        rw [lg_entry_eq]
        generalize (lg_sl (as.map (kV ad ρ)) ++ List.replicate (maxL - (lg_sl (as.map (kV ad ρ))).length) Slot.unset).toArray = ls at hl ⊢
        rw [kargs_eq] at hl
        obtain ⟨⟨x, hx⟩, hend, hgo⟩ := k_runx (p := p) (e := e) (R := (headSpec (kwsOf (y, cc, maxL, rt, mc, msl, prog)) (krm (d + 1) (y, cc, maxL, rt, mc, msl, prog))).room) (s := s) (m := m) (below := below) (n0 := kfr 0 w)
          (Q := MQ below (kQc D dA ρ ad w ret w' s.heap.size) (as.map (kV ad ρ)).toArray s mc msl (va_A (kW dA ad ρ w) s.heap.size)) F hX1 (fun i lo hi h => by simp at h) (L := 0) (fun q => absurd q (Nat.lt_irrefl 0)) ih (Nat.le_refl _) (Nat.le_refl _) (Nat.le_refl _) (by show 40 * d + 280 ≤ 40 * (d + 1) + 240; omega) (fun x hx _ => hP x hx) f _ _ _ hrun
        refine hgo ?_ ad s.heap [] ls ⟨hl, hPw, hD0.self, va_S.rf, Nat.le_refl _, kExt.rf _ _⟩
        intro ad' H locs ls' hat
        obtain ⟨hl', hP', hD', hS', hn', hE'⟩ := hat
        obtain ⟨len, hd, hlen⟩ := kdec_ok (hP _ hx).1
        have fin : ∀ t : State, t.heap = H → s.WarmedH t.vm → ∀ oc : Outcome, oc = .returned (ret.map (kV ad' ρ)) → kQc D dA ρ ad w ret w' s.heap.size (as.map (kV ad ρ)).toArray s oc t := fun t ht hW oc hoc => ⟨⟨ad', hoc, hE', hn', by rw [ht]; exact hP', hD'⟩, hS'.F ht⟩
        refine W.widen (k := mc) (n := msl) (Nat.ble_eq.mp hcs.1) (Nat.ble_eq.mp hcs.2) ?_
        unfold kretx at hret
        split at hret
        · rcases hlen with q | q
          · exact absurd q (Nat.succ_ne_zero _)
          · subst q
            split at hret
            · cases hret
              exact W.vret B.exec B.bytes hrt (fun t ht hW => fin t ht hW _ rfl) hS'.2.2 hd
            · cases hret
        · rcases hlen with q | q
          · exact absurd q (Nat.succ_ne_zero _)
          · subst q
            split at hret
            · rename_i v
              cases hv : kisI v with
              | false => rw [hv] at hret; cases hret
              | true =>
                rw [hv] at hret; cases hret
                simp only [List.map_cons, List.map_nil]
                rw [kisI_eq hv]
                exact W.iret B.exec B.bytes hrt (fun t ht hW => fin t ht hW _ (by rw [Option.map_some, kisI_eq hv])) hS'.2.2 hd
            · rename_i v
              cases hv : decide (v = 0) || decide (v = 1) with
              | false => rw [hv] at hret; cases hret
              | true =>
                rw [hv] at hret; cases hret
                refine W.zret B.exec B.bytes hrt ?_ (fun t ht hW => fin t ht hW _ rfl) hS'.2.2 hd
                rcases Bool.or_eq_true_iff.mp hv with q | q <;> rw [of_decide_eq_true q] <;> rfl
            · exact absurd rfl hnb
            · cases hret
        · split at hret
          · exact absurd rfl hnb
          · cases hret
        · rcases hlen with q | q
          · exact absurd q (Nat.succ_ne_zero _)
          · subst q
            split at hret
            · cases hret
              exact W.lret B.exec B.bytes hrt (fun t ht hW => fin t ht hW _ rfl) hS'.2.2 hd
            · cases hret
        · cases hret
      · cases h
    · cases h
