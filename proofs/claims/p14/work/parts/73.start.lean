/-! The law from its entry. -/
section LAWS
variable {p : Program} {l : Launch} {e : Env} {s : State} {m : MethodId} {below : List Frame} {meth : Method} {c : Code} {b L : Nat} {xs : Nat → Int32} {D : va_G} {dA : Nat → ClassId} {ad0 : Nat → Nat} {ρ : Nat → Int32} {X : KO}
theorem law_prefixX (F : kFix p s m #[Value.ref b] meth c code 7 "TriplicateFormsLaw" "law" D dA (fun q => s.heap.size ≤ q) (kStatX, some X) ad0) (hg : lGoX p l e s m b below meth c D dA ρ ad0 kS1) : lGoX p l e s m b below meth c D dA ρ ad0 kS0 := by
  have F' : kFix p s m #[Value.ref b] meth c code 7 "TriplicateFormsLaw" "law" D dA (fun q => s.heap.size ≤ q) (kStats, none) ad0 := ⟨F.1, F.2.1, F.2.2.1, F.2.2.2.1, F.2.2.2.2.1, F.2.2.2.2.2.1, F.2.2.2.2.2.2.1, F.2.2.2.2.2.2.2.1, ⟨fun i z h => by simp [kStats] at h, fun X h => by cases h⟩, F.2.2.2.2.2.2.2.2.2⟩
  exact k_goTo (p := p) (l := l) (e := e) (R := room_1) (below := below) (n0 := 0) (rg := []) (ks := none) (L := 0) (zs := (kStats, none)) (Q := lw_Z below #[Value.ref b] s) F' (fun i lo hi h => by simp at h) (fun v h => by cases h) (fun q => absurd q (Nat.lt_irrefl 0)) (k_met (zs := (kStats, none)) kOall (fun i lo hi h => by simp at h) (fun v h => by cases h) 12) (Nat.le_refl _) (Nat.le_refl _) (Nat.le_of_ble_eq_true rfl) (Nat.le_of_ble_eq_true rfl) kPL_ok kfuel kS0 kS1 (keO_ok kprefix) hg
theorem head_S1 : HeadAt 0 (fun _ => 0) 0 0 kS1 := ⟨rfl, ⟨rfl, rfl, rfl, rfl, rfl, by decide⟩, rfl, ⟨rfl, rfl⟩, qTW1, qIa_of (qI1 (ρ := fun _ => 0) (tc := [])) (fun e h => absurd h List.not_mem_nil), by decide, by decide⟩
theorem law_all (hl : l.flags = flags0) (hL : L ≤ 3072) (C0 : lw_At p s m meth c b L xs) (F : kFix p s m #[Value.ref b] meth c code 7 "TriplicateFormsLaw" "law" D dA (fun q => s.heap.size ≤ q) (kStatX, some X) ad0) (hb0 : ad0 1000000 = b) (hXW : XW X) (hXS : XS X) : lGoX p l e s m b below meth c D dA xs ad0 kS1 := by
  have hlen : ((List.range L).map xs).length = L := by rw [List.length_map, List.length_range]
  obtain ⟨pc2, lo2, w2, c2, s2, ⟨f, hf⟩, h2, h3, -, -⟩ := law_TG X hXW hXS (xs := (List.range L).map xs) (by rw [hlen]; exact hL) (L + 1) 0 0 kS1 (by rw [hlen]; omega) head_S1 kWT_S1 RW_S1 (Int.le_refl _) (by rw [hlen]; omega) (Int.le_refl _) (by decide)
  rw [hlen] at hf
  have hget : ∀ (j : Nat) (q : Int × Int), (rgx ((List.range L).map xs))[j]? = some q → q = ((xs j).toInt, (xs j).toInt) := by
    intro j q hq
    unfold rgx at hq
    rw [List.getElem?_map, List.getElem?_map] at hq
    cases hr : (List.range L)[j]? with
    | none => rw [hr] at hq; cases hq
    | some i =>
      rw [hr] at hq
      have hj := (List.getElem?_eq_some_iff.mp hr)
      obtain ⟨h9, h8⟩ := hj
      rw [List.getElem_range] at h8
      subst h8
      cases hq
      rfl
  have hr : kRg (rgx ((List.range L).map xs)) xs := fun i lo hi h => by
    have := hget i _ h
    cases this
    exact ⟨Int.le_refl _, Int.le_refl _⟩
  have hX : kSc s (fun q => s.heap.size ≤ q) ad0 xs (L + 1) := fun _ => ⟨b, xs, C0.2.2.2.2.2.2.1, C0.2.2.2.2.2.2.2.1, fun q => absurd C0.2.2.2.2.2.2.2.1 (Nat.not_lt.mpr q), hb0, fun _ _ => rfl⟩
  obtain ⟨⟨x, hx⟩, hgo⟩ := law_runX (p := p) (l := l) (e := e) (below := below) hl C0 F hr hX f kS1 _ _ hf
  refine hgo ?_
  obtain ⟨len, hd, hlen2⟩ := kdec_ok (qOL _ hx rfl).1
  rcases hlen2 with q | q
  · exact absurd q (Nat.succ_ne_zero _)
  · subst q
    intro ad H locs ls hat
    obtain ⟨hx0, hb, hrt, hml, hown, hts, hXX, hbl, hlocks, hgv⟩ := C0
    refine va_forget (fun q hq => hat.2.2.2.1.2.2 q hq) ?_
    refine W.widen (k := 601024) (n := 7293034) (Nat.ble_eq.mp h2) (Nat.ble_eq.mp h3) ?_
    exact lw_ret hx0 hb hrt hlocks hd
end LAWS
theorem whole_start {p : Program} {e : Env} {s : State} {m : MethodId} {below : List Frame} {meth : Method} {c : Code} (l : Launch) (hflags : l.flags = flags0) {b L : Nat} {xs : Nat → Int32} (hL : L ≤ 3072) (C0 : lw_At p s m meth c b L xs) : W p l e room_1 s m #[Value.ref b] below meth c s.heap [] 0 0 (lw_Z below #[Value.ref b] s) (entryFrame m ([Value.ref b] : List Value).toArray 7) := by
  obtain ⟨D, dA, ad0, X, hb0, F, hXW, hXS⟩ := law_fixX C0
  have hl := lv_entry ([.ref b]) (n := 7) (Nat.le_of_ble_eq_true rfl)
  rw [lg_entry_eq]
  generalize (lg_sl ([.ref b]) ++ List.replicate (7 - (lg_sl ([.ref b])).length) Slot.unset).toArray = ls at hl ⊢
  have key : lGoX p l e s m b below meth c D dA xs ad0 kS0 := law_prefixX F (law_all hflags hL C0 F hb0 hXW hXS)
  have hl2 : lv_has ls 7 (kL ad0 xs [(0, .inl (.ref 1000000))]) := by
    have e1 : kL ad0 xs [(0, .inl (.ref 1000000))] = [(0, .ref b)] := by
      show [(0, Value.ref (ad0 1000000))] = _
      rw [hb0]
    rw [e1]
    exact hl
  exact key ad0 s.heap [] ls ⟨hl2, fun k q h => by simp [kS0, kW, kWf] at h, ⟨fun i j p q h => by simp [kS0, kW, kWf] at h, fun k q h => by simp [kS0, kW, kWf] at h⟩, va_S.rf, Nat.zero_le _, kExt.rf _ _⟩
