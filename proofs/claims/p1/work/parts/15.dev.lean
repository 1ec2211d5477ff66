/-! the tables are as they should be: each method's rows decode, and their words are the tables' (written by a program) -/
def kpick : List Cond → List Nat → List Cond
  | [], _ => []
  | c :: l, gs => match gs with
    | [] => []
    | g :: r => match g with
      | 0 => c :: kpick l r
      | n + 1 => kpick l (n :: r)
theorem kpick_sub : ∀ (l : List Cond) (gs : List Nat), ∀ w ∈ kpick l gs, w ∈ l := by
  intro l
  induction l with
  | nil => intro gs w h; cases h
  | cons c l ih =>
    intro gs w h
    cases gs with
    | nil => cases h
    | cons g r =>
      cases g with
      | zero =>
        rcases List.mem_cons.mp h with e | h
        · rw [e]; exact List.mem_cons_self
        · exact List.mem_cons_of_mem _ (ih r w h)
      | succ n => exact List.mem_cons_of_mem _ (ih (n :: r) w h)
def kin2 (ws sel : List Cond) (ps : List Nat) : Bool := decide (ws.map some = ps.map (fun i => sel[i]?)) && ws.all goodWord
theorem kin2_ok {ws : List Cond} {gs ps : List Nat} (h : kin2 ws (kpick lw_tbl gs) ps = true) : ∀ w ∈ ws, w ∈ LT := by
  intro w hw
  have h1 := Bool.and_eq_true_iff.mp h
  have h2 := of_decide_eq_true h1.1
  have h3 : some w ∈ ps.map (fun i => (kpick lw_tbl gs)[i]?) := by rw [← h2]; exact List.mem_map.mpr ⟨w, hw, rfl⟩
  obtain ⟨i, -, hi⟩ := List.mem_map.mp h3
  exact List.mem_filter.mpr ⟨kpick_sub _ _ _ (List.mem_of_getElem? hi), List.all_eq_true.mp h1.2 w hw⟩
def kchk (ms : List KMeth) (zs : KZ) (own mname : String) (cc : ByteArray) (prog : List KEnt) (gs ps : List Nat) : Bool := prog.all (fun x => kdec cc x && kside ms zs own mname x) && kin2 (prog.flatMap (fun x => kwords ms zs own x)) (kpick lw_tbl gs) ps
theorem kchk_ok {ms : List KMeth} {zs : KZ} {own mname : String} {cc : ByteArray} {prog : List KEnt} {gs ps : List Nat} (h : kchk ms zs own mname cc prog gs ps = true) : ∀ x ∈ prog, kEntOK ms zs own mname cc x := by
  intro x hx
  have h1 := Bool.and_eq_true_iff.mp h
  have h2 := Bool.and_eq_true_iff.mp (List.all_eq_true.mp h1.1 x hx)
  exact ⟨h2.1, fun w hw => kin2_ok h1.2 w (List.mem_flatMap.mpr ⟨x, hx, hw⟩), h2.2⟩
def kMethOK (r : KMeth) : Prop := (∀ x ∈ r.2.2.2.2.2.2, kEntOK kmeths kStats r.1.cls r.1.name r.2.1 x) ∧ plainName r.1.cls = true
theorem kOall : kOK kmeths kStats := sorry
theorem kPL_ok : ∀ x ∈ kPL, kEntOK kmeths kStats "TriplicateFormsLaw" "law" code x := sorry
/-! the runs, by the kernel -/
def kRc : Nat := 600002
def kRs : Nat := 7302232
def kS0 : KF := (0, [(0, .inl (.ref 1000000))], [], [], 0, 0)
def kFin (o : Option (Instr × KF)) : Bool := match o with
  | some (ig, _, _, st, _, c, s) => (match ig with
    | .ireturn => (match st with
      | [.inl (.int v)] => decide (v = 1)
      | _ => false)
    | _ => false) && (Nat.ble c kRc && Nat.ble s kRs)
  | none => false
def kleaf (ks : Int32) (rg : List (Int × Int)) : Bool := kFin (krun (kcall kmeths rg (some ks) 12) rg (some ks) 7 7 kRc kRs kPL kfuel [] kS1)
def kleafL (L : Nat) : Bool := kFin (krun (kcall kmeths [] none 12) [] none L 7 kRc kRs kPL kfuel [] kS1)
theorem kprefix : keO (kgoTo (kcall kmeths [] none 12) [] none 0 7 kRc kRs kPL 23 kfuel kS0) kS1 = true := sorry
theorem kshort0 : kleafL 1 = true := sorry
theorem kshort1 : kleafL 2 = true := sorry
theorem kshort2 : kleafL 3 = true := sorry
theorem kshort3 : kleafL 4 = true := sorry
theorem kshort4 : kleafL 5 = true := sorry
theorem kshort5 : kleafL 6 = true := sorry
theorem kbd (x : Int32) : -2147483648 ≤ x.toInt ∧ x.toInt ≤ 2147483647 := by
  have h1 := Int32.le_toInt x
  have h2 := Int32.toInt_lt x
  omega
theorem kRg6 {ρ : Nat → Int32} {a0 b0 a1 b1 a2 b2 a3 b3 a4 b4 a5 b5 : Int} (h0 : a0 ≤ (ρ 0).toInt ∧ (ρ 0).toInt ≤ b0) (h1 : a1 ≤ (ρ 1).toInt ∧ (ρ 1).toInt ≤ b1) (h2 : a2 ≤ (ρ 2).toInt ∧ (ρ 2).toInt ≤ b2) (h3 : a3 ≤ (ρ 3).toInt ∧ (ρ 3).toInt ≤ b3) (h4 : a4 ≤ (ρ 4).toInt ∧ (ρ 4).toInt ≤ b4) (h5 : a5 ≤ (ρ 5).toInt ∧ (ρ 5).toInt ≤ b5) : kRg [(a0, b0), (a1, b1), (a2, b2), (a3, b3), (a4, b4), (a5, b5)] ρ := by
  intro i lo hi h
  match i, h with
  | 0, h => cases h; exact h0
  | 1, h => cases h; exact h1
  | 2, h => cases h; exact h2
  | 3, h => cases h; exact h3
  | 4, h => cases h; exact h4
  | 5, h => cases h; exact h5
  | n + 6, h => simp at h
def kCase (j : Nat) : Prop := ∀ ρ : Nat → Int32, ∃ rg, kleaf (Int32.ofNat j) rg = true ∧ kRg rg ρ
theorem kc_0 : kCase 0 := sorry
theorem kc_1 : kCase 1 := sorry
theorem kc_2 : kCase 2 := sorry
theorem kc_3 : kCase 3 := sorry
theorem kc_6 : kCase 6 := sorry
theorem kc_7 : kCase 7 := sorry
theorem kc_8 : kCase 8 := sorry
theorem kc_9 : kCase 9 := sorry
theorem kc_10 : kCase 10 := sorry
theorem kc_11 : kCase 11 := sorry
theorem kc_12 : kCase 12 := sorry
theorem kc_13 : kCase 13 := sorry
theorem kc_14 : kCase 14 := sorry
theorem kc_15 : kCase 15 := sorry
theorem kc_16 : kCase 16 := sorry
theorem kc_17 : kCase 17 := sorry
theorem kc_18 : kCase 18 := sorry
theorem kc_19 : kCase 19 := sorry
theorem kc_20 : kCase 20 := sorry
theorem kc_21 : kCase 21 := sorry
theorem kc_22 : kCase 22 := sorry
theorem kc_23 : kCase 23 := sorry
theorem kc_24 : kCase 24 := sorry
theorem kc_25 : kCase 25 := sorry
theorem kc_26 : kCase 26 := sorry
theorem kc_27 : kCase 27 := sorry
theorem kc_28 : kCase 28 := sorry
theorem kc_29 : kCase 29 := sorry
theorem kc_30 : kCase 30 := sorry
theorem kc_31 : kCase 31 := sorry
theorem kc_32 : kCase 32 := sorry
theorem kc_33 : kCase 33 := sorry
theorem kc_34 : kCase 34 := sorry
theorem kc_35 : kCase 35 := sorry
theorem kc_36 : kCase 36 := sorry
theorem kc_37 : kCase 37 := sorry
theorem kc_38 : kCase 38 := sorry
theorem kc_39 : kCase 39 := sorry
theorem kc_40 : kCase 40 := sorry
theorem kc_41 : kCase 41 := sorry
theorem kc_42 : kCase 42 := sorry
theorem kc_43 : kCase 43 := sorry
theorem kc_44 : kCase 44 := sorry
theorem kc_45 : kCase 45 := sorry
theorem kc_46 : kCase 46 := sorry
theorem kc_47 : kCase 47 := sorry
theorem kc_48 : kCase 48 := sorry
theorem kc_49 : kCase 49 := sorry
theorem kc_50 : kCase 50 := sorry
theorem kc_51 : kCase 51 := sorry
theorem kc_52 : kCase 52 := sorry
theorem kc_53 : kCase 53 := sorry
theorem kc_54 : kCase 54 := sorry
theorem kc_55 : kCase 55 := sorry
theorem kc_56 : kCase 56 := sorry
theorem kc_57 : kCase 57 := sorry
theorem kc_58 : kCase 58 := sorry
theorem kc_59 : kCase 59 := sorry
theorem kc_60 : kCase 60 := sorry
theorem kc_61 : kCase 61 := sorry
theorem kc_62 : kCase 62 := sorry
theorem kc_63 : kCase 63 := sorry
