/-! the tables are as they should be: each method's rows decode, and their words are the tables' (written by a program) -/
def kpick : List Cond → List Nat → List Cond
  | [], _ => []
  | c :: l, gs => match gs with
    | [] => []
    | g :: r => match g with
      | 0 => c :: kpick l r
      | n + 1 => kpick l (n :: r)
theorem kpick_sub : ∀ (l : List Cond) (gs : List Nat), ∀ w ∈ kpick l gs, w ∈ l := by
  intro l
  induction l with
  | nil => intro gs w h; cases h
  | cons c l ih =>
    intro gs w h
    cases gs with
    | nil => cases h
    | cons g r =>
      cases g with
      | zero =>
        rcases List.mem_cons.mp h with e | h
        · rw [e]; exact List.mem_cons_self
        · exact List.mem_cons_of_mem _ (ih r w h)
      | succ n => exact List.mem_cons_of_mem _ (ih (n :: r) w h)
def kin2 (ws sel : List Cond) (ps : List Nat) : Bool := decide (ws.map some = ps.map (fun i => sel[i]?)) && ws.all goodWord
theorem kin2_ok {ws : List Cond} {gs ps : List Nat} (h : kin2 ws (kpick lw_tbl gs) ps = true) : ∀ w ∈ ws, w ∈ LT := by
  intro w hw
  have h1 := Bool.and_eq_true_iff.mp h
  have h2 := of_decide_eq_true h1.1
  have h3 : some w ∈ ps.map (fun i => (kpick lw_tbl gs)[i]?) := by rw [← h2]; exact List.mem_map.mpr ⟨w, hw, rfl⟩
  obtain ⟨i, -, hi⟩ := List.mem_map.mp h3
  exact List.mem_filter.mpr ⟨kpick_sub _ _ _ (List.mem_of_getElem? hi), List.all_eq_true.mp h1.2 w hw⟩
def kpchk (ms : List KMeth) (zs : KY) (own mname : String) (cc : ByteArray) (prog : List KEnt) (gs ps : List Nat) : Bool := prog.all (fun x => kdec cc x && kside ms zs own mname x) && kin2 (prog.flatMap (fun x => kwords ms zs own x)) (kpick lw_tbl gs) ps
theorem kpchk_ok {ms : List KMeth} {zs : KY} {own mname : String} {cc : ByteArray} {prog : List KEnt} {gs ps : List Nat} (h : kpchk ms zs own mname cc prog gs ps = true) : ∀ x ∈ prog, kEntOK ms zs own mname cc x := by
  intro x hx
  have h1 := Bool.and_eq_true_iff.mp h
  have h2 := Bool.and_eq_true_iff.mp (List.all_eq_true.mp h1.1 x hx)
  exact ⟨h2.1, fun w hw => kin2_ok h1.2 w (List.mem_flatMap.mpr ⟨x, hx, hw⟩), h2.2⟩
def kMethOK (r : KMeth) : Prop := (∀ x ∈ r.2.2.2.2.2.2, kEntOK kmeths kStats r.1.cls r.1.name r.2.1 x) ∧ plainName r.1.cls = true
