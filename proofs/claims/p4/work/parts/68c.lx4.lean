/-! The start: tapes empty alike, fields as they will stay. -/
set_option maxRecDepth 16384 in
theorem wz_S1 {a t n : Nat} (h : kwg kW1 a = some (.inl (t, n, .inl ([], .inl 0)))) {j : Nat} (hj : j < n) : wm zr kW1 (a : Int) (j : Int) = 0 := by
  have : wval kW1 a j = some (.inl (.int 0)) := by
    unfold wval
    rw [h]
    show (bif Nat.blt j n then some (kofI (kget [] (.inl 0) j)) else none) = _
    rw [Nat.blt_eq.mpr hj]
    rfl
  rw [wm_val this]
  rfl
set_option maxRecDepth 16384 in
theorem RT_S1 : RT kW1 kW1 := by
  intro j hj
  have h1 : wm zr kW1 2 (j : Int) = 0 := wz_S1 (a := 2) (t := 2) (n := 940) rfl hj
  have h2 : wm zr kW1 149 (j : Int) = 0 := wz_S1 (a := 149) (t := 0) (n := 940) rfl hj
  rw [h1, h2, jand_eq]
  decide
set_option maxRecDepth 16384 in
theorem LL_S1 : LL kW1 := by
  have h : lls.all (fun q => decide (wm zr kW1 (q.1 : Int) (q.2.1 : Int) = (q.2.2 : Int))) = true := by decide +kernel
  exact fun q hq => of_decide_eq_true (List.all_eq_true.mp h q hq)
set_option maxRecDepth 16384 in
def kETb : KE → Bool
  | .inl _ => true
  | .inr (ci, fs) => (List.range fs.length).all (fun k => match fs[k]? with
    | some v => Nat.beq (kcat v) (kTc (kTy ci k))
    | none => true)
set_option maxRecDepth 16384 in
theorem kETb_ok {e : KE} (h : kETb e = true) : kET e := by
  rcases e with x | ⟨ci, fs⟩
  · trivial
  · intro k v hv
    have hk := (List.getElem?_eq_some_iff.mp hv).1
    have := List.all_eq_true.mp h k (List.mem_range.mpr hk)
    rw [hv] at this
    exact kb_t this
set_option maxRecDepth 16384 in
theorem kWT_S1 : kWT kW1 := by
  have h : kW1.all (fun ch => ch.all kETb) = true := by decide +kernel
  exact fun ch hc e he => kETb_ok (List.all_eq_true.mp (List.all_eq_true.mp h ch hc) e he)
