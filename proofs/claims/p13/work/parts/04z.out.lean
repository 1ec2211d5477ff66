/-! What lies outside: statics, words, texts. -/
/-- outside: which labels are the same thing; the number that a word keeps -/
abbrev KO : Type := (Nat → Nat → Bool) × (Nat → Int64)
abbrev KY : Type := List (String × String × String)
/-- the statics; what is known of the words and texts -/
abbrev KZ : Type := KY × Option KO
def kTxt : List (List Int32) := [[], [32, 97, 98, 111, 117, 116], [32, 104, 117, 114, 116], [32, 105, 115, 32, 99, 108, 101, 97, 114], [32, 105, 115, 32, 102, 105, 108, 101, 100], [32, 105, 115, 32, 103, 114, 97, 110, 116, 101, 100], [32, 105, 115, 32, 118, 111, 105, 100], [32, 116, 104, 105, 114, 100], [32, 119, 97, 110, 116, 115]]
/-- the texts' constants: class, entry, text, number -/
def kLd : List (String × Nat × String × Nat) := [("TriplicateForms$Stamp", 66, "", 0), ("TriplicateForms$Stamp", 64, " about", 1), ("TriplicateForms$Stamp", 68, " hurt", 2), ("TriplicateForms$Stamp", 56, " is clear", 3), ("TriplicateForms$Stamp", 39, " is filed", 4), ("TriplicateForms$Stamp", 45, " is granted", 5), ("TriplicateForms$Stamp", 47, " is void", 6), ("TriplicateForms$Stamp", 70, " third", 7), ("TriplicateForms$Stamp", 58, " wants", 8)]
/-- a text: its String, its bytes -/
def kTx (l : List Int32) (a : Nat) (A : Nat → Prop) (U : State) (H : Heap) : Prop := ∃ v : Nat, va_O "java/lang/String" a A U H ∧ va_OF "java/lang/String" "coder" "B" (.int 0) a A U H ∧ va_OF "java/lang/String" "value" "[B" (.ref v) a A U H ∧ va_T .byte v l.length (fun j => .int (l.getD j 0)) A U H
theorem kTx.moved {l : List Int32} {a : Nat} {A : Nat → Prop} {u U : State} {H : Heap} (hvm : u.vm.Alike U.vm) (h : kTx l a A u H) : kTx l a A U H := by
  obtain ⟨v, h1, h2, h3, h4⟩ := h
  exact ⟨v, va_O.moved hvm h1, va_OF.moved hvm h2, va_OF.moved hvm h3, va_T.moved hvm h4⟩
theorem kTx.kept {l : List Int32} {a : Nat} {A : Nat → Prop} {U : State} {H H1 : Heap} (h : kTx l a A U H) (hq : ∀ a : Nat, a < H.size → ¬ A a → H1[a]? = H[a]?) : kTx l a A U H1 := by
  obtain ⟨v, h1, h2, h3, h4⟩ := h
  exact ⟨v, h1.kept hq, h2.kept hq, h3.kept hq, h4.kept hq⟩
theorem kTx.narrow {l : List Int32} {a : Nat} {A B : Nat → Prop} {U : State} {H : Heap} (h : kTx l a A U H) (hAB : ∀ q, B q → A q) : kTx l a B U H := by
  obtain ⟨v, h1, h2, h3, h4⟩ := h
  exact ⟨v, h1.narrow hAB, h2.narrow hAB, h3.narrow hAB, h4.narrow hAB⟩
def kOx (X : KO) (ad : Nat → Nat) (A : Nat → Prop) (U : State) (H : Heap) : Prop :=
  (∀ i j, 1000000 ≤ i → 1000000 ≤ j → (X.1 i j = true ↔ ad i = ad j)) ∧
  va_T (.object "TriplicateForms$Word") (ad 1000050) 30 (fun j => .ref (ad (1000100 + j))) A U H ∧
  (∀ i, i < 30 → va_OF "TriplicateForms$Word" "letters" "J" (.long (X.2 (1000100 + i))) (ad (1000100 + i)) A U H) ∧
  (∀ i l, kTxt[i]? = some l → kTx l (ad (1000200 + i)) A U H) ∧
  va_Z "java/lang/String" "COMPACT_STRINGS" "Z" (.int 1) A U H ∧
  va_Zq "jdk/internal/util/Preconditions" "SIOOBE_FORMATTER" "Ljava/util/function/BiFunction;" A U H ∧
  (∀ q ∈ kLd, vk_R q.1 q.2.1 q.2.2.1 (ad (1000200 + q.2.2.2)) U) ∧
  va_Nw (.fieldLinkNest "TriplicateForms$Tape" 70 "TriplicateForms" "WORDS" "[LTriplicateForms$Word;" "TriplicateForms") U
def kOuts (zs : KZ) (ad : Nat → Nat) (A : Nat → Prop) (U : State) (H : Heap) : Prop :=
  (∀ (i : Nat) (z : String × String × String), zs.1[i]? = some z → va_Z z.1 z.2.1 z.2.2 (.ref (ad (1000001 + i))) A U H) ∧ (∀ X, zs.2 = some X → kOx X ad A U H)
theorem kOuts.warm {zs : KZ} {ad : Nat → Nat} {A : Nat → Prop} {s U : State} {H : Heap} (hW : s.WarmedH U.vm) (h : kOuts zs ad A s H) : kOuts zs ad A U H :=
  ⟨fun i z hz => (h.1 i z hz).moved hW.alike, fun X hX => by
    obtain ⟨h1, h2, h3, h4, h5, h6, h7, h8⟩ := h.2 X hX
    exact ⟨h1, va_T.moved hW.alike h2, fun i hi => va_OF.moved hW.alike (h3 i hi), fun i l hl => kTx.moved hW.alike (h4 i l hl), h5.moved hW.alike, h6.moved hW.alike, fun q hq => (h7 q hq).warm hW, va_Nw.warmF hW h8⟩⟩
theorem kOuts.same {zs : KZ} {ad : Nat → Nat} {A : Nat → Prop} {u U : State} {H : Heap} (hvm : u.vm = U.vm) (h : kOuts zs ad A u H) : kOuts zs ad A U H := by
  have hv : u.vm.Alike U.vm := by rw [hvm]; exact Vm.Alike.refl _
  exact ⟨fun i z hz => (h.1 i z hz).moved hv, fun X hX => by
    obtain ⟨h1, h2, h3, h4, h5, h6, h7, h8⟩ := h.2 X hX
    exact ⟨h1, va_T.moved hv h2, fun i hi => va_OF.moved hv (h3 i hi), fun i l hl => kTx.moved hv (h4 i l hl), h5.moved hv, h6.moved hv, fun q hq => vk_R.same hvm.symm (h7 q hq), va_Nw.same rfl hvm h8⟩⟩
theorem kOuts.kept {zs : KZ} {ad : Nat → Nat} {A : Nat → Prop} {U : State} {H H1 : Heap} (h : kOuts zs ad A U H) (hq : ∀ a : Nat, a < H.size → ¬ A a → H1[a]? = H[a]?) : kOuts zs ad A U H1 :=
  ⟨fun i z hz => (h.1 i z hz).kept hq, fun X hX => by
    obtain ⟨h1, h2, h3, h4, h5, h6, h7, h8⟩ := h.2 X hX
    exact ⟨h1, h2.kept hq, fun i hi => (h3 i hi).kept hq, fun i l hl => (h4 i l hl).kept hq, h5.kept hq, h6.kept hq, h7, h8⟩⟩
theorem kOuts.narrow {zs : KZ} {ad : Nat → Nat} {A B : Nat → Prop} {U : State} {H : Heap} (h : kOuts zs ad A U H) (hAB : ∀ q, B q → A q) : kOuts zs ad B U H :=
  ⟨fun i z hz => (h.1 i z hz).narrow hAB, fun X hX => by
    obtain ⟨h1, h2, h3, h4, h5, h6, h7, h8⟩ := h.2 X hX
    exact ⟨h1, h2.narrow hAB, fun i hi => (h3 i hi).narrow hAB, fun i l hl => (h4 i l hl).narrow hAB, h5.narrow hAB, h6.narrow hAB, h7, h8⟩⟩
theorem kOuts.by {zs : KZ} {ad ad' : Nat → Nat} {A : Nat → Prop} {U : State} {H : Heap} (h : kOuts zs ad A U H) (ha : ∀ i, 1000000 ≤ i → ad' i = ad i) : kOuts zs ad' A U H := by
  have e : ∀ b i : Nat, 1000000 ≤ b → ad' (b + i) = ad (b + i) := fun b i hb => ha _ (Nat.le_trans hb (Nat.le_add_right _ _))
  refine ⟨fun i z hz => ?_, fun X hX => ?_⟩
  · rw [e 1000001 i (by decide)]
    exact h.1 i z hz
  · obtain ⟨h1, h2, h3, h4, h5, h6, h7, h8⟩ := h.2 X hX
    refine ⟨fun i j hi hj => ?_, ?_, fun i hi => ?_, fun i l hl => ?_, h5, h6, fun q hq => ?_, h8⟩
    · rw [ha i hi, ha j hj]
      exact h1 i j hi hj
    · rw [ha 1000050 (by decide), show (fun j => Value.ref (ad' (1000100 + j))) = (fun j => Value.ref (ad (1000100 + j))) from funext fun j => by rw [e 1000100 j (by decide)]]
      exact h2
    · rw [e 1000100 i (by decide)]
      exact h3 i hi
    · rw [e 1000200 i (by decide)]
      exact h4 i l hl
    · rw [e 1000200 q.2.2.2 (by decide)]
      exact h7 q hq
