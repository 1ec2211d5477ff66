/-! Acts: what is so stays alike. -/
set_option maxRecDepth 16384 in
/-- places that days and acts change -/
def Qa (s x k : Int) : Prop := (x = s ∧ (k = 7 ∨ k = 8)) ∨ (s < x ∧ x ≤ s + 6 ∧ 0 ≤ k)
set_option maxRecDepth 16384 in
def Qb (x k : Int) : Prop := x = 150 ∧ 92 ≤ k
set_option maxRecDepth 16384 in
def Gx (a b a' b' : MM) (s : Int) : Prop := Sx a' b' s ∧ Fr (Qa s) a a' ∧ Fr Qb b b'
set_option maxRecDepth 16384 in
def SFo (a a' b b' : MM) (s f : Int) : Prop := a' (s + 4) f = a (s + 4) f ∧ a' (s + 5) f = a (s + 5) f ∧ (∀ k, 0 ≤ k → k < 3 → a' (s + 6) (3 * f + k) = a (s + 6) (3 * f + k) ∧ b' 150 (158 + (3 * f + k)) = b 150 (158 + (3 * f + k))) ∧ b' 150 (182 + f) = b 150 (182 + f) ∧ b' 150 (190 + f) = b 150 (190 + f)
set_option maxRecDepth 16384 in
theorem Gx.tr {a b a1 b1 a2 b2 : MM} {s : Int} (h1 : Gx a b a1 b1 s) (h2 : Gx a1 b1 a2 b2 s) : Gx a b a2 b2 s := ⟨h2.1, h1.2.1.tr h2.2.1, h1.2.2.tr h2.2.2⟩
set_option maxRecDepth 16384 in
theorem Gx.rf {a b : MM} {s : Int} (h : Sx a b s) : Gx a b a b s := ⟨h, Fr.rf _ _, Fr.rf _ _⟩
set_option maxRecDepth 16384 in
theorem Gx_of {a b a' b' : MM} {s : Int} (h : Sx a b s) (fa : Fr (Qa s) a a') (fb : Fr Qb b b') (hd : (a' s 8 = a s 8 ∧ b' 150 92 = b 150 92) ∨ (a' s 8 = b' 150 92 ∧ 0 ≤ a' s 8 ∧ a' s 8 ≤ 400)) (hr : (a' s 7 = a s 7 ∧ b' 150 93 = b 150 93) ∨ (a' s 7 = b' 150 93 ∧ s32 (a' s 7) = a' s 7)) (hg : (∀ k, 0 ≤ k → k < 64 → a' (s + 1) k = a (s + 1) k ∧ b' 150 (94 + k) = b 150 (94 + k)) ∨ (∀ k, 0 ≤ k → k < 64 → a' (s + 1) k = b' 150 (94 + k) ∧ 0 ≤ a' (s + 1) k ∧ a' (s + 1) k ≤ 9 ∧ (k % 9 = 0 → a' (s + 1) k = 0))) (ht : (∀ p, 0 ≤ p → p < 8 → a' (s + 2) p = a (s + 2) p ∧ b' 150 (198 + p) = b 150 (198 + p)) ∨ (∀ p, 0 ≤ p → p < 8 → a' (s + 2) p = b' 150 (198 + p) ∧ -1 ≤ a' (s + 2) p ∧ a' (s + 2) p < 8)) (hu : (∀ p, 0 ≤ p → p < 8 → a' (s + 3) p = a (s + 3) p ∧ b' 150 (206 + p) = b 150 (206 + p)) ∨ (∀ p, 0 ≤ p → p < 8 → a' (s + 3) p = b' 150 (206 + p) ∧ s32 (a' (s + 3) p) = a' (s + 3) p)) (hf : ∀ f, 0 ≤ f → f < a 3 7 → SFo a a' b b' s f ∨ Fo a' b' 3 s 150 0 f) : Gx a b a' b' s := by
  refine ⟨?_, fa, fb⟩
  obtain ⟨⟨⟨x0, x1, x2, x3, x4⟩, ⟨y1, y2, y3, y4, y5, y6⟩, z, w, s9, s140, sl⟩, ⟨⟨c1, c2, c3⟩, ⟨c4, c5, c6⟩, ⟨c7, c8⟩, c9, c10⟩, ⟨d1, d2, d3, d4, d5⟩⟩ := h
  have ea : ∀ x k, x < 9 → a' x k = a x k := fun x k hx => fa x k (by unfold Qa; omega)
  have es : ∀ k, k < 7 → a' s k = a s k := fun k hk => fa s k (by unfold Qa; omega)
  have eb : ∀ k, k < 92 → b' 150 k = b 150 k := fun k hk => fb 150 k (by unfold Qb; omega)
  have e36 := ea 3 6 (by decide)
  have e37 := ea 3 7 (by decide)
  refine ⟨⟨⟨?_, ?_, ?_, ?_, ?_⟩, ⟨?_, ?_, ?_, ?_, ?_, ?_⟩, ?_, ?_, s9, s140, ?_⟩, ⟨⟨?_, ?_, ?_⟩, ⟨?_, ?_, ?_⟩, ⟨?_, ?_⟩, fun k k0 k1 => ?_, fun k k0 k1 => ?_⟩, ⟨?_, ?_, fun k k0 k1 => ?_, fun p p0 p1 => ⟨?_, ?_⟩, fun f f0 f1 => ?_⟩⟩
  · rw [ea _ _ (by decide)]; exact x0
  · rw [ea _ _ (by decide)]; exact x1
  · rw [ea _ _ (by decide)]; exact x2
  · rw [ea _ _ (by decide)]; exact x3
  · rw [ea _ _ (by decide)]; exact x4
  · rw [es _ (by decide)]; exact y1
  · rw [es _ (by decide)]; exact y2
  · rw [es _ (by decide)]; exact y3
  · rw [es _ (by decide)]; exact y4
  · rw [es _ (by decide)]; exact y5
  · rw [es _ (by decide)]; exact y6
  · rw [es _ (by decide)]; exact z
  · rw [fb 148 14 (by unfold Qb; omega)]; exact w
  · rw [fa (s + 2) (-1) (by unfold Qa; omega)]; exact sl
  · rw [e36, eb _ (by decide)]; exact c1
  · rw [e36]; exact c2
  · rw [e36]; exact c3
  · rw [e37, eb _ (by decide)]; exact c4
  · rw [e37]; exact c5
  · rw [e37]; exact c6
  · rw [ea _ _ (by decide), eb _ (by decide)]; exact c7
  · rw [ea _ _ (by decide)]; exact c8
  · rw [ea _ _ (by decide), eb _ (by omega)]; exact c9 k k0 k1
  · rw [e37] at k1
    rw [ea (3 + 3) _ (by decide), ea (3 + 4) _ (by decide), eb _ (by omega), eb _ (by omega)]
    exact c10 k k0 k1
  · rcases hd with ⟨q1, q2⟩ | q
    · have q2 : b' 150 (0 + 92) = b 150 (0 + 92) := q2
      rw [q1, q2]; exact d1
    · exact q
  · rcases hr with ⟨q1, q2⟩ | q
    · have q2 : b' 150 (0 + 93) = b 150 (0 + 93) := q2
      rw [q1, q2]; exact d2
    · exact q
  · rcases hg with q | q
    · obtain ⟨q1, q2⟩ := q k k0 k1
      have q2 : b' 150 (0 + 94 + k) = b 150 (0 + 94 + k) := q2
      rw [q1, q2]; exact d3 k k0 k1
    · exact q k k0 k1
  · rcases ht with q | q
    · obtain ⟨q1, q2⟩ := q p p0 p1
      have q2 : b' 150 (0 + 198 + p) = b 150 (0 + 198 + p) := q2
      rw [q1, q2]; exact (d4 p p0 p1).1
    · exact q p p0 p1
  · rcases hu with q | q
    · obtain ⟨q1, q2⟩ := q p p0 p1
      have q2 : b' 150 (0 + 206 + p) = b 150 (0 + 206 + p) := q2
      rw [q1, q2]; exact (d4 p p0 p1).2
    · exact q p p0 p1
  · rw [e37] at f1
    rcases hf f f0 f1 with ⟨q1, q2, q3, q4, q5⟩ | q
    · obtain ⟨⟨g1, g1', g1''⟩, g2, g3, g4, g5, g6⟩ := d5 f f0 f1
      have q4 : b' 150 (0 + 182 + f) = b 150 (0 + 182 + f) := q4
      have q5 : b' 150 (0 + 190 + f) = b 150 (0 + 190 + f) := q5
      refine ⟨⟨?_, ?_, ?_⟩, ?_, ?_, ?_, fun k k0 k1 => ?_, ?_⟩
      · rw [q1, q4]; exact g1
      · rw [q1]; exact g1'
      · rw [q1]; exact g1''
      · rw [q1, q2, q5]; exact g2
      · rw [q1, q5]; exact g3
      · rw [q1, q5, ea (3 + 4) _ (by decide)]; exact g4
      · obtain ⟨r1, r2⟩ := q3 k k0 k1
        have r2 : b' 150 (0 + 158 + (3 * f + k)) = b 150 (0 + 158 + (3 * f + k)) := r2
        rw [q1, r1, r2]; exact g5 k k0 k1
      · rw [(q3 1 (by decide) (by decide)).1, ea (3 + 3) _ (by decide)]; exact g6
    · exact q
set_option maxRecDepth 16384 in
theorem SFo_same {a a' b b' : MM} {s f : Int} (h4 : a' (s + 4) f = a (s + 4) f) (h5 : a' (s + 5) f = a (s + 5) f) (h6 : ∀ k, a' (s + 6) k = a (s + 6) k) (hb : ∀ k, 158 ≤ k → k < 198 → b' 150 k = b 150 k) (f0 : 0 ≤ f) (f8 : f < 8) : SFo a a' b b' s f := ⟨h4, h5, fun k k0 k1 => ⟨h6 _, hb _ (by omega) (by omega)⟩, hb _ (by omega) (by omega), hb _ (by omega) (by omega)⟩
set_option maxRecDepth 16384 in
/-- a grudge -/
theorem Gx_gr {a b : MM} {s : Int} (h : Sx a b s) {k v : Int} (k0 : 0 ≤ k) (k1 : k < 64) (v0 : 0 ≤ v) (v9 : v ≤ 9) (vd : k % 9 = 0 → v = 0) : Gx a b (mu a (s + 1) k v) (mu b 150 (94 + k) v) s := by
  obtain ⟨e, e0, e8⟩ := h.f
  refine Gx_of h ((Fr.rf _ _).mu (Or.inr ⟨by omega, by omega, k0⟩)) ((Fr.rf _ _).mu ⟨rfl, by omega⟩) (Or.inl ⟨mu_a (by omega), mu_k (by omega)⟩) (Or.inl ⟨mu_a (by omega), mu_k (by omega)⟩) (Or.inr fun j j0 j1 => ?_) (Or.inl fun p p0 p1 => ⟨mu_a (by omega), mu_k (by omega)⟩) (Or.inl fun p p0 p1 => ⟨mu_a (by omega), mu_k (by omega)⟩) (fun f f0 f1 => Or.inl (SFo_same (mu_a (by omega)) (mu_a (by omega)) (fun j => mu_a (by omega)) (fun j _ _ => mu_k (by omega)) f0 (by omega)))
  by_cases c : j = k
  · rw [c, mu_s, mu_s]; exact ⟨rfl, v0, v9, vd⟩
  · rw [mu_k c, mu_k (by omega)]; exact h.gr j0 j1
set_option maxRecDepth 16384 in
/-- the drawer -/
theorem Gx_ret {a b : MM} {s : Int} (h : Sx a b s) {v : Int} (hv : s32 v = v) : Gx a b (mu a s 7 v) (mu b 150 93 v) s := by
  obtain ⟨e, e0, e8⟩ := h.f
  refine Gx_of h ((Fr.rf _ _).mu (Or.inl ⟨rfl, Or.inl rfl⟩)) ((Fr.rf _ _).mu ⟨rfl, by omega⟩) (Or.inl ⟨mu_k (by omega), mu_k (by omega)⟩) (Or.inr ⟨?_, ?_⟩) (Or.inl fun p p0 p1 => ⟨mu_a (by omega), mu_k (by omega)⟩) (Or.inl fun p p0 p1 => ⟨mu_a (by omega), mu_k (by omega)⟩) (Or.inl fun p p0 p1 => ⟨mu_a (by omega), mu_k (by omega)⟩) (fun f f0 f1 => Or.inl (SFo_same (mu_a (by omega)) (mu_a (by omega)) (fun j => mu_a (by omega)) (fun j _ _ => mu_k (by omega)) f0 (by omega)))
  · rw [mu_s, mu_s]
  · rw [mu_s]; exact hv
set_option maxRecDepth 16384 in
/-- the day -/
theorem Gx_day {a b : MM} {s : Int} (h : Sx a b s) {v : Int} (v0 : 0 ≤ v) (v4 : v ≤ 400) : Gx a b (mu a s 8 v) (mu b 150 92 v) s := by
  obtain ⟨e, e0, e8⟩ := h.f
  refine Gx_of h ((Fr.rf _ _).mu (Or.inl ⟨rfl, Or.inr rfl⟩)) ((Fr.rf _ _).mu ⟨rfl, by omega⟩) (Or.inr ⟨?_, ?_, ?_⟩) (Or.inl ⟨mu_k (by omega), mu_k (by omega)⟩) (Or.inl fun p p0 p1 => ⟨mu_a (by omega), mu_k (by omega)⟩) (Or.inl fun p p0 p1 => ⟨mu_a (by omega), mu_k (by omega)⟩) (Or.inl fun p p0 p1 => ⟨mu_a (by omega), mu_k (by omega)⟩) (fun f f0 f1 => Or.inl (SFo_same (mu_a (by omega)) (mu_a (by omega)) (fun j => mu_a (by omega)) (fun j _ _ => mu_k (by omega)) f0 (by omega)))
  · rw [mu_s, mu_s]
  · rw [mu_s]; exact v0
  · rw [mu_s]; exact v4
set_option maxRecDepth 16384 in
/-- who signed today -/
theorem Gx_td {a b : MM} {s : Int} (h : Sx a b s) {p v : Int} (p0 : 0 ≤ p) (p8 : p < 8) (v0 : -1 ≤ v) (v8 : v < 8) : Gx a b (mu a (s + 2) p v) (mu b 150 (198 + p) v) s := by
  obtain ⟨e, e0, e8⟩ := h.f
  refine Gx_of h ((Fr.rf _ _).mu (Or.inr ⟨by omega, by omega, p0⟩)) ((Fr.rf _ _).mu ⟨rfl, by omega⟩) (Or.inl ⟨mu_a (by omega), mu_k (by omega)⟩) (Or.inl ⟨mu_a (by omega), mu_k (by omega)⟩) (Or.inl fun p p0 p1 => ⟨mu_a (by omega), mu_k (by omega)⟩) (Or.inr fun j j0 j1 => ?_) (Or.inl fun p p0 p1 => ⟨mu_a (by omega), mu_k (by omega)⟩) (fun f f0 f1 => Or.inl (SFo_same (mu_a (by omega)) (mu_a (by omega)) (fun j => mu_a (by omega)) (fun j _ _ => mu_k (by omega)) f0 (by omega)))
  by_cases c : j = p
  · rw [c, mu_s, mu_s]; exact ⟨rfl, v0, v8⟩
  · rw [mu_k c, mu_k (by omega)]; exact h.td j0 j1
set_option maxRecDepth 16384 in
/-- how often one signed -/
theorem Gx_ts {a b : MM} {s : Int} (h : Sx a b s) {p v : Int} (p0 : 0 ≤ p) (p8 : p < 8) (hv : s32 v = v) : Gx a b (mu a (s + 3) p v) (mu b 150 (206 + p) v) s := by
  obtain ⟨e, e0, e8⟩ := h.f
  refine Gx_of h ((Fr.rf _ _).mu (Or.inr ⟨by omega, by omega, p0⟩)) ((Fr.rf _ _).mu ⟨rfl, by omega⟩) (Or.inl ⟨mu_a (by omega), mu_k (by omega)⟩) (Or.inl ⟨mu_a (by omega), mu_k (by omega)⟩) (Or.inl fun p p0 p1 => ⟨mu_a (by omega), mu_k (by omega)⟩) (Or.inl fun p p0 p1 => ⟨mu_a (by omega), mu_k (by omega)⟩) (Or.inr fun j j0 j1 => ?_) (fun f f0 f1 => Or.inl (SFo_same (mu_a (by omega)) (mu_a (by omega)) (fun j => mu_a (by omega)) (fun j _ _ => mu_k (by omega)) f0 (by omega)))
  by_cases c : j = p
  · rw [c, mu_s, mu_s]; exact ⟨rfl, hv⟩
  · rw [mu_k c, mu_k (by omega)]; exact (h.2.2.2.2.2.1 j j0 j1).2
set_option maxRecDepth 16384 in
/-- a form's places -/
def Qfa (s f x k : Int) : Prop := ((x = s + 4 ∨ x = s + 5) ∧ k = f) ∨ (x = s + 6 ∧ 3 * f ≤ k ∧ k < 3 * f + 3)
set_option maxRecDepth 16384 in
def Qfb (f x k : Int) : Prop := x = 150 ∧ (k = 182 + f ∨ k = 190 + f ∨ (158 + 3 * f ≤ k ∧ k < 161 + 3 * f))
set_option maxRecDepth 16384 in
theorem Gx_fo {a b a' b' : MM} {s : Int} (h : Sx a b s) {f : Int} (f0 : 0 ≤ f) (f1 : f < a 3 7) (fa : Fr (Qfa s f) a a') (fb : Fr (Qfb f) b b') (hn : Fo a' b' 3 s 150 0 f) : Gx a b a' b' s := by
  obtain ⟨e, e0, e8⟩ := h.f
  have hs := h.1.2.2.2.2
  refine Gx_of h (fa.mo fun x k q => by unfold Qfa at q; unfold Qa; omega) (fb.mo fun x k q => by unfold Qfb at q; unfold Qb; omega) (Or.inl ⟨fa _ _ (by unfold Qfa; omega), fb _ _ (by unfold Qfb; omega)⟩) (Or.inl ⟨fa _ _ (by unfold Qfa; omega), fb _ _ (by unfold Qfb; omega)⟩) (Or.inl fun p p0 p1 => ⟨fa _ _ (by unfold Qfa; omega), fb _ _ (by unfold Qfb; omega)⟩) (Or.inl fun p p0 p1 => ⟨fa _ _ (by unfold Qfa; omega), fb _ _ (by unfold Qfb; omega)⟩) (Or.inl fun p p0 p1 => ⟨fa _ _ (by unfold Qfa; omega), fb _ _ (by unfold Qfb; omega)⟩) (fun j j0 j1 => ?_)
  by_cases c : j = f
  · rw [c]; exact Or.inr hn
  · exact Or.inl ⟨fa _ _ (by unfold Qfa; omega), fa _ _ (by unfold Qfa; omega), fun k k0 k1 => ⟨fa _ _ (by unfold Qfa; omega), fb _ _ (by unfold Qfb; omega)⟩, fb _ _ (by unfold Qfb; omega), fb _ _ (by unfold Qfb; omega)⟩
