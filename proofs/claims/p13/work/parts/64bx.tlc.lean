/-! Kept and taken back, alike. -/
set_option maxRecDepth 16384 in
theorem p_keep {a b : MM} {s : Int} (h : Sx a b s) (hs : s = 15 ∨ s = 22) (u : Un a b) : Un (g162 a 29 s) (g276 b 148) ∧ Fr Qu a (g162 a 29 s) ∧ Fr Qv b (g276 b 148) ∧ Sx (g162 a 29 s) (g276 b 148) s := by
  obtain ⟨f1, f2, f3, ⟨f4, f5⟩, f6, f7, f8, f9⟩ := g162_ok u h.1.2.1 (by omega) (by omega)
  have u' := u
  obtain ⟨⟨u1, u2, u3, u4⟩, ⟨u5, u6⟩, ⟨u7, u8, u9⟩, u10, u11⟩ := u
  obtain ⟨k1, k2, k3, k4⟩ := g276_ok u10 h.bn (by omega) (by omega)
  rw [← u7] at k2 k3 k4
  obtain ⟨hf, hf0, hf8⟩ := h.f
  have hx : ∀ x k, x < 29 → (g162 a 29 s) x k = a x k := fun x k hx => f1 x k (by unfold Qu; omega)
  have hn : Sn (g162 a 29 s) (g276 b 148) 3 (31 + 7 * a 29 1) 153 (122 * ((if a 29 2 = 8 then 8 else a 29 2 + 1) - 1) - 92) := by
    refine Sn_cp h.2.2 (hx 3 7 (by decide)) hf8 (fun f f0 f1 => (h.sp f0 f1).2) (fun f f0 f1 => ⟨hx _ _ (by decide), hx _ _ (by decide)⟩) ⟨f4, f5⟩ f6 f7 f8 (fun k k0 k1 => Or.inr ?_)
    have := k3 (k - 92) (by omega) (by omega)
    rw [show 122 * ((if a 29 2 = 8 then 8 else a 29 2 + 1) - 1) - 92 + k = 122 * ((if a 29 2 = 8 then 8 else a 29 2 + 1) - 1) + (k - 92) by omega, this]
    congr 2
    omega
  have ho : ∀ j q, 0 ≤ j → j < (if a 29 2 = 8 then 8 else a 29 2 + 1) - 1 → (j + (if a 29 2 = 8 then 1 else 0) = q) → Sn (g162 a 29 s) (g276 b 148) 3 (31 + 7 * ((a 29 1 + 8 - a 29 2 + q) % 8)) 153 (122 * j - 92) := by
    intro j q j0 j1 hq
    have hq2 : 0 ≤ q ∧ q < a 29 2 ∧ (a 29 2 = 8 → q ≠ 0) := by
      by_cases c : a 29 2 = 8
      · rw [if_pos c] at j1 hq; omega
      · rw [if_neg c] at j1 hq; omega
    have hr : ∀ x k, 31 + 7 * ((a 29 1 + 8 - a 29 2 + q) % 8) ≤ x → x ≤ 31 + 7 * ((a 29 1 + 8 - a 29 2 + q) % 8) + 6 → (g162 a 29 s) x k = a x k := fun x k x0 x1 => f9 x k (by omega) (by omega) (by omega)
    refine Sn_cp (u11 q hq2.1 hq2.2.1) (hx 3 7 (by decide)) hf8 (fun f f0 f1 => (h.sp f0 f1).2) (fun f f0 f1 => ⟨hx _ _ (by decide), hx _ _ (by decide)⟩) ⟨hr _ _ (by omega) (by omega), hr _ _ (by omega) (by omega)⟩ (fun k _ _ => hr _ _ (by omega) (by omega)) (fun i k i0 i1 _ _ => hr _ _ (by omega) (by omega)) (fun k _ _ => hr _ _ (by omega) (by omega)) (fun k k0 k1 => ?_)
    have := k4 j (k - 92) j0 j1 (by omega) (by omega)
    rw [show 122 * j - 92 + k = 122 * j + (k - 92) by omega, this]
    by_cases c : a 29 2 = 8
    · rw [if_pos c] at hq ⊢
      right
      congr 2
      omega
    · rw [if_neg c] at hq ⊢
      left
      congr 1
      omega
  refine ⟨⟨⟨?_, ?_, fun i i0 i8 => ?_, fun i i0 i8 => ?_⟩, ⟨?_, ?_⟩, ⟨?_, ?_, ?_⟩, ?_, fun j j0 j1 => ?_⟩, f1, k1, ?_⟩
  · rw [f1 _ _ (by unfold Qu; omega)]; exact u1
  · rw [f1 _ _ (by unfold Qu; omega)]; exact u2
  · rw [f1 _ _ (by unfold Qu; omega)]; exact u3 i i0 i8
  · obtain ⟨q1, q2, q3, q4, q5, q6⟩ := u4 i i0 i8
    have e : ∀ k, k < 7 → (g162 a 29 s) (31 + 7 * i) k = a (31 + 7 * i) k := fun k hk => f1 _ _ (by unfold Qu; omega)
    unfold LSt
    rw [e _ (by decide), e _ (by decide), e _ (by decide), e _ (by decide), e _ (by decide), e _ (by decide)]
    exact ⟨q1, q2, q3, q4, q5, q6⟩
  · rw [f2]; omega
  · rw [f2]; omega
  · rw [f3, k2]
  · rw [f3]; split <;> omega
  · rw [f3]; split <;> omega
  · rw [k1 _ _ (by unfold Qv; omega)]; exact u10
  · rw [f3] at j1
    rw [f2, f3]
    by_cases c : j = (if a 29 2 = 8 then 8 else a 29 2 + 1) - 1
    · have e : (((a 29 1 + 1) % 8 + 8 - (if a 29 2 = 8 then 8 else a 29 2 + 1) + j) % 8) = a 29 1 := by rw [c]; omega
      rw [e, c]
      exact hn
    · have e : (((a 29 1 + 1) % 8 + 8 - (if a 29 2 = 8 then 8 else a 29 2 + 1) + j) % 8) = (a 29 1 + 8 - a 29 2 + (j + (if a 29 2 = 8 then 1 else 0))) % 8 := by
        by_cases d : a 29 2 = 8
        · rw [if_pos d, if_pos d]; omega
        · rw [if_neg d, if_neg d]; omega
      rw [e]
      exact ho j _ j0 (by omega) rfl
  · exact Sx_fr h (fun x k hx' _ => hx x k (by omega)) (fun x k x0 x1 => hx x k (by omega)) (k1 _ _ (by unfold Qv; omega)) (fun k => k1 _ _ (by unfold Qv; omega))
