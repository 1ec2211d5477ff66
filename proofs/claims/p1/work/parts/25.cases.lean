theorem kbd (x : Int32) : -2147483648 ≤ x.toInt ∧ x.toInt ≤ 2147483647 := by
  have h1 := Int32.le_toInt x
  have h2 := Int32.toInt_lt x
  omega
theorem kRg6 {ρ : Nat → Int32} {a0 b0 a1 b1 a2 b2 a3 b3 a4 b4 a5 b5 : Int} (h0 : a0 ≤ (ρ 0).toInt ∧ (ρ 0).toInt ≤ b0) (h1 : a1 ≤ (ρ 1).toInt ∧ (ρ 1).toInt ≤ b1) (h2 : a2 ≤ (ρ 2).toInt ∧ (ρ 2).toInt ≤ b2) (h3 : a3 ≤ (ρ 3).toInt ∧ (ρ 3).toInt ≤ b3) (h4 : a4 ≤ (ρ 4).toInt ∧ (ρ 4).toInt ≤ b4) (h5 : a5 ≤ (ρ 5).toInt ∧ (ρ 5).toInt ≤ b5) : kRg [(a0, b0), (a1, b1), (a2, b2), (a3, b3), (a4, b4), (a5, b5)] ρ := by
  intro i lo hi h
  match i, h with
  | 0, h => cases h; exact h0
  | 1, h => cases h; exact h1
  | 2, h => cases h; exact h2
  | 3, h => cases h; exact h3
  | 4, h => cases h; exact h4
  | 5, h => cases h; exact h5
  | n + 6, h => simp at h
def kCase (j : Nat) : Prop := ∀ ρ : Nat → Int32, ∃ rg, kleaf (Int32.ofNat j) rg = true ∧ kRg rg ρ
theorem kc_0 : kCase 0 := by
  intro ρ
  have b1 := kbd (ρ 1)
  have b2 := kbd (ρ 2)
  have b3 := kbd (ρ 3)
  exact ⟨_, kl_0_0, kRg6 (kbd _) (kbd _) (kbd _) (kbd _) (kbd _) (kbd _)⟩
theorem kc_1 : kCase 1 := by
  intro ρ
  have b1 := kbd (ρ 1)
  have b2 := kbd (ρ 2)
  have b3 := kbd (ρ 3)
  by_cases h1 : (ρ 1).toInt < 0
  · exact ⟨_, kl_1_0, kRg6 (kbd _) (by omega) (kbd _) (kbd _) (kbd _) (kbd _)⟩
  · by_cases h2 : (ρ 1).toInt < 1
    · exact ⟨_, kl_1_1, kRg6 (kbd _) (by omega) (kbd _) (kbd _) (kbd _) (kbd _)⟩
    · exact ⟨_, kl_1_2, kRg6 (kbd _) (by omega) (kbd _) (kbd _) (kbd _) (kbd _)⟩
theorem kc_2 : kCase 2 := by
  intro ρ
  have b1 := kbd (ρ 1)
  have b2 := kbd (ρ 2)
  have b3 := kbd (ρ 3)
  exact ⟨_, kl_2_0, kRg6 (kbd _) (kbd _) (kbd _) (kbd _) (kbd _) (kbd _)⟩
theorem kc_3 : kCase 3 := by
  intro ρ
  have b1 := kbd (ρ 1)
  have b2 := kbd (ρ 2)
  have b3 := kbd (ρ 3)
  exact ⟨_, kl_3_0, kRg6 (kbd _) (kbd _) (kbd _) (kbd _) (kbd _) (kbd _)⟩
theorem kc_6 : kCase 6 := by
  intro ρ
  have b1 := kbd (ρ 1)
  have b2 := kbd (ρ 2)
  have b3 := kbd (ρ 3)
  by_cases h1 : (ρ 1).toInt < 0
  · exact ⟨_, kl_6_0, kRg6 (kbd _) (by omega) (kbd _) (kbd _) (kbd _) (kbd _)⟩
  · exact ⟨_, kl_6_1, kRg6 (kbd _) (by omega) (kbd _) (kbd _) (kbd _) (kbd _)⟩
theorem kc_7 : kCase 7 := by
  intro ρ
  have b1 := kbd (ρ 1)
  have b2 := kbd (ρ 2)
  have b3 := kbd (ρ 3)
  by_cases h1 : (ρ 1).toInt < 0
  · exact ⟨_, kl_7_0, kRg6 (kbd _) (by omega) (kbd _) (kbd _) (kbd _) (kbd _)⟩
  · by_cases h2 : (ρ 1).toInt < 1
    · exact ⟨_, kl_7_1, kRg6 (kbd _) (by omega) (kbd _) (kbd _) (kbd _) (kbd _)⟩
    · by_cases h3 : (ρ 1).toInt < 2
      · exact ⟨_, kl_7_2, kRg6 (kbd _) (by omega) (kbd _) (kbd _) (kbd _) (kbd _)⟩
      · by_cases h4 : (ρ 1).toInt < 3
        · exact ⟨_, kl_7_3, kRg6 (kbd _) (by omega) (kbd _) (kbd _) (kbd _) (kbd _)⟩
        · by_cases h5 : (ρ 1).toInt < 4
          · exact ⟨_, kl_7_4, kRg6 (kbd _) (by omega) (kbd _) (kbd _) (kbd _) (kbd _)⟩
          · by_cases h6 : (ρ 1).toInt < 5
            · exact ⟨_, kl_7_5, kRg6 (kbd _) (by omega) (kbd _) (kbd _) (kbd _) (kbd _)⟩
            · by_cases h7 : (ρ 1).toInt < 6
              · exact ⟨_, kl_7_6, kRg6 (kbd _) (by omega) (kbd _) (kbd _) (kbd _) (kbd _)⟩
              · by_cases h8 : (ρ 1).toInt < 7
                · exact ⟨_, kl_7_7, kRg6 (kbd _) (by omega) (kbd _) (kbd _) (kbd _) (kbd _)⟩
                · by_cases h9 : (ρ 1).toInt < 8
                  · exact ⟨_, kl_7_8, kRg6 (kbd _) (by omega) (kbd _) (kbd _) (kbd _) (kbd _)⟩
                  · exact ⟨_, kl_7_9, kRg6 (kbd _) (by omega) (kbd _) (kbd _) (kbd _) (kbd _)⟩
theorem kc_8 : kCase 8 := by
  intro ρ
  have b1 := kbd (ρ 1)
  have b2 := kbd (ρ 2)
  have b3 := kbd (ρ 3)
  by_cases h1 : (ρ 1).toInt < 0
  · exact ⟨_, kl_8_0, kRg6 (kbd _) (by omega) (kbd _) (kbd _) (kbd _) (kbd _)⟩
  · exact ⟨_, kl_8_1, kRg6 (kbd _) (by omega) (kbd _) (kbd _) (kbd _) (kbd _)⟩
theorem kc_9 : kCase 9 := by
  intro ρ
  have b1 := kbd (ρ 1)
  have b2 := kbd (ρ 2)
  have b3 := kbd (ρ 3)
  by_cases h1 : (ρ 1).toInt < 0
  · exact ⟨_, kl_9_0, kRg6 (kbd _) (by omega) (kbd _) (kbd _) (kbd _) (kbd _)⟩
  · exact ⟨_, kl_9_1, kRg6 (kbd _) (by omega) (kbd _) (kbd _) (kbd _) (kbd _)⟩
theorem kc_10 : kCase 10 := by
  intro ρ
  have b1 := kbd (ρ 1)
  have b2 := kbd (ρ 2)
  have b3 := kbd (ρ 3)
  by_cases h1 : (ρ 1).toInt < 0
  · exact ⟨_, kl_10_0, kRg6 (kbd _) (by omega) (kbd _) (kbd _) (kbd _) (kbd _)⟩
  · exact ⟨_, kl_10_1, kRg6 (kbd _) (by omega) (kbd _) (kbd _) (kbd _) (kbd _)⟩
theorem kc_11 : kCase 11 := by
  intro ρ
  have b1 := kbd (ρ 1)
  have b2 := kbd (ρ 2)
  have b3 := kbd (ρ 3)
  by_cases h1 : (ρ 1).toInt < 0
  · exact ⟨_, kl_11_0, kRg6 (kbd _) (by omega) (kbd _) (kbd _) (kbd _) (kbd _)⟩
  · exact ⟨_, kl_11_1, kRg6 (kbd _) (by omega) (kbd _) (kbd _) (kbd _) (kbd _)⟩
theorem kc_12 : kCase 12 := by
  intro ρ
  have b1 := kbd (ρ 1)
  have b2 := kbd (ρ 2)
  have b3 := kbd (ρ 3)
  by_cases h1 : (ρ 1).toInt < 0
  · exact ⟨_, kl_12_0, kRg6 (kbd _) (by omega) (kbd _) (kbd _) (kbd _) (kbd _)⟩
  · exact ⟨_, kl_12_1, kRg6 (kbd _) (by omega) (kbd _) (kbd _) (kbd _) (kbd _)⟩
theorem kc_13 : kCase 13 := by
  intro ρ
  have b1 := kbd (ρ 1)
  have b2 := kbd (ρ 2)
  have b3 := kbd (ρ 3)
  by_cases h1 : (ρ 1).toInt < 0
  · exact ⟨_, kl_13_0, kRg6 (kbd _) (by omega) (kbd _) (kbd _) (kbd _) (kbd _)⟩
  · exact ⟨_, kl_13_1, kRg6 (kbd _) (by omega) (kbd _) (kbd _) (kbd _) (kbd _)⟩
theorem kc_14 : kCase 14 := by
  intro ρ
  have b1 := kbd (ρ 1)
  have b2 := kbd (ρ 2)
  have b3 := kbd (ρ 3)
  by_cases h1 : (ρ 1).toInt < 0
  · exact ⟨_, kl_14_0, kRg6 (kbd _) (by omega) (kbd _) (kbd _) (kbd _) (kbd _)⟩
  · exact ⟨_, kl_14_1, kRg6 (kbd _) (by omega) (kbd _) (kbd _) (kbd _) (kbd _)⟩
theorem kc_15 : kCase 15 := by
  intro ρ
  have b1 := kbd (ρ 1)
  have b2 := kbd (ρ 2)
  have b3 := kbd (ρ 3)
  by_cases h1 : (ρ 1).toInt < 1
  · exact ⟨_, kl_15_0, kRg6 (kbd _) (by omega) (kbd _) (kbd _) (kbd _) (kbd _)⟩
  · by_cases h2 : (ρ 1).toInt < 61
    · by_cases h3 : (ρ 1).toInt < 2
      · exact ⟨_, kl_15_1, kRg6 (kbd _) (by omega) (kbd _) (kbd _) (kbd _) (kbd _)⟩
      · by_cases h4 : (ρ 1).toInt < 3
        · exact ⟨_, kl_15_2, kRg6 (kbd _) (by omega) (kbd _) (kbd _) (kbd _) (kbd _)⟩
        · by_cases h5 : (ρ 1).toInt < 4
          · exact ⟨_, kl_15_3, kRg6 (kbd _) (by omega) (kbd _) (kbd _) (kbd _) (kbd _)⟩
          · by_cases h6 : (ρ 1).toInt < 5
            · exact ⟨_, kl_15_4, kRg6 (kbd _) (by omega) (kbd _) (kbd _) (kbd _) (kbd _)⟩
            · by_cases h7 : (ρ 1).toInt < 6
              · exact ⟨_, kl_15_5, kRg6 (kbd _) (by omega) (kbd _) (kbd _) (kbd _) (kbd _)⟩
              · by_cases h8 : (ρ 1).toInt < 7
                · exact ⟨_, kl_15_6, kRg6 (kbd _) (by omega) (kbd _) (kbd _) (kbd _) (kbd _)⟩
                · by_cases h9 : (ρ 1).toInt < 8
                  · exact ⟨_, kl_15_7, kRg6 (kbd _) (by omega) (kbd _) (kbd _) (kbd _) (kbd _)⟩
                  · by_cases h10 : (ρ 1).toInt < 9
                    · exact ⟨_, kl_15_8, kRg6 (kbd _) (by omega) (kbd _) (kbd _) (kbd _) (kbd _)⟩
                    · by_cases h11 : (ρ 1).toInt < 10
                      · exact ⟨_, kl_15_9, kRg6 (kbd _) (by omega) (kbd _) (kbd _) (kbd _) (kbd _)⟩
                      · by_cases h12 : (ρ 1).toInt < 11
                        · exact ⟨_, kl_15_10, kRg6 (kbd _) (by omega) (kbd _) (kbd _) (kbd _) (kbd _)⟩
                        · by_cases h13 : (ρ 1).toInt < 12
                          · exact ⟨_, kl_15_11, kRg6 (kbd _) (by omega) (kbd _) (kbd _) (kbd _) (kbd _)⟩
                          · by_cases h14 : (ρ 1).toInt < 13
                            · exact ⟨_, kl_15_12, kRg6 (kbd _) (by omega) (kbd _) (kbd _) (kbd _) (kbd _)⟩
                            · by_cases h15 : (ρ 1).toInt < 14
                              · exact ⟨_, kl_15_13, kRg6 (kbd _) (by omega) (kbd _) (kbd _) (kbd _) (kbd _)⟩
                              · by_cases h16 : (ρ 1).toInt < 15
                                · exact ⟨_, kl_15_14, kRg6 (kbd _) (by omega) (kbd _) (kbd _) (kbd _) (kbd _)⟩
                                · by_cases h17 : (ρ 1).toInt < 16
                                  · exact ⟨_, kl_15_15, kRg6 (kbd _) (by omega) (kbd _) (kbd _) (kbd _) (kbd _)⟩
                                  · by_cases h18 : (ρ 1).toInt < 17
                                    · exact ⟨_, kl_15_16, kRg6 (kbd _) (by omega) (kbd _) (kbd _) (kbd _) (kbd _)⟩
                                    · by_cases h19 : (ρ 1).toInt < 18
                                      · exact ⟨_, kl_15_17, kRg6 (kbd _) (by omega) (kbd _) (kbd _) (kbd _) (kbd _)⟩
                                      · by_cases h20 : (ρ 1).toInt < 19
                                        · exact ⟨_, kl_15_18, kRg6 (kbd _) (by omega) (kbd _) (kbd _) (kbd _) (kbd _)⟩
                                        · by_cases h21 : (ρ 1).toInt < 20
                                          · exact ⟨_, kl_15_19, kRg6 (kbd _) (by omega) (kbd _) (kbd _) (kbd _) (kbd _)⟩
                                          · by_cases h22 : (ρ 1).toInt < 21
                                            · exact ⟨_, kl_15_20, kRg6 (kbd _) (by omega) (kbd _) (kbd _) (kbd _) (kbd _)⟩
                                            · by_cases h23 : (ρ 1).toInt < 22
                                              · exact ⟨_, kl_15_21, kRg6 (kbd _) (by omega) (kbd _) (kbd _) (kbd _) (kbd _)⟩
                                              · by_cases h24 : (ρ 1).toInt < 23
                                                · exact ⟨_, kl_15_22, kRg6 (kbd _) (by omega) (kbd _) (kbd _) (kbd _) (kbd _)⟩
                                                · by_cases h25 : (ρ 1).toInt < 24
                                                  · exact ⟨_, kl_15_23, kRg6 (kbd _) (by omega) (kbd _) (kbd _) (kbd _) (kbd _)⟩
                                                  · by_cases h26 : (ρ 1).toInt < 25
                                                    · exact ⟨_, kl_15_24, kRg6 (kbd _) (by omega) (kbd _) (kbd _) (kbd _) (kbd _)⟩
                                                    · by_cases h27 : (ρ 1).toInt < 26
                                                      · exact ⟨_, kl_15_25, kRg6 (kbd _) (by omega) (kbd _) (kbd _) (kbd _) (kbd _)⟩
                                                      · by_cases h28 : (ρ 1).toInt < 27
                                                        · exact ⟨_, kl_15_26, kRg6 (kbd _) (by omega) (kbd _) (kbd _) (kbd _) (kbd _)⟩
                                                        · by_cases h29 : (ρ 1).toInt < 28
                                                          · exact ⟨_, kl_15_27, kRg6 (kbd _) (by omega) (kbd _) (kbd _) (kbd _) (kbd _)⟩
                                                          · by_cases h30 : (ρ 1).toInt < 29
                                                            · exact ⟨_, kl_15_28, kRg6 (kbd _) (by omega) (kbd _) (kbd _) (kbd _) (kbd _)⟩
                                                            · by_cases h31 : (ρ 1).toInt < 30
                                                              · exact ⟨_, kl_15_29, kRg6 (kbd _) (by omega) (kbd _) (kbd _) (kbd _) (kbd _)⟩
                                                              · by_cases h32 : (ρ 1).toInt < 31
                                                                · exact ⟨_, kl_15_30, kRg6 (kbd _) (by omega) (kbd _) (kbd _) (kbd _) (kbd _)⟩
                                                                · by_cases h33 : (ρ 1).toInt < 32
                                                                  · exact ⟨_, kl_15_31, kRg6 (kbd _) (by omega) (kbd _) (kbd _) (kbd _) (kbd _)⟩
                                                                  · by_cases h34 : (ρ 1).toInt < 33
                                                                    · exact ⟨_, kl_15_32, kRg6 (kbd _) (by omega) (kbd _) (kbd _) (kbd _) (kbd _)⟩
                                                                    · by_cases h35 : (ρ 1).toInt < 34
                                                                      · exact ⟨_, kl_15_33, kRg6 (kbd _) (by omega) (kbd _) (kbd _) (kbd _) (kbd _)⟩
                                                                      · by_cases h36 : (ρ 1).toInt < 35
                                                                        · exact ⟨_, kl_15_34, kRg6 (kbd _) (by omega) (kbd _) (kbd _) (kbd _) (kbd _)⟩
                                                                        · by_cases h37 : (ρ 1).toInt < 36
                                                                          · exact ⟨_, kl_15_35, kRg6 (kbd _) (by omega) (kbd _) (kbd _) (kbd _) (kbd _)⟩
                                                                          · by_cases h38 : (ρ 1).toInt < 37
                                                                            · exact ⟨_, kl_15_36, kRg6 (kbd _) (by omega) (kbd _) (kbd _) (kbd _) (kbd _)⟩
                                                                            · by_cases h39 : (ρ 1).toInt < 38
                                                                              · exact ⟨_, kl_15_37, kRg6 (kbd _) (by omega) (kbd _) (kbd _) (kbd _) (kbd _)⟩
                                                                              · by_cases h40 : (ρ 1).toInt < 39
                                                                                · exact ⟨_, kl_15_38, kRg6 (kbd _) (by omega) (kbd _) (kbd _) (kbd _) (kbd _)⟩
                                                                                · by_cases h41 : (ρ 1).toInt < 40
                                                                                  · exact ⟨_, kl_15_39, kRg6 (kbd _) (by omega) (kbd _) (kbd _) (kbd _) (kbd _)⟩
                                                                                  · by_cases h42 : (ρ 1).toInt < 41
                                                                                    · exact ⟨_, kl_15_40, kRg6 (kbd _) (by omega) (kbd _) (kbd _) (kbd _) (kbd _)⟩
                                                                                    · by_cases h43 : (ρ 1).toInt < 42
                                                                                      · exact ⟨_, kl_15_41, kRg6 (kbd _) (by omega) (kbd _) (kbd _) (kbd _) (kbd _)⟩
                                                                                      · by_cases h44 : (ρ 1).toInt < 43
                                                                                        · exact ⟨_, kl_15_42, kRg6 (kbd _) (by omega) (kbd _) (kbd _) (kbd _) (kbd _)⟩
                                                                                        · by_cases h45 : (ρ 1).toInt < 44
                                                                                          · exact ⟨_, kl_15_43, kRg6 (kbd _) (by omega) (kbd _) (kbd _) (kbd _) (kbd _)⟩
                                                                                          · by_cases h46 : (ρ 1).toInt < 45
                                                                                            · exact ⟨_, kl_15_44, kRg6 (kbd _) (by omega) (kbd _) (kbd _) (kbd _) (kbd _)⟩
                                                                                            · by_cases h47 : (ρ 1).toInt < 46
                                                                                              · exact ⟨_, kl_15_45, kRg6 (kbd _) (by omega) (kbd _) (kbd _) (kbd _) (kbd _)⟩
                                                                                              · by_cases h48 : (ρ 1).toInt < 47
                                                                                                · exact ⟨_, kl_15_46, kRg6 (kbd _) (by omega) (kbd _) (kbd _) (kbd _) (kbd _)⟩
                                                                                                · by_cases h49 : (ρ 1).toInt < 48
                                                                                                  · exact ⟨_, kl_15_47, kRg6 (kbd _) (by omega) (kbd _) (kbd _) (kbd _) (kbd _)⟩
                                                                                                  · by_cases h50 : (ρ 1).toInt < 49
                                                                                                    · exact ⟨_, kl_15_48, kRg6 (kbd _) (by omega) (kbd _) (kbd _) (kbd _) (kbd _)⟩
                                                                                                    · by_cases h51 : (ρ 1).toInt < 50
                                                                                                      · exact ⟨_, kl_15_49, kRg6 (kbd _) (by omega) (kbd _) (kbd _) (kbd _) (kbd _)⟩
                                                                                                      · by_cases h52 : (ρ 1).toInt < 51
                                                                                                        · exact ⟨_, kl_15_50, kRg6 (kbd _) (by omega) (kbd _) (kbd _) (kbd _) (kbd _)⟩
                                                                                                        · by_cases h53 : (ρ 1).toInt < 52
                                                                                                          · exact ⟨_, kl_15_51, kRg6 (kbd _) (by omega) (kbd _) (kbd _) (kbd _) (kbd _)⟩
                                                                                                          · by_cases h54 : (ρ 1).toInt < 53
                                                                                                            · exact ⟨_, kl_15_52, kRg6 (kbd _) (by omega) (kbd _) (kbd _) (kbd _) (kbd _)⟩
                                                                                                            · by_cases h55 : (ρ 1).toInt < 54
                                                                                                              · exact ⟨_, kl_15_53, kRg6 (kbd _) (by omega) (kbd _) (kbd _) (kbd _) (kbd _)⟩
                                                                                                              · by_cases h56 : (ρ 1).toInt < 55
                                                                                                                · exact ⟨_, kl_15_54, kRg6 (kbd _) (by omega) (kbd _) (kbd _) (kbd _) (kbd _)⟩
                                                                                                                · by_cases h57 : (ρ 1).toInt < 56
                                                                                                                  · exact ⟨_, kl_15_55, kRg6 (kbd _) (by omega) (kbd _) (kbd _) (kbd _) (kbd _)⟩
                                                                                                                  · by_cases h58 : (ρ 1).toInt < 57
                                                                                                                    · exact ⟨_, kl_15_56, kRg6 (kbd _) (by omega) (kbd _) (kbd _) (kbd _) (kbd _)⟩
                                                                                                                    · by_cases h59 : (ρ 1).toInt < 58
                                                                                                                      · exact ⟨_, kl_15_57, kRg6 (kbd _) (by omega) (kbd _) (kbd _) (kbd _) (kbd _)⟩
                                                                                                                      · by_cases h60 : (ρ 1).toInt < 59
                                                                                                                        · exact ⟨_, kl_15_58, kRg6 (kbd _) (by omega) (kbd _) (kbd _) (kbd _) (kbd _)⟩
                                                                                                                        · by_cases h61 : (ρ 1).toInt < 60
                                                                                                                          · exact ⟨_, kl_15_59, kRg6 (kbd _) (by omega) (kbd _) (kbd _) (kbd _) (kbd _)⟩
                                                                                                                          · exact ⟨_, kl_15_60, kRg6 (kbd _) (by omega) (kbd _) (kbd _) (kbd _) (kbd _)⟩
    · exact ⟨_, kl_15_61, kRg6 (kbd _) (by omega) (kbd _) (kbd _) (kbd _) (kbd _)⟩
theorem kc_16 : kCase 16 := by
  intro ρ
  have b1 := kbd (ρ 1)
  have b2 := kbd (ρ 2)
  have b3 := kbd (ρ 3)
  exact ⟨_, kl_16_0, kRg6 (kbd _) (kbd _) (kbd _) (kbd _) (kbd _) (kbd _)⟩
theorem kc_17 : kCase 17 := by
  intro ρ
  have b1 := kbd (ρ 1)
  have b2 := kbd (ρ 2)
  have b3 := kbd (ρ 3)
  by_cases h1 : (ρ 2).toInt < 0
  · by_cases h2 : (ρ 1).toInt < 0
    · exact ⟨_, kl_17_0, kRg6 (kbd _) (by omega) (by omega) (kbd _) (kbd _) (kbd _)⟩
    · exact ⟨_, kl_17_1, kRg6 (kbd _) (by omega) (by omega) (kbd _) (kbd _) (kbd _)⟩
  · by_cases h2 : (ρ 1).toInt < 0
    · exact ⟨_, kl_17_2, kRg6 (kbd _) (by omega) (by omega) (kbd _) (kbd _) (kbd _)⟩
    · exact ⟨_, kl_17_3, kRg6 (kbd _) (by omega) (by omega) (kbd _) (kbd _) (kbd _)⟩
theorem kc_18 : kCase 18 := by
  intro ρ
  have b1 := kbd (ρ 1)
  have b2 := kbd (ρ 2)
  have b3 := kbd (ρ 3)
  by_cases h1 : (ρ 1).toInt < 0
  · exact ⟨_, kl_18_0, kRg6 (kbd _) (by omega) (kbd _) (kbd _) (kbd _) (kbd _)⟩
  · exact ⟨_, kl_18_1, kRg6 (kbd _) (by omega) (kbd _) (kbd _) (kbd _) (kbd _)⟩
theorem kc_19 : kCase 19 := by
  intro ρ
  have b1 := kbd (ρ 1)
  have b2 := kbd (ρ 2)
  have b3 := kbd (ρ 3)
  by_cases h1 : (ρ 1).toInt < 0
  · exact ⟨_, kl_19_0, kRg6 (kbd _) (by omega) (kbd _) (kbd _) (kbd _) (kbd _)⟩
  · exact ⟨_, kl_19_1, kRg6 (kbd _) (by omega) (kbd _) (kbd _) (kbd _) (kbd _)⟩
theorem kc_20 : kCase 20 := by
  intro ρ
  have b1 := kbd (ρ 1)
  have b2 := kbd (ρ 2)
  have b3 := kbd (ρ 3)
  exact ⟨_, kl_20_0, kRg6 (kbd _) (kbd _) (kbd _) (kbd _) (kbd _) (kbd _)⟩
theorem kc_21 : kCase 21 := by
  intro ρ
  have b1 := kbd (ρ 1)
  have b2 := kbd (ρ 2)
  have b3 := kbd (ρ 3)
  by_cases h1 : (ρ 1).toInt < 0
  · exact ⟨_, kl_21_0, kRg6 (kbd _) (by omega) (kbd _) (kbd _) (kbd _) (kbd _)⟩
  · by_cases h2 : (ρ 1).toInt < 8
    · by_cases h3 : (ρ 1).toInt < 1
      · exact ⟨_, kl_21_1, kRg6 (kbd _) (by omega) (kbd _) (kbd _) (kbd _) (kbd _)⟩
      · by_cases h4 : (ρ 1).toInt < 2
        · exact ⟨_, kl_21_2, kRg6 (kbd _) (by omega) (kbd _) (kbd _) (kbd _) (kbd _)⟩
        · by_cases h5 : (ρ 1).toInt < 3
          · exact ⟨_, kl_21_3, kRg6 (kbd _) (by omega) (kbd _) (kbd _) (kbd _) (kbd _)⟩
          · by_cases h6 : (ρ 1).toInt < 4
            · exact ⟨_, kl_21_4, kRg6 (kbd _) (by omega) (kbd _) (kbd _) (kbd _) (kbd _)⟩
            · by_cases h7 : (ρ 1).toInt < 5
              · exact ⟨_, kl_21_5, kRg6 (kbd _) (by omega) (kbd _) (kbd _) (kbd _) (kbd _)⟩
              · by_cases h8 : (ρ 1).toInt < 6
                · exact ⟨_, kl_21_6, kRg6 (kbd _) (by omega) (kbd _) (kbd _) (kbd _) (kbd _)⟩
                · by_cases h9 : (ρ 1).toInt < 7
                  · exact ⟨_, kl_21_7, kRg6 (kbd _) (by omega) (kbd _) (kbd _) (kbd _) (kbd _)⟩
                  · exact ⟨_, kl_21_8, kRg6 (kbd _) (by omega) (kbd _) (kbd _) (kbd _) (kbd _)⟩
    · exact ⟨_, kl_21_9, kRg6 (kbd _) (by omega) (kbd _) (kbd _) (kbd _) (kbd _)⟩
theorem kc_22 : kCase 22 := by
  intro ρ
  have b1 := kbd (ρ 1)
  have b2 := kbd (ρ 2)
  have b3 := kbd (ρ 3)
  exact ⟨_, kl_22_0, kRg6 (kbd _) (kbd _) (kbd _) (kbd _) (kbd _) (kbd _)⟩
theorem kc_23 : kCase 23 := by
  intro ρ
  have b1 := kbd (ρ 1)
  have b2 := kbd (ρ 2)
  have b3 := kbd (ρ 3)
  exact ⟨_, kl_23_0, kRg6 (kbd _) (kbd _) (kbd _) (kbd _) (kbd _) (kbd _)⟩
theorem kc_24 : kCase 24 := by
  intro ρ
  have b1 := kbd (ρ 1)
  have b2 := kbd (ρ 2)
  have b3 := kbd (ρ 3)
  exact ⟨_, kl_24_0, kRg6 (kbd _) (kbd _) (kbd _) (kbd _) (kbd _) (kbd _)⟩
theorem kc_25 : kCase 25 := by
  intro ρ
  have b1 := kbd (ρ 1)
  have b2 := kbd (ρ 2)
  have b3 := kbd (ρ 3)
  exact ⟨_, kl_25_0, kRg6 (kbd _) (kbd _) (kbd _) (kbd _) (kbd _) (kbd _)⟩
theorem kc_26 : kCase 26 := by
  intro ρ
  have b1 := kbd (ρ 1)
  have b2 := kbd (ρ 2)
  have b3 := kbd (ρ 3)
  by_cases h1 : (ρ 1).toInt < 0
  · exact ⟨_, kl_26_0, kRg6 (kbd _) (by omega) (kbd _) (kbd _) (kbd _) (kbd _)⟩
  · exact ⟨_, kl_26_1, kRg6 (kbd _) (by omega) (kbd _) (kbd _) (kbd _) (kbd _)⟩
theorem kc_27 : kCase 27 := by
  intro ρ
  have b1 := kbd (ρ 1)
  have b2 := kbd (ρ 2)
  have b3 := kbd (ρ 3)
  by_cases h1 : (ρ 1).toInt < 0
  · exact ⟨_, kl_27_0, kRg6 (kbd _) (by omega) (kbd _) (kbd _) (kbd _) (kbd _)⟩
  · by_cases h2 : (ρ 1).toInt < 1
    · exact ⟨_, kl_27_1, kRg6 (kbd _) (by omega) (kbd _) (kbd _) (kbd _) (kbd _)⟩
    · by_cases h3 : (ρ 1).toInt < 2
      · exact ⟨_, kl_27_2, kRg6 (kbd _) (by omega) (kbd _) (kbd _) (kbd _) (kbd _)⟩
      · exact ⟨_, kl_27_3, kRg6 (kbd _) (by omega) (kbd _) (kbd _) (kbd _) (kbd _)⟩
theorem kc_28 : kCase 28 := by
  intro ρ
  have b1 := kbd (ρ 1)
  have b2 := kbd (ρ 2)
  have b3 := kbd (ρ 3)
  exact ⟨_, kl_28_0, kRg6 (kbd _) (kbd _) (kbd _) (kbd _) (kbd _) (kbd _)⟩
theorem kc_29 : kCase 29 := by
  intro ρ
  have b1 := kbd (ρ 1)
  have b2 := kbd (ρ 2)
  have b3 := kbd (ρ 3)
  by_cases h1 : (ρ 1).toInt < 0
  · exact ⟨_, kl_29_0, kRg6 (kbd _) (by omega) (kbd _) (kbd _) (kbd _) (kbd _)⟩
  · exact ⟨_, kl_29_1, kRg6 (kbd _) (by omega) (kbd _) (kbd _) (kbd _) (kbd _)⟩
theorem kc_30 : kCase 30 := by
  intro ρ
  have b1 := kbd (ρ 1)
  have b2 := kbd (ρ 2)
  have b3 := kbd (ρ 3)
  by_cases h1 : (ρ 1).toInt < 0
  · exact ⟨_, kl_30_0, kRg6 (kbd _) (by omega) (kbd _) (kbd _) (kbd _) (kbd _)⟩
  · exact ⟨_, kl_30_1, kRg6 (kbd _) (by omega) (kbd _) (kbd _) (kbd _) (kbd _)⟩
theorem kc_31 : kCase 31 := by
  intro ρ
  have b1 := kbd (ρ 1)
  have b2 := kbd (ρ 2)
  have b3 := kbd (ρ 3)
  by_cases h1 : (ρ 1).toInt < 1
  · exact ⟨_, kl_31_0, kRg6 (kbd _) (by omega) (kbd _) (kbd _) (kbd _) (kbd _)⟩
  · by_cases h2 : (ρ 1).toInt < 61
    · exact ⟨_, kl_31_1, kRg6 (kbd _) (by omega) (kbd _) (kbd _) (kbd _) (kbd _)⟩
    · exact ⟨_, kl_31_2, kRg6 (kbd _) (by omega) (kbd _) (kbd _) (kbd _) (kbd _)⟩
theorem kc_32 : kCase 32 := by
  intro ρ
  have b1 := kbd (ρ 1)
  have b2 := kbd (ρ 2)
  have b3 := kbd (ρ 3)
  by_cases h1 : (ρ 1).toInt < 0
  · exact ⟨_, kl_32_0, kRg6 (kbd _) (by omega) (kbd _) (kbd _) (kbd _) (kbd _)⟩
  · exact ⟨_, kl_32_1, kRg6 (kbd _) (by omega) (kbd _) (kbd _) (kbd _) (kbd _)⟩
theorem kc_33 : kCase 33 := by
  intro ρ
  have b1 := kbd (ρ 1)
  have b2 := kbd (ρ 2)
  have b3 := kbd (ρ 3)
  by_cases h1 : (ρ 1).toInt < 0
  · exact ⟨_, kl_33_0, kRg6 (kbd _) (by omega) (kbd _) (kbd _) (kbd _) (kbd _)⟩
  · by_cases h2 : (ρ 1).toInt < 1
    · exact ⟨_, kl_33_1, kRg6 (kbd _) (by omega) (kbd _) (kbd _) (kbd _) (kbd _)⟩
    · by_cases h3 : (ρ 1).toInt < 2
      · exact ⟨_, kl_33_2, kRg6 (kbd _) (by omega) (kbd _) (kbd _) (kbd _) (kbd _)⟩
      · exact ⟨_, kl_33_3, kRg6 (kbd _) (by omega) (kbd _) (kbd _) (kbd _) (kbd _)⟩
theorem kc_34 : kCase 34 := by
  intro ρ
  have b1 := kbd (ρ 1)
  have b2 := kbd (ρ 2)
  have b3 := kbd (ρ 3)
  exact ⟨_, kl_34_0, kRg6 (kbd _) (kbd _) (kbd _) (kbd _) (kbd _) (kbd _)⟩
theorem kc_35 : kCase 35 := by
  intro ρ
  have b1 := kbd (ρ 1)
  have b2 := kbd (ρ 2)
  have b3 := kbd (ρ 3)
  exact ⟨_, kl_35_0, kRg6 (kbd _) (kbd _) (kbd _) (kbd _) (kbd _) (kbd _)⟩
theorem kc_36 : kCase 36 := by
  intro ρ
  have b1 := kbd (ρ 1)
  have b2 := kbd (ρ 2)
  have b3 := kbd (ρ 3)
  exact ⟨_, kl_36_0, kRg6 (kbd _) (kbd _) (kbd _) (kbd _) (kbd _) (kbd _)⟩
theorem kc_37 : kCase 37 := by
  intro ρ
  have b1 := kbd (ρ 1)
  have b2 := kbd (ρ 2)
  have b3 := kbd (ρ 3)
  by_cases h1 : (ρ 1).toInt < 0
  · exact ⟨_, kl_37_0, kRg6 (kbd _) (by omega) (kbd _) (kbd _) (kbd _) (kbd _)⟩
  · by_cases h2 : (ρ 1).toInt < 2
    · by_cases h3 : (ρ 1).toInt < 1
      · exact ⟨_, kl_37_1, kRg6 (kbd _) (by omega) (kbd _) (kbd _) (kbd _) (kbd _)⟩
      · exact ⟨_, kl_37_2, kRg6 (kbd _) (by omega) (kbd _) (kbd _) (kbd _) (kbd _)⟩
    · exact ⟨_, kl_37_3, kRg6 (kbd _) (by omega) (kbd _) (kbd _) (kbd _) (kbd _)⟩
theorem kc_38 : kCase 38 := by
  intro ρ
  have b1 := kbd (ρ 1)
  have b2 := kbd (ρ 2)
  have b3 := kbd (ρ 3)
  by_cases h1 : (ρ 1).toInt < 0
  · exact ⟨_, kl_38_0, kRg6 (kbd _) (by omega) (kbd _) (kbd _) (kbd _) (kbd _)⟩
  · by_cases h2 : (ρ 1).toInt < 2
    · by_cases h3 : (ρ 1).toInt < 1
      · exact ⟨_, kl_38_1, kRg6 (kbd _) (by omega) (kbd _) (kbd _) (kbd _) (kbd _)⟩
      · exact ⟨_, kl_38_2, kRg6 (kbd _) (by omega) (kbd _) (kbd _) (kbd _) (kbd _)⟩
    · exact ⟨_, kl_38_3, kRg6 (kbd _) (by omega) (kbd _) (kbd _) (kbd _) (kbd _)⟩
theorem kc_39 : kCase 39 := by
  intro ρ
  have b1 := kbd (ρ 1)
  have b2 := kbd (ρ 2)
  have b3 := kbd (ρ 3)
  by_cases h1 : (ρ 1).toInt < 0
  · exact ⟨_, kl_39_0, kRg6 (kbd _) (by omega) (kbd _) (kbd _) (kbd _) (kbd _)⟩
  · by_cases h2 : (ρ 1).toInt < 1
    · exact ⟨_, kl_39_1, kRg6 (kbd _) (by omega) (kbd _) (kbd _) (kbd _) (kbd _)⟩
    · by_cases h3 : (ρ 1).toInt < 2
      · exact ⟨_, kl_39_2, kRg6 (kbd _) (by omega) (kbd _) (kbd _) (kbd _) (kbd _)⟩
      · by_cases h4 : (ρ 1).toInt < 3
        · exact ⟨_, kl_39_3, kRg6 (kbd _) (by omega) (kbd _) (kbd _) (kbd _) (kbd _)⟩
        · by_cases h5 : (ρ 1).toInt < 4
          · exact ⟨_, kl_39_4, kRg6 (kbd _) (by omega) (kbd _) (kbd _) (kbd _) (kbd _)⟩
          · exact ⟨_, kl_39_5, kRg6 (kbd _) (by omega) (kbd _) (kbd _) (kbd _) (kbd _)⟩
theorem kc_40 : kCase 40 := by
  intro ρ
  have b1 := kbd (ρ 1)
  have b2 := kbd (ρ 2)
  have b3 := kbd (ρ 3)
  exact ⟨_, kl_40_0, kRg6 (kbd _) (kbd _) (kbd _) (kbd _) (kbd _) (kbd _)⟩
theorem kc_41 : kCase 41 := by
  intro ρ
  have b1 := kbd (ρ 1)
  have b2 := kbd (ρ 2)
  have b3 := kbd (ρ 3)
  exact ⟨_, kl_41_0, kRg6 (kbd _) (kbd _) (kbd _) (kbd _) (kbd _) (kbd _)⟩
theorem kc_42 : kCase 42 := by
  intro ρ
  have b1 := kbd (ρ 1)
  have b2 := kbd (ρ 2)
  have b3 := kbd (ρ 3)
  exact ⟨_, kl_42_0, kRg6 (kbd _) (kbd _) (kbd _) (kbd _) (kbd _) (kbd _)⟩
theorem kc_43 : kCase 43 := by
  intro ρ
  have b1 := kbd (ρ 1)
  have b2 := kbd (ρ 2)
  have b3 := kbd (ρ 3)
  exact ⟨_, kl_43_0, kRg6 (kbd _) (kbd _) (kbd _) (kbd _) (kbd _) (kbd _)⟩
theorem kc_44 : kCase 44 := by
  intro ρ
  have b1 := kbd (ρ 1)
  have b2 := kbd (ρ 2)
  have b3 := kbd (ρ 3)
  exact ⟨_, kl_44_0, kRg6 (kbd _) (kbd _) (kbd _) (kbd _) (kbd _) (kbd _)⟩
theorem kc_45 : kCase 45 := by
  intro ρ
  have b1 := kbd (ρ 1)
  have b2 := kbd (ρ 2)
  have b3 := kbd (ρ 3)
  exact ⟨_, kl_45_0, kRg6 (kbd _) (kbd _) (kbd _) (kbd _) (kbd _) (kbd _)⟩
theorem kc_46 : kCase 46 := by
  intro ρ
  have b1 := kbd (ρ 1)
  have b2 := kbd (ρ 2)
  have b3 := kbd (ρ 3)
  exact ⟨_, kl_46_0, kRg6 (kbd _) (kbd _) (kbd _) (kbd _) (kbd _) (kbd _)⟩
theorem kc_47 : kCase 47 := by
  intro ρ
  have b1 := kbd (ρ 1)
  have b2 := kbd (ρ 2)
  have b3 := kbd (ρ 3)
  exact ⟨_, kl_47_0, kRg6 (kbd _) (kbd _) (kbd _) (kbd _) (kbd _) (kbd _)⟩
theorem kc_48 : kCase 48 := by
  intro ρ
  have b1 := kbd (ρ 1)
  have b2 := kbd (ρ 2)
  have b3 := kbd (ρ 3)
  exact ⟨_, kl_48_0, kRg6 (kbd _) (kbd _) (kbd _) (kbd _) (kbd _) (kbd _)⟩
theorem kc_49 : kCase 49 := by
  intro ρ
  have b1 := kbd (ρ 1)
  have b2 := kbd (ρ 2)
  have b3 := kbd (ρ 3)
  exact ⟨_, kl_49_0, kRg6 (kbd _) (kbd _) (kbd _) (kbd _) (kbd _) (kbd _)⟩
theorem kc_50 : kCase 50 := by
  intro ρ
  have b1 := kbd (ρ 1)
  have b2 := kbd (ρ 2)
  have b3 := kbd (ρ 3)
  exact ⟨_, kl_50_0, kRg6 (kbd _) (kbd _) (kbd _) (kbd _) (kbd _) (kbd _)⟩
theorem kc_51 : kCase 51 := by
  intro ρ
  have b1 := kbd (ρ 1)
  have b2 := kbd (ρ 2)
  have b3 := kbd (ρ 3)
  exact ⟨_, kl_51_0, kRg6 (kbd _) (kbd _) (kbd _) (kbd _) (kbd _) (kbd _)⟩
theorem kc_52 : kCase 52 := by
  intro ρ
  have b1 := kbd (ρ 1)
  have b2 := kbd (ρ 2)
  have b3 := kbd (ρ 3)
  exact ⟨_, kl_52_0, kRg6 (kbd _) (kbd _) (kbd _) (kbd _) (kbd _) (kbd _)⟩
theorem kc_53 : kCase 53 := by
  intro ρ
  have b1 := kbd (ρ 1)
  have b2 := kbd (ρ 2)
  have b3 := kbd (ρ 3)
  exact ⟨_, kl_53_0, kRg6 (kbd _) (kbd _) (kbd _) (kbd _) (kbd _) (kbd _)⟩
theorem kc_54 : kCase 54 := by
  intro ρ
  have b1 := kbd (ρ 1)
  have b2 := kbd (ρ 2)
  have b3 := kbd (ρ 3)
  exact ⟨_, kl_54_0, kRg6 (kbd _) (kbd _) (kbd _) (kbd _) (kbd _) (kbd _)⟩
theorem kc_55 : kCase 55 := by
  intro ρ
  have b1 := kbd (ρ 1)
  have b2 := kbd (ρ 2)
  have b3 := kbd (ρ 3)
  exact ⟨_, kl_55_0, kRg6 (kbd _) (kbd _) (kbd _) (kbd _) (kbd _) (kbd _)⟩
theorem kc_56 : kCase 56 := by
  intro ρ
  have b1 := kbd (ρ 1)
  have b2 := kbd (ρ 2)
  have b3 := kbd (ρ 3)
  exact ⟨_, kl_56_0, kRg6 (kbd _) (kbd _) (kbd _) (kbd _) (kbd _) (kbd _)⟩
theorem kc_57 : kCase 57 := by
  intro ρ
  have b1 := kbd (ρ 1)
  have b2 := kbd (ρ 2)
  have b3 := kbd (ρ 3)
  exact ⟨_, kl_57_0, kRg6 (kbd _) (kbd _) (kbd _) (kbd _) (kbd _) (kbd _)⟩
theorem kc_58 : kCase 58 := by
  intro ρ
  have b1 := kbd (ρ 1)
  have b2 := kbd (ρ 2)
  have b3 := kbd (ρ 3)
  exact ⟨_, kl_58_0, kRg6 (kbd _) (kbd _) (kbd _) (kbd _) (kbd _) (kbd _)⟩
theorem kc_59 : kCase 59 := by
  intro ρ
  have b1 := kbd (ρ 1)
  have b2 := kbd (ρ 2)
  have b3 := kbd (ρ 3)
  exact ⟨_, kl_59_0, kRg6 (kbd _) (kbd _) (kbd _) (kbd _) (kbd _) (kbd _)⟩
theorem kc_60 : kCase 60 := by
  intro ρ
  have b1 := kbd (ρ 1)
  have b2 := kbd (ρ 2)
  have b3 := kbd (ρ 3)
  exact ⟨_, kl_60_0, kRg6 (kbd _) (kbd _) (kbd _) (kbd _) (kbd _) (kbd _)⟩
theorem kc_61 : kCase 61 := by
  intro ρ
  have b1 := kbd (ρ 1)
  have b2 := kbd (ρ 2)
  have b3 := kbd (ρ 3)
  exact ⟨_, kl_61_0, kRg6 (kbd _) (kbd _) (kbd _) (kbd _) (kbd _) (kbd _)⟩
theorem kc_62 : kCase 62 := by
  intro ρ
  have b1 := kbd (ρ 1)
  have b2 := kbd (ρ 2)
  have b3 := kbd (ρ 3)
  exact ⟨_, kl_62_0, kRg6 (kbd _) (kbd _) (kbd _) (kbd _) (kbd _) (kbd _)⟩
theorem kc_63 : kCase 63 := by
  intro ρ
  have b1 := kbd (ρ 1)
  have b2 := kbd (ρ 2)
  have b3 := kbd (ρ 3)
  exact ⟨_, kl_63_0, kRg6 (kbd _) (kbd _) (kbd _) (kbd _) (kbd _) (kbd _)⟩
