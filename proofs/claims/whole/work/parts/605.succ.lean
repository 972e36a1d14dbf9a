theorem X2_readDigits_l0_s (n : Nat) : X2_readDigits_l0 (n + 1) = X2_readDigits_b0 (X2_readDigits_l0 n) := rfl
theorem X2_readLetters_l13_s (n : Nat) : X2_readLetters_l13 (n + 1) = X2_readLetters_b13 (X2_readLetters_l13 n) := rfl
theorem X2_step_l0_s (n : Nat) : X2_step_l0 (n + 1) = X2_step_b0 (X2_step_l0 n) := rfl
theorem X2_readNumbers_l15_s (n : Nat) : X2_readNumbers_l15 (n + 1) = X2_readNumbers_b15 (X2_readNumbers_l15 n) := rfl
theorem X2_tellTo_l19_s (n : Nat) : X2_tellTo_l19 (n + 1) = X2_tellTo_b19 (X2_tellTo_l19 n) := rfl
theorem X5_next_l63_s (n : Nat) : X5_next_l63 (n + 1) = X5_next_b63 (X5_next_l63 n) := rfl
theorem X5_next_l126_s (n : Nat) : X5_next_l126 (n + 1) = X5_next_b126 (X5_next_l126 n) := rfl
theorem X5_next_l0_s (n : Nat) : X5_next_l0 (n + 1) = X5_next_b0 (X5_next_l0 n) := rfl
theorem X5_card_l197_s (n : Nat) : X5_card_l197 (n + 1) = X5_card_b197 (X5_card_l197 n) := rfl
theorem X5_card_l168_s (n : Nat) : X5_card_l168 (n + 1) = X5_card_b168 (X5_card_l168 n) := rfl
theorem X5_card_l43_s (n : Nat) : X5_card_l43 (n + 1) = X5_card_b43 (X5_card_l43 n) := rfl
theorem X5_know_l55_s (n : Nat) : X5_know_l55 (n + 1) = X5_know_b55 (X5_know_l55 n) := rfl
theorem X5_know_l13_s (n : Nat) : X5_know_l13 (n + 1) = X5_know_b13 (X5_know_l13 n) := rfl
theorem X5_manyOf_l4_s (n : Nat) : X5_manyOf_l4 (n + 1) = X5_manyOf_b4 (X5_manyOf_l4 n) := rfl
theorem X5_undo_l24_s (n : Nat) : X5_undo_l24 (n + 1) = X5_undo_b24 (X5_undo_l24 n) := rfl
theorem X4_makingSense_l4_s (n : Nat) : X4_makingSense_l4 (n + 1) = X4_makingSense_b4 (X4_makingSense_l4 n) := rfl
theorem X3_sum_l5_s (n : Nat) : X3_sum_l5 (n + 1) = X3_sum_b5 (X3_sum_l5 n) := rfl
theorem X5_isClear_l22_s (n : Nat) : X5_isClear_l22 (n + 1) = X5_isClear_b22 (X5_isClear_l22 n) := rfl
theorem X5_sense_l4_s (n : Nat) : X5_sense_l4 (n + 1) = X5_sense_b4 (X5_sense_l4 n) := rfl
theorem X5_sumOf_l5_s (n : Nat) : X5_sumOf_l5 (n + 1) = X5_sumOf_b5 (X5_sumOf_l5 n) := rfl
theorem X0_put_l50_s (n : Nat) : X0_put_l50 (n + 1) = X0_put_b50 (X0_put_l50 n) := rfl
theorem X0_goesOn_l8_s (n : Nat) : X0_goesOn_l8 (n + 1) = X0_goesOn_b8 (X0_goesOn_l8 n) := rfl
theorem X5_allSizes_l2_s (n : Nat) : X5_allSizes_l2 (n + 1) = X5_allSizes_b2 (X5_allSizes_l2 n) := rfl
theorem X5_fillBy_l146_s (K44 : Int32 → Int32 → Int32 → Int32 → Int32 → Hp → Option (Int32 × Hp)) (n : Nat) : X5_fillBy_l146 K44 (n + 1) = X5_fillBy_b146 K44 (X5_fillBy_l146 K44 n) := rfl
theorem X5_fillBy_l44_s (n : Nat) : X5_fillBy_l44 (n + 1) = X5_fillBy_b44 (X5_fillBy_l44 n) := rfl
theorem X4_greatest_l2_s (n : Nat) : X4_greatest_l2 (n + 1) = X4_greatest_b2 (X4_greatest_l2 n) := rfl
theorem X5_greatest_l2_s (n : Nat) : X5_greatest_l2 (n + 1) = X5_greatest_b2 (X5_greatest_l2 n) := rfl
theorem X5_costOf_l51_s (n : Nat) : X5_costOf_l51 (n + 1) = X5_costOf_b51 (X5_costOf_l51 n) := rfl
theorem X5_costOf_l11_s (n : Nat) : X5_costOf_l11 (n + 1) = X5_costOf_b11 (X5_costOf_l11 n) := rfl
theorem X5_even_l95_s (K45 : Int32 → Int32 → Int32 → Int32 → Hp → Option (Int32 × Hp)) (n : Nat) : X5_even_l95 K45 (n + 1) = X5_even_b95 K45 (X5_even_l95 K45 n) := rfl
theorem X5_even_l45_s (n : Nat) : X5_even_l45 (n + 1) = X5_even_b45 (X5_even_l45 n) := rfl
theorem X5_even_l19_s (n : Nat) : X5_even_l19 (n + 1) = X5_even_b19 (X5_even_l19 n) := rfl
theorem X3_hasItsNeeds_l2_s (n : Nat) : X3_hasItsNeeds_l2 (n + 1) = X3_hasItsNeeds_b2 (X3_hasItsNeeds_l2 n) := rfl
theorem X4_bestSet_l11_s (n : Nat) : X4_bestSet_l11 (n + 1) = X4_bestSet_b11 (X4_bestSet_l11 n) := rfl
theorem X5_hasNeeds_l4_s (n : Nat) : X5_hasNeeds_l4 (n + 1) = X5_hasNeeds_b4 (X5_hasNeeds_l4 n) := rfl
theorem X5_bestSet_l5_s (n : Nat) : X5_bestSet_l5 (n + 1) = X5_bestSet_b5 (X5_bestSet_l5 n) := rfl
theorem X0_howFar_l7_s (n : Nat) : X0_howFar_l7 (n + 1) = X0_howFar_b7 (X0_howFar_l7 n) := rfl
theorem X4_power_l5_s (n : Nat) : X4_power_l5 (n + 1) = X4_power_b5 (X4_power_l5 n) := rfl
theorem X4_leastTerm_l11_s (n : Nat) : X4_leastTerm_l11 (n + 1) = X4_leastTerm_b11 (X4_leastTerm_l11 n) := rfl
theorem X4_odds_l51_s (n : Nat) : X4_odds_l51 (n + 1) = X4_odds_b51 (X4_odds_l51 n) := rfl
theorem X5_odds_l76_s (K61 : Int32 → Int32 → Int32 → Int32 → Int64 → Int32 → Hp → Option (Int64 × Hp)) (n : Nat) : X5_odds_l76 K61 (n + 1) = X5_odds_b76 K61 (X5_odds_l76 K61 n) := rfl
theorem X5_odds_l196_s (n : Nat) : X5_odds_l196 (n + 1) = X5_odds_b196 (X5_odds_l196 n) := rfl
theorem X5_odds_l167_s (n : Nat) : X5_odds_l167 (n + 1) = X5_odds_b167 (X5_odds_l167 n) := rfl
theorem X5_odds_l61_s (n : Nat) : X5_odds_l61 (n + 1) = X5_odds_b61 (X5_odds_l61 n) := rfl
theorem X4_isAsSeen_l2_s (n : Nat) : X4_isAsSeen_l2 (n + 1) = X4_isAsSeen_b2 (X4_isAsSeen_l2 n) := rfl
theorem X4_sizes_l10_s (n : Nat) : X4_sizes_l10 (n + 1) = X4_sizes_b10 (X4_sizes_l10 n) := rfl
theorem X5_sizes_l27_s (K9 : Int32 → Int32 → Hp → Option (Int32 × Hp)) (n : Nat) : X5_sizes_l27 K9 (n + 1) = X5_sizes_b27 K9 (X5_sizes_l27 K9 n) := rfl
theorem X5_sizes_l9_s (n : Nat) : X5_sizes_l9 (n + 1) = X5_sizes_b9 (X5_sizes_l9 n) := rfl
theorem X4_two_l21_s (n : Nat) : X4_two_l21 (n + 1) = X4_two_b21 (X4_two_l21 n) := rfl
theorem X5_two_l27_s (n : Nat) : X5_two_l27 (n + 1) = X5_two_b27 (X5_two_l27 n) := rfl
theorem X5_copy_l2_s (n : Nat) : X5_copy_l2 (n + 1) = X5_copy_b2 (X5_copy_l2 n) := rfl
theorem LW_l18_s (xs : Nat → Int32) (L : Nat) (n : Nat) : LW_l18 xs L (n + 1) = LW_b18 xs L (LW_l18 xs L n) := rfl
