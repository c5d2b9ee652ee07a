theorem qz_ok_of {y : Nat} {cd : List (Nat × qz_op)} (h : cd.all (fun q => qz_ok1 y q && qz_ok2 y q) = true) (he : qz_cd y = cd := by rfl) : qz_ok y := by
  intro q hq
  rw [he] at hq
  have h1 := List.all_eq_true.mp h q hq
  simp only [Bool.and_eq_true, qz_ok1, decide_eq_true_eq] at h1
  exact h1
theorem qo_X0_draw_0 : pc_X0_draw_0.all (fun q => qz_ok1 1 q && qz_ok2 1 q) = true := by decide +kernel
theorem qo_X0_draw_1 : pc_X0_draw_1.all (fun q => qz_ok1 1 q && qz_ok2 1 q) = true := by decide +kernel
theorem qo_X0_draw : qz_ok 1 := qz_ok_of (cd := pc_X0_draw_0 ++ pc_X0_draw_1) (by simp only [List.all_append, Bool.and_eq_true]; exact ⟨qo_X0_draw_0, qo_X0_draw_1⟩)
theorem qo_X0_gather_0 : pc_X0_gather_0.all (fun q => qz_ok1 2 q && qz_ok2 2 q) = true := by decide +kernel
theorem qo_X0_gather : qz_ok 2 := qz_ok_of qo_X0_gather_0
theorem qo_X0_result_0 : pc_X0_result_0.all (fun q => qz_ok1 3 q && qz_ok2 3 q) = true := by decide +kernel
theorem qo_X0_result : qz_ok 3 := qz_ok_of qo_X0_result_0
theorem qo_X0_wrongOnes_0 : pc_X0_wrongOnes_0.all (fun q => qz_ok1 4 q && qz_ok2 4 q) = true := by decide +kernel
theorem qo_X0_wrongOnes : qz_ok 4 := qz_ok_of qo_X0_wrongOnes_0
theorem qo_X1_holderOf_0 : pc_X1_holderOf_0.all (fun q => qz_ok1 6 q && qz_ok2 6 q) = true := by decide +kernel
theorem qo_X1_holderOf : qz_ok 6 := qz_ok_of qo_X1_holderOf_0
theorem qo_X1_foundShares_0 : pc_X1_foundShares_0.all (fun q => qz_ok1 7 q && qz_ok2 7 q) = true := by decide +kernel
theorem qo_X1_foundShares : qz_ok 7 := qz_ok_of qo_X1_foundShares_0
theorem qo_X1_isUnheeded_0 : pc_X1_isUnheeded_0.all (fun q => qz_ok1 8 q && qz_ok2 8 q) = true := by decide +kernel
theorem qo_X1_isUnheeded : qz_ok 8 := qz_ok_of qo_X1_isUnheeded_0
theorem qo_X1_hundredthsOf_0 : pc_X1_hundredthsOf_0.all (fun q => qz_ok1 9 q && qz_ok2 9 q) = true := by decide +kernel
theorem qo_X1_hundredthsOf : qz_ok 9 := qz_ok_of qo_X1_hundredthsOf_0
theorem qo_X2_size_0 : pc_X2_size_0.all (fun q => qz_ok1 11 q && qz_ok2 11 q) = true := by decide +kernel
theorem qo_X2_size : qz_ok 11 := qz_ok_of qo_X2_size_0
theorem qo_X2_isFull_0 : pc_X2_isFull_0.all (fun q => qz_ok1 12 q && qz_ok2 12 q) = true := by decide +kernel
theorem qo_X2_isFull : qz_ok 12 := qz_ok_of qo_X2_isFull_0
theorem qo_X2_clausesOf_0 : pc_X2_clausesOf_0.all (fun q => qz_ok1 13 q && qz_ok2 13 q) = true := by decide +kernel
theorem qo_X2_clausesOf : qz_ok 13 := qz_ok_of qo_X2_clausesOf_0
theorem qo_X2_add_0 : pc_X2_add_0.all (fun q => qz_ok1 14 q && qz_ok2 14 q) = true := by decide +kernel
theorem qo_X2_add_1 : pc_X2_add_1.all (fun q => qz_ok1 14 q && qz_ok2 14 q) = true := by decide +kernel
theorem qo_X2_add : qz_ok 14 := qz_ok_of (cd := pc_X2_add_0 ++ pc_X2_add_1) (by simp only [List.all_append, Bool.and_eq_true]; exact ⟨qo_X2_add_0, qo_X2_add_1⟩)
theorem qo_X2_keepClause_0 : pc_X2_keepClause_0.all (fun q => qz_ok1 15 q && qz_ok2 15 q) = true := by decide +kernel
theorem qo_X2_keepClause : qz_ok 15 := qz_ok_of qo_X2_keepClause_0
theorem qo_X2_weigh_0 : pc_X2_weigh_0.all (fun q => qz_ok1 16 q && qz_ok2 16 q) = true := by decide +kernel
theorem qo_X2_weigh : qz_ok 16 := qz_ok_of qo_X2_weigh_0
theorem qo_X2_result_0 : pc_X2_result_0.all (fun q => qz_ok1 17 q && qz_ok2 17 q) = true := by decide +kernel
theorem qo_X2_result : qz_ok 17 := qz_ok_of qo_X2_result_0
theorem qo_X2_learn_0 : pc_X2_learn_0.all (fun q => qz_ok1 18 q && qz_ok2 18 q) = true := by decide +kernel
theorem qo_X2_learn_1 : pc_X2_learn_1.all (fun q => qz_ok1 18 q && qz_ok2 18 q) = true := by decide +kernel
theorem qo_X2_learn : qz_ok 18 := qz_ok_of (cd := pc_X2_learn_0 ++ pc_X2_learn_1) (by simp only [List.all_append, Bool.and_eq_true]; exact ⟨qo_X2_learn_0, qo_X2_learn_1⟩)
theorem qo_X2_forget_0 : pc_X2_forget_0.all (fun q => qz_ok1 19 q && qz_ok2 19 q) = true := by decide +kernel
theorem qo_X2_forget : qz_ok 19 := qz_ok_of qo_X2_forget_0
theorem qo_X2_isInForce_0 : pc_X2_isInForce_0.all (fun q => qz_ok1 20 q && qz_ok2 20 q) = true := by decide +kernel
theorem qo_X2_isInForce : qz_ok 20 := qz_ok_of qo_X2_isInForce_0
theorem qo_X2_weighLaw_0 : pc_X2_weighLaw_0.all (fun q => qz_ok1 21 q && qz_ok2 21 q) = true := by decide +kernel
theorem qo_X2_weighLaw_1 : pc_X2_weighLaw_1.all (fun q => qz_ok1 21 q && qz_ok2 21 q) = true := by decide +kernel
theorem qo_X2_weighLaw : qz_ok 21 := qz_ok_of (cd := pc_X2_weighLaw_0 ++ pc_X2_weighLaw_1) (by simp only [List.all_append, Bool.and_eq_true]; exact ⟨qo_X2_weighLaw_0, qo_X2_weighLaw_1⟩)
theorem qo_X2_weighClause_0 : pc_X2_weighClause_0.all (fun q => qz_ok1 22 q && qz_ok2 22 q) = true := by decide +kernel
theorem qo_X2_weighClause_1 : pc_X2_weighClause_1.all (fun q => qz_ok1 22 q && qz_ok2 22 q) = true := by decide +kernel
theorem qo_X2_weighClause : qz_ok 22 := qz_ok_of (cd := pc_X2_weighClause_0 ++ pc_X2_weighClause_1) (by simp only [List.all_append, Bool.and_eq_true]; exact ⟨qo_X2_weighClause_0, qo_X2_weighClause_1⟩)
theorem qo_X3_size_0 : pc_X3_size_0.all (fun q => qz_ok1 24 q && qz_ok2 24 q) = true := by decide +kernel
theorem qo_X3_size : qz_ok 24 := qz_ok_of qo_X3_size_0
theorem qo_X3_tellings_0 : pc_X3_tellings_0.all (fun q => qz_ok1 25 q && qz_ok2 25 q) = true := by decide +kernel
theorem qo_X3_tellings : qz_ok 25 := qz_ok_of qo_X3_tellings_0
theorem qo_X3_isFull_0 : pc_X3_isFull_0.all (fun q => qz_ok1 26 q && qz_ok2 26 q) = true := by decide +kernel
theorem qo_X3_isFull : qz_ok 26 := qz_ok_of qo_X3_isFull_0
theorem qo_X3_verdict_0 : pc_X3_verdict_0.all (fun q => qz_ok1 27 q && qz_ok2 27 q) = true := by decide +kernel
theorem qo_X3_verdict : qz_ok 27 := qz_ok_of qo_X3_verdict_0
theorem qo_X3_give_0 : pc_X3_give_0.all (fun q => qz_ok1 28 q && qz_ok2 28 q) = true := by decide +kernel
theorem qo_X3_give_1 : pc_X3_give_1.all (fun q => qz_ok1 28 q && qz_ok2 28 q) = true := by decide +kernel
theorem qo_X3_give : qz_ok 28 := qz_ok_of (cd := pc_X3_give_0 ++ pc_X3_give_1) (by simp only [List.all_append, Bool.and_eq_true]; exact ⟨qo_X3_give_0, qo_X3_give_1⟩)
theorem qo_X3_addUses_0 : pc_X3_addUses_0.all (fun q => qz_ok1 29 q && qz_ok2 29 q) = true := by decide +kernel
theorem qo_X3_addUses : qz_ok 29 := qz_ok_of qo_X3_addUses_0
theorem qo_X3_lastsOn_0 : pc_X3_lastsOn_0.all (fun q => qz_ok1 30 q && qz_ok2 30 q) = true := by decide +kernel
theorem qo_X3_lastsOn : qz_ok 30 := qz_ok_of qo_X3_lastsOn_0
theorem qo_X3_endFor_0 : pc_X3_endFor_0.all (fun q => qz_ok1 31 q && qz_ok2 31 q) = true := by decide +kernel
theorem qo_X3_endFor : qz_ok 31 := qz_ok_of qo_X3_endFor_0
theorem qo_X3_payment_0 : pc_X3_payment_0.all (fun q => qz_ok1 32 q && qz_ok2 32 q) = true := by decide +kernel
theorem qo_X3_payment : qz_ok 32 := qz_ok_of qo_X3_payment_0
theorem qo_X3_isFree_0 : pc_X3_isFree_0.all (fun q => qz_ok1 33 q && qz_ok2 33 q) = true := by decide +kernel
theorem qo_X3_isFree : qz_ok 33 := qz_ok_of qo_X3_isFree_0
theorem qo_X3_isWrong_0 : pc_X3_isWrong_0.all (fun q => qz_ok1 34 q && qz_ok2 34 q) = true := by decide +kernel
theorem qo_X3_isWrong : qz_ok 34 := qz_ok_of qo_X3_isWrong_0
theorem qo_X3_detail_0 : pc_X3_detail_0.all (fun q => qz_ok1 35 q && qz_ok2 35 q) = true := by decide +kernel
theorem qo_X3_detail : qz_ok 35 := qz_ok_of qo_X3_detail_0
theorem qo_X4_setCost_0 : pc_X4_setCost_0.all (fun q => qz_ok1 37 q && qz_ok2 37 q) = true := by decide +kernel
theorem qo_X4_setCost : qz_ok 37 := qz_ok_of qo_X4_setCost_0
theorem qo_X4_setChance_0 : pc_X4_setChance_0.all (fun q => qz_ok1 38 q && qz_ok2 38 q) = true := by decide +kernel
theorem qo_X4_setChance : qz_ok 38 := qz_ok_of qo_X4_setChance_0
theorem qo_X4_gather_0 : pc_X4_gather_0.all (fun q => qz_ok1 39 q && qz_ok2 39 q) = true := by decide +kernel
theorem qo_X4_gather : qz_ok 39 := qz_ok_of qo_X4_gather_0
theorem qo_X4_expectedOn_0 : pc_X4_expectedOn_0.all (fun q => qz_ok1 40 q && qz_ok2 40 q) = true := by decide +kernel
theorem qo_X4_expectedOn : qz_ok 40 := qz_ok_of qo_X4_expectedOn_0
theorem qo_X4_findCheapest_0 : pc_X4_findCheapest_0.all (fun q => qz_ok1 41 q && qz_ok2 41 q) = true := by decide +kernel
theorem qo_X4_findCheapest : qz_ok 41 := qz_ok_of qo_X4_findCheapest_0
theorem qo_X4_leastExpected_0 : pc_X4_leastExpected_0.all (fun q => qz_ok1 42 q && qz_ok2 42 q) = true := by decide +kernel
theorem qo_X4_leastExpected : qz_ok 42 := qz_ok_of qo_X4_leastExpected_0
theorem qo_X4_cheapestAt_0 : pc_X4_cheapestAt_0.all (fun q => qz_ok1 43 q && qz_ok2 43 q) = true := by decide +kernel
theorem qo_X4_cheapestAt : qz_ok 43 := qz_ok_of qo_X4_cheapestAt_0
theorem qo_X4_expectedOfRow_0 : pc_X4_expectedOfRow_0.all (fun q => qz_ok1 44 q && qz_ok2 44 q) = true := by decide +kernel
theorem qo_X4_expectedOfRow : qz_ok 44 := qz_ok_of qo_X4_expectedOfRow_0
theorem qo_X4_costOf_0 : pc_X4_costOf_0.all (fun q => qz_ok1 45 q && qz_ok2 45 q) = true := by decide +kernel
theorem qo_X4_costOf : qz_ok 45 := qz_ok_of qo_X4_costOf_0
theorem qo_X4_chanceOf_0 : pc_X4_chanceOf_0.all (fun q => qz_ok1 46 q && qz_ok2 46 q) = true := by decide +kernel
theorem qo_X4_chanceOf : qz_ok 46 := qz_ok_of qo_X4_chanceOf_0
theorem qo_X4_leftBehind_0 : pc_X4_leftBehind_0.all (fun q => qz_ok1 47 q && qz_ok2 47 q) = true := by decide +kernel
theorem qo_X4_leftBehind : qz_ok 47 := qz_ok_of qo_X4_leftBehind_0
theorem qo_X4_firstOfLeast_0 : pc_X4_firstOfLeast_0.all (fun q => qz_ok1 48 q && qz_ok2 48 q) = true := by decide +kernel
theorem qo_X4_firstOfLeast : qz_ok 48 := qz_ok_of qo_X4_firstOfLeast_0
theorem qo_X4_leastAdded_0 : pc_X4_leastAdded_0.all (fun q => qz_ok1 49 q && qz_ok2 49 q) = true := by decide +kernel
theorem qo_X4_leastAdded_1 : pc_X4_leastAdded_1.all (fun q => qz_ok1 49 q && qz_ok2 49 q) = true := by decide +kernel
theorem qo_X4_leastAdded : qz_ok 49 := qz_ok_of (cd := pc_X4_leastAdded_0 ++ pc_X4_leastAdded_1) (by simp only [List.all_append, Bool.and_eq_true]; exact ⟨qo_X4_leastAdded_0, qo_X4_leastAdded_1⟩)
theorem qo_X4_addedWith_0 : pc_X4_addedWith_0.all (fun q => qz_ok1 50 q && qz_ok2 50 q) = true := by decide +kernel
theorem qo_X4_addedWith : qz_ok 50 := qz_ok_of qo_X4_addedWith_0
theorem qo_X4_knownAt_0 : pc_X4_knownAt_0.all (fun q => qz_ok1 51 q && qz_ok2 51 q) = true := by decide +kernel
theorem qo_X4_knownAt : qz_ok 51 := qz_ok_of qo_X4_knownAt_0
theorem qo_X4_keep_0 : pc_X4_keep_0.all (fun q => qz_ok1 52 q && qz_ok2 52 q) = true := by decide +kernel
theorem qo_X4_keep : qz_ok 52 := qz_ok_of qo_X4_keep_0
theorem qo_X5_size_0 : pc_X5_size_0.all (fun q => qz_ok1 54 q && qz_ok2 54 q) = true := by decide +kernel
theorem qo_X5_size : qz_ok 54 := qz_ok_of qo_X5_size_0
theorem qo_X5_has_0 : pc_X5_has_0.all (fun q => qz_ok1 55 q && qz_ok2 55 q) = true := by decide +kernel
theorem qo_X5_has : qz_ok 55 := qz_ok_of qo_X5_has_0
theorem qo_X5_isPerson_0 : pc_X5_isPerson_0.all (fun q => qz_ok1 56 q && qz_ok2 56 q) = true := by decide +kernel
theorem qo_X5_isPerson : qz_ok 56 := qz_ok_of qo_X5_isPerson_0
theorem qo_X5_isFirm_0 : pc_X5_isFirm_0.all (fun q => qz_ok1 57 q && qz_ok2 57 q) = true := by decide +kernel
theorem qo_X5_isFirm : qz_ok 57 := qz_ok_of qo_X5_isFirm_0
theorem qo_X5_add_0 : pc_X5_add_0.all (fun q => qz_ok1 58 q && qz_ok2 58 q) = true := by decide +kernel
theorem qo_X5_add : qz_ok 58 := qz_ok_of qo_X5_add_0
theorem qo_X5_tellDeath_0 : pc_X5_tellDeath_0.all (fun q => qz_ok1 59 q && qz_ok2 59 q) = true := by decide +kernel
theorem qo_X5_tellDeath : qz_ok 59 := qz_ok_of qo_X5_tellDeath_0
theorem qo_X5_deathOf_0 : pc_X5_deathOf_0.all (fun q => qz_ok1 60 q && qz_ok2 60 q) = true := by decide +kernel
theorem qo_X5_deathOf : qz_ok 60 := qz_ok_of qo_X5_deathOf_0
theorem qo_X5_deathDay_0 : pc_X5_deathDay_0.all (fun q => qz_ok1 61 q && qz_ok2 61 q) = true := by decide +kernel
theorem qo_X5_deathDay : qz_ok 61 := qz_ok_of qo_X5_deathDay_0
theorem qo_X5_join_0 : pc_X5_join_0.all (fun q => qz_ok1 62 q && qz_ok2 62 q) = true := by decide +kernel
theorem qo_X5_join : qz_ok 62 := qz_ok_of qo_X5_join_0
theorem qo_X5_leadsTo_0 : pc_X5_leadsTo_0.all (fun q => qz_ok1 63 q && qz_ok2 63 q) = true := by decide +kernel
theorem qo_X5_leadsTo : qz_ok 63 := qz_ok_of qo_X5_leadsTo_0
theorem qo_X5_holderFor_0 : pc_X5_holderFor_0.all (fun q => qz_ok1 64 q && qz_ok2 64 q) = true := by decide +kernel
theorem qo_X5_holderFor : qz_ok 64 := qz_ok_of qo_X5_holderFor_0
theorem qo_X6_begin_0 : pc_X6_begin_0.all (fun q => qz_ok1 66 q && qz_ok2 66 q) = true := by decide +kernel
theorem qo_X6_begin : qz_ok 66 := qz_ok_of qo_X6_begin_0
theorem qo_X6_asksFound_0 : pc_X6_asksFound_0.all (fun q => qz_ok1 67 q && qz_ok2 67 q) = true := by decide +kernel
theorem qo_X6_asksFound : qz_ok 67 := qz_ok_of qo_X6_asksFound_0
theorem qo_X6_codeSize_0 : pc_X6_codeSize_0.all (fun q => qz_ok1 68 q && qz_ok2 68 q) = true := by decide +kernel
theorem qo_X6_codeSize : qz_ok 68 := qz_ok_of qo_X6_codeSize_0
theorem qo_X6_fault_0 : pc_X6_fault_0.all (fun q => qz_ok1 69 q && qz_ok2 69 q) = true := by decide +kernel
theorem qo_X6_fault : qz_ok 69 := qz_ok_of qo_X6_fault_0
theorem qo_X6_kind_0 : pc_X6_kind_0.all (fun q => qz_ok1 70 q && qz_ok2 70 q) = true := by decide +kernel
theorem qo_X6_kind : qz_ok 70 := qz_ok_of qo_X6_kind_0
theorem qo_X6_firstNumber_0 : pc_X6_firstNumber_0.all (fun q => qz_ok1 71 q && qz_ok2 71 q) = true := by decide +kernel
theorem qo_X6_firstNumber : qz_ok 71 := qz_ok_of qo_X6_firstNumber_0
theorem qo_X6_secondNumber_0 : pc_X6_secondNumber_0.all (fun q => qz_ok1 72 q && qz_ok2 72 q) = true := by decide +kernel
theorem qo_X6_secondNumber : qz_ok 72 := qz_ok_of qo_X6_secondNumber_0
theorem qo_X6_readClause_0 : pc_X6_readClause_0.all (fun q => qz_ok1 73 q && qz_ok2 73 q) = true := by decide +kernel
theorem qo_X6_readClause_1 : pc_X6_readClause_1.all (fun q => qz_ok1 73 q && qz_ok2 73 q) = true := by decide +kernel
theorem qo_X6_readClause : qz_ok 73 := qz_ok_of (cd := pc_X6_readClause_0 ++ pc_X6_readClause_1) (by simp only [List.all_append, Bool.and_eq_true]; exact ⟨qo_X6_readClause_0, qo_X6_readClause_1⟩)
theorem qo_X6_goesOn_0 : pc_X6_goesOn_0.all (fun q => qz_ok1 74 q && qz_ok2 74 q) = true := by decide +kernel
theorem qo_X6_goesOn : qz_ok 74 := qz_ok_of qo_X6_goesOn_0
theorem qo_X6_sign_0 : pc_X6_sign_0.all (fun q => qz_ok1 75 q && qz_ok2 75 q) = true := by decide +kernel
theorem qo_X6_sign : qz_ok 75 := qz_ok_of qo_X6_sign_0
theorem qo_X6_blame_0 : pc_X6_blame_0.all (fun q => qz_ok1 76 q && qz_ok2 76 q) = true := by decide +kernel
theorem qo_X6_blame : qz_ok 76 := qz_ok_of qo_X6_blame_0
theorem qo_X6_pass_0 : pc_X6_pass_0.all (fun q => qz_ok1 77 q && qz_ok2 77 q) = true := by decide +kernel
theorem qo_X6_pass : qz_ok 77 := qz_ok_of qo_X6_pass_0
theorem qo_X6_enter_0 : pc_X6_enter_0.all (fun q => qz_ok1 78 q && qz_ok2 78 q) = true := by decide +kernel
theorem qo_X6_enter : qz_ok 78 := qz_ok_of qo_X6_enter_0
theorem qo_X6_exit_0 : pc_X6_exit_0.all (fun q => qz_ok1 79 q && qz_ok2 79 q) = true := by decide +kernel
theorem qo_X6_exit : qz_ok 79 := qz_ok_of qo_X6_exit_0
theorem qo_X6_readLimited_0 : pc_X6_readLimited_0.all (fun q => qz_ok1 80 q && qz_ok2 80 q) = true := by decide +kernel
theorem qo_X6_readLimited : qz_ok 80 := qz_ok_of qo_X6_readLimited_0
theorem qo_X6_readDigits_0 : pc_X6_readDigits_0.all (fun q => qz_ok1 81 q && qz_ok2 81 q) = true := by decide +kernel
theorem qo_X6_readDigits : qz_ok 81 := qz_ok_of qo_X6_readDigits_0
theorem qo_X6_isDigit_0 : pc_X6_isDigit_0.all (fun q => qz_ok1 82 q && qz_ok2 82 q) = true := by decide +kernel
theorem qo_X6_isDigit : qz_ok 82 := qz_ok_of qo_X6_isDigit_0
theorem qo_X6_anyPart_0 : pc_X6_anyPart_0.all (fun q => qz_ok1 83 q && qz_ok2 83 q) = true := by decide +kernel
theorem qo_X6_anyPart : qz_ok 83 := qz_ok_of qo_X6_anyPart_0
theorem qo_X6_everyPiece_0 : pc_X6_everyPiece_0.all (fun q => qz_ok1 84 q && qz_ok2 84 q) = true := by decide +kernel
theorem qo_X6_everyPiece : qz_ok 84 := qz_ok_of qo_X6_everyPiece_0
