theorem qz_tb_1 {w : Cond} (h : w ∈ tables_1_1) : w ∈ lw_tbl := List.mem_append_right _ (List.mem_append_left _ h)
theorem qz_tb_2 {w : Cond} (h : w ∈ tables_1_2) : w ∈ lw_tbl := List.mem_append_right _ (List.mem_append_right _ (List.mem_append_left _ h))
theorem qz_tb_3 {w : Cond} (h : w ∈ tables_1_3) : w ∈ lw_tbl := List.mem_append_right _ (List.mem_append_right _ (List.mem_append_right _ (List.mem_append_left _ h)))
theorem qz_tb_4 {w : Cond} (h : w ∈ tables_1_4) : w ∈ lw_tbl := List.mem_append_right _ (List.mem_append_right _ (List.mem_append_right _ (List.mem_append_right _ (List.mem_append_left _ h))))
theorem qz_tb_5 {w : Cond} (h : w ∈ tables_1_5) : w ∈ lw_tbl := List.mem_append_right _ (List.mem_append_right _ (List.mem_append_right _ (List.mem_append_right _ (List.mem_append_right _ (List.mem_append_left _ h)))))
theorem qz_tb_6 {w : Cond} (h : w ∈ tables_1_6) : w ∈ lw_tbl := List.mem_append_right _ (List.mem_append_right _ (List.mem_append_right _ (List.mem_append_right _ (List.mem_append_right _ (List.mem_append_right _ (List.mem_append_left _ h))))))
theorem qz_tb_7 {w : Cond} (h : w ∈ tables_1_7) : w ∈ lw_tbl := List.mem_append_right _ (List.mem_append_right _ (List.mem_append_right _ (List.mem_append_right _ (List.mem_append_right _ (List.mem_append_right _ (List.mem_append_right _ (List.mem_append_left _ h)))))))
theorem qz_tb_8 {w : Cond} (h : w ∈ tables_1_8) : w ∈ lw_tbl := List.mem_append_right _ (List.mem_append_right _ (List.mem_append_right _ (List.mem_append_right _ (List.mem_append_right _ (List.mem_append_right _ (List.mem_append_right _ (List.mem_append_right _ (List.mem_append_left _ h))))))))
theorem qz_tb_9 {w : Cond} (h : w ∈ tables_1_9) : w ∈ lw_tbl := List.mem_append_right _ (List.mem_append_right _ (List.mem_append_right _ (List.mem_append_right _ (List.mem_append_right _ (List.mem_append_right _ (List.mem_append_right _ (List.mem_append_right _ (List.mem_append_right _ (h)))))))))
set_option maxRecDepth 20000 in
theorem qk_X0_draw : Cond.code (qz_nm 1) (qz_by 1) (qz_mx 1) (qz_rt 1) ∈ lw_tbl := qz_tb_6 (List.mem_of_getElem? (i := 16) rfl)
set_option maxRecDepth 20000 in
theorem qk_X0_gather : Cond.code (qz_nm 2) (qz_by 2) (qz_mx 2) (qz_rt 2) ∈ lw_tbl := qz_tb_6 (List.mem_of_getElem? (i := 20) rfl)
set_option maxRecDepth 20000 in
theorem qk_X0_result : Cond.code (qz_nm 3) (qz_by 3) (qz_mx 3) (qz_rt 3) ∈ lw_tbl := qz_tb_6 (List.mem_of_getElem? (i := 34) rfl)
set_option maxRecDepth 20000 in
theorem qk_X0_wrongOnes : Cond.code (qz_nm 4) (qz_by 4) (qz_mx 4) (qz_rt 4) ∈ lw_tbl := qz_tb_6 (List.mem_of_getElem? (i := 38) rfl)
set_option maxRecDepth 20000 in
theorem qk_X1_holderOf : Cond.code (qz_nm 6) (qz_by 6) (qz_mx 6) (qz_rt 6) ∈ lw_tbl := qz_tb_3 (List.mem_of_getElem? (i := 124) rfl)
set_option maxRecDepth 20000 in
theorem qk_X1_foundShares : Cond.code (qz_nm 7) (qz_by 7) (qz_mx 7) (qz_rt 7) ∈ lw_tbl := qz_tb_4 (List.mem_of_getElem? (i := 75) rfl)
set_option maxRecDepth 20000 in
theorem qk_X1_isUnheeded : Cond.code (qz_nm 8) (qz_by 8) (qz_mx 8) (qz_rt 8) ∈ lw_tbl := qz_tb_5 (List.mem_of_getElem? (i := 75) rfl)
set_option maxRecDepth 20000 in
theorem qk_X1_hundredthsOf : Cond.code (qz_nm 9) (qz_by 9) (qz_mx 9) (qz_rt 9) ∈ lw_tbl := qz_tb_5 (List.mem_of_getElem? (i := 112) rfl)
set_option maxRecDepth 20000 in
theorem qk_X2_size : Cond.code (qz_nm 11) (qz_by 11) (qz_mx 11) (qz_rt 11) ∈ lw_tbl := qz_tb_6 (List.mem_of_getElem? (i := 80) rfl)
set_option maxRecDepth 20000 in
theorem qk_X2_isFull : Cond.code (qz_nm 12) (qz_by 12) (qz_mx 12) (qz_rt 12) ∈ lw_tbl := qz_tb_3 (List.mem_of_getElem? (i := 153) rfl)
set_option maxRecDepth 20000 in
theorem qk_X2_clausesOf : Cond.code (qz_nm 13) (qz_by 13) (qz_mx 13) (qz_rt 13) ∈ lw_tbl := qz_tb_6 (List.mem_of_getElem? (i := 67) rfl)
set_option maxRecDepth 20000 in
theorem qk_X2_add : Cond.code (qz_nm 14) (qz_by 14) (qz_mx 14) (qz_rt 14) ∈ lw_tbl := qz_tb_3 (List.mem_of_getElem? (i := 161) rfl)
set_option maxRecDepth 20000 in
theorem qk_X2_keepClause : Cond.code (qz_nm 15) (qz_by 15) (qz_mx 15) (qz_rt 15) ∈ lw_tbl := qz_tb_4 (List.mem_of_getElem? (i := 14) rfl)
set_option maxRecDepth 20000 in
theorem qk_X2_weigh : Cond.code (qz_nm 16) (qz_by 16) (qz_mx 16) (qz_rt 16) ∈ lw_tbl := qz_tb_4 (List.mem_of_getElem? (i := 54) rfl)
set_option maxRecDepth 20000 in
theorem qk_X2_result : Cond.code (qz_nm 17) (qz_by 17) (qz_mx 17) (qz_rt 17) ∈ lw_tbl := qz_tb_4 (List.mem_of_getElem? (i := 141) rfl)
set_option maxRecDepth 20000 in
theorem qk_X2_learn : Cond.code (qz_nm 18) (qz_by 18) (qz_mx 18) (qz_rt 18) ∈ lw_tbl := qz_tb_4 (List.mem_of_getElem? (i := 58) rfl)
set_option maxRecDepth 20000 in
theorem qk_X2_forget : Cond.code (qz_nm 19) (qz_by 19) (qz_mx 19) (qz_rt 19) ∈ lw_tbl := qz_tb_4 (List.mem_of_getElem? (i := 104) rfl)
set_option maxRecDepth 20000 in
theorem qk_X2_isInForce : Cond.code (qz_nm 20) (qz_by 20) (qz_mx 20) (qz_rt 20) ∈ lw_tbl := qz_tb_4 (List.mem_of_getElem? (i := 109) rfl)
set_option maxRecDepth 20000 in
theorem qk_X2_weighLaw : Cond.code (qz_nm 21) (qz_by 21) (qz_mx 21) (qz_rt 21) ∈ lw_tbl := qz_tb_4 (List.mem_of_getElem? (i := 113) rfl)
set_option maxRecDepth 20000 in
theorem qk_X2_weighClause : Cond.code (qz_nm 22) (qz_by 22) (qz_mx 22) (qz_rt 22) ∈ lw_tbl := qz_tb_4 (List.mem_of_getElem? (i := 117) rfl)
set_option maxRecDepth 20000 in
theorem qk_X3_size : Cond.code (qz_nm 24) (qz_by 24) (qz_mx 24) (qz_rt 24) ∈ lw_tbl := qz_tb_6 (List.mem_of_getElem? (i := 24) rfl)
set_option maxRecDepth 20000 in
theorem qk_X3_tellings : Cond.code (qz_nm 25) (qz_by 25) (qz_mx 25) (qz_rt 25) ∈ lw_tbl := qz_tb_6 (List.mem_of_getElem? (i := 93) rfl)
set_option maxRecDepth 20000 in
theorem qk_X3_isFull : Cond.code (qz_nm 26) (qz_by 26) (qz_mx 26) (qz_rt 26) ∈ lw_tbl := qz_tb_5 (List.mem_of_getElem? (i := 64) rfl)
set_option maxRecDepth 20000 in
theorem qk_X3_verdict : Cond.code (qz_nm 27) (qz_by 27) (qz_mx 27) (qz_rt 27) ∈ lw_tbl := qz_tb_5 (List.mem_of_getElem? (i := 68) rfl)
set_option maxRecDepth 20000 in
theorem qk_X3_give : Cond.code (qz_nm 28) (qz_by 28) (qz_mx 28) (qz_rt 28) ∈ lw_tbl := qz_tb_5 (List.mem_of_getElem? (i := 80) rfl)
set_option maxRecDepth 20000 in
theorem qk_X3_addUses : Cond.code (qz_nm 29) (qz_by 29) (qz_mx 29) (qz_rt 29) ∈ lw_tbl := qz_tb_5 (List.mem_of_getElem? (i := 91) rfl)
set_option maxRecDepth 20000 in
theorem qk_X3_lastsOn : Cond.code (qz_nm 30) (qz_by 30) (qz_mx 30) (qz_rt 30) ∈ lw_tbl := qz_tb_5 (List.mem_of_getElem? (i := 96) rfl)
set_option maxRecDepth 20000 in
theorem qk_X3_endFor : Cond.code (qz_nm 31) (qz_by 31) (qz_mx 31) (qz_rt 31) ∈ lw_tbl := qz_tb_5 (List.mem_of_getElem? (i := 108) rfl)
set_option maxRecDepth 20000 in
theorem qk_X3_payment : Cond.code (qz_nm 32) (qz_by 32) (qz_mx 32) (qz_rt 32) ∈ lw_tbl := qz_tb_5 (List.mem_of_getElem? (i := 122) rfl)
set_option maxRecDepth 20000 in
theorem qk_X3_isFree : Cond.code (qz_nm 33) (qz_by 33) (qz_mx 33) (qz_rt 33) ∈ lw_tbl := qz_tb_6 (List.mem_of_getElem? (i := 28) rfl)
set_option maxRecDepth 20000 in
theorem qk_X3_isWrong : Cond.code (qz_nm 34) (qz_by 34) (qz_mx 34) (qz_rt 34) ∈ lw_tbl := qz_tb_6 (List.mem_of_getElem? (i := 42) rfl)
set_option maxRecDepth 20000 in
theorem qk_X3_detail : Cond.code (qz_nm 35) (qz_by 35) (qz_mx 35) (qz_rt 35) ∈ lw_tbl := qz_tb_6 (List.mem_of_getElem? (i := 54) rfl)
set_option maxRecDepth 20000 in
theorem qk_X4_setCost : Cond.code (qz_nm 37) (qz_by 37) (qz_mx 37) (qz_rt 37) ∈ lw_tbl := qz_tb_4 (List.mem_of_getElem? (i := 192) rfl)
set_option maxRecDepth 20000 in
theorem qk_X4_setChance : Cond.code (qz_nm 38) (qz_by 38) (qz_mx 38) (qz_rt 38) ∈ lw_tbl := qz_tb_4 (List.mem_of_getElem? (i := 201) rfl)
set_option maxRecDepth 20000 in
theorem qk_X4_gather : Cond.code (qz_nm 39) (qz_by 39) (qz_mx 39) (qz_rt 39) ∈ lw_tbl := qz_tb_5 (List.mem_of_getElem? (i := 133) rfl)
set_option maxRecDepth 20000 in
theorem qk_X4_expectedOn : Cond.code (qz_nm 40) (qz_by 40) (qz_mx 40) (qz_rt 40) ∈ lw_tbl := qz_tb_5 (List.mem_of_getElem? (i := 198) rfl)
set_option maxRecDepth 20000 in
theorem qk_X4_findCheapest : Cond.code (qz_nm 41) (qz_by 41) (qz_mx 41) (qz_rt 41) ∈ lw_tbl := qz_tb_5 (List.mem_of_getElem? (i := 142) rfl)
set_option maxRecDepth 20000 in
theorem qk_X4_leastExpected : Cond.code (qz_nm 42) (qz_by 42) (qz_mx 42) (qz_rt 42) ∈ lw_tbl := qz_tb_5 (List.mem_of_getElem? (i := 185) rfl)
set_option maxRecDepth 20000 in
theorem qk_X4_cheapestAt : Cond.code (qz_nm 43) (qz_by 43) (qz_mx 43) (qz_rt 43) ∈ lw_tbl := qz_tb_5 (List.mem_of_getElem? (i := 189) rfl)
set_option maxRecDepth 20000 in
theorem qk_X4_expectedOfRow : Cond.code (qz_nm 44) (qz_by 44) (qz_mx 44) (qz_rt 44) ∈ lw_tbl := qz_tb_5 (List.mem_of_getElem? (i := 204) rfl)
set_option maxRecDepth 20000 in
theorem qk_X4_costOf : Cond.code (qz_nm 45) (qz_by 45) (qz_mx 45) (qz_rt 45) ∈ lw_tbl := qz_tb_5 (List.mem_of_getElem? (i := 161) rfl)
set_option maxRecDepth 20000 in
theorem qk_X4_chanceOf : Cond.code (qz_nm 46) (qz_by 46) (qz_mx 46) (qz_rt 46) ∈ lw_tbl := qz_tb_5 (List.mem_of_getElem? (i := 169) rfl)
set_option maxRecDepth 20000 in
theorem qk_X4_leftBehind : Cond.code (qz_nm 47) (qz_by 47) (qz_mx 47) (qz_rt 47) ∈ lw_tbl := qz_tb_5 (List.mem_of_getElem? (i := 165) rfl)
set_option maxRecDepth 20000 in
theorem qk_X4_firstOfLeast : Cond.code (qz_nm 48) (qz_by 48) (qz_mx 48) (qz_rt 48) ∈ lw_tbl := qz_tb_5 (List.mem_of_getElem? (i := 181) rfl)
set_option maxRecDepth 20000 in
theorem qk_X4_leastAdded : Cond.code (qz_nm 49) (qz_by 49) (qz_mx 49) (qz_rt 49) ∈ lw_tbl := qz_tb_5 (List.mem_of_getElem? (i := 148) rfl)
set_option maxRecDepth 20000 in
theorem qk_X4_addedWith : Cond.code (qz_nm 50) (qz_by 50) (qz_mx 50) (qz_rt 50) ∈ lw_tbl := qz_tb_5 (List.mem_of_getElem? (i := 157) rfl)
set_option maxRecDepth 20000 in
theorem qk_X4_knownAt : Cond.code (qz_nm 51) (qz_by 51) (qz_mx 51) (qz_rt 51) ∈ lw_tbl := qz_tb_5 (List.mem_of_getElem? (i := 152) rfl)
set_option maxRecDepth 20000 in
theorem qk_X4_keep : Cond.code (qz_nm 52) (qz_by 52) (qz_mx 52) (qz_rt 52) ∈ lw_tbl := qz_tb_5 (List.mem_of_getElem? (i := 177) rfl)
set_option maxRecDepth 20000 in
theorem qk_X5_size : Cond.code (qz_nm 54) (qz_by 54) (qz_mx 54) (qz_rt 54) ∈ lw_tbl := qz_tb_6 (List.mem_of_getElem? (i := 72) rfl)
set_option maxRecDepth 20000 in
theorem qk_X5_has : Cond.code (qz_nm 55) (qz_by 55) (qz_mx 55) (qz_rt 55) ∈ lw_tbl := qz_tb_3 (List.mem_of_getElem? (i := 44) rfl)
set_option maxRecDepth 20000 in
theorem qk_X5_isPerson : Cond.code (qz_nm 56) (qz_by 56) (qz_mx 56) (qz_rt 56) ∈ lw_tbl := qz_tb_3 (List.mem_of_getElem? (i := 40) rfl)
set_option maxRecDepth 20000 in
theorem qk_X5_isFirm : Cond.code (qz_nm 57) (qz_by 57) (qz_mx 57) (qz_rt 57) ∈ lw_tbl := qz_tb_3 (List.mem_of_getElem? (i := 59) rfl)
set_option maxRecDepth 20000 in
theorem qk_X5_add : Cond.code (qz_nm 58) (qz_by 58) (qz_mx 58) (qz_rt 58) ∈ lw_tbl := qz_tb_3 (List.mem_of_getElem? (i := 32) rfl)
set_option maxRecDepth 20000 in
theorem qk_X5_tellDeath : Cond.code (qz_nm 59) (qz_by 59) (qz_mx 59) (qz_rt 59) ∈ lw_tbl := qz_tb_3 (List.mem_of_getElem? (i := 51) rfl)
set_option maxRecDepth 20000 in
theorem qk_X5_deathOf : Cond.code (qz_nm 60) (qz_by 60) (qz_mx 60) (qz_rt 60) ∈ lw_tbl := qz_tb_4 (List.mem_of_getElem? (i := 166) rfl)
set_option maxRecDepth 20000 in
theorem qk_X5_deathDay : Cond.code (qz_nm 61) (qz_by 61) (qz_mx 61) (qz_rt 61) ∈ lw_tbl := qz_tb_4 (List.mem_of_getElem? (i := 170) rfl)
set_option maxRecDepth 20000 in
theorem qk_X5_join : Cond.code (qz_nm 62) (qz_by 62) (qz_mx 62) (qz_rt 62) ∈ lw_tbl := qz_tb_3 (List.mem_of_getElem? (i := 63) rfl)
set_option maxRecDepth 20000 in
theorem qk_X5_leadsTo : Cond.code (qz_nm 63) (qz_by 63) (qz_mx 63) (qz_rt 63) ∈ lw_tbl := qz_tb_3 (List.mem_of_getElem? (i := 67) rfl)
set_option maxRecDepth 20000 in
theorem qk_X5_holderFor : Cond.code (qz_nm 64) (qz_by 64) (qz_mx 64) (qz_rt 64) ∈ lw_tbl := qz_tb_3 (List.mem_of_getElem? (i := 129) rfl)
set_option maxRecDepth 20000 in
theorem qk_X6_begin : Cond.code (qz_nm 66) (qz_by 66) (qz_mx 66) (qz_rt 66) ∈ lw_tbl := qz_tb_3 (List.mem_of_getElem? (i := 166) rfl)
set_option maxRecDepth 20000 in
theorem qk_X6_asksFound : Cond.code (qz_nm 67) (qz_by 67) (qz_mx 67) (qz_rt 67) ∈ lw_tbl := qz_tb_4 (List.mem_of_getElem? (i := 38) rfl)
set_option maxRecDepth 20000 in
theorem qk_X6_codeSize : Cond.code (qz_nm 68) (qz_by 68) (qz_mx 68) (qz_rt 68) ∈ lw_tbl := qz_tb_3 (List.mem_of_getElem? (i := 170) rfl)
set_option maxRecDepth 20000 in
theorem qk_X6_fault : Cond.code (qz_nm 69) (qz_by 69) (qz_mx 69) (qz_rt 69) ∈ lw_tbl := qz_tb_4 (List.mem_of_getElem? (i := 34) rfl)
set_option maxRecDepth 20000 in
theorem qk_X6_kind : Cond.code (qz_nm 70) (qz_by 70) (qz_mx 70) (qz_rt 70) ∈ lw_tbl := qz_tb_4 (List.mem_of_getElem? (i := 18) rfl)
set_option maxRecDepth 20000 in
theorem qk_X6_firstNumber : Cond.code (qz_nm 71) (qz_by 71) (qz_mx 71) (qz_rt 71) ∈ lw_tbl := qz_tb_4 (List.mem_of_getElem? (i := 22) rfl)
set_option maxRecDepth 20000 in
theorem qk_X6_secondNumber : Cond.code (qz_nm 72) (qz_by 72) (qz_mx 72) (qz_rt 72) ∈ lw_tbl := qz_tb_4 (List.mem_of_getElem? (i := 26) rfl)
set_option maxRecDepth 20000 in
theorem qk_X6_readClause : Cond.code (qz_nm 73) (qz_by 73) (qz_mx 73) (qz_rt 73) ∈ lw_tbl := qz_tb_3 (List.mem_of_getElem? (i := 174) rfl)
set_option maxRecDepth 20000 in
theorem qk_X6_goesOn : Cond.code (qz_nm 74) (qz_by 74) (qz_mx 74) (qz_rt 74) ∈ lw_tbl := qz_tb_4 (List.mem_of_getElem? (i := 30) rfl)
set_option maxRecDepth 20000 in
theorem qk_X6_sign : Cond.code (qz_nm 75) (qz_by 75) (qz_mx 75) (qz_rt 75) ∈ lw_tbl := qz_tb_3 (List.mem_of_getElem? (i := 180) rfl)
set_option maxRecDepth 20000 in
theorem qk_X6_blame : Cond.code (qz_nm 76) (qz_by 76) (qz_mx 76) (qz_rt 76) ∈ lw_tbl := qz_tb_3 (List.mem_of_getElem? (i := 191) rfl)
set_option maxRecDepth 20000 in
theorem qk_X6_pass : Cond.code (qz_nm 77) (qz_by 77) (qz_mx 77) (qz_rt 77) ∈ lw_tbl := qz_tb_3 (List.mem_of_getElem? (i := 208) rfl)
set_option maxRecDepth 20000 in
theorem qk_X6_enter : Cond.code (qz_nm 78) (qz_by 78) (qz_mx 78) (qz_rt 78) ∈ lw_tbl := qz_tb_3 (List.mem_of_getElem? (i := 212) rfl)
set_option maxRecDepth 20000 in
theorem qk_X6_exit : Cond.code (qz_nm 79) (qz_by 79) (qz_mx 79) (qz_rt 79) ∈ lw_tbl := qz_tb_4 (List.mem_of_getElem? (i := 6) rfl)
set_option maxRecDepth 20000 in
theorem qk_X6_readLimited : Cond.code (qz_nm 80) (qz_by 80) (qz_mx 80) (qz_rt 80) ∈ lw_tbl := qz_tb_3 (List.mem_of_getElem? (i := 197) rfl)
set_option maxRecDepth 20000 in
theorem qk_X6_readDigits : Cond.code (qz_nm 81) (qz_by 81) (qz_mx 81) (qz_rt 81) ∈ lw_tbl := qz_tb_3 (List.mem_of_getElem? (i := 204) rfl)
set_option maxRecDepth 20000 in
theorem qk_X6_isDigit : Cond.code (qz_nm 82) (qz_by 82) (qz_mx 82) (qz_rt 82) ∈ lw_tbl := qz_tb_3 (List.mem_of_getElem? (i := 200) rfl)
set_option maxRecDepth 20000 in
theorem qk_X6_anyPart : Cond.code (qz_nm 83) (qz_by 83) (qz_mx 83) (qz_rt 83) ∈ lw_tbl := qz_tb_3 (List.mem_of_getElem? (i := 216) rfl)
set_option maxRecDepth 20000 in
theorem qk_X6_everyPiece : Cond.code (qz_nm 84) (qz_by 84) (qz_mx 84) (qz_rt 84) ∈ lw_tbl := qz_tb_3 (List.mem_of_getElem? (i := 220) rfl)
set_option maxRecDepth 20000 in
theorem qk_X6_piece : Cond.code (qz_nm 85) (qz_by 85) (qz_mx 85) (qz_rt 85) ∈ lw_tbl := qz_tb_3 (List.mem_of_getElem? (i := 224) rfl)
set_option maxRecDepth 20000 in
theorem qk_X6_sum : Cond.code (qz_nm 86) (qz_by 86) (qz_mx 86) (qz_rt 86) ∈ lw_tbl := qz_tb_3 (List.mem_of_getElem? (i := 228) rfl)
set_option maxRecDepth 20000 in
theorem qk_X6_product : Cond.code (qz_nm 87) (qz_by 87) (qz_mx 87) (qz_rt 87) ∈ lw_tbl := qz_tb_3 (List.mem_of_getElem? (i := 232) rfl)
set_option maxRecDepth 20000 in
theorem qk_X6_factor : Cond.code (qz_nm 88) (qz_by 88) (qz_mx 88) (qz_rt 88) ∈ lw_tbl := qz_tb_3 (List.mem_of_getElem? (i := 236) rfl)
set_option maxRecDepth 20000 in
theorem qk_X6_emit : Cond.code (qz_nm 89) (qz_by 89) (qz_mx 89) (qz_rt 89) ∈ lw_tbl := qz_tb_4 (List.mem_of_getElem? (i := 2) rfl)
set_option maxRecDepth 20000 in
theorem qk_X6_landJump : Cond.code (qz_nm 90) (qz_by 90) (qz_mx 90) (qz_rt 90) ∈ lw_tbl := qz_tb_4 (List.mem_of_getElem? (i := 10) rfl)
set_option maxRecDepth 20000 in
theorem qk_X6_isMet : Cond.code (qz_nm 91) (qz_by 91) (qz_mx 91) (qz_rt 91) ∈ lw_tbl := qz_tb_4 (List.mem_of_getElem? (i := 122) rfl)
set_option maxRecDepth 20000 in
theorem qk_X6_push : Cond.code (qz_nm 92) (qz_by 92) (qz_mx 92) (qz_rt 92) ∈ lw_tbl := qz_tb_4 (List.mem_of_getElem? (i := 129) rfl)
set_option maxRecDepth 20000 in
theorem qk_X6_pop : Cond.code (qz_nm 93) (qz_by 93) (qz_mx 93) (qz_rt 93) ∈ lw_tbl := qz_tb_4 (List.mem_of_getElem? (i := 134) rfl)
set_option maxRecDepth 20000 in
theorem qk_X6_reckoned : Cond.code (qz_nm 94) (qz_by 94) (qz_mx 94) (qz_rt 94) ∈ lw_tbl := qz_tb_4 (List.mem_of_getElem? (i := 137) rfl)
set_option maxRecDepth 20000 in
theorem qk_X7_termOf : Cond.code (qz_nm 96) (qz_by 96) (qz_mx 96) (qz_rt 96) ∈ lw_tbl := qz_tb_4 (List.mem_of_getElem? (i := 149) rfl)
set_option maxRecDepth 20000 in
theorem qk_X7_weighedTerm : Cond.code (qz_nm 97) (qz_by 97) (qz_mx 97) (qz_rt 97) ∈ lw_tbl := qz_tb_4 (List.mem_of_getElem? (i := 154) rfl)
set_option maxRecDepth 20000 in
theorem qk_X7_termByDeaths : Cond.code (qz_nm 98) (qz_by 98) (qz_mx 98) (qz_rt 98) ∈ lw_tbl := qz_tb_4 (List.mem_of_getElem? (i := 158) rfl)
set_option maxRecDepth 20000 in
theorem qk_X7_freedom : Cond.code (qz_nm 99) (qz_by 99) (qz_mx 99) (qz_rt 99) ∈ lw_tbl := qz_tb_4 (List.mem_of_getElem? (i := 181) rfl)
set_option maxRecDepth 20000 in
theorem qk_X7_lacks : Cond.code (qz_nm 100) (qz_by 100) (qz_mx 100) (qz_rt 100) ∈ lw_tbl := qz_tb_5 (List.mem_of_getElem? (i := 8) rfl)
set_option maxRecDepth 20000 in
theorem qk_X7_lack : Cond.code (qz_nm 101) (qz_by 101) (qz_mx 101) (qz_rt 101) ∈ lw_tbl := qz_tb_5 (List.mem_of_getElem? (i := 39) rfl)
set_option maxRecDepth 20000 in
theorem qk_X7_sourcesToDo : Cond.code (qz_nm 102) (qz_by 102) (qz_mx 102) (qz_rt 102) ∈ lw_tbl := qz_tb_5 (List.mem_of_getElem? (i := 137) rfl)
set_option maxRecDepth 20000 in
theorem qk_X7_missingSources : Cond.code (qz_nm 103) (qz_by 103) (qz_mx 103) (qz_rt 103) ∈ lw_tbl := qz_tb_5 (List.mem_of_getElem? (i := 13) rfl)
set_option maxRecDepth 20000 in
theorem qk_X7_missingOwner : Cond.code (qz_nm 104) (qz_by 104) (qz_mx 104) (qz_rt 104) ∈ lw_tbl := qz_tb_5 (List.mem_of_getElem? (i := 24) rfl)
set_option maxRecDepth 20000 in
theorem qk_X7_firstBit : Cond.code (qz_nm 105) (qz_by 105) (qz_mx 105) (qz_rt 105) ∈ lw_tbl := qz_tb_5 (List.mem_of_getElem? (i := 20) rfl)
set_option maxRecDepth 20000 in
theorem qk_X8_size : Cond.code (qz_nm 107) (qz_by 107) (qz_mx 107) (qz_rt 107) ∈ lw_tbl := qz_tb_3 (List.mem_of_getElem? (i := 145) rfl)
set_option maxRecDepth 20000 in
theorem qk_X8_hasRoom : Cond.code (qz_nm 108) (qz_by 108) (qz_mx 108) (qz_rt 108) ∈ lw_tbl := qz_tb_3 (List.mem_of_getElem? (i := 137) rfl)
set_option maxRecDepth 20000 in
theorem qk_X8_has : Cond.code (qz_nm 109) (qz_by 109) (qz_mx 109) (qz_rt 109) ∈ lw_tbl := qz_tb_3 (List.mem_of_getElem? (i := 157) rfl)
set_option maxRecDepth 20000 in
theorem qk_X8_put : Cond.code (qz_nm 110) (qz_by 110) (qz_mx 110) (qz_rt 110) ∈ lw_tbl := qz_tb_3 (List.mem_of_getElem? (i := 141) rfl)
set_option maxRecDepth 20000 in
theorem qk_X8_at : Cond.code (qz_nm 111) (qz_by 111) (qz_mx 111) (qz_rt 111) ∈ lw_tbl := qz_tb_3 (List.mem_of_getElem? (i := 184) rfl)
set_option maxRecDepth 20000 in
theorem qk_X8_clear : Cond.code (qz_nm 112) (qz_by 112) (qz_mx 112) (qz_rt 112) ∈ lw_tbl := qz_tb_4 (List.mem_of_getElem? (i := 42) rfl)
set_option maxRecDepth 20000 in
theorem qk_X9_looks : Cond.code (qz_nm 114) (qz_by 114) (qz_mx 114) (qz_rt 114) ∈ lw_tbl := qz_tb_6 (List.mem_of_getElem? (i := 84) rfl)
set_option maxRecDepth 20000 in
theorem qk_X9_letters : Cond.code (qz_nm 115) (qz_by 115) (qz_mx 115) (qz_rt 115) ∈ lw_tbl := qz_tb_6 (List.mem_of_getElem? (i := 88) rfl)
set_option maxRecDepth 20000 in
theorem qk_X9_addLook : Cond.code (qz_nm 116) (qz_by 116) (qz_mx 116) (qz_rt 116) ∈ lw_tbl := qz_tb_4 (List.mem_of_getElem? (i := 215) rfl)
set_option maxRecDepth 20000 in
theorem qk_X9_addLetter : Cond.code (qz_nm 117) (qz_by 117) (qz_mx 117) (qz_rt 117) ∈ lw_tbl := qz_tb_4 (List.mem_of_getElem? (i := 223) rfl)
set_option maxRecDepth 20000 in
theorem qk_X9_addAnswer : Cond.code (qz_nm 118) (qz_by 118) (qz_mx 118) (qz_rt 118) ∈ lw_tbl := qz_tb_4 (List.mem_of_getElem? (i := 231) rfl)
set_option maxRecDepth 20000 in
theorem qk_X9_addComing : Cond.code (qz_nm 119) (qz_by 119) (qz_mx 119) (qz_rt 119) ∈ lw_tbl := qz_tb_5 (List.mem_of_getElem? (i := 104) rfl)
set_option maxRecDepth 20000 in
theorem qk_X9_hasCome : Cond.code (qz_nm 120) (qz_by 120) (qz_mx 120) (qz_rt 120) ∈ lw_tbl := qz_tb_4 (List.mem_of_getElem? (i := 88) rfl)
set_option maxRecDepth 20000 in
theorem qk_X9_addConsent : Cond.code (qz_nm 121) (qz_by 121) (qz_mx 121) (qz_rt 121) ∈ lw_tbl := qz_tb_5 (List.mem_of_getElem? (i := 52) rfl)
set_option maxRecDepth 20000 in
theorem qk_X9_hasAgreed : Cond.code (qz_nm 122) (qz_by 122) (qz_mx 122) (qz_rt 122) ∈ lw_tbl := qz_tb_5 (List.mem_of_getElem? (i := 56) rfl)
set_option maxRecDepth 20000 in
theorem qk_X9_isFound : Cond.code (qz_nm 123) (qz_by 123) (qz_mx 123) (qz_rt 123) ∈ lw_tbl := qz_tb_4 (List.mem_of_getElem? (i := 81) rfl)
set_option maxRecDepth 20000 in
theorem qk_X9_hasAnswered : Cond.code (qz_nm 124) (qz_by 124) (qz_mx 124) (qz_rt 124) ∈ lw_tbl := qz_tb_4 (List.mem_of_getElem? (i := 92) rfl)
set_option maxRecDepth 20000 in
theorem qk_X9_isSeen : Cond.code (qz_nm 125) (qz_by 125) (qz_mx 125) (qz_rt 125) ∈ lw_tbl := qz_tb_4 (List.mem_of_getElem? (i := 96) rfl)
set_option maxRecDepth 20000 in
theorem qk_X9_lookedThrough : Cond.code (qz_nm 126) (qz_by 126) (qz_mx 126) (qz_rt 126) ∈ lw_tbl := qz_tb_5 (List.mem_of_getElem? (i := 17) rfl)
set_option maxRecDepth 20000 in
theorem qk_X9_wasWritten : Cond.code (qz_nm 127) (qz_by 127) (qz_mx 127) (qz_rt 127) ∈ lw_tbl := qz_tb_5 (List.mem_of_getElem? (i := 30) rfl)
set_option maxRecDepth 20000 in
theorem qk_X10_size : Cond.code (qz_nm 129) (qz_by 129) (qz_mx 129) (qz_rt 129) ∈ lw_tbl := qz_tb_6 (List.mem_of_getElem? (i := 76) rfl)
set_option maxRecDepth 20000 in
theorem qk_X10_has : Cond.code (qz_nm 130) (qz_by 130) (qz_mx 130) (qz_rt 130) ∈ lw_tbl := qz_tb_3 (List.mem_of_getElem? (i := 82) rfl)
set_option maxRecDepth 20000 in
theorem qk_X10_canLieIn : Cond.code (qz_nm 131) (qz_by 131) (qz_mx 131) (qz_rt 131) ∈ lw_tbl := qz_tb_3 (List.mem_of_getElem? (i := 78) rfl)
set_option maxRecDepth 20000 in
theorem qk_X10_add : Cond.code (qz_nm 132) (qz_by 132) (qz_mx 132) (qz_rt 132) ∈ lw_tbl := qz_tb_3 (List.mem_of_getElem? (i := 86) rfl)
set_option maxRecDepth 20000 in
theorem qk_X10_kindOf : Cond.code (qz_nm 133) (qz_by 133) (qz_mx 133) (qz_rt 133) ∈ lw_tbl := qz_tb_4 (List.mem_of_getElem? (i := 62) rfl)
set_option maxRecDepth 20000 in
theorem qk_X10_landOf : Cond.code (qz_nm 134) (qz_by 134) (qz_mx 134) (qz_rt 134) ∈ lw_tbl := qz_tb_4 (List.mem_of_getElem? (i := 66) rfl)
set_option maxRecDepth 20000 in
theorem qk_X10_outerOf : Cond.code (qz_nm 135) (qz_by 135) (qz_mx 135) (qz_rt 135) ∈ lw_tbl := qz_tb_4 (List.mem_of_getElem? (i := 100) rfl)
set_option maxRecDepth 20000 in
theorem qk_X10_outDay : Cond.code (qz_nm 136) (qz_by 136) (qz_mx 136) (qz_rt 136) ∈ lw_tbl := qz_tb_4 (List.mem_of_getElem? (i := 70) rfl)
set_option maxRecDepth 20000 in
theorem qk_X10_sharesOf : Cond.code (qz_nm 137) (qz_by 137) (qz_mx 137) (qz_rt 137) ∈ lw_tbl := qz_tb_3 (List.mem_of_getElem? (i := 104) rfl)
set_option maxRecDepth 20000 in
theorem qk_X10_shareOwner : Cond.code (qz_nm 138) (qz_by 138) (qz_mx 138) (qz_rt 138) ∈ lw_tbl := qz_tb_3 (List.mem_of_getElem? (i := 108) rfl)
set_option maxRecDepth 20000 in
theorem qk_X10_sharePart : Cond.code (qz_nm 139) (qz_by 139) (qz_mx 139) (qz_rt 139) ∈ lw_tbl := qz_tb_3 (List.mem_of_getElem? (i := 116) rfl)
set_option maxRecDepth 20000 in
theorem qk_X10_isSharedBy : Cond.code (qz_nm 140) (qz_by 140) (qz_mx 140) (qz_rt 140) ∈ lw_tbl := qz_tb_3 (List.mem_of_getElem? (i := 100) rfl)
set_option maxRecDepth 20000 in
theorem qk_X10_addShare : Cond.code (qz_nm 141) (qz_by 141) (qz_mx 141) (qz_rt 141) ∈ lw_tbl := qz_tb_3 (List.mem_of_getElem? (i := 96) rfl)
set_option maxRecDepth 20000 in
theorem qk_X10_partsOf : Cond.code (qz_nm 142) (qz_by 142) (qz_mx 142) (qz_rt 142) ∈ lw_tbl := qz_tb_3 (List.mem_of_getElem? (i := 112) rfl)
set_option maxRecDepth 20000 in
theorem qk_X10_areAlike : Cond.code (qz_nm 143) (qz_by 143) (qz_mx 143) (qz_rt 143) ∈ lw_tbl := qz_tb_5 (List.mem_of_getElem? (i := 212) rfl)
set_option maxRecDepth 20000 in
theorem qk_X10_enlist : Cond.code (qz_nm 144) (qz_by 144) (qz_mx 144) (qz_rt 144) ∈ lw_tbl := qz_tb_5 (List.mem_of_getElem? (i := 226) rfl)
set_option maxRecDepth 20000 in
theorem qk_X10_isListed : Cond.code (qz_nm 145) (qz_by 145) (qz_mx 145) (qz_rt 145) ∈ lw_tbl := qz_tb_5 (List.mem_of_getElem? (i := 230) rfl)
set_option maxRecDepth 20000 in
theorem qk_X10_listed : Cond.code (qz_nm 146) (qz_by 146) (qz_mx 146) (qz_rt 146) ∈ lw_tbl := qz_tb_6 (List.mem_of_getElem? (i := 63) rfl)
set_option maxRecDepth 20000 in
theorem qk_X10_pairAt : Cond.code (qz_nm 147) (qz_by 147) (qz_mx 147) (qz_rt 147) ∈ lw_tbl := qz_tb_5 (List.mem_of_getElem? (i := 238) rfl)
set_option maxRecDepth 20000 in
theorem qk_X10_clearTaken : Cond.code (qz_nm 148) (qz_by 148) (qz_mx 148) (qz_rt 148) ∈ lw_tbl := qz_tb_6 (List.mem_of_getElem? (i := 2) rfl)
set_option maxRecDepth 20000 in
theorem qk_X10_partnerOf : Cond.code (qz_nm 149) (qz_by 149) (qz_mx 149) (qz_rt 149) ∈ lw_tbl := qz_tb_6 (List.mem_of_getElem? (i := 6) rfl)
set_option maxRecDepth 20000 in
theorem qk_X11_now : Cond.code (qz_nm 151) (qz_by 151) (qz_mx 151) (qz_rt 151) ∈ lw_tbl := qz_tb_3 (List.mem_of_getElem? (i := 14) rfl)
set_option maxRecDepth 20000 in
theorem qk_X11_owner : Cond.code (qz_nm 152) (qz_by 152) (qz_mx 152) (qz_rt 152) ∈ lw_tbl := qz_tb_3 (List.mem_of_getElem? (i := 22) rfl)
set_option maxRecDepth 20000 in
theorem qk_X11_died : Cond.code (qz_nm 153) (qz_by 153) (qz_mx 153) (qz_rt 153) ∈ lw_tbl := qz_tb_3 (List.mem_of_getElem? (i := 36) rfl)
set_option maxRecDepth 20000 in
theorem qk_X11_merge : Cond.code (qz_nm 154) (qz_by 154) (qz_mx 154) (qz_rt 154) ∈ lw_tbl := qz_tb_3 (List.mem_of_getElem? (i := 55) rfl)
set_option maxRecDepth 20000 in
theorem qk_X11_work : Cond.code (qz_nm 155) (qz_by 155) (qz_mx 155) (qz_rt 155) ∈ lw_tbl := qz_tb_3 (List.mem_of_getElem? (i := 71) rfl)
set_option maxRecDepth 20000 in
theorem qk_X11_share : Cond.code (qz_nm 156) (qz_by 156) (qz_mx 156) (qz_rt 156) ∈ lw_tbl := qz_tb_3 (List.mem_of_getElem? (i := 90) rfl)
set_option maxRecDepth 20000 in
theorem qk_X11_holds : Cond.code (qz_nm 157) (qz_by 157) (qz_mx 157) (qz_rt 157) ∈ lw_tbl := qz_tb_3 (List.mem_of_getElem? (i := 120) rfl)
set_option maxRecDepth 20000 in
theorem qk_X11_feed : Cond.code (qz_nm 158) (qz_by 158) (qz_mx 158) (qz_rt 158) ∈ lw_tbl := qz_tb_3 (List.mem_of_getElem? (i := 133) rfl)
set_option maxRecDepth 20000 in
theorem qk_X11_law : Cond.code (qz_nm 159) (qz_by 159) (qz_mx 159) (qz_rt 159) ∈ lw_tbl := qz_tb_3 (List.mem_of_getElem? (i := 149) rfl)
set_option maxRecDepth 20000 in
theorem qk_X11_number : Cond.code (qz_nm 160) (qz_by 160) (qz_mx 160) (qz_rt 160) ∈ lw_tbl := qz_tb_4 (List.mem_of_getElem? (i := 46) rfl)
set_option maxRecDepth 20000 in
theorem qk_X11_term : Cond.code (qz_nm 161) (qz_by 161) (qz_mx 161) (qz_rt 161) ∈ lw_tbl := qz_tb_4 (List.mem_of_getElem? (i := 145) rfl)
set_option maxRecDepth 20000 in
theorem qk_X11_free : Cond.code (qz_nm 162) (qz_by 162) (qz_mx 162) (qz_rt 162) ∈ lw_tbl := qz_tb_4 (List.mem_of_getElem? (i := 177) rfl)
set_option maxRecDepth 20000 in
theorem qk_X11_source : Cond.code (qz_nm 163) (qz_by 163) (qz_mx 163) (qz_rt 163) ∈ lw_tbl := qz_tb_4 (List.mem_of_getElem? (i := 185) rfl)
set_option maxRecDepth 20000 in
theorem qk_X11_chance : Cond.code (qz_nm 164) (qz_by 164) (qz_mx 164) (qz_rt 164) ∈ lw_tbl := qz_tb_4 (List.mem_of_getElem? (i := 197) rfl)
set_option maxRecDepth 20000 in
theorem qk_X11_look : Cond.code (qz_nm 165) (qz_by 165) (qz_mx 165) (qz_rt 165) ∈ lw_tbl := qz_tb_4 (List.mem_of_getElem? (i := 206) rfl)
set_option maxRecDepth 20000 in
theorem qk_X11_letter : Cond.code (qz_nm 166) (qz_by 166) (qz_mx 166) (qz_rt 166) ∈ lw_tbl := qz_tb_4 (List.mem_of_getElem? (i := 219) rfl)
set_option maxRecDepth 20000 in
theorem qk_X11_answer : Cond.code (qz_nm 167) (qz_by 167) (qz_mx 167) (qz_rt 167) ∈ lw_tbl := qz_tb_4 (List.mem_of_getElem? (i := 227) rfl)
set_option maxRecDepth 20000 in
theorem qk_X11_found : Cond.code (qz_nm 168) (qz_by 168) (qz_mx 168) (qz_rt 168) ∈ lw_tbl := qz_tb_4 (List.mem_of_getElem? (i := 236) rfl)
set_option maxRecDepth 20000 in
theorem qk_X11_enough : Cond.code (qz_nm 169) (qz_by 169) (qz_mx 169) (qz_rt 169) ∈ lw_tbl := qz_tb_5 (List.mem_of_getElem? (i := 4) rfl)
set_option maxRecDepth 20000 in
theorem qk_X11_why : Cond.code (qz_nm 170) (qz_by 170) (qz_mx 170) (qz_rt 170) ∈ lw_tbl := qz_tb_5 (List.mem_of_getElem? (i := 35) rfl)
set_option maxRecDepth 20000 in
theorem qk_X11_nobody : Cond.code (qz_nm 171) (qz_by 171) (qz_mx 171) (qz_rt 171) ∈ lw_tbl := qz_tb_5 (List.mem_of_getElem? (i := 43) rfl)
set_option maxRecDepth 20000 in
theorem qk_X11_agree : Cond.code (qz_nm 172) (qz_by 172) (qz_mx 172) (qz_rt 172) ∈ lw_tbl := qz_tb_5 (List.mem_of_getElem? (i := 48) rfl)
set_option maxRecDepth 20000 in
theorem qk_X11_ask : Cond.code (qz_nm 173) (qz_by 173) (qz_mx 173) (qz_rt 173) ∈ lw_tbl := qz_tb_5 (List.mem_of_getElem? (i := 60) rfl)
set_option maxRecDepth 20000 in
theorem qk_X11_uses : Cond.code (qz_nm 174) (qz_by 174) (qz_mx 174) (qz_rt 174) ∈ lw_tbl := qz_tb_5 (List.mem_of_getElem? (i := 86) rfl)
set_option maxRecDepth 20000 in
theorem qk_X11_comes : Cond.code (qz_nm 175) (qz_by 175) (qz_mx 175) (qz_rt 175) ∈ lw_tbl := qz_tb_5 (List.mem_of_getElem? (i := 100) rfl)
set_option maxRecDepth 20000 in
theorem qk_X11_paid : Cond.code (qz_nm 176) (qz_by 176) (qz_mx 176) (qz_rt 176) ∈ lw_tbl := qz_tb_5 (List.mem_of_getElem? (i := 117) rfl)
set_option maxRecDepth 20000 in
theorem qk_X11_cheapest : Cond.code (qz_nm 177) (qz_by 177) (qz_mx 177) (qz_rt 177) ∈ lw_tbl := qz_tb_5 (List.mem_of_getElem? (i := 129) rfl)
set_option maxRecDepth 20000 in
theorem qk_X11_judge : Cond.code (qz_nm 178) (qz_by 178) (qz_mx 178) (qz_rt 178) ∈ lw_tbl := qz_tb_5 (List.mem_of_getElem? (i := 194) rfl)
set_option maxRecDepth 20000 in
theorem qk_X11_like : Cond.code (qz_nm 179) (qz_by 179) (qz_mx 179) (qz_rt 179) ∈ lw_tbl := qz_tb_5 (List.mem_of_getElem? (i := 208) rfl)
set_option maxRecDepth 20000 in
theorem qk_X11_list : Cond.code (qz_nm 180) (qz_by 180) (qz_mx 180) (qz_rt 180) ∈ lw_tbl := qz_tb_5 (List.mem_of_getElem? (i := 222) rfl)
set_option maxRecDepth 20000 in
theorem qk_X11_joined : Cond.code (qz_nm 181) (qz_by 181) (qz_mx 181) (qz_rt 181) ∈ lw_tbl := qz_tb_5 (List.mem_of_getElem? (i := 234) rfl)
set_option maxRecDepth 20000 in
theorem qk_X11_audit : Cond.code (qz_nm 182) (qz_by 182) (qz_mx 182) (qz_rt 182) ∈ lw_tbl := qz_tb_6 (List.mem_of_getElem? (i := 11) rfl)
set_option maxRecDepth 20000 in
theorem qk_X11_shown : Cond.code (qz_nm 183) (qz_by 183) (qz_mx 183) (qz_rt 183) ∈ lw_tbl := qz_tb_6 (List.mem_of_getElem? (i := 46) rfl)
set_option maxRecDepth 20000 in
theorem qk_X11_leave : Cond.code (qz_nm 184) (qz_by 184) (qz_mx 184) (qz_rt 184) ∈ lw_tbl := qz_tb_6 (List.mem_of_getElem? (i := 50) rfl)
set_option maxRecDepth 20000 in
theorem qk_X11_count : Cond.code (qz_nm 185) (qz_by 185) (qz_mx 185) (qz_rt 185) ∈ lw_tbl := qz_tb_6 (List.mem_of_getElem? (i := 59) rfl)
set_option maxRecDepth 20000 in
theorem qk_X11_isBelow : Cond.code (qz_nm 186) (qz_by 186) (qz_mx 186) (qz_rt 186) ∈ lw_tbl := qz_tb_3 (List.mem_of_getElem? (i := 28) rfl)
set_option maxRecDepth 20000 in
theorem qk_X11_indexOf : Cond.code (qz_nm 187) (qz_by 187) (qz_mx 187) (qz_rt 187) ∈ lw_tbl := qz_tb_3 (List.mem_of_getElem? (i := 187) rfl)
set_option maxRecDepth 20000 in
theorem qk_X11_isDay : Cond.code (qz_nm 188) (qz_by 188) (qz_mx 188) (qz_rt 188) ∈ lw_tbl := qz_tb_3 (List.mem_of_getElem? (i := 17) rfl)
set_option maxRecDepth 20000 in
theorem qk_X11_isSpan : Cond.code (qz_nm 189) (qz_by 189) (qz_mx 189) (qz_rt 189) ∈ lw_tbl := qz_tb_3 (List.mem_of_getElem? (i := 47) rfl)
set_option maxRecDepth 20000 in
theorem qk_X11_isLand : Cond.code (qz_nm 190) (qz_by 190) (qz_mx 190) (qz_rt 190) ∈ lw_tbl := qz_tb_3 (List.mem_of_getElem? (i := 25) rfl)
set_option maxRecDepth 20000 in
theorem qk_X11_isKind : Cond.code (qz_nm 191) (qz_by 191) (qz_mx 191) (qz_rt 191) ∈ lw_tbl := qz_tb_3 (List.mem_of_getElem? (i := 74) rfl)
set_option maxRecDepth 20000 in
theorem qk_X11_isSource : Cond.code (qz_nm 192) (qz_by 192) (qz_mx 192) (qz_rt 192) ∈ lw_tbl := qz_tb_4 (List.mem_of_getElem? (i := 188) rfl)
set_option maxRecDepth 20000 in
theorem qk_X11_asNumber : Cond.code (qz_nm 193) (qz_by 193) (qz_mx 193) (qz_rt 193) ∈ lw_tbl := qz_tb_5 (List.mem_of_getElem? (i := 0) rfl)
set_option maxRecDepth 20000 in
theorem qk_X11_isTellable : Cond.code (qz_nm 194) (qz_by 194) (qz_mx 194) (qz_rt 194) ∈ lw_tbl := qz_tb_4 (List.mem_of_getElem? (i := 210) rfl)
set_option maxRecDepth 20000 in
theorem qk_X11_isCase : Cond.code (qz_nm 195) (qz_by 195) (qz_mx 195) (qz_rt 195) ∈ lw_tbl := qz_tb_4 (List.mem_of_getElem? (i := 50) rfl)
set_option maxRecDepth 20000 in
theorem qk_X12_in : Cond.code (qz_nm 197) (qz_by 197) (qz_mx 197) (qz_rt 197) ∈ lw_tbl := qz_tb_7 (List.mem_of_getElem? (i := 151) rfl)
set_option maxRecDepth 20000 in
theorem qk_X12_isDay : Cond.code (qz_nm 198) (qz_by 198) (qz_mx 198) (qz_rt 198) ∈ lw_tbl := qz_tb_7 (List.mem_of_getElem? (i := 169) rfl)
set_option maxRecDepth 20000 in
theorem qk_X12_isLand : Cond.code (qz_nm 199) (qz_by 199) (qz_mx 199) (qz_rt 199) ∈ lw_tbl := qz_tb_7 (List.mem_of_getElem? (i := 158) rfl)
set_option maxRecDepth 20000 in
theorem qk_X12_now : Cond.code (qz_nm 200) (qz_by 200) (qz_mx 200) (qz_rt 200) ∈ lw_tbl := qz_tb_7 (List.mem_of_getElem? (i := 147) rfl)
set_option maxRecDepth 20000 in
theorem qk_X12_isOwner : Cond.code (qz_nm 201) (qz_by 201) (qz_mx 201) (qz_rt 201) ∈ lw_tbl := qz_tb_7 (List.mem_of_getElem? (i := 166) rfl)
set_option maxRecDepth 20000 in
theorem qk_X12_isWork : Cond.code (qz_nm 202) (qz_by 202) (qz_mx 202) (qz_rt 202) ∈ lw_tbl := qz_tb_7 (List.mem_of_getElem? (i := 181) rfl)
set_option maxRecDepth 20000 in
theorem qk_X12_owner : Cond.code (qz_nm 203) (qz_by 203) (qz_mx 203) (qz_rt 203) ∈ lw_tbl := qz_tb_7 (List.mem_of_getElem? (i := 155) rfl)
set_option maxRecDepth 20000 in
theorem qk_X12_died : Cond.code (qz_nm 204) (qz_by 204) (qz_mx 204) (qz_rt 204) ∈ lw_tbl := qz_tb_7 (List.mem_of_getElem? (i := 162) rfl)
set_option maxRecDepth 20000 in
theorem qk_X12_deathBy : Cond.code (qz_nm 205) (qz_by 205) (qz_mx 205) (qz_rt 205) ∈ lw_tbl := qz_tb_8 (List.mem_of_getElem? (i := 113) rfl)
set_option maxRecDepth 20000 in
theorem qk_X12_merge : Cond.code (qz_nm 206) (qz_by 206) (qz_mx 206) (qz_rt 206) ∈ lw_tbl := qz_tb_7 (List.mem_of_getElem? (i := 173) rfl)
set_option maxRecDepth 20000 in
theorem qk_X12_heldBy : Cond.code (qz_nm 207) (qz_by 207) (qz_mx 207) (qz_rt 207) ∈ lw_tbl := qz_tb_7 (List.mem_of_getElem? (i := 197) rfl)
set_option maxRecDepth 20000 in
theorem qk_X12_work : Cond.code (qz_nm 208) (qz_by 208) (qz_mx 208) (qz_rt 208) ∈ lw_tbl := qz_tb_7 (List.mem_of_getElem? (i := 177) rfl)
set_option maxRecDepth 20000 in
theorem qk_X12_share : Cond.code (qz_nm 209) (qz_by 209) (qz_mx 209) (qz_rt 209) ∈ lw_tbl := qz_tb_7 (List.mem_of_getElem? (i := 185) rfl)
set_option maxRecDepth 20000 in
theorem qk_X12_holderOf : Cond.code (qz_nm 210) (qz_by 210) (qz_mx 210) (qz_rt 210) ∈ lw_tbl := qz_tb_7 (List.mem_of_getElem? (i := 193) rfl)
set_option maxRecDepth 20000 in
theorem qk_X12_holds : Cond.code (qz_nm 211) (qz_by 211) (qz_mx 211) (qz_rt 211) ∈ lw_tbl := qz_tb_7 (List.mem_of_getElem? (i := 189) rfl)
set_option maxRecDepth 20000 in
theorem qk_X12_types : Cond.code (qz_nm 212) (qz_by 212) (qz_mx 212) (qz_rt 212) ∈ lw_tbl := qz_tb_7 (List.mem_of_getElem? (i := 205) rfl)
set_option maxRecDepth 20000 in
theorem qk_X12_feed : Cond.code (qz_nm 213) (qz_by 213) (qz_mx 213) (qz_rt 213) ∈ lw_tbl := qz_tb_7 (List.mem_of_getElem? (i := 201) rfl)
set_option maxRecDepth 20000 in
theorem qk_X12_sign : Cond.code (qz_nm 214) (qz_by 214) (qz_mx 214) (qz_rt 214) ∈ lw_tbl := qz_tb_7 (List.mem_of_getElem? (i := 217) rfl)
set_option maxRecDepth 20000 in
theorem qk_X12_isDigit : Cond.code (qz_nm 215) (qz_by 215) (qz_mx 215) (qz_rt 215) ∈ lw_tbl := qz_tb_7 (List.mem_of_getElem? (i := 236) rfl)
set_option maxRecDepth 20000 in
theorem qk_X12_wrong : Cond.code (qz_nm 216) (qz_by 216) (qz_mx 216) (qz_rt 216) ∈ lw_tbl := qz_tb_7 (List.mem_of_getElem? (i := 224) rfl)
set_option maxRecDepth 20000 in
theorem qk_X12_takes : Cond.code (qz_nm 217) (qz_by 217) (qz_mx 217) (qz_rt 217) ∈ lw_tbl := qz_tb_8 (List.mem_of_getElem? (i := 0) rfl)
set_option maxRecDepth 20000 in
theorem qk_X12_readsNumber : Cond.code (qz_nm 218) (qz_by 218) (qz_mx 218) (qz_rt 218) ∈ lw_tbl := qz_tb_7 (List.mem_of_getElem? (i := 232) rfl)
set_option maxRecDepth 20000 in
theorem qk_X12_says : Cond.code (qz_nm 219) (qz_by 219) (qz_mx 219) (qz_rt 219) ∈ lw_tbl := qz_tb_8 (List.mem_of_getElem? (i := 25) rfl)
set_option maxRecDepth 20000 in
theorem qk_X12_opens : Cond.code (qz_nm 220) (qz_by 220) (qz_mx 220) (qz_rt 220) ∈ lw_tbl := qz_tb_8 (List.mem_of_getElem? (i := 8) rfl)
set_option maxRecDepth 20000 in
theorem qk_X12_top : Cond.code (qz_nm 221) (qz_by 221) (qz_mx 221) (qz_rt 221) ∈ lw_tbl := qz_tb_8 (List.mem_of_getElem? (i := 39) rfl)
set_option maxRecDepth 20000 in
theorem qk_X12_factOf : Cond.code (qz_nm 222) (qz_by 222) (qz_mx 222) (qz_rt 222) ∈ lw_tbl := qz_tb_8 (List.mem_of_getElem? (i := 28) rfl)
set_option maxRecDepth 20000 in
theorem qk_X12_sumSign : Cond.code (qz_nm 223) (qz_by 223) (qz_mx 223) (qz_rt 223) ∈ lw_tbl := qz_tb_8 (List.mem_of_getElem? (i := 31) rfl)
set_option maxRecDepth 20000 in
theorem qk_X12_closesSums : Cond.code (qz_nm 224) (qz_by 224) (qz_mx 224) (qz_rt 224) ∈ lw_tbl := qz_tb_8 (List.mem_of_getElem? (i := 35) rfl)
set_option maxRecDepth 20000 in
theorem qk_X12_readsFactor : Cond.code (qz_nm 225) (qz_by 225) (qz_mx 225) (qz_rt 225) ∈ lw_tbl := qz_tb_8 (List.mem_of_getElem? (i := 21) rfl)
set_option maxRecDepth 20000 in
theorem qk_X12_hasOpenSum : Cond.code (qz_nm 226) (qz_by 226) (qz_mx 226) (qz_rt 226) ∈ lw_tbl := qz_tb_8 (List.mem_of_getElem? (i := 43) rfl)
set_option maxRecDepth 20000 in
theorem qk_X12_readsSum : Cond.code (qz_nm 227) (qz_by 227) (qz_mx 227) (qz_rt 227) ∈ lw_tbl := qz_tb_8 (List.mem_of_getElem? (i := 17) rfl)
set_option maxRecDepth 20000 in
theorem qk_X12_endsPiece : Cond.code (qz_nm 228) (qz_by 228) (qz_mx 228) (qz_rt 228) ∈ lw_tbl := qz_tb_8 (List.mem_of_getElem? (i := 47) rfl)
set_option maxRecDepth 20000 in
theorem qk_X12_lands : Cond.code (qz_nm 229) (qz_by 229) (qz_mx 229) (qz_rt 229) ∈ lw_tbl := qz_tb_8 (List.mem_of_getElem? (i := 51) rfl)
set_option maxRecDepth 20000 in
theorem qk_X12_jumps : Cond.code (qz_nm 230) (qz_by 230) (qz_mx 230) (qz_rt 230) ∈ lw_tbl := qz_tb_8 (List.mem_of_getElem? (i := 55) rfl)
set_option maxRecDepth 20000 in
theorem qk_X12_readsCompared : Cond.code (qz_nm 231) (qz_by 231) (qz_mx 231) (qz_rt 231) ∈ lw_tbl := qz_tb_8 (List.mem_of_getElem? (i := 13) rfl)
set_option maxRecDepth 20000 in
theorem qk_X12_readsCondition : Cond.code (qz_nm 232) (qz_by 232) (qz_mx 232) (qz_rt 232) ∈ lw_tbl := qz_tb_8 (List.mem_of_getElem? (i := 4) rfl)
set_option maxRecDepth 20000 in
theorem qk_X12_isLetter : Cond.code (qz_nm 233) (qz_by 233) (qz_mx 233) (qz_rt 233) ∈ lw_tbl := qz_tb_7 (List.mem_of_getElem? (i := 220) rfl)
set_option maxRecDepth 20000 in
theorem qk_X12_mostOf : Cond.code (qz_nm 234) (qz_by 234) (qz_mx 234) (qz_rt 234) ∈ lw_tbl := qz_tb_7 (List.mem_of_getElem? (i := 227) rfl)
set_option maxRecDepth 20000 in
theorem qk_X12_readsClause : Cond.code (qz_nm 235) (qz_by 235) (qz_mx 235) (qz_rt 235) ∈ lw_tbl := qz_tb_7 (List.mem_of_getElem? (i := 213) rfl)
set_option maxRecDepth 20000 in
theorem qk_X12_law : Cond.code (qz_nm 236) (qz_by 236) (qz_mx 236) (qz_rt 236) ∈ lw_tbl := qz_tb_7 (List.mem_of_getElem? (i := 209) rfl)
set_option maxRecDepth 20000 in
theorem qk_X12_isLaw : Cond.code (qz_nm 237) (qz_by 237) (qz_mx 237) (qz_rt 237) ∈ lw_tbl := qz_tb_8 (List.mem_of_getElem? (i := 79) rfl)
set_option maxRecDepth 20000 in
theorem qk_X12_strikes : Cond.code (qz_nm 238) (qz_by 238) (qz_mx 238) (qz_rt 238) ∈ lw_tbl := qz_tb_8 (List.mem_of_getElem? (i := 75) rfl)
set_option maxRecDepth 20000 in
theorem qk_X12_setsFacts : Cond.code (qz_nm 239) (qz_by 239) (qz_mx 239) (qz_rt 239) ∈ lw_tbl := qz_tb_8 (List.mem_of_getElem? (i := 83) rfl)
set_option maxRecDepth 20000 in
theorem qk_X12_reckon : Cond.code (qz_nm 240) (qz_by 240) (qz_mx 240) (qz_rt 240) ∈ lw_tbl := qz_tb_8 (List.mem_of_getElem? (i := 97) rfl)
set_option maxRecDepth 20000 in
theorem qk_X12_isTrue : Cond.code (qz_nm 241) (qz_by 241) (qz_mx 241) (qz_rt 241) ∈ lw_tbl := qz_tb_8 (List.mem_of_getElem? (i := 94) rfl)
set_option maxRecDepth 20000 in
theorem qk_X12_numberBy : Cond.code (qz_nm 242) (qz_by 242) (qz_mx 242) (qz_rt 242) ∈ lw_tbl := qz_tb_8 (List.mem_of_getElem? (i := 71) rfl)
set_option maxRecDepth 20000 in
theorem qk_X12_bitsBy : Cond.code (qz_nm 243) (qz_by 243) (qz_mx 243) (qz_rt 243) ∈ lw_tbl := qz_tb_8 (List.mem_of_getElem? (i := 101) rfl)
set_option maxRecDepth 20000 in
theorem qk_X12_orNothing : Cond.code (qz_nm 244) (qz_by 244) (qz_mx 244) (qz_rt 244) ∈ lw_tbl := qz_tb_8 (List.mem_of_getElem? (i := 67) rfl)
set_option maxRecDepth 20000 in
theorem qk_X12_isAsked : Cond.code (qz_nm 245) (qz_by 245) (qz_mx 245) (qz_rt 245) ∈ lw_tbl := qz_tb_8 (List.mem_of_getElem? (i := 63) rfl)
set_option maxRecDepth 20000 in
theorem qk_X12_number : Cond.code (qz_nm 246) (qz_by 246) (qz_mx 246) (qz_rt 246) ∈ lw_tbl := qz_tb_8 (List.mem_of_getElem? (i := 59) rfl)
set_option maxRecDepth 20000 in
theorem qk_X12_termOf : Cond.code (qz_nm 247) (qz_by 247) (qz_mx 247) (qz_rt 247) ∈ lw_tbl := qz_tb_8 (List.mem_of_getElem? (i := 109) rfl)
set_option maxRecDepth 20000 in
theorem qk_X12_term : Cond.code (qz_nm 248) (qz_by 248) (qz_mx 248) (qz_rt 248) ∈ lw_tbl := qz_tb_8 (List.mem_of_getElem? (i := 105) rfl)
set_option maxRecDepth 20000 in
theorem qk_X12_freeOf : Cond.code (qz_nm 249) (qz_by 249) (qz_mx 249) (qz_rt 249) ∈ lw_tbl := qz_tb_8 (List.mem_of_getElem? (i := 121) rfl)
set_option maxRecDepth 20000 in
theorem qk_X12_free : Cond.code (qz_nm 250) (qz_by 250) (qz_mx 250) (qz_rt 250) ∈ lw_tbl := qz_tb_8 (List.mem_of_getElem? (i := 117) rfl)
set_option maxRecDepth 20000 in
theorem qk_X12_isSource : Cond.code (qz_nm 251) (qz_by 251) (qz_mx 251) (qz_rt 251) ∈ lw_tbl := qz_tb_8 (List.mem_of_getElem? (i := 128) rfl)
set_option maxRecDepth 20000 in
theorem qk_X12_source : Cond.code (qz_nm 252) (qz_by 252) (qz_mx 252) (qz_rt 252) ∈ lw_tbl := qz_tb_8 (List.mem_of_getElem? (i := 125) rfl)
set_option maxRecDepth 20000 in
theorem qk_X12_chance : Cond.code (qz_nm 253) (qz_by 253) (qz_mx 253) (qz_rt 253) ∈ lw_tbl := qz_tb_8 (List.mem_of_getElem? (i := 132) rfl)
set_option maxRecDepth 20000 in
theorem qk_X12_hasShare : Cond.code (qz_nm 254) (qz_by 254) (qz_mx 254) (qz_rt 254) ∈ lw_tbl := qz_tb_8 (List.mem_of_getElem? (i := 140) rfl)
set_option maxRecDepth 20000 in
theorem qk_X12_look : Cond.code (qz_nm 255) (qz_by 255) (qz_mx 255) (qz_rt 255) ∈ lw_tbl := qz_tb_8 (List.mem_of_getElem? (i := 136) rfl)
set_option maxRecDepth 20000 in
theorem qk_X12_letter : Cond.code (qz_nm 256) (qz_by 256) (qz_mx 256) (qz_rt 256) ∈ lw_tbl := qz_tb_8 (List.mem_of_getElem? (i := 144) rfl)
set_option maxRecDepth 20000 in
theorem qk_X12_answer : Cond.code (qz_nm 257) (qz_by 257) (qz_mx 257) (qz_rt 257) ∈ lw_tbl := qz_tb_8 (List.mem_of_getElem? (i := 148) rfl)
set_option maxRecDepth 20000 in
theorem qk_X12_isBy : Cond.code (qz_nm 258) (qz_by 258) (qz_mx 258) (qz_rt 258) ∈ lw_tbl := qz_tb_8 (List.mem_of_getElem? (i := 90) rfl)
set_option maxRecDepth 20000 in
theorem qk_X12_isFound : Cond.code (qz_nm 259) (qz_by 259) (qz_mx 259) (qz_rt 259) ∈ lw_tbl := qz_tb_8 (List.mem_of_getElem? (i := 87) rfl)
set_option maxRecDepth 20000 in
theorem qk_X12_found : Cond.code (qz_nm 260) (qz_by 260) (qz_mx 260) (qz_rt 260) ∈ lw_tbl := qz_tb_8 (List.mem_of_getElem? (i := 152) rfl)
set_option maxRecDepth 20000 in
theorem qk_X12_isLooked : Cond.code (qz_nm 261) (qz_by 261) (qz_mx 261) (qz_rt 261) ∈ lw_tbl := qz_tb_8 (List.mem_of_getElem? (i := 168) rfl)
set_option maxRecDepth 20000 in
theorem qk_X12_isWritten : Cond.code (qz_nm 262) (qz_by 262) (qz_mx 262) (qz_rt 262) ∈ lw_tbl := qz_tb_8 (List.mem_of_getElem? (i := 172) rfl)
set_option maxRecDepth 20000 in
theorem qk_X12_lacksOf : Cond.code (qz_nm 263) (qz_by 263) (qz_mx 263) (qz_rt 263) ∈ lw_tbl := qz_tb_8 (List.mem_of_getElem? (i := 164) rfl)
set_option maxRecDepth 20000 in
theorem qk_X12_isEnough : Cond.code (qz_nm 264) (qz_by 264) (qz_mx 264) (qz_rt 264) ∈ lw_tbl := qz_tb_8 (List.mem_of_getElem? (i := 160) rfl)
set_option maxRecDepth 20000 in
theorem qk_X12_enough : Cond.code (qz_nm 265) (qz_by 265) (qz_mx 265) (qz_rt 265) ∈ lw_tbl := qz_tb_8 (List.mem_of_getElem? (i := 156) rfl)
set_option maxRecDepth 20000 in
theorem qk_X12_why : Cond.code (qz_nm 266) (qz_by 266) (qz_mx 266) (qz_rt 266) ∈ lw_tbl := qz_tb_8 (List.mem_of_getElem? (i := 176) rfl)
set_option maxRecDepth 20000 in
theorem qk_X12_nobody : Cond.code (qz_nm 267) (qz_by 267) (qz_mx 267) (qz_rt 267) ∈ lw_tbl := qz_tb_8 (List.mem_of_getElem? (i := 180) rfl)
set_option maxRecDepth 20000 in
theorem qk_X12_hasAgreed : Cond.code (qz_nm 268) (qz_by 268) (qz_mx 268) (qz_rt 268) ∈ lw_tbl := qz_tb_8 (List.mem_of_getElem? (i := 188) rfl)
set_option maxRecDepth 20000 in
theorem qk_X12_agree : Cond.code (qz_nm 269) (qz_by 269) (qz_mx 269) (qz_rt 269) ∈ lw_tbl := qz_tb_8 (List.mem_of_getElem? (i := 184) rfl)
set_option maxRecDepth 20000 in
theorem qk_X12_allAgreed : Cond.code (qz_nm 270) (qz_by 270) (qz_mx 270) (qz_rt 270) ∈ lw_tbl := qz_tb_8 (List.mem_of_getElem? (i := 196) rfl)
set_option maxRecDepth 20000 in
theorem qk_X12_ask : Cond.code (qz_nm 271) (qz_by 271) (qz_mx 271) (qz_rt 271) ∈ lw_tbl := qz_tb_8 (List.mem_of_getElem? (i := 192) rfl)
set_option maxRecDepth 20000 in
theorem qk_X12_isLeave : Cond.code (qz_nm 272) (qz_by 272) (qz_mx 272) (qz_rt 272) ∈ lw_tbl := qz_tb_8 (List.mem_of_getElem? (i := 204) rfl)
set_option maxRecDepth 20000 in
theorem qk_X12_uses : Cond.code (qz_nm 273) (qz_by 273) (qz_mx 273) (qz_rt 273) ∈ lw_tbl := qz_tb_8 (List.mem_of_getElem? (i := 200) rfl)
set_option maxRecDepth 20000 in
theorem qk_X12_partsHeld : Cond.code (qz_nm 274) (qz_by 274) (qz_mx 274) (qz_rt 274) ∈ lw_tbl := qz_tb_8 (List.mem_of_getElem? (i := 213) rfl)
set_option maxRecDepth 20000 in
theorem qk_X12_comes : Cond.code (qz_nm 275) (qz_by 275) (qz_mx 275) (qz_rt 275) ∈ lw_tbl := qz_tb_8 (List.mem_of_getElem? (i := 209) rfl)
set_option maxRecDepth 20000 in
theorem qk_X12_paid : Cond.code (qz_nm 276) (qz_by 276) (qz_mx 276) (qz_rt 276) ∈ lw_tbl := qz_tb_8 (List.mem_of_getElem? (i := 217) rfl)
set_option maxRecDepth 20000 in
theorem qk_X12_setsRow : Cond.code (qz_nm 277) (qz_by 277) (qz_mx 277) (qz_rt 277) ∈ lw_tbl := qz_tb_8 (List.mem_of_getElem? (i := 227) rfl)
set_option maxRecDepth 20000 in
theorem qk_X12_expected : Cond.code (qz_nm 278) (qz_by 278) (qz_mx 278) (qz_rt 278) ∈ lw_tbl := qz_tb_8 (List.mem_of_getElem? (i := 231) rfl)
set_option maxRecDepth 20000 in
theorem qk_X12_swaps : Cond.code (qz_nm 279) (qz_by 279) (qz_mx 279) (qz_rt 279) ∈ lw_tbl := qz_tb_9 (List.mem_of_getElem? (i := 1) rfl)
set_option maxRecDepth 20000 in
theorem qk_X12_nextRow : Cond.code (qz_nm 280) (qz_by 280) (qz_mx 280) (qz_rt 280) ∈ lw_tbl := qz_tb_8 (List.mem_of_getElem? (i := 237) rfl)
set_option maxRecDepth 20000 in
theorem qk_X12_cheapest : Cond.code (qz_nm 281) (qz_by 281) (qz_mx 281) (qz_rt 281) ∈ lw_tbl := qz_tb_8 (List.mem_of_getElem? (i := 223) rfl)
set_option maxRecDepth 20000 in
theorem qk_X12_judge : Cond.code (qz_nm 282) (qz_by 282) (qz_mx 282) (qz_rt 282) ∈ lw_tbl := qz_tb_9 (List.mem_of_getElem? (i := 5) rfl)
set_option maxRecDepth 20000 in
theorem qk_X12_isLike : Cond.code (qz_nm 283) (qz_by 283) (qz_mx 283) (qz_rt 283) ∈ lw_tbl := qz_tb_9 (List.mem_of_getElem? (i := 14) rfl)
set_option maxRecDepth 20000 in
theorem qk_X12_like : Cond.code (qz_nm 284) (qz_by 284) (qz_mx 284) (qz_rt 284) ∈ lw_tbl := qz_tb_9 (List.mem_of_getElem? (i := 10) rfl)
set_option maxRecDepth 20000 in
theorem qk_X12_list : Cond.code (qz_nm 285) (qz_by 285) (qz_mx 285) (qz_rt 285) ∈ lw_tbl := qz_tb_9 (List.mem_of_getElem? (i := 18) rfl)
set_option maxRecDepth 20000 in
theorem qk_X12_joined : Cond.code (qz_nm 286) (qz_by 286) (qz_mx 286) (qz_rt 286) ∈ lw_tbl := qz_tb_9 (List.mem_of_getElem? (i := 22) rfl)
set_option maxRecDepth 20000 in
theorem qk_X12_leaveAt : Cond.code (qz_nm 287) (qz_by 287) (qz_mx 287) (qz_rt 287) ∈ lw_tbl := qz_tb_9 (List.mem_of_getElem? (i := 32) rfl)
set_option maxRecDepth 20000 in
theorem qk_X12_isWrong : Cond.code (qz_nm 288) (qz_by 288) (qz_mx 288) (qz_rt 288) ∈ lw_tbl := qz_tb_9 (List.mem_of_getElem? (i := 36) rfl)
set_option maxRecDepth 20000 in
theorem qk_X12_audit : Cond.code (qz_nm 289) (qz_by 289) (qz_mx 289) (qz_rt 289) ∈ lw_tbl := qz_tb_9 (List.mem_of_getElem? (i := 26) rfl)
set_option maxRecDepth 20000 in
theorem qk_X12_shown : Cond.code (qz_nm 290) (qz_by 290) (qz_mx 290) (qz_rt 290) ∈ lw_tbl := qz_tb_9 (List.mem_of_getElem? (i := 40) rfl)
set_option maxRecDepth 20000 in
theorem qk_X12_leave : Cond.code (qz_nm 291) (qz_by 291) (qz_mx 291) (qz_rt 291) ∈ lw_tbl := qz_tb_9 (List.mem_of_getElem? (i := 44) rfl)
set_option maxRecDepth 20000 in
theorem qk_X12_listedBy : Cond.code (qz_nm 292) (qz_by 292) (qz_mx 292) (qz_rt 292) ∈ lw_tbl := qz_tb_9 (List.mem_of_getElem? (i := 52) rfl)
set_option maxRecDepth 20000 in
theorem qk_X12_count : Cond.code (qz_nm 293) (qz_by 293) (qz_mx 293) (qz_rt 293) ∈ lw_tbl := qz_tb_9 (List.mem_of_getElem? (i := 48) rfl)
set_option maxRecDepth 20000 in
theorem qk_J6_bitCount_0f7a4 : Cond.code (qz_nm 294) (qz_by 294) (qz_mx 294) (qz_rt 294) ∈ lw_tbl := qz_tb_5 (List.mem_of_getElem? (i := 215) rfl)
set_option maxRecDepth 20000 in
theorem qk_J9_max_7cf53 : Cond.code (qz_nm 295) (qz_by 295) (qz_mx 295) (qz_rt 295) ∈ lw_tbl := qz_tb_4 (List.mem_of_getElem? (i := 125) rfl)
set_option maxRecDepth 20000 in
theorem qk_J9_min_f86c9 : Cond.code (qz_nm 296) (qz_by 296) (qz_mx 296) (qz_rt 296) ∈ lw_tbl := qz_tb_5 (List.mem_of_getElem? (i := 173) rfl)
set_option maxRecDepth 20000 in
theorem qk_J9_min_7cf53 : Cond.code (qz_nm 297) (qz_by 297) (qz_mx 297) (qz_rt 297) ∈ lw_tbl := qz_tb_4 (List.mem_of_getElem? (i := 84) rfl)
set_option maxRecDepth 20000 in
theorem qk_J7_fill_53178 : Cond.code (qz_nm 298) (qz_by 298) (qz_mx 298) (qz_rt 298) ∈ lw_tbl := qz_tb_1 (List.mem_of_getElem? (i := 47) rfl)
def qz_cok (z : Nat) : Prop := Cond.code (qz_nm z) (qz_by z) (qz_mx z) (qz_rt z) ∈ lw_tbl
theorem qz_mb_0 : ∀ z ∈ qz_ms_0, qz_cok z := List.forall_mem_cons.mpr ⟨qk_X0_draw, List.forall_mem_cons.mpr ⟨qk_X0_gather, List.forall_mem_cons.mpr ⟨qk_X0_result, List.forall_mem_cons.mpr ⟨qk_X0_wrongOnes, List.forall_mem_cons.mpr ⟨qk_X1_holderOf, List.forall_mem_cons.mpr ⟨qk_X1_foundShares, List.forall_mem_cons.mpr ⟨qk_X1_isUnheeded, List.forall_mem_cons.mpr ⟨qk_X1_hundredthsOf, List.forall_mem_cons.mpr ⟨qk_X2_size, List.forall_mem_cons.mpr ⟨qk_X2_isFull, List.forall_mem_cons.mpr ⟨qk_X2_clausesOf, List.forall_mem_cons.mpr ⟨qk_X2_add, List.forall_mem_cons.mpr ⟨qk_X2_keepClause, List.forall_mem_cons.mpr ⟨qk_X2_weigh, List.forall_mem_cons.mpr ⟨qk_X2_result, List.forall_mem_cons.mpr ⟨qk_X2_learn, List.forall_mem_cons.mpr ⟨qk_X2_forget, List.forall_mem_cons.mpr ⟨qk_X2_isInForce, List.forall_mem_cons.mpr ⟨qk_X2_weighLaw, List.forall_mem_cons.mpr ⟨qk_X2_weighClause, List.forall_mem_cons.mpr ⟨qk_X3_size, List.forall_mem_cons.mpr ⟨qk_X3_tellings, List.forall_mem_cons.mpr ⟨qk_X3_isFull, List.forall_mem_cons.mpr ⟨qk_X3_verdict, List.forall_mem_cons.mpr ⟨qk_X3_give, List.forall_mem_cons.mpr ⟨qk_X3_addUses, List.forall_mem_cons.mpr ⟨qk_X3_lastsOn, List.forall_mem_cons.mpr ⟨qk_X3_endFor, List.forall_mem_cons.mpr ⟨qk_X3_payment, List.forall_mem_cons.mpr ⟨qk_X3_isFree, List.forall_mem_cons.mpr ⟨qk_X3_isWrong, List.forall_mem_cons.mpr ⟨qk_X3_detail, List.forall_mem_cons.mpr ⟨qk_X4_setCost, List.forall_mem_cons.mpr ⟨qk_X4_setChance, List.forall_mem_cons.mpr ⟨qk_X4_gather, List.forall_mem_cons.mpr ⟨qk_X4_expectedOn, List.forall_mem_cons.mpr ⟨qk_X4_findCheapest, List.forall_mem_cons.mpr ⟨qk_X4_leastExpected, List.forall_mem_cons.mpr ⟨qk_X4_cheapestAt, List.forall_mem_cons.mpr ⟨qk_X4_expectedOfRow, List.forall_mem_cons.mpr ⟨qk_X4_costOf, List.forall_mem_cons.mpr ⟨qk_X4_chanceOf, List.forall_mem_cons.mpr ⟨qk_X4_leftBehind, List.forall_mem_cons.mpr ⟨qk_X4_firstOfLeast, List.forall_mem_cons.mpr ⟨qk_X4_leastAdded, List.forall_mem_cons.mpr ⟨qk_X4_addedWith, List.forall_mem_cons.mpr ⟨qk_X4_knownAt, List.forall_mem_cons.mpr ⟨qk_X4_keep, List.forall_mem_cons.mpr ⟨qk_X5_size, List.forall_mem_cons.mpr ⟨qk_X5_has, fun _ h => absurd h List.not_mem_nil⟩⟩⟩⟩⟩⟩⟩⟩⟩⟩⟩⟩⟩⟩⟩⟩⟩⟩⟩⟩⟩⟩⟩⟩⟩⟩⟩⟩⟩⟩⟩⟩⟩⟩⟩⟩⟩⟩⟩⟩⟩⟩⟩⟩⟩⟩⟩⟩⟩⟩
theorem qz_mb_1 : ∀ z ∈ qz_ms_1, qz_cok z := List.forall_mem_cons.mpr ⟨qk_X5_isPerson, List.forall_mem_cons.mpr ⟨qk_X5_isFirm, List.forall_mem_cons.mpr ⟨qk_X5_add, List.forall_mem_cons.mpr ⟨qk_X5_tellDeath, List.forall_mem_cons.mpr ⟨qk_X5_deathOf, List.forall_mem_cons.mpr ⟨qk_X5_deathDay, List.forall_mem_cons.mpr ⟨qk_X5_join, List.forall_mem_cons.mpr ⟨qk_X5_leadsTo, List.forall_mem_cons.mpr ⟨qk_X5_holderFor, List.forall_mem_cons.mpr ⟨qk_X6_begin, List.forall_mem_cons.mpr ⟨qk_X6_asksFound, List.forall_mem_cons.mpr ⟨qk_X6_codeSize, List.forall_mem_cons.mpr ⟨qk_X6_fault, List.forall_mem_cons.mpr ⟨qk_X6_kind, List.forall_mem_cons.mpr ⟨qk_X6_firstNumber, List.forall_mem_cons.mpr ⟨qk_X6_secondNumber, List.forall_mem_cons.mpr ⟨qk_X6_readClause, List.forall_mem_cons.mpr ⟨qk_X6_goesOn, List.forall_mem_cons.mpr ⟨qk_X6_sign, List.forall_mem_cons.mpr ⟨qk_X6_blame, List.forall_mem_cons.mpr ⟨qk_X6_pass, List.forall_mem_cons.mpr ⟨qk_X6_enter, List.forall_mem_cons.mpr ⟨qk_X6_exit, List.forall_mem_cons.mpr ⟨qk_X6_readLimited, List.forall_mem_cons.mpr ⟨qk_X6_readDigits, List.forall_mem_cons.mpr ⟨qk_X6_isDigit, List.forall_mem_cons.mpr ⟨qk_X6_anyPart, List.forall_mem_cons.mpr ⟨qk_X6_everyPiece, List.forall_mem_cons.mpr ⟨qk_X6_piece, List.forall_mem_cons.mpr ⟨qk_X6_sum, List.forall_mem_cons.mpr ⟨qk_X6_product, List.forall_mem_cons.mpr ⟨qk_X6_factor, List.forall_mem_cons.mpr ⟨qk_X6_emit, List.forall_mem_cons.mpr ⟨qk_X6_landJump, List.forall_mem_cons.mpr ⟨qk_X6_isMet, List.forall_mem_cons.mpr ⟨qk_X6_push, List.forall_mem_cons.mpr ⟨qk_X6_pop, List.forall_mem_cons.mpr ⟨qk_X6_reckoned, List.forall_mem_cons.mpr ⟨qk_X7_termOf, List.forall_mem_cons.mpr ⟨qk_X7_weighedTerm, List.forall_mem_cons.mpr ⟨qk_X7_termByDeaths, List.forall_mem_cons.mpr ⟨qk_X7_freedom, List.forall_mem_cons.mpr ⟨qk_X7_lacks, List.forall_mem_cons.mpr ⟨qk_X7_lack, List.forall_mem_cons.mpr ⟨qk_X7_sourcesToDo, List.forall_mem_cons.mpr ⟨qk_X7_missingSources, List.forall_mem_cons.mpr ⟨qk_X7_missingOwner, List.forall_mem_cons.mpr ⟨qk_X7_firstBit, List.forall_mem_cons.mpr ⟨qk_X8_size, List.forall_mem_cons.mpr ⟨qk_X8_hasRoom, fun _ h => absurd h List.not_mem_nil⟩⟩⟩⟩⟩⟩⟩⟩⟩⟩⟩⟩⟩⟩⟩⟩⟩⟩⟩⟩⟩⟩⟩⟩⟩⟩⟩⟩⟩⟩⟩⟩⟩⟩⟩⟩⟩⟩⟩⟩⟩⟩⟩⟩⟩⟩⟩⟩⟩⟩
theorem qz_mb_2 : ∀ z ∈ qz_ms_2, qz_cok z := List.forall_mem_cons.mpr ⟨qk_X8_has, List.forall_mem_cons.mpr ⟨qk_X8_put, List.forall_mem_cons.mpr ⟨qk_X8_at, List.forall_mem_cons.mpr ⟨qk_X8_clear, List.forall_mem_cons.mpr ⟨qk_X9_looks, List.forall_mem_cons.mpr ⟨qk_X9_letters, List.forall_mem_cons.mpr ⟨qk_X9_addLook, List.forall_mem_cons.mpr ⟨qk_X9_addLetter, List.forall_mem_cons.mpr ⟨qk_X9_addAnswer, List.forall_mem_cons.mpr ⟨qk_X9_addComing, List.forall_mem_cons.mpr ⟨qk_X9_hasCome, List.forall_mem_cons.mpr ⟨qk_X9_addConsent, List.forall_mem_cons.mpr ⟨qk_X9_hasAgreed, List.forall_mem_cons.mpr ⟨qk_X9_isFound, List.forall_mem_cons.mpr ⟨qk_X9_hasAnswered, List.forall_mem_cons.mpr ⟨qk_X9_isSeen, List.forall_mem_cons.mpr ⟨qk_X9_lookedThrough, List.forall_mem_cons.mpr ⟨qk_X9_wasWritten, List.forall_mem_cons.mpr ⟨qk_X10_size, List.forall_mem_cons.mpr ⟨qk_X10_has, List.forall_mem_cons.mpr ⟨qk_X10_canLieIn, List.forall_mem_cons.mpr ⟨qk_X10_add, List.forall_mem_cons.mpr ⟨qk_X10_kindOf, List.forall_mem_cons.mpr ⟨qk_X10_landOf, List.forall_mem_cons.mpr ⟨qk_X10_outerOf, List.forall_mem_cons.mpr ⟨qk_X10_outDay, List.forall_mem_cons.mpr ⟨qk_X10_sharesOf, List.forall_mem_cons.mpr ⟨qk_X10_shareOwner, List.forall_mem_cons.mpr ⟨qk_X10_sharePart, List.forall_mem_cons.mpr ⟨qk_X10_isSharedBy, List.forall_mem_cons.mpr ⟨qk_X10_addShare, List.forall_mem_cons.mpr ⟨qk_X10_partsOf, List.forall_mem_cons.mpr ⟨qk_X10_areAlike, List.forall_mem_cons.mpr ⟨qk_X10_enlist, List.forall_mem_cons.mpr ⟨qk_X10_isListed, List.forall_mem_cons.mpr ⟨qk_X10_listed, List.forall_mem_cons.mpr ⟨qk_X10_pairAt, List.forall_mem_cons.mpr ⟨qk_X10_clearTaken, List.forall_mem_cons.mpr ⟨qk_X10_partnerOf, List.forall_mem_cons.mpr ⟨qk_X11_now, List.forall_mem_cons.mpr ⟨qk_X11_owner, List.forall_mem_cons.mpr ⟨qk_X11_died, List.forall_mem_cons.mpr ⟨qk_X11_merge, List.forall_mem_cons.mpr ⟨qk_X11_work, List.forall_mem_cons.mpr ⟨qk_X11_share, List.forall_mem_cons.mpr ⟨qk_X11_holds, List.forall_mem_cons.mpr ⟨qk_X11_feed, List.forall_mem_cons.mpr ⟨qk_X11_law, List.forall_mem_cons.mpr ⟨qk_X11_number, List.forall_mem_cons.mpr ⟨qk_X11_term, fun _ h => absurd h List.not_mem_nil⟩⟩⟩⟩⟩⟩⟩⟩⟩⟩⟩⟩⟩⟩⟩⟩⟩⟩⟩⟩⟩⟩⟩⟩⟩⟩⟩⟩⟩⟩⟩⟩⟩⟩⟩⟩⟩⟩⟩⟩⟩⟩⟩⟩⟩⟩⟩⟩⟩⟩
theorem qz_mb_3 : ∀ z ∈ qz_ms_3, qz_cok z := List.forall_mem_cons.mpr ⟨qk_X11_free, List.forall_mem_cons.mpr ⟨qk_X11_source, List.forall_mem_cons.mpr ⟨qk_X11_chance, List.forall_mem_cons.mpr ⟨qk_X11_look, List.forall_mem_cons.mpr ⟨qk_X11_letter, List.forall_mem_cons.mpr ⟨qk_X11_answer, List.forall_mem_cons.mpr ⟨qk_X11_found, List.forall_mem_cons.mpr ⟨qk_X11_enough, List.forall_mem_cons.mpr ⟨qk_X11_why, List.forall_mem_cons.mpr ⟨qk_X11_nobody, List.forall_mem_cons.mpr ⟨qk_X11_agree, List.forall_mem_cons.mpr ⟨qk_X11_ask, List.forall_mem_cons.mpr ⟨qk_X11_uses, List.forall_mem_cons.mpr ⟨qk_X11_comes, List.forall_mem_cons.mpr ⟨qk_X11_paid, List.forall_mem_cons.mpr ⟨qk_X11_cheapest, List.forall_mem_cons.mpr ⟨qk_X11_judge, List.forall_mem_cons.mpr ⟨qk_X11_like, List.forall_mem_cons.mpr ⟨qk_X11_list, List.forall_mem_cons.mpr ⟨qk_X11_joined, List.forall_mem_cons.mpr ⟨qk_X11_audit, List.forall_mem_cons.mpr ⟨qk_X11_shown, List.forall_mem_cons.mpr ⟨qk_X11_leave, List.forall_mem_cons.mpr ⟨qk_X11_count, List.forall_mem_cons.mpr ⟨qk_X11_isBelow, List.forall_mem_cons.mpr ⟨qk_X11_indexOf, List.forall_mem_cons.mpr ⟨qk_X11_isDay, List.forall_mem_cons.mpr ⟨qk_X11_isSpan, List.forall_mem_cons.mpr ⟨qk_X11_isLand, List.forall_mem_cons.mpr ⟨qk_X11_isKind, List.forall_mem_cons.mpr ⟨qk_X11_isSource, List.forall_mem_cons.mpr ⟨qk_X11_asNumber, List.forall_mem_cons.mpr ⟨qk_X11_isTellable, List.forall_mem_cons.mpr ⟨qk_X11_isCase, List.forall_mem_cons.mpr ⟨qk_X12_in, List.forall_mem_cons.mpr ⟨qk_X12_isDay, List.forall_mem_cons.mpr ⟨qk_X12_isLand, List.forall_mem_cons.mpr ⟨qk_X12_now, List.forall_mem_cons.mpr ⟨qk_X12_isOwner, List.forall_mem_cons.mpr ⟨qk_X12_isWork, List.forall_mem_cons.mpr ⟨qk_X12_owner, List.forall_mem_cons.mpr ⟨qk_X12_died, List.forall_mem_cons.mpr ⟨qk_X12_deathBy, List.forall_mem_cons.mpr ⟨qk_X12_merge, List.forall_mem_cons.mpr ⟨qk_X12_heldBy, List.forall_mem_cons.mpr ⟨qk_X12_work, List.forall_mem_cons.mpr ⟨qk_X12_share, List.forall_mem_cons.mpr ⟨qk_X12_holderOf, List.forall_mem_cons.mpr ⟨qk_X12_holds, List.forall_mem_cons.mpr ⟨qk_X12_types, fun _ h => absurd h List.not_mem_nil⟩⟩⟩⟩⟩⟩⟩⟩⟩⟩⟩⟩⟩⟩⟩⟩⟩⟩⟩⟩⟩⟩⟩⟩⟩⟩⟩⟩⟩⟩⟩⟩⟩⟩⟩⟩⟩⟩⟩⟩⟩⟩⟩⟩⟩⟩⟩⟩⟩⟩
theorem qz_mb_4 : ∀ z ∈ qz_ms_4, qz_cok z := List.forall_mem_cons.mpr ⟨qk_X12_feed, List.forall_mem_cons.mpr ⟨qk_X12_sign, List.forall_mem_cons.mpr ⟨qk_X12_isDigit, List.forall_mem_cons.mpr ⟨qk_X12_wrong, List.forall_mem_cons.mpr ⟨qk_X12_takes, List.forall_mem_cons.mpr ⟨qk_X12_readsNumber, List.forall_mem_cons.mpr ⟨qk_X12_says, List.forall_mem_cons.mpr ⟨qk_X12_opens, List.forall_mem_cons.mpr ⟨qk_X12_top, List.forall_mem_cons.mpr ⟨qk_X12_factOf, List.forall_mem_cons.mpr ⟨qk_X12_sumSign, List.forall_mem_cons.mpr ⟨qk_X12_closesSums, List.forall_mem_cons.mpr ⟨qk_X12_readsFactor, List.forall_mem_cons.mpr ⟨qk_X12_hasOpenSum, List.forall_mem_cons.mpr ⟨qk_X12_readsSum, List.forall_mem_cons.mpr ⟨qk_X12_endsPiece, List.forall_mem_cons.mpr ⟨qk_X12_lands, List.forall_mem_cons.mpr ⟨qk_X12_jumps, List.forall_mem_cons.mpr ⟨qk_X12_readsCompared, List.forall_mem_cons.mpr ⟨qk_X12_readsCondition, List.forall_mem_cons.mpr ⟨qk_X12_isLetter, List.forall_mem_cons.mpr ⟨qk_X12_mostOf, List.forall_mem_cons.mpr ⟨qk_X12_readsClause, List.forall_mem_cons.mpr ⟨qk_X12_law, List.forall_mem_cons.mpr ⟨qk_X12_isLaw, List.forall_mem_cons.mpr ⟨qk_X12_strikes, List.forall_mem_cons.mpr ⟨qk_X12_setsFacts, List.forall_mem_cons.mpr ⟨qk_X12_reckon, List.forall_mem_cons.mpr ⟨qk_X12_isTrue, List.forall_mem_cons.mpr ⟨qk_X12_numberBy, List.forall_mem_cons.mpr ⟨qk_X12_bitsBy, List.forall_mem_cons.mpr ⟨qk_X12_orNothing, List.forall_mem_cons.mpr ⟨qk_X12_isAsked, List.forall_mem_cons.mpr ⟨qk_X12_number, List.forall_mem_cons.mpr ⟨qk_X12_termOf, List.forall_mem_cons.mpr ⟨qk_X12_term, List.forall_mem_cons.mpr ⟨qk_X12_freeOf, List.forall_mem_cons.mpr ⟨qk_X12_free, List.forall_mem_cons.mpr ⟨qk_X12_isSource, List.forall_mem_cons.mpr ⟨qk_X12_source, List.forall_mem_cons.mpr ⟨qk_X12_chance, List.forall_mem_cons.mpr ⟨qk_X12_hasShare, List.forall_mem_cons.mpr ⟨qk_X12_look, List.forall_mem_cons.mpr ⟨qk_X12_letter, List.forall_mem_cons.mpr ⟨qk_X12_answer, List.forall_mem_cons.mpr ⟨qk_X12_isBy, List.forall_mem_cons.mpr ⟨qk_X12_isFound, List.forall_mem_cons.mpr ⟨qk_X12_found, List.forall_mem_cons.mpr ⟨qk_X12_isLooked, List.forall_mem_cons.mpr ⟨qk_X12_isWritten, fun _ h => absurd h List.not_mem_nil⟩⟩⟩⟩⟩⟩⟩⟩⟩⟩⟩⟩⟩⟩⟩⟩⟩⟩⟩⟩⟩⟩⟩⟩⟩⟩⟩⟩⟩⟩⟩⟩⟩⟩⟩⟩⟩⟩⟩⟩⟩⟩⟩⟩⟩⟩⟩⟩⟩⟩
theorem qz_mb_5 : ∀ z ∈ qz_ms_5, qz_cok z := List.forall_mem_cons.mpr ⟨qk_X12_lacksOf, List.forall_mem_cons.mpr ⟨qk_X12_isEnough, List.forall_mem_cons.mpr ⟨qk_X12_enough, List.forall_mem_cons.mpr ⟨qk_X12_why, List.forall_mem_cons.mpr ⟨qk_X12_nobody, List.forall_mem_cons.mpr ⟨qk_X12_hasAgreed, List.forall_mem_cons.mpr ⟨qk_X12_agree, List.forall_mem_cons.mpr ⟨qk_X12_allAgreed, List.forall_mem_cons.mpr ⟨qk_X12_ask, List.forall_mem_cons.mpr ⟨qk_X12_isLeave, List.forall_mem_cons.mpr ⟨qk_X12_uses, List.forall_mem_cons.mpr ⟨qk_X12_partsHeld, List.forall_mem_cons.mpr ⟨qk_X12_comes, List.forall_mem_cons.mpr ⟨qk_X12_paid, List.forall_mem_cons.mpr ⟨qk_X12_setsRow, List.forall_mem_cons.mpr ⟨qk_X12_expected, List.forall_mem_cons.mpr ⟨qk_X12_swaps, List.forall_mem_cons.mpr ⟨qk_X12_nextRow, List.forall_mem_cons.mpr ⟨qk_X12_cheapest, List.forall_mem_cons.mpr ⟨qk_X12_judge, List.forall_mem_cons.mpr ⟨qk_X12_isLike, List.forall_mem_cons.mpr ⟨qk_X12_like, List.forall_mem_cons.mpr ⟨qk_X12_list, List.forall_mem_cons.mpr ⟨qk_X12_joined, List.forall_mem_cons.mpr ⟨qk_X12_leaveAt, List.forall_mem_cons.mpr ⟨qk_X12_isWrong, List.forall_mem_cons.mpr ⟨qk_X12_audit, List.forall_mem_cons.mpr ⟨qk_X12_shown, List.forall_mem_cons.mpr ⟨qk_X12_leave, List.forall_mem_cons.mpr ⟨qk_X12_listedBy, List.forall_mem_cons.mpr ⟨qk_X12_count, List.forall_mem_cons.mpr ⟨qk_J6_bitCount_0f7a4, List.forall_mem_cons.mpr ⟨qk_J9_max_7cf53, List.forall_mem_cons.mpr ⟨qk_J9_min_f86c9, List.forall_mem_cons.mpr ⟨qk_J9_min_7cf53, List.forall_mem_cons.mpr ⟨qk_J7_fill_53178, fun _ h => absurd h List.not_mem_nil⟩⟩⟩⟩⟩⟩⟩⟩⟩⟩⟩⟩⟩⟩⟩⟩⟩⟩⟩⟩⟩⟩⟩⟩⟩⟩⟩⟩⟩⟩⟩⟩⟩⟩⟩⟩
theorem qz_mb : ∀ z ∈ qz_ms, qz_cok z := by
  show ∀ z ∈ qz_ms_0 ++ qz_ms_1 ++ qz_ms_2 ++ qz_ms_3 ++ qz_ms_4 ++ qz_ms_5, qz_cok z
  simp only [List.forall_mem_append]
  exact ⟨⟨⟨⟨⟨qz_mb_0, qz_mb_1⟩, qz_mb_2⟩, qz_mb_3⟩, qz_mb_4⟩, qz_mb_5⟩
