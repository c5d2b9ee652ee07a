theorem qo_X6_piece_0 : pc_X6_piece_0.all (fun q => qz_ok1 85 q && qz_ok2 85 q) = true := by decide +kernel
theorem qo_X6_piece_1 : pc_X6_piece_1.all (fun q => qz_ok1 85 q && qz_ok2 85 q) = true := by decide +kernel
theorem qo_X6_piece : qz_ok 85 := qz_ok_of (cd := pc_X6_piece_0 ++ pc_X6_piece_1) (by simp only [List.all_append, Bool.and_eq_true]; exact ⟨qo_X6_piece_0, qo_X6_piece_1⟩)
theorem qo_X6_sum_0 : pc_X6_sum_0.all (fun q => qz_ok1 86 q && qz_ok2 86 q) = true := by decide +kernel
theorem qo_X6_sum : qz_ok 86 := qz_ok_of qo_X6_sum_0
theorem qo_X6_product_0 : pc_X6_product_0.all (fun q => qz_ok1 87 q && qz_ok2 87 q) = true := by decide +kernel
theorem qo_X6_product : qz_ok 87 := qz_ok_of qo_X6_product_0
theorem qo_X6_factor_0 : pc_X6_factor_0.all (fun q => qz_ok1 88 q && qz_ok2 88 q) = true := by decide +kernel
theorem qo_X6_factor : qz_ok 88 := qz_ok_of qo_X6_factor_0
theorem qo_X6_emit_0 : pc_X6_emit_0.all (fun q => qz_ok1 89 q && qz_ok2 89 q) = true := by decide +kernel
theorem qo_X6_emit : qz_ok 89 := qz_ok_of qo_X6_emit_0
theorem qo_X6_landJump_0 : pc_X6_landJump_0.all (fun q => qz_ok1 90 q && qz_ok2 90 q) = true := by decide +kernel
theorem qo_X6_landJump : qz_ok 90 := qz_ok_of qo_X6_landJump_0
theorem qo_X6_isMet_0 : pc_X6_isMet_0.all (fun q => qz_ok1 91 q && qz_ok2 91 q) = true := by decide +kernel
theorem qo_X6_isMet_1 : pc_X6_isMet_1.all (fun q => qz_ok1 91 q && qz_ok2 91 q) = true := by decide +kernel
theorem qo_X6_isMet_2 : pc_X6_isMet_2.all (fun q => qz_ok1 91 q && qz_ok2 91 q) = true := by decide +kernel
theorem qo_X6_isMet : qz_ok 91 := qz_ok_of (cd := pc_X6_isMet_0 ++ pc_X6_isMet_1 ++ pc_X6_isMet_2) (by simp only [List.all_append, Bool.and_eq_true]; exact ⟨⟨qo_X6_isMet_0, qo_X6_isMet_1⟩, qo_X6_isMet_2⟩)
theorem qo_X6_push_0 : pc_X6_push_0.all (fun q => qz_ok1 92 q && qz_ok2 92 q) = true := by decide +kernel
theorem qo_X6_push : qz_ok 92 := qz_ok_of qo_X6_push_0
theorem qo_X6_pop_0 : pc_X6_pop_0.all (fun q => qz_ok1 93 q && qz_ok2 93 q) = true := by decide +kernel
theorem qo_X6_pop : qz_ok 93 := qz_ok_of qo_X6_pop_0
theorem qo_X6_reckoned_0 : pc_X6_reckoned_0.all (fun q => qz_ok1 94 q && qz_ok2 94 q) = true := by decide +kernel
theorem qo_X6_reckoned : qz_ok 94 := qz_ok_of qo_X6_reckoned_0
theorem qo_X7_termOf_0 : pc_X7_termOf_0.all (fun q => qz_ok1 96 q && qz_ok2 96 q) = true := by decide +kernel
theorem qo_X7_termOf : qz_ok 96 := qz_ok_of qo_X7_termOf_0
theorem qo_X7_weighedTerm_0 : pc_X7_weighedTerm_0.all (fun q => qz_ok1 97 q && qz_ok2 97 q) = true := by decide +kernel
theorem qo_X7_weighedTerm : qz_ok 97 := qz_ok_of qo_X7_weighedTerm_0
theorem qo_X7_termByDeaths_0 : pc_X7_termByDeaths_0.all (fun q => qz_ok1 98 q && qz_ok2 98 q) = true := by decide +kernel
theorem qo_X7_termByDeaths_1 : pc_X7_termByDeaths_1.all (fun q => qz_ok1 98 q && qz_ok2 98 q) = true := by decide +kernel
theorem qo_X7_termByDeaths : qz_ok 98 := qz_ok_of (cd := pc_X7_termByDeaths_0 ++ pc_X7_termByDeaths_1) (by simp only [List.all_append, Bool.and_eq_true]; exact ⟨qo_X7_termByDeaths_0, qo_X7_termByDeaths_1⟩)
theorem qo_X7_freedom_0 : pc_X7_freedom_0.all (fun q => qz_ok1 99 q && qz_ok2 99 q) = true := by decide +kernel
theorem qo_X7_freedom : qz_ok 99 := qz_ok_of qo_X7_freedom_0
theorem qo_X7_lacks_0 : pc_X7_lacks_0.all (fun q => qz_ok1 100 q && qz_ok2 100 q) = true := by decide +kernel
theorem qo_X7_lacks : qz_ok 100 := qz_ok_of qo_X7_lacks_0
theorem qo_X7_lack_0 : pc_X7_lack_0.all (fun q => qz_ok1 101 q && qz_ok2 101 q) = true := by decide +kernel
theorem qo_X7_lack : qz_ok 101 := qz_ok_of qo_X7_lack_0
theorem qo_X7_sourcesToDo_0 : pc_X7_sourcesToDo_0.all (fun q => qz_ok1 102 q && qz_ok2 102 q) = true := by decide +kernel
theorem qo_X7_sourcesToDo : qz_ok 102 := qz_ok_of qo_X7_sourcesToDo_0
theorem qo_X7_missingSources_0 : pc_X7_missingSources_0.all (fun q => qz_ok1 103 q && qz_ok2 103 q) = true := by decide +kernel
theorem qo_X7_missingSources : qz_ok 103 := qz_ok_of qo_X7_missingSources_0
theorem qo_X7_missingOwner_0 : pc_X7_missingOwner_0.all (fun q => qz_ok1 104 q && qz_ok2 104 q) = true := by decide +kernel
theorem qo_X7_missingOwner : qz_ok 104 := qz_ok_of qo_X7_missingOwner_0
theorem qo_X7_firstBit_0 : pc_X7_firstBit_0.all (fun q => qz_ok1 105 q && qz_ok2 105 q) = true := by decide +kernel
theorem qo_X7_firstBit : qz_ok 105 := qz_ok_of qo_X7_firstBit_0
theorem qo_X8_size_0 : pc_X8_size_0.all (fun q => qz_ok1 107 q && qz_ok2 107 q) = true := by decide +kernel
theorem qo_X8_size : qz_ok 107 := qz_ok_of qo_X8_size_0
theorem qo_X8_hasRoom_0 : pc_X8_hasRoom_0.all (fun q => qz_ok1 108 q && qz_ok2 108 q) = true := by decide +kernel
theorem qo_X8_hasRoom : qz_ok 108 := qz_ok_of qo_X8_hasRoom_0
theorem qo_X8_has_0 : pc_X8_has_0.all (fun q => qz_ok1 109 q && qz_ok2 109 q) = true := by decide +kernel
theorem qo_X8_has : qz_ok 109 := qz_ok_of qo_X8_has_0
theorem qo_X8_put_0 : pc_X8_put_0.all (fun q => qz_ok1 110 q && qz_ok2 110 q) = true := by decide +kernel
theorem qo_X8_put : qz_ok 110 := qz_ok_of qo_X8_put_0
theorem qo_X8_at_0 : pc_X8_at_0.all (fun q => qz_ok1 111 q && qz_ok2 111 q) = true := by decide +kernel
theorem qo_X8_at : qz_ok 111 := qz_ok_of qo_X8_at_0
theorem qo_X8_clear_0 : pc_X8_clear_0.all (fun q => qz_ok1 112 q && qz_ok2 112 q) = true := by decide +kernel
theorem qo_X8_clear : qz_ok 112 := qz_ok_of qo_X8_clear_0
theorem qo_X9_looks_0 : pc_X9_looks_0.all (fun q => qz_ok1 114 q && qz_ok2 114 q) = true := by decide +kernel
theorem qo_X9_looks : qz_ok 114 := qz_ok_of qo_X9_looks_0
theorem qo_X9_letters_0 : pc_X9_letters_0.all (fun q => qz_ok1 115 q && qz_ok2 115 q) = true := by decide +kernel
theorem qo_X9_letters : qz_ok 115 := qz_ok_of qo_X9_letters_0
theorem qo_X9_addLook_0 : pc_X9_addLook_0.all (fun q => qz_ok1 116 q && qz_ok2 116 q) = true := by decide +kernel
theorem qo_X9_addLook : qz_ok 116 := qz_ok_of qo_X9_addLook_0
theorem qo_X9_addLetter_0 : pc_X9_addLetter_0.all (fun q => qz_ok1 117 q && qz_ok2 117 q) = true := by decide +kernel
theorem qo_X9_addLetter : qz_ok 117 := qz_ok_of qo_X9_addLetter_0
theorem qo_X9_addAnswer_0 : pc_X9_addAnswer_0.all (fun q => qz_ok1 118 q && qz_ok2 118 q) = true := by decide +kernel
theorem qo_X9_addAnswer : qz_ok 118 := qz_ok_of qo_X9_addAnswer_0
theorem qo_X9_addComing_0 : pc_X9_addComing_0.all (fun q => qz_ok1 119 q && qz_ok2 119 q) = true := by decide +kernel
theorem qo_X9_addComing : qz_ok 119 := qz_ok_of qo_X9_addComing_0
theorem qo_X9_hasCome_0 : pc_X9_hasCome_0.all (fun q => qz_ok1 120 q && qz_ok2 120 q) = true := by decide +kernel
theorem qo_X9_hasCome : qz_ok 120 := qz_ok_of qo_X9_hasCome_0
theorem qo_X9_addConsent_0 : pc_X9_addConsent_0.all (fun q => qz_ok1 121 q && qz_ok2 121 q) = true := by decide +kernel
theorem qo_X9_addConsent : qz_ok 121 := qz_ok_of qo_X9_addConsent_0
theorem qo_X9_hasAgreed_0 : pc_X9_hasAgreed_0.all (fun q => qz_ok1 122 q && qz_ok2 122 q) = true := by decide +kernel
theorem qo_X9_hasAgreed : qz_ok 122 := qz_ok_of qo_X9_hasAgreed_0
theorem qo_X9_isFound_0 : pc_X9_isFound_0.all (fun q => qz_ok1 123 q && qz_ok2 123 q) = true := by decide +kernel
theorem qo_X9_isFound : qz_ok 123 := qz_ok_of qo_X9_isFound_0
theorem qo_X9_hasAnswered_0 : pc_X9_hasAnswered_0.all (fun q => qz_ok1 124 q && qz_ok2 124 q) = true := by decide +kernel
theorem qo_X9_hasAnswered : qz_ok 124 := qz_ok_of qo_X9_hasAnswered_0
theorem qo_X9_isSeen_0 : pc_X9_isSeen_0.all (fun q => qz_ok1 125 q && qz_ok2 125 q) = true := by decide +kernel
theorem qo_X9_isSeen : qz_ok 125 := qz_ok_of qo_X9_isSeen_0
theorem qo_X9_lookedThrough_0 : pc_X9_lookedThrough_0.all (fun q => qz_ok1 126 q && qz_ok2 126 q) = true := by decide +kernel
theorem qo_X9_lookedThrough : qz_ok 126 := qz_ok_of qo_X9_lookedThrough_0
theorem qo_X9_wasWritten_0 : pc_X9_wasWritten_0.all (fun q => qz_ok1 127 q && qz_ok2 127 q) = true := by decide +kernel
theorem qo_X9_wasWritten : qz_ok 127 := qz_ok_of qo_X9_wasWritten_0
theorem qo_X10_size_0 : pc_X10_size_0.all (fun q => qz_ok1 129 q && qz_ok2 129 q) = true := by decide +kernel
theorem qo_X10_size : qz_ok 129 := qz_ok_of qo_X10_size_0
theorem qo_X10_has_0 : pc_X10_has_0.all (fun q => qz_ok1 130 q && qz_ok2 130 q) = true := by decide +kernel
theorem qo_X10_has : qz_ok 130 := qz_ok_of qo_X10_has_0
theorem qo_X10_canLieIn_0 : pc_X10_canLieIn_0.all (fun q => qz_ok1 131 q && qz_ok2 131 q) = true := by decide +kernel
theorem qo_X10_canLieIn : qz_ok 131 := qz_ok_of qo_X10_canLieIn_0
theorem qo_X10_add_0 : pc_X10_add_0.all (fun q => qz_ok1 132 q && qz_ok2 132 q) = true := by decide +kernel
theorem qo_X10_add_1 : pc_X10_add_1.all (fun q => qz_ok1 132 q && qz_ok2 132 q) = true := by decide +kernel
theorem qo_X10_add : qz_ok 132 := qz_ok_of (cd := pc_X10_add_0 ++ pc_X10_add_1) (by simp only [List.all_append, Bool.and_eq_true]; exact ⟨qo_X10_add_0, qo_X10_add_1⟩)
theorem qo_X10_kindOf_0 : pc_X10_kindOf_0.all (fun q => qz_ok1 133 q && qz_ok2 133 q) = true := by decide +kernel
theorem qo_X10_kindOf : qz_ok 133 := qz_ok_of qo_X10_kindOf_0
theorem qo_X10_landOf_0 : pc_X10_landOf_0.all (fun q => qz_ok1 134 q && qz_ok2 134 q) = true := by decide +kernel
theorem qo_X10_landOf : qz_ok 134 := qz_ok_of qo_X10_landOf_0
theorem qo_X10_outerOf_0 : pc_X10_outerOf_0.all (fun q => qz_ok1 135 q && qz_ok2 135 q) = true := by decide +kernel
theorem qo_X10_outerOf : qz_ok 135 := qz_ok_of qo_X10_outerOf_0
theorem qo_X10_outDay_0 : pc_X10_outDay_0.all (fun q => qz_ok1 136 q && qz_ok2 136 q) = true := by decide +kernel
theorem qo_X10_outDay : qz_ok 136 := qz_ok_of qo_X10_outDay_0
theorem qo_X10_sharesOf_0 : pc_X10_sharesOf_0.all (fun q => qz_ok1 137 q && qz_ok2 137 q) = true := by decide +kernel
theorem qo_X10_sharesOf : qz_ok 137 := qz_ok_of qo_X10_sharesOf_0
theorem qo_X10_shareOwner_0 : pc_X10_shareOwner_0.all (fun q => qz_ok1 138 q && qz_ok2 138 q) = true := by decide +kernel
theorem qo_X10_shareOwner : qz_ok 138 := qz_ok_of qo_X10_shareOwner_0
theorem qo_X10_sharePart_0 : pc_X10_sharePart_0.all (fun q => qz_ok1 139 q && qz_ok2 139 q) = true := by decide +kernel
theorem qo_X10_sharePart : qz_ok 139 := qz_ok_of qo_X10_sharePart_0
theorem qo_X10_isSharedBy_0 : pc_X10_isSharedBy_0.all (fun q => qz_ok1 140 q && qz_ok2 140 q) = true := by decide +kernel
theorem qo_X10_isSharedBy : qz_ok 140 := qz_ok_of qo_X10_isSharedBy_0
theorem qo_X10_addShare_0 : pc_X10_addShare_0.all (fun q => qz_ok1 141 q && qz_ok2 141 q) = true := by decide +kernel
theorem qo_X10_addShare_1 : pc_X10_addShare_1.all (fun q => qz_ok1 141 q && qz_ok2 141 q) = true := by decide +kernel
theorem qo_X10_addShare : qz_ok 141 := qz_ok_of (cd := pc_X10_addShare_0 ++ pc_X10_addShare_1) (by simp only [List.all_append, Bool.and_eq_true]; exact ⟨qo_X10_addShare_0, qo_X10_addShare_1⟩)
theorem qo_X10_partsOf_0 : pc_X10_partsOf_0.all (fun q => qz_ok1 142 q && qz_ok2 142 q) = true := by decide +kernel
theorem qo_X10_partsOf : qz_ok 142 := qz_ok_of qo_X10_partsOf_0
theorem qo_X10_areAlike_0 : pc_X10_areAlike_0.all (fun q => qz_ok1 143 q && qz_ok2 143 q) = true := by decide +kernel
theorem qo_X10_areAlike : qz_ok 143 := qz_ok_of qo_X10_areAlike_0
theorem qo_X10_enlist_0 : pc_X10_enlist_0.all (fun q => qz_ok1 144 q && qz_ok2 144 q) = true := by decide +kernel
theorem qo_X10_enlist : qz_ok 144 := qz_ok_of qo_X10_enlist_0
theorem qo_X10_isListed_0 : pc_X10_isListed_0.all (fun q => qz_ok1 145 q && qz_ok2 145 q) = true := by decide +kernel
theorem qo_X10_isListed : qz_ok 145 := qz_ok_of qo_X10_isListed_0
theorem qo_X10_listed_0 : pc_X10_listed_0.all (fun q => qz_ok1 146 q && qz_ok2 146 q) = true := by decide +kernel
theorem qo_X10_listed : qz_ok 146 := qz_ok_of qo_X10_listed_0
theorem qo_X10_pairAt_0 : pc_X10_pairAt_0.all (fun q => qz_ok1 147 q && qz_ok2 147 q) = true := by decide +kernel
theorem qo_X10_pairAt : qz_ok 147 := qz_ok_of qo_X10_pairAt_0
theorem qo_X10_clearTaken_0 : pc_X10_clearTaken_0.all (fun q => qz_ok1 148 q && qz_ok2 148 q) = true := by decide +kernel
theorem qo_X10_clearTaken : qz_ok 148 := qz_ok_of qo_X10_clearTaken_0
theorem qo_X10_partnerOf_0 : pc_X10_partnerOf_0.all (fun q => qz_ok1 149 q && qz_ok2 149 q) = true := by decide +kernel
theorem qo_X10_partnerOf : qz_ok 149 := qz_ok_of qo_X10_partnerOf_0
theorem qo_X11_now_0 : pc_X11_now_0.all (fun q => qz_ok1 151 q && qz_ok2 151 q) = true := by decide +kernel
theorem qo_X11_now : qz_ok 151 := qz_ok_of qo_X11_now_0
theorem qo_X11_owner_0 : pc_X11_owner_0.all (fun q => qz_ok1 152 q && qz_ok2 152 q) = true := by decide +kernel
theorem qo_X11_owner : qz_ok 152 := qz_ok_of qo_X11_owner_0
theorem qo_X11_died_0 : pc_X11_died_0.all (fun q => qz_ok1 153 q && qz_ok2 153 q) = true := by decide +kernel
theorem qo_X11_died : qz_ok 153 := qz_ok_of qo_X11_died_0
theorem qo_X11_merge_0 : pc_X11_merge_0.all (fun q => qz_ok1 154 q && qz_ok2 154 q) = true := by decide +kernel
theorem qo_X11_merge : qz_ok 154 := qz_ok_of qo_X11_merge_0
theorem qo_X11_work_0 : pc_X11_work_0.all (fun q => qz_ok1 155 q && qz_ok2 155 q) = true := by decide +kernel
theorem qo_X11_work : qz_ok 155 := qz_ok_of qo_X11_work_0
theorem qo_X11_share_0 : pc_X11_share_0.all (fun q => qz_ok1 156 q && qz_ok2 156 q) = true := by decide +kernel
theorem qo_X11_share : qz_ok 156 := qz_ok_of qo_X11_share_0
theorem qo_X11_holds_0 : pc_X11_holds_0.all (fun q => qz_ok1 157 q && qz_ok2 157 q) = true := by decide +kernel
theorem qo_X11_holds : qz_ok 157 := qz_ok_of qo_X11_holds_0
theorem qo_X11_feed_0 : pc_X11_feed_0.all (fun q => qz_ok1 158 q && qz_ok2 158 q) = true := by decide +kernel
theorem qo_X11_feed : qz_ok 158 := qz_ok_of qo_X11_feed_0
theorem qo_X11_law_0 : pc_X11_law_0.all (fun q => qz_ok1 159 q && qz_ok2 159 q) = true := by decide +kernel
theorem qo_X11_law : qz_ok 159 := qz_ok_of qo_X11_law_0
theorem qo_X11_number_0 : pc_X11_number_0.all (fun q => qz_ok1 160 q && qz_ok2 160 q) = true := by decide +kernel
theorem qo_X11_number : qz_ok 160 := qz_ok_of qo_X11_number_0
theorem qo_X11_term_0 : pc_X11_term_0.all (fun q => qz_ok1 161 q && qz_ok2 161 q) = true := by decide +kernel
theorem qo_X11_term : qz_ok 161 := qz_ok_of qo_X11_term_0
theorem qo_X11_free_0 : pc_X11_free_0.all (fun q => qz_ok1 162 q && qz_ok2 162 q) = true := by decide +kernel
theorem qo_X11_free : qz_ok 162 := qz_ok_of qo_X11_free_0
theorem qo_X11_source_0 : pc_X11_source_0.all (fun q => qz_ok1 163 q && qz_ok2 163 q) = true := by decide +kernel
theorem qo_X11_source : qz_ok 163 := qz_ok_of qo_X11_source_0
theorem qo_X11_chance_0 : pc_X11_chance_0.all (fun q => qz_ok1 164 q && qz_ok2 164 q) = true := by decide +kernel
theorem qo_X11_chance : qz_ok 164 := qz_ok_of qo_X11_chance_0
theorem qo_X11_look_0 : pc_X11_look_0.all (fun q => qz_ok1 165 q && qz_ok2 165 q) = true := by decide +kernel
theorem qo_X11_look : qz_ok 165 := qz_ok_of qo_X11_look_0
theorem qo_X11_letter_0 : pc_X11_letter_0.all (fun q => qz_ok1 166 q && qz_ok2 166 q) = true := by decide +kernel
theorem qo_X11_letter : qz_ok 166 := qz_ok_of qo_X11_letter_0
theorem qo_X11_answer_0 : pc_X11_answer_0.all (fun q => qz_ok1 167 q && qz_ok2 167 q) = true := by decide +kernel
theorem qo_X11_answer : qz_ok 167 := qz_ok_of qo_X11_answer_0
theorem qo_X11_found_0 : pc_X11_found_0.all (fun q => qz_ok1 168 q && qz_ok2 168 q) = true := by decide +kernel
theorem qo_X11_found : qz_ok 168 := qz_ok_of qo_X11_found_0
theorem qo_X11_enough_0 : pc_X11_enough_0.all (fun q => qz_ok1 169 q && qz_ok2 169 q) = true := by decide +kernel
theorem qo_X11_enough : qz_ok 169 := qz_ok_of qo_X11_enough_0
