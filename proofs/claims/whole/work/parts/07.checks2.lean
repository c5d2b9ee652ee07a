theorem qo_X11_why_0 : pc_X11_why_0.all (fun q => qz_ok1 170 q && qz_ok2 170 q) = true := by decide +kernel
theorem qo_X11_why : qz_ok 170 := qz_ok_of qo_X11_why_0
theorem qo_X11_nobody_0 : pc_X11_nobody_0.all (fun q => qz_ok1 171 q && qz_ok2 171 q) = true := by decide +kernel
theorem qo_X11_nobody : qz_ok 171 := qz_ok_of qo_X11_nobody_0
theorem qo_X11_agree_0 : pc_X11_agree_0.all (fun q => qz_ok1 172 q && qz_ok2 172 q) = true := by decide +kernel
theorem qo_X11_agree : qz_ok 172 := qz_ok_of qo_X11_agree_0
theorem qo_X11_ask_0 : pc_X11_ask_0.all (fun q => qz_ok1 173 q && qz_ok2 173 q) = true := by decide +kernel
theorem qo_X11_ask : qz_ok 173 := qz_ok_of qo_X11_ask_0
theorem qo_X11_uses_0 : pc_X11_uses_0.all (fun q => qz_ok1 174 q && qz_ok2 174 q) = true := by decide +kernel
theorem qo_X11_uses : qz_ok 174 := qz_ok_of qo_X11_uses_0
theorem qo_X11_comes_0 : pc_X11_comes_0.all (fun q => qz_ok1 175 q && qz_ok2 175 q) = true := by decide +kernel
theorem qo_X11_comes : qz_ok 175 := qz_ok_of qo_X11_comes_0
theorem qo_X11_paid_0 : pc_X11_paid_0.all (fun q => qz_ok1 176 q && qz_ok2 176 q) = true := by decide +kernel
theorem qo_X11_paid : qz_ok 176 := qz_ok_of qo_X11_paid_0
theorem qo_X11_cheapest_0 : pc_X11_cheapest_0.all (fun q => qz_ok1 177 q && qz_ok2 177 q) = true := by decide +kernel
theorem qo_X11_cheapest : qz_ok 177 := qz_ok_of qo_X11_cheapest_0
theorem qo_X11_judge_0 : pc_X11_judge_0.all (fun q => qz_ok1 178 q && qz_ok2 178 q) = true := by decide +kernel
theorem qo_X11_judge : qz_ok 178 := qz_ok_of qo_X11_judge_0
theorem qo_X11_like_0 : pc_X11_like_0.all (fun q => qz_ok1 179 q && qz_ok2 179 q) = true := by decide +kernel
theorem qo_X11_like : qz_ok 179 := qz_ok_of qo_X11_like_0
theorem qo_X11_list_0 : pc_X11_list_0.all (fun q => qz_ok1 180 q && qz_ok2 180 q) = true := by decide +kernel
theorem qo_X11_list : qz_ok 180 := qz_ok_of qo_X11_list_0
theorem qo_X11_joined_0 : pc_X11_joined_0.all (fun q => qz_ok1 181 q && qz_ok2 181 q) = true := by decide +kernel
theorem qo_X11_joined : qz_ok 181 := qz_ok_of qo_X11_joined_0
theorem qo_X11_audit_0 : pc_X11_audit_0.all (fun q => qz_ok1 182 q && qz_ok2 182 q) = true := by decide +kernel
theorem qo_X11_audit : qz_ok 182 := qz_ok_of qo_X11_audit_0
theorem qo_X11_shown_0 : pc_X11_shown_0.all (fun q => qz_ok1 183 q && qz_ok2 183 q) = true := by decide +kernel
theorem qo_X11_shown : qz_ok 183 := qz_ok_of qo_X11_shown_0
theorem qo_X11_leave_0 : pc_X11_leave_0.all (fun q => qz_ok1 184 q && qz_ok2 184 q) = true := by decide +kernel
theorem qo_X11_leave : qz_ok 184 := qz_ok_of qo_X11_leave_0
theorem qo_X11_count_0 : pc_X11_count_0.all (fun q => qz_ok1 185 q && qz_ok2 185 q) = true := by decide +kernel
theorem qo_X11_count_1 : pc_X11_count_1.all (fun q => qz_ok1 185 q && qz_ok2 185 q) = true := by decide +kernel
theorem qo_X11_count : qz_ok 185 := qz_ok_of (cd := pc_X11_count_0 ++ pc_X11_count_1) (by simp only [List.all_append, Bool.and_eq_true]; exact ⟨qo_X11_count_0, qo_X11_count_1⟩)
theorem qo_X11_isBelow_0 : pc_X11_isBelow_0.all (fun q => qz_ok1 186 q && qz_ok2 186 q) = true := by decide +kernel
theorem qo_X11_isBelow : qz_ok 186 := qz_ok_of qo_X11_isBelow_0
theorem qo_X11_indexOf_0 : pc_X11_indexOf_0.all (fun q => qz_ok1 187 q && qz_ok2 187 q) = true := by decide +kernel
theorem qo_X11_indexOf : qz_ok 187 := qz_ok_of qo_X11_indexOf_0
theorem qo_X11_isDay_0 : pc_X11_isDay_0.all (fun q => qz_ok1 188 q && qz_ok2 188 q) = true := by decide +kernel
theorem qo_X11_isDay : qz_ok 188 := qz_ok_of qo_X11_isDay_0
theorem qo_X11_isSpan_0 : pc_X11_isSpan_0.all (fun q => qz_ok1 189 q && qz_ok2 189 q) = true := by decide +kernel
theorem qo_X11_isSpan : qz_ok 189 := qz_ok_of qo_X11_isSpan_0
theorem qo_X11_isLand_0 : pc_X11_isLand_0.all (fun q => qz_ok1 190 q && qz_ok2 190 q) = true := by decide +kernel
theorem qo_X11_isLand : qz_ok 190 := qz_ok_of qo_X11_isLand_0
theorem qo_X11_isKind_0 : pc_X11_isKind_0.all (fun q => qz_ok1 191 q && qz_ok2 191 q) = true := by decide +kernel
theorem qo_X11_isKind : qz_ok 191 := qz_ok_of qo_X11_isKind_0
theorem qo_X11_isSource_0 : pc_X11_isSource_0.all (fun q => qz_ok1 192 q && qz_ok2 192 q) = true := by decide +kernel
theorem qo_X11_isSource : qz_ok 192 := qz_ok_of qo_X11_isSource_0
theorem qo_X11_asNumber_0 : pc_X11_asNumber_0.all (fun q => qz_ok1 193 q && qz_ok2 193 q) = true := by decide +kernel
theorem qo_X11_asNumber : qz_ok 193 := qz_ok_of qo_X11_asNumber_0
theorem qo_X11_isTellable_0 : pc_X11_isTellable_0.all (fun q => qz_ok1 194 q && qz_ok2 194 q) = true := by decide +kernel
theorem qo_X11_isTellable : qz_ok 194 := qz_ok_of qo_X11_isTellable_0
theorem qo_X11_isCase_0 : pc_X11_isCase_0.all (fun q => qz_ok1 195 q && qz_ok2 195 q) = true := by decide +kernel
theorem qo_X11_isCase : qz_ok 195 := qz_ok_of qo_X11_isCase_0
theorem qo_X12_in_0 : pc_X12_in_0.all (fun q => qz_ok1 197 q && qz_ok2 197 q) = true := by decide +kernel
theorem qo_X12_in : qz_ok 197 := qz_ok_of qo_X12_in_0
theorem qo_X12_isDay_0 : pc_X12_isDay_0.all (fun q => qz_ok1 198 q && qz_ok2 198 q) = true := by decide +kernel
theorem qo_X12_isDay : qz_ok 198 := qz_ok_of qo_X12_isDay_0
theorem qo_X12_isLand_0 : pc_X12_isLand_0.all (fun q => qz_ok1 199 q && qz_ok2 199 q) = true := by decide +kernel
theorem qo_X12_isLand : qz_ok 199 := qz_ok_of qo_X12_isLand_0
theorem qo_X12_now_0 : pc_X12_now_0.all (fun q => qz_ok1 200 q && qz_ok2 200 q) = true := by decide +kernel
theorem qo_X12_now : qz_ok 200 := qz_ok_of qo_X12_now_0
theorem qo_X12_isOwner_0 : pc_X12_isOwner_0.all (fun q => qz_ok1 201 q && qz_ok2 201 q) = true := by decide +kernel
theorem qo_X12_isOwner : qz_ok 201 := qz_ok_of qo_X12_isOwner_0
theorem qo_X12_isWork_0 : pc_X12_isWork_0.all (fun q => qz_ok1 202 q && qz_ok2 202 q) = true := by decide +kernel
theorem qo_X12_isWork : qz_ok 202 := qz_ok_of qo_X12_isWork_0
theorem qo_X12_owner_0 : pc_X12_owner_0.all (fun q => qz_ok1 203 q && qz_ok2 203 q) = true := by decide +kernel
theorem qo_X12_owner : qz_ok 203 := qz_ok_of qo_X12_owner_0
theorem qo_X12_died_0 : pc_X12_died_0.all (fun q => qz_ok1 204 q && qz_ok2 204 q) = true := by decide +kernel
theorem qo_X12_died : qz_ok 204 := qz_ok_of qo_X12_died_0
theorem qo_X12_deathBy_0 : pc_X12_deathBy_0.all (fun q => qz_ok1 205 q && qz_ok2 205 q) = true := by decide +kernel
theorem qo_X12_deathBy : qz_ok 205 := qz_ok_of qo_X12_deathBy_0
theorem qo_X12_merge_0 : pc_X12_merge_0.all (fun q => qz_ok1 206 q && qz_ok2 206 q) = true := by decide +kernel
theorem qo_X12_merge_1 : pc_X12_merge_1.all (fun q => qz_ok1 206 q && qz_ok2 206 q) = true := by decide +kernel
theorem qo_X12_merge : qz_ok 206 := qz_ok_of (cd := pc_X12_merge_0 ++ pc_X12_merge_1) (by simp only [List.all_append, Bool.and_eq_true]; exact ⟨qo_X12_merge_0, qo_X12_merge_1⟩)
theorem qo_X12_heldBy_0 : pc_X12_heldBy_0.all (fun q => qz_ok1 207 q && qz_ok2 207 q) = true := by decide +kernel
theorem qo_X12_heldBy : qz_ok 207 := qz_ok_of qo_X12_heldBy_0
theorem qo_X12_work_0 : pc_X12_work_0.all (fun q => qz_ok1 208 q && qz_ok2 208 q) = true := by decide +kernel
theorem qo_X12_work_1 : pc_X12_work_1.all (fun q => qz_ok1 208 q && qz_ok2 208 q) = true := by decide +kernel
theorem qo_X12_work : qz_ok 208 := qz_ok_of (cd := pc_X12_work_0 ++ pc_X12_work_1) (by simp only [List.all_append, Bool.and_eq_true]; exact ⟨qo_X12_work_0, qo_X12_work_1⟩)
theorem qo_X12_share_0 : pc_X12_share_0.all (fun q => qz_ok1 209 q && qz_ok2 209 q) = true := by decide +kernel
theorem qo_X12_share_1 : pc_X12_share_1.all (fun q => qz_ok1 209 q && qz_ok2 209 q) = true := by decide +kernel
theorem qo_X12_share : qz_ok 209 := qz_ok_of (cd := pc_X12_share_0 ++ pc_X12_share_1) (by simp only [List.all_append, Bool.and_eq_true]; exact ⟨qo_X12_share_0, qo_X12_share_1⟩)
theorem qo_X12_holderOf_0 : pc_X12_holderOf_0.all (fun q => qz_ok1 210 q && qz_ok2 210 q) = true := by decide +kernel
theorem qo_X12_holderOf : qz_ok 210 := qz_ok_of qo_X12_holderOf_0
theorem qo_X12_holds_0 : pc_X12_holds_0.all (fun q => qz_ok1 211 q && qz_ok2 211 q) = true := by decide +kernel
theorem qo_X12_holds : qz_ok 211 := qz_ok_of qo_X12_holds_0
theorem qo_X12_types_0 : pc_X12_types_0.all (fun q => qz_ok1 212 q && qz_ok2 212 q) = true := by decide +kernel
theorem qo_X12_types : qz_ok 212 := qz_ok_of qo_X12_types_0
theorem qo_X12_feed_0 : pc_X12_feed_0.all (fun q => qz_ok1 213 q && qz_ok2 213 q) = true := by decide +kernel
theorem qo_X12_feed : qz_ok 213 := qz_ok_of qo_X12_feed_0
theorem qo_X12_sign_0 : pc_X12_sign_0.all (fun q => qz_ok1 214 q && qz_ok2 214 q) = true := by decide +kernel
theorem qo_X12_sign : qz_ok 214 := qz_ok_of qo_X12_sign_0
theorem qo_X12_isDigit_0 : pc_X12_isDigit_0.all (fun q => qz_ok1 215 q && qz_ok2 215 q) = true := by decide +kernel
theorem qo_X12_isDigit : qz_ok 215 := qz_ok_of qo_X12_isDigit_0
theorem qo_X12_wrong_0 : pc_X12_wrong_0.all (fun q => qz_ok1 216 q && qz_ok2 216 q) = true := by decide +kernel
theorem qo_X12_wrong : qz_ok 216 := qz_ok_of qo_X12_wrong_0
theorem qo_X12_takes_0 : pc_X12_takes_0.all (fun q => qz_ok1 217 q && qz_ok2 217 q) = true := by decide +kernel
theorem qo_X12_takes : qz_ok 217 := qz_ok_of qo_X12_takes_0
theorem qo_X12_readsNumber_0 : pc_X12_readsNumber_0.all (fun q => qz_ok1 218 q && qz_ok2 218 q) = true := by decide +kernel
theorem qo_X12_readsNumber_1 : pc_X12_readsNumber_1.all (fun q => qz_ok1 218 q && qz_ok2 218 q) = true := by decide +kernel
theorem qo_X12_readsNumber : qz_ok 218 := qz_ok_of (cd := pc_X12_readsNumber_0 ++ pc_X12_readsNumber_1) (by simp only [List.all_append, Bool.and_eq_true]; exact ⟨qo_X12_readsNumber_0, qo_X12_readsNumber_1⟩)
theorem qo_X12_says_0 : pc_X12_says_0.all (fun q => qz_ok1 219 q && qz_ok2 219 q) = true := by decide +kernel
theorem qo_X12_says : qz_ok 219 := qz_ok_of qo_X12_says_0
theorem qo_X12_opens_0 : pc_X12_opens_0.all (fun q => qz_ok1 220 q && qz_ok2 220 q) = true := by decide +kernel
theorem qo_X12_opens : qz_ok 220 := qz_ok_of qo_X12_opens_0
theorem qo_X12_top_0 : pc_X12_top_0.all (fun q => qz_ok1 221 q && qz_ok2 221 q) = true := by decide +kernel
theorem qo_X12_top : qz_ok 221 := qz_ok_of qo_X12_top_0
theorem qo_X12_factOf_0 : pc_X12_factOf_0.all (fun q => qz_ok1 222 q && qz_ok2 222 q) = true := by decide +kernel
theorem qo_X12_factOf : qz_ok 222 := qz_ok_of qo_X12_factOf_0
theorem qo_X12_sumSign_0 : pc_X12_sumSign_0.all (fun q => qz_ok1 223 q && qz_ok2 223 q) = true := by decide +kernel
theorem qo_X12_sumSign : qz_ok 223 := qz_ok_of qo_X12_sumSign_0
theorem qo_X12_closesSums_0 : pc_X12_closesSums_0.all (fun q => qz_ok1 224 q && qz_ok2 224 q) = true := by decide +kernel
theorem qo_X12_closesSums : qz_ok 224 := qz_ok_of qo_X12_closesSums_0
theorem qo_X12_readsFactor_0 : pc_X12_readsFactor_0.all (fun q => qz_ok1 225 q && qz_ok2 225 q) = true := by decide +kernel
theorem qo_X12_readsFactor : qz_ok 225 := qz_ok_of qo_X12_readsFactor_0
theorem qo_X12_hasOpenSum_0 : pc_X12_hasOpenSum_0.all (fun q => qz_ok1 226 q && qz_ok2 226 q) = true := by decide +kernel
theorem qo_X12_hasOpenSum : qz_ok 226 := qz_ok_of qo_X12_hasOpenSum_0
theorem qo_X12_readsSum_0 : pc_X12_readsSum_0.all (fun q => qz_ok1 227 q && qz_ok2 227 q) = true := by decide +kernel
theorem qo_X12_readsSum_1 : pc_X12_readsSum_1.all (fun q => qz_ok1 227 q && qz_ok2 227 q) = true := by decide +kernel
theorem qo_X12_readsSum : qz_ok 227 := qz_ok_of (cd := pc_X12_readsSum_0 ++ pc_X12_readsSum_1) (by simp only [List.all_append, Bool.and_eq_true]; exact ⟨qo_X12_readsSum_0, qo_X12_readsSum_1⟩)
theorem qo_X12_endsPiece_0 : pc_X12_endsPiece_0.all (fun q => qz_ok1 228 q && qz_ok2 228 q) = true := by decide +kernel
theorem qo_X12_endsPiece : qz_ok 228 := qz_ok_of qo_X12_endsPiece_0
theorem qo_X12_lands_0 : pc_X12_lands_0.all (fun q => qz_ok1 229 q && qz_ok2 229 q) = true := by decide +kernel
theorem qo_X12_lands : qz_ok 229 := qz_ok_of qo_X12_lands_0
theorem qo_X12_jumps_0 : pc_X12_jumps_0.all (fun q => qz_ok1 230 q && qz_ok2 230 q) = true := by decide +kernel
theorem qo_X12_jumps : qz_ok 230 := qz_ok_of qo_X12_jumps_0
theorem qo_X12_readsCompared_0 : pc_X12_readsCompared_0.all (fun q => qz_ok1 231 q && qz_ok2 231 q) = true := by decide +kernel
theorem qo_X12_readsCompared : qz_ok 231 := qz_ok_of qo_X12_readsCompared_0
theorem qo_X12_readsCondition_0 : pc_X12_readsCondition_0.all (fun q => qz_ok1 232 q && qz_ok2 232 q) = true := by decide +kernel
theorem qo_X12_readsCondition_1 : pc_X12_readsCondition_1.all (fun q => qz_ok1 232 q && qz_ok2 232 q) = true := by decide +kernel
theorem qo_X12_readsCondition : qz_ok 232 := qz_ok_of (cd := pc_X12_readsCondition_0 ++ pc_X12_readsCondition_1) (by simp only [List.all_append, Bool.and_eq_true]; exact ⟨qo_X12_readsCondition_0, qo_X12_readsCondition_1⟩)
theorem qo_X12_isLetter_0 : pc_X12_isLetter_0.all (fun q => qz_ok1 233 q && qz_ok2 233 q) = true := by decide +kernel
theorem qo_X12_isLetter : qz_ok 233 := qz_ok_of qo_X12_isLetter_0
theorem qo_X12_mostOf_0 : pc_X12_mostOf_0.all (fun q => qz_ok1 234 q && qz_ok2 234 q) = true := by decide +kernel
theorem qo_X12_mostOf : qz_ok 234 := qz_ok_of qo_X12_mostOf_0
theorem qo_X12_readsClause_0 : pc_X12_readsClause_0.all (fun q => qz_ok1 235 q && qz_ok2 235 q) = true := by decide +kernel
theorem qo_X12_readsClause_1 : pc_X12_readsClause_1.all (fun q => qz_ok1 235 q && qz_ok2 235 q) = true := by decide +kernel
theorem qo_X12_readsClause : qz_ok 235 := qz_ok_of (cd := pc_X12_readsClause_0 ++ pc_X12_readsClause_1) (by simp only [List.all_append, Bool.and_eq_true]; exact ⟨qo_X12_readsClause_0, qo_X12_readsClause_1⟩)
theorem qo_X12_law_0 : pc_X12_law_0.all (fun q => qz_ok1 236 q && qz_ok2 236 q) = true := by decide +kernel
theorem qo_X12_law_1 : pc_X12_law_1.all (fun q => qz_ok1 236 q && qz_ok2 236 q) = true := by decide +kernel
theorem qo_X12_law_2 : pc_X12_law_2.all (fun q => qz_ok1 236 q && qz_ok2 236 q) = true := by decide +kernel
theorem qo_X12_law_3 : pc_X12_law_3.all (fun q => qz_ok1 236 q && qz_ok2 236 q) = true := by decide +kernel
theorem qo_X12_law : qz_ok 236 := qz_ok_of (cd := pc_X12_law_0 ++ pc_X12_law_1 ++ pc_X12_law_2 ++ pc_X12_law_3) (by simp only [List.all_append, Bool.and_eq_true]; exact ⟨⟨⟨qo_X12_law_0, qo_X12_law_1⟩, qo_X12_law_2⟩, qo_X12_law_3⟩)
theorem qo_X12_isLaw_0 : pc_X12_isLaw_0.all (fun q => qz_ok1 237 q && qz_ok2 237 q) = true := by decide +kernel
theorem qo_X12_isLaw : qz_ok 237 := qz_ok_of qo_X12_isLaw_0
