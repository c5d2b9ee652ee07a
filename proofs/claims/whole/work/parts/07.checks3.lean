theorem qo_X12_strikes_0 : pc_X12_strikes_0.all (fun q => qz_ok1 238 q && qz_ok2 238 q) = true := by decide +kernel
theorem qo_X12_strikes_1 : pc_X12_strikes_1.all (fun q => qz_ok1 238 q && qz_ok2 238 q) = true := by decide +kernel
theorem qo_X12_strikes : qz_ok 238 := qz_ok_of (cd := pc_X12_strikes_0 ++ pc_X12_strikes_1) (by simp only [List.all_append, Bool.and_eq_true]; exact ⟨qo_X12_strikes_0, qo_X12_strikes_1⟩)
theorem qo_X12_setsFacts_0 : pc_X12_setsFacts_0.all (fun q => qz_ok1 239 q && qz_ok2 239 q) = true := by decide +kernel
theorem qo_X12_setsFacts_1 : pc_X12_setsFacts_1.all (fun q => qz_ok1 239 q && qz_ok2 239 q) = true := by decide +kernel
theorem qo_X12_setsFacts : qz_ok 239 := qz_ok_of (cd := pc_X12_setsFacts_0 ++ pc_X12_setsFacts_1) (by simp only [List.all_append, Bool.and_eq_true]; exact ⟨qo_X12_setsFacts_0, qo_X12_setsFacts_1⟩)
theorem qo_X12_reckon_0 : pc_X12_reckon_0.all (fun q => qz_ok1 240 q && qz_ok2 240 q) = true := by decide +kernel
theorem qo_X12_reckon : qz_ok 240 := qz_ok_of qo_X12_reckon_0
theorem qo_X12_isTrue_0 : pc_X12_isTrue_0.all (fun q => qz_ok1 241 q && qz_ok2 241 q) = true := by decide +kernel
theorem qo_X12_isTrue_1 : pc_X12_isTrue_1.all (fun q => qz_ok1 241 q && qz_ok2 241 q) = true := by decide +kernel
theorem qo_X12_isTrue_2 : pc_X12_isTrue_2.all (fun q => qz_ok1 241 q && qz_ok2 241 q) = true := by decide +kernel
theorem qo_X12_isTrue : qz_ok 241 := qz_ok_of (cd := pc_X12_isTrue_0 ++ pc_X12_isTrue_1 ++ pc_X12_isTrue_2) (by simp only [List.all_append, Bool.and_eq_true]; exact ⟨⟨qo_X12_isTrue_0, qo_X12_isTrue_1⟩, qo_X12_isTrue_2⟩)
theorem qo_X12_numberBy_0 : pc_X12_numberBy_0.all (fun q => qz_ok1 242 q && qz_ok2 242 q) = true := by decide +kernel
theorem qo_X12_numberBy_1 : pc_X12_numberBy_1.all (fun q => qz_ok1 242 q && qz_ok2 242 q) = true := by decide +kernel
theorem qo_X12_numberBy : qz_ok 242 := qz_ok_of (cd := pc_X12_numberBy_0 ++ pc_X12_numberBy_1) (by simp only [List.all_append, Bool.and_eq_true]; exact ⟨qo_X12_numberBy_0, qo_X12_numberBy_1⟩)
theorem qo_X12_bitsBy_0 : pc_X12_bitsBy_0.all (fun q => qz_ok1 243 q && qz_ok2 243 q) = true := by decide +kernel
theorem qo_X12_bitsBy_1 : pc_X12_bitsBy_1.all (fun q => qz_ok1 243 q && qz_ok2 243 q) = true := by decide +kernel
theorem qo_X12_bitsBy : qz_ok 243 := qz_ok_of (cd := pc_X12_bitsBy_0 ++ pc_X12_bitsBy_1) (by simp only [List.all_append, Bool.and_eq_true]; exact ⟨qo_X12_bitsBy_0, qo_X12_bitsBy_1⟩)
theorem qo_X12_orNothing_0 : pc_X12_orNothing_0.all (fun q => qz_ok1 244 q && qz_ok2 244 q) = true := by decide +kernel
theorem qo_X12_orNothing : qz_ok 244 := qz_ok_of qo_X12_orNothing_0
theorem qo_X12_isAsked_0 : pc_X12_isAsked_0.all (fun q => qz_ok1 245 q && qz_ok2 245 q) = true := by decide +kernel
theorem qo_X12_isAsked : qz_ok 245 := qz_ok_of qo_X12_isAsked_0
theorem qo_X12_number_0 : pc_X12_number_0.all (fun q => qz_ok1 246 q && qz_ok2 246 q) = true := by decide +kernel
theorem qo_X12_number_1 : pc_X12_number_1.all (fun q => qz_ok1 246 q && qz_ok2 246 q) = true := by decide +kernel
theorem qo_X12_number : qz_ok 246 := qz_ok_of (cd := pc_X12_number_0 ++ pc_X12_number_1) (by simp only [List.all_append, Bool.and_eq_true]; exact ⟨qo_X12_number_0, qo_X12_number_1⟩)
theorem qo_X12_termOf_0 : pc_X12_termOf_0.all (fun q => qz_ok1 247 q && qz_ok2 247 q) = true := by decide +kernel
theorem qo_X12_termOf_1 : pc_X12_termOf_1.all (fun q => qz_ok1 247 q && qz_ok2 247 q) = true := by decide +kernel
theorem qo_X12_termOf : qz_ok 247 := qz_ok_of (cd := pc_X12_termOf_0 ++ pc_X12_termOf_1) (by simp only [List.all_append, Bool.and_eq_true]; exact ⟨qo_X12_termOf_0, qo_X12_termOf_1⟩)
theorem qo_X12_term_0 : pc_X12_term_0.all (fun q => qz_ok1 248 q && qz_ok2 248 q) = true := by decide +kernel
theorem qo_X12_term : qz_ok 248 := qz_ok_of qo_X12_term_0
theorem qo_X12_freeOf_0 : pc_X12_freeOf_0.all (fun q => qz_ok1 249 q && qz_ok2 249 q) = true := by decide +kernel
theorem qo_X12_freeOf : qz_ok 249 := qz_ok_of qo_X12_freeOf_0
theorem qo_X12_free_0 : pc_X12_free_0.all (fun q => qz_ok1 250 q && qz_ok2 250 q) = true := by decide +kernel
theorem qo_X12_free : qz_ok 250 := qz_ok_of qo_X12_free_0
theorem qo_X12_isSource_0 : pc_X12_isSource_0.all (fun q => qz_ok1 251 q && qz_ok2 251 q) = true := by decide +kernel
theorem qo_X12_isSource : qz_ok 251 := qz_ok_of qo_X12_isSource_0
theorem qo_X12_source_0 : pc_X12_source_0.all (fun q => qz_ok1 252 q && qz_ok2 252 q) = true := by decide +kernel
theorem qo_X12_source : qz_ok 252 := qz_ok_of qo_X12_source_0
theorem qo_X12_chance_0 : pc_X12_chance_0.all (fun q => qz_ok1 253 q && qz_ok2 253 q) = true := by decide +kernel
theorem qo_X12_chance : qz_ok 253 := qz_ok_of qo_X12_chance_0
theorem qo_X12_hasShare_0 : pc_X12_hasShare_0.all (fun q => qz_ok1 254 q && qz_ok2 254 q) = true := by decide +kernel
theorem qo_X12_hasShare : qz_ok 254 := qz_ok_of qo_X12_hasShare_0
theorem qo_X12_look_0 : pc_X12_look_0.all (fun q => qz_ok1 255 q && qz_ok2 255 q) = true := by decide +kernel
theorem qo_X12_look_1 : pc_X12_look_1.all (fun q => qz_ok1 255 q && qz_ok2 255 q) = true := by decide +kernel
theorem qo_X12_look : qz_ok 255 := qz_ok_of (cd := pc_X12_look_0 ++ pc_X12_look_1) (by simp only [List.all_append, Bool.and_eq_true]; exact ⟨qo_X12_look_0, qo_X12_look_1⟩)
theorem qo_X12_letter_0 : pc_X12_letter_0.all (fun q => qz_ok1 256 q && qz_ok2 256 q) = true := by decide +kernel
theorem qo_X12_letter : qz_ok 256 := qz_ok_of qo_X12_letter_0
theorem qo_X12_answer_0 : pc_X12_answer_0.all (fun q => qz_ok1 257 q && qz_ok2 257 q) = true := by decide +kernel
theorem qo_X12_answer : qz_ok 257 := qz_ok_of qo_X12_answer_0
theorem qo_X12_isBy_0 : pc_X12_isBy_0.all (fun q => qz_ok1 258 q && qz_ok2 258 q) = true := by decide +kernel
theorem qo_X12_isBy : qz_ok 258 := qz_ok_of qo_X12_isBy_0
theorem qo_X12_isFound_0 : pc_X12_isFound_0.all (fun q => qz_ok1 259 q && qz_ok2 259 q) = true := by decide +kernel
theorem qo_X12_isFound_1 : pc_X12_isFound_1.all (fun q => qz_ok1 259 q && qz_ok2 259 q) = true := by decide +kernel
theorem qo_X12_isFound : qz_ok 259 := qz_ok_of (cd := pc_X12_isFound_0 ++ pc_X12_isFound_1) (by simp only [List.all_append, Bool.and_eq_true]; exact ⟨qo_X12_isFound_0, qo_X12_isFound_1⟩)
theorem qo_X12_found_0 : pc_X12_found_0.all (fun q => qz_ok1 260 q && qz_ok2 260 q) = true := by decide +kernel
theorem qo_X12_found : qz_ok 260 := qz_ok_of qo_X12_found_0
theorem qo_X12_isLooked_0 : pc_X12_isLooked_0.all (fun q => qz_ok1 261 q && qz_ok2 261 q) = true := by decide +kernel
theorem qo_X12_isLooked : qz_ok 261 := qz_ok_of qo_X12_isLooked_0
theorem qo_X12_isWritten_0 : pc_X12_isWritten_0.all (fun q => qz_ok1 262 q && qz_ok2 262 q) = true := by decide +kernel
theorem qo_X12_isWritten : qz_ok 262 := qz_ok_of qo_X12_isWritten_0
theorem qo_X12_lacksOf_0 : pc_X12_lacksOf_0.all (fun q => qz_ok1 263 q && qz_ok2 263 q) = true := by decide +kernel
theorem qo_X12_lacksOf_1 : pc_X12_lacksOf_1.all (fun q => qz_ok1 263 q && qz_ok2 263 q) = true := by decide +kernel
theorem qo_X12_lacksOf : qz_ok 263 := qz_ok_of (cd := pc_X12_lacksOf_0 ++ pc_X12_lacksOf_1) (by simp only [List.all_append, Bool.and_eq_true]; exact ⟨qo_X12_lacksOf_0, qo_X12_lacksOf_1⟩)
theorem qo_X12_isEnough_0 : pc_X12_isEnough_0.all (fun q => qz_ok1 264 q && qz_ok2 264 q) = true := by decide +kernel
theorem qo_X12_isEnough : qz_ok 264 := qz_ok_of qo_X12_isEnough_0
theorem qo_X12_enough_0 : pc_X12_enough_0.all (fun q => qz_ok1 265 q && qz_ok2 265 q) = true := by decide +kernel
theorem qo_X12_enough : qz_ok 265 := qz_ok_of qo_X12_enough_0
theorem qo_X12_why_0 : pc_X12_why_0.all (fun q => qz_ok1 266 q && qz_ok2 266 q) = true := by decide +kernel
theorem qo_X12_why : qz_ok 266 := qz_ok_of qo_X12_why_0
theorem qo_X12_nobody_0 : pc_X12_nobody_0.all (fun q => qz_ok1 267 q && qz_ok2 267 q) = true := by decide +kernel
theorem qo_X12_nobody : qz_ok 267 := qz_ok_of qo_X12_nobody_0
theorem qo_X12_hasAgreed_0 : pc_X12_hasAgreed_0.all (fun q => qz_ok1 268 q && qz_ok2 268 q) = true := by decide +kernel
theorem qo_X12_hasAgreed : qz_ok 268 := qz_ok_of qo_X12_hasAgreed_0
theorem qo_X12_agree_0 : pc_X12_agree_0.all (fun q => qz_ok1 269 q && qz_ok2 269 q) = true := by decide +kernel
theorem qo_X12_agree : qz_ok 269 := qz_ok_of qo_X12_agree_0
theorem qo_X12_allAgreed_0 : pc_X12_allAgreed_0.all (fun q => qz_ok1 270 q && qz_ok2 270 q) = true := by decide +kernel
theorem qo_X12_allAgreed : qz_ok 270 := qz_ok_of qo_X12_allAgreed_0
theorem qo_X12_ask_0 : pc_X12_ask_0.all (fun q => qz_ok1 271 q && qz_ok2 271 q) = true := by decide +kernel
theorem qo_X12_ask_1 : pc_X12_ask_1.all (fun q => qz_ok1 271 q && qz_ok2 271 q) = true := by decide +kernel
theorem qo_X12_ask_2 : pc_X12_ask_2.all (fun q => qz_ok1 271 q && qz_ok2 271 q) = true := by decide +kernel
theorem qo_X12_ask : qz_ok 271 := qz_ok_of (cd := pc_X12_ask_0 ++ pc_X12_ask_1 ++ pc_X12_ask_2) (by simp only [List.all_append, Bool.and_eq_true]; exact ⟨⟨qo_X12_ask_0, qo_X12_ask_1⟩, qo_X12_ask_2⟩)
theorem qo_X12_isLeave_0 : pc_X12_isLeave_0.all (fun q => qz_ok1 272 q && qz_ok2 272 q) = true := by decide +kernel
theorem qo_X12_isLeave : qz_ok 272 := qz_ok_of qo_X12_isLeave_0
theorem qo_X12_uses_0 : pc_X12_uses_0.all (fun q => qz_ok1 273 q && qz_ok2 273 q) = true := by decide +kernel
theorem qo_X12_uses_1 : pc_X12_uses_1.all (fun q => qz_ok1 273 q && qz_ok2 273 q) = true := by decide +kernel
theorem qo_X12_uses : qz_ok 273 := qz_ok_of (cd := pc_X12_uses_0 ++ pc_X12_uses_1) (by simp only [List.all_append, Bool.and_eq_true]; exact ⟨qo_X12_uses_0, qo_X12_uses_1⟩)
theorem qo_X12_partsHeld_0 : pc_X12_partsHeld_0.all (fun q => qz_ok1 274 q && qz_ok2 274 q) = true := by decide +kernel
theorem qo_X12_partsHeld : qz_ok 274 := qz_ok_of qo_X12_partsHeld_0
theorem qo_X12_comes_0 : pc_X12_comes_0.all (fun q => qz_ok1 275 q && qz_ok2 275 q) = true := by decide +kernel
theorem qo_X12_comes_1 : pc_X12_comes_1.all (fun q => qz_ok1 275 q && qz_ok2 275 q) = true := by decide +kernel
theorem qo_X12_comes : qz_ok 275 := qz_ok_of (cd := pc_X12_comes_0 ++ pc_X12_comes_1) (by simp only [List.all_append, Bool.and_eq_true]; exact ⟨qo_X12_comes_0, qo_X12_comes_1⟩)
theorem qo_X12_paid_0 : pc_X12_paid_0.all (fun q => qz_ok1 276 q && qz_ok2 276 q) = true := by decide +kernel
theorem qo_X12_paid_1 : pc_X12_paid_1.all (fun q => qz_ok1 276 q && qz_ok2 276 q) = true := by decide +kernel
theorem qo_X12_paid : qz_ok 276 := qz_ok_of (cd := pc_X12_paid_0 ++ pc_X12_paid_1) (by simp only [List.all_append, Bool.and_eq_true]; exact ⟨qo_X12_paid_0, qo_X12_paid_1⟩)
theorem qo_X12_setsRow_0 : pc_X12_setsRow_0.all (fun q => qz_ok1 277 q && qz_ok2 277 q) = true := by decide +kernel
theorem qo_X12_setsRow_1 : pc_X12_setsRow_1.all (fun q => qz_ok1 277 q && qz_ok2 277 q) = true := by decide +kernel
theorem qo_X12_setsRow : qz_ok 277 := qz_ok_of (cd := pc_X12_setsRow_0 ++ pc_X12_setsRow_1) (by simp only [List.all_append, Bool.and_eq_true]; exact ⟨qo_X12_setsRow_0, qo_X12_setsRow_1⟩)
theorem qo_X12_expected_0 : pc_X12_expected_0.all (fun q => qz_ok1 278 q && qz_ok2 278 q) = true := by decide +kernel
theorem qo_X12_expected : qz_ok 278 := qz_ok_of qo_X12_expected_0
theorem qo_X12_swaps_0 : pc_X12_swaps_0.all (fun q => qz_ok1 279 q && qz_ok2 279 q) = true := by decide +kernel
theorem qo_X12_swaps : qz_ok 279 := qz_ok_of qo_X12_swaps_0
theorem qo_X12_nextRow_0 : pc_X12_nextRow_0.all (fun q => qz_ok1 280 q && qz_ok2 280 q) = true := by decide +kernel
theorem qo_X12_nextRow_1 : pc_X12_nextRow_1.all (fun q => qz_ok1 280 q && qz_ok2 280 q) = true := by decide +kernel
theorem qo_X12_nextRow : qz_ok 280 := qz_ok_of (cd := pc_X12_nextRow_0 ++ pc_X12_nextRow_1) (by simp only [List.all_append, Bool.and_eq_true]; exact ⟨qo_X12_nextRow_0, qo_X12_nextRow_1⟩)
theorem qo_X12_cheapest_0 : pc_X12_cheapest_0.all (fun q => qz_ok1 281 q && qz_ok2 281 q) = true := by decide +kernel
theorem qo_X12_cheapest_1 : pc_X12_cheapest_1.all (fun q => qz_ok1 281 q && qz_ok2 281 q) = true := by decide +kernel
theorem qo_X12_cheapest : qz_ok 281 := qz_ok_of (cd := pc_X12_cheapest_0 ++ pc_X12_cheapest_1) (by simp only [List.all_append, Bool.and_eq_true]; exact ⟨qo_X12_cheapest_0, qo_X12_cheapest_1⟩)
