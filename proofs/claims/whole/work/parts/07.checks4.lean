theorem qo_X12_judge_0 : pc_X12_judge_0.all (fun q => qz_ok1 282 q && qz_ok2 282 q) = true := by decide +kernel
theorem qo_X12_judge_1 : pc_X12_judge_1.all (fun q => qz_ok1 282 q && qz_ok2 282 q) = true := by decide +kernel
theorem qo_X12_judge : qz_ok 282 := qz_ok_of (cd := pc_X12_judge_0 ++ pc_X12_judge_1) (by simp only [List.all_append, Bool.and_eq_true]; exact ⟨qo_X12_judge_0, qo_X12_judge_1⟩)
theorem qo_X12_isLike_0 : pc_X12_isLike_0.all (fun q => qz_ok1 283 q && qz_ok2 283 q) = true := by decide +kernel
theorem qo_X12_isLike : qz_ok 283 := qz_ok_of qo_X12_isLike_0
theorem qo_X12_like_0 : pc_X12_like_0.all (fun q => qz_ok1 284 q && qz_ok2 284 q) = true := by decide +kernel
theorem qo_X12_like : qz_ok 284 := qz_ok_of qo_X12_like_0
theorem qo_X12_list_0 : pc_X12_list_0.all (fun q => qz_ok1 285 q && qz_ok2 285 q) = true := by decide +kernel
theorem qo_X12_list : qz_ok 285 := qz_ok_of qo_X12_list_0
theorem qo_X12_joined_0 : pc_X12_joined_0.all (fun q => qz_ok1 286 q && qz_ok2 286 q) = true := by decide +kernel
theorem qo_X12_joined_1 : pc_X12_joined_1.all (fun q => qz_ok1 286 q && qz_ok2 286 q) = true := by decide +kernel
theorem qo_X12_joined : qz_ok 286 := qz_ok_of (cd := pc_X12_joined_0 ++ pc_X12_joined_1) (by simp only [List.all_append, Bool.and_eq_true]; exact ⟨qo_X12_joined_0, qo_X12_joined_1⟩)
theorem qo_X12_leaveAt_0 : pc_X12_leaveAt_0.all (fun q => qz_ok1 287 q && qz_ok2 287 q) = true := by decide +kernel
theorem qo_X12_leaveAt : qz_ok 287 := qz_ok_of qo_X12_leaveAt_0
theorem qo_X12_isWrong_0 : pc_X12_isWrong_0.all (fun q => qz_ok1 288 q && qz_ok2 288 q) = true := by decide +kernel
theorem qo_X12_isWrong : qz_ok 288 := qz_ok_of qo_X12_isWrong_0
theorem qo_X12_audit_0 : pc_X12_audit_0.all (fun q => qz_ok1 289 q && qz_ok2 289 q) = true := by decide +kernel
theorem qo_X12_audit_1 : pc_X12_audit_1.all (fun q => qz_ok1 289 q && qz_ok2 289 q) = true := by decide +kernel
theorem qo_X12_audit_2 : pc_X12_audit_2.all (fun q => qz_ok1 289 q && qz_ok2 289 q) = true := by decide +kernel
theorem qo_X12_audit : qz_ok 289 := qz_ok_of (cd := pc_X12_audit_0 ++ pc_X12_audit_1 ++ pc_X12_audit_2) (by simp only [List.all_append, Bool.and_eq_true]; exact ⟨⟨qo_X12_audit_0, qo_X12_audit_1⟩, qo_X12_audit_2⟩)
theorem qo_X12_shown_0 : pc_X12_shown_0.all (fun q => qz_ok1 290 q && qz_ok2 290 q) = true := by decide +kernel
theorem qo_X12_shown_1 : pc_X12_shown_1.all (fun q => qz_ok1 290 q && qz_ok2 290 q) = true := by decide +kernel
theorem qo_X12_shown : qz_ok 290 := qz_ok_of (cd := pc_X12_shown_0 ++ pc_X12_shown_1) (by simp only [List.all_append, Bool.and_eq_true]; exact ⟨qo_X12_shown_0, qo_X12_shown_1⟩)
theorem qo_X12_leave_0 : pc_X12_leave_0.all (fun q => qz_ok1 291 q && qz_ok2 291 q) = true := by decide +kernel
theorem qo_X12_leave : qz_ok 291 := qz_ok_of qo_X12_leave_0
theorem qo_X12_listedBy_0 : pc_X12_listedBy_0.all (fun q => qz_ok1 292 q && qz_ok2 292 q) = true := by decide +kernel
theorem qo_X12_listedBy : qz_ok 292 := qz_ok_of qo_X12_listedBy_0
theorem qo_X12_count_0 : pc_X12_count_0.all (fun q => qz_ok1 293 q && qz_ok2 293 q) = true := by decide +kernel
theorem qo_X12_count_1 : pc_X12_count_1.all (fun q => qz_ok1 293 q && qz_ok2 293 q) = true := by decide +kernel
theorem qo_X12_count : qz_ok 293 := qz_ok_of (cd := pc_X12_count_0 ++ pc_X12_count_1) (by simp only [List.all_append, Bool.and_eq_true]; exact ⟨qo_X12_count_0, qo_X12_count_1⟩)
theorem qo_J6_bitCount_0f7a4_0 : pc_J6_bitCount_0f7a4_0.all (fun q => qz_ok1 294 q && qz_ok2 294 q) = true := by decide +kernel
theorem qo_J6_bitCount_0f7a4 : qz_ok 294 := qz_ok_of qo_J6_bitCount_0f7a4_0
theorem qo_J9_max_7cf53_0 : pc_J9_max_7cf53_0.all (fun q => qz_ok1 295 q && qz_ok2 295 q) = true := by decide +kernel
theorem qo_J9_max_7cf53 : qz_ok 295 := qz_ok_of qo_J9_max_7cf53_0
theorem qo_J9_min_f86c9_0 : pc_J9_min_f86c9_0.all (fun q => qz_ok1 296 q && qz_ok2 296 q) = true := by decide +kernel
theorem qo_J9_min_f86c9 : qz_ok 296 := qz_ok_of qo_J9_min_f86c9_0
theorem qo_J9_min_7cf53_0 : pc_J9_min_7cf53_0.all (fun q => qz_ok1 297 q && qz_ok2 297 q) = true := by decide +kernel
theorem qo_J9_min_7cf53 : qz_ok 297 := qz_ok_of qo_J9_min_7cf53_0
theorem qo_J7_fill_53178_0 : pc_J7_fill_53178_0.all (fun q => qz_ok1 298 q && qz_ok2 298 q) = true := by decide +kernel
theorem qo_J7_fill_53178 : qz_ok 298 := qz_ok_of qo_J7_fill_53178_0
theorem qo_L_law_0 : pc_L_law_0.all (fun q => qz_ok1 299 q && qz_ok2 299 q) = true := by decide +kernel
theorem qo_L_law_1 : pc_L_law_1.all (fun q => qz_ok1 299 q && qz_ok2 299 q) = true := by decide +kernel
theorem qo_L_law_2 : pc_L_law_2.all (fun q => qz_ok1 299 q && qz_ok2 299 q) = true := by decide +kernel
theorem qo_L_law_3 : pc_L_law_3.all (fun q => qz_ok1 299 q && qz_ok2 299 q) = true := by decide +kernel
theorem qo_L_law_4 : pc_L_law_4.all (fun q => qz_ok1 299 q && qz_ok2 299 q) = true := by decide +kernel
theorem qo_L_law_5 : pc_L_law_5.all (fun q => qz_ok1 299 q && qz_ok2 299 q) = true := by decide +kernel
theorem qo_L_law_6 : pc_L_law_6.all (fun q => qz_ok1 299 q && qz_ok2 299 q) = true := by decide +kernel
theorem qo_L_law_7 : pc_L_law_7.all (fun q => qz_ok1 299 q && qz_ok2 299 q) = true := by decide +kernel
theorem qo_L_law_8 : pc_L_law_8.all (fun q => qz_ok1 299 q && qz_ok2 299 q) = true := by decide +kernel
theorem qo_L_law_9 : pc_L_law_9.all (fun q => qz_ok1 299 q && qz_ok2 299 q) = true := by decide +kernel
theorem qo_L_law_10 : pc_L_law_10.all (fun q => qz_ok1 299 q && qz_ok2 299 q) = true := by decide +kernel
theorem qo_L_law_11 : pc_L_law_11.all (fun q => qz_ok1 299 q && qz_ok2 299 q) = true := by decide +kernel
theorem qo_L_law_12 : pc_L_law_12.all (fun q => qz_ok1 299 q && qz_ok2 299 q) = true := by decide +kernel
theorem qo_L_law_13 : pc_L_law_13.all (fun q => qz_ok1 299 q && qz_ok2 299 q) = true := by decide +kernel
theorem qo_L_law_14 : pc_L_law_14.all (fun q => qz_ok1 299 q && qz_ok2 299 q) = true := by decide +kernel
theorem qo_L_law_15 : pc_L_law_15.all (fun q => qz_ok1 299 q && qz_ok2 299 q) = true := by decide +kernel
theorem qo_L_law_16 : pc_L_law_16.all (fun q => qz_ok1 299 q && qz_ok2 299 q) = true := by decide +kernel
theorem qo_L_law_17 : pc_L_law_17.all (fun q => qz_ok1 299 q && qz_ok2 299 q) = true := by decide +kernel
theorem qo_L_law_18 : pc_L_law_18.all (fun q => qz_ok1 299 q && qz_ok2 299 q) = true := by decide +kernel
theorem qo_L_law_19 : pc_L_law_19.all (fun q => qz_ok1 299 q && qz_ok2 299 q) = true := by decide +kernel
theorem qo_L_law_20 : pc_L_law_20.all (fun q => qz_ok1 299 q && qz_ok2 299 q) = true := by decide +kernel
theorem qo_L_law_21 : pc_L_law_21.all (fun q => qz_ok1 299 q && qz_ok2 299 q) = true := by decide +kernel
theorem qo_L_law_22 : pc_L_law_22.all (fun q => qz_ok1 299 q && qz_ok2 299 q) = true := by decide +kernel
theorem qo_L_law : qz_ok 299 := qz_ok_of (cd := pc_L_law_0 ++ pc_L_law_1 ++ pc_L_law_2 ++ pc_L_law_3 ++ pc_L_law_4 ++ pc_L_law_5 ++ pc_L_law_6 ++ pc_L_law_7 ++ pc_L_law_8 ++ pc_L_law_9 ++ pc_L_law_10 ++ pc_L_law_11 ++ pc_L_law_12 ++ pc_L_law_13 ++ pc_L_law_14 ++ pc_L_law_15 ++ pc_L_law_16 ++ pc_L_law_17 ++ pc_L_law_18 ++ pc_L_law_19 ++ pc_L_law_20 ++ pc_L_law_21 ++ pc_L_law_22) (by simp only [List.all_append, Bool.and_eq_true]; exact ⟨⟨⟨⟨⟨⟨⟨⟨⟨⟨⟨⟨⟨⟨⟨⟨⟨⟨⟨⟨⟨⟨qo_L_law_0, qo_L_law_1⟩, qo_L_law_2⟩, qo_L_law_3⟩, qo_L_law_4⟩, qo_L_law_5⟩, qo_L_law_6⟩, qo_L_law_7⟩, qo_L_law_8⟩, qo_L_law_9⟩, qo_L_law_10⟩, qo_L_law_11⟩, qo_L_law_12⟩, qo_L_law_13⟩, qo_L_law_14⟩, qo_L_law_15⟩, qo_L_law_16⟩, qo_L_law_17⟩, qo_L_law_18⟩, qo_L_law_19⟩, qo_L_law_20⟩, qo_L_law_21⟩, qo_L_law_22⟩)
