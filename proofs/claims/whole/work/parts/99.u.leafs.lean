/-! constructors: those that make arrays alone -/
def st_X8 : List cz_St := [(3, 200, .int, 11, 0, 131)]
theorem so_X8 : cz_ok cX8_init RX8 TX8 2 4 st_X8 = true := by decide +kernel
def wk_X8 (cA : FieldType → ClassId) (h0 : Nat) (u : Nat → Nat) : va_W := (h0, .inr (8, cz_fs (cz_df 2 tyX8) st_X8 ((List.range st_X8.length).map u))) :: ([] ++ cz_as cA st_X8 ((List.range st_X8.length).map u))
def dl_X8 : List (Nat × Instr × Nat) := [(0, .aload_n 0, 1), (1, .invokespecial 3, 3), (13, .return_, 1)]
theorem dc_X8 : dl_X8.all (fun q => decide (decode cX8_init q.1 = .ok (q.2.1, q.2.2))) = true := by decide +kernel
def ww_X8 : List (Nat × Cond) := [(130, Cond.methodLink RX8 3 objectInit)]
theorem wc_X8 : ww_X8.all (fun t => decide (lw_tbl[t.1]? = some t.2)) = true := by decide +kernel
set_option maxRecDepth 20000 in
theorem qk_X8_init : Cond.code yX8_init cX8_init 1 none ∈ lw_tbl := qz_tb_1 (List.mem_of_getElem? (i := 29) rfl)
theorem k_X8 (l : Launch) (dC : Nat → ClassId) (dI : Nat → Nat → Nat) (cA : FieldType → ClassId) (h0 sz : Nat) : cz_Met l yX8_init cX8_init 1 { frames := 1, cells := 1, slots := 200, locals := 31 } dC dI cA [.ref h0] (h0, .inr (8, cz_df 2 tyX8)) sz (wk_X8 cA h0) := by
  refine cz_enter (T := TX8) (N := 2) (i0 := 3) (by decide) rfl rfl rfl (Nat.le_of_ble_eq_true rfl) (cz_d dc_X8 0 rfl) (cz_d dc_X8 1 rfl) (cz_w wc_X8 0 rfl) cz_oi1 cz_oi2 (Nat.le_of_ble_eq_true rfl) (Nat.le_of_ble_eq_true rfl) ?_
  intro p e s m args below meth c ls Z F hN hml hl hP hD hS fin
  refine cz_steps F (lv_at hl 0 rfl) st_X8 4 (cz_df 2 tyX8) [] s.heap [] 0 0 so_X8 (cz_df_len _ _) hP hD hS (Nat.le_of_ble_eq_true rfl) (Nat.le_of_ble_eq_true rfl) (fun qs H locs hq hP hD hS => ?_)
  obtain ⟨u, rfl⟩ := cz_fun hq
  show W p l e _ s m args below meth c H locs _ _ Z (F0 m 13 ls [])
  exact fin H locs 13 ls _ _ u (Nat.le_of_ble_eq_true rfl) (Nat.le_of_ble_eq_true rfl) (cz_d dc_X8 2 rfl) hP hD hS
def st_X5 : List cz_St := [(2, 40, .boolean, 11, 0, 148), (2, 40, .int, 15, 1, 149), (2, 40, .int, 19, 2, 150), (2, 40, .int, 22, 3, 151), (3, 200, .int, 25, 4, 152), (3, 200, .int, 28, 5, 153), (3, 200, .int, 31, 6, 154), (3, 200, .int, 34, 7, 155)]
theorem so_X5 : cz_ok cX5_init RX5 TX5 10 4 st_X5 = true := by decide +kernel
def wr_X5 (cA : FieldType → ClassId) (h0 : Nat) (u : Nat → Nat) : va_W := (((h0, .inr (5, cz_fs (cz_df 10 tyX5) st_X5 ((List.range st_X5.length).map u))) :: ([] ++ cz_as cA st_X5 ((List.range st_X5.length).map u))) : va_W).eraseIdx 2
def wk_X5 (cA : FieldType → ClassId) (h0 : Nat) (u : Nat → Nat) : va_W := wr_X5 cA h0 u ++ [(u 1, .inl (cA .int, 40, .inl (fun _ => -1)))]
def dl_X5 : List (Nat × Instr × Nat) := [(0, .aload_n 0, 1), (1, .invokespecial 3, 3), (72, .aload_n 0, 1), (73, .getfield 15, 3), (76, .iconst (-1), 1), (77, .invokestatic 37, 3), (80, .return_, 1)]
theorem dc_X5 : dl_X5.all (fun q => decide (decode cX5_init q.1 = .ok (q.2.1, q.2.2))) = true := by decide +kernel
def ww_X5 : List (Nat × Cond) := [(144, Cond.methodLink RX5 3 objectInit), (149, Cond.fieldLink RX5 15 RX5 (TX5 1).2.1 (TX5 1).2.2.1), (145, Cond.methodLink RX5 37 yJ7_fill_53178)]
theorem wc_X5 : ww_X5.all (fun t => decide (lw_tbl[t.1]? = some t.2)) = true := by decide +kernel
set_option maxRecDepth 20000 in
theorem qk_X5_init : Cond.code yX5_init cX5_init 1 none ∈ lw_tbl := qz_tb_1 (List.mem_of_getElem? (i := 43) rfl)
theorem k_X5 (l : Launch) (dC : Nat → ClassId) (dI : Nat → Nat → Nat) (cA : FieldType → ClassId) (h0 sz : Nat) : cz_Met l yX5_init cX5_init 1 { frames := 1, cells := 8, slots := 960, locals := 31 } dC dI cA [.ref h0] (h0, .inr (5, cz_df 10 tyX5)) sz (wk_X5 cA h0) := by
  refine cz_enter (T := TX5) (N := 10) (i0 := 3) (by decide) rfl rfl rfl (Nat.le_of_ble_eq_true rfl) (cz_d dc_X5 0 rfl) (cz_d dc_X5 1 rfl) (cz_w wc_X5 0 rfl) cz_oi1 cz_oi2 (Nat.le_of_ble_eq_true rfl) (Nat.le_of_ble_eq_true rfl) ?_
  intro p e s m args below meth c ls Z F hN hml hl hP hD hS fin
  refine cz_steps F (lv_at hl 0 rfl) st_X5 4 (cz_df 10 tyX5) [] s.heap [] 0 0 so_X5 (cz_df_len _ _) hP hD hS (Nat.le_of_ble_eq_true rfl) (Nat.le_of_ble_eq_true rfl) (fun qs H locs hq hP hD hS => ?_)
  obtain ⟨u, rfl⟩ := cz_fun hq
  show W p l e _ s m args below meth c H locs _ _ Z (F0 m 72 ls [])
  refine lv_aload_n F.1 F.2.1 (cz_d dc_X5 2 rfl) rfl (lv_at hl 0 rfl) ?_
  refine cz_get F hP 1 15 (v := .ref (u 1)) (Nat.le_of_ble_eq_true rfl) (cz_w wc_X5 1 rfl) rfl rfl (cz_d dc_X5 3 rfl) ?_
  refine lv_iconst (v := -1) F.1 F.2.1 (cz_d dc_X5 4 rfl) (by decide) ?_
  have hP2 : va_P (dC, dI) qz_cls (wr_X5 cA h0 u ++ [(u 1, .inl (cA .int, 40, .inl (fun _ => 0)))]) H := hP.sub [0, 1, 3, 4, 5, 6, 7, 8, 2] rfl
  have hD2 : va_D (va_A [(h0, .inr (5, cz_df 10 tyX5))] s.heap.size) (wr_X5 cA h0 u ++ [(u 1, .inl (cA .int, 40, .inl (fun _ => 0)))]) := hD.sub [0, 1, 3, 4, 5, 6, 7, 8, 2] (by decide) rfl
  refine cz_scall (n := 2) (As := [.ref (u 1), .int (-1)]) (rest := []) F.1 F.2.1 hml F.2.2.2.1 F.2.2.1 F.2.2.2.2.2.1 hN F.2.2.2.2.2.2.1 hl.1 (k_fill l dC dI cA (u 1) 40 H.size (-1) (fun _ => 0) (by omega)) cz_fi3 cz_fi1 cz_fi2 (cz_w wc_X5 2 rfl) (by decide +kernel) rfl ⟨(Nat.le_of_ble_eq_true rfl), (Nat.le_of_ble_eq_true rfl)⟩ ⟨(Nat.le_of_ble_eq_true rfl), (Nat.le_of_ble_eq_true rfl)⟩ (by decide) (cz_d dc_X5 5 rfl) hP2 hD2 hS (fun _ H locs hP hD hS => ?_)
  exact fin H locs 80 ls _ _ u (Nat.le_of_ble_eq_true rfl) (Nat.le_of_ble_eq_true rfl) (cz_d dc_X5 6 rfl) hP hD hS
def st_X10 : List cz_St := [(2, 80, .int, 11, 0, 186), (2, 80, .int, 15, 1, 187), (2, 80, .int, 18, 2, 188), (2, 80, .int, 21, 3, 189), (2, 80, .int, 24, 4, 190), (2, 80, .int, 27, 5, 191), (2, 80, .int, 30, 6, 192), (2, 80, .int, 33, 7, 193), (3, 320, .int, 36, 8, 194), (3, 320, .int, 39, 9, 195), (2, 80, .int, 42, 10, 196), (2, 80, .boolean, 45, 11, 197)]
theorem so_X10 : cz_ok cX10_init RX10 TX10 13 4 st_X10 = true := by decide +kernel
def wk_X10 (cA : FieldType → ClassId) (h0 : Nat) (u : Nat → Nat) : va_W := (h0, .inr (10, cz_fs (cz_df 13 tyX10) st_X10 ((List.range st_X10.length).map u))) :: ([] ++ cz_as cA st_X10 ((List.range st_X10.length).map u))
def dl_X10 : List (Nat × Instr × Nat) := [(0, .aload_n 0, 1), (1, .invokespecial 3, 3), (102, .return_, 1)]
theorem dc_X10 : dl_X10.all (fun q => decide (decode cX10_init q.1 = .ok (q.2.1, q.2.2))) = true := by decide +kernel
def ww_X10 : List (Nat × Cond) := [(185, Cond.methodLink RX10 3 objectInit)]
theorem wc_X10 : ww_X10.all (fun t => decide (lw_tbl[t.1]? = some t.2)) = true := by decide +kernel
set_option maxRecDepth 20000 in
theorem qk_X10_init : Cond.code yX10_init cX10_init 1 none ∈ lw_tbl := qz_tb_1 (List.mem_of_getElem? (i := 84) rfl)
theorem k_X10 (l : Launch) (dC : Nat → ClassId) (dI : Nat → Nat → Nat) (cA : FieldType → ClassId) (h0 sz : Nat) : cz_Met l yX10_init cX10_init 1 { frames := 1, cells := 12, slots := 1440, locals := 31 } dC dI cA [.ref h0] (h0, .inr (10, cz_df 13 tyX10)) sz (wk_X10 cA h0) := by
  refine cz_enter (T := TX10) (N := 13) (i0 := 3) (by decide) rfl rfl rfl (Nat.le_of_ble_eq_true rfl) (cz_d dc_X10 0 rfl) (cz_d dc_X10 1 rfl) (cz_w wc_X10 0 rfl) cz_oi1 cz_oi2 (Nat.le_of_ble_eq_true rfl) (Nat.le_of_ble_eq_true rfl) ?_
  intro p e s m args below meth c ls Z F hN hml hl hP hD hS fin
  refine cz_steps F (lv_at hl 0 rfl) st_X10 4 (cz_df 13 tyX10) [] s.heap [] 0 0 so_X10 (cz_df_len _ _) hP hD hS (Nat.le_of_ble_eq_true rfl) (Nat.le_of_ble_eq_true rfl) (fun qs H locs hq hP hD hS => ?_)
  obtain ⟨u, rfl⟩ := cz_fun hq
  show W p l e _ s m args below meth c H locs _ _ Z (F0 m 102 ls [])
  exact fin H locs 102 ls _ _ u (Nat.le_of_ble_eq_true rfl) (Nat.le_of_ble_eq_true rfl) (cz_d dc_X10 2 rfl) hP hD hS
def st_X9 : List cz_St := [(3, 300, .int, 11, 0, 233), (3, 300, .int, 15, 1, 234), (3, 300, .int, 18, 2, 235), (3, 300, .int, 21, 3, 236), (3, 300, .int, 24, 4, 237), (3, 200, .int, 27, 5, 238), (3, 200, .int, 30, 6, 239), (3, 200, .int, 33, 7, 240), (3, 200, .int, 36, 8, 241), (3, 200, .int, 39, 9, 242), (3, 200, .int, 42, 10, 243), (3, 200, .int, 45, 11, 244), (2, 40, .int, 50, 12, 245)]
theorem so_X9 : cz_ok cX9_init RX9 TX9 16 4 st_X9 = true := by decide +kernel
def wr_X9 (cA : FieldType → ClassId) (h0 : Nat) (u : Nat → Nat) : va_W := (((h0, .inr (9, cz_fs (cz_df 16 tyX9) st_X9 ((List.range st_X9.length).map u))) :: ([] ++ cz_as cA st_X9 ((List.range st_X9.length).map u))) : va_W).eraseIdx 13
def wk_X9 (cA : FieldType → ClassId) (h0 : Nat) (u : Nat → Nat) : va_W := wr_X9 cA h0 u ++ [(u 12, .inl (cA .int, 40, .inl (fun _ => -1)))]
def dl_X9 : List (Nat × Instr × Nat) := [(0, .aload_n 0, 1), (1, .invokespecial 3, 3), (120, .aload_n 0, 1), (121, .getfield 50, 3), (124, .iconst (-1), 1), (125, .invokestatic 53, 3), (128, .return_, 1)]
theorem dc_X9 : dl_X9.all (fun q => decide (decode cX9_init q.1 = .ok (q.2.1, q.2.2))) = true := by decide +kernel
def ww_X9 : List (Nat × Cond) := [(231, Cond.methodLink RX9 3 objectInit), (245, Cond.fieldLink RX9 50 RX9 (TX9 12).2.1 (TX9 12).2.2.1), (232, Cond.methodLink RX9 53 yJ7_fill_53178)]
theorem wc_X9 : ww_X9.all (fun t => decide (lw_tbl[t.1]? = some t.2)) = true := by decide +kernel
set_option maxRecDepth 20000 in
theorem qk_X9_init : Cond.code yX9_init cX9_init 1 none ∈ lw_tbl := qz_tb_1 (List.mem_of_getElem? (i := 130) rfl)
theorem k_X9 (l : Launch) (dC : Nat → ClassId) (dI : Nat → Nat → Nat) (cA : FieldType → ClassId) (h0 sz : Nat) : cz_Met l yX9_init cX9_init 1 { frames := 1, cells := 13, slots := 2940, locals := 31 } dC dI cA [.ref h0] (h0, .inr (9, cz_df 16 tyX9)) sz (wk_X9 cA h0) := by
  refine cz_enter (T := TX9) (N := 16) (i0 := 3) (by decide) rfl rfl rfl (Nat.le_of_ble_eq_true rfl) (cz_d dc_X9 0 rfl) (cz_d dc_X9 1 rfl) (cz_w wc_X9 0 rfl) cz_oi1 cz_oi2 (Nat.le_of_ble_eq_true rfl) (Nat.le_of_ble_eq_true rfl) ?_
  intro p e s m args below meth c ls Z F hN hml hl hP hD hS fin
  refine cz_steps F (lv_at hl 0 rfl) st_X9 4 (cz_df 16 tyX9) [] s.heap [] 0 0 so_X9 (cz_df_len _ _) hP hD hS (Nat.le_of_ble_eq_true rfl) (Nat.le_of_ble_eq_true rfl) (fun qs H locs hq hP hD hS => ?_)
  obtain ⟨u, rfl⟩ := cz_fun hq
  show W p l e _ s m args below meth c H locs _ _ Z (F0 m 120 ls [])
  refine lv_aload_n F.1 F.2.1 (cz_d dc_X9 2 rfl) rfl (lv_at hl 0 rfl) ?_
  refine cz_get F hP 12 50 (v := .ref (u 12)) (Nat.le_of_ble_eq_true rfl) (cz_w wc_X9 1 rfl) rfl rfl (cz_d dc_X9 3 rfl) ?_
  refine lv_iconst (v := -1) F.1 F.2.1 (cz_d dc_X9 4 rfl) (by decide) ?_
  have hP2 : va_P (dC, dI) qz_cls (wr_X9 cA h0 u ++ [(u 12, .inl (cA .int, 40, .inl (fun _ => 0)))]) H := hP.sub [0, 1, 2, 3, 4, 5, 6, 7, 8, 9, 10, 11, 12, 13] rfl
  have hD2 : va_D (va_A [(h0, .inr (9, cz_df 16 tyX9))] s.heap.size) (wr_X9 cA h0 u ++ [(u 12, .inl (cA .int, 40, .inl (fun _ => 0)))]) := hD.sub [0, 1, 2, 3, 4, 5, 6, 7, 8, 9, 10, 11, 12, 13] (by decide) rfl
  refine cz_scall (n := 2) (As := [.ref (u 12), .int (-1)]) (rest := []) F.1 F.2.1 hml F.2.2.2.1 F.2.2.1 F.2.2.2.2.2.1 hN F.2.2.2.2.2.2.1 hl.1 (k_fill l dC dI cA (u 12) 40 H.size (-1) (fun _ => 0) (by omega)) cz_fi3 cz_fi1 cz_fi2 (cz_w wc_X9 2 rfl) (by decide +kernel) rfl ⟨(Nat.le_of_ble_eq_true rfl), (Nat.le_of_ble_eq_true rfl)⟩ ⟨(Nat.le_of_ble_eq_true rfl), (Nat.le_of_ble_eq_true rfl)⟩ (by decide) (cz_d dc_X9 5 rfl) hP2 hD2 hS (fun _ H locs hP hD hS => ?_)
  exact fin H locs 128 ls _ _ u (Nat.le_of_ble_eq_true rfl) (Nat.le_of_ble_eq_true rfl) (cz_d dc_X9 6 rfl) hP hD hS
def st_X1 : List cz_St := []
theorem so_X1 : cz_ok cX1_init RX1 TX1 3 4 st_X1 = true := by decide +kernel
def wk_X1 (cA : FieldType → ClassId) (h0 : Nat) (a1 : Nat) (a2 : Nat) (a3 : Nat) (u : Nat → Nat) : va_W := (h0, .inr (1, (((cz_fs (cz_df 3 tyX1) st_X1 ((List.range st_X1.length).map u)).set 0 (.ref a1)).set 1 (.ref a2)).set 2 (.ref a3))) :: ([] ++ cz_as cA st_X1 ((List.range st_X1.length).map u))
def dl_X1 : List (Nat × Instr × Nat) := [(0, .aload_n 0, 1), (1, .invokespecial 3, 3), (4, .aload_n 0, 1), (5, .aload_n 1, 1), (6, .putfield 9, 3), (9, .aload_n 0, 1), (10, .aload_n 2, 1), (11, .putfield 15, 3), (14, .aload_n 0, 1), (15, .aload_n 3, 1), (16, .putfield 19, 3), (19, .return_, 1)]
theorem dc_X1 : dl_X1.all (fun q => decide (decode cX1_init q.1 = .ok (q.2.1, q.2.2))) = true := by decide +kernel
def ww_X1 : List (Nat × Cond) := [(287, Cond.methodLink RX1 3 objectInit), (288, Cond.fieldLink RX1 9 RX1 (TX1 0).2.1 (TX1 0).2.2.1), (289, Cond.fieldLink RX1 15 RX1 (TX1 1).2.1 (TX1 1).2.2.1), (290, Cond.fieldLink RX1 19 RX1 (TX1 2).2.1 (TX1 2).2.2.1)]
theorem wc_X1 : ww_X1.all (fun t => decide (lw_tbl[t.1]? = some t.2)) = true := by decide +kernel
set_option maxRecDepth 20000 in
theorem qk_X1_init : Cond.code yX1_init cX1_init 4 none ∈ lw_tbl := qz_tb_1 (List.mem_of_getElem? (i := 186) rfl)
theorem k_X1 (l : Launch) (dC : Nat → ClassId) (dI : Nat → Nat → Nat) (cA : FieldType → ClassId) (h0 sz : Nat) (a1 : Nat) (a2 : Nat) (a3 : Nat) : cz_Met l yX1_init cX1_init 4 { frames := 1, cells := 0, slots := 0, locals := 31 } dC dI cA [.ref h0, .ref a1, .ref a2, .ref a3] (h0, .inr (1, cz_df 3 tyX1)) sz (wk_X1 cA h0 a1 a2 a3) := by
  refine cz_enter (T := TX1) (N := 3) (i0 := 3) (by decide) rfl rfl rfl (Nat.le_of_ble_eq_true rfl) (cz_d dc_X1 0 rfl) (cz_d dc_X1 1 rfl) (cz_w wc_X1 0 rfl) cz_oi1 cz_oi2 (Nat.le_of_ble_eq_true rfl) (Nat.le_of_ble_eq_true rfl) ?_
  intro p e s m args below meth c ls Z F hN hml hl hP hD hS fin
  refine cz_steps F (lv_at hl 0 rfl) st_X1 4 (cz_df 3 tyX1) [] s.heap [] 0 0 so_X1 (cz_df_len _ _) hP hD hS (Nat.le_of_ble_eq_true rfl) (Nat.le_of_ble_eq_true rfl) (fun qs H locs hq hP hD hS => ?_)
  obtain ⟨u, rfl⟩ := cz_fun hq
  show W p l e _ s m args below meth c H locs _ _ Z (F0 m 4 ls [])
  refine lv_aload_n F.1 F.2.1 (cz_d dc_X1 2 rfl) rfl (lv_at hl 0 rfl) ?_
  refine lv_aload_n F.1 F.2.1 (cz_d dc_X1 3 rfl) rfl (lv_at hl 1 rfl) ?_
  refine cz_put F hP hD hS 0 9 (Nat.le_of_ble_eq_true rfl) (cz_w wc_X1 1 rfl) rfl rfl (tyX1_ok 0 (Nat.le_of_ble_eq_true rfl)) rfl rfl (by simp only [List.length_set, cz_fs_len, cz_df_len]; decide) (cz_d dc_X1 4 rfl) (fun H locs hP hD hS => ?_)
  refine lv_aload_n F.1 F.2.1 (cz_d dc_X1 5 rfl) rfl (lv_at hl 0 rfl) ?_
  refine lv_aload_n F.1 F.2.1 (cz_d dc_X1 6 rfl) rfl (lv_at hl 2 rfl) ?_
  refine cz_put F hP hD hS 1 15 (Nat.le_of_ble_eq_true rfl) (cz_w wc_X1 2 rfl) rfl rfl (tyX1_ok 1 (Nat.le_of_ble_eq_true rfl)) rfl rfl (by simp only [List.length_set, cz_fs_len, cz_df_len]; decide) (cz_d dc_X1 7 rfl) (fun H locs hP hD hS => ?_)
  refine lv_aload_n F.1 F.2.1 (cz_d dc_X1 8 rfl) rfl (lv_at hl 0 rfl) ?_
  refine lv_aload_n F.1 F.2.1 (cz_d dc_X1 9 rfl) rfl (lv_at hl 3 rfl) ?_
  refine cz_put F hP hD hS 2 19 (Nat.le_of_ble_eq_true rfl) (cz_w wc_X1 3 rfl) rfl rfl (tyX1_ok 2 (Nat.le_of_ble_eq_true rfl)) rfl rfl (by simp only [List.length_set, cz_fs_len, cz_df_len]; decide) (cz_d dc_X1 10 rfl) (fun H locs hP hD hS => ?_)
  exact fin H locs 19 ls _ _ u (Nat.le_of_ble_eq_true rfl) (Nat.le_of_ble_eq_true rfl) (cz_d dc_X1 11 rfl) hP hD hS
def st_X6 : List cz_St := [(3, 4000, .int, 13, 1, 311), (2, 32, .int, 19, 2, 312)]
theorem so_X6 : cz_ok cX6_init RX6 TX6 13 4 st_X6 = true := by decide +kernel
def wk_X6 (cA : FieldType → ClassId) (h0 : Nat) (a1 : Nat) (u : Nat → Nat) : va_W := (h0, .inr (6, (cz_fs (cz_df 13 tyX6) st_X6 ((List.range st_X6.length).map u)).set 0 (.ref a1))) :: ([] ++ cz_as cA st_X6 ((List.range st_X6.length).map u))
def dl_X6 : List (Nat × Instr × Nat) := [(0, .aload_n 0, 1), (1, .invokespecial 3, 3), (21, .aload_n 0, 1), (22, .aload_n 1, 1), (23, .putfield 22, 3), (26, .return_, 1)]
theorem dc_X6 : dl_X6.all (fun q => decide (decode cX6_init q.1 = .ok (q.2.1, q.2.2))) = true := by decide +kernel
def ww_X6 : List (Nat × Cond) := [(309, Cond.methodLink RX6 3 objectInit), (310, Cond.fieldLink RX6 22 RX6 (TX6 0).2.1 (TX6 0).2.2.1)]
theorem wc_X6 : ww_X6.all (fun t => decide (lw_tbl[t.1]? = some t.2)) = true := by decide +kernel
set_option maxRecDepth 20000 in
theorem qk_X6_init : Cond.code yX6_init cX6_init 2 none ∈ lw_tbl := qz_tb_1 (List.mem_of_getElem? (i := 208) rfl)
theorem k_X6 (l : Launch) (dC : Nat → ClassId) (dI : Nat → Nat → Nat) (cA : FieldType → ClassId) (h0 sz : Nat) (a1 : Nat) : cz_Met l yX6_init cX6_init 2 { frames := 1, cells := 2, slots := 4032, locals := 31 } dC dI cA [.ref h0, .ref a1] (h0, .inr (6, cz_df 13 tyX6)) sz (wk_X6 cA h0 a1) := by
  refine cz_enter (T := TX6) (N := 13) (i0 := 3) (by decide) rfl rfl rfl (Nat.le_of_ble_eq_true rfl) (cz_d dc_X6 0 rfl) (cz_d dc_X6 1 rfl) (cz_w wc_X6 0 rfl) cz_oi1 cz_oi2 (Nat.le_of_ble_eq_true rfl) (Nat.le_of_ble_eq_true rfl) ?_
  intro p e s m args below meth c ls Z F hN hml hl hP hD hS fin
  refine cz_steps F (lv_at hl 0 rfl) st_X6 4 (cz_df 13 tyX6) [] s.heap [] 0 0 so_X6 (cz_df_len _ _) hP hD hS (Nat.le_of_ble_eq_true rfl) (Nat.le_of_ble_eq_true rfl) (fun qs H locs hq hP hD hS => ?_)
  obtain ⟨u, rfl⟩ := cz_fun hq
  show W p l e _ s m args below meth c H locs _ _ Z (F0 m 21 ls [])
  refine lv_aload_n F.1 F.2.1 (cz_d dc_X6 2 rfl) rfl (lv_at hl 0 rfl) ?_
  refine lv_aload_n F.1 F.2.1 (cz_d dc_X6 3 rfl) rfl (lv_at hl 1 rfl) ?_
  refine cz_put F hP hD hS 0 22 (Nat.le_of_ble_eq_true rfl) (cz_w wc_X6 1 rfl) rfl rfl (tyX6_ok 0 (Nat.le_of_ble_eq_true rfl)) rfl rfl (by simp only [List.length_set, cz_fs_len, cz_df_len]; decide) (cz_d dc_X6 4 rfl) (fun H locs hP hD hS => ?_)
  exact fin H locs 26 ls _ _ u (Nat.le_of_ble_eq_true rfl) (Nat.le_of_ble_eq_true rfl) (cz_d dc_X6 5 rfl) hP hD hS
def st_X7 : List cz_St := []
theorem so_X7 : cz_ok cX7_init RX7 TX7 8 4 st_X7 = true := by decide +kernel
def wk_X7 (cA : FieldType → ClassId) (h0 : Nat) (a1 : Nat) (a2 : Nat) (a3 : Nat) (a4 : Nat) (a5 : Nat) (u : Nat → Nat) : va_W := (h0, .inr (7, (((((cz_fs (cz_df 8 tyX7) st_X7 ((List.range st_X7.length).map u)).set 0 (.ref a1)).set 1 (.ref a2)).set 2 (.ref a3)).set 3 (.ref a4)).set 4 (.ref a5))) :: ([] ++ cz_as cA st_X7 ((List.range st_X7.length).map u))
def dl_X7 : List (Nat × Instr × Nat) := [(0, .aload_n 0, 1), (1, .invokespecial 3, 3), (4, .aload_n 0, 1), (5, .aload_n 1, 1), (6, .putfield 9, 3), (9, .aload_n 0, 1), (10, .aload_n 2, 1), (11, .putfield 15, 3), (14, .aload_n 0, 1), (15, .aload_n 3, 1), (16, .putfield 19, 3), (19, .aload_n 0, 1), (20, .aload 4, 2), (22, .putfield 23, 3), (25, .aload_n 0, 1), (26, .aload 5, 2), (28, .putfield 27, 3), (31, .return_, 1)]
theorem dc_X7 : dl_X7.all (fun q => decide (decode cX7_init q.1 = .ok (q.2.1, q.2.2))) = true := by decide +kernel
def ww_X7 : List (Nat × Cond) := [(410, Cond.methodLink RX7 3 objectInit), (411, Cond.fieldLink RX7 9 RX7 (TX7 0).2.1 (TX7 0).2.2.1), (412, Cond.fieldLink RX7 15 RX7 (TX7 1).2.1 (TX7 1).2.2.1), (413, Cond.fieldLink RX7 19 RX7 (TX7 2).2.1 (TX7 2).2.2.1), (414, Cond.fieldLink RX7 23 RX7 (TX7 3).2.1 (TX7 3).2.2.1), (415, Cond.fieldLink RX7 27 RX7 (TX7 4).2.1 (TX7 4).2.2.1)]
theorem wc_X7 : ww_X7.all (fun t => decide (lw_tbl[t.1]? = some t.2)) = true := by decide +kernel
set_option maxRecDepth 20000 in
theorem qk_X7_init : Cond.code yX7_init cX7_init 6 none ∈ lw_tbl := qz_tb_2 (List.mem_of_getElem? (i := 69) rfl)
theorem k_X7 (l : Launch) (dC : Nat → ClassId) (dI : Nat → Nat → Nat) (cA : FieldType → ClassId) (h0 sz : Nat) (a1 : Nat) (a2 : Nat) (a3 : Nat) (a4 : Nat) (a5 : Nat) : cz_Met l yX7_init cX7_init 6 { frames := 1, cells := 0, slots := 0, locals := 31 } dC dI cA [.ref h0, .ref a1, .ref a2, .ref a3, .ref a4, .ref a5] (h0, .inr (7, cz_df 8 tyX7)) sz (wk_X7 cA h0 a1 a2 a3 a4 a5) := by
  refine cz_enter (T := TX7) (N := 8) (i0 := 3) (by decide) rfl rfl rfl (Nat.le_of_ble_eq_true rfl) (cz_d dc_X7 0 rfl) (cz_d dc_X7 1 rfl) (cz_w wc_X7 0 rfl) cz_oi1 cz_oi2 (Nat.le_of_ble_eq_true rfl) (Nat.le_of_ble_eq_true rfl) ?_
  intro p e s m args below meth c ls Z F hN hml hl hP hD hS fin
  refine cz_steps F (lv_at hl 0 rfl) st_X7 4 (cz_df 8 tyX7) [] s.heap [] 0 0 so_X7 (cz_df_len _ _) hP hD hS (Nat.le_of_ble_eq_true rfl) (Nat.le_of_ble_eq_true rfl) (fun qs H locs hq hP hD hS => ?_)
  obtain ⟨u, rfl⟩ := cz_fun hq
  show W p l e _ s m args below meth c H locs _ _ Z (F0 m 4 ls [])
  refine lv_aload_n F.1 F.2.1 (cz_d dc_X7 2 rfl) rfl (lv_at hl 0 rfl) ?_
  refine lv_aload_n F.1 F.2.1 (cz_d dc_X7 3 rfl) rfl (lv_at hl 1 rfl) ?_
  refine cz_put F hP hD hS 0 9 (Nat.le_of_ble_eq_true rfl) (cz_w wc_X7 1 rfl) rfl rfl (tyX7_ok 0 (Nat.le_of_ble_eq_true rfl)) rfl rfl (by simp only [List.length_set, cz_fs_len, cz_df_len]; decide) (cz_d dc_X7 4 rfl) (fun H locs hP hD hS => ?_)
  refine lv_aload_n F.1 F.2.1 (cz_d dc_X7 5 rfl) rfl (lv_at hl 0 rfl) ?_
  refine lv_aload_n F.1 F.2.1 (cz_d dc_X7 6 rfl) rfl (lv_at hl 2 rfl) ?_
  refine cz_put F hP hD hS 1 15 (Nat.le_of_ble_eq_true rfl) (cz_w wc_X7 2 rfl) rfl rfl (tyX7_ok 1 (Nat.le_of_ble_eq_true rfl)) rfl rfl (by simp only [List.length_set, cz_fs_len, cz_df_len]; decide) (cz_d dc_X7 7 rfl) (fun H locs hP hD hS => ?_)
  refine lv_aload_n F.1 F.2.1 (cz_d dc_X7 8 rfl) rfl (lv_at hl 0 rfl) ?_
  refine lv_aload_n F.1 F.2.1 (cz_d dc_X7 9 rfl) rfl (lv_at hl 3 rfl) ?_
  refine cz_put F hP hD hS 2 19 (Nat.le_of_ble_eq_true rfl) (cz_w wc_X7 3 rfl) rfl rfl (tyX7_ok 2 (Nat.le_of_ble_eq_true rfl)) rfl rfl (by simp only [List.length_set, cz_fs_len, cz_df_len]; decide) (cz_d dc_X7 10 rfl) (fun H locs hP hD hS => ?_)
  refine lv_aload_n F.1 F.2.1 (cz_d dc_X7 11 rfl) rfl (lv_at hl 0 rfl) ?_
  refine lv_aload F.1 F.2.1 (cz_d dc_X7 12 rfl) (lv_at hl 4 rfl) ?_
  refine cz_put F hP hD hS 3 23 (Nat.le_of_ble_eq_true rfl) (cz_w wc_X7 4 rfl) rfl rfl (tyX7_ok 3 (Nat.le_of_ble_eq_true rfl)) rfl rfl (by simp only [List.length_set, cz_fs_len, cz_df_len]; decide) (cz_d dc_X7 13 rfl) (fun H locs hP hD hS => ?_)
  refine lv_aload_n F.1 F.2.1 (cz_d dc_X7 14 rfl) rfl (lv_at hl 0 rfl) ?_
  refine lv_aload F.1 F.2.1 (cz_d dc_X7 15 rfl) (lv_at hl 5 rfl) ?_
  refine cz_put F hP hD hS 4 27 (Nat.le_of_ble_eq_true rfl) (cz_w wc_X7 5 rfl) rfl rfl (tyX7_ok 4 (Nat.le_of_ble_eq_true rfl)) rfl rfl (by simp only [List.length_set, cz_fs_len, cz_df_len]; decide) (cz_d dc_X7 16 rfl) (fun H locs hP hD hS => ?_)
  exact fin H locs 31 ls _ _ u (Nat.le_of_ble_eq_true rfl) (Nat.le_of_ble_eq_true rfl) (cz_d dc_X7 17 rfl) hP hD hS
def st_X4 : List cz_St := [(2, 12, .int, 11, 2, 444), (2, 96, .int, 15, 3, 445), (2, 8, .int, 18, 4, 446), (2, 8, .int, 21, 5, 447), (3, 256, .int, 24, 6, 448), (3, 1024, .long, 27, 7, 449), (3, 1024, .long, 31, 8, 450)]
theorem so_X4 : cz_ok cX4_init RX4 TX4 13 4 st_X4 = true := by decide +kernel
def wk_X4 (cA : FieldType → ClassId) (h0 : Nat) (a1 : Nat) (a2 : Nat) (u : Nat → Nat) : va_W := (h0, .inr (4, ((cz_fs (cz_df 13 tyX4) st_X4 ((List.range st_X4.length).map u)).set 0 (.ref a1)).set 1 (.ref a2))) :: ([] ++ cz_as cA st_X4 ((List.range st_X4.length).map u))
def dl_X4 : List (Nat × Instr × Nat) := [(0, .aload_n 0, 1), (1, .invokespecial 5, 3), (63, .aload_n 0, 1), (64, .aload_n 1, 1), (65, .putfield 34, 3), (68, .aload_n 0, 1), (69, .aload_n 2, 1), (70, .putfield 38, 3), (73, .return_, 1)]
theorem dc_X4 : dl_X4.all (fun q => decide (decode cX4_init q.1 = .ok (q.2.1, q.2.2))) = true := by decide +kernel
def ww_X4 : List (Nat × Cond) := [(441, Cond.methodLink RX4 5 objectInit), (442, Cond.fieldLink RX4 34 RX4 (TX4 0).2.1 (TX4 0).2.2.1), (443, Cond.fieldLink RX4 38 RX4 (TX4 1).2.1 (TX4 1).2.2.1)]
theorem wc_X4 : ww_X4.all (fun t => decide (lw_tbl[t.1]? = some t.2)) = true := by decide +kernel
set_option maxRecDepth 20000 in
theorem qk_X4_init : Cond.code yX4_init cX4_init 3 none ∈ lw_tbl := qz_tb_2 (List.mem_of_getElem? (i := 100) rfl)
theorem k_X4 (l : Launch) (dC : Nat → ClassId) (dI : Nat → Nat → Nat) (cA : FieldType → ClassId) (h0 sz : Nat) (a1 : Nat) (a2 : Nat) : cz_Met l yX4_init cX4_init 3 { frames := 1, cells := 7, slots := 2428, locals := 31 } dC dI cA [.ref h0, .ref a1, .ref a2] (h0, .inr (4, cz_df 13 tyX4)) sz (wk_X4 cA h0 a1 a2) := by
  refine cz_enter (T := TX4) (N := 13) (i0 := 5) (by decide) rfl rfl rfl (Nat.le_of_ble_eq_true rfl) (cz_d dc_X4 0 rfl) (cz_d dc_X4 1 rfl) (cz_w wc_X4 0 rfl) cz_oi1 cz_oi2 (Nat.le_of_ble_eq_true rfl) (Nat.le_of_ble_eq_true rfl) ?_
  intro p e s m args below meth c ls Z F hN hml hl hP hD hS fin
  refine cz_steps F (lv_at hl 0 rfl) st_X4 4 (cz_df 13 tyX4) [] s.heap [] 0 0 so_X4 (cz_df_len _ _) hP hD hS (Nat.le_of_ble_eq_true rfl) (Nat.le_of_ble_eq_true rfl) (fun qs H locs hq hP hD hS => ?_)
  obtain ⟨u, rfl⟩ := cz_fun hq
  show W p l e _ s m args below meth c H locs _ _ Z (F0 m 63 ls [])
  refine lv_aload_n F.1 F.2.1 (cz_d dc_X4 2 rfl) rfl (lv_at hl 0 rfl) ?_
  refine lv_aload_n F.1 F.2.1 (cz_d dc_X4 3 rfl) rfl (lv_at hl 1 rfl) ?_
  refine cz_put F hP hD hS 0 34 (Nat.le_of_ble_eq_true rfl) (cz_w wc_X4 1 rfl) rfl rfl (tyX4_ok 0 (Nat.le_of_ble_eq_true rfl)) rfl rfl (by simp only [List.length_set, cz_fs_len, cz_df_len]; decide) (cz_d dc_X4 4 rfl) (fun H locs hP hD hS => ?_)
  refine lv_aload_n F.1 F.2.1 (cz_d dc_X4 5 rfl) rfl (lv_at hl 0 rfl) ?_
  refine lv_aload_n F.1 F.2.1 (cz_d dc_X4 6 rfl) rfl (lv_at hl 2 rfl) ?_
  refine cz_put F hP hD hS 1 38 (Nat.le_of_ble_eq_true rfl) (cz_w wc_X4 2 rfl) rfl rfl (tyX4_ok 1 (Nat.le_of_ble_eq_true rfl)) rfl rfl (by simp only [List.length_set, cz_fs_len, cz_df_len]; decide) (cz_d dc_X4 7 rfl) (fun H locs hP hD hS => ?_)
  exact fin H locs 73 ls _ _ u (Nat.le_of_ble_eq_true rfl) (Nat.le_of_ble_eq_true rfl) (cz_d dc_X4 8 rfl) hP hD hS
def st_X3 : List cz_St := [(2, 100, .int, 11, 3, 492), (2, 100, .int, 15, 4, 493), (2, 100, .int, 18, 5, 494), (2, 100, .int, 21, 6, 495), (2, 100, .int, 24, 7, 496), (2, 100, .int, 27, 8, 497), (2, 100, .int, 30, 9, 498), (2, 100, .boolean, 33, 10, 499), (2, 100, .long, 37, 11, 500)]
theorem so_X3 : cz_ok cX3_init RX3 TX3 14 4 st_X3 = true := by decide +kernel
def wk_X3 (cA : FieldType → ClassId) (h0 : Nat) (a1 : Nat) (a2 : Nat) (a3 : Nat) (u : Nat → Nat) : va_W := (h0, .inr (3, (((cz_fs (cz_df 14 tyX3) st_X3 ((List.range st_X3.length).map u)).set 0 (.ref a1)).set 1 (.ref a2)).set 2 (.ref a3))) :: ([] ++ cz_as cA st_X3 ((List.range st_X3.length).map u))
def dl_X3 : List (Nat × Instr × Nat) := [(0, .aload_n 0, 1), (1, .invokespecial 3, 3), (76, .aload_n 0, 1), (77, .aload_n 1, 1), (78, .putfield 41, 3), (81, .aload_n 0, 1), (82, .aload_n 2, 1), (83, .putfield 45, 3), (86, .aload_n 0, 1), (87, .aload_n 3, 1), (88, .putfield 49, 3), (91, .return_, 1)]
theorem dc_X3 : dl_X3.all (fun q => decide (decode cX3_init q.1 = .ok (q.2.1, q.2.2))) = true := by decide +kernel
def ww_X3 : List (Nat × Cond) := [(488, Cond.methodLink RX3 3 objectInit), (489, Cond.fieldLink RX3 41 RX3 (TX3 0).2.1 (TX3 0).2.2.1), (490, Cond.fieldLink RX3 45 RX3 (TX3 1).2.1 (TX3 1).2.2.1), (491, Cond.fieldLink RX3 49 RX3 (TX3 2).2.1 (TX3 2).2.2.1)]
theorem wc_X3 : ww_X3.all (fun t => decide (lw_tbl[t.1]? = some t.2)) = true := by decide +kernel
set_option maxRecDepth 20000 in
theorem qk_X3_init : Cond.code yX3_init cX3_init 4 none ∈ lw_tbl := qz_tb_2 (List.mem_of_getElem? (i := 147) rfl)
theorem k_X3 (l : Launch) (dC : Nat → ClassId) (dI : Nat → Nat → Nat) (cA : FieldType → ClassId) (h0 sz : Nat) (a1 : Nat) (a2 : Nat) (a3 : Nat) : cz_Met l yX3_init cX3_init 4 { frames := 1, cells := 9, slots := 900, locals := 31 } dC dI cA [.ref h0, .ref a1, .ref a2, .ref a3] (h0, .inr (3, cz_df 14 tyX3)) sz (wk_X3 cA h0 a1 a2 a3) := by
  refine cz_enter (T := TX3) (N := 14) (i0 := 3) (by decide) rfl rfl rfl (Nat.le_of_ble_eq_true rfl) (cz_d dc_X3 0 rfl) (cz_d dc_X3 1 rfl) (cz_w wc_X3 0 rfl) cz_oi1 cz_oi2 (Nat.le_of_ble_eq_true rfl) (Nat.le_of_ble_eq_true rfl) ?_
  intro p e s m args below meth c ls Z F hN hml hl hP hD hS fin
  refine cz_steps F (lv_at hl 0 rfl) st_X3 4 (cz_df 14 tyX3) [] s.heap [] 0 0 so_X3 (cz_df_len _ _) hP hD hS (Nat.le_of_ble_eq_true rfl) (Nat.le_of_ble_eq_true rfl) (fun qs H locs hq hP hD hS => ?_)
  obtain ⟨u, rfl⟩ := cz_fun hq
  show W p l e _ s m args below meth c H locs _ _ Z (F0 m 76 ls [])
  refine lv_aload_n F.1 F.2.1 (cz_d dc_X3 2 rfl) rfl (lv_at hl 0 rfl) ?_
  refine lv_aload_n F.1 F.2.1 (cz_d dc_X3 3 rfl) rfl (lv_at hl 1 rfl) ?_
  refine cz_put F hP hD hS 0 41 (Nat.le_of_ble_eq_true rfl) (cz_w wc_X3 1 rfl) rfl rfl (tyX3_ok 0 (Nat.le_of_ble_eq_true rfl)) rfl rfl (by simp only [List.length_set, cz_fs_len, cz_df_len]; decide) (cz_d dc_X3 4 rfl) (fun H locs hP hD hS => ?_)
  refine lv_aload_n F.1 F.2.1 (cz_d dc_X3 5 rfl) rfl (lv_at hl 0 rfl) ?_
  refine lv_aload_n F.1 F.2.1 (cz_d dc_X3 6 rfl) rfl (lv_at hl 2 rfl) ?_
  refine cz_put F hP hD hS 1 45 (Nat.le_of_ble_eq_true rfl) (cz_w wc_X3 2 rfl) rfl rfl (tyX3_ok 1 (Nat.le_of_ble_eq_true rfl)) rfl rfl (by simp only [List.length_set, cz_fs_len, cz_df_len]; decide) (cz_d dc_X3 7 rfl) (fun H locs hP hD hS => ?_)
  refine lv_aload_n F.1 F.2.1 (cz_d dc_X3 8 rfl) rfl (lv_at hl 0 rfl) ?_
  refine lv_aload_n F.1 F.2.1 (cz_d dc_X3 9 rfl) rfl (lv_at hl 3 rfl) ?_
  refine cz_put F hP hD hS 2 49 (Nat.le_of_ble_eq_true rfl) (cz_w wc_X3 3 rfl) rfl rfl (tyX3_ok 2 (Nat.le_of_ble_eq_true rfl)) rfl rfl (by simp only [List.length_set, cz_fs_len, cz_df_len]; decide) (cz_d dc_X3 10 rfl) (fun H locs hP hD hS => ?_)
  exact fin H locs 91 ls _ _ u (Nat.le_of_ble_eq_true rfl) (Nat.le_of_ble_eq_true rfl) (cz_d dc_X3 11 rfl) hP hD hS
def st_X0 : List cz_St := [(2, 100, .int, 11, 1, 539), (2, 100, .int, 17, 2, 540), (2, 100, .boolean, 20, 3, 541)]
theorem so_X0 : cz_ok cX0_init RX0 TX0 6 4 st_X0 = true := by decide +kernel
def wk_X0 (cA : FieldType → ClassId) (h0 : Nat) (a1 : Nat) (u : Nat → Nat) : va_W := (h0, .inr (0, (cz_fs (cz_df 6 tyX0) st_X0 ((List.range st_X0.length).map u)).set 0 (.ref a1))) :: ([] ++ cz_as cA st_X0 ((List.range st_X0.length).map u))
def dl_X0 : List (Nat × Instr × Nat) := [(0, .aload_n 0, 1), (1, .invokespecial 3, 3), (28, .aload_n 0, 1), (29, .aload_n 1, 1), (30, .putfield 24, 3), (33, .return_, 1)]
theorem dc_X0 : dl_X0.all (fun q => decide (decode cX0_init q.1 = .ok (q.2.1, q.2.2))) = true := by decide +kernel
def ww_X0 : List (Nat × Cond) := [(537, Cond.methodLink RX0 3 objectInit), (538, Cond.fieldLink RX0 24 RX0 (TX0 0).2.1 (TX0 0).2.2.1)]
theorem wc_X0 : ww_X0.all (fun t => decide (lw_tbl[t.1]? = some t.2)) = true := by decide +kernel
set_option maxRecDepth 20000 in
theorem qk_X0_init : Cond.code yX0_init cX0_init 2 none ∈ lw_tbl := qz_tb_2 (List.mem_of_getElem? (i := 196) rfl)
theorem k_X0 (l : Launch) (dC : Nat → ClassId) (dI : Nat → Nat → Nat) (cA : FieldType → ClassId) (h0 sz : Nat) (a1 : Nat) : cz_Met l yX0_init cX0_init 2 { frames := 1, cells := 3, slots := 300, locals := 31 } dC dI cA [.ref h0, .ref a1] (h0, .inr (0, cz_df 6 tyX0)) sz (wk_X0 cA h0 a1) := by
  refine cz_enter (T := TX0) (N := 6) (i0 := 3) (by decide) rfl rfl rfl (Nat.le_of_ble_eq_true rfl) (cz_d dc_X0 0 rfl) (cz_d dc_X0 1 rfl) (cz_w wc_X0 0 rfl) cz_oi1 cz_oi2 (Nat.le_of_ble_eq_true rfl) (Nat.le_of_ble_eq_true rfl) ?_
  intro p e s m args below meth c ls Z F hN hml hl hP hD hS fin
  refine cz_steps F (lv_at hl 0 rfl) st_X0 4 (cz_df 6 tyX0) [] s.heap [] 0 0 so_X0 (cz_df_len _ _) hP hD hS (Nat.le_of_ble_eq_true rfl) (Nat.le_of_ble_eq_true rfl) (fun qs H locs hq hP hD hS => ?_)
  obtain ⟨u, rfl⟩ := cz_fun hq
  show W p l e _ s m args below meth c H locs _ _ Z (F0 m 28 ls [])
  refine lv_aload_n F.1 F.2.1 (cz_d dc_X0 2 rfl) rfl (lv_at hl 0 rfl) ?_
  refine lv_aload_n F.1 F.2.1 (cz_d dc_X0 3 rfl) rfl (lv_at hl 1 rfl) ?_
  refine cz_put F hP hD hS 0 24 (Nat.le_of_ble_eq_true rfl) (cz_w wc_X0 1 rfl) rfl rfl (tyX0_ok 0 (Nat.le_of_ble_eq_true rfl)) rfl rfl (by simp only [List.length_set, cz_fs_len, cz_df_len]; decide) (cz_d dc_X0 4 rfl) (fun H locs hP hD hS => ?_)
  exact fin H locs 33 ls _ _ u (Nat.le_of_ble_eq_true rfl) (Nat.le_of_ble_eq_true rfl) (cz_d dc_X0 5 rfl) hP hD hS
