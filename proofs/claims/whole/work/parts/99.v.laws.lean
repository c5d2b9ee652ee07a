/-! the constructor of Laws, with its Reader -/
def st_X2 : List cz_St := [(2, 20, .int, 11, 3, 353), (2, 20, .int, 15, 4, 354), (2, 20, .int, 18, 5, 355), (2, 20, .int, 21, 6, 356), (2, 20, .int, 24, 7, 357), (3, 240, .int, 27, 8, 358), (3, 240, .int, 30, 9, 359), (3, 240, .int, 33, 10, 360), (3, 240, .int, 36, 11, 361), (3, 240, .int, 39, 12, 362), (2, 8, .int, 42, 13, 363), (2, 9, .int, 45, 14, 364)]
theorem so_X2 : cz_ok cX2_init RX2 TX2 18 4 st_X2 = true := by decide +kernel
def wk_X2 (cA : FieldType → ClassId) (h0 : Nat) (a1 : Nat) (a2 : Nat) (a3 : Nat) (u : Nat → Nat) : va_W := (h0, .inr (2, (((cz_fs (cz_df 18 tyX2) st_X2 ((List.range st_X2.length).map u)).set 0 (.ref a2)).set 1 (.ref a3)).set 2 (.ref (u 12)))) :: (([] ++ cz_as cA st_X2 ((List.range st_X2.length).map u)) ++ wk_X6 cA (u 12) a1 (fun i => u (13 + i)))
def dl_X2 : List (Nat × Instr × Nat) := [(0, .aload_n 0, 1), (1, .invokespecial 3, 3), (105, .aload_n 0, 1), (106, .aload_n 2, 1), (107, .putfield 48, 3), (110, .aload_n 0, 1), (111, .aload_n 3, 1), (112, .putfield 52, 3), (115, .aload_n 0, 1), (120, .aload_n 1, 1), (116, .new 56, 3), (119, .dup, 1), (121, .invokespecial 58, 3), (124, .putfield 61, 3), (127, .return_, 1)]
theorem dc_X2 : dl_X2.all (fun q => decide (decode cX2_init q.1 = .ok (q.2.1, q.2.2))) = true := by decide +kernel
def ww_X2 : List (Nat × Cond) := [(303, Cond.methodLink RX2 3 objectInit), (350, Cond.fieldLink RX2 48 RX2 (TX2 0).2.1 (TX2 0).2.2.1), (351, Cond.fieldLink RX2 52 RX2 (TX2 1).2.1 (TX2 1).2.2.1), (304, Cond.classLink RX2 56 RX6), (305, Cond.instantiable RX6 13), (109, Cond.initialized RX6), (109, Cond.initialized yX6_init.cls), (307, Cond.instanceMethod yX6_init), (306, Cond.methodLink RX2 58 yX6_init), (352, Cond.fieldLink RX2 61 RX2 (TX2 2).2.1 (TX2 2).2.2.1)]
theorem wc_X2 : ww_X2.all (fun t => decide (lw_tbl[t.1]? = some t.2)) = true := by decide +kernel
set_option maxRecDepth 20000 in
theorem qk_X2_init : Cond.code yX2_init cX2_init 4 none ∈ lw_tbl := qz_tb_1 (List.mem_of_getElem? (i := 202) rfl)
set_option maxHeartbeats 4000000 in
theorem k_X2 (l : Launch) (dC : Nat → ClassId) (dI : Nat → Nat → Nat) (cA : FieldType → ClassId) (h0 sz : Nat) (a1 : Nat) (a2 : Nat) (a3 : Nat) : cz_Met l yX2_init cX2_init 4 { frames := 2, cells := 15, slots := 5362, locals := 60 } dC dI cA [.ref h0, .ref a1, .ref a2, .ref a3] (h0, .inr (2, cz_df 18 tyX2)) sz (wk_X2 cA h0 a1 a2 a3) := by
  refine cz_enter (T := TX2) (N := 18) (i0 := 3) (by decide) rfl rfl rfl (Nat.le_of_ble_eq_true rfl) (cz_d dc_X2 0 rfl) (cz_d dc_X2 1 rfl) (cz_w wc_X2 0 rfl) cz_oi1 cz_oi2 (Nat.le_of_ble_eq_true rfl) (Nat.le_of_ble_eq_true rfl) ?_
  intro p e s m args below meth c ls Z F hN hml hl hP hD hS fin
  refine cz_steps F (lv_at hl 0 rfl) st_X2 4 (cz_df 18 tyX2) [] s.heap [] 0 0 so_X2 (cz_df_len _ _) hP hD hS (Nat.le_of_ble_eq_true rfl) (Nat.le_of_ble_eq_true rfl) (fun qs H locs hq hP hD hS => ?_)
  obtain ⟨u, rfl⟩ := cz_fun hq
  show W p l e _ s m args below meth c H locs _ _ Z (F0 m 105 ls [])
  refine lv_aload_n F.1 F.2.1 (cz_d dc_X2 2 rfl) rfl (lv_at hl 0 rfl) ?_
  refine lv_aload_n F.1 F.2.1 (cz_d dc_X2 3 rfl) rfl (lv_at hl 2 rfl) ?_
  refine cz_put F hP hD hS 0 48 (Nat.le_of_ble_eq_true rfl) (cz_w wc_X2 1 rfl) rfl rfl (tyX2_ok 0 (Nat.le_of_ble_eq_true rfl)) rfl rfl (by simp only [List.length_set, cz_fs_len, cz_df_len]; decide) (cz_d dc_X2 4 rfl) (fun H locs hP hD hS => ?_)
  refine lv_aload_n F.1 F.2.1 (cz_d dc_X2 5 rfl) rfl (lv_at hl 0 rfl) ?_
  refine lv_aload_n F.1 F.2.1 (cz_d dc_X2 6 rfl) rfl (lv_at hl 3 rfl) ?_
  refine cz_put F hP hD hS 1 52 (Nat.le_of_ble_eq_true rfl) (cz_w wc_X2 2 rfl) rfl rfl (tyX2_ok 1 (Nat.le_of_ble_eq_true rfl)) rfl rfl (by simp only [List.length_set, cz_fs_len, cz_df_len]; decide) (cz_d dc_X2 7 rfl) (fun H locs hP hD hS => ?_)
  refine lv_aload_n F.1 F.2.1 (cz_d dc_X2 8 rfl) rfl (lv_at hl 0 rfl) ?_
  refine cz_new (ci := 6) (T := TX6) (N := 13) (ty := tyX6) F.1 F.2.1 F.2.2.2.1 F.2.2.1 F.2.2.2.2.2.1 F.2.2.2.2.2.2.1 rfl tyX6_ok (cz_w wc_X2 3 rfl) (cz_w wc_X2 4 rfl) (cz_w wc_X2 5 rfl) ⟨(Nat.le_of_ble_eq_true rfl), (Nat.le_of_ble_eq_true rfl)⟩ (cz_d dc_X2 10 rfl) hP hD hS (fun q H hP hD hS => ?_)
  refine lv_dup F.1 F.2.1 (cz_d dc_X2 11 rfl) rfl ?_
  refine lv_aload_n F.1 F.2.1 (cz_d dc_X2 9 rfl) rfl (lv_at hl 1 rfl) ?_
  refine cz_call (n := 1) (As := [.ref a1]) (rest := [.ref q, .ref h0]) F.1 F.2.1 hml F.2.2.2.1 F.2.2.1 F.2.2.2.2.2.1 hN F.2.2.2.2.2.2.1 hl.1 (k_X6 l dC dI cA q H.size a1) qk_X6_init (cz_w wc_X2 6 rfl) (cz_w wc_X2 7 rfl) (Or.inl (cz_w wc_X2 8 rfl)) rfl (by decide +kernel) rfl ⟨(Nat.le_of_ble_eq_true rfl), (Nat.le_of_ble_eq_true rfl)⟩ ⟨(Nat.le_of_ble_eq_true rfl), (Nat.le_of_ble_eq_true rfl)⟩ (Nat.le_of_ble_eq_true rfl) (cz_d dc_X2 12 rfl) hP hD hS (fun u2 H locs hP hD hS => ?_)
  have hP : va_P (dC, dI) qz_cls ((h0, .inr (2, ((cz_fs (cz_df 18 tyX2) st_X2 ((List.range st_X2.length).map u)).set 0 (.ref a2)).set 1 (.ref a3))) :: (([] ++ cz_as cA st_X2 ((List.range st_X2.length).map u)) ++ wk_X6 cA q a1 u2)) H := hP
  have hD : va_D (va_A [(h0, .inr (2, cz_df 18 tyX2))] s.heap.size) ((h0, .inr (2, ((cz_fs (cz_df 18 tyX2) st_X2 ((List.range st_X2.length).map u)).set 0 (.ref a2)).set 1 (.ref a3))) :: (([] ++ cz_as cA st_X2 ((List.range st_X2.length).map u)) ++ wk_X6 cA q a1 u2)) := hD
  refine cz_put F hP hD hS 2 61 (Nat.le_of_ble_eq_true rfl) (cz_w wc_X2 9 rfl) rfl rfl (tyX2_ok 2 (Nat.le_of_ble_eq_true rfl)) rfl rfl (by simp only [List.length_set, cz_fs_len, cz_df_len]; decide) (cz_d dc_X2 13 rfl) (fun H locs hP hD hS => ?_)
  exact fin H locs 127 ls _ _ (fun i => if i < 12 then u i else if i = 12 then q else u2 (i - 13)) (Nat.le_of_ble_eq_true rfl) (Nat.le_of_ble_eq_true rfl) (cz_d dc_X2 14 rfl) hP hD hS
