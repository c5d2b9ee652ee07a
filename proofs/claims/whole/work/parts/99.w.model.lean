/-! the constructor of the reference -/
def st_X12 : List cz_St := [(2, 40, .boolean, 7, 4, 1404), (2, 40, .int, 13, 5, 1405), (2, 40, .int, 17, 6, 1406), (2, 40, .int, 20, 7, 1407), (2, 40, .int, 23, 8, 1408), (2, 40, .int, 26, 9, 1409), (3, 200, .int, 29, 10, 1410), (3, 200, .int, 32, 11, 1411), (3, 200, .int, 35, 12, 1412), (3, 200, .int, 38, 13, 1413), (2, 80, .int, 41, 14, 1414), (2, 80, .int, 44, 15, 1415), (2, 80, .int, 47, 16, 1416), (2, 80, .int, 50, 17, 1417), (2, 80, .int, 53, 18, 1418), (2, 80, .int, 56, 19, 1419), (2, 80, .int, 59, 20, 1420), (2, 80, .int, 62, 21, 1421), (3, 320, .int, 65, 22, 1422), (3, 320, .int, 68, 23, 1423), (3, 200, .byte, 71, 24, 1424), (3, 220, .int, 75, 34, 1434), (3, 220, .int, 78, 35, 1435), (2, 12, .int, 81, 36, 1436), (2, 12, .int, 84, 37, 1437), (2, 12, .int, 87, 38, 1438), (2, 12, .int, 90, 39, 1439), (2, 12, .int, 93, 40, 1440), (3, 4400, .int, 96, 42, 1442), (2, 20, .int, 99, 43, 1443), (2, 20, .int, 102, 44, 1444), (2, 20, .int, 105, 45, 1445), (2, 20, .int, 108, 46, 1446), (3, 240, .int, 111, 47, 1447), (3, 240, .int, 114, 48, 1448), (3, 240, .int, 117, 49, 1449), (3, 240, .int, 120, 50, 1450), (3, 240, .int, 123, 51, 1451), (3, 240, .boolean, 126, 52, 1452), (3, 220, .int, 129, 53, 1453), (2, 8, .int, 132, 54, 1454), (2, 12, .int, 135, 57, 1457), (2, 96, .int, 138, 58, 1458), (3, 300, .int, 141, 59, 1459), (3, 300, .int, 144, 60, 1460), (3, 300, .int, 147, 61, 1461), (3, 300, .int, 150, 62, 1462), (3, 300, .int, 153, 63, 1463), (3, 200, .int, 156, 64, 1464), (3, 200, .int, 159, 65, 1465), (3, 200, .int, 162, 66, 1466), (3, 200, .int, 165, 67, 1467), (3, 200, .int, 168, 74, 1474), (3, 200, .int, 171, 75, 1475), (3, 200, .int, 174, 76, 1476), (2, 100, .int, 177, 77, 1477), (2, 100, .int, 180, 78, 1478), (2, 100, .int, 183, 79, 1479), (2, 100, .int, 186, 80, 1480), (2, 100, .int, 189, 81, 1481), (2, 100, .int, 192, 82, 1482), (2, 100, .int, 195, 83, 1483), (2, 100, .boolean, 198, 84, 1484), (3, 300, .int, 201, 85, 1485), (3, 300, .long, 204, 86, 1486), (2, 8, .int, 208, 88, 1488), (2, 8, .int, 211, 89, 1489), (3, 320, .boolean, 214, 90, 1490), (2, 80, .boolean, 217, 91, 1491), (2, 100, .int, 220, 92, 1492), (2, 100, .boolean, 223, 93, 1493)]
theorem so_X12 : cz_ok cX12_init RX12 TX12 94 4 st_X12 = true := by decide +kernel
def fs_X12 (u : Nat → Nat) : List Value := cz_fs (cz_df 94 tyX12) st_X12 ((List.range st_X12.length).map u)
def rs_X12 (cA : FieldType → ClassId) (u : Nat → Nat) : va_W := (((cz_as cA st_X12 ((List.range st_X12.length).map u)) : va_W).eraseIdx 5).eraseIdx 2
def wk_X12 (cA : FieldType → ClassId) (h0 : Nat) (u : Nat → Nat) : va_W := ((h0, .inr (12, fs_X12 u)) :: (u 2, .inl (cA .int, 40, .inl (fun _ => -1))) :: (u 5, .inl (cA .int, 40, .inl (fun _ => -1))) :: rs_X12 cA u)
def dl_X12 : List (Nat × Instr × Nat) := [(0, .aload_n 0, 1), (1, .invokespecial 1, 3), (606, .iload_n 1, 1), (607, .bipush 40, 2), (609, .if_icmp .ge 23, 3), (612, .aload_n 0, 1), (613, .getfield 17, 3), (616, .iload_n 1, 1), (617, .iconst (-1), 1), (618, .iastore, 1), (619, .aload_n 0, 1), (620, .getfield 26, 3), (623, .iload_n 1, 1), (624, .iconst (-1), 1), (625, .iastore, 1), (626, .iinc 1 1, 3), (629, .goto (-23), 3), (604, .iconst 0, 1), (605, .istore_n 1, 1), (632, .return_, 1)]
theorem dc_X12 : dl_X12.all (fun q => decide (decode cX12_init q.1 = .ok (q.2.1, q.2.2))) = true := by decide +kernel
def ww_X12 : List (Nat × Cond) := [(1399, Cond.methodLink RX12 1 objectInit), (1406, Cond.fieldLink RX12 17 RX12 (TX12 6).2.1 (TX12 6).2.2.1), (1409, Cond.fieldLink RX12 26 RX12 (TX12 9).2.1 (TX12 9).2.2.1)]
theorem wc_X12 : ww_X12.all (fun t => decide (lw_tbl[t.1]? = some t.2)) = true := by decide +kernel
set_option maxRecDepth 20000 in
theorem qk_X12_init : Cond.code yX12_init cX12_init 2 none ∈ lw_tbl := qz_tb_6 (List.mem_of_getElem? (i := 98) rfl)
theorem k_X12_loop {p : Program} {l : Launch} {e : Env} {Rm : Room} {s : State} {m : MethodId} {args : Array Value} {below : List Frame} {meth : Method} {c : Code} {Z : State → Prop} {dC : Nat → ClassId} {dI : Nat → Nat → Nat} {cA : FieldType → ClassId} {A : Nat → Prop} {h0 b1 b2 cells slots : Nat} {fs : List Value} {rs : va_W} (F : cz_F p s m args meth c cX12_init dC dI cA A RX12 TX12 94 12) (hv1 : fs[6]? = some (.ref b1)) (hv2 : fs[9]? = some (.ref b2)) (fin : ∀ (H : Heap) (locs : List Loc) (ls : Array Slot), va_P (dC, dI) qz_cls ((h0, .inr (12, fs)) :: (b1, .inl (cA .int, 40, .inl (fun _ => -1))) :: (b2, .inl (cA .int, 40, .inl (fun _ => -1))) :: rs) H → va_D A ((h0, .inr (12, fs)) :: (b1, .inl (cA .int, 40, .inl (fun _ => -1))) :: (b2, .inl (cA .int, 40, .inl (fun _ => -1))) :: rs) → va_S A s.heap H locs → W p l e Rm s m args below meth c H locs cells slots Z (F0 m 632 ls [])) : ∀ (fu k : Nat) (g1 g2 : Nat → Int32) (H : Heap) (locs : List Loc) (ls : Array Slot), k + fu = 40 → (∀ j, j < k → g1 j = -1) → (∀ j, j < k → g2 j = -1) → va_P (dC, dI) qz_cls ((h0, .inr (12, fs)) :: (b1, .inl (cA .int, 40, .inl g1)) :: (b2, .inl (cA .int, 40, .inl g2)) :: rs) H → va_D A ((h0, .inr (12, fs)) :: (b1, .inl (cA .int, 40, .inl g1)) :: (b2, .inl (cA .int, 40, .inl g2)) :: rs) → va_S A s.heap H locs → lv_has ls 2 [(1, .int (nI k)), (0, .ref h0)] → W p l e Rm s m args below meth c H locs cells slots Z (F0 m 606 ls []) := by
  have hx := F.1
  have hb := F.2.1
  have hK := F.2.2.2.2.2.1
  intro fu
  induction fu with
  | zero =>
    intro k g1 g2 H locs ls hk h1 h2 hP hD hS hl
    have ek : k = 40 := by omega
    subst ek
    refine lv_iload_n hx hb (cz_d dc_X12 2 rfl) rfl (lv_at hl 0 rfl) ?_
    refine lv_bipush (v := 40) hx hb (cz_d dc_X12 3 rfl) (by decide) ?_
    refine lv_icmp_ge (tgt := 632) hx hb (cz_d dc_X12 4 rfl) (by decide) (fun _ => ?_) (fun z => absurd (Int32.le_refl _) z)
    have hP1 := cz_setP (k := 1) (f' := fun _ => -1) hP rfl h1
    have hP2 := cz_setP (k := 2) (f' := fun _ => -1) hP1 rfl h2
    have hD1 := hD.set (p := 1) (e := .inl (cA .int, 40, .inl (fun _ => -1))) rfl
    have hD2 := hD1.set (p := 2) (e := .inl (cA .int, 40, .inl (fun _ => -1))) rfl
    exact fin H locs ls hP2 hD2 hS
  | succ fu ih =>
    intro k g1 g2 H locs ls hk h1 h2 hP hD hS hl
    refine lv_iload_n hx hb (cz_d dc_X12 2 rfl) rfl (lv_at hl 0 rfl) ?_
    refine lv_bipush (v := 40) hx hb (cz_d dc_X12 3 rfl) (by decide) ?_
    refine lv_icmp_ge (tgt := 632) hx hb (cz_d dc_X12 4 rfl) (by decide) (fun z => ?_) (fun _ => ?_)
    · rw [show (40 : Int32) = nI 40 from by decide, nI_leI (by omega) (by omega)] at z
      omega
    have hin : vp_in (nI k) 40 := qz_vi (by rw [nI_toInt (by omega)]; omega) (by rw [nI_toInt (by omega)]; omega)
    have eup : ∀ g : Nat → Int32, (∀ j, j < k → g j = -1) → ∀ j, j < k + 1 → upd g (nI k).toNatClampNeg (-1) j = -1 := fun g hg j hj => by
      rw [nI_clamp (by omega)]
      show (if j = k then (-1 : Int32) else g j) = -1
      by_cases c1 : j = k
      · rw [if_pos c1]
      · rw [if_neg c1]; exact hg j (by omega)
    refine lv_aload_n hx hb (cz_d dc_X12 5 rfl) rfl (lv_at hl 1 rfl) ?_
    refine cz_get F hP 6 17 (Nat.le_of_ble_eq_true rfl) (cz_w wc_X12 1 rfl) rfl hv1 (cz_d dc_X12 6 rfl) ?_
    refine lv_iload_n hx hb (cz_d dc_X12 7 rfl) rfl (lv_at hl 0 rfl) ?_
    refine lv_iconst (v := -1) hx hb (cz_d dc_X12 8 rfl) (by decide) ?_
    refine va_iast hx hb hK hP hD hS 1 0 rfl rfl hin (cz_d dc_X12 9 rfl) (fun H locs hP hD hS => ?_)
    have hP : va_P (dC, dI) qz_cls ((h0, .inr (12, fs)) :: (b1, .inl (cA .int, 40, .inl (upd g1 (nI k).toNatClampNeg (-1)))) :: (b2, .inl (cA .int, 40, .inl g2)) :: rs) H := hP
    have hD : va_D A ((h0, .inr (12, fs)) :: (b1, .inl (cA .int, 40, .inl (upd g1 (nI k).toNatClampNeg (-1)))) :: (b2, .inl (cA .int, 40, .inl g2)) :: rs) := hD
    refine lv_aload_n hx hb (cz_d dc_X12 10 rfl) rfl (lv_at hl 1 rfl) ?_
    refine cz_get F hP 9 26 (Nat.le_of_ble_eq_true rfl) (cz_w wc_X12 2 rfl) rfl hv2 (cz_d dc_X12 11 rfl) ?_
    refine lv_iload_n hx hb (cz_d dc_X12 12 rfl) rfl (lv_at hl 0 rfl) ?_
    refine lv_iconst (v := -1) hx hb (cz_d dc_X12 13 rfl) (by decide) ?_
    refine va_iast hx hb hK hP hD hS 2 0 rfl rfl hin (cz_d dc_X12 14 rfl) (fun H locs hP hD hS => ?_)
    refine lv_iinc (v := nI (k + 1)) (lv' := [(1, .int (nI (k + 1))), (0, .ref h0)]) hx hb (cz_d dc_X12 15 rfl) hl (k := 0) rfl (nI_1 k) (by decide) rfl (fun ls hl => ?_)
    refine lv_goto (tgt := 606) hx hb (cz_d dc_X12 16 rfl) (by decide) ?_
    exact ih (k + 1) _ _ H locs ls (by omega) (eup g1 h1) (eup g2 h2) hP hD hS hl
def cz_find : List cz_St → Nat → Nat → Option Nat
  | [], _, _ => none
  | t :: r, k, i => match cz_find r k (i + 1) with
    | some j => some j
    | none => if t.2.2.2.2.1 = k then some i else none
def cz_sel (u : Nat → Nat) (n k : Nat) (d : Option Value) : Option Nat → Option Value
  | some j => if k < n then some (.ref (u j)) else none
  | none => d
theorem cz_fs_get : ∀ (L : List cz_St) (qs : List Nat) (fs : List Value) (u : Nat → Nat) (i k : Nat), qs.length = L.length → (∀ j, j < L.length → qs[j]? = some (u (i + j))) → (cz_fs fs L qs)[k]? = cz_sel u fs.length k fs[k]? (cz_find L k i)
  | [], _, _, _, _, _, _, _ => rfl
  | _ :: _, [], _, _, _, _, h, _ => absurd h (by simp)
  | t :: r, q :: qs, fs, u, i, k, h, hq => by
    have e0 : q = u i := by
      have := hq 0 (by rw [List.length_cons]; omega)
      simpa using this
    show (cz_fs (fs.set t.2.2.2.2.1 (.ref q)) r qs)[k]? = _
    rw [cz_fs_get r qs _ u (i + 1) k (by simpa using h) (fun j hj => by
      have := hq (j + 1) (by rw [List.length_cons]; omega)
      rw [List.getElem?_cons_succ] at this
      rw [this]
      congr 2
      omega), List.length_set]
    rw [show cz_find (t :: r) k i = (match cz_find r k (i + 1) with
      | some j => some j
      | none => if t.2.2.2.2.1 = k then some i else none) from rfl]
    cases cz_find r k (i + 1) with
    | some j => rfl
    | none =>
      show (fs.set t.2.2.2.2.1 (.ref q))[k]? = cz_sel u fs.length k fs[k]? (if t.2.2.2.2.1 = k then some i else none)
      by_cases c : t.2.2.2.2.1 = k
      · rw [if_pos c, c, e0, List.getElem?_set]
        simp [cz_sel]
      · rw [if_neg c, List.getElem?_set_ne c]
        rfl
theorem fs_X12_get (u : Nat → Nat) (k : Nat) (hk : k < 94) : (fs_X12 u)[k]? = cz_sel u 94 k (some (defaultValue (tyX12 k))) (cz_find st_X12 k 0) := by
  unfold fs_X12
  rw [cz_fs_get st_X12 _ _ u 0 k (by rw [List.length_map, List.length_range]) (fun j hj => by rw [List.getElem?_map, List.getElem?_eq_getElem (by rw [List.length_range]; exact hj), List.getElem_range]; simp), cz_df_len]
  congr 1
  unfold cz_df
  simp [hk]
theorem fs_X12_1 (u : Nat → Nat) : (fs_X12 u)[6]? = some (.ref (u 2)) := by
  rw [fs_X12_get u 6 (by omega), show cz_find st_X12 6 0 = some 2 from by decide]
  rfl
theorem fs_X12_2 (u : Nat → Nat) : (fs_X12 u)[9]? = some (.ref (u 5)) := by
  rw [fs_X12_get u 9 (by omega), show cz_find st_X12 9 0 = some 5 from by decide]
  rfl
set_option maxRecDepth 100000 in
set_option maxHeartbeats 4000000 in
theorem ws_X12_P (cA : FieldType → ClassId) (h0 : Nat) (u : Nat → Nat) : ([0, 3, 6, 1, 2, 4, 5, 7, 8, 9, 10, 11, 12, 13, 14, 15, 16, 17, 18, 19, 20, 21, 22, 23, 24, 25, 26, 27, 28, 29, 30, 31, 32, 33, 34, 35, 36, 37, 38, 39, 40, 41, 42, 43, 44, 45, 46, 47, 48, 49, 50, 51, 52, 53, 54, 55, 56, 57, 58, 59, 60, 61, 62, 63, 64, 65, 66, 67, 68, 69, 70, 71] : List Nat).map (fun i => ((h0, .inr (12, fs_X12 u)) :: ([] ++ cz_as cA st_X12 ((List.range st_X12.length).map u)) : va_W)[i]?) = (((h0, .inr (12, fs_X12 u)) :: (u 2, .inl (cA .int, 40, .inl (fun _ => 0))) :: (u 5, .inl (cA .int, 40, .inl (fun _ => 0))) :: rs_X12 cA u) : va_W).map some := rfl
theorem cz_fm {α β : Type} {f : α → Option β} {l : List α} {r : List β} (h : l.map f = r.map some) : l.filterMap f = r := by
  have h1 : (l.map f).filterMap id = (r.map some).filterMap id := by rw [h]
  rw [List.filterMap_map, List.filterMap_map] at h1
  simpa using h1
set_option maxRecDepth 100000 in
set_option maxHeartbeats 4000000 in
theorem k_X12 (l : Launch) (dC : Nat → ClassId) (dI : Nat → Nat → Nat) (cA : FieldType → ClassId) (h0 sz : Nat) : cz_Met l yX12_init cX12_init 2 { frames := 1, cells := 71, slots := 14192, locals := 31 } dC dI cA [.ref h0] (h0, .inr (12, cz_df 94 tyX12)) sz (wk_X12 cA h0) := by
  refine cz_enter (T := TX12) (N := 94) (i0 := 1) (by decide) rfl rfl rfl (Nat.le_of_ble_eq_true rfl) (cz_d dc_X12 0 rfl) (cz_d dc_X12 1 rfl) (cz_w wc_X12 0 rfl) cz_oi1 cz_oi2 (Nat.le_of_ble_eq_true rfl) (Nat.le_of_ble_eq_true rfl) ?_
  intro p e s m args below meth c ls Z F hN hml hl hP hD hS fin
  refine cz_steps F (lv_at hl 0 rfl) st_X12 4 (cz_df 94 tyX12) [] s.heap [] 0 0 so_X12 (cz_df_len _ _) hP hD hS (Nat.le_of_ble_eq_true rfl) (Nat.le_of_ble_eq_true rfl) (fun qs H locs hq hP hD hS => ?_)
  obtain ⟨u, rfl⟩ := cz_fun hq
  show W p l e _ s m args below meth c H locs _ _ Z (F0 m 604 ls [])
  have hP2 : va_P (dC, dI) qz_cls ((h0, .inr (12, fs_X12 u)) :: (u 2, .inl (cA .int, 40, .inl (fun _ => 0))) :: (u 5, .inl (cA .int, 40, .inl (fun _ => 0))) :: rs_X12 cA u) H := hP.sub [0, 3, 6, 1, 2, 4, 5, 7, 8, 9, 10, 11, 12, 13, 14, 15, 16, 17, 18, 19, 20, 21, 22, 23, 24, 25, 26, 27, 28, 29, 30, 31, 32, 33, 34, 35, 36, 37, 38, 39, 40, 41, 42, 43, 44, 45, 46, 47, 48, 49, 50, 51, 52, 53, 54, 55, 56, 57, 58, 59, 60, 61, 62, 63, 64, 65, 66, 67, 68, 69, 70, 71] (cz_fm (ws_X12_P cA h0 u))
  have hD2 : va_D (va_A [(h0, .inr (12, cz_df 94 tyX12))] s.heap.size) ((h0, .inr (12, fs_X12 u)) :: (u 2, .inl (cA .int, 40, .inl (fun _ => 0))) :: (u 5, .inl (cA .int, 40, .inl (fun _ => 0))) :: rs_X12 cA u) := hD.sub [0, 3, 6, 1, 2, 4, 5, 7, 8, 9, 10, 11, 12, 13, 14, 15, 16, 17, 18, 19, 20, 21, 22, 23, 24, 25, 26, 27, 28, 29, 30, 31, 32, 33, 34, 35, 36, 37, 38, 39, 40, 41, 42, 43, 44, 45, 46, 47, 48, 49, 50, 51, 52, 53, 54, 55, 56, 57, 58, 59, 60, 61, 62, 63, 64, 65, 66, 67, 68, 69, 70, 71] (by decide) (ws_X12_P cA h0 u)
  have hl : lv_has ls 2 [(0, .ref h0)] := hl
  refine lv_iconst (v := 0) F.1 F.2.1 (cz_d dc_X12 17 rfl) (by decide) ?_
  refine lv_istore_n (lv' := [(1, .int 0), (0, .ref h0)]) F.1 F.2.1 (cz_d dc_X12 18 rfl) rfl hl (by decide) rfl (fun ls hl => ?_)
  exact k_X12_loop F (fs_X12_1 u) (fs_X12_2 u) (fun H locs ls hP hD hS => fin H locs 632 ls _ _ u (Nat.le_of_ble_eq_true rfl) (Nat.le_of_ble_eq_true rfl) (cz_d dc_X12 19 rfl) hP hD hS) 40 0 _ _ H locs ls (by omega) (fun j hj => absurd hj (Nat.not_lt_zero _)) (fun j hj => absurd hj (Nat.not_lt_zero _)) hP2 hD2 hS hl
