/-! the links, checked by their places in the tables -/
def qz_chkF (t : Nat × Nat × Nat × Nat × Nat) : Bool := match qz_cls[t.2.2.1]? with
  | some q => Nat.blt t.2.2.2.1 q.2.2 && decide (lw_tbl[t.2.2.2.2]? = some (Cond.fieldLink (qz_on1 t.1) t.2.1 (q.2.1 t.2.2.2.1).1 (q.2.1 t.2.2.2.1).2.1 (q.2.1 t.2.2.2.1).2.2.1))
  | none => false
theorem qz_FL_chk : qz_FL.all qz_chkF = true := by decide +kernel
def qz_chkL (t : Nat × Nat × Nat × Nat) : Bool := decide (lw_tbl[t.2.2.2]? = some (Cond.methodLink (qz_on1 t.1) t.2.1 (qz_nm t.2.2.1)))
theorem qz_ML_chk : qz_ML.all qz_chkL = true := by decide +kernel
def qz_chkN (t : Nat × Nat × Nat × Nat) : Bool := decide (lw_tbl[t.2.2.2]? = some (Cond.methodLinkNest (qz_on1 t.1) t.2.1 (qz_nm t.2.2.1) "OrphanShelf"))
theorem qz_NL_chk : qz_NL.all qz_chkN = true := by decide +kernel
def qz_chkC (t : Nat × Nat × Int × Nat) : Bool := decide (lw_tbl[t.2.2.2]? = some (Cond.constant (qz_on1 t.1) t.2.1 (Int32.ofInt t.2.2.1)))
theorem qz_CN_chk : qz_CN.all qz_chkC = true := by decide +kernel
def qz_chkJ (t : Nat × Nat × Int × Nat) : Bool := decide (lw_tbl[t.2.2.2]? = some (Cond.constantLong (qz_on1 t.1) t.2.1 (Int64.ofInt t.2.2.1)))
theorem qz_JL_chk : qz_JL.all qz_chkJ = true := by decide +kernel
theorem qz_lays {C : String} {T : u_T} {N : Nat} (ps : List Nat) (h : (List.range N).all (fun k => match ps[k]? with
  | some p => decide (lw_tbl[p]? = some (u_lay C T k)) && goodWord (u_lay C T k)
  | none => false) = true) : ∀ w ∈ u_ws C T N, w ∈ qz_T := by
  intro w hw
  obtain ⟨k, hk, rfl⟩ := List.mem_map.mp hw
  have h1 := List.all_eq_true.mp h k hk
  cases hp : ps[k]? with
  | none => rw [hp] at h1; cases h1
  | some p =>
    rw [hp] at h1
    simp only [Bool.and_eq_true, decide_eq_true_eq] at h1
    exact qz_in_T (List.mem_of_getElem? h1.1) h1.2
def qz_lp_0 : List Nat := [544, 546, 548, 550, 552, 554]
theorem qz_lay_0 : ∀ w ∈ u_ws RX0 TX0 6, w ∈ qz_T := qz_lays qz_lp_0 (by decide +kernel)
def qz_lp_1 : List Nat := [291, 293, 295]
theorem qz_lay_1 : ∀ w ∈ u_ws RX1 TX1 3, w ∈ qz_T := qz_lays qz_lp_1 (by decide +kernel)
def qz_lp_2 : List Nat := [368, 370, 372, 374, 376, 378, 380, 382, 384, 386, 388, 390, 392, 394, 396, 398, 400, 402]
theorem qz_lay_2 : ∀ w ∈ u_ws RX2 TX2 18, w ∈ qz_T := qz_lays qz_lp_2 (by decide +kernel)
def qz_lp_3 : List Nat := [503, 505, 507, 509, 511, 513, 515, 517, 519, 521, 523, 525, 527, 529]
theorem qz_lay_3 : ∀ w ∈ u_ws RX3 TX3 14, w ∈ qz_T := qz_lays qz_lp_3 (by decide +kernel)
def qz_lp_4 : List Nat := [455, 457, 459, 461, 463, 465, 467, 469, 471, 473, 475, 477, 479]
theorem qz_lay_4 : ∀ w ∈ u_ws RX4 TX4 13, w ∈ qz_T := qz_lays qz_lp_4 (by decide +kernel)
def qz_lp_5 : List Nat := [158, 160, 162, 164, 166, 168, 170, 172, 174, 176]
theorem qz_lay_5 : ∀ w ∈ u_ws RX5 TX5 10, w ∈ qz_T := qz_lays qz_lp_5 (by decide +kernel)
def qz_lp_6 : List Nat := [323, 325, 327, 329, 331, 333, 335, 337, 339, 341, 343, 345, 347]
theorem qz_lay_6 : ∀ w ∈ u_ws RX6 TX6 13, w ∈ qz_T := qz_lays qz_lp_6 (by decide +kernel)
def qz_lp_7 : List Nat := [419, 421, 423, 425, 427, 429, 431, 433]
theorem qz_lay_7 : ∀ w ∈ u_ws RX7 TX7 8, w ∈ qz_T := qz_lays qz_lp_7 (by decide +kernel)
def qz_lp_8 : List Nat := [133, 135]
theorem qz_lay_8 : ∀ w ∈ u_ws RX8 TX8 2, w ∈ qz_T := qz_lays qz_lp_8 (by decide +kernel)
def qz_lp_9 : List Nat := [249, 251, 253, 255, 257, 259, 261, 263, 265, 267, 269, 271, 273, 275, 277, 279]
theorem qz_lay_9 : ∀ w ∈ u_ws RX9 TX9 16, w ∈ qz_T := qz_lays qz_lp_9 (by decide +kernel)
def qz_lp_10 : List Nat := [199, 201, 203, 205, 207, 209, 211, 213, 215, 217, 219, 221, 223]
theorem qz_lay_10 : ∀ w ∈ u_ws RX10 TX10 13, w ∈ qz_T := qz_lays qz_lp_10 (by decide +kernel)
def qz_lp_11 : List Nat := [568, 570, 572, 574, 576, 578, 580, 582, 584, 586, 588]
theorem qz_lay_11 : ∀ w ∈ u_ws RX11 TX11 11, w ∈ qz_T := qz_lays qz_lp_11 (by decide +kernel)
def qz_lp_12 : List Nat := [1494, 1496, 1498, 1500, 1502, 1504, 1506, 1508, 1510, 1512, 1514, 1516, 1518, 1520, 1522, 1524, 1526, 1528, 1530, 1532, 1534, 1536, 1538, 1540, 1542, 1544, 1546, 1548, 1550, 1552, 1554, 1556, 1558, 1560, 1562, 1564, 1566, 1568, 1570, 1572, 1574, 1576, 1578, 1580, 1582, 1584, 1586, 1588, 1590, 1592, 1594, 1596, 1598, 1600, 1602, 1604, 1606, 1608, 1610, 1612, 1614, 1616, 1618, 1620, 1622, 1624, 1626, 1628, 1630, 1632, 1634, 1636, 1638, 1640, 1642, 1644, 1646, 1648, 1650, 1652, 1654, 1656, 1658, 1660, 1662, 1664, 1666, 1668, 1670, 1672, 1674, 1676, 1678, 1680]
theorem qz_lay_12 : ∀ w ∈ u_ws RX12 TX12 94, w ∈ qz_T := qz_lays qz_lp_12 (by decide +kernel)
/-- what the stores need of a class: its layout's words, its fields' types, its fields' names apart -/
def qz_clsok (q : vw_C) : Prop := (∀ w ∈ u_ws q.1 q.2.1 q.2.2, w ∈ qz_T) ∧ ∃ ty : Nat → FieldType, (∀ k, k < q.2.2 → parseFieldDescriptor (q.2.1 k).2.2.1 = some (ty k)) ∧ ∀ a, a < q.2.2 → ∀ b, b < q.2.2 → a ≠ b → (q.2.1 a).2.1 ≠ (q.2.1 b).2.1
theorem qz_cls_ok : ∀ q ∈ qz_cls, qz_clsok q := by
  show ∀ q ∈ ([(RX0, TX0, 6), (RX1, TX1, 3), (RX2, TX2, 18), (RX3, TX3, 14), (RX4, TX4, 13), (RX5, TX5, 10), (RX6, TX6, 13), (RX7, TX7, 8), (RX8, TX8, 2), (RX9, TX9, 16), (RX10, TX10, 13), (RX11, TX11, 11), (RX12, TX12, 94)] : List vw_C), qz_clsok q
  intro q hq
  simp only [List.mem_cons, List.not_mem_nil, or_false] at hq
  rcases hq with rfl | rfl | rfl | rfl | rfl | rfl | rfl | rfl | rfl | rfl | rfl | rfl | rfl
  · exact ⟨qz_lay_0, tyX0, tyX0_ok, nmX0⟩
  · exact ⟨qz_lay_1, tyX1, tyX1_ok, nmX1⟩
  · exact ⟨qz_lay_2, tyX2, tyX2_ok, nmX2⟩
  · exact ⟨qz_lay_3, tyX3, tyX3_ok, nmX3⟩
  · exact ⟨qz_lay_4, tyX4, tyX4_ok, nmX4⟩
  · exact ⟨qz_lay_5, tyX5, tyX5_ok, nmX5⟩
  · exact ⟨qz_lay_6, tyX6, tyX6_ok, nmX6⟩
  · exact ⟨qz_lay_7, tyX7, tyX7_ok, nmX7⟩
  · exact ⟨qz_lay_8, tyX8, tyX8_ok, nmX8⟩
  · exact ⟨qz_lay_9, tyX9, tyX9_ok, nmX9⟩
  · exact ⟨qz_lay_10, tyX10, tyX10_ok, nmX10⟩
  · exact ⟨qz_lay_11, tyX11, tyX11_ok, nmX11⟩
  · exact ⟨qz_lay_12, tyX12, tyX12_ok, nmX12⟩
/-- what a call needs of a method: by its places in the tables -/
def qz_chkM (z : Nat) : Bool := match qz_MP[z]? with
  | some t => decide (lw_tbl[t.2.1]? = some (Cond.initialized (qz_nm z).cls)) && (bif Nat.beq (qz_sk z) 1 then decide (lw_tbl[t.2.2.1]? = some (Cond.static (qz_nm z))) else decide (lw_tbl[t.2.2.1]? = some (Cond.instanceMethod (qz_nm z))) && decide (lw_tbl[t.2.2.2]? = some (Cond.selects (qz_nm z).cls (qz_nm z) (qz_nm z)))) && decide ((qz_nm z).cls ≠ "java/lang/invoke/MethodHandle") && decide ((qz_nm z).cls ≠ "java/lang/invoke/VarHandle") && decide ((parseMethodDescriptor (qz_nm z).desc).map (fun d => d.parameters.length) = some (qz_np z)) && decide ((qz_nm z).cls = qz_ow z) && Nat.ble (qz_mx z) 12
  | none => false
theorem qz_ms_chk_0 : qz_ms_0.all qz_chkM = true := by decide +kernel
theorem qz_ms_chk_1 : qz_ms_1.all qz_chkM = true := by decide +kernel
theorem qz_ms_chk_2 : qz_ms_2.all qz_chkM = true := by decide +kernel
theorem qz_ms_chk_3 : qz_ms_3.all qz_chkM = true := by decide +kernel
theorem qz_ms_chk_4 : qz_ms_4.all qz_chkM = true := by decide +kernel
theorem qz_ms_chk_5 : qz_ms_5.all qz_chkM = true := by decide +kernel
theorem qz_ms_chk : qz_ms.all qz_chkM = true := by
  show (qz_ms_0 ++ qz_ms_1 ++ qz_ms_2 ++ qz_ms_3 ++ qz_ms_4 ++ qz_ms_5).all qz_chkM = true
  simp only [List.all_append, Bool.and_eq_true]
  exact ⟨⟨⟨⟨⟨qz_ms_chk_0, qz_ms_chk_1⟩, qz_ms_chk_2⟩, qz_ms_chk_3⟩, qz_ms_chk_4⟩, qz_ms_chk_5⟩
