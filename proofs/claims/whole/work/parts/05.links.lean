/-! the links, checked by their places in the tables -/
def qz_chkF (t : Nat × Nat × Nat × Nat × Nat) : Bool := match qz_cls[t.2.2.1]? with
  | some q => Nat.blt t.2.2.2.1 q.2.2 && decide (lw_tbl[t.2.2.2.2]? = some (Cond.fieldLink (qz_on1 t.1) t.2.1 (q.2.1 t.2.2.2.1).1 (q.2.1 t.2.2.2.1).2.1 (q.2.1 t.2.2.2.1).2.2.1))
  | none => false
theorem qz_FL_chk : qz_FL.all qz_chkF = true := by decide +kernel
def qz_chkL (t : Nat × Nat × Nat × Nat) : Bool := decide (lw_tbl[t.2.2.2]? = some (Cond.methodLink (qz_on1 t.1) t.2.1 (qz_nm t.2.2.1)))
theorem qz_ML_chk : qz_ML.all qz_chkL = true := by decide +kernel
def qz_chkN (t : Nat × Nat × Nat × Nat) : Bool := decide (lw_tbl[t.2.2.2]? = some (Cond.methodLinkNest (qz_on1 t.1) t.2.1 (qz_nm t.2.2.1) "OrphanShelf"))
theorem qz_NL_chk : qz_NL.all qz_chkN = true := by decide +kernel
def qz_chkC (t : Nat × Nat × Int × Nat) : Bool := decide (lw_tbl[t.2.2.2]? = some (Cond.constant (qz_on1 t.1) t.2.1 (Int32.ofInt t.2.2.1)))
theorem qz_CN_chk : qz_CN.all qz_chkC = true := by decide +kernel
def qz_chkJ (t : Nat × Nat × Int × Nat) : Bool := decide (lw_tbl[t.2.2.2]? = some (Cond.constantLong (qz_on1 t.1) t.2.1 (Int64.ofInt t.2.2.1)))
theorem qz_JL_chk : qz_JL.all qz_chkJ = true := by decide +kernel
theorem qz_lays {C : String} {T : u_T} {N : Nat} (ps : List Nat) (h : (List.range N).all (fun k => match ps[k]? with
  | some p => decide (lw_tbl[p]? = some (u_lay C T k)) && goodWord (u_lay C T k)
  | none => false) = true) : ∀ w ∈ u_ws C T N, w ∈ qz_T := by
  intro w hw
  obtain ⟨k, hk, rfl⟩ := List.mem_map.mp hw
  have h1 := List.all_eq_true.mp h k hk
  cases hp : ps[k]? with
  | none => rw [hp] at h1; cases h1
  | some p =>
    rw [hp] at h1
    simp only [Bool.and_eq_true, decide_eq_true_eq] at h1
    exact qz_in_T (List.mem_of_getElem? h1.1) h1.2
def qz_lp_0 : List Nat := [545, 547, 549, 551, 553, 555]
theorem qz_lay_0 : ∀ w ∈ u_ws RX0 TX0 6, w ∈ qz_T := qz_lays qz_lp_0 (by decide +kernel)
def qz_lp_1 : List Nat := [292, 294, 296]
theorem qz_lay_1 : ∀ w ∈ u_ws RX1 TX1 3, w ∈ qz_T := qz_lays qz_lp_1 (by decide +kernel)
def qz_lp_2 : List Nat := [369, 371, 373, 375, 377, 379, 381, 383, 385, 387, 389, 391, 393, 395, 397, 399, 401, 403]
theorem qz_lay_2 : ∀ w ∈ u_ws RX2 TX2 18, w ∈ qz_T := qz_lays qz_lp_2 (by decide +kernel)
def qz_lp_3 : List Nat := [503, 505, 507, 509, 511, 513, 515, 517, 519, 521, 523, 525, 527, 529]
theorem qz_lay_3 : ∀ w ∈ u_ws RX3 TX3 14, w ∈ qz_T := qz_lays qz_lp_3 (by decide +kernel)
def qz_lp_4 : List Nat := [456, 458, 460, 462, 464, 466, 468, 470, 472, 474, 476, 478, 480]
theorem qz_lay_4 : ∀ w ∈ u_ws RX4 TX4 13, w ∈ qz_T := qz_lays qz_lp_4 (by decide +kernel)
def qz_lp_5 : List Nat := [159, 161, 163, 165, 167, 169, 171, 173, 175, 177]
theorem qz_lay_5 : ∀ w ∈ u_ws RX5 TX5 10, w ∈ qz_T := qz_lays qz_lp_5 (by decide +kernel)
def qz_lp_6 : List Nat := [324, 326, 328, 330, 332, 334, 336, 338, 340, 342, 344, 346, 348]
theorem qz_lay_6 : ∀ w ∈ u_ws RX6 TX6 13, w ∈ qz_T := qz_lays qz_lp_6 (by decide +kernel)
def qz_lp_7 : List Nat := [420, 422, 424, 426, 428, 430, 432, 434]
theorem qz_lay_7 : ∀ w ∈ u_ws RX7 TX7 8, w ∈ qz_T := qz_lays qz_lp_7 (by decide +kernel)
def qz_lp_8 : List Nat := [134, 136]
theorem qz_lay_8 : ∀ w ∈ u_ws RX8 TX8 2, w ∈ qz_T := qz_lays qz_lp_8 (by decide +kernel)
def qz_lp_9 : List Nat := [250, 252, 254, 256, 258, 260, 262, 264, 266, 268, 270, 272, 274, 276, 278, 280]
theorem qz_lay_9 : ∀ w ∈ u_ws RX9 TX9 16, w ∈ qz_T := qz_lays qz_lp_9 (by decide +kernel)
def qz_lp_10 : List Nat := [200, 202, 204, 206, 208, 210, 212, 214, 216, 218, 220, 222, 224]
theorem qz_lay_10 : ∀ w ∈ u_ws RX10 TX10 13, w ∈ qz_T := qz_lays qz_lp_10 (by decide +kernel)
def qz_lp_11 : List Nat := [569, 571, 573, 575, 577, 579, 581, 583, 585, 587, 589]
theorem qz_lay_11 : ∀ w ∈ u_ws RX11 TX11 11, w ∈ qz_T := qz_lays qz_lp_11 (by decide +kernel)
def qz_lp_12 : List Nat := [1497, 1499, 1501, 1503, 1505, 1507, 1509, 1511, 1513, 1515, 1517, 1519, 1521, 1523, 1525, 1527, 1529, 1531, 1533, 1535, 1537, 1539, 1541, 1543, 1545, 1547, 1549, 1551, 1553, 1555, 1557, 1559, 1561, 1563, 1565, 1567, 1569, 1571, 1573, 1575, 1577, 1579, 1581, 1583, 1585, 1587, 1589, 1591, 1593, 1595, 1597, 1599, 1601, 1603, 1605, 1607, 1609, 1611, 1613, 1615, 1617, 1619, 1621, 1623, 1625, 1627, 1629, 1631, 1633, 1635, 1637, 1639, 1641, 1643, 1645, 1647, 1649, 1651, 1653, 1655, 1657, 1659, 1661, 1663, 1665, 1667, 1669, 1671, 1673, 1675, 1677, 1679, 1681, 1683]
theorem qz_lay_12 : ∀ w ∈ u_ws RX12 TX12 94, w ∈ qz_T := qz_lays qz_lp_12 (by decide +kernel)
/-- what the stores need of a class: its layout's words, its fields' types, its fields' names apart -/
def qz_clsok (q : vw_C) : Prop := (∀ w ∈ u_ws q.1 q.2.1 q.2.2, w ∈ qz_T) ∧ ∃ ty : Nat → FieldType, (∀ k, k < q.2.2 → parseFieldDescriptor (q.2.1 k).2.2.1 = some (ty k)) ∧ ∀ a, a < q.2.2 → ∀ b, b < q.2.2 → a ≠ b → (q.2.1 a).2.1 ≠ (q.2.1 b).2.1
theorem qz_cls_ok : ∀ q ∈ qz_cls, qz_clsok q := by
  show ∀ q ∈ ([(RX0, TX0, 6), (RX1, TX1, 3), (RX2, TX2, 18), (RX3, TX3, 14), (RX4, TX4, 13), (RX5, TX5, 10), (RX6, TX6, 13), (RX7, TX7, 8), (RX8, TX8, 2), (RX9, TX9, 16), (RX10, TX10, 13), (RX11, TX11, 11), (RX12, TX12, 94)] : List vw_C), qz_clsok q
  intro q hq
  simp only [List.mem_cons, List.not_mem_nil, or_false] at hq
  rcases hq with rfl | rfl | rfl | rfl | rfl | rfl | rfl | rfl | rfl | rfl | rfl | rfl | rfl
  · exact ⟨qz_lay_0, tyX0, tyX0_ok, nmX0⟩
  · exact ⟨qz_lay_1, tyX1, tyX1_ok, nmX1⟩
  · exact ⟨qz_lay_2, tyX2, tyX2_ok, nmX2⟩
  · exact ⟨qz_lay_3, tyX3, tyX3_ok, nmX3⟩
  · exact ⟨qz_lay_4, tyX4, tyX4_ok, nmX4⟩
  · exact ⟨qz_lay_5, tyX5, tyX5_ok, nmX5⟩
  · exact ⟨qz_lay_6, tyX6, tyX6_ok, nmX6⟩
  · exact ⟨qz_lay_7, tyX7, tyX7_ok, nmX7⟩
  · exact ⟨qz_lay_8, tyX8, tyX8_ok, nmX8⟩
  · exact ⟨qz_lay_9, tyX9, tyX9_ok, nmX9⟩
  · exact ⟨qz_lay_10, tyX10, tyX10_ok, nmX10⟩
  · exact ⟨qz_lay_11, tyX11, tyX11_ok, nmX11⟩
  · exact ⟨qz_lay_12, tyX12, tyX12_ok, nmX12⟩
/-- what a call needs of a method: by its places in the tables -/
def qz_chkM (z : Nat) : Bool := match qz_MP[z]? with
  | some t => decide (lw_tbl[t.2.1]? = some (Cond.initialized (qz_nm z).cls)) && (bif Nat.beq (qz_sk z) 1 then decide (lw_tbl[t.2.2.1]? = some (Cond.static (qz_nm z))) else decide (lw_tbl[t.2.2.1]? = some (Cond.instanceMethod (qz_nm z))) && decide (lw_tbl[t.2.2.2]? = some (Cond.selects (qz_nm z).cls (qz_nm z) (qz_nm z)))) && decide ((qz_nm z).cls ≠ "java/lang/invoke/MethodHandle") && decide ((qz_nm z).cls ≠ "java/lang/invoke/VarHandle") && decide ((parseMethodDescriptor (qz_nm z).desc).map (fun d => d.parameters.length) = some (qz_np z)) && decide ((qz_nm z).cls = qz_ow z) && Nat.ble (qz_mx z) 12
  | none => false
theorem qz_ms_chk_0 : qz_ms_0.all qz_chkM = true := by decide +kernel
theorem qz_ms_chk_1 : qz_ms_1.all qz_chkM = true := by decide +kernel
theorem qz_ms_chk_2 : qz_ms_2.all qz_chkM = true := by decide +kernel
theorem qz_ms_chk_3 : qz_ms_3.all qz_chkM = true := by decide +kernel
theorem qz_ms_chk_4 : qz_ms_4.all qz_chkM = true := by decide +kernel
theorem qz_ms_chk_5 : qz_ms_5.all qz_chkM = true := by decide +kernel
theorem qz_ms_chk : qz_ms.all qz_chkM = true := by
  show (qz_ms_0 ++ qz_ms_1 ++ qz_ms_2 ++ qz_ms_3 ++ qz_ms_4 ++ qz_ms_5).all qz_chkM = true
  simp only [List.all_append, Bool.and_eq_true]
  exact ⟨⟨⟨⟨⟨qz_ms_chk_0, qz_ms_chk_1⟩, qz_ms_chk_2⟩, qz_ms_chk_3⟩, qz_ms_chk_4⟩, qz_ms_chk_5⟩
