theorem v_X10_has {X : qz_X} {d : Nat} {Q : qz_Q} (g : qz_G) (v1 : Int32) (h : (v1 < 0 → (Q g 0 0)) ∧ (¬ v1 < 0 → (((g.1 3 12) ≤ v1 → (Q g 0 0)) ∧ (¬ (g.1 3 12) ≤ v1 → (Q g 1 0))))) : qz_Call X (d + 1) 130 [.ref 3, .int v1] g Q :=
  qz_meth qm_X10_has (Nat.le_of_ble_eq_true rfl) (qz_manyC (cut := []) qe_X10_has qo_X10_has 10 0 [(0, .ref 3), (1, .int v1)] [] g (⟨fun c1 => ⟨Or.inl rfl, (h.1 c1)⟩, fun c1 => ⟨fun c2 => ⟨Or.inl rfl, ((h.2 c1).1 c2)⟩, fun c2 => ⟨Or.inr rfl, ((h.2 c1).2 c2)⟩⟩⟩))
theorem v_X5_has {X : qz_X} {d : Nat} {Q : qz_Q} (g : qz_G) (v1 : Int32) (h : (v1 < 0 → (Q g 0 0)) ∧ (¬ v1 < 0 → (((g.1 2 8) ≤ v1 → (Q g 0 0)) ∧ (¬ (g.1 2 8) ≤ v1 → (Q g 1 0))))) : qz_Call X (d + 1) 55 [.ref 2, .int v1] g Q :=
  qz_meth qm_X5_has (Nat.le_of_ble_eq_true rfl) (qz_manyC (cut := []) qe_X5_has qo_X5_has 10 0 [(0, .ref 2), (1, .int v1)] [] g (⟨fun c1 => ⟨Or.inl rfl, (h.1 c1)⟩, fun c1 => ⟨fun c2 => ⟨Or.inl rfl, ((h.2 c1).1 c2)⟩, fun c2 => ⟨Or.inr rfl, ((h.2 c1).2 c2)⟩⟩⟩))
theorem v_X11_isBelow {X : qz_X} {d : Nat} {Q : qz_Q} (g : qz_G) (v0 : Int32) (v1 : Int32) (h : (v0 < 0 → (Q g 0 0)) ∧ (¬ v0 < 0 → ((v1 ≤ v0 → (Q g 0 0)) ∧ (¬ v1 ≤ v0 → (Q g 1 0))))) : qz_Call X (d + 1) 186 [.int v0, .int v1] g Q :=
  qz_meth qm_X11_isBelow (Nat.le_of_ble_eq_true rfl) (qz_manyC (cut := []) qe_X11_isBelow qo_X11_isBelow 9 0 [(0, .int v0), (1, .int v1)] [] g (⟨fun c1 => ⟨Or.inl rfl, (h.1 c1)⟩, fun c1 => ⟨fun c2 => ⟨Or.inl rfl, ((h.2 c1).1 c2)⟩, fun c2 => ⟨Or.inr rfl, ((h.2 c1).2 c2)⟩⟩⟩))
theorem v_X12_isLand {X : qz_X} {d : Nat} {Q : qz_Q} (g : qz_G) (v0 : Int32) (h : (v0 < 0 → (Q g 0 0)) ∧ (¬ v0 < 0 → ((4 ≤ v0 → (Q g 0 0)) ∧ (¬ 4 ≤ v0 → (Q g 1 0))))) : qz_Call X (d + 1) 199 [.int v0] g Q :=
  qz_meth qm_X12_isLand (Nat.le_of_ble_eq_true rfl) (qz_manyC (cut := []) qe_X12_isLand qo_X12_isLand 9 0 [(0, .int v0)] [] g (⟨fun c1 => ⟨Or.inl rfl, (h.1 c1)⟩, fun c1 => ⟨fun c2 => ⟨Or.inl rfl, ((h.2 c1).1 c2)⟩, fun c2 => ⟨Or.inr rfl, ((h.2 c1).2 c2)⟩⟩⟩))
theorem v_X12_isOwner {X : qz_X} {d : Nat} {Q : qz_Q} (g : qz_G) (v1 : Int32) (h : (v1 < 0 → (Q g 0 0)) ∧ (¬ v1 < 0 → (((g.1 12 1) ≤ v1 → (Q g 0 0)) ∧ (¬ (g.1 12 1) ≤ v1 → (Q g 1 0))))) : qz_Call X (d + 1) 201 [.ref 12, .int v1] g Q :=
  qz_meth qm_X12_isOwner (Nat.le_of_ble_eq_true rfl) (qz_manyC (cut := []) qe_X12_isOwner qo_X12_isOwner 10 0 [(0, .ref 12), (1, .int v1)] [] g (⟨fun c1 => ⟨Or.inl rfl, (h.1 c1)⟩, fun c1 => ⟨fun c2 => ⟨Or.inl rfl, ((h.2 c1).1 c2)⟩, fun c2 => ⟨Or.inr rfl, ((h.2 c1).2 c2)⟩⟩⟩))
theorem v_X12_isWork {X : qz_X} {d : Nat} {Q : qz_Q} (g : qz_G) (v1 : Int32) (h : (v1 < 0 → (Q g 0 0)) ∧ (¬ v1 < 0 → (((g.1 12 2) ≤ v1 → (Q g 0 0)) ∧ (¬ (g.1 12 2) ≤ v1 → (Q g 1 0))))) : qz_Call X (d + 1) 202 [.ref 12, .int v1] g Q :=
  qz_meth qm_X12_isWork (Nat.le_of_ble_eq_true rfl) (qz_manyC (cut := []) qe_X12_isWork qo_X12_isWork 10 0 [(0, .ref 12), (1, .int v1)] [] g (⟨fun c1 => ⟨Or.inl rfl, (h.1 c1)⟩, fun c1 => ⟨fun c2 => ⟨Or.inl rfl, ((h.2 c1).1 c2)⟩, fun c2 => ⟨Or.inr rfl, ((h.2 c1).2 c2)⟩⟩⟩))
theorem v_X12_isSource {X : qz_X} {d : Nat} {Q : qz_Q} (g : qz_G) (v0 : Int32) (h : (v0 < 0 → (Q g 0 0)) ∧ (¬ v0 < 0 → ((12 ≤ v0 → (Q g 0 0)) ∧ (¬ 12 ≤ v0 → (Q g 1 0))))) : qz_Call X (d + 1) 251 [.int v0] g Q :=
  qz_meth qm_X12_isSource (Nat.le_of_ble_eq_true rfl) (qz_manyC (cut := []) qe_X12_isSource qo_X12_isSource 9 0 [(0, .int v0)] [] g (⟨fun c1 => ⟨Or.inl rfl, (h.1 c1)⟩, fun c1 => ⟨fun c2 => ⟨Or.inl rfl, ((h.2 c1).1 c2)⟩, fun c2 => ⟨Or.inr rfl, ((h.2 c1).2 c2)⟩⟩⟩))
theorem v_X12_isLeave {X : qz_X} {d : Nat} {Q : qz_Q} (g : qz_G) (v1 : Int32) (h : (v1 < 0 → (Q g 0 0)) ∧ (¬ v1 < 0 → (((g.1 12 72) ≤ v1 → (Q g 0 0)) ∧ (¬ (g.1 12 72) ≤ v1 → (Q g 1 0))))) : qz_Call X (d + 1) 272 [.ref 12, .int v1] g Q :=
  qz_meth qm_X12_isLeave (Nat.le_of_ble_eq_true rfl) (qz_manyC (cut := []) qe_X12_isLeave qo_X12_isLeave 10 0 [(0, .ref 12), (1, .int v1)] [] g (⟨fun c1 => ⟨Or.inl rfl, (h.1 c1)⟩, fun c1 => ⟨fun c2 => ⟨Or.inl rfl, ((h.2 c1).1 c2)⟩, fun c2 => ⟨Or.inr rfl, ((h.2 c1).2 c2)⟩⟩⟩))
theorem v_X8_has {X : qz_X} {d : Nat} {Q : qz_Q} (g : qz_G) (v1 : Int32) (h : (v1 < 0 → (Q g 0 0)) ∧ (¬ v1 < 0 → (((g.1 1 1) < v1 → (Q g 0 0)) ∧ (¬ (g.1 1 1) < v1 → (Q g 1 0))))) : qz_Call X (d + 1) 109 [.ref 1, .int v1] g Q :=
  qz_meth qm_X8_has (Nat.le_of_ble_eq_true rfl) (qz_manyC (cut := []) qe_X8_has qo_X8_has 10 0 [(0, .ref 1), (1, .int v1)] [] g (⟨fun c1 => ⟨Or.inl rfl, (h.1 c1)⟩, fun c1 => ⟨fun c2 => ⟨Or.inl rfl, ((h.2 c1).1 c2)⟩, fun c2 => ⟨Or.inr rfl, ((h.2 c1).2 c2)⟩⟩⟩))
theorem v_X11_isDay {X : qz_X} {d : Nat} {Q : qz_Q} (g : qz_G) (v0 : Int32) (h : (v0 < 0 → (Q g 0 0)) ∧ (¬ v0 < 0 → ((99999 < v0 → (Q g 0 0)) ∧ (¬ 99999 < v0 → (Q g 1 0))))) : qz_Call X (d + 1) 188 [.int v0] g Q :=
  qz_meth qm_X11_isDay (Nat.le_of_ble_eq_true rfl) (qz_manyC (cut := []) qe_X11_isDay qo_X11_isDay 9 0 [(0, .int v0)] [] g (⟨fun c1 => ⟨Or.inl rfl, (h.1 c1)⟩, fun c1 => ⟨fun c2 => ⟨Or.inl rfl, ((h.2 c1).1 c2)⟩, fun c2 => ⟨Or.inr rfl, ((h.2 c1).2 c2)⟩⟩⟩))
theorem v_X12_isDay {X : qz_X} {d : Nat} {Q : qz_Q} (g : qz_G) (v0 : Int32) (h : (v0 < 0 → (Q g 0 0)) ∧ (¬ v0 < 0 → ((99999 < v0 → (Q g 0 0)) ∧ (¬ 99999 < v0 → (Q g 1 0))))) : qz_Call X (d + 1) 198 [.int v0] g Q :=
  qz_meth qm_X12_isDay (Nat.le_of_ble_eq_true rfl) (qz_manyC (cut := []) qe_X12_isDay qo_X12_isDay 9 0 [(0, .int v0)] [] g (⟨fun c1 => ⟨Or.inl rfl, (h.1 c1)⟩, fun c1 => ⟨fun c2 => ⟨Or.inl rfl, ((h.2 c1).1 c2)⟩, fun c2 => ⟨Or.inr rfl, ((h.2 c1).2 c2)⟩⟩⟩))
theorem v_X12_in {X : qz_X} {d : Nat} {Q : qz_Q} (g : qz_G) (v0 : Int32) (v1 : Int32) (v2 : Int32) (h : (v0 < v1 → (Q g 0 0)) ∧ (¬ v0 < v1 → ((v2 < v0 → (Q g 0 0)) ∧ (¬ v2 < v0 → (Q g 1 0))))) : qz_Call X (d + 1) 197 [.int v0, .int v1, .int v2] g Q :=
  qz_meth qm_X12_in (Nat.le_of_ble_eq_true rfl) (qz_manyC (cut := []) qe_X12_in qo_X12_in 10 0 [(0, .int v0), (1, .int v1), (2, .int v2)] [] g (⟨fun c1 => ⟨Or.inl rfl, (h.1 c1)⟩, fun c1 => ⟨fun c2 => ⟨Or.inl rfl, ((h.2 c1).1 c2)⟩, fun c2 => ⟨Or.inr rfl, ((h.2 c1).2 c2)⟩⟩⟩))
theorem v_X11_isTellable {X : qz_X} {d : Nat} {Q : qz_Q} (g : qz_G) (v1 : Int32) (h : (v1 < 0 → (Q g 0 0)) ∧ (¬ v1 < 0 → (((g.1 0 10) < v1 → (Q g 0 0)) ∧ (¬ (g.1 0 10) < v1 → (Q g 1 0))))) : qz_Call X (d + 1) 194 [.ref 0, .int v1] g Q :=
  qz_meth qm_X11_isTellable (Nat.le_of_ble_eq_true rfl) (qz_manyC (cut := []) qe_X11_isTellable qo_X11_isTellable 10 0 [(0, .ref 0), (1, .int v1)] [] g (⟨fun c1 => ⟨Or.inl rfl, (h.1 c1)⟩, fun c1 => ⟨fun c2 => ⟨Or.inl rfl, ((h.2 c1).1 c2)⟩, fun c2 => ⟨Or.inr rfl, ((h.2 c1).2 c2)⟩⟩⟩))
theorem v_X6_isDigit {X : qz_X} {d : Nat} {Q : qz_Q} (g : qz_G) (v0 : Int32) (h : (v0 < 48 → (Q g 0 0)) ∧ (¬ v0 < 48 → ((57 < v0 → (Q g 0 0)) ∧ (¬ 57 < v0 → (Q g 1 0))))) : qz_Call X (d + 1) 82 [.int v0] g Q :=
  qz_meth qm_X6_isDigit (Nat.le_of_ble_eq_true rfl) (qz_manyC (cut := []) qe_X6_isDigit qo_X6_isDigit 10 0 [(0, .int v0)] [] g (⟨fun c1 => ⟨Or.inl rfl, (h.1 c1)⟩, fun c1 => ⟨fun c2 => ⟨Or.inl rfl, ((h.2 c1).1 c2)⟩, fun c2 => ⟨Or.inr rfl, ((h.2 c1).2 c2)⟩⟩⟩))
theorem v_X12_isBy {X : qz_X} {d : Nat} {Q : qz_Q} (g : qz_G) (v0 : Int32) (v1 : Int32) (v2 : Int32) (h : (v0 = (-1) → (Q g 0 0)) ∧ (¬ v0 = (-1) → ((v1 < v0 → (Q g 0 0)) ∧ (¬ v1 < v0 → ((v2 < v0 → (Q g 0 0)) ∧ (¬ v2 < v0 → (Q g 1 0))))))) : qz_Call X (d + 1) 258 [.int v0, .int v1, .int v2] g Q :=
  qz_meth qm_X12_isBy (Nat.le_of_ble_eq_true rfl) (qz_manyC (cut := []) qe_X12_isBy qo_X12_isBy 13 0 [(0, .int v0), (1, .int v1), (2, .int v2)] [] g (⟨fun c1 => ⟨Or.inl rfl, (h.1 c1)⟩, fun c1 => ⟨fun c2 => ⟨Or.inl rfl, ((h.2 c1).1 c2)⟩, fun c2 => ⟨fun c3 => ⟨Or.inl rfl, (((h.2 c1).2 c2).1 c3)⟩, fun c3 => ⟨Or.inr rfl, (((h.2 c1).2 c2).2 c3)⟩⟩⟩⟩))
theorem v_X11_asNumber {X : qz_X} {d : Nat} {Q : qz_Q} (g : qz_G) (v0 : Int32) (h : (v0 = 0 → (Q g 0 0)) ∧ (¬ v0 = 0 → (Q g 1 0))) : qz_Call X (d + 1) 193 [.int v0] g Q :=
  qz_meth qm_X11_asNumber (Nat.le_of_ble_eq_true rfl) (qz_manyC (cut := []) qe_X11_asNumber qo_X11_asNumber 6 0 [(0, .int v0)] [] g h)
theorem v_X2_size {X : qz_X} {d : Nat} {Q : qz_Q} (g : qz_G)  (h : Q g (g.1 6 17) 0) : qz_Call X (d + 1) 11 [.ref 6] g Q :=
  qz_meth qm_X2_size (Nat.le_of_ble_eq_true rfl) (qz_manyC (cut := []) qe_X2_size qo_X2_size 4 0 [(0, .ref 6)] [] g h)
theorem v_X2_isFull {X : qz_X} {d : Nat} {Q : qz_Q} (g : qz_G)  (h : ((g.1 6 17) < 20 → (Q g 0 0)) ∧ (¬ (g.1 6 17) < 20 → (Q g 1 0))) : qz_Call X (d + 1) 12 [.ref 6] g Q :=
  qz_meth qm_X2_isFull (Nat.le_of_ble_eq_true rfl) (qz_manyC (cut := []) qe_X2_isFull qo_X2_isFull 8 0 [(0, .ref 6)] [] g (⟨fun c1 => ⟨Or.inl rfl, (h.1 c1)⟩, fun c1 => ⟨Or.inr rfl, (h.2 c1)⟩⟩))
theorem v_X2_result {X : qz_X} {d : Nat} {Q : qz_Q} (g : qz_G) (v1 : Int32) (h : (v1 < 0 → (Q g (-1) 0)) ∧ (¬ v1 < 0 → ((9 ≤ v1 → (Q g (-1) 0)) ∧ (¬ 9 ≤ v1 → (vp_in v1 9 ∧ (Q g (g.1 58 v1.toNatClampNeg) 0)))))) : qz_Call X (d + 1) 17 [.ref 6, .int v1] g Q :=
  qz_meth qm_X2_result (Nat.le_of_ble_eq_true rfl) (qz_manyC (cut := []) qe_X2_result qo_X2_result 14 0 [(0, .ref 6), (1, .int v1)] [] g h)
theorem v_X3_size {X : qz_X} {d : Nat} {Q : qz_Q} (g : qz_G)  (h : Q g (g.1 10 12) 0) : qz_Call X (d + 1) 24 [.ref 10] g Q :=
  qz_meth qm_X3_size (Nat.le_of_ble_eq_true rfl) (qz_manyC (cut := []) qe_X3_size qo_X3_size 4 0 [(0, .ref 10)] [] g h)
theorem v_X3_tellings {X : qz_X} {d : Nat} {Q : qz_Q} (g : qz_G)  (h : Q g (g.1 10 13) 0) : qz_Call X (d + 1) 25 [.ref 10] g Q :=
  qz_meth qm_X3_tellings (Nat.le_of_ble_eq_true rfl) (qz_manyC (cut := []) qe_X3_tellings qo_X3_tellings 4 0 [(0, .ref 10)] [] g h)
theorem v_X3_isFull {X : qz_X} {d : Nat} {Q : qz_Q} (g : qz_G)  (h : ((g.1 10 12) < 100 → (Q g 0 0)) ∧ (¬ (g.1 10 12) < 100 → (Q g 1 0))) : qz_Call X (d + 1) 26 [.ref 10] g Q :=
  qz_meth qm_X3_isFull (Nat.le_of_ble_eq_true rfl) (qz_manyC (cut := []) qe_X3_isFull qo_X3_isFull 8 0 [(0, .ref 10)] [] g (⟨fun c1 => ⟨Or.inl rfl, (h.1 c1)⟩, fun c1 => ⟨Or.inr rfl, (h.2 c1)⟩⟩))
theorem v_X4_leastExpected {X : qz_X} {d : Nat} {Q : qz_Q} (g : qz_G)  (h : Q g 0 (g.2 9 12)) : qz_Call X (d + 1) 42 [.ref 9] g Q :=
  qz_meth qm_X4_leastExpected (Nat.le_of_ble_eq_true rfl) (qz_manyC (cut := []) qe_X4_leastExpected qo_X4_leastExpected 4 0 [(0, .ref 9)] [] g h)
theorem v_X5_size {X : qz_X} {d : Nat} {Q : qz_Q} (g : qz_G)  (h : Q g (g.1 2 8) 0) : qz_Call X (d + 1) 54 [.ref 2] g Q :=
  qz_meth qm_X5_size (Nat.le_of_ble_eq_true rfl) (qz_manyC (cut := []) qe_X5_size qo_X5_size 4 0 [(0, .ref 2)] [] g h)
theorem v_X8_size {X : qz_X} {d : Nat} {Q : qz_Q} (g : qz_G)  (h : Q g (g.1 1 1) 0) : qz_Call X (d + 1) 107 [.ref 1] g Q :=
  qz_meth qm_X8_size (Nat.le_of_ble_eq_true rfl) (qz_manyC (cut := []) qe_X8_size qo_X8_size 4 0 [(0, .ref 1)] [] g h)
theorem v_X8_clear {X : qz_X} {d : Nat} {Q : qz_Q} (g : qz_G)  (h : Q (qz_ui g 1 1 0) 0 0) : qz_Call X (d + 1) 112 [.ref 1] g Q :=
  qz_meth qm_X8_clear (Nat.le_of_ble_eq_true rfl) (qz_manyC (cut := []) qe_X8_clear qo_X8_clear 5 0 [(0, .ref 1)] [] g h)
theorem v_X8_hasRoom {X : qz_X} {d : Nat} {Q : qz_Q} (g : qz_G)  (h : (200 < ((g.1 1 1) + 20) → (Q g 0 0)) ∧ (¬ 200 < ((g.1 1 1) + 20) → (Q g 1 0))) : qz_Call X (d + 1) 108 [.ref 1] g Q :=
  qz_meth qm_X8_hasRoom (Nat.le_of_ble_eq_true rfl) (qz_manyC (cut := []) qe_X8_hasRoom qo_X8_hasRoom 10 0 [(0, .ref 1)] [] g (⟨fun c1 => ⟨Or.inl rfl, (h.1 c1)⟩, fun c1 => ⟨Or.inr rfl, (h.2 c1)⟩⟩))
theorem v_X9_looks {X : qz_X} {d : Nat} {Q : qz_Q} (g : qz_G)  (h : Q g (g.1 4 13) 0) : qz_Call X (d + 1) 114 [.ref 4] g Q :=
  qz_meth qm_X9_looks (Nat.le_of_ble_eq_true rfl) (qz_manyC (cut := []) qe_X9_looks qo_X9_looks 4 0 [(0, .ref 4)] [] g h)
theorem v_X9_letters {X : qz_X} {d : Nat} {Q : qz_Q} (g : qz_G)  (h : Q g (g.1 4 14) 0) : qz_Call X (d + 1) 115 [.ref 4] g Q :=
  qz_meth qm_X9_letters (Nat.le_of_ble_eq_true rfl) (qz_manyC (cut := []) qe_X9_letters qo_X9_letters 4 0 [(0, .ref 4)] [] g h)
theorem v_X10_size {X : qz_X} {d : Nat} {Q : qz_Q} (g : qz_G)  (h : Q g (g.1 3 12) 0) : qz_Call X (d + 1) 129 [.ref 3] g Q :=
  qz_meth qm_X10_size (Nat.le_of_ble_eq_true rfl) (qz_manyC (cut := []) qe_X10_size qo_X10_size 4 0 [(0, .ref 3)] [] g h)
theorem v_X12_wrong {X : qz_X} {d : Nat} {Q : qz_Q} (g : qz_G) (v1 : Int32) (v2 : Int32) (h : Q (qz_ui g 12 28 (((-1000) * v1) - v2)) 0 0) : qz_Call X (d + 1) 216 [.ref 12, .int v1, .int v2] g Q :=
  qz_meth qm_X12_wrong (Nat.le_of_ble_eq_true rfl) (qz_manyC (cut := []) qe_X12_wrong qo_X12_wrong 10 0 [(0, .ref 12), (1, .int v1), (2, .int v2)] [] g (⟨Or.inl rfl, h⟩))
theorem v_J9_max_7cf53 {X : qz_X} {d : Nat} {Q : qz_Q} (g : qz_G) (v0 : Int32) (v1 : Int32) (h : (v0 < v1 → (Q g v1 0)) ∧ (¬ v0 < v1 → (Q g v0 0))) : qz_Call X (d + 1) 295 [.int v0, .int v1] g Q :=
  qz_meth qm_J9_max_7cf53 (Nat.le_of_ble_eq_true rfl) (qz_manyC (cut := []) qe_J9_max_7cf53 qo_J9_max_7cf53 7 0 [(0, .int v0), (1, .int v1)] [] g h)
theorem v_J9_min_f86c9 {X : qz_X} {d : Nat} {Q : qz_Q} (g : qz_G) (v0 : Int64) (v2 : Int64) (h : (0 < (lg_cmp v0 v2) → (Q g 0 v2)) ∧ (¬ 0 < (lg_cmp v0 v2) → (Q g 0 v0))) : qz_Call X (d + 1) 296 [.long v0, .long v2] g Q :=
  qz_meth qm_J9_min_f86c9 (Nat.le_of_ble_eq_true rfl) (qz_manyC (cut := []) qe_J9_min_f86c9 qo_J9_min_f86c9 8 0 [(0, .long v0), (2, .long v2)] [] g h)
theorem v_J9_min_7cf53 {X : qz_X} {d : Nat} {Q : qz_Q} (g : qz_G) (v0 : Int32) (v1 : Int32) (h : (v1 < v0 → (Q g v1 0)) ∧ (¬ v1 < v0 → (Q g v0 0))) : qz_Call X (d + 1) 297 [.int v0, .int v1] g Q :=
  qz_meth qm_J9_min_7cf53 (Nat.le_of_ble_eq_true rfl) (qz_manyC (cut := []) qe_J9_min_7cf53 qo_J9_min_7cf53 7 0 [(0, .int v0), (1, .int v1)] [] g h)
theorem v_X6_begin {X : qz_X} {d : Nat} {Q : qz_Q} (g : qz_G) (v1 : Int32) (v2 : Int32) (h : Q (qz_ui (qz_ui (qz_ui (qz_ui (qz_ui g 7 3 (v1 * 200)) 7 5 0) 7 6 v2) 7 8 0) 7 12 0) 0 0) : qz_Call X (d + 1) 66 [.ref 7, .int v1, .int v2] g Q :=
  qz_meth qm_X6_begin (Nat.le_of_ble_eq_true rfl) (qz_manyC (cut := []) qe_X6_begin qo_X6_begin 19 0 [(0, .ref 7), (1, .int v1), (2, .int v2)] [] g (⟨Or.inl rfl, h⟩))
theorem v_X6_asksFound {X : qz_X} {d : Nat} {Q : qz_Q} (g : qz_G)  (h : qz_bit (g.1 7 12) ∧ Q g (g.1 7 12) 0) : qz_Call X (d + 1) 67 [.ref 7] g Q :=
  qz_meth qm_X6_asksFound (Nat.le_of_ble_eq_true rfl) (qz_manyC (cut := []) qe_X6_asksFound qo_X6_asksFound 4 0 [(0, .ref 7)] [] g h)
theorem v_X6_codeSize {X : qz_X} {d : Nat} {Q : qz_Q} (g : qz_G)  (h : Q g (g.1 7 3) 0) : qz_Call X (d + 1) 68 [.ref 7] g Q :=
  qz_meth qm_X6_codeSize (Nat.le_of_ble_eq_true rfl) (qz_manyC (cut := []) qe_X6_codeSize qo_X6_codeSize 4 0 [(0, .ref 7)] [] g h)
theorem v_X6_fault {X : qz_X} {d : Nat} {Q : qz_Q} (g : qz_G)  (h : Q g (g.1 7 8) 0) : qz_Call X (d + 1) 69 [.ref 7] g Q :=
  qz_meth qm_X6_fault (Nat.le_of_ble_eq_true rfl) (qz_manyC (cut := []) qe_X6_fault qo_X6_fault 4 0 [(0, .ref 7)] [] g h)
theorem v_X6_kind {X : qz_X} {d : Nat} {Q : qz_Q} (g : qz_G)  (h : Q g (g.1 7 9) 0) : qz_Call X (d + 1) 70 [.ref 7] g Q :=
  qz_meth qm_X6_kind (Nat.le_of_ble_eq_true rfl) (qz_manyC (cut := []) qe_X6_kind qo_X6_kind 4 0 [(0, .ref 7)] [] g h)
theorem v_X6_firstNumber {X : qz_X} {d : Nat} {Q : qz_Q} (g : qz_G)  (h : Q g (g.1 7 10) 0) : qz_Call X (d + 1) 71 [.ref 7] g Q :=
  qz_meth qm_X6_firstNumber (Nat.le_of_ble_eq_true rfl) (qz_manyC (cut := []) qe_X6_firstNumber qo_X6_firstNumber 4 0 [(0, .ref 7)] [] g h)
theorem v_X6_secondNumber {X : qz_X} {d : Nat} {Q : qz_Q} (g : qz_G)  (h : Q g (g.1 7 11) 0) : qz_Call X (d + 1) 72 [.ref 7] g Q :=
  qz_meth qm_X6_secondNumber (Nat.le_of_ble_eq_true rfl) (qz_manyC (cut := []) qe_X6_secondNumber qo_X6_secondNumber 4 0 [(0, .ref 7)] [] g h)
theorem v_X6_blame {X : qz_X} {d : Nat} {Q : qz_Q} (g : qz_G) (v1 : Int32) (v2 : Int32) (h : (¬ (g.1 7 8) = 0 → (Q g 0 0)) ∧ ((g.1 7 8) = 0 → (Q (qz_ui g 7 8 (((-1000) * v1) - v2)) 0 0))) : qz_Call X (d + 1) 76 [.ref 7, .int v1, .int v2] g Q :=
  qz_meth qm_X6_blame (Nat.le_of_ble_eq_true rfl) (qz_manyC (cut := []) qe_X6_blame qo_X6_blame 12 0 [(0, .ref 7), (1, .int v1), (2, .int v2)] [] g h)
theorem v_X10_shareOwner {X : qz_X} {d : Nat} {Q : qz_Q} (g : qz_G) (v1 : Int32) (v2 : Int32) (h : (v1 < 0 → (Q g (-1) 0)) ∧ (¬ v1 < 0 → (((g.1 3 12) ≤ v1 → (Q g (-1) 0)) ∧ (¬ (g.1 3 12) ≤ v1 → ((v2 < 0 → (Q g (-1) 0)) ∧ (¬ v2 < 0 → (vp_in v1 80 ∧ (((g.1 29 v1.toNatClampNeg) ≤ v2 → (Q g (-1) 0)) ∧ (¬ (g.1 29 v1.toNatClampNeg) ≤ v2 → (vp_in ((v1 * 4) + v2) 320 ∧ (Q g (g.1 30 (((v1 * 4) + v2).toNatClampNeg)) 0))))))))))) : qz_Call X (d + 1) 138 [.ref 3, .int v1, .int v2] g Q :=
  qz_meth qm_X10_shareOwner (Nat.le_of_ble_eq_true rfl) (qz_manyC (cut := []) qe_X10_shareOwner qo_X10_shareOwner 25 0 [(0, .ref 3), (1, .int v1), (2, .int v2)] [] g h)
theorem v_X9_hasCome {X : qz_X} {d : Nat} {Q : qz_Q} (g : qz_G) (v1 : Int32) (h : (v1 < 0 → (Q g 0 0)) ∧ (¬ v1 < 0 → ((40 ≤ v1 → (Q g 0 0)) ∧ (¬ 40 ≤ v1 → (vp_in v1 40 ∧ (((g.1 46 v1.toNatClampNeg) = (-1) → (Q g 0 0)) ∧ (¬ (g.1 46 v1.toNatClampNeg) = (-1) → (Q g 1 0)))))))) : qz_Call X (d + 1) 120 [.ref 4, .int v1] g Q :=
  qz_meth qm_X9_hasCome (Nat.le_of_ble_eq_true rfl) (qz_manyC (cut := []) qe_X9_hasCome qo_X9_hasCome 17 0 [(0, .ref 4), (1, .int v1)] [] g (⟨fun c1 => ⟨Or.inl rfl, (h.1 c1)⟩, fun c1 => ⟨fun c2 => ⟨Or.inl rfl, ((h.2 c1).1 c2)⟩, fun c2 => ⟨((h.2 c1).2 c2).1, ⟨fun c3 => ⟨Or.inl rfl, (((h.2 c1).2 c2).2.1 c3)⟩, fun c3 => ⟨Or.inr rfl, (((h.2 c1).2 c2).2.2 c3)⟩⟩⟩⟩⟩))
theorem v_X2_isInForce {X : qz_X} {d : Nat} {Q : qz_Q} (g : qz_G) (v1 : Int32) (v2 : Int32) (v3 : Int32) (h : (v1 < 0 → (Q g 0 0)) ∧ (¬ v1 < 0 → (((g.1 6 17) ≤ v1 → (Q g 0 0)) ∧ (¬ (g.1 6 17) ≤ v1 → (vp_in v1 20 ∧ ((¬ (g.1 47 v1.toNatClampNeg) = v2 → (Q g 0 0)) ∧ ((g.1 47 v1.toNatClampNeg) = v2 → ((v3 < (g.1 48 v1.toNatClampNeg) → (Q g 0 0)) ∧ (¬ v3 < (g.1 48 v1.toNatClampNeg) → (((g.1 49 v1.toNatClampNeg) < v3 → (Q g 0 0)) ∧ (¬ (g.1 49 v1.toNatClampNeg) < v3 → (Q g 1 0)))))))))))) : qz_Call X (d + 1) 20 [.ref 6, .int v1, .int v2, .int v3] g Q :=
  qz_meth qm_X2_isInForce (Nat.le_of_ble_eq_true rfl) (qz_manyC (cut := []) qe_X2_isInForce qo_X2_isInForce 28 0 [(0, .ref 6), (1, .int v1), (2, .int v2), (3, .int v3)] [] g (⟨fun c1 => ⟨Or.inl rfl, (h.1 c1)⟩, fun c1 => ⟨fun c2 => ⟨Or.inl rfl, ((h.2 c1).1 c2)⟩, fun c2 => ⟨((h.2 c1).2 c2).1, ⟨fun c3 => ⟨Or.inl rfl, (((h.2 c1).2 c2).2.1 c3)⟩, fun c3 => ⟨((h.2 c1).2 c2).1, ⟨fun c4 => ⟨Or.inl rfl, ((((h.2 c1).2 c2).2.2 c3).1 c4)⟩, fun c4 => ⟨((h.2 c1).2 c2).1, ⟨fun c5 => ⟨Or.inl rfl, (((((h.2 c1).2 c2).2.2 c3).2 c4).1 c5)⟩, fun c5 => ⟨Or.inr rfl, (((((h.2 c1).2 c2).2.2 c3).2 c4).2 c5)⟩⟩⟩⟩⟩⟩⟩⟩⟩))
theorem v_X2_clausesOf {X : qz_X} {d : Nat} {Q : qz_Q} (g : qz_G) (v1 : Int32) (h : (v1 < 0 → (Q g (-1) 0)) ∧ (¬ v1 < 0 → (((g.1 6 17) ≤ v1 → (Q g (-1) 0)) ∧ (¬ (g.1 6 17) ≤ v1 → (vp_in v1 20 ∧ (Q g (g.1 50 v1.toNatClampNeg) 0)))))) : qz_Call X (d + 1) 13 [.ref 6, .int v1] g Q :=
  qz_meth qm_X2_clausesOf (Nat.le_of_ble_eq_true rfl) (qz_manyC (cut := []) qe_X2_clausesOf qo_X2_clausesOf 13 0 [(0, .ref 6), (1, .int v1)] [] g h)
/-! leaves' contracts -/
def qR (v n : Int32) : Prop := ¬ v < 0 ∧ ¬ n ≤ v
def qI (v lo hi : Int32) : Prop := ¬ v < lo ∧ ¬ hi < v
def qBy (w d t : Int32) : Prop := ¬ w = -1 ∧ ¬ d < w ∧ ¬ t < w
theorem qR_v {v n : Int32} {A B : Prop} (h : (qR v n → A) ∧ (¬ qR v n → B)) : (v < 0 → B) ∧ (¬ v < 0 → ((n ≤ v → B) ∧ (¬ n ≤ v → A))) := ⟨fun a => h.2 (fun z => z.1 a), fun a => ⟨fun b => h.2 (fun z => z.2 b), fun b => h.1 ⟨a, b⟩⟩⟩
theorem qI_v {v lo hi : Int32} {A B : Prop} (h : (qI v lo hi → A) ∧ (¬ qI v lo hi → B)) : (v < lo → B) ∧ (¬ v < lo → ((hi < v → B) ∧ (¬ hi < v → A))) := ⟨fun a => h.2 (fun z => z.1 a), fun a => ⟨fun b => h.2 (fun z => z.2 b), fun b => h.1 ⟨a, b⟩⟩⟩
theorem qBy_v {v d t : Int32} {A B : Prop} (h : (qBy v d t → A) ∧ (¬ qBy v d t → B)) : (v = -1 → B) ∧ (¬ v = -1 → ((d < v → B) ∧ (¬ d < v → ((t < v → B) ∧ (¬ t < v → A))))) := ⟨fun a => h.2 (fun z => z.1 a), fun a => ⟨fun b => h.2 (fun z => z.2.1 b), fun b => ⟨fun c => h.2 (fun z => z.2.2 c), fun c => h.1 ⟨a, b, c⟩⟩⟩⟩
theorem c_X10_has {X : qz_X} {d : Nat} {Q : qz_Q} (g : qz_G) (v1 : Int32) (h : (qR v1 (g.1 3 12) → Q g 1 0) ∧ (¬ (qR v1 (g.1 3 12)) → Q g 0 0)) : qz_Call X (d + 1) 130 [.ref 3, .int v1] g Q := v_X10_has g v1 (qR_v h)
theorem c_X5_has {X : qz_X} {d : Nat} {Q : qz_Q} (g : qz_G) (v1 : Int32) (h : (qR v1 (g.1 2 8) → Q g 1 0) ∧ (¬ (qR v1 (g.1 2 8)) → Q g 0 0)) : qz_Call X (d + 1) 55 [.ref 2, .int v1] g Q := v_X5_has g v1 (qR_v h)
theorem c_X11_isBelow {X : qz_X} {d : Nat} {Q : qz_Q} (g : qz_G) (v0 : Int32) (v1 : Int32) (h : (qR v0 v1 → Q g 1 0) ∧ (¬ (qR v0 v1) → Q g 0 0)) : qz_Call X (d + 1) 186 [.int v0, .int v1] g Q := v_X11_isBelow g v0 v1 (qR_v h)
theorem c_X12_isLand {X : qz_X} {d : Nat} {Q : qz_Q} (g : qz_G) (v0 : Int32) (h : (qR v0 4 → Q g 1 0) ∧ (¬ (qR v0 4) → Q g 0 0)) : qz_Call X (d + 1) 199 [.int v0] g Q := v_X12_isLand g v0 (qR_v h)
theorem c_X12_isOwner {X : qz_X} {d : Nat} {Q : qz_Q} (g : qz_G) (v1 : Int32) (h : (qR v1 (g.1 12 1) → Q g 1 0) ∧ (¬ (qR v1 (g.1 12 1)) → Q g 0 0)) : qz_Call X (d + 1) 201 [.ref 12, .int v1] g Q := v_X12_isOwner g v1 (qR_v h)
theorem c_X12_isWork {X : qz_X} {d : Nat} {Q : qz_Q} (g : qz_G) (v1 : Int32) (h : (qR v1 (g.1 12 2) → Q g 1 0) ∧ (¬ (qR v1 (g.1 12 2)) → Q g 0 0)) : qz_Call X (d + 1) 202 [.ref 12, .int v1] g Q := v_X12_isWork g v1 (qR_v h)
theorem c_X12_isSource {X : qz_X} {d : Nat} {Q : qz_Q} (g : qz_G) (v0 : Int32) (h : (qR v0 12 → Q g 1 0) ∧ (¬ (qR v0 12) → Q g 0 0)) : qz_Call X (d + 1) 251 [.int v0] g Q := v_X12_isSource g v0 (qR_v h)
theorem c_X12_isLeave {X : qz_X} {d : Nat} {Q : qz_Q} (g : qz_G) (v1 : Int32) (h : (qR v1 (g.1 12 72) → Q g 1 0) ∧ (¬ (qR v1 (g.1 12 72)) → Q g 0 0)) : qz_Call X (d + 1) 272 [.ref 12, .int v1] g Q := v_X12_isLeave g v1 (qR_v h)
theorem c_X8_has {X : qz_X} {d : Nat} {Q : qz_Q} (g : qz_G) (v1 : Int32) (h : (qI v1 0 (g.1 1 1) → Q g 1 0) ∧ (¬ (qI v1 0 (g.1 1 1)) → Q g 0 0)) : qz_Call X (d + 1) 109 [.ref 1, .int v1] g Q := v_X8_has g v1 (qI_v h)
theorem c_X11_isDay {X : qz_X} {d : Nat} {Q : qz_Q} (g : qz_G) (v0 : Int32) (h : (qI v0 0 99999 → Q g 1 0) ∧ (¬ (qI v0 0 99999) → Q g 0 0)) : qz_Call X (d + 1) 188 [.int v0] g Q := v_X11_isDay g v0 (qI_v h)
theorem c_X12_isDay {X : qz_X} {d : Nat} {Q : qz_Q} (g : qz_G) (v0 : Int32) (h : (qI v0 0 99999 → Q g 1 0) ∧ (¬ (qI v0 0 99999) → Q g 0 0)) : qz_Call X (d + 1) 198 [.int v0] g Q := v_X12_isDay g v0 (qI_v h)
theorem c_X12_in {X : qz_X} {d : Nat} {Q : qz_Q} (g : qz_G) (v0 : Int32) (v1 : Int32) (v2 : Int32) (h : (qI v0 v1 v2 → Q g 1 0) ∧ (¬ (qI v0 v1 v2) → Q g 0 0)) : qz_Call X (d + 1) 197 [.int v0, .int v1, .int v2] g Q := v_X12_in g v0 v1 v2 (qI_v h)
theorem c_X11_isTellable {X : qz_X} {d : Nat} {Q : qz_Q} (g : qz_G) (v1 : Int32) (h : (qI v1 0 (g.1 0 10) → Q g 1 0) ∧ (¬ (qI v1 0 (g.1 0 10)) → Q g 0 0)) : qz_Call X (d + 1) 194 [.ref 0, .int v1] g Q := v_X11_isTellable g v1 (qI_v h)
theorem c_X6_isDigit {X : qz_X} {d : Nat} {Q : qz_Q} (g : qz_G) (v0 : Int32) (h : (qI v0 48 57 → Q g 1 0) ∧ (¬ (qI v0 48 57) → Q g 0 0)) : qz_Call X (d + 1) 82 [.int v0] g Q := v_X6_isDigit g v0 (qI_v h)
theorem c_X12_isBy {X : qz_X} {d : Nat} {Q : qz_Q} (g : qz_G) (v0 : Int32) (v1 : Int32) (v2 : Int32) (h : (qBy v0 v1 v2 → Q g 1 0) ∧ (¬ (qBy v0 v1 v2) → Q g 0 0)) : qz_Call X (d + 1) 258 [.int v0, .int v1, .int v2] g Q := v_X12_isBy g v0 v1 v2 (qBy_v h)
theorem c_X11_asNumber {X : qz_X} {d : Nat} {Q : qz_Q} (g : qz_G) (v0 : Int32) (h : (¬ v0 = 0 → Q g 1 0) ∧ (v0 = 0 → Q g 0 0)) : qz_Call X (d + 1) 193 [.int v0] g Q := v_X11_asNumber g v0 ⟨h.2, h.1⟩
theorem c_X2_size {X : qz_X} {d : Nat} {Q : qz_Q} (g : qz_G) (h : Q g (g.1 6 17) 0) : qz_Call X (d + 1) 11 [.ref 6] g Q := v_X2_size g h
theorem c_X3_size {X : qz_X} {d : Nat} {Q : qz_Q} (g : qz_G) (h : Q g (g.1 10 12) 0) : qz_Call X (d + 1) 24 [.ref 10] g Q := v_X3_size g h
theorem c_X3_tellings {X : qz_X} {d : Nat} {Q : qz_Q} (g : qz_G) (h : Q g (g.1 10 13) 0) : qz_Call X (d + 1) 25 [.ref 10] g Q := v_X3_tellings g h
theorem c_X5_size {X : qz_X} {d : Nat} {Q : qz_Q} (g : qz_G) (h : Q g (g.1 2 8) 0) : qz_Call X (d + 1) 54 [.ref 2] g Q := v_X5_size g h
theorem c_X8_size {X : qz_X} {d : Nat} {Q : qz_Q} (g : qz_G) (h : Q g (g.1 1 1) 0) : qz_Call X (d + 1) 107 [.ref 1] g Q := v_X8_size g h
theorem c_X9_looks {X : qz_X} {d : Nat} {Q : qz_Q} (g : qz_G) (h : Q g (g.1 4 13) 0) : qz_Call X (d + 1) 114 [.ref 4] g Q := v_X9_looks g h
theorem c_X9_letters {X : qz_X} {d : Nat} {Q : qz_Q} (g : qz_G) (h : Q g (g.1 4 14) 0) : qz_Call X (d + 1) 115 [.ref 4] g Q := v_X9_letters g h
theorem c_X10_size {X : qz_X} {d : Nat} {Q : qz_Q} (g : qz_G) (h : Q g (g.1 3 12) 0) : qz_Call X (d + 1) 129 [.ref 3] g Q := v_X10_size g h
theorem c_X6_codeSize {X : qz_X} {d : Nat} {Q : qz_Q} (g : qz_G) (h : Q g (g.1 7 3) 0) : qz_Call X (d + 1) 68 [.ref 7] g Q := v_X6_codeSize g h
theorem c_X6_fault {X : qz_X} {d : Nat} {Q : qz_Q} (g : qz_G) (h : Q g (g.1 7 8) 0) : qz_Call X (d + 1) 69 [.ref 7] g Q := v_X6_fault g h
theorem c_X6_kind {X : qz_X} {d : Nat} {Q : qz_Q} (g : qz_G) (h : Q g (g.1 7 9) 0) : qz_Call X (d + 1) 70 [.ref 7] g Q := v_X6_kind g h
theorem c_X6_firstNumber {X : qz_X} {d : Nat} {Q : qz_Q} (g : qz_G) (h : Q g (g.1 7 10) 0) : qz_Call X (d + 1) 71 [.ref 7] g Q := v_X6_firstNumber g h
theorem c_X6_secondNumber {X : qz_X} {d : Nat} {Q : qz_Q} (g : qz_G) (h : Q g (g.1 7 11) 0) : qz_Call X (d + 1) 72 [.ref 7] g Q := v_X6_secondNumber g h
theorem c_X4_leastExpected {X : qz_X} {d : Nat} {Q : qz_Q} (g : qz_G) (h : Q g 0 (g.2 9 12)) : qz_Call X (d + 1) 42 [.ref 9] g Q := v_X4_leastExpected g h
theorem c_X8_clear {X : qz_X} {d : Nat} {Q : qz_Q} (g : qz_G) (h : Q (qz_ui g 1 1 0) 0 0) : qz_Call X (d + 1) 112 [.ref 1] g Q := v_X8_clear g h
theorem c_X2_isFull {X : qz_X} {d : Nat} {Q : qz_Q} (g : qz_G) (h : (¬ (g.1 6 17) < 20 → Q g 1 0) ∧ ((g.1 6 17) < 20 → Q g 0 0)) : qz_Call X (d + 1) 12 [.ref 6] g Q := v_X2_isFull g ⟨h.2, h.1⟩
theorem c_X3_isFull {X : qz_X} {d : Nat} {Q : qz_Q} (g : qz_G) (h : (¬ (g.1 10 12) < 100 → Q g 1 0) ∧ ((g.1 10 12) < 100 → Q g 0 0)) : qz_Call X (d + 1) 26 [.ref 10] g Q := v_X3_isFull g ⟨h.2, h.1⟩
theorem c_X8_hasRoom {X : qz_X} {d : Nat} {Q : qz_Q} (g : qz_G) (h : (¬ 200 < (g.1 1 1) + 20 → Q g 1 0) ∧ (200 < (g.1 1 1) + 20 → Q g 0 0)) : qz_Call X (d + 1) 108 [.ref 1] g Q := v_X8_hasRoom g ⟨h.2, h.1⟩
theorem c_X12_wrong {X : qz_X} {d : Nat} {Q : qz_Q} (g : qz_G) (v1 : Int32) (v2 : Int32) (h : Q (qz_ui g 12 28 (((-1000) * v1) - v2)) 0 0) : qz_Call X (d + 1) 216 [.ref 12, .int v1, .int v2] g Q := v_X12_wrong g v1 v2 h
theorem c_J9_max_7cf53 {X : qz_X} {d : Nat} {Q : qz_Q} (g : qz_G) (v0 : Int32) (v1 : Int32) (h : Q g (if v0 < v1 then v1 else v0) 0) : qz_Call X (d + 1) 295 [.int v0, .int v1] g Q := v_J9_max_7cf53 g v0 v1 ⟨fun a => by rw [if_pos a] at h; exact h, fun a => by rw [if_neg a] at h; exact h⟩
theorem c_J9_min_7cf53 {X : qz_X} {d : Nat} {Q : qz_Q} (g : qz_G) (v0 : Int32) (v1 : Int32) (h : Q g (if v1 < v0 then v1 else v0) 0) : qz_Call X (d + 1) 297 [.int v0, .int v1] g Q := v_J9_min_7cf53 g v0 v1 ⟨fun a => by rw [if_pos a] at h; exact h, fun a => by rw [if_neg a] at h; exact h⟩
theorem c_X6_begin {X : qz_X} {d : Nat} {Q : qz_Q} (g : qz_G) (v1 : Int32) (v2 : Int32) (h : Q (qz_ui (qz_ui (qz_ui (qz_ui (qz_ui g 7 3 (v1 * 200)) 7 5 0) 7 6 v2) 7 8 0) 7 12 0) 0 0) : qz_Call X (d + 1) 66 [.ref 7, .int v1, .int v2] g Q := v_X6_begin g v1 v2 h
