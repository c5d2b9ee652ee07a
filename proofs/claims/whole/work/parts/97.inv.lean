/-! what holds all along the reading -/
def PIv (p o : Nat) (C K1 K2 : List qOp) (pend : Nat) : Prop := C.length + K2.length + K1.length + pend ≤ p + qJm K1 ∧ qJm K1 ≤ C.length ∧ o = qOn K1 + qOn K2 ∧ o ≤ 6 ∧ (∀ q, q ∈ K2 → (2 ≤ q.1 ∧ q.1 ≤ 6 ∨ q.1 = 14) ∧ q.2 = 0) ∧ (∀ q, q ∈ K1 → 10 ≤ q.1 ∧ q.1 ≤ 13 ∧ q.2 < 1000 ∧ (q.1 = 11 ∨ q.1 = 12 → q.2 < C.length ∧ (qOa C q.2).1 = q.1 ∧ (qOa C q.2).2 < 1048576))
theorem PIv.len {p o : Nat} {C K1 K2 : List qOp} {e : Nat} (h : PIv p o C K1 K2 e) : C.length + e ≤ p ∧ K2.length + K1.length ≤ p := by
  have := qJm_le K1
  obtain ⟨a, b, _⟩ := h
  omega
theorem k1_app {C t K1 : List qOp} (h : ∀ q, q ∈ K1 → 10 ≤ q.1 ∧ q.1 ≤ 13 ∧ q.2 < 1000 ∧ (q.1 = 11 ∨ q.1 = 12 → q.2 < C.length ∧ (qOa C q.2).1 = q.1 ∧ (qOa C q.2).2 < 1048576)) : ∀ q, q ∈ K1 → 10 ≤ q.1 ∧ q.1 ≤ 13 ∧ q.2 < 1000 ∧ (q.1 = 11 ∨ q.1 = 12 → q.2 < (C ++ t).length ∧ (qOa (C ++ t) q.2).1 = q.1 ∧ (qOa (C ++ t) q.2).2 < 1048576) := by
  intro q hq
  obtain ⟨a, b, c, e⟩ := h q hq
  refine ⟨a, b, c, fun z => ?_⟩
  obtain ⟨x, y, w⟩ := e z
  rw [qOa_l x, List.length_append]
  exact ⟨by omega, y, w⟩
theorem piv_emit {p o : Nat} {C K1 K2 : List qOp} {e p' : Nat} (h : PIv p o C K1 K2 e) (q : qOp) (e' : Nat) (hp : p + 1 + e' ≤ p' + e) : PIv p' o (C ++ [q]) K1 K2 e' := by
  obtain ⟨a, b, c, f, g1, g2⟩ := h
  have hl : (C ++ [q]).length = C.length + 1 := by rw [List.length_append]; rfl
  exact ⟨by omega, by omega, c, f, g1, k1_app g2⟩
theorem piv_op {p o : Nat} {C K1 K2 : List qOp} {e x y : Nat} (h : PIv p o C K1 ((x, y) :: K2) e) (hx : 2 ≤ x ∧ x ≤ 6) : PIv p o (C ++ [(x, 0)]) K1 K2 e := by
  obtain ⟨a, b, c, f, g1, g2⟩ := h
  have hl : (C ++ [((x, 0) : qOp)]).length = C.length + 1 := by rw [List.length_append]; rfl
  rw [List.length_cons] at a
  have c2 : qOn ((x, y) :: K2) = qOn K2 := by
    show (if x = 10 ∨ x = 13 ∨ x = 14 then 1 else 0) + qOn K2 = _
    rw [if_neg (by omega)]; omega
  rw [c2] at c
  exact ⟨by omega, by omega, c, f, fun q hq => g1 q (List.mem_cons_of_mem _ hq), k1_app g2⟩
theorem piv_pushop {p o : Nat} {C K1 K2 : List qOp} {e x : Nat} (h : PIv p o C K1 K2 e) (hx : 2 ≤ x ∧ x ≤ 6) : PIv (p + 1) o C K1 ((x, 0) :: K2) e := by
  obtain ⟨a, b, c, f, g1, g2⟩ := h
  have c2 : qOn ((x, 0) :: K2) = qOn K2 := by
    show (if x = 10 ∨ x = 13 ∨ x = 14 then 1 else 0) + qOn K2 = _
    rw [if_neg (by omega)]; omega
  refine ⟨by rw [List.length_cons]; omega, b, by rw [c2]; exact c, f, fun q hq => ?_, g2⟩
  rcases List.mem_cons.mp hq with rfl | hq
  · exact ⟨Or.inl hx, rfl⟩
  · exact g1 q hq
theorem piv_open2 {p o : Nat} {C K1 K2 : List qOp} {e : Nat} (h : PIv p o C K1 K2 e) (ho : ¬ o = 6) : PIv (p + 1) (o + 1) C K1 ((14, 0) :: K2) e := by
  obtain ⟨a, b, c, f, g1, g2⟩ := h
  have c2 : qOn ((14, 0) :: K2) = 1 + qOn K2 := rfl
  refine ⟨by rw [List.length_cons]; omega, b, by rw [c2]; omega, by omega, fun q hq => ?_, g2⟩
  rcases List.mem_cons.mp hq with rfl | hq
  · exact ⟨Or.inr rfl, rfl⟩
  · exact g1 q hq
theorem piv_close2 {p o : Nat} {C K1 K2 : List qOp} {e y : Nat} (h : PIv p o C K1 ((14, y) :: K2) e) : PIv (p + 1) (o - 1) C K1 K2 e ∧ 1 ≤ o := by
  obtain ⟨a, b, c, f, g1, g2⟩ := h
  have c2 : qOn ((14, y) :: K2) = 1 + qOn K2 := rfl
  rw [List.length_cons] at a
  rw [c2] at c
  exact ⟨⟨by omega, b, by omega, by omega, fun q hq => g1 q (List.mem_cons_of_mem _ hq), g2⟩, by omega⟩
theorem piv_pend {p o : Nat} {C K1 K2 : List qOp} {e e' p' : Nat} (h : PIv p o C K1 K2 e) (hp : p + e' ≤ p' + e) : PIv p' o C K1 K2 e' := by
  obtain ⟨a, b, c, f, g1, g2⟩ := h
  exact ⟨by omega, b, c, f, g1, g2⟩
theorem piv_not {p o : Nat} {C K1 K2 : List qOp} {e y : Nat} (h : PIv p o C ((10, y) :: K1) K2 e) : PIv p (o - 1) (C ++ [(10, 0)]) K1 K2 e ∧ 1 ≤ o := by
  obtain ⟨a, b, c, f, g1, g2⟩ := h
  have hl : (C ++ [((10, 0) : qOp)]).length = C.length + 1 := by rw [List.length_append]; rfl
  have c2 : qOn ((10, y) :: K1) = 1 + qOn K1 := rfl
  have c3 : qJm ((10, y) :: K1) = qJm K1 := Nat.zero_add _
  rw [List.length_cons] at a
  rw [c2] at c
  rw [c3] at a b
  exact ⟨⟨by omega, by omega, by omega, by omega, g1, k1_app (fun q hq => g2 q (List.mem_cons_of_mem _ hq))⟩, by omega⟩
theorem piv_land {p o : Nat} {C K1 K2 : List qOp} {e x j : Nat} (h : PIv p o C ((x, j) :: K1) K2 e) (hx : x = 11 ∨ x = 12) (hl : C.length < 1048576) : PIv p o (C.set j (x, C.length)) K1 K2 e ∧ j < C.length ∧ (qOa C j).1 = x ∧ (qOa C j).2 < 1048576 := by
  obtain ⟨a, b, c, f, g1, g2⟩ := h
  have hj := (g2 (x, j) List.mem_cons_self).2.2.2 hx
  have hj1 : j < C.length := hj.1
  have c2 : qOn ((x, j) :: K1) = qOn K1 := by
    show (if x = 10 ∨ x = 13 ∨ x = 14 then 1 else 0) + qOn K1 = _
    rw [if_neg (by omega)]; omega
  have c3 : qJm ((x, j) :: K1) = 1 + qJm K1 := by
    show (if x = 11 ∨ x = 12 then 1 else 0) + qJm K1 = _
    rw [if_pos hx]
  rw [List.length_cons] at a
  rw [c2] at c
  rw [c3] at a b
  refine ⟨⟨by rw [List.length_set]; omega, by rw [List.length_set]; omega, c, f, g1, fun q hq => ?_⟩, hj⟩
  obtain ⟨y1, y2, y3, y4⟩ := g2 q (List.mem_cons_of_mem _ hq)
  refine ⟨y1, y2, y3, fun z => ?_⟩
  obtain ⟨z1, z2, z3⟩ := y4 z
  rw [List.length_set, qOa_set hj1]
  refine ⟨z1, ?_⟩
  by_cases w : q.2 = j
  · rw [if_pos w]
    have e2 : (qOa C j).1 = x := hj.2.1
    rw [w, e2] at z2
    exact ⟨z2, hl⟩
  · rw [if_neg w]; exact ⟨z2, z3⟩
theorem piv_open1 {p o : Nat} {C K1 K2 : List qOp} {e x : Nat} (h : PIv p o C K1 K2 e) (hx : x = 10 ∨ x = 13) (ho : ¬ o = 6) : PIv (p + 1) (o + 1) C ((x, 0) :: K1) K2 e := by
  obtain ⟨a, b, c, f, g1, g2⟩ := h
  have c2 : qOn ((x, 0) :: K1) = 1 + qOn K1 := by
    show (if x = 10 ∨ x = 13 ∨ x = 14 then 1 else 0) + qOn K1 = _
    rw [if_pos (by omega)]
  have c3 : qJm ((x, 0) :: K1) = qJm K1 := by
    show (if x = 11 ∨ x = 12 then 1 else 0) + qJm K1 = _
    rw [if_neg (by omega)]; omega
  refine ⟨by rw [List.length_cons, c3]; omega, by rw [c3]; exact b, by rw [c2]; omega, by omega, g1, fun q hq => ?_⟩
  rcases List.mem_cons.mp hq with rfl | hq
  · exact ⟨by show 10 ≤ x; omega, by show x ≤ 13; omega, by show 0 < 1000; omega, fun z => absurd z (by show ¬ (x = 11 ∨ x = 12); omega)⟩
  · exact g2 q hq
theorem piv_par {p o : Nat} {C K1 K2 : List qOp} {e y : Nat} (h : PIv p o C ((13, y) :: K1) K2 e) : PIv (p + 1) (o - 1) C K1 K2 e ∧ 1 ≤ o := by
  obtain ⟨a, b, c, f, g1, g2⟩ := h
  have c2 : qOn ((13, y) :: K1) = 1 + qOn K1 := rfl
  have c3 : qJm ((13, y) :: K1) = qJm K1 := Nat.zero_add _
  rw [List.length_cons] at a
  rw [c2] at c
  rw [c3] at a b
  exact ⟨⟨by omega, by omega, by omega, by omega, g1, fun q hq => g2 q (List.mem_cons_of_mem _ hq)⟩, by omega⟩
theorem piv_jump {p o : Nat} {C K1 K2 : List qOp} {e x : Nat} (h : PIv p o C K1 K2 e) (hx : x = 11 ∨ x = 12) (hl : C.length < 1000) : PIv (p + 1) o (C ++ [(x, 0)]) ((x, C.length) :: K1) K2 e := by
  obtain ⟨a, b, c, f, g1, g2⟩ := h
  have hl1 : (C ++ [((x, 0) : qOp)]).length = C.length + 1 := by rw [List.length_append]; rfl
  have c2 : qOn ((x, C.length) :: K1) = qOn K1 := by
    show (if x = 10 ∨ x = 13 ∨ x = 14 then 1 else 0) + qOn K1 = _
    rw [if_neg (by omega)]; omega
  have c3 : qJm ((x, C.length) :: K1) = 1 + qJm K1 := by
    show (if x = 11 ∨ x = 12 then 1 else 0) + qJm K1 = _
    rw [if_pos hx]
  refine ⟨by rw [List.length_cons, c3]; omega, by rw [c3]; omega, by rw [c2]; exact c, f, g1, fun q hq => ?_⟩
  rcases List.mem_cons.mp hq with rfl | hq
  · refine ⟨by show 10 ≤ x; omega, by show x ≤ 13; omega, hl, fun _ => ?_⟩
    show C.length < _ ∧ (qOa _ C.length).1 = x ∧ (qOa _ C.length).2 < 1048576
    rw [qOa_e]
    exact ⟨by omega, rfl, by show 0 < 1048576; omega⟩
  · exact k1_app g2 q hq
