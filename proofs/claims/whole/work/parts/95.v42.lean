theorem v_X12_isDigit {X : qz_X} {d : Nat} {Q : qz_Q} (g : qz_G)  (h : (qI (g.1 12 26) 0 200) ∧ (qI (g.1 12 27) 0 200) ∧ (((qSy g) < 48 → (Q g 0 0)) ∧ (¬ (qSy g) < 48 → ((57 < (qSy g) → (Q g 0 0)) ∧ (¬ 57 < (qSy g) → (Q g 1 0)))))) : qz_Call X (d + 2) 215 [.ref 12] g Q :=
  qz_meth qm_X12_isDigit (Nat.le_of_ble_eq_true rfl) (qz_manyC (cut := []) qe_X12_isDigit qo_X12_isDigit 12 0 [(0, .ref 12)] [] g (c_X12_sign g  ⟨h.1, h.2.1, ⟨fun c1 => ⟨Or.inl rfl, (h.2.2.1 c1)⟩, fun c1 => c_X12_sign g  ⟨h.1, h.2.1, ⟨fun c2 => ⟨Or.inl rfl, ((h.2.2.2 c1).1 c2)⟩, fun c2 => ⟨Or.inr rfl, ((h.2.2.2 c1).2 c2)⟩⟩⟩⟩⟩))
theorem c_X12_isDigit {X : qz_X} {d : Nat} {Q : qz_Q} (g : qz_G) (h : (qI (g.1 12 26) 0 200) ∧ (qI (g.1 12 27) 0 200) ∧ (qI (qSy g) 48 57 → Q g 1 0) ∧ (¬ (qI (qSy g) 48 57) → Q g 0 0)) : qz_Call X (d + 2) 215 [.ref 12] g Q := by
  obtain ⟨h1, h2, ht, hf⟩ := h
  exact v_X12_isDigit g ⟨h1, h2, fun a => hf (fun z => z.1 a), fun a => ⟨fun b => hf (fun z => z.2 b), fun b => ht ⟨a, b⟩⟩⟩
