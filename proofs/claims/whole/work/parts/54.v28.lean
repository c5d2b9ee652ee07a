theorem v_X12_isLaw {X : qz_X} {d : Nat} {Q : qz_Q} (g : qz_G) (v1 : Int32) (v2 : Int32) (v3 : Int32) (h : vp_in v1 20 ∧ ((¬ (g.1 108 v1.toNatClampNeg) = v2 → (Q g 0 0)) ∧ ((g.1 108 v1.toNatClampNeg) = v2 → ((qI v3 (g.1 109 v1.toNatClampNeg) (g.1 110 v1.toNatClampNeg) → (Q g 1 0)) ∧ (¬ (qI v3 (g.1 109 v1.toNatClampNeg) (g.1 110 v1.toNatClampNeg)) → (Q g 0 0)))))) : qz_Call X (d + 2) 237 [.ref 12, .int v1, .int v2, .int v3] g Q :=
  qz_meth qm_X12_isLaw (Nat.le_of_ble_eq_true rfl) (qz_manyC (cut := []) qe_X12_isLaw qo_X12_isLaw 21 0 [(0, .ref 12), (1, .int v1), (2, .int v2), (3, .int v3)] [] g (⟨h.1, ⟨fun c1 => ⟨Or.inl rfl, (h.2.1 c1)⟩, fun c1 => ⟨h.1, ⟨h.1, c_X12_in g v3 (g.1 109 v1.toNatClampNeg) (g.1 110 v1.toNatClampNeg) ⟨(fun c2 => ⟨fun z => absurd z (by decide), fun _ => ⟨Or.inr rfl, ((h.2.2 c1).1 c2)⟩⟩), (fun c3 => ⟨fun _ => ⟨Or.inl rfl, ((h.2.2 c1).2 c3)⟩, fun z => absurd z (by decide)⟩)⟩⟩⟩⟩⟩))
/-- a law is in force -/
def qFo (land from_ to_ : Nat → Int32) (law inLand day : Int32) : Prop := land law.toNatClampNeg = inLand ∧ ¬ day < from_ law.toNatClampNeg ∧ ¬ to_ law.toNatClampNeg < day
theorem qz_in20 {v n : Int32} (h : qR v n) (hn : qI n 0 20) : vp_in v 20 := by
  simp only [qR, qI, qz_lt, qz_le, qz_n0, qz_n20] at h hn
  exact qz_vi (by omega) (by omega)
theorem c_X2_isInForce {X : qz_X} {d : Nat} {Q : qz_Q} (g : qz_G) (v1 v2 v3 : Int32) (h : (qI (g.1 6 17) 0 20) ∧ (qR v1 (g.1 6 17) ∧ qFo (g.1 47) (g.1 48) (g.1 49) v1 v2 v3 → Q g 1 0) ∧ (¬ (qR v1 (g.1 6 17) ∧ qFo (g.1 47) (g.1 48) (g.1 49) v1 v2 v3) → Q g 0 0)) : qz_Call X (d + 1) 20 [.ref 6, .int v1, .int v2, .int v3] g Q := by
  obtain ⟨hn, ht, hf⟩ := h
  exact v_X2_isInForce g v1 v2 v3 ⟨fun a => hf (fun z => z.1.1 a), fun a => ⟨fun b => hf (fun z => z.1.2 b), fun b => ⟨qz_in20 ⟨a, b⟩ hn, fun c => hf (fun z => c z.2.1), fun c => ⟨fun e => hf (fun z => z.2.2.1 e), fun e => ⟨fun e2 => hf (fun z => z.2.2.2 e2), fun e2 => ht ⟨⟨a, b⟩, c, e, e2⟩⟩⟩⟩⟩⟩
theorem c_X12_isLaw {X : qz_X} {d : Nat} {Q : qz_Q} (g : qz_G) (v1 v2 v3 : Int32) (h : (qR v1 20) ∧ (qFo (g.1 108) (g.1 109) (g.1 110) v1 v2 v3 → Q g 1 0) ∧ (¬ (qFo (g.1 108) (g.1 109) (g.1 110) v1 v2 v3) → Q g 0 0)) : qz_Call X (d + 2) 237 [.ref 12, .int v1, .int v2, .int v3] g Q := by
  obtain ⟨hn, ht, hf⟩ := h
  exact v_X12_isLaw g v1 v2 v3 ⟨qz_in20 hn ⟨by decide, by decide⟩, fun c => hf (fun z => c z.1), fun c => ⟨fun e => ht ⟨c, e⟩, fun e => hf (fun z => e z.2)⟩⟩
