theorem v_X4_costOf {X : qz_X} {d : Nat} {Q : qz_Q} (g : qz_G) (v1 : Int32) (h : (v1 < 0 → (Q g 0 0)) ∧ (¬ v1 < 0 → ((12 ≤ v1 → (Q g 0 0)) ∧ (¬ 12 ≤ v1 → (vp_in v1 12 ∧ (Q g (g.1 61 v1.toNatClampNeg) 0)))))) : qz_Call X (d + 1) 45 [.ref 9, .int v1] g Q :=
  qz_meth qm_X4_costOf (Nat.le_of_ble_eq_true rfl) (qz_manyC (cut := []) qe_X4_costOf qo_X4_costOf 12 0 [(0, .ref 9), (1, .int v1)] [] g h)
theorem v_X4_chanceOf {X : qz_X} {d : Nat} {Q : qz_Q} (g : qz_G) (v1 : Int32) (h : (v1 < 0 → (Q g 0 0)) ∧ (¬ v1 < 0 → ((12 ≤ v1 → (Q g 0 0)) ∧ (¬ 12 ≤ v1 → (((g.1 9 11) < 0 → (Q g 0 0)) ∧ (¬ (g.1 9 11) < 0 → ((8 ≤ (g.1 9 11) → (Q g 0 0)) ∧ (¬ 8 ≤ (g.1 9 11) → (vp_in ((v1 * 8) + (g.1 9 11)) 96 ∧ (Q g (g.1 62 (((v1 * 8) + (g.1 9 11)).toNatClampNeg)) 0)))))))))) : qz_Call X (d + 1) 46 [.ref 9, .int v1] g Q :=
  qz_meth qm_X4_chanceOf (Nat.le_of_ble_eq_true rfl) (qz_manyC (cut := []) qe_X4_chanceOf qo_X4_chanceOf 24 0 [(0, .ref 9), (1, .int v1)] [] g h)
theorem c_X4_costOf {X : qz_X} {d : Nat} {Q : qz_Q} (g : qz_G) (v1 : Int32) (h : (qR v1 12) ∧ Q g (g.1 61 v1.toNatClampNeg) 0) : qz_Call X (d + 1) 45 [.ref 9, .int v1] g Q := by
  have h1 := h.1.1
  have h2 := h.1.2
  rw [qz_lt, qz_n0] at h1
  rw [qz_le, qz_n12] at h2
  exact v_X4_costOf g v1 ⟨fun a => absurd a h.1.1, fun _ => ⟨fun a => absurd a h.1.2, fun _ => ⟨qz_vi (by omega) (by omega), h.2⟩⟩⟩
theorem qz_ix8 {s k : Int32} (h : qR s 12) (hk : qR k 8) : (s * 8 + k).toNatClampNeg = 8 * s.toNatClampNeg + k.toNatClampNeg ∧ vp_in (s * 8 + k) 96 ∧ s * 8 + k = 8 * s + k := by
  have h1 := h.1
  have h2 := h.2
  have h3 := hk.1
  have h4 := hk.2
  rw [qz_lt, qz_n0] at h1 h3
  rw [qz_le, qz_n12] at h2
  rw [qz_le, qz_n8] at h4
  have e1 := qz_ml (a := s) (b := 8) (by rw [qz_n8]; omega) (by rw [qz_n8]; omega)
  rw [qz_n8] at e1
  have e2 := qz_ad (a := s * 8) (b := k) (by omega) (by omega)
  have c1 := qz_cl (s * 8 + k)
  have c2 := qz_cl s
  have c3 := qz_cl k
  exact ⟨by omega, qz_vi (by omega) (by omega), by rw [Int32.mul_comm]⟩
theorem c_X4_chanceOf {X : qz_X} {d : Nat} {Q : qz_Q} (g : qz_G) (v1 : Int32) (h : (qR v1 12) ∧ (qR (g.1 9 11) 8) ∧ Q g (g.1 62 (8 * v1.toNatClampNeg + (g.1 9 11).toNatClampNeg)) 0) : qz_Call X (d + 1) 46 [.ref 9, .int v1] g Q := by
  have e := qz_ix8 h.1 h.2.1
  refine v_X4_chanceOf g v1 ⟨fun a => absurd a h.1.1, fun _ => ⟨fun a => absurd a h.1.2, fun _ => ⟨fun a => absurd a h.2.1.1, fun _ => ⟨fun a => absurd a h.2.1.2, fun _ => ⟨e.2.1, ?_⟩⟩⟩⟩⟩
  rw [e.1]
  exact h.2.2
