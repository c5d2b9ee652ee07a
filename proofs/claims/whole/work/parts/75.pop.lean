/-! the bits of sources, counted -/
theorem qz_bc64 : ∀ a : Nat, a < 64 → ∀ b : Nat, b < 64 → qz_bcE (nI (64 * a + b)) = qz_pop (nI (64 * a + b)) 12 := by decide +kernel
theorem qz_bc12 (k : Nat) (h : k < 4096) : qz_bcE (nI k) = qz_pop (nI k) 12 := by
  have := qz_bc64 (k / 64) (by omega) (k % 64) (by omega)
  rw [show 64 * (k / 64) + k % 64 = k from by omega] at this
  exact this
theorem qz_bcJ {v : Int32} (h : qI v 0 4095) : qz_bcE v = qz_pop v 12 := by
  have h1 := qz_self h.1
  have c := qz_cl v
  have h2 := h
  have n4095 : (4095 : Int32).toInt = 4095 := by decide
  simp only [qI, qz_lt, qz_n0, n4095] at h2
  have h3 := qz_bc12 v.toNatClampNeg (by omega)
  rw [h1] at h3
  exact h3
theorem c_J6_bitCount12 {X : qz_X} {d : Nat} {Q : qz_Q} (g : qz_G) (v0 : Int32) (h : (qI v0 0 4095) ∧ Q g (qz_pop v0 12) 0) : qz_Call X (d + 1) 294 [.int v0] g Q := by
  refine v_J6_bitCount_0f7a4 g v0 ?_
  have h2 := h.2
  rw [← qz_bcJ h.1] at h2
  exact h2
