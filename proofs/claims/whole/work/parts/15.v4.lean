theorem v_X10_sharePart {X : qz_X} {d : Nat} {Q : qz_Q} (g : qz_G) (v1 : Int32) (v2 : Int32) (h : (qR v1 (g.1 3 12) → ((v2 < 0 → (Q g 0 0)) ∧ (¬ v2 < 0 → (vp_in v1 80 ∧ (((g.1 29 v1.toNatClampNeg) ≤ v2 → (Q g 0 0)) ∧ (¬ (g.1 29 v1.toNatClampNeg) ≤ v2 → (vp_in ((v1 * 4) + v2) 320 ∧ (Q g (g.1 31 (((v1 * 4) + v2).toNatClampNeg)) 0)))))))) ∧ (¬ (qR v1 (g.1 3 12)) → (Q g 0 0))) : qz_Call X (d + 2) 139 [.ref 3, .int v1, .int v2] g Q :=
  qz_meth qm_X10_sharePart (Nat.le_of_ble_eq_true rfl) (qz_manyC (cut := []) qe_X10_sharePart qo_X10_sharePart 23 0 [(0, .ref 3), (1, .int v1), (2, .int v2)] [] g (c_X10_has g v1 ⟨(fun c1 => ⟨fun z => absurd z (by decide), fun _ => (h.1 c1)⟩), (fun c4 => ⟨fun _ => (h.2 c4), fun z => absurd z (by decide)⟩)⟩))
theorem qz_ix4 {w i : Int32} (hw : 0 ≤ w.toInt) (hw2 : w.toInt < 80) (hi : 0 ≤ i.toInt) (hi2 : i.toInt < 4) : (w * 4 + i).toNatClampNeg = 4 * w.toNatClampNeg + i.toNatClampNeg ∧ vp_in (w * 4 + i) 320 ∧ w * 4 + i = 4 * w + i := by
  have e1 := qz_ml (a := w) (b := 4) (by rw [qz_n4]; omega) (by rw [qz_n4]; omega)
  rw [qz_n4] at e1
  have e2 := qz_ad (a := w * 4) (b := i) (by omega) (by omega)
  have c1 := qz_cl (w * 4 + i)
  have c2 := qz_cl w
  have c3 := qz_cl i
  exact ⟨by omega, qz_vi (by omega) (by omega), by rw [Int32.mul_comm]⟩
theorem qz_ix4R {w i n m : Int32} (hw : qR w n) (hn : qI n 0 80) (hi : qR i m) (hm : qI m 0 4) : (w * 4 + i).toNatClampNeg = 4 * w.toNatClampNeg + i.toNatClampNeg ∧ vp_in (w * 4 + i) 320 ∧ w * 4 + i = 4 * w + i := by
  simp only [qR, qI, qz_lt, qz_le, qz_n0, qz_n80, qz_n4] at hw hn hi hm
  exact qz_ix4 (by omega) (by omega) (by omega) (by omega)
theorem c_X10_shareOwner {X : qz_X} {d : Nat} {Q : qz_Q} (g : qz_G) (v1 : Int32) (v2 : Int32) (h : (qR v1 (g.1 3 12)) ∧ (qI (g.1 3 12) 0 80) ∧ (qI (g.1 29 v1.toNatClampNeg) 0 4) ∧ (qR v2 (g.1 29 v1.toNatClampNeg) → Q g (g.1 30 (((v1 * 4) + v2).toNatClampNeg)) 0) ∧ (¬ qR v2 (g.1 29 v1.toNatClampNeg) → Q g (-1) 0)) : qz_Call X (d + 2) 138 [.ref 3, .int v1, .int v2] g Q := v_X10_shareOwner (d := d + 1) g v1 v2 ⟨fun a => absurd a h.1.1, fun a => ⟨fun b => absurd b h.1.2, fun b => ⟨fun c => h.2.2.2.2 (fun z => z.1 c), fun c => ⟨qz_in80 h.1 h.2.1, fun e => h.2.2.2.2 (fun z => z.2 e), fun e => ⟨(qz_ix4R h.1 h.2.1 ⟨c, e⟩ h.2.2.1).2.1, h.2.2.2.1 ⟨c, e⟩⟩⟩⟩⟩⟩
theorem c_X10_sharePart {X : qz_X} {d : Nat} {Q : qz_Q} (g : qz_G) (v1 : Int32) (v2 : Int32) (h : (qR v1 (g.1 3 12)) ∧ (qI (g.1 3 12) 0 80) ∧ (qI (g.1 29 v1.toNatClampNeg) 0 4) ∧ (qR v2 (g.1 29 v1.toNatClampNeg) → Q g (g.1 31 (((v1 * 4) + v2).toNatClampNeg)) 0) ∧ (¬ qR v2 (g.1 29 v1.toNatClampNeg) → Q g 0 0)) : qz_Call X (d + 2) 139 [.ref 3, .int v1, .int v2] g Q := v_X10_sharePart g v1 v2 ⟨fun b => ⟨fun c => h.2.2.2.2 (fun z => z.1 c), fun c => ⟨qz_in80 h.1 h.2.1, fun e => h.2.2.2.2 (fun z => z.2 e), fun e => ⟨(qz_ix4R h.1 h.2.1 ⟨c, e⟩ h.2.2.1).2.1, h.2.2.2.1 ⟨c, e⟩⟩⟩⟩, fun a => absurd h.1 a⟩
