theorem v_X12_sign {X : qz_X} {d : Nat} {Q : qz_Q} (g : qz_G)  (h : ((g.1 12 27) ≤ (g.1 12 26) → (Q g (-1) 0)) ∧ (¬ (g.1 12 27) ≤ (g.1 12 26) → (vp_in (g.1 12 26) 200 ∧ (Q g ((g.1 99 ((g.1 12 26).toNatClampNeg)) &&& 255) 0)))) : qz_Call X (d + 1) 214 [.ref 12] g Q :=
  qz_meth qm_X12_sign (Nat.le_of_ble_eq_true rfl) (qz_manyC (cut := []) qe_X12_sign qo_X12_sign 15 0 [(0, .ref 12)] [] g h)
theorem v_X12_top {X : qz_X} {d : Nat} {Q : qz_Q} (g : qz_G)  (h : (¬ (g.1 12 32) = 0 → (vp_in ((g.1 12 32) - 1) 220 ∧ (Q g ((g.1 101 (((g.1 12 32) - 1).toNatClampNeg)) / 1048576) 0))) ∧ ((g.1 12 32) = 0 → (Q g (-1) 0))) : qz_Call X (d + 1) 221 [.ref 12] g Q :=
  qz_meth qm_X12_top (Nat.le_of_ble_eq_true rfl) (qz_manyC (cut := []) qe_X12_top qo_X12_top 14 0 [(0, .ref 12)] [] g (⟨fun c1 => ⟨(h.1 c1).1, ⟨by decide, (h.1 c1).2⟩⟩, fun c1 => (h.2 c1)⟩))
theorem v_X12_factOf {X : qz_X} {d : Nat} {Q : qz_Q} (g : qz_G) (v0 : Int32) (h : (v0.toInt < 100 ∨ 122 < v0.toInt → (Q g (-1) 0)) ∧ (¬ (v0.toInt < 100 ∨ 122 < v0.toInt) → (v0 = 100 → (Q g 7 0)) ∧ (v0 = 101 → (Q g (-1) 0)) ∧ (v0 = 102 → (Q g 5 0)) ∧ (v0 = 103 → (Q g (-1) 0)) ∧ (v0 = 104 → (Q g (-1) 0)) ∧ (v0 = 105 → (Q g (-1) 0)) ∧ (v0 = 106 → (Q g 6 0)) ∧ (v0 = 107 → (Q g 0 0)) ∧ (v0 = 108 → (Q g 1 0)) ∧ (v0 = 109 → (Q g (-1) 0)) ∧ (v0 = 110 → (Q g (-1) 0)) ∧ (v0 = 111 → (Q g 4 0)) ∧ (v0 = 112 → (Q g (-1) 0)) ∧ (v0 = 113 → (Q g (-1) 0)) ∧ (v0 = 114 → (Q g (-1) 0)) ∧ (v0 = 115 → (Q g (-1) 0)) ∧ (v0 = 116 → (Q g (-1) 0)) ∧ (v0 = 117 → (Q g (-1) 0)) ∧ (v0 = 118 → (Q g (-1) 0)) ∧ (v0 = 119 → (Q g (-1) 0)) ∧ (v0 = 120 → (Q g (-1) 0)) ∧ (v0 = 121 → (Q g 2 0)) ∧ (v0 = 122 → (Q g 3 0)) ∧ True)) : qz_Call X (d + 1) 222 [.int v0] g Q :=
  qz_meth qm_X12_factOf (Nat.le_of_ble_eq_true rfl) (qz_manyC (cut := []) qe_X12_factOf qo_X12_factOf 5 0 [(0, .int v0)] [] g h)
theorem v_X12_sumSign {X : qz_X} {d : Nat} {Q : qz_Q} (g : qz_G) (v0 : Int32) (h : (¬ v0 = 43 → ((¬ v0 = 45 → ((¬ v0 = 42 → ((¬ v0 = 47 → ((¬ v0 = 37 → (Q g (-1) 0)) ∧ (v0 = 37 → (Q g 6 0)))) ∧ (v0 = 47 → (Q g 5 0)))) ∧ (v0 = 42 → (Q g 4 0)))) ∧ (v0 = 45 → (Q g 3 0)))) ∧ (v0 = 43 → (Q g 2 0))) : qz_Call X (d + 1) 223 [.int v0] g Q :=
  qz_meth qm_X12_sumSign (Nat.le_of_ble_eq_true rfl) (qz_manyC (cut := []) qe_X12_sumSign qo_X12_sumSign 19 0 [(0, .int v0)] [] g h)
def qSy (g : qz_G) : Int32 := if ¬ g.1 12 27 ≤ g.1 12 26 then g.1 99 (g.1 12 26).toNatClampNeg &&& 255 else (-1)
def qTp (g : qz_G) : Int32 := if g.1 12 32 = 0 then (-1) else g.1 101 (g.1 12 32 - 1).toNatClampNeg / 1048576
def qSu (c : Int32) : Int32 := if c = 43 then 2 else if c = 45 then 3 else if c = 42 then 4 else if c = 47 then 5 else if c = 37 then 6 else (-1)
theorem c_X12_sign {X : qz_X} {d : Nat} {Q : qz_Q} (g : qz_G) (h : (qI (g.1 12 26) 0 200) ∧ (qI (g.1 12 27) 0 200) ∧ Q g (qSy g) 0) : qz_Call X (d + 1) 214 [.ref 12] g Q := by
  obtain ⟨h1, h2, h⟩ := h
  unfold qSy at h
  refine v_X12_sign g ⟨fun a => ?_, fun a => ?_⟩
  · rw [if_neg (fun z => z a)] at h; exact h
  · rw [if_pos a] at h
    have a1 := h1.1
    have a2 := h2.2
    rw [qz_lt, qz_n0] at a1
    rw [qz_lt, qz_n200] at a2
    rw [qz_le] at a
    exact ⟨qz_vi (by omega) (by omega), h⟩
theorem c_X12_top {X : qz_X} {d : Nat} {Q : qz_Q} (g : qz_G) (h : (qI (g.1 12 32) 0 220) ∧ Q g (qTp g) 0) : qz_Call X (d + 1) 221 [.ref 12] g Q := by
  obtain ⟨h1, h⟩ := h
  unfold qTp at h
  refine v_X12_top g ⟨fun a => ?_, fun a => ?_⟩
  · rw [if_neg a] at h
    have a1 := h1.1
    have a2 := h1.2
    rw [qz_lt, qz_n0] at a1
    rw [qz_lt, show (220 : Int32).toInt = 220 from by decide] at a2
    rw [qz_eq, qz_n0] at a
    have e := qz_sb (a := g.1 12 32) (b := 1) (by rw [qz_n1]; omega) (by rw [qz_n1]; omega)
    rw [qz_n1] at e
    exact ⟨qz_vi (by omega) (by omega), h⟩
  · rw [if_pos a] at h; exact h
theorem c_X12_sumSign {X : qz_X} {d : Nat} {Q : qz_Q} (g : qz_G) (v0 : Int32) (h : Q g (qSu v0) 0) : qz_Call X (d + 1) 223 [.int v0] g Q := by
  unfold qSu at h
  refine v_X12_sumSign g v0 ⟨fun a1 => ⟨fun a2 => ⟨fun a3 => ⟨fun a4 => ⟨fun a5 => ?_, fun a5 => ?_⟩, fun a4 => ?_⟩, fun a3 => ?_⟩, fun a2 => ?_⟩, fun a1 => ?_⟩
  · rw [if_neg a1, if_neg a2, if_neg a3, if_neg a4, if_neg a5] at h; exact h
  · subst a5; exact h
  · subst a4; exact h
  · subst a3; exact h
  · subst a2; exact h
  · subst a1; exact h
theorem c_X12_factOf {X : qz_X} {d : Nat} {Q : qz_Q} (g : qz_G) (v0 : Int32) (h : Q g (qFy v0) 0) : qz_Call X (d + 1) 222 [.int v0] g Q := by
  refine v_X12_factOf g v0 ⟨fun a => ?_, fun _ => ⟨fun e => by subst e; exact h, fun e => by subst e; exact h, fun e => by subst e; exact h, fun e => by subst e; exact h, fun e => by subst e; exact h, fun e => by subst e; exact h, fun e => by subst e; exact h, fun e => by subst e; exact h, fun e => by subst e; exact h, fun e => by subst e; exact h, fun e => by subst e; exact h, fun e => by subst e; exact h, fun e => by subst e; exact h, fun e => by subst e; exact h, fun e => by subst e; exact h, fun e => by subst e; exact h, fun e => by subst e; exact h, fun e => by subst e; exact h, fun e => by subst e; exact h, fun e => by subst e; exact h, fun e => by subst e; exact h, fun e => by subst e; exact h, fun e => by subst e; exact h, trivial⟩⟩
  have ne : ∀ c : Int32, ¬ (c.toInt < 100 ∨ 122 < c.toInt) → ¬ v0 = c := fun c hc e => hc (by rw [← e]; exact a)
  unfold qFy at h
  rw [if_neg (ne 107 (by decide)), if_neg (ne 108 (by decide)), if_neg (ne 121 (by decide)), if_neg (ne 122 (by decide)), if_neg (ne 111 (by decide)), if_neg (ne 102 (by decide)), if_neg (ne 106 (by decide)), if_neg (ne 100 (by decide))] at h
  exact h
