theorem v_X6_sign {X : qz_X} {d : Nat} {Q : qz_Q} (g : qz_G)  (h : (¬ (g.1 7 8) = 0 → (Q g (-1) 0)) ∧ ((g.1 7 8) = 0 → (((g.1 7 6) ≤ (g.1 7 5) → (Q g (-1) 0)) ∧ (¬ (g.1 7 6) ≤ (g.1 7 5) → (((g.1 7 5) < 0 → (Q g (-1) 0)) ∧ (¬ (g.1 7 5) < 0 → (((g.1 1 1) ≤ (g.1 7 5) → (Q g (-1) 0)) ∧ (¬ (g.1 1 1) ≤ (g.1 7 5) → (vp_in (g.1 7 5) 200 ∧ (Q g (g.1 13 ((g.1 7 5).toNatClampNeg)) 0)))))))))) : qz_Call X (d + 2) 75 [.ref 7] g Q :=
  qz_meth qm_X6_sign (Nat.le_of_ble_eq_true rfl) (qz_manyC (cut := []) qe_X6_sign qo_X6_sign 16 0 [(0, .ref 7)] [] g (⟨fun c1 => (h.1 c1), fun c1 => ⟨fun c2 => ((h.2 c1).1 c2), fun c2 => qz_meth qm_X8_at (Nat.le_of_ble_eq_true rfl) (qz_manyC (cut := []) qe_X8_at qo_X8_at 13 0 [(0, .ref 1), (1, .int (g.1 7 5))] [] g ((h.2 c1).2 c2))⟩⟩))
theorem v_X11_indexOf_L {X : qz_X} {d : Nat} {Q : qz_Q} (g : qz_G) (v1 : Int32) (h : qz_WP X (d + 1) 187 Q 2 [(0, .ref 1000), (1, .int v1), (2, .int 0)] [] g) : qz_Call X (d + 1) 187 [.ref 1000, .int v1] g Q :=
  qz_meth qm_X11_indexOf (Nat.le_of_ble_eq_true rfl) (qz_manyC (cut := [(2, [0, 1, 2])]) qe_X11_indexOf qo_X11_indexOf 4 0 [(0, .ref 1000), (1, .int v1)] [] g h)
theorem v_X11_indexOf_L_2 {X : qz_X} {d : Nat} {Q : qz_Q} (g : qz_G) (v1 : Int32) (v2 : Int32) (h : (10 ≤ v2 → (Q g (-1) 0)) ∧ (¬ 10 ≤ v2 → (vp_in v2 10 ∧ ((¬ (qz_letters v2.toNatClampNeg) = v1 → (qz_WP X (d + 1) 187 Q 2 [(0, .ref 1000), (1, .int v1), (2, .int (v2 + 1))] [] g)) ∧ ((qz_letters v2.toNatClampNeg) = v1 → (Q g v2 0)))))) : qz_WP X (d + 1) 187 Q 2 [(0, .ref 1000), (1, .int v1), (2, .int v2)] [] g :=
  qz_manyC (cut := [(2, [0, 1, 2])]) qe_X11_indexOf qo_X11_indexOf 13 2 [(0, .ref 1000), (1, .int v1), (2, .int v2)] [] g h
theorem v_X11_indexOf_F {X : qz_X} {d : Nat} {Q : qz_Q} (g : qz_G) (v1 : Int32) (h : qz_WP X (d + 1) 187 Q 2 [(0, .ref 1002), (1, .int v1), (2, .int 0)] [] g) : qz_Call X (d + 1) 187 [.ref 1002, .int v1] g Q :=
  qz_meth qm_X11_indexOf (Nat.le_of_ble_eq_true rfl) (qz_manyC (cut := [(2, [0, 1, 2])]) qe_X11_indexOf qo_X11_indexOf 4 0 [(0, .ref 1002), (1, .int v1)] [] g h)
theorem v_X11_indexOf_F_2 {X : qz_X} {d : Nat} {Q : qz_Q} (g : qz_G) (v1 : Int32) (v2 : Int32) (h : (8 ≤ v2 → (Q g (-1) 0)) ∧ (¬ 8 ≤ v2 → (vp_in v2 8 ∧ ((¬ (qz_factsC v2.toNatClampNeg) = v1 → (qz_WP X (d + 1) 187 Q 2 [(0, .ref 1002), (1, .int v1), (2, .int (v2 + 1))] [] g)) ∧ ((qz_factsC v2.toNatClampNeg) = v1 → (Q g v2 0)))))) : qz_WP X (d + 1) 187 Q 2 [(0, .ref 1002), (1, .int v1), (2, .int v2)] [] g :=
  qz_manyC (cut := [(2, [0, 1, 2])]) qe_X11_indexOf qo_X11_indexOf 13 2 [(0, .ref 1002), (1, .int v1), (2, .int v2)] [] g h
theorem v_X6_emit {X : qz_X} {d : Nat} {Q : qz_Q} (g : qz_G) (v1 : Int32) (v2 : Int32) (h : ((g.1 7 3) < 0 → (Q g 0 0)) ∧ (¬ (g.1 7 3) < 0 → ((4000 ≤ (g.1 7 3) → (Q g 0 0)) ∧ (¬ 4000 ≤ (g.1 7 3) → (vp_in (g.1 7 3) 4000 ∧ (Q (qz_ui (qz_ui g 59 ((g.1 7 3).toNatClampNeg) ((v2 <<< (8 &&& 31)) ||| v1)) 7 3 ((g.1 7 3) + 1)) 0 0)))))) : qz_Call X (d + 1) 89 [.ref 7, .int v1, .int v2] g Q :=
  qz_meth qm_X6_emit (Nat.le_of_ble_eq_true rfl) (qz_manyC (cut := []) qe_X6_emit qo_X6_emit 27 0 [(0, .ref 7), (1, .int v1), (2, .int v2)] [] g h)
theorem v_X6_landJump {X : qz_X} {d : Nat} {Q : qz_Q} (g : qz_G) (v1 : Int32) (h : (v1 < 0 → (Q g 0 0)) ∧ (¬ v1 < 0 → ((4000 ≤ v1 → (Q g 0 0)) ∧ (¬ 4000 ≤ v1 → (vp_in v1 4000 ∧ (Q (qz_ui g 59 v1.toNatClampNeg (((((g.1 7 3) - v1) - 1) <<< (8 &&& 31)) ||| (g.1 59 v1.toNatClampNeg))) 0 0)))))) : qz_Call X (d + 1) 90 [.ref 7, .int v1] g Q :=
  qz_meth qm_X6_landJump (Nat.le_of_ble_eq_true rfl) (qz_manyC (cut := []) qe_X6_landJump qo_X6_landJump 26 0 [(0, .ref 7), (1, .int v1)] [] g (⟨fun c1 => (h.1 c1), fun c1 => ⟨fun c2 => ((h.2 c1).1 c2), fun c2 => ⟨((h.2 c1).2 c2).1, ⟨((h.2 c1).2 c2).1, ((h.2 c1).2 c2).2⟩⟩⟩⟩))
def qFy (v : Int32) : Int32 := if v = 107 then 0 else if v = 108 then 1 else if v = 121 then 2 else if v = 122 then 3 else if v = 111 then 4 else if v = 102 then 5 else if v = 106 then 6 else if v = 100 then 7 else (-1)
def qLx (v : Int32) : Int32 := if v = 97 then 0 else if v = 108 then 1 else if v = 116 then 2 else if v = 117 then 3 else if v = 102 then 4 else if v = 119 then 5 else if v = 101 then 6 else if v = 115 then 7 else if v = 112 then 8 else if v = 120 then 9 else (-1)
def qSx (g : qz_G) : Int32 := if g.1 7 8 = 0 ∧ ¬ g.1 7 6 ≤ g.1 7 5 ∧ ¬ g.1 7 5 < 0 ∧ ¬ g.1 1 1 ≤ g.1 7 5 then g.1 13 (g.1 7 5).toNatClampNeg else (-1)
theorem c_X6_sign {X : qz_X} {d : Nat} {Q : qz_Q} (g : qz_G) (h : (qI (g.1 1 1) 0 200) ∧ Q g (qSx g) 0) : qz_Call X (d + 2) 75 [.ref 7] g Q := by
  obtain ⟨hn, h⟩ := h
  unfold qSx at h
  refine v_X6_sign g ⟨fun a => ?_, fun a => ⟨fun b => ?_, fun b => ⟨fun c => ?_, fun c => ⟨fun e => ?_, fun e => ⟨?_, ?_⟩⟩⟩⟩⟩
  · rw [if_neg (fun z => a z.1)] at h; exact h
  · rw [if_neg (fun z => z.2.1 b)] at h; exact h
  · rw [if_neg (fun z => z.2.2.1 c)] at h; exact h
  · rw [if_neg (fun z => z.2.2.2 e)] at h; exact h
  · have h2 := hn.2
    rw [qz_lt, qz_n200] at h2
    rw [qz_lt, qz_n0] at c
    rw [qz_le] at e
    exact qz_vi (by omega) (by omega)
  · rw [if_pos ⟨a, b, c, e⟩] at h; exact h
theorem c_X11_indexOf_F {X : qz_X} {d : Nat} {Q : qz_Q} (g : qz_G) (v1 : Int32) (h : Q g (qFy v1) 0) : qz_Call X (d + 1) 187 [.ref 1002, .int v1] g Q := by
  unfold qFy at h
  refine v_X11_indexOf_F g v1 ?_
  refine v_X11_indexOf_F_2 g v1 0 ⟨fun a => absurd a (by decide), fun _ => ⟨qz_vi (by decide) (by decide), fun ne => ?_, fun e => ?_⟩⟩
  rotate_left
  · have e2 : v1 = 107 := e.symm
    subst e2
    exact h
  rw [if_neg (show ¬ v1 = 107 from fun z => ne z.symm)] at h
  rw [show (0 : Int32) + 1 = 1 from by decide]
  refine v_X11_indexOf_F_2 g v1 1 ⟨fun a => absurd a (by decide), fun _ => ⟨qz_vi (by decide) (by decide), fun ne => ?_, fun e => ?_⟩⟩
  rotate_left
  · have e2 : v1 = 108 := e.symm
    subst e2
    exact h
  rw [if_neg (show ¬ v1 = 108 from fun z => ne z.symm)] at h
  rw [show (1 : Int32) + 1 = 2 from by decide]
  refine v_X11_indexOf_F_2 g v1 2 ⟨fun a => absurd a (by decide), fun _ => ⟨qz_vi (by decide) (by decide), fun ne => ?_, fun e => ?_⟩⟩
  rotate_left
  · have e2 : v1 = 121 := e.symm
    subst e2
    exact h
  rw [if_neg (show ¬ v1 = 121 from fun z => ne z.symm)] at h
  rw [show (2 : Int32) + 1 = 3 from by decide]
  refine v_X11_indexOf_F_2 g v1 3 ⟨fun a => absurd a (by decide), fun _ => ⟨qz_vi (by decide) (by decide), fun ne => ?_, fun e => ?_⟩⟩
  rotate_left
  · have e2 : v1 = 122 := e.symm
    subst e2
    exact h
  rw [if_neg (show ¬ v1 = 122 from fun z => ne z.symm)] at h
  rw [show (3 : Int32) + 1 = 4 from by decide]
  refine v_X11_indexOf_F_2 g v1 4 ⟨fun a => absurd a (by decide), fun _ => ⟨qz_vi (by decide) (by decide), fun ne => ?_, fun e => ?_⟩⟩
  rotate_left
  · have e2 : v1 = 111 := e.symm
    subst e2
    exact h
  rw [if_neg (show ¬ v1 = 111 from fun z => ne z.symm)] at h
  rw [show (4 : Int32) + 1 = 5 from by decide]
  refine v_X11_indexOf_F_2 g v1 5 ⟨fun a => absurd a (by decide), fun _ => ⟨qz_vi (by decide) (by decide), fun ne => ?_, fun e => ?_⟩⟩
  rotate_left
  · have e2 : v1 = 102 := e.symm
    subst e2
    exact h
  rw [if_neg (show ¬ v1 = 102 from fun z => ne z.symm)] at h
  rw [show (5 : Int32) + 1 = 6 from by decide]
  refine v_X11_indexOf_F_2 g v1 6 ⟨fun a => absurd a (by decide), fun _ => ⟨qz_vi (by decide) (by decide), fun ne => ?_, fun e => ?_⟩⟩
  rotate_left
  · have e2 : v1 = 106 := e.symm
    subst e2
    exact h
  rw [if_neg (show ¬ v1 = 106 from fun z => ne z.symm)] at h
  rw [show (6 : Int32) + 1 = 7 from by decide]
  refine v_X11_indexOf_F_2 g v1 7 ⟨fun a => absurd a (by decide), fun _ => ⟨qz_vi (by decide) (by decide), fun ne => ?_, fun e => ?_⟩⟩
  rotate_left
  · have e2 : v1 = 100 := e.symm
    subst e2
    exact h
  rw [if_neg (show ¬ v1 = 100 from fun z => ne z.symm)] at h
  rw [show (7 : Int32) + 1 = 8 from by decide]
  exact v_X11_indexOf_F_2 g v1 8 ⟨fun _ => h, fun a => absurd (by decide) a⟩
theorem c_X11_indexOf_L {X : qz_X} {d : Nat} {Q : qz_Q} (g : qz_G) (v1 : Int32) (h : Q g (qLx v1) 0) : qz_Call X (d + 1) 187 [.ref 1000, .int v1] g Q := by
  unfold qLx at h
  refine v_X11_indexOf_L g v1 ?_
  refine v_X11_indexOf_L_2 g v1 0 ⟨fun a => absurd a (by decide), fun _ => ⟨qz_vi (by decide) (by decide), fun ne => ?_, fun e => ?_⟩⟩
  rotate_left
  · have e2 : v1 = 97 := e.symm
    subst e2
    exact h
  rw [if_neg (show ¬ v1 = 97 from fun z => ne z.symm)] at h
  rw [show (0 : Int32) + 1 = 1 from by decide]
  refine v_X11_indexOf_L_2 g v1 1 ⟨fun a => absurd a (by decide), fun _ => ⟨qz_vi (by decide) (by decide), fun ne => ?_, fun e => ?_⟩⟩
  rotate_left
  · have e2 : v1 = 108 := e.symm
    subst e2
    exact h
  rw [if_neg (show ¬ v1 = 108 from fun z => ne z.symm)] at h
  rw [show (1 : Int32) + 1 = 2 from by decide]
  refine v_X11_indexOf_L_2 g v1 2 ⟨fun a => absurd a (by decide), fun _ => ⟨qz_vi (by decide) (by decide), fun ne => ?_, fun e => ?_⟩⟩
  rotate_left
  · have e2 : v1 = 116 := e.symm
    subst e2
    exact h
  rw [if_neg (show ¬ v1 = 116 from fun z => ne z.symm)] at h
  rw [show (2 : Int32) + 1 = 3 from by decide]
  refine v_X11_indexOf_L_2 g v1 3 ⟨fun a => absurd a (by decide), fun _ => ⟨qz_vi (by decide) (by decide), fun ne => ?_, fun e => ?_⟩⟩
  rotate_left
  · have e2 : v1 = 117 := e.symm
    subst e2
    exact h
  rw [if_neg (show ¬ v1 = 117 from fun z => ne z.symm)] at h
  rw [show (3 : Int32) + 1 = 4 from by decide]
  refine v_X11_indexOf_L_2 g v1 4 ⟨fun a => absurd a (by decide), fun _ => ⟨qz_vi (by decide) (by decide), fun ne => ?_, fun e => ?_⟩⟩
  rotate_left
  · have e2 : v1 = 102 := e.symm
    subst e2
    exact h
  rw [if_neg (show ¬ v1 = 102 from fun z => ne z.symm)] at h
  rw [show (4 : Int32) + 1 = 5 from by decide]
  refine v_X11_indexOf_L_2 g v1 5 ⟨fun a => absurd a (by decide), fun _ => ⟨qz_vi (by decide) (by decide), fun ne => ?_, fun e => ?_⟩⟩
  rotate_left
  · have e2 : v1 = 119 := e.symm
    subst e2
    exact h
  rw [if_neg (show ¬ v1 = 119 from fun z => ne z.symm)] at h
  rw [show (5 : Int32) + 1 = 6 from by decide]
  refine v_X11_indexOf_L_2 g v1 6 ⟨fun a => absurd a (by decide), fun _ => ⟨qz_vi (by decide) (by decide), fun ne => ?_, fun e => ?_⟩⟩
  rotate_left
  · have e2 : v1 = 101 := e.symm
    subst e2
    exact h
  rw [if_neg (show ¬ v1 = 101 from fun z => ne z.symm)] at h
  rw [show (6 : Int32) + 1 = 7 from by decide]
  refine v_X11_indexOf_L_2 g v1 7 ⟨fun a => absurd a (by decide), fun _ => ⟨qz_vi (by decide) (by decide), fun ne => ?_, fun e => ?_⟩⟩
  rotate_left
  · have e2 : v1 = 115 := e.symm
    subst e2
    exact h
  rw [if_neg (show ¬ v1 = 115 from fun z => ne z.symm)] at h
  rw [show (7 : Int32) + 1 = 8 from by decide]
  refine v_X11_indexOf_L_2 g v1 8 ⟨fun a => absurd a (by decide), fun _ => ⟨qz_vi (by decide) (by decide), fun ne => ?_, fun e => ?_⟩⟩
  rotate_left
  · have e2 : v1 = 112 := e.symm
    subst e2
    exact h
  rw [if_neg (show ¬ v1 = 112 from fun z => ne z.symm)] at h
  rw [show (8 : Int32) + 1 = 9 from by decide]
  refine v_X11_indexOf_L_2 g v1 9 ⟨fun a => absurd a (by decide), fun _ => ⟨qz_vi (by decide) (by decide), fun ne => ?_, fun e => ?_⟩⟩
  rotate_left
  · have e2 : v1 = 120 := e.symm
    subst e2
    exact h
  rw [if_neg (show ¬ v1 = 120 from fun z => ne z.symm)] at h
  rw [show (9 : Int32) + 1 = 10 from by decide]
  exact v_X11_indexOf_L_2 g v1 10 ⟨fun _ => h, fun a => absurd (by decide) a⟩
