/-! the reference: factors and sums -/
def FacF (X : qz_X) (d : Nat) (Q : qz_Q) (g : qz_G) : Prop := (qI (g.1 12 26) 0 200) ∧ (qI (g.1 12 27) 0 200) ∧ ((¬ (qSy g) = 91 → ((qI (qSy g) 48 57 → (qz_Call X (d + 2) 218 [.ref 12, .int 999999] g (fun g3 r4 _ => (¬ r4 = 0 → (vp_in (g3.1 12 31) 220 ∧ (Q (qz_ui (qz_ui g3 100 ((g3.1 12 31).toNatClampNeg) (0 + (g3.1 12 29))) 12 31 ((g3.1 12 31) + 1)) 1 0))) ∧ (r4 = 0 → (Q g3 0 0))))) ∧ (¬ (qI (qSy g) 48 57) → ((¬ (qFy (qSy g)) = (-1) → (vp_in (g.1 12 31) 220 ∧ (Q (qz_ui (qz_ui (qz_ui g 100 ((g.1 12 31).toNatClampNeg) (1048576 + (qFy (qSy g)))) 12 31 ((g.1 12 31) + 1)) 12 26 ((g.1 12 26) + 1)) 1 0))) ∧ ((qFy (qSy g)) = (-1) → (Q (qz_ui g 12 28 (((-1000) * 1) - (g.1 12 26))) 0 0)))))) ∧ ((qSy g) = 91 → (qz_Call X (d + 2) 220 [.ref 12, .int 14] g (fun g8 r9 _ => (¬ r9 = 0 → (qz_WP X (d + 3) 225 Q 0 [(0, .ref 12)] [] g8)) ∧ (r9 = 0 → (Q g8 0 0))))))
theorem qDc_dig (sg : Nat → Nat) : ∀ (j p i : Nat), i < qDc sg p j → 48 ≤ sg (p + i) ∧ sg (p + i) ≤ 57
  | 0, p, i, h => absurd h (Nat.not_lt_zero _)
  | j + 1, p, i, h => by
    have h' : i < if 48 ≤ sg p ∧ sg p ≤ 57 then 1 + qDc sg (p + 1) j else 0 := h
    by_cases c : 48 ≤ sg p ∧ sg p ≤ 57
    · rw [if_pos c] at h'
      cases i with
      | zero => exact c
      | succ i =>
        have := qDc_dig sg j (p + 1) i (by omega)
        rw [show p + (i + 1) = p + 1 + i from by omega]
        exact this
    · rw [if_neg c] at h'
      omega
theorem qDv_lt (sg : Nat → Nat) (p : Nat) : ∀ k, (∀ i, i < k → 48 ≤ sg (p + i) ∧ sg (p + i) ≤ 57) → qDv sg p k < 10 ^ k
  | 0, _ => by show 0 < 1; omega
  | k + 1, h => by
    have h1 := qDv_lt sg p k (fun i hi => h i (by omega))
    have h2 := h k (by omega)
    show 10 * qDv sg p k + (sg (p + k) - 48) < _
    rw [Nat.pow_succ]
    omega
theorem qDc_le (sg : Nat → Nat) : ∀ (j p : Nat), qDc sg p j ≤ j
  | 0, p => Nat.le_refl _
  | j + 1, p => by
    have := qDc_le sg j (p + 1)
    show (if 48 ≤ sg p ∧ sg p ≤ 57 then 1 + qDc sg (p + 1) j else 0) ≤ j + 1
    split <;> omega
theorem qDv_6 (sg : Nat → Nat) (p : Nat) (h : ¬ qDc sg p 7 = 7) : qDv sg p (qDc sg p 7) < 1000000 := by
  have h1 := qDv_lt sg p _ (fun i hi => qDc_dig sg 7 p i hi)
  have h2 := qDc_le sg 7 p
  have h3 : (10 : Nat) ^ (qDc sg p 7) ≤ 10 ^ 6 := Nat.pow_le_pow_right (by omega) (by omega)
  have h3 : (10 : Nat) ^ (qDc sg p 7) ≤ 1000000 := h3
  omega
theorem facr_main {X : qz_X} {d : Nat} {Q : qz_Q} {n : Nat} {sg : Nat → Nat} {g0 : qz_G} (hb : RmB n sg g0) (K1 : List qOp) (e : Nat) : ∀ (f p o : Nat) (C K2 : List qOp) (g : qz_G), p + f = n → RmM n g0 g p o C (K2 ++ K1) → PIv p o C K1 K2 e → (∀ g' p' o' C' K2', RmM n g0 g' p' o' C' (K2' ++ K1) → PIv p' o' C' K1 K2' e → p < p' → (∀ ph hw, ph = 1 ∨ ph = 3 → Rch sg (ph, hw, p, o, C, K1, K2) (ph + 1, hw, p', o', C', K1, K2')) → Q g' 1 0) → (∀ g' kd at_, RmX g0 g' kd at_ → (∀ ph hw, ph = 1 ∨ ph = 3 → Rch sg (ph, hw, p, o, C, K1, K2) (qFt kd at_)) → Q g' 0 0) → FacF X (d + 1) Q g := by
  intro f
  induction f with
  | zero =>
    intro p o C K2 g hf h hI hq1 hq2
    have hP := h.P hb
    have s999 : sg p = 999 := hb.2.2.2 p (by omega)
    have e1 : ¬ qSy g = 91 := fun w => by have := (hP.is (c := 91) (s := 91) (by decide) (by decide)).mp w; omega
    refine ⟨hP.c.1, hP.c.2, fun _ => ⟨fun w => ?_, fun _ => ⟨fun w => ?_, fun _ => ?_⟩⟩, fun w => absurd w e1⟩
    · rw [hP.dig] at w; omega
    · exfalso
      apply w
      rw [hP.fy, s999]
      decide
    · refine hq2 _ 1 p (h.x (by rw [h.2.1]; exact qGv 1 p (by decide))) (fun ph hw hph => (Rch.rf _ _).st (s1_F _ hph (by omega) (by omega) (by rw [s999]; decide)))
  | succ f ih =>
    intro p o C K2 g hf h hI hq1 hq2
    have hn := hb.1
    have hP := h.P hb
    have hl := hI.len
    have h91 := hP.is (c := 91) (s := 91) (by decide) (by decide)
    have e31 := h.2.2.2.1
    have hWl : (K2 ++ K1).length = K2.length + K1.length := List.length_append
    have hvi : vp_in (g.1 12 31) 220 := by rw [e31]; exact qz_vi (by rw [nI_toInt (by omega)]; omega) (by rw [nI_toInt (by omega)]; omega)
    refine ⟨hP.c.1, hP.c.2, fun n91 => ⟨fun w => ?_, fun nd => ⟨fun w => ?_, fun w => ?_⟩⟩, fun w => ?_⟩
    · have hd := hP.dig.mp w
      refine c_rmNum (d := d) g hP 999999 (by decide) (by decide) (fun g3 hf3 l0 _ c7 e26 e29 l1 l2 l3 l4 => ⟨fun _ => ?_, fun z => absurd z (by decide)⟩) (fun g3 hf3 l0 e28 => ⟨fun z => absurd rfl z, fun _ => ?_⟩)
      · have el : qLim sg p 999999 = (0, p + qDc sg p 7, qDv sg p (qDc sg p 7)) := by
          have := qDv_6 sg p c7
          unfold qLim
          rw [if_pos hd, if_neg c7, if_neg (by omega)]
        rw [el] at e26 e29 l1 l2 l3 l4
        have l1 : p + qDc sg p 7 ≤ n := l1
        have l2 : p + 1 ≤ p + qDc sg p 7 := l2
        have h3 := hf3.M h e26 l1
        have e31' := h3.2.2.2.1
        refine ⟨by rw [e31']; exact qz_vi (by rw [nI_toInt (by omega)]; omega) (by rw [nI_toInt (by omega)]; omega), ?_⟩
        refine hq1 _ (p + qDc sg p 7) o (C ++ [(0, qDv sg p (qDc sg p 7))]) K2 (h3.say (by rw [e31', nI_clamp (by omega)]) ?_ (by rw [e31', nI_1])) (piv_emit hI _ e (by omega)) (by omega) (fun ph hw hph => (Rch.rf _ _).st (s1_num _ hph hd c7))
        rw [e29, show (0 : Int32) = nI 0 from by decide, nI_add]
        rfl
      · have c7 : qDc sg p 7 = 7 := by
          by_cases c : qDc sg p 7 = 7
          · exact c
          · exfalso
            apply l0
            have := qDv_6 sg p c
            unfold qLim
            rw [if_pos hd, if_neg c, if_neg (by omega)]
        have el : qLim sg p 999999 = (2, p + 6, 0) := by unfold qLim; rw [if_pos hd, if_pos c7]
        rw [el] at e28
        exact hq2 g3 2 (p + 6) ⟨hf3.F h.1, e28⟩ (fun ph hw hph => (Rch.rf _ _).st (s1_numF _ hph hd c7))
    · have hf8 : qFc (sg p) < 8 := by
        by_cases c : qFc (sg p) < 8
        · exact c
        · rw [hP.fy, if_neg c] at w; exact absurd rfl w
      refine ⟨hvi, hq1 _ (p + 1) o (C ++ [(1, qFc (sg p))]) K2 ((h.say (by rw [e31, nI_clamp (by omega)]) ?_ (by rw [e31, nI_1])).pl (by rw [h.2.1, nI_1]) (by omega)) (piv_emit hI _ e (by omega)) (by omega) (fun ph hw hph => (Rch.rf _ _).st (s1_let _ hph (fun z => n91 (h91.mpr z)) (fun z => nd (hP.dig.mpr z)) hf8))⟩
      rw [hP.fy, if_pos hf8, show (1048576 : Int32) = nI 1048576 from by decide, nI_add]
      rfl
    · have hf8 : ¬ qFc (sg p) < 8 := by
        intro c
        rw [hP.fy, if_pos c, qz_eq, nI_toInt (by omega), qz_m1] at w
        omega
      exact hq2 _ 1 p (h.x (by rw [h.2.1]; exact qGv 1 p (by decide))) (fun ph hw hph => (Rch.rf _ _).st (s1_F _ hph (fun z => n91 (h91.mpr z)) (fun z => nd (hP.dig.mpr z)) hf8))
    · have s91 := h91.mp w
      refine c_opens (d := d + 1) g h (by omega) hn hI.2.2.2.1 (by omega) 14 (by decide) (fun g8 ho h8 => ⟨fun _ => ?_, fun z => absurd z (by decide)⟩) (fun g8 ho h8 => ⟨fun z => absurd rfl z, fun _ => hq2 g8 5 p h8 (fun ph hw hph => (Rch.rf _ _).st (s1_openF _ hph s91 ho))⟩)
      refine v_X12_readsFactor_0 (d := d + 1) g8 (ih (p + 1) (o + 1) C ((14, 0) :: K2) g8 (by omega) h8 (piv_open2 hI ho) (fun g' p' o' C' K2' b1 b2 b3 b4 => hq1 g' p' o' C' K2' b1 b2 (by omega) (fun ph hw hph => ((Rch.rf _ _).st (s1_open _ hph s91 ho)).tr (b4 ph hw hph))) (fun g' kd at_ b1 b2 => hq2 g' kd at_ b1 (fun ph hw hph => ((Rch.rf _ _).st (s1_open _ hph s91 ho)).tr (b2 ph hw hph))))
