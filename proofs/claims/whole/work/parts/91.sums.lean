theorem sum_of {X : qz_X} {L n : Nat} {g0 : qz_G} (hb : RdB L n g0) (k : Nat) (pro : CPro X L n g0 k) : CSum X L n g0 k := by
  intro d Q g p o C h ho hq
  have hn := hb.2.1
  have head : ∀ (f : Nat) (g1 : qz_G) (m p1 : Nat) (t : List qOp), p1 + f = n → m ≤ p1 → RdA L n g0 g1 p1 o (C ++ t) → (¬ g.1 7 12 = 0 → ¬ g1.1 7 12 = 0) → t.length + p ≤ p1 → qTg (g1.1 7 12) (C ++ t) C.length (C ++ t).length (3 + 2 * k) false → WF (qSn g0 n) S2 p o C p1 (C ++ t) → ¬ 4 ≤ qSs (qSn g0 n p1) → qz_WP X (d + 3 * k + 3 + 3) 86 Q 6 [(0, .ref 7), (1, .int (nI m))] [] g1 := by
    intro f
    induction f using Nat.strongRecOn with
    | _ f ihf =>
      intro g1 m p1 t hf hm h1 ha hl ht hw h4
      have done : ¬ 2 ≤ qSs (qSn g0 n p1) → Q g1 0 0 := fun w => hq g1 (Or.inl ⟨p1, t, h1, ha, hl, ht, hw, w⟩)
      have s43 := RdA_is hb h1 (c := 43) (s := 43) (by decide) (by decide)
      have s45 := RdA_is hb h1 (c := 45) (s := 45) (by decide) (by decide)
      have step : ∀ s : Nat, qSn g0 n p1 = s → s < 256 → 2 ≤ qSs s → qSs s ≤ 3 → qSg (qSs s) = s → qz_Call X (d + 3 * k + 3 + 2) 87 [.ref 7] (qz_ui g1 7 5 ((g1.1 7 5) + 1)) (fun g3 _ _ => qz_Call X (d + 3 * k + 3 + 2) 89 [.ref 7, .int (qSx g1), .int 0] g3 (fun g5 _ _ => qz_WP X (d + 3 * k + 3 + 3) 86 Q 6 [(0, .ref 7), (1, .int (nI m + 1))] [] g5)) := by
        intro s es hs o1 o2 o3
        have hin : p1 < n := qSn_in (g0 := g0) (by omega)
        have esx : qSx g1 = nI s := (RdA_is hb h1 rfl hs).mpr es
        have h2 : RdA L n g0 (qz_ui g1 7 5 ((g1.1 7 5) + 1)) (p1 + 1) o (C ++ t) := h1.u5 (by rw [h1.2.2.1, nI_1]) (by omega) (by omega)
        refine pro d _ _ (p1 + 1) o (C ++ t) h2 ho (fun g3 r3 => ?_)
        rw [ui_n (by omega)] at r3
        have sS : ∀ K2 : List qOp, S1 ((qSs s, 0) :: K2) := fun K2 z => by
          have z1 : 4 ≤ qSs s := z.1
          omega
        have pre : ∀ (ph hw' : Nat) (K1 K2 : List qOp), (ph = 1 ∨ ph = 3) → S2 K2 → Rch (qSn g0 n) (ph, hw', p, o, C, K1, K2) (ph, hw', p1 + 1, o, C ++ t, K1, (qSs s, 0) :: K2) := by
          intro ph hw' K1 K2 hph hS
          refine (hw ph hw' K1 K2 hph hS).st ?_
          have x := s2_rda (qSn g0 n) (ph := ph + 1) (hw := hw') (p := p1) (o := o) (C := C ++ t) (K1 := K1) (K2 := K2) (by omega) hS h4 (by rw [es]; exact o1)
          rw [es] at x
          exact x
        rcases r3 with ⟨p3, t2, a1, a2, a3, a4, a5, a6⟩ | ⟨kd, at_, a1, a2⟩
        · have hC3 := a1.2.2.2.2.2.2.2.1
          have hCt := h1.2.2.2.2.2.2.2.1
          have hp3 := a1.2.2.2.2.2.2.1
          rw [List.length_append] at hC3 hCt
          refine c_emitA (d := d + 3 * k + 3 + 1) hb g3 a1 (by rw [List.length_append, List.length_append]; omega) (qSs s) 0 (qWx_0 _ _ (by rw [esx, o3])) (fun g5 h5 e5 => ?_)
          rw [nI_1]
          have ea : C ++ t ++ t2 ++ [(qSs s, 0)] = C ++ (t ++ t2 ++ [(qSs s, 0)]) := by simp only [List.append_assoc]
          refine ihf (n - p3) (by omega) g5 (m + 1) p3 (t ++ t2 ++ [(qSs s, 0)]) (by omega) (by omega) (by rw [← ea]; exact h5) (fun w => by rw [e5]; exact a2 (ha w)) ?_ ?_ ?_ a6
          · rw [List.length_append, List.length_append]
            show t.length + t2.length + 1 + p ≤ p3
            omega
          · rw [← ea, e5, List.length_append]
            have t1 : qTg (g3.1 7 12) (C ++ t ++ t2 ++ [(qSs s, 0)]) C.length (C ++ t).length (3 + 2 * k) false := qTg_as (qTg_app (qTg_app ht)) a2
            have t3 : qTg (g3.1 7 12) (C ++ t ++ t2 ++ [(qSs s, 0)]) (C ++ t).length (C ++ t ++ t2).length (2 + 2 * k) false := qTg_app a4
            have b := qTg_bin (H := 3 + 2 * k) t1 t3 (by rw [List.length_append (as := C ++ t ++ t2)]; show _ < _ + 1; omega) qOa_e (by omega) (by omega) (by omega) (by omega)
            rw [decide_eq_false (by omega)] at b
            exact b
          · rw [← ea]
            intro ph hw' K1 K2 hph hS
            refine ((pre ph hw' K1 K2 hph hS).tr (a5 ph hw' K1 ((qSs s, 0) :: K2) hph (sS K2))).st ?_
            exact s2_add _ (by omega) ⟨o1, o2⟩ a6
        · exact c_emitD (d := d + 3 * k + 3 + 1) hb.1 g3 a1 (fun g5 h5 => H_86 (d := d + 3 * k + 3) hb g5 _ h5 (fun g6 h6 => hq g6 (Or.inr ⟨kd, at_, h6, fun ph hw' K1 K2 hph hS => (pre ph hw' K1 K2 hph hS).tr (a2 ph hw' K1 ((qSs s, 0) :: K2) hph (sS K2))⟩)))
      refine v_X6_sum_6 (d := d + 3 * k + 3) g1 (nI m) ⟨fun z => ?_, fun _ => ⟨RdF_11 hb h1.1, fun z => step 43 (s43.mp z) (by decide) (by decide) (by decide) (by decide), fun z1 => ⟨fun z3 => ?_, fun z => step 45 (s45.mp z) (by decide) (by decide) (by decide) (by decide)⟩⟩⟩
      · rw [qz_le, qz_n200, nI_toInt (by omega)] at z
        apply done
        have : ¬ p1 < n := by omega
        unfold qSn
        rw [if_neg this]
        decide
      · apply done
        have y1 : ¬ qSn g0 n p1 = 43 := fun w => z1 (s43.mpr w)
        have y2 : ¬ qSn g0 n p1 = 45 := fun w => z3 (s45.mpr w)
        unfold qSs at h4 ⊢
        rw [if_neg y1, if_neg y2] at h4 ⊢
        intro w
        split at w
        · rename_i x; rw [if_pos x] at h4; omega
        · rename_i x
          rw [if_neg x] at h4
          split at w
          · rename_i x; rw [if_pos x] at h4; omega
          · rename_i x
            rw [if_neg x] at h4
            split at w
            · rename_i x; rw [if_pos x] at h4; omega
            · omega
  refine v_X6_sum (d := d + 3 * k + 3) g (pro d _ g p o C h ho (fun g1 r1 => ?_))
  have s21 : ∀ K2 : List qOp, S2 K2 → S1 K2 := fun K2 z w => z ⟨by omega, w.2⟩
  rcases r1 with ⟨p1, t, a1, a2, a3, a4, a5, a6⟩ | ⟨kd, at_, a1, a2⟩
  · have hp1 := a1.2.2.2.2.2.2.1
    exact head (n - p1) g1 0 p1 t (by omega) (by omega) a1 a2 a3 (qTg_up a4 (by omega)) (fun ph hw K1 K2 hph hS => a5 ph hw K1 K2 hph (s21 K2 hS)) a6
  · exact H_86 (d := d + 3 * k + 3) hb g1 0 a1 (fun g6 h6 => hq g6 (Or.inr ⟨kd, at_, h6, fun ph hw K1 K2 hph hS => a2 ph hw K1 K2 hph (s21 K2 hS)⟩))
theorem sum_all {X : qz_X} {L n : Nat} {g0 : qz_G} (hb : RdB L n g0) : ∀ k, CSum X L n g0 k
  | 0 => sum_of hb 0 (pro_of hb 0 (fac_of hb 0 (Or.inl rfl)))
  | k + 1 => sum_of hb (k + 1) (pro_of hb (k + 1) (fac_of hb (k + 1) (Or.inr ⟨k, rfl, sum_all hb k⟩)))
