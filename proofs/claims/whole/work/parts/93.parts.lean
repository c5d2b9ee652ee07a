theorem eve_of {X : qz_X} {L n : Nat} {g0 : qz_G} (hb : RdB L n g0) (k : Nat) (pie : CPie X L n g0 k) : CEve X L n g0 k := by
  intro d Q g p o C h ho hlp hq
  have hn := hb.2.1
  have head : ∀ (f : Nat) (g1 : qz_G) (m p1 : Nat) (t : List qOp), p1 + f = n → m ≤ p1 → RdA L n g0 g1 p1 o (C ++ t) → (¬ g.1 7 12 = 0 → ¬ g1.1 7 12 = 0) → t.length + p ≤ p1 → qTg (g1.1 7 12) (C ++ t) C.length (C ++ t).length 16 true → WC (qSn g0 n) SE p o C p1 (C ++ t) → True → qz_WP X (d + 3 * k + 5 + 3) 84 Q 6 [(0, .ref 7), (1, .int (nI m))] [] g1 := by
    intro f
    induction f using Nat.strongRecOn with
    | _ f ihf =>
      intro g1 m p1 t hf hm h1 ha hl ht hw hinv
      have done : ¬ qSn g0 n p1 = 38 → Q g1 0 0 := fun w => hq g1 (Or.inl ⟨p1, t, h1, ha, hl, ht, hw, w⟩)
      have sch := RdA_is hb h1 (c := 38) (s := 38) (by decide) (by decide)
      refine v_X6_everyPiece_6 (d := d + 3 * k + 5) g1 (nI m) ⟨fun z => ?_, fun _ => ⟨RdF_11 hb h1.1, fun z => done (fun w => z (sch.mpr w)), fun z => ?_⟩⟩
      · rw [qz_le, qz_n200, nI_toInt (by omega)] at z
        apply done
        have : ¬ p1 < n := by omega
        unfold qSn
        rw [if_neg this]
        decide
      · have es := sch.mp z
        have hin : p1 < n := qSn_in (g0 := g0) (by omega)
        have hCl := h1.2.2.2.2.2.2.2.1
        have e73 := h1.2.2.2.2.1
        have hl20 := hb.1
        have hDl : (C ++ t).length = C.length + t.length := List.length_append
        refine c_emitA (d := d + 3 * k + 5 + 1) hb g1 h1 (by omega) 11 0 (qWx_0 _ _ (by decide)) (fun g3 h3 e3 => ?_)
        have h4 : RdA L n g0 (qz_ui g3 7 5 ((g3.1 7 5) + 1)) (p1 + 1) o (C ++ t ++ [(11, 0)]) := h3.u5 (by rw [h3.2.2.1, nI_1]) (by omega) (by omega)
        have hEl : (C ++ t ++ [(11, 0)]).length = C.length + t.length + 1 := by rw [List.length_append, List.length_append]; rfl
        refine pie d _ _ (p1 + 1) o (C ++ t ++ [(11, 0)]) h4 ho (fun g5 r5 => ?_)
        rw [ui_n (by omega)] at r5
        have pre : ∀ (hw0 : Nat) (K1 : List qOp), SE K1 → ∃ hw1, Rch (qSn g0 n) (0, hw0, p, o, C, K1, []) (0, hw1, p1 + 1, o, C ++ t ++ [(11, 0)], (11, (C ++ t).length) :: K1, []) := by
          intro hw0 K1 hS
          obtain ⟨hw1, x⟩ := hw hw0 K1 hS
          exact ⟨hw1, x.st (s5_and _ hS es)⟩
        rcases r5 with ⟨p3, t2, a1, a2, a3, a4, a5⟩ | ⟨kd, at_, a1, a2⟩
        · have hp3 := a1.2.2.2.2.2.2.1
          have hFl : (C ++ t ++ [(11, 0)] ++ t2).length = C.length + t.length + 1 + t2.length := by rw [List.length_append, hEl]
          have hjl : (C ++ t).length < (C ++ t ++ [(11, 0)] ++ t2).length := by omega
          refine c_landA (d := d + 3 * k + 5 + 1) hb g5 a1 (C ++ t).length 11 hjl (by omega) (by omega) (by rw [qOa_l (by omega), qOa_e]) e73 (fun g7 h7 e7 => ?_)
          rw [nI_1]
          have ea : (C ++ t ++ [(11, 0)] ++ t2).set (C ++ t).length (11, (C ++ t ++ [(11, 0)] ++ t2).length) = C ++ (t ++ (11, (C ++ t ++ [(11, 0)] ++ t2).length) :: t2) := by
            rw [List.append_assoc (C ++ t), List.set_append_right _ _ (Nat.le_refl _), Nat.sub_self]
            show C ++ t ++ (_ :: t2) = _
            rw [List.append_assoc]
          have he := fun q => qOa_set (C := C ++ t ++ [(11, 0)] ++ t2) (k := q) (q := (11, (C ++ t ++ [(11, 0)] ++ t2).length)) hjl
          have hSl : ((C ++ t ++ [(11, 0)] ++ t2).set (C ++ t).length (11, (C ++ t ++ [(11, 0)] ++ t2).length)).length = (C ++ t ++ [(11, 0)] ++ t2).length := List.length_set
          refine ihf (n - p3) (by omega) g7 (m + 1) p3 (t ++ (11, (C ++ t ++ [(11, 0)] ++ t2).length) :: t2) (by omega) (by omega) (by rw [← ea]; exact h7) (fun w => by rw [e7]; exact a2 (by rw [e3]; exact ha w)) ?_ ?_ ?_ trivial
          · rw [List.length_append, List.length_cons]
            omega
          · rw [← ea, e7, hSl]
            have t1 : qTg (g5.1 7 12) (C ++ t ++ [(11, 0)] ++ t2) C.length (C ++ t).length 16 true := qTg_as (qTg_app (qTg_app ht)) (fun w => a2 (by rw [e3]; exact w))
            refine qTg_jmp (j := (C ++ t).length) (op := 11) (qTg_congr t1 (fun q q1 q2 => by rw [he q, if_neg (by omega)]) (by rw [hSl]; omega)) (qTg_congr (by rw [hEl] at a4; rw [hDl]; exact a4) (fun q q1 q2 => by rw [he q, if_neg (by omega)]) (by rw [hSl]; exact Nat.le_refl _)) (by rw [he, if_pos rfl]) (by omega) (by omega)
          · rw [← ea]
            intro hw0 K1 hS
            obtain ⟨hw1, x⟩ := pre hw0 K1 hS
            obtain ⟨hw2, y⟩ := a5 hw1 ((11, (C ++ t).length) :: K1) trivial
            exact ⟨hw2, (x.tr y).st (s5_ifn _)⟩
        · refine c_landD (d := d + 3 * k + 5 + 1) g5 a1 (by rw [e73, nI_toInt (by omega)]; omega) (fun g7 h7 => H_84 (d := d + 3 * k + 5) hb g7 _ h7 (fun g8 h8 => hq g8 (Or.inr ⟨kd, at_, h8, fun hw0 K1 hS => ?_⟩)))
          obtain ⟨hw1, x⟩ := pre hw0 K1 hS
          exact x.tr (a2 hw1 ((11, (C ++ t).length) :: K1) trivial)
  refine v_X6_everyPiece (d := d + 3 * k + 5) g (pie d _ g p o C h ho (fun g1 r1 => ?_))
  rcases r1 with ⟨p1, t, a1, a2, a3, a4, a5⟩ | ⟨kd, at_, a1, a2⟩
  · have hp1 := a1.2.2.2.2.2.2.1
    exact head (n - p1) g1 0 p1 t (by omega) (by omega) a1 a2 a3 a4 (fun hw K1 hS => a5 hw K1 trivial) trivial
  · exact H_84 (d := d + 3 * k + 5) hb g1 0 a1 (fun g6 h6 => hq g6 (Or.inr ⟨kd, at_, h6, fun hw K1 hS => a2 hw K1 trivial⟩))
theorem any_of {X : qz_X} {L n : Nat} {g0 : qz_G} (hb : RdB L n g0) (k : Nat) (pie : CEve X L n g0 k) : CAny X L n g0 k := by
  intro d Q g p o C h ho hlp hq
  have hn := hb.2.1
  have head : ∀ (f : Nat) (g1 : qz_G) (m p1 : Nat) (t : List qOp), p1 + f = n → m ≤ p1 → RdA L n g0 g1 p1 o (C ++ t) → (¬ g.1 7 12 = 0 → ¬ g1.1 7 12 = 0) → t.length + p ≤ p1 → qTg (g1.1 7 12) (C ++ t) C.length (C ++ t).length 16 true → WC (qSn g0 n) SA p o C p1 (C ++ t) → ¬ qSn g0 n p1 = 38 → qz_WP X (d + 3 * k + 6 + 3) 83 Q 6 [(0, .ref 7), (1, .int (nI m))] [] g1 := by
    intro f
    induction f using Nat.strongRecOn with
    | _ f ihf =>
      intro g1 m p1 t hf hm h1 ha hl ht hw hinv
      have done : ¬ qSn g0 n p1 = 124 → Q g1 0 0 := fun w => hq g1 (Or.inl ⟨p1, t, h1, ha, hl, ht, hw, hinv, w⟩)
      have sch := RdA_is hb h1 (c := 124) (s := 124) (by decide) (by decide)
      refine v_X6_anyPart_6 (d := d + 3 * k + 6) g1 (nI m) ⟨fun z => ?_, fun _ => ⟨RdF_11 hb h1.1, fun z => done (fun w => z (sch.mpr w)), fun z => ?_⟩⟩
      · rw [qz_le, qz_n200, nI_toInt (by omega)] at z
        apply done
        have : ¬ p1 < n := by omega
        unfold qSn
        rw [if_neg this]
        decide
      · have es := sch.mp z
        have hin : p1 < n := qSn_in (g0 := g0) (by omega)
        have hCl := h1.2.2.2.2.2.2.2.1
        have e73 := h1.2.2.2.2.1
        have hl20 := hb.1
        have hDl : (C ++ t).length = C.length + t.length := List.length_append
        refine c_emitA (d := d + 3 * k + 6 + 1) hb g1 h1 (by omega) 12 0 (qWx_0 _ _ (by decide)) (fun g3 h3 e3 => ?_)
        have h4 : RdA L n g0 (qz_ui g3 7 5 ((g3.1 7 5) + 1)) (p1 + 1) o (C ++ t ++ [(12, 0)]) := h3.u5 (by rw [h3.2.2.1, nI_1]) (by omega) (by omega)
        have hEl : (C ++ t ++ [(12, 0)]).length = C.length + t.length + 1 := by rw [List.length_append, List.length_append]; rfl
        refine pie d _ _ (p1 + 1) o (C ++ t ++ [(12, 0)]) h4 ho (by omega) (fun g5 r5 => ?_)
        rw [ui_n (by omega)] at r5
        have pre : ∀ (hw0 : Nat) (K1 : List qOp), SA K1 → ∃ hw1, Rch (qSn g0 n) (0, hw0, p, o, C, K1, []) (0, hw1, p1 + 1, o, C ++ t ++ [(12, 0)], (12, (C ++ t).length) :: K1, []) := by
          intro hw0 K1 hS
          obtain ⟨hw1, x⟩ := hw hw0 K1 hS
          obtain ⟨y, K, rfl⟩ := hS
          exact ⟨hw1, x.st (s5_or _ es)⟩
        rcases r5 with ⟨p3, t2, a1, a2, a3, a4, a5, a6⟩ | ⟨kd, at_, a1, a2⟩
        · have hp3 := a1.2.2.2.2.2.2.1
          have hFl : (C ++ t ++ [(12, 0)] ++ t2).length = C.length + t.length + 1 + t2.length := by rw [List.length_append, hEl]
          have hjl : (C ++ t).length < (C ++ t ++ [(12, 0)] ++ t2).length := by omega
          refine c_landA (d := d + 3 * k + 6 + 1) hb g5 a1 (C ++ t).length 12 hjl (by omega) (by omega) (by rw [qOa_l (by omega), qOa_e]) e73 (fun g7 h7 e7 => ?_)
          rw [nI_1]
          have ea : (C ++ t ++ [(12, 0)] ++ t2).set (C ++ t).length (12, (C ++ t ++ [(12, 0)] ++ t2).length) = C ++ (t ++ (12, (C ++ t ++ [(12, 0)] ++ t2).length) :: t2) := by
            rw [List.append_assoc (C ++ t), List.set_append_right _ _ (Nat.le_refl _), Nat.sub_self]
            show C ++ t ++ (_ :: t2) = _
            rw [List.append_assoc]
          have he := fun q => qOa_set (C := C ++ t ++ [(12, 0)] ++ t2) (k := q) (q := (12, (C ++ t ++ [(12, 0)] ++ t2).length)) hjl
          have hSl : ((C ++ t ++ [(12, 0)] ++ t2).set (C ++ t).length (12, (C ++ t ++ [(12, 0)] ++ t2).length)).length = (C ++ t ++ [(12, 0)] ++ t2).length := List.length_set
          refine ihf (n - p3) (by omega) g7 (m + 1) p3 (t ++ (12, (C ++ t ++ [(12, 0)] ++ t2).length) :: t2) (by omega) (by omega) (by rw [← ea]; exact h7) (fun w => by rw [e7]; exact a2 (by rw [e3]; exact ha w)) ?_ ?_ ?_ a6
          · rw [List.length_append, List.length_cons]
            omega
          · rw [← ea, e7, hSl]
            have t1 : qTg (g5.1 7 12) (C ++ t ++ [(12, 0)] ++ t2) C.length (C ++ t).length 16 true := qTg_as (qTg_app (qTg_app ht)) (fun w => a2 (by rw [e3]; exact w))
            refine qTg_jmp (j := (C ++ t).length) (op := 12) (qTg_congr t1 (fun q q1 q2 => by rw [he q, if_neg (by omega)]) (by rw [hSl]; omega)) (qTg_congr (by rw [hEl] at a4; rw [hDl]; exact a4) (fun q q1 q2 => by rw [he q, if_neg (by omega)]) (by rw [hSl]; exact Nat.le_refl _)) (by rw [he, if_pos rfl]) (by omega) (by omega)
          · rw [← ea]
            intro hw0 K1 hS
            obtain ⟨hw1, x⟩ := pre hw0 K1 hS
            obtain ⟨hw2, y⟩ := a5 hw1 ((12, (C ++ t).length) :: K1) (Or.inl rfl)
            exact ⟨hw2, (x.tr y).st (s5_ifl _ a6)⟩
        · refine c_landD (d := d + 3 * k + 6 + 1) g5 a1 (by rw [e73, nI_toInt (by omega)]; omega) (fun g7 h7 => H_83 (d := d + 3 * k + 6) hb g7 _ h7 (fun g8 h8 => hq g8 (Or.inr ⟨kd, at_, h8, fun hw0 K1 hS => ?_⟩)))
          obtain ⟨hw1, x⟩ := pre hw0 K1 hS
          exact x.tr (a2 hw1 ((12, (C ++ t).length) :: K1) (Or.inl rfl))
  refine v_X6_anyPart (d := d + 3 * k + 6) g (pie d _ g p o C h ho hlp (fun g1 r1 => ?_))
  rcases r1 with ⟨p1, t, a1, a2, a3, a4, a5, a6⟩ | ⟨kd, at_, a1, a2⟩
  · have hp1 := a1.2.2.2.2.2.2.1
    exact head (n - p1) g1 0 p1 t (by omega) (by omega) a1 a2 a3 a4 (fun hw K1 hS => a5 hw K1 (by obtain ⟨y, K, rfl⟩ := hS; exact Or.inr rfl)) a6
  · exact H_83 (d := d + 3 * k + 6) hb g1 0 a1 (fun g6 h6 => hq g6 (Or.inr ⟨kd, at_, h6, fun hw K1 hS => a2 hw K1 (by obtain ⟨y, K, rfl⟩ := hS; exact Or.inr rfl)⟩))
theorem pie_any {X : qz_X} {L n : Nat} {g0 : qz_G} (hb : RdB L n g0) : ∀ k, CPie X L n g0 k ∧ CAny X L n g0 k
  | 0 => have p := pie_of hb 0 (Or.inl rfl)
    ⟨p, any_of hb 0 (eve_of hb 0 p)⟩
  | k + 1 => have p := pie_of hb (k + 1) (Or.inr ⟨k, rfl, pie_any hb k⟩)
    ⟨p, any_of hb (k + 1) (eve_of hb (k + 1) p)⟩
