/-! pieces, parts, conditions -/
def WC (sg : Nat → Nat) (S : List qOp → Prop) (p o : Nat) (C : List qOp) (p' : Nat) (C' : List qOp) : Prop := ∀ (hw : Nat) (K1 : List qOp), S K1 → ∃ hw', Rch sg (0, hw, p, o, C, K1, []) (5, hw', p', o, C', K1, [])
def VC (sg : Nat → Nat) (S : List qOp → Prop) (p o : Nat) (C : List qOp) (kd at_ : Nat) : Prop := ∀ (hw : Nat) (K1 : List qOp), S K1 → Rch sg (0, hw, p, o, C, K1, []) (qFt kd at_)
def SE (K : List qOp) : Prop := qTop K = 12 ∨ qTop K = 13
def SA (K : List qOp) : Prop := ∃ y K', K = (13, y) :: K'
def CPie (X : qz_X) (L n : Nat) (g0 : qz_G) (k : Nat) : Prop := ∀ (d : Nat) (Q : qz_Q) (g : qz_G) (p o : Nat) (C : List qOp), RdA L n g0 g p o C → o + k = 6 → (∀ g', RdR L n g0 16 true (WC (qSn g0 n) S0 p o C) (VC (qSn g0 n) S0 p o C) p o C (g.1 7 12) g' → Q g' 0 0) → qz_Call X (d + 3 * k + 7) 85 [.ref 7] g Q
def CEve (X : qz_X) (L n : Nat) (g0 : qz_G) (k : Nat) : Prop := ∀ (d : Nat) (Q : qz_Q) (g : qz_G) (p o : Nat) (C : List qOp), RdA L n g0 g p o C → o + k = 6 → C.length + 1 ≤ p → (∀ g', RdR L n g0 16 true (fun p' C' => WC (qSn g0 n) SE p o C p' C' ∧ ¬ qSn g0 n p' = 38) (VC (qSn g0 n) SE p o C) p o C (g.1 7 12) g' → Q g' 0 0) → qz_Call X (d + 3 * k + 8) 84 [.ref 7] g Q
def CAny (X : qz_X) (L n : Nat) (g0 : qz_G) (k : Nat) : Prop := ∀ (d : Nat) (Q : qz_Q) (g : qz_G) (p o : Nat) (C : List qOp), RdA L n g0 g p o C → o + k = 6 → C.length + 1 ≤ p → (∀ g', RdR L n g0 16 true (fun p' C' => WC (qSn g0 n) SA p o C p' C' ∧ ¬ qSn g0 n p' = 38 ∧ ¬ qSn g0 n p' = 124) (VC (qSn g0 n) SA p o C) p o C (g.1 7 12) g' → Q g' 0 0) → qz_Call X (d + 3 * k + 9) 83 [.ref 7] g Q
theorem S2_nil : S2 [] := fun z => absurd z.2 (by show ¬ 99 ≤ 6; decide)
theorem pie_of {X : qz_X} {L n : Nat} {g0 : qz_G} (hb : RdB L n g0) (k : Nat) (ih : k = 0 ∨ ∃ j, k = j + 1 ∧ CPie X L n g0 j ∧ CAny X L n g0 j) : CPie X L n g0 k := by
  intro d Q g p o C h ho hq
  have hn := hb.2.1
  have hpn := h.2.2.2.2.2.2.1
  have hCp := h.2.2.2.2.2.2.2.1
  have h77 := h.2.2.2.1
  have h33 := RdA_is hb h (c := 33) (s := 33) (by decide) (by decide)
  have h40 := RdA_is hb h (c := 40) (s := 40) (by decide) (by decide)
  have hA : p < n → o < 6 → RdA L n g0 (qz_ui (qz_ui g 7 7 (g.1 7 7 + 1)) 7 5 (g.1 7 5 + 1)) (p + 1) (o + 1) C := fun h1 h2 => (h.u7o (by rw [h77, nI_1]) (by omega)).u5 (by rw [h.2.2.1, nI_1]) (by omega) (by omega)
  have e12 : (qz_ui (qz_ui g 7 7 (g.1 7 7 + 1)) 7 5 (g.1 7 5 + 1)).1 7 12 = g.1 7 12 := by rw [ui_n (by omega), ui_n (by omega)]
  refine v_X6_piece (d := d + 3 * k + 3) g ⟨RdF_11 hb h.1, fun z => ⟨fun c => ⟨fun _ => ?_, fun z2 => ?_⟩, fun c => ⟨fun q => absurd h.2.1 q, fun _ => ?_⟩⟩, fun z1 => ⟨fun z => ⟨fun c => ?_, fun c => ⟨fun q => absurd h.2.1 q, fun _ => ?_⟩⟩, fun z2 => ?_⟩⟩
  · -- not
    have s33 := h33.mp z
    have hin : p < n := qSn_in (g0 := g0) (by omega)
    rw [h77, qz_lt, qz_n6, nI_toInt (by omega)] at c
    rcases ih with rfl | ⟨j, rfl, ihp, _⟩
    · omega
    · rw [show d + 3 * (j + 1) + 3 + 3 = d + 2 + 3 * j + 7 from by omega]
      refine ihp (d + 2) _ _ (p + 1) (o + 1) C (hA hin (by omega)) (by omega) (fun g2 r2 => ?_)
      rw [e12] at r2
      rw [show d + 2 + 3 * j + 7 = d + 3 * j + 8 + 1 from by omega]
      rcases r2 with ⟨p2, t, a1, a2, a3, a4, a5⟩ | ⟨kd, at_, a1, a2⟩
      · have hp2 := a1.2.2.2.2.2.2.1
        have b1 : RdA L n g0 (qz_ui g2 7 7 (g2.1 7 7 - 1)) p2 o (C ++ t) := a1.u7o (by rw [a1.2.2.2.1]; exact nI_pred o) (by omega)
        refine c_emitA hb _ b1 (by rw [List.length_append]; omega) 10 0 (qWx_0 _ _ (by decide)) (fun g3 h3 e3 => ?_)
        rw [ui_n (by omega)] at e3
        refine hq _ (Or.inl ⟨p2, t ++ [(10, 0)], by rw [← List.append_assoc]; exact h3, fun w => by rw [e3]; exact a2 w, by rw [List.length_append]; show t.length + 1 + p ≤ p2; omega, ?_, ?_⟩)
        · rw [← List.append_assoc, e3, List.length_append (as := C ++ t)]
          exact qTg_not (qTg_app a4) (by rw [List.length_append (as := C ++ t)]; show _ < _ + 1; omega) qOa_e
        · rw [← List.append_assoc]
          intro hw K1 _
          obtain ⟨hw', x⟩ := a5 hw ((10, 0) :: K1) trivial
          exact ⟨hw', (((Rch.rf _ _).st (s0_not _ s33 (by omega))).tr x).st (s5_not _)⟩
      · exact c_emitD hb.1 _ (a1.u7 (by omega) _) (fun g3 h3 => hq _ (Or.inr ⟨kd, at_, h3, fun hw K1 _ => ((Rch.rf _ _).st (s0_not _ s33 (by omega))).tr (a2 hw ((10, 0) :: K1) trivial)⟩))
  · rw [z] at z2
    exact absurd z2 (by decide)
  · have s33 := h33.mp z
    rw [h77, qz_lt, qz_n6, nI_toInt (by omega)] at c
    exact hq _ (Or.inr ⟨5, p, h.bl hb (by rw [h.2.2.1, qFv_5]) (by omega) (by omega) (by omega), fun hw K1 _ => (Rch.rf _ _).st (s0_notF _ s33 (by omega))⟩)
  · -- brackets
    have s40 := h40.mp z
    have hin : p < n := qSn_in (g0 := g0) (by omega)
    rw [h77, qz_lt, qz_n6, nI_toInt (by omega)] at c
    rcases ih with rfl | ⟨j, rfl, _, ihp⟩
    · omega
    · rw [show d + 3 * (j + 1) + 3 + 3 = d + 3 * j + 9 from by omega]
      refine ihp d _ _ (p + 1) (o + 1) C (hA hin (by omega)) (by omega) (by omega) (fun g2 r2 => ?_)
      rw [e12] at r2
      rcases r2 with ⟨p2, t, a1, a2, a3, a4, a5, a6, a7⟩ | ⟨kd, at_, a1, a2⟩
      · have h41 := RdA_is hb a1 (c := 41) (s := 41) (by decide) (by decide)
        have hp2 := a1.2.2.2.2.2.2.1
        refine ⟨RdF_11 hb a1.1, fun z2 => ?_, fun z2 => ⟨fun q => absurd a1.2.1 q, fun _ => ?_⟩⟩
        · have s41 := h41.mp z2
          have hin2 : p2 < n := qSn_in (g0 := g0) (by omega)
          refine hq _ (Or.inl ⟨p2 + 1, t, (a1.u7o (o' := o) (by rw [a1.2.2.2.1]; exact nI_pred o) (by omega)).u5 (by rw [a1.2.2.1, nI_1]) (by omega) (by omega), ?_, by omega, ?_, ?_⟩)
          · rw [ui_n (by omega), ui_n (by omega)]; exact a2
          · rw [ui_n (by omega), ui_n (by omega)]; exact a4
          · intro hw K1 _
            obtain ⟨hw', x⟩ := a5 hw ((13, 0) :: K1) ⟨0, K1, rfl⟩
            exact ⟨hw', (((Rch.rf _ _).st (s0_par _ s40 (by omega))).tr x).st (s5_par _ s41)⟩
        · refine hq _ (Or.inr ⟨1, p2, ((a1.bl hb (by rw [a1.2.2.1, qFv_1]) (by omega) (by omega) (by omega)).u7 (by omega) _).u7 (by omega) _, fun hw K1 _ => ?_⟩)
          obtain ⟨hw', x⟩ := a5 hw ((13, 0) :: K1) ⟨0, K1, rfl⟩
          exact (((Rch.rf _ _).st (s0_par _ s40 (by omega))).tr x).st (s5_parF _ a6 a7 (fun w => z2 (h41.mpr w)))
      · have fin : RdR L n g0 16 true (WC (qSn g0 n) S0 p o C) (VC (qSn g0 n) S0 p o C) p o C (g.1 7 12) (qz_ui (qz_ui g2 7 7 (g2.1 7 7 - 1)) 7 5 (g2.1 7 5 + 1)) :=
          Or.inr ⟨kd, at_, (a1.u7 (by omega) _).u7 (by omega) _, fun hw K1 _ => ((Rch.rf _ _).st (s0_par _ s40 (by omega))).tr (a2 hw ((13, 0) :: K1) ⟨0, K1, rfl⟩)⟩
        exact ⟨RdF_11 hb a1.1, fun z2 => hq _ fin, fun z2 => ⟨fun _ => hq _ fin, fun q => absurd q a1.2.2.1⟩⟩
  · have s40 := h40.mp z
    rw [h77, qz_lt, qz_n6, nI_toInt (by omega)] at c
    exact hq _ (Or.inr ⟨5, p, h.bl hb (by rw [h.2.2.1, qFv_5]) (by omega) (by omega) (by omega), fun hw K1 _ => (Rch.rf _ _).st (s0_parF _ s40 (by omega))⟩)
  · -- two sums
    have n33 : ¬ qSn g0 n p = 33 := fun w => z1 (h33.mpr w)
    have n40 : ¬ qSn g0 n p = 40 := fun w => z2 (h40.mpr w)
    refine sum_all hb k d _ g p o C h ho (fun g1 r1 => ?_)
    rcases r1 with ⟨p1, t, a1, a2, a3, a4, a5, a6⟩ | ⟨kd, at_, a1, a2⟩
    · have pre : ∀ (hw : Nat) (K1 : List qOp), Rch (qSn g0 n) (0, hw, p, o, C, K1, []) (2, hw, p1, o, C ++ t, K1, []) := fun hw K1 => ((Rch.rf _ _).st (s0_sum _ n33 n40)).tr (a5 1 hw K1 [] (by omega) S2_nil)
      have hp1 := a1.2.2.2.2.2.2.1
      have hC1 := a1.2.2.2.2.2.2.2.1
      rw [List.length_append] at hC1
      have s60 := RdA_is hb a1 (c := 60) (s := 60) (by decide) (by decide)
      have s62 := RdA_is hb a1 (c := 62) (s := 62) (by decide) (by decide)
      have s61 := RdA_is hb a1 (c := 61) (s := 61) (by decide) (by decide)
      have step : ∀ s : Nat, qSn g0 n p1 = s → s < 256 → 7 ≤ qCp s → qCp s ≤ 9 → qSg (qCp s) = s → qz_Call X (d + 3 * k + 3 + 3) 86 [.ref 7] (qz_ui g1 7 5 ((g1.1 7 5) + 1)) (fun g3 _ _ => qz_Call X (d + 3 * k + 3 + 3) 89 [.ref 7, .int (qSx g1), .int 0] g3 (fun g5 _ _ => Q g5 0 0)) := by
        intro s es hs o1 o2 o3
        have hin : p1 < n := qSn_in (g0 := g0) (by omega)
        have esx : qSx g1 = nI s := (RdA_is hb a1 rfl hs).mpr es
        have b1 : RdA L n g0 (qz_ui g1 7 5 ((g1.1 7 5) + 1)) (p1 + 1) o (C ++ t) := a1.u5 (by rw [a1.2.2.1, nI_1]) (by omega) (by omega)
        have pre2 : ∀ (hw : Nat) (K1 : List qOp), Rch (qSn g0 n) (0, hw, p, o, C, K1, []) (3, qCp s, p1 + 1, o, C ++ t, K1, []) := by
          intro hw K1
          refine (pre hw K1).st ?_
          have x := s2_cmp (qSn g0 n) (hw := hw) (p := p1) (o := o) (C := C ++ t) (K1 := K1) a6 (by rw [es]; omega)
          rw [es] at x
          exact x
        refine sum_all hb k d _ _ (p1 + 1) o (C ++ t) b1 ho (fun g3 r3 => ?_)
        rw [ui_n (by omega)] at r3
        rcases r3 with ⟨p3, t2, c1, c2, c3, c4, c5, c6⟩ | ⟨kd, at_, c1, c2⟩
        · have hC3 := c1.2.2.2.2.2.2.2.1
          have hp3 := c1.2.2.2.2.2.2.1
          rw [List.length_append, List.length_append] at hC3
          refine c_emitA (d := d + 3 * k + 3 + 2) hb g3 c1 (by rw [List.length_append, List.length_append]; omega) (qCp s) 0 (qWx_0 _ _ (by rw [esx, o3])) (fun g5 h5 e5 => ?_)
          have ea : C ++ t ++ t2 ++ [(qCp s, 0)] = C ++ (t ++ t2 ++ [(qCp s, 0)]) := by simp only [List.append_assoc]
          refine hq _ (Or.inl ⟨p3, t ++ t2 ++ [(qCp s, 0)], by rw [← ea]; exact h5, fun w => by rw [e5]; exact c2 (a2 w), ?_, ?_, ?_⟩)
          · rw [List.length_append, List.length_append]
            show t.length + t2.length + 1 + p ≤ p3
            omega
          · rw [← ea, e5, List.length_append]
            have t1 : qTg (g3.1 7 12) (C ++ t ++ t2 ++ [(qCp s, 0)]) C.length (C ++ t).length (3 + 2 * k) false := qTg_as (qTg_app (qTg_app a4)) c2
            have t3 : qTg (g3.1 7 12) (C ++ t ++ t2 ++ [(qCp s, 0)]) (C ++ t).length (C ++ t ++ t2).length (3 + 2 * k) false := qTg_app c4
            have b := qTg_bin (H := 16) t1 t3 (by rw [List.length_append (as := C ++ t ++ t2)]; show _ < _ + 1; omega) qOa_e (by omega) (by omega) (by omega) (by omega)
            rw [decide_eq_true (by omega)] at b
            exact b
          · rw [← ea]
            intro hw K1 _
            exact ⟨qCp s, ((pre2 hw K1).tr (c5 3 (qCp s) K1 [] (by omega) S2_nil)).st (s4_cmp _ c6)⟩
        · exact c_emitD (d := d + 3 * k + 3 + 2) hb.1 g3 c1 (fun g5 h5 => hq _ (Or.inr ⟨kd, at_, h5, fun hw K1 _ => (pre2 hw K1).tr (c2 3 (qCp s) K1 [] (by omega) S2_nil)⟩))
      refine ⟨RdF_11 hb a1.1, fun z => step 60 (s60.mp z) (by decide) (by decide) (by decide) (by decide), fun y1 => ⟨fun z => step 62 (s62.mp z) (by decide) (by decide) (by decide) (by decide), fun y2 => ⟨fun z => step 61 (s61.mp z) (by decide) (by decide) (by decide) (by decide), fun y3 => ⟨fun q => absurd a1.2.1 q, fun _ => ?_⟩⟩⟩⟩
      refine hq _ (Or.inr ⟨1, p1, a1.bl hb (by rw [a1.2.2.1, qFv_1]) (by omega) (by omega) (by omega), fun hw K1 _ => (pre hw K1).st (s2_cmpF _ a6 ?_)⟩)
      unfold qCp
      rw [if_neg (fun w => y1 (s60.mpr w)), if_neg (fun w => y2 (s62.mpr w)), if_neg (fun w => y3 (s61.mpr w))]
    · have fin : RdR L n g0 16 true (WC (qSn g0 n) S0 p o C) (VC (qSn g0 n) S0 p o C) p o C (g.1 7 12) g1 := Or.inr ⟨kd, at_, a1, fun hw K1 _ => ((Rch.rf _ _).st (s0_sum _ n33 n40)).tr (a2 1 hw K1 [] (by omega) S2_nil)⟩
      have e1 := RdD_sx a1
      rw [e1]
      exact ⟨RdF_11 hb a1.1, fun z => absurd z (by decide), fun _ => ⟨fun z => absurd z (by decide), fun _ => ⟨fun z => absurd z (by decide), fun _ => ⟨fun _ => hq _ fin, fun q => absurd q a1.2.2.1⟩⟩⟩⟩
