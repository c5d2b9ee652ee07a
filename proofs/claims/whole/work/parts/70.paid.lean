/-! what is paid; what is shown -/
theorem c_X3_payment {X : qz_X} {d : Nat} {Q : qz_Q} {g0 : qz_G} {D : qDt} (hR : Rel g0) (hD : LwD g0 D) (g : qz_G) (hs : Same g0 g) (o k : Int32)
    (hno : ¬ (qR k (g0.1 12 72) ∧ g0.1 141 k.toNatClampNeg = 0) → Q g 0 (-1))
    (hq : qR k (g0.1 12 72) → g0.1 141 k.toNatClampNeg = 0 → ∀ g', Same g0 g' → Q g' 0 (((qz_earn (g0.1 142) (g0.2 143) k (g0.1 12 73).toNatClampNeg * (qRs g0 D (g0.1 135 k.toNatClampNeg) (g0.1 136 k.toNatClampNeg) (g0.1 138 k.toNatClampNeg) (g0.1 138 k.toNatClampNeg) 5).toInt64) * (qSm (fun i => qHn (g0.1 97) (g0.1 81) (g0.1 82) (g0.1 83) (g0.1 135 k.toNatClampNeg) i (g0.1 12 0) (g0.1 12 0) = o) (fun i => g0.1 98 (4 * (g0.1 135 k.toNatClampNeg).toNatClampNeg + i)) (g0.1 96 (g0.1 135 k.toNatClampNeg).toNatClampNeg).toNatClampNeg).toInt64) / 10000)) : qz_Call X (d + 7) 32 [.ref 10, .int o, .int k, .int (g0.1 12 0)] g Q := by
  have hO := HO_of hR
  have hl := rB_leaves hR
  refine v_X3_payment (d := d + 2) g o k _ ?_
  rw [rS_10_12 hR hs, rE_74 hR hs, rE_68 hR hs, rE_69 hR hs, rE_71 hR hs]
  refine ⟨fun hk => ⟨qz_in100 hk hl, fun hf => ?_, fun hf => hno (fun z => hf z.2)⟩, fun hk => hno (fun z => hk z.1)⟩
  have hk2 : ((k.toNatClampNeg : Nat) : Int) < (g0.1 12 72).toInt := by
    have h1 := hk.1
    have h2 := hk.2
    have := qz_cl k
    rw [qz_lt, qz_n0] at h1
    rw [qz_le] at h2
    omega
  have hV := hR.2.2.2.2.2.2.2.2.2.2.1 k.toNatClampNeg hk2
  have hk100 : k.toNatClampNeg < 100 := by
    simp only [qI, qz_lt, qz_n0, qz_n100] at hl
    omega
  refine c_X2_weigh (d := d) hR hD g hs hV.1 (fun g3 s3 h58 => ?_)
  have e5 := h58 5 (by omega)
  rw [rS_3_12 hR s3, rS_2_8 hR s3, rE_15 hR s3, rE_29 hR s3, rE_30 hR s3, rE_68 hR s3, rE_16 hR s3, rE_17 hR s3, rE_31 hR s3]
  refine ⟨hO, hV.1, v_X3_payment_72 (d := d + 2) g3 k _ ⟨qz_in100 hk hl, ?_⟩⟩
  rw [qz_k5, e5, s3.2.2.1, (hR.2.2.2.2.2.2.2.2.2.2.2.2.2.2.1).1 _ hk100, qz_self hk.1]
  exact hq hk hf g3 s3
theorem P_paid {X : qz_X} {d : Nat} {g : qz_G} (v1 v2 : Int32) (hR : Rel g) : qz_Pair X (d + 9) 176 276 [.int v1, .int v2] g := by
  obtain ⟨D, hD⟩ := LwD_of hR
  have hO := HO_of hR
  have hown := rB_owners hR
  have hl := rB_leaves hR
  have hu := qI_0 (rB_uses hR) qz_n300
  have hcu := qz_cl (g.1 12 73)
  have s0 := Same.rf g
  refine v_X11_paid (d := d + 7) g v1 v2 ?_
  rw [rS_2_8 hR s0, rE_46 hR s0, rS_0_10 hR s0]
  have refNo : (¬ qR v1 (g.1 12 1) ∨ ¬ qR v2 (g.1 12 72) ∨ ¬ g.1 141 v2.toNatClampNeg = 0 ∨ g.1 84 v1.toNatClampNeg = -1) → qz_Call X (d + 9) 276 [.ref 12, .int v1, .int v2] g (fun g2 w l2 => (0 : Int32) = w ∧ (-1 : Int64) = l2 ∧ Rel g2) := by
    intro h
    refine v_X12_paid (d := d + 5) g v1 v2 ⟨fun h1 => ⟨fun h2 => ⟨qz_in100 h2 hl, fun _ => ⟨rfl, rfl, hR⟩, fun h3 => ⟨qz_in40 h1 hown, fun h4 => ?_, fun _ => ⟨rfl, rfl, hR⟩⟩⟩, fun _ => ⟨rfl, rfl, hR⟩⟩, fun _ => ⟨rfl, rfl, hR⟩⟩
    rcases h with h | h | h | h
    · exact absurd h1 h
    · exact absurd h2 h
    · exact absurd h3 h
    · exact absurd h h4
  refine ⟨fun h1 => ⟨fun z => absurd z h1.1, fun _ => ⟨fun z => absurd z (qR_40 h1 hown).2, fun _ => ⟨qz_in40 h1 hown, fun h4 => ?_, fun h4 => ?_⟩⟩⟩, fun h1 => ?_⟩
  · exact refNo (Or.inr (Or.inr (Or.inr h4)))
  · refine c_X3_payment (d := d + 1) hR hD g s0 v1 v2 (fun h => ?_) (fun h2 h3 g5 s5 => ?_)
    · refine refNo ?_
      by_cases c : qR v2 (g.1 12 72)
      · exact Or.inr (Or.inr (Or.inl (fun z => h ⟨c, z⟩)))
      · exact Or.inr (Or.inl c)
    · refine v_X12_paid (d := d + 5) g5 v1 v2 ?_
      rw [rM_12_1 s5, rM_12_72 s5, s5.1 141 (by decide), s5.1 84 (by decide)]
      refine ⟨fun _ => ⟨fun _ => ⟨qz_in100 h2 hl, fun z => absurd h3 z, fun _ => ⟨qz_in40 h1 hown, fun _ => ?_, fun z => absurd z h4⟩⟩, fun z => absurd h2 z⟩, fun z => absurd h1 z⟩
      have hk2 : ((v2.toNatClampNeg : Nat) : Int) < (g.1 12 72).toInt := by
        have h1 := h2.1
        have h2 := h2.2
        have := qz_cl v2
        rw [qz_lt, qz_n0] at h1
        rw [qz_le] at h2
        omega
      have hV := hR.2.2.2.2.2.2.2.2.2.2.1 v2.toNatClampNeg hk2
      refine qz_for (α := Int64) (W := fun a v => qz_WP X (d + 9) 276 _ 44 [(0, .ref 12), (1, .int v1), (2, .int v2), (3, .long a), (5, .int v)] [] g5) (n := g.1 12 73) (fun i a => a = qz_earn (g.1 142) (g.2 143) v2 i) hu.1 (by omega) (fun i a v hI ev cv hle cont => ?_) 0 rfl
      refine v_X12_paid_44 (d := d + 5) g5 v1 v2 a v ?_
      rw [rM_12_73 s5, s5.1 142 (by decide), s5.2.2.2, s5.1 135 (by decide), s5.1 136 (by decide), s5.1 138 (by decide), cv]
      refine ⟨fun z => ⟨qz_in100 h2 hl, ?_⟩, fun z => ?_⟩
      · rw [qz_le, ev] at z
        have ei : (g.1 12 73).toNatClampNeg = i := by omega
        refine c_X12_orNothing (d := d + 3) hR hD g5 s5 hV.1 5 (by omega) 119 rfl (fun g6 s6 => ?_)
        refine v_X12_paid_116 (d := d + 5) g6 v1 v2 a _ ?_
        rw [rM_12_2 s6, rM_12_1 s6, rM_12_0 s6, s6.1 81 (by decide), s6.1 96 (by decide), s6.1 97 (by decide), s6.1 135 (by decide), s6.1 82 (by decide), s6.1 83 (by decide), s6.1 98 (by decide), ← qRs_o (k := 5) (by omega) (by decide), hI, ← ei]
        exact ⟨qz_in100 h2 hl, hO, hV.1, rfl, rfl, Rel_same hR s6⟩
      · rw [qz_le, ev] at z
        refine ⟨qz_vi (by omega) (by omega), fun c => v_X12_paid_78 (d := d + 5) g5 v1 v2 _ v (cont _ (by omega) ?_), fun c => v_X12_paid_78 (d := d + 5) g5 v1 v2 _ v (cont _ (by omega) ?_)⟩
        · show a + 0 = qz_earn (g.1 142) (g.2 143) v2 i + (if g.1 142 i = v2 then g.2 143 i else 0)
          rw [if_neg c, hI]
        · show a + g.2 143 i = qz_earn (g.1 142) (g.2 143) v2 i + (if g.1 142 i = v2 then g.2 143 i else 0)
          rw [if_pos c, hI]
  · exact refNo (Or.inl h1)
theorem qBb_15 {g : qz_G} {D : qDt} {w land day t : Int32} (hR : Rel g) (hD : LwD g D) : (qBb g D w land day t 8 &&& 15 = 0 ↔ qBb g D w land day t 8 = 0) := by
  constructor
  · intro h
    refine b_ext (fun i hi => ?_)
    rw [b_0]
    have hb := qOr_bt (B := qBk g D w land day t 8) (N := g.1 115) (12 * (g.1 12 41).toNatClampNeg) (fun p _ hp => by
      obtain ⟨l1, l2, l3, l4, l5, l6, l7, l8, l9, _⟩ := (hD (p / 12) hp.1).2 (p % 12) hp.2.1
      have ep : 12 * (p / 12) + p % 12 = p := by omega
      rw [ep, hp.2.2.2.1] at l9
      have n3 : (qz_limits 8).toInt = 3 := by decide
      simp only [qI, qz_lt, qz_n0, n3] at l9
      exact ⟨by rw [qz_lt, qz_n0]; omega, by rw [qz_le, qz_n32]; omega⟩) i hi
    cases hbt : bt (qBb g D w land day t 8) i with
    | false => rfl
    | true =>
      obtain ⟨p, _, hp, e⟩ := hb.mp hbt
      obtain ⟨l1, l2, l3, l4, l5, l6, l7, l8, l9, _⟩ := (hD (p / 12) hp.1).2 (p % 12) hp.2.1
      have ep : 12 * (p / 12) + p % 12 = p := by omega
      rw [ep, hp.2.2.2.1, e] at l9
      have n3 : (qz_limits 8).toInt = 3 := by decide
      have ei := qz_nI (n := i) (by omega)
      simp only [qI, qz_lt, qz_n0, n3, ei] at l9
      have h1 : bt (qBb g D w land day t 8 &&& 15) i = bt 0 i := by rw [h]
      rw [b_and, hbt, b_0, (by decide : ∀ i, i < 4 → bt 15 i = true) i (by omega)] at h1
      exact h1
  · intro h
    rw [h]
    decide
theorem P_shown {X : qz_X} {d : Nat} {g : qz_G} (v1 : Int32) (hR : Rel g) : qz_Pair X (d + 12) 183 290 [.int v1] g := by
  obtain ⟨D, hD⟩ := LwD_of hR
  have hO := HO_of hR
  have hwk := qI_0 (rB_works hR) qz_n80
  have hcw := qz_cl (g.1 12 2)
  have hnow := rB_now hR
  refine v_X11_shown (d := d + 9) g v1 ⟨fun h1 => ?_, fun h1 => ?_⟩
  · refine qz_for (α := qz_G × Int32) (W := fun a v => qz_WP X (d + 12) 183 _ 13 [(0, .ref 0), (1, .int v1), (2, .int a.2), (3, .int v)] [] a.1) (n := g.1 12 2) (fun i a => Same g a.1 ∧ a.2 = qCt (fun k => ¬ qVd g D (nI k) v1 15 < 0) i) hwk.1 (by omega) (fun i a v hI ev cv hle cont => ?_) (g, 0) ⟨Same.rf g, rfl⟩
    obtain ⟨s1, hc⟩ := hI
    have evn : v = nI i := by
      rw [qz_eq, ev, qz_nI (by omega)]
    subst evn
    refine v_X11_shown_13 (d := d + 9) a.1 v1 a.2 (nI i) ?_
    rw [rS_3_12 hR s1, rS_0_10 hR s1]
    have done : ¬ (i : Int) < (g.1 12 2).toInt → qz_Call X (d + 12) 290 [.ref 12, .int v1] a.1 (fun g2 w l2 => a.2 = w ∧ (0 : Int64) = l2 ∧ Rel g2) := by
      intro hni
      have ei : (g.1 12 2).toNatClampNeg = i := by omega
      rw [← ei] at hc
      refine v_X12_shown (d := d + 8) a.1 v1 ⟨fun _ => ?_, fun z => absurd h1 z⟩
      refine qz_for (α := qz_G × Int32) (W := fun b v => qz_WP X (d + 12) 290 _ 13 [(0, .ref 12), (1, .int v1), (2, .int b.2), (3, .int v)] [] b.1) (n := g.1 12 2) (fun i b => Same g b.1 ∧ b.2 = qCt (fun k => ¬ qVd g D (nI k) v1 15 < 0) i) hwk.1 (by omega) (fun i b v hI2 ev2 cv2 hle2 cont2 => ?_) (a.1, 0) ⟨s1, rfl⟩
      obtain ⟨sb, hb⟩ := hI2
      have evn : v = nI i := by
        rw [qz_eq, ev2, qz_nI (by omega)]
      subst evn
      refine v_X12_shown_13 (d := d + 8) b.1 v1 b.2 (nI i) ?_
      rw [rM_12_2 sb, rM_12_0 sb]
      refine ⟨fun z => ?_, fun z => ?_⟩
      · rw [qz_le, ev2] at z
        have ei2 : (g.1 12 2).toNatClampNeg = i := by omega
        rw [ei2, ← hb] at hc
        exact ⟨hc, rfl, Rel_same hR sb⟩
      · have hw : qR (nI i) (g.1 12 2) := ⟨by rw [qz_lt, ev2, qz_n0]; omega, z⟩
        rw [qz_le, ev2] at z
        have up : ∀ g', Same g g' → ¬ qVd g D (nI i) v1 15 < 0 → qz_WP X (d + 12) 290 (fun g2 w l2 => a.2 = w ∧ (0 : Int64) = l2 ∧ Rel g2) 103 [(0, .ref 12), (1, .int v1), (2, .int (b.2 + 1)), (3, .int (nI i))] [] g' := by
          intro g' s' hv
          refine v_X12_shown_103 (d := d + 8) g' v1 _ _ (cont2 (g', b.2 + 1) (by omega) ⟨s', ?_⟩)
          rw [qCt_pos (P := fun k => ¬ qVd g D (nI k) v1 15 < 0) hv, ← hb]
        have st : ∀ g', Same g g' → qVd g D (nI i) v1 15 < 0 → qz_WP X (d + 12) 290 (fun g2 w l2 => a.2 = w ∧ (0 : Int64) = l2 ∧ Rel g2) 103 [(0, .ref 12), (1, .int v1), (2, .int (b.2 + 0)), (3, .int (nI i))] [] g' := by
          intro g' s' hv
          rw [Int32.add_zero]
          refine v_X12_shown_103 (d := d + 8) g' v1 _ _ (cont2 (g', b.2) (by omega) ⟨s', ?_⟩)
          rw [qCt_neg (P := fun k => ¬ qVd g D (nI k) v1 15 < 0) (fun z2 => z2 hv), ← hb]
        refine c_X12_freeOf (d := d + 4) hR hD b.1 sb (nI i) v1 _ _ hw (fun g2 s2 => ⟨fun c1 => ?_, fun c1 => ?_⟩)
        · refine up g2 s2 ?_
          unfold qVd
          rw [if_pos c1]
          decide
        · rw [rM_12_0 s2]
          refine c_X12_bitsBy (d := d + 7) hR hD g2 s2 hw 8 (by omega) 112 rfl (fun g5 s5 => ⟨fun c2 => ?_, fun c2 => ?_⟩)
          · refine st g5 s5 ?_
            unfold qVd
            rw [if_neg c1, if_pos ((qBb_15 hR hD).mpr c2)]
            decide
          · have c2' : ¬ qBb g D (nI i) v1 (g.1 12 0) (g.1 12 0) 8 &&& 15 = 0 := fun z2 => c2 ((qBb_15 hR hD).mp z2)
            rw [rM_12_0 s5]
            refine c_X12_isEnough (d := d + 4) hR hD g5 s5 (nI i) v1 _ _ _ hw hnow rfl (fun g8 s8 hr _ _ _ => ⟨fun _ => st g8 s8 ?_, fun z2 => absurd rfl z2⟩) (fun g8 s8 hr => ⟨fun z2 => absurd z2 (by decide), fun _ => ?_⟩)
            · unfold qVd
              rw [if_neg c1, if_neg c2', if_pos hr]
              decide
            · rw [rM_12_2 s8, rM_12_1 s8, rM_12_55 s8, rM_12_56 s8, rM_12_71 s8, rM_12_0 s8, s8.1 81 (by decide), s8.1 82 (by decide), s8.1 83 (by decide), s8.1 96 (by decide), s8.1 97 (by decide), s8.1 84 (by decide), s8.1 125 (by decide), s8.1 124 (by decide), s8.1 126 (by decide), s8.1 127 (by decide), s8.1 130 (by decide), s8.1 131 (by decide), s8.1 132 (by decide), s8.1 133 (by decide)]
              refine ⟨hO, hw, rB_looks hR, rB_letters hR, rB_agreed hR, fun hu => up g8 s8 ?_, fun hu => st g8 s8 ?_⟩
              · unfold qVd
                rw [if_neg c1, if_neg c2', if_neg (fun z2 => z2 hr), qIf_neg hu]
                decide
              · unfold qVd
                rw [if_neg c1, if_neg c2', if_neg (fun z2 => z2 hr), qIf_pos (Classical.byContradiction hu)]
                decide
    refine ⟨fun hw => ⟨fun z => ?_, fun _ => ?_⟩, fun hw => ?_⟩
    · have h2 := hw.2
      rw [qz_le, ev] at h2
      rw [qz_le, qz_n80, ev] at z
      omega
    · have hi : (i : Int) < (g.1 12 2).toInt := by
        have h2 := hw.2
        rw [qz_le, ev] at h2
        omega
      refine c_X3_verdict (d := d + 2) hR hD a.1 s1 (nI i) v1 15 hw (fun g3 s3 => ⟨fun c => ?_, fun c => ?_⟩)
      · refine v_X11_shown_51 (d := d + 9) g3 v1 a.2 _ (cont (g3, a.2) hi ⟨s3, ?_⟩)
        rw [qCt_neg (P := fun k => ¬ qVd g D (nI k) v1 15 < 0) (fun z2 => z2 c), ← hc]
      · refine v_X11_shown_51 (d := d + 9) g3 v1 _ _ (cont (g3, a.2 + 1) hi ⟨s3, ?_⟩)
        rw [qCt_pos (P := fun k => ¬ qVd g D (nI k) v1 15 < 0) c, ← hc]
    · refine done (fun z => hw ⟨by rw [qz_lt, ev, qz_n0]; omega, by rw [qz_le, ev]; omega⟩)
  · exact v_X12_shown (d := d + 8) g v1 ⟨fun z => absurd z h1, fun _ => ⟨rfl, rfl, hR⟩⟩
