/-! leaves are asked for -/
theorem Same.cui {g g' : qz_G} (h : Same g g') (o j : Nat) (v : Int32) : Same (qz_ui g o j v) (qz_ui g' o j v) := by
  refine ⟨fun r hr => ?_, fun q hq => ?_, h.2.2.1, h.2.2.2⟩
  · rw [qz_i1, qz_i1]
    by_cases c : r = o
    · rw [if_pos c, if_pos c, ← c, h.1 r hr]
    · rw [if_neg c, if_neg c, h.1 r hr]
  · show (if q.1 = o ∧ q.2 = j then v else g'.1 q.1 q.2) = (if q.1 = o ∧ q.2 = j then v else g.1 q.1 q.2)
    rw [h.2.1 q hq]
theorem Same.cul {g g' : qz_G} (h : Same g g') (j : Nat) (v : Int64) : Same (qz_ul g 75 j v) (qz_ul g' 75 j v) := by
  refine ⟨h.1, h.2.1, ?_, ?_⟩
  · rw [qz_l2, if_pos rfl, qz_l2, if_pos rfl, h.2.2.1]
  · rw [qz_l2, if_neg (by decide), qz_l2, if_neg (by decide), h.2.2.2]
theorem SameM.ui {g g' : qz_G} (h : SameM g g') (o j : Nat) (v : Int32) (ho : qz_mr.elem o = false) (hs : (qz_mc.all (fun q => !(Nat.beq q.1 o && Nat.beq q.2 j))) = true) : SameM g (qz_ui g' o j v) := by
  refine h.tr ⟨fun r hr => ?_, fun q hq => ?_⟩
  · have hne : r ≠ o := fun e => by
      rw [e] at hr
      rw [List.elem_eq_true_of_mem hr] at ho
      cases ho
    exact qz_ui_ne g' o j v r hne
  · have hne : ¬ (q.1 = o ∧ q.2 = j) := fun e => by
      have h1 := List.all_eq_true.mp hs _ hq
      rw [e.1, e.2] at h1
      simp at h1
    show (if q.1 = o ∧ q.2 = j then v else g'.1 q.1 q.2) = _
    rw [if_neg hne]
theorem SameM.row {g g' : qz_G} (h : SameM g g') (o j : Nat) (v : Int32) (ho : qz_mr.elem o = false) (hs : (qz_mc.all (fun q => !(Nat.beq q.1 o))) = true) : SameM g (qz_ui g' o j v) := by
  refine h.ui o j v ho ?_
  rw [List.all_eq_true] at hs ⊢
  intro q hq
  have := hs q hq
  simp only [Bool.not_eq_true'] at this ⊢
  rw [this, Bool.false_and]
theorem SameM.ul {g g' : qz_G} (h : SameM g g') (o j : Nat) (v : Int64) : SameM g (qz_ul g' o j v) := h.tr ⟨fun _ _ => rfl, fun _ _ => rfl⟩
def qGx (g : qz_G) (n : Nat) (lib w land use now fee en fr lv : Int32) : qz_G := qz_ui (qz_ul (qz_ui (qz_ui (qz_ui (qz_ui (qz_ui (qz_ui (qz_ui (qz_ui g 67 n lib) 68 n w) 69 n land) 70 n use) 71 n now) 72 n fee) 73 n en) 74 n fr) 75 n 0) 10 12 lv
def qGm (g : qz_G) (n : Nat) (lib w land use now fee en fr lv : Int32) : qz_G := qz_ui (qz_ui (qz_ui (qz_ui (qz_ui (qz_ui (qz_ui (qz_ui (qz_ui g 134 n lib) 135 n w) 136 n land) 137 n use) 138 n now) 139 n fee) 140 n en) 141 n fr) 12 72 lv
theorem Same.cX {g g' : qz_G} (h : Same g g') (n : Nat) (lib w land use now fee en fr lv : Int32) : Same (qGx g n lib w land use now fee en fr lv) (qGx g' n lib w land use now fee en fr lv) :=
  (((((((((h.cui 67 n lib).cui 68 n w).cui 69 n land).cui 70 n use).cui 71 n now).cui 72 n fee).cui 73 n en).cui 74 n fr).cul n 0).cui 10 12 lv
theorem SameM.cX {g g' : qz_G} (h : SameM g g') (n : Nat) (lib w land use now fee en fr lv : Int32) : SameM g (qGx g' n lib w land use now fee en fr lv) :=
  (((((((((h.row 67 n lib (by decide) (by decide)).row 68 n w (by decide) (by decide)).row 69 n land (by decide) (by decide)).row 70 n use (by decide) (by decide)).row 71 n now (by decide) (by decide)).row 72 n fee (by decide) (by decide)).row 73 n en (by decide) (by decide)).row 74 n fr (by decide) (by decide)).ul 75 n 0).row 10 12 lv (by decide) (by decide)
theorem qz_earn_0 {who : Nat → Int32} {pence : Nat → Int64} {k : Int32} : ∀ (n : Nat), (∀ i, i < n → ¬ who i = k) → qz_earn who pence k n = 0
  | 0, _ => rfl
  | n + 1, h => by
    show qz_earn who pence k n + (if who n = k then pence n else 0) = 0
    rw [qz_earn_0 n (fun i hi => h i (by omega)), if_neg (h n (by omega))]
    rfl
theorem Rel_give {g : qz_G} (hR : Rel g) (hlt : (g.1 12 72).toInt < 100) (lib w land use fee en fr : Int32) (hw : qR w (g.1 12 2)) (hl : qR land 4) (hen : en = -1 ∨ ¬ en < 0) : Rel (qGm (qGx g (g.1 12 72).toNatClampNeg lib w land use (g.1 12 0) fee en fr (g.1 12 72 + 1)) (g.1 12 72).toNatClampNeg lib w land use (g.1 12 0) fee en fr (g.1 12 72 + 1)) := by
  obtain ⟨hE, hS, hB, hP, hD, hW, hZ, hK, hT, hA, hV, hC, hY, hJ, hU, hL⟩ := hR
  have hB1 := hB.1
  have hB2 := hB.2.2.2.2.2.2.2.2.2.1
  have hB3 := hB.2.2.2.2.2.2.2.2.2.2
  obtain ⟨e1, e2, e3⟩ := qz_inc (b := 100) hB2 (by decide) (by decide) hlt
  unfold qGm qGx Rel RelE RelS
  unfold RelE at hE
  unfold RelS at hS
  simp only [qz_i1, qz_i2, qz_l1, qz_l2, qz_u1, Nat.reduceEqDiff, reduceIte]
  refine ⟨?_, ?_, ?_, hP, hD, hW, hZ, hK, hT, hA, ?_, hC, hY, hJ, ?_, hL⟩
  · simp only [hE, and_self]
  · simp only [hS, and_self]
  · unfold RelB at hB ⊢
    obtain ⟨h1, h2, h3, h4, h5, h6, h7, h8, h9, h10, h11⟩ := hB
    refine ⟨h1, h2, h3, h4, h5, h6, h7, h8, h9, ?_, h11⟩
    simp only [qI, qz_lt, qz_le, qz_n0, qz_n100, e1] at h10 ⊢
    omega
  · intro k hk
    simp only [qz_u1]
    rcases qz_split1 e1 e3 hk with c | ⟨c, cn⟩
    · subst c
      simp only [if_true]
      exact ⟨hw, hl, ⟨hB1.1, by rw [qz_lt]; omega⟩, hen⟩
    · simp only [if_neg cn]
      exact hV k c
  · refine ⟨fun k hk => ?_, fun i hi => qR_mono (hU.2 i hi) (by omega)⟩
    rw [qz_u2]
    by_cases c : k = (g.1 12 72).toNatClampNeg
    · rw [if_pos c, qz_earn_0]
      intro i hi z
      simp only [qI, qz_lt, qz_n0, qz_n300] at hB3
      have hcl := qz_cl (g.1 12 73)
      have := (hU.2 i (by omega)).2
      have ek := qz_nI (n := k) (by omega)
      rw [z, qz_le, ek] at this
      omega
    · rw [if_neg c]
      exact hU.1 k hk
noncomputable def qVd (g : qz_G) (D : qDt) (w land uses : Int32) : Int32 := if qFr g D w land (g.1 12 0) (g.1 12 0) = 1 then 1 else if qBb g D w land (g.1 12 0) (g.1 12 0) 8 &&& uses = 0 then -2 else if ¬ qFl (qLck g D land (g.1 12 0) (g.1 12 0)) (g.1 94) 8 w = -1 then -3 else qIf (qUn (g.1 84) (g.1 12 55) (g.1 125) (g.1 124) (g.1 126) (g.1 12 56) (g.1 127) (g.1 130) (g.1 12 71) (g.1 131) (g.1 132) (g.1 133) (g.1 96) (g.1 97) (g.1 81) (g.1 82) (g.1 83) w (g.1 12 0) (g.1 12 0)) (-4) 0
theorem c_X3_verdict {X : qz_X} {d : Nat} {Q : qz_Q} {g0 : qz_G} {D : qDt} (hR : Rel g0) (hD : LwD g0 D) (g : qz_G) (hs : Same g0 g) (w land uses : Int32) (hw : qR w (g0.1 12 2)) (hq : ∀ g', Same g0 g' → Q g' (qVd g0 D w land uses) 0) : qz_Call X (d + 9) 27 [.ref 10, .int w, .int land, .int uses, .int (g0.1 12 0)] g Q := by
  have hO := HO_of hR
  refine v_X3_verdict (d := d + 4) g w land uses _ (c_X7_freedom (d := d + 1) hR hD g hs w land _ _ hw (fun g1 s1 h58 => ?_))
  have e8 := h58 8 (by omega)
  rw [qRs_b (Or.inr rfl)] at e8
  rw [qz_k8, e8]
  unfold qVd at hq
  refine ⟨fun c1 => ⟨fun c2 => ?_, fun c2 => ?_⟩, fun c1 => ?_⟩
  · simp only [if_neg c1, if_neg c2] at hq
    refine c_X7_lacks (d := d) hR hD g1 s1 w land _ _ _ hw (rB_now hR) rfl (fun g5 s5 hr k1 k2 k3 => ⟨fun z => absurd z (by decide), fun _ => ?_⟩) (fun g5 s5 hr => ⟨fun _ => ?_, fun z => absurd rfl z⟩)
    · have h := hq g5 s5
      rw [if_pos hr] at h
      exact h
    · have h := hq g5 s5
      rw [if_neg (fun z => z hr)] at h
      rw [rS_3_12 hR s5, rS_2_8 hR s5, rE_15 hR s5, rE_29 hR s5, rE_30 hR s5, rS_4_13 hR s5, rS_4_14 hR s5, rS_4_15 hR s5, rE_46 hR s5, rE_37 hR s5, rE_36 hR s5, rE_38 hR s5, rE_39 hR s5, rE_42 hR s5, rE_43 hR s5, rE_44 hR s5, rE_45 hR s5, rE_16 hR s5, rE_17 hR s5]
      refine ⟨hO, hw, rB_looks hR, rB_letters hR, rB_agreed hR, fun hu => ?_, fun hu => ?_⟩
      · rw [qIf_pos hu] at h
        exact h
      · rw [qIf_neg hu] at h
        exact h
  · have h := hq g1 s1
    rw [if_neg c1, if_pos c2] at h
    exact h
  · have h := hq g1 s1
    rw [if_pos c1] at h
    exact h
theorem c_X3_give {X : qz_X} {d : Nat} {Q : qz_Q} {g0 : qz_G} {D : qDt} (hR : Rel g0) (hD : LwD g0 D) (g : qz_G) (hs : Same g0 g) (lib w land use vd : Int32) (hw : qR w (g0.1 12 2)) (hlt : (g0.1 12 72).toInt < 100) (hvd : vd = 0 ∨ vd = 1)
    (hq : ∀ g', Same (qGx g0 (g0.1 12 72).toNatClampNeg lib w land use (g0.1 12 0) (if vd = 1 then 0 else qRs g0 D w land (g0.1 12 0) (g0.1 12 0) 4) (if vd = 1 then -1 else if qNb g0 D w land (g0.1 12 0) (g0.1 12 0) 6 = -1 then -1 else g0.1 12 0 + qNb g0 D w land (g0.1 12 0) (g0.1 12 0) 6) (vp_nar .boolean vd) (g0.1 12 72 + 1)) g' → SameM g0 g' → Q g' (g0.1 12 72) 0) : qz_Call X (d + 7) 28 [.ref 10, .int lib, .int w, .int land, .int use, .int vd, .int (g0.1 12 0)] g Q := by
  have hl := rB_leaves hR
  simp only [qI, qz_lt, qz_n0, qz_n100] at hl
  refine v_X3_give (d := d + 5) g lib w land use vd _ ?_
  rw [rS_10_12 hR hs]
  refine ⟨fun z => absurd (by rw [qz_lt, qz_n100]; exact hlt) z, fun _ => ⟨fun c => ?_, fun c => ?_⟩⟩
  · have e0 := hvd.resolve_right c
    refine c_X2_weigh (d := d) hR hD g hs hw (fun g4 s4 h58 => ?_)
    have e6 := h58 6 (by omega)
    have e4 := h58 4 (by omega)
    rw [qRs_n (by omega) (by decide)] at e6
    refine v_X3_give_55 (d := d + 5) g4 lib w land use _ _ _ ?_
    rw [rS_10_12 hR s4, qz_k6, qz_k4, e6, e4]
    simp only [if_neg c] at hq
    refine ⟨qz_vi (by omega) (by omega), fun _ => ⟨fun c2 => ?_, fun c2 => ?_⟩, fun z => absurd rfl z⟩
    · rw [qz_sub1]
      rw [if_neg c2, e0] at hq
      exact hq _ (s4.cX _ _ _ _ _ _ _ _ _ _) (s4.toM.cX _ _ _ _ _ _ _ _ _ _)
    · rw [qz_sub1]
      rw [if_pos c2, e0] at hq
      exact hq _ (s4.cX _ _ _ _ _ _ _ _ _ _) (s4.toM.cX _ _ _ _ _ _ _ _ _ _)
  · refine c_X2_weigh (d := d) hR hD g hs hw (fun g4 s4 h58 => ?_)
    refine v_X3_give_55 (d := d + 5) g4 lib w land use _ _ _ ?_
    rw [rS_10_12 hR s4]
    simp only [c, if_true] at hq
    refine ⟨qz_vi (by omega) (by omega), fun z => absurd z (by decide), fun _ => ⟨fun z => absurd rfl z, fun _ => ?_⟩⟩
    rw [qz_sub1]
    exact hq _ (s4.cX _ _ _ _ _ _ _ _ _ _) (s4.toM.cX _ _ _ _ _ _ _ _ _ _)
theorem qz_use {x u : Int32} (hu : qR u 4) : (x &&& (1 <<< (u &&& 31)) = 0 ↔ (x >>> (u &&& 31)) &&& 1 = 0) := by
  obtain ⟨l, hl, el⟩ := qz_nat (x := u) (b := 3) (by
    have := hu.1
    rw [qz_lt, qz_n0] at this
    omega) (by
    have := hu.2
    rw [qz_le, qz_n4] at this
    omega)
  rw [el, b_bit x (by omega)]
  constructor
  · intro h
    have h1 : bt (x &&& (1 <<< (nI l &&& 31))) l = bt 0 l := by rw [h]
    rw [b_and, b_one (by omega) (by omega), decide_eq_true rfl, Bool.and_true, b_0] at h1
    exact h1
  · intro h
    refine b_ext (fun i hi => ?_)
    rw [b_and, b_one (by omega) hi, b_0]
    by_cases c : i = l
    · rw [c, h, Bool.false_and]
    · rw [decide_eq_false c, Bool.and_false]
theorem P_ask {X : qz_X} {d : Nat} {g : qz_G} (v1 v2 v3 v4 : Int32) (hR : Rel g) : qz_Pair X (d + 12) 173 271 [.int v1, .int v2, .int v3, .int v4] g := by
  obtain ⟨D, hD⟩ := LwD_of hR
  have hO := HO_of hR
  have e3 : g.1 3 12 = g.1 12 2 := rS_3_12 hR (Same.rf g)
  have e10 : g.1 10 12 = g.1 12 72 := rS_10_12 hR (Same.rf g)
  have hl := rB_leaves hR
  have hnow := rB_now hR
  have q1 : qI v1 0 9 ↔ qR v1 10 := by
    simp only [qI, qR, qz_lt, qz_le, qz_n0, qz_n9, qz_n10]
    omega
  have q4 : qI v4 0 3 ↔ qR v4 4 := by
    simp only [qI, qR, qz_lt, qz_le, qz_n0, qz_n3, qz_n4]
    omega
  have hfull : g.1 12 72 = 100 ↔ ¬ g.1 12 72 < 100 := by
    simp only [qI, qz_lt, qz_n0, qz_n100] at hl
    rw [qz_eq, qz_lt, qz_n100]
    omega
  refine v_X11_ask (d := d + 9) g v1 v2 v3 v4 ?_
  rw [e3, e10]
  refine ⟨fun h1 => ⟨fun h2 => ⟨fun h3 => ⟨fun h4 => ⟨fun h5 => ?_, fun h5 => ?_⟩, fun h4 => ?_⟩, fun h3 => ?_⟩, fun h2 => ?_⟩, fun h1 => ?_⟩
  · exact v_X12_ask (d := d + 8) g v1 v2 v3 v4 ⟨fun _ => ⟨fun _ => ⟨fun _ => ⟨fun _ => ⟨fun z => absurd (hfull.mpr h5) z, fun _ => ⟨rfl, rfl, hR⟩⟩, fun z => absurd (q4.mpr h4) z⟩, fun z => absurd h3 z⟩, fun z => absurd h2 z⟩, fun z => absurd (q1.mpr h1) z⟩
  · have hlt : (g.1 12 72).toInt < 100 := by
      rw [qz_lt, qz_n100] at h5
      exact h5
    rw [rS_0_10 hR (Same.rf g)]
    refine c_X3_verdict (d := d + 2) hR hD g (Same.rf g) v2 v3 _ h2 (fun g7 s7 => ?_)
    refine v_X11_ask_79 (d := d + 9) g7 v1 v2 v3 v4 _ ?_
    rw [rS_0_10 hR s7]
    -- the reference's road up to its stores, from any memory that is the same for it
    have road : ∀ (gb : qz_G) (Q : qz_Q), SamB g gb gb → gb.1 12 0 = g.1 12 0 → gb.1 12 71 = g.1 12 71 → gb.1 131 = g.1 131 → gb.1 132 = g.1 132 → gb.1 133 = g.1 133 → gb.1 12 72 = g.1 12 72 →
        (qVd g D v2 v3 (1 <<< (v4 &&& 31)) < 0 → ∀ g', Same gb g' → Q g' (qVd g D v2 v3 (1 <<< (v4 &&& 31))) 0) →
        (¬ qVd g D v2 v3 (1 <<< (v4 &&& 31)) < 0 → ∀ g', SamB g gb g' → qz_WP X (d + 12) 271 Q 144 [(0, .ref 12), (1, .int v1), (2, .int v2), (3, .int v3), (4, .int v4), (5, .int (qVd g D v2 v3 (1 <<< (v4 &&& 31))))] [] g') → qz_Call X (d + 12) 271 [.ref 12, .int v1, .int v2, .int v3, .int v4] gb Q := by
      intro gb Q sB k0 k71 k131 k132 k133 k72 hneg hpos
      have hn : ∀ g', SamB g gb g' → g'.1 12 0 = g.1 12 0 := fun g' s' => (rM_12_0 s'.2).trans k0
      refine v_X12_ask (d := d + 8) gb v1 v2 v3 v4 ?_
      rw [rN_12_2 sB, k72, k0]
      refine ⟨fun _ => ⟨fun _ => ⟨fun _ => ⟨fun _ => ⟨fun _ => ?_, fun z => absurd h5 (hfull.mp z)⟩, fun z => absurd (q4.mpr h4) z⟩, fun z => absurd h3 z⟩, fun z => absurd h2 z⟩, fun z => absurd (q1.mpr h1) z⟩
      refine c_X12_freeOfB (d := d + 4) hR hD gb sB v2 v3 _ _ h2 (fun g6 s6 => ⟨fun c1 => ?_, fun c1 => ?_⟩)
      · refine v_X12_ask_71 (d := d + 8) g6 v1 v2 v3 v4 0 ⟨fun z => absurd rfl z, fun _ => ?_⟩
        rw [hn g6 s6]
        refine c_X12_bitsByB (d := d + 7) hR hD g6 s6 h2 8 (by omega) 112 rfl (fun g9 s9 => ⟨fun c2 => ?_, fun c2 => ?_⟩)
        · have c2' : ¬ qBb g D v2 v3 (g.1 12 0) (g.1 12 0) 8 &&& (1 <<< (v4 &&& 31)) = 0 := fun z => c2 ((qz_use h4).mp z)
          refine v_X12_ask_103 (d := d + 8) g9 v1 v2 v3 v4 0 ⟨fun z => absurd rfl z, fun _ => ?_⟩
          rw [hn g9 s9]
          refine c_X12_isEnoughB (d := d + 4) hR hD g9 s9 v2 v3 _ _ _ h2 hnow rfl (fun g12 s12 hr _ _ _ => ⟨fun z => absurd rfl z, fun _ => ?_⟩) (fun g12 s12 hr => ⟨fun _ => ?_, fun z => absurd z (by decide)⟩)
          · have ev : qVd g D v2 v3 (1 <<< (v4 &&& 31)) = -3 := by
              unfold qVd
              rw [if_neg c1, if_neg c2', if_pos hr]
            rw [ev] at hneg
            exact hneg (by decide) g12 s12.2
          · refine v_X12_ask_128 (d := d + 8) g12 v1 v2 v3 v4 0 ⟨fun z => absurd rfl z, fun _ => ?_⟩
            rw [rN_12_2 s12, rN_12_1 s12, rN_12_55 s12, rN_12_56 s12, s12.1.1 81 (by decide), s12.1.1 82 (by decide), s12.1.1 83 (by decide), s12.1.1 96 (by decide), s12.1.1 97 (by decide), s12.1.1 84 (by decide), s12.1.1 125 (by decide), s12.1.1 124 (by decide), s12.1.1 126 (by decide), s12.1.1 127 (by decide), s12.1.1 130 (by decide), (rM_12_71 s12.2).trans k71, ((s12.2).1 131 (by decide)).trans k131, ((s12.2).1 132 (by decide)).trans k132, ((s12.2).1 133 (by decide)).trans k133, hn g12 s12]
            refine ⟨hO, h2, rB_looks hR, rB_letters hR, rB_agreed hR, fun hu => ?_, fun hu => ?_⟩
            · have ev : qVd g D v2 v3 (1 <<< (v4 &&& 31)) = 0 := by
                unfold qVd
                rw [if_neg c1, if_neg c2', if_neg (fun z => z hr), qIf_neg hu]
              rw [ev] at hpos
              exact hpos (by decide) g12 s12
            · have ev : qVd g D v2 v3 (1 <<< (v4 &&& 31)) = -4 := by
                unfold qVd
                rw [if_neg c1, if_neg c2', if_neg (fun z => z hr), qIf_pos (Classical.byContradiction hu)]
              rw [ev] at hneg
              exact hneg (by decide) g12 s12.2
        · have c2' : qBb g D v2 v3 (g.1 12 0) (g.1 12 0) 8 &&& (1 <<< (v4 &&& 31)) = 0 := (qz_use h4).mpr c2
          have ev : qVd g D v2 v3 (1 <<< (v4 &&& 31)) = -2 := by
            unfold qVd
            rw [if_neg c1, if_pos c2']
          rw [ev] at hneg
          exact hneg (by decide) g9 s9.2
      · have ev : qVd g D v2 v3 (1 <<< (v4 &&& 31)) = 1 := by
          unfold qVd
          rw [if_pos c1]
        rw [ev] at hpos
        exact v_X12_ask_71 (d := d + 8) g6 v1 v2 v3 v4 1 ⟨fun _ => v_X12_ask_103 (d := d + 8) g6 v1 v2 v3 v4 1 ⟨fun _ => v_X12_ask_128 (d := d + 8) g6 v1 v2 v3 v4 1 ⟨fun _ => hpos (by decide) g6 s6, fun z => absurd z (by decide)⟩, fun z => absurd z (by decide)⟩, fun z => absurd z (by decide)⟩
    have hv01 : ¬ qVd g D v2 v3 (1 <<< (v4 &&& 31)) < 0 → qVd g D v2 v3 (1 <<< (v4 &&& 31)) = 0 ∨ qVd g D v2 v3 (1 <<< (v4 &&& 31)) = 1 := by
      intro h
      unfold qVd at h ⊢
      by_cases c1 : qFr g D v2 v3 (g.1 12 0) (g.1 12 0) = 1
      · rw [if_pos c1]; exact Or.inr rfl
      · rw [if_neg c1] at h ⊢
        by_cases c2 : qBb g D v2 v3 (g.1 12 0) (g.1 12 0) 8 &&& (1 <<< (v4 &&& 31)) = 0
        · rw [if_pos c2] at h
          exact absurd (by decide) h
        · rw [if_neg c2] at h ⊢
          by_cases c4 : ¬ qFl (qLck g D v3 (g.1 12 0) (g.1 12 0)) (g.1 94) 8 v2 = -1
          · rw [if_pos c4] at h
            exact absurd (by decide) h
          · rw [if_neg c4] at h ⊢
            by_cases c5 : qUn (g.1 84) (g.1 12 55) (g.1 125) (g.1 124) (g.1 126) (g.1 12 56) (g.1 127) (g.1 130) (g.1 12 71) (g.1 131) (g.1 132) (g.1 133) (g.1 96) (g.1 97) (g.1 81) (g.1 82) (g.1 83) v2 (g.1 12 0) (g.1 12 0)
            · rw [qIf_pos c5] at h
              exact absurd (by decide) h
            · rw [qIf_neg c5]
              exact Or.inl rfl
    refine ⟨fun hv => ?_, fun hv => ?_⟩
    · have hv' : ¬ qVd g D v2 v3 (1 <<< (v4 &&& 31)) < 0 := Int32.not_lt.mpr hv
      have h01 := hv01 hv'
      refine c_X3_give (d := d + 4) hR hD g7 s7 v1 v2 v3 v4 _ h2 hlt h01 (fun G sG mG => ?_)
      generalize qVd g D v2 v3 (1 <<< (v4 &&& 31)) = vd at road hv' h01 sG ⊢
      have kG : ∀ r : Nat, ¬ r = 67 ∧ ¬ r = 68 ∧ ¬ r = 69 ∧ ¬ r = 70 ∧ ¬ r = 71 ∧ ¬ r = 72 ∧ ¬ r = 73 ∧ ¬ r = 74 ∧ ¬ r = 10 → ∀ fee en, (qGx g (g.1 12 72).toNatClampNeg v1 v2 v3 v4 (g.1 12 0) fee en (vp_nar .boolean vd) (g.1 12 72 + 1)).1 r = g.1 r := by
        intro r hr fee en
        unfold qGx
        rw [qz_i1, if_neg hr.2.2.2.2.2.2.2.2, qz_l1, qz_i1, if_neg hr.2.2.2.2.2.2.2.1, qz_i1, if_neg hr.2.2.2.2.2.2.1, qz_i1, if_neg hr.2.2.2.2.2.1, qz_i1, if_neg hr.2.2.2.2.1, qz_i1, if_neg hr.2.2.2.1, qz_i1, if_neg hr.2.2.1, qz_i1, if_neg hr.2.1, qz_i1, if_neg hr.1]
      have r12 := kG 12 (by decide)
      refine road G _ ⟨mG, Same.rf G⟩ ?_ ?_ ?_ ?_ ?_ ?_ (fun z => absurd z hv') (fun _ g' s' => ?_)
      · rw [rM_12_0 sG, r12]
      · rw [rM_12_71 sG, r12]
      · rw [sG.1 131 (by decide), kG 131 (by decide)]
      · rw [sG.1 132 (by decide), kG 132 (by decide)]
      · rw [sG.1 133 (by decide), kG 133 (by decide)]
      · rw [rM_12_72 sG, r12]
      have e72 : g'.1 12 72 = g.1 12 72 := by rw [rM_12_72 s'.2, rM_12_72 sG, r12]
      have e0 : g'.1 12 0 = g.1 12 0 := by rw [rM_12_0 s'.2, rM_12_0 sG, r12]
      have hin : vp_in (g.1 12 72) 100 := by
        simp only [qI, qz_lt, qz_n0, qz_n100] at hl
        exact qz_vi (by omega) (by omega)
      refine v_X12_ask_144 (d := d + 8) g' v1 v2 v3 v4 vd ?_
      rw [e72, e0]
      refine ⟨hin, ?_⟩
      have sN := sG.tr s'.2
      have sN5 := ((((sN.cui 134 (g.1 12 72).toNatClampNeg v1).cui 135 (g.1 12 72).toNatClampNeg v2).cui 136 (g.1 12 72).toNatClampNeg v3).cui 137 (g.1 12 72).toNatClampNeg v4).cui 138 (g.1 12 72).toNatClampNeg (g.1 12 0)
      have mN5 := ((((s'.1.row 134 (g.1 12 72).toNatClampNeg v1 (by decide) (by decide)).row 135 (g.1 12 72).toNatClampNeg v2 (by decide) (by decide)).row 136 (g.1 12 72).toNatClampNeg v3 (by decide) (by decide)).row 137 (g.1 12 72).toNatClampNeg v4 (by decide) (by decide)).row 138 (g.1 12 72).toNatClampNeg (g.1 12 0) (by decide) (by decide)
      have k5 : (qz_ui (qz_ui (qz_ui (qz_ui (qz_ui g' 134 (g.1 12 72).toNatClampNeg v1) 135 (g.1 12 72).toNatClampNeg v2) 136 (g.1 12 72).toNatClampNeg v3) 137 (g.1 12 72).toNatClampNeg v4) 138 (g.1 12 72).toNatClampNeg (g.1 12 0)).1 12 = g'.1 12 := by
        rw [qz_i1, if_neg (by decide), qz_i1, if_neg (by decide), qz_i1, if_neg (by decide), qz_i1, if_neg (by decide), qz_i1, if_neg (by decide)]
      generalize qz_ui (qz_ui (qz_ui (qz_ui (qz_ui g' 134 (g.1 12 72).toNatClampNeg v1) 135 (g.1 12 72).toNatClampNeg v2) 136 (g.1 12 72).toNatClampNeg v3) 137 (g.1 12 72).toNatClampNeg v4) 138 (g.1 12 72).toNatClampNeg (g.1 12 0) = m5 at sN5 mN5 k5 ⊢
      have fin : ∀ (fee en : Int32) (m7 : qz_G), (en = -1 ∨ ¬ en < 0) → Same (qz_ui (qz_ui (qz_ui (qz_ui (qz_ui (qz_ui (qz_ui (qGx g (g.1 12 72).toNatClampNeg v1 v2 v3 v4 (g.1 12 0) fee en (vp_nar .boolean vd) (g.1 12 72 + 1)) 134 (g.1 12 72).toNatClampNeg v1) 135 (g.1 12 72).toNatClampNeg v2) 136 (g.1 12 72).toNatClampNeg v3) 137 (g.1 12 72).toNatClampNeg v4) 138 (g.1 12 72).toNatClampNeg (g.1 12 0)) 139 (g.1 12 72).toNatClampNeg fee) 140 (g.1 12 72).toNatClampNeg en) m7 → Rel (qz_ui (qz_ui m7 141 (g.1 12 72).toNatClampNeg (vp_nar .boolean vd)) 12 72 (g.1 12 72 + 1)) := by
        intro fee en m7 hen hsm
        exact Rel_same (Rel_give hR hlt v1 v2 v3 v4 fee en (vp_nar .boolean vd) h2 h3 hen) ((hsm.cui 141 _ _).cui 12 72 _)
      refine v_X12_ask_194 (d := d + 8) m5 v2 v3 vd _ ?_
      rw [k5, e0]
      refine ⟨fun c => ?_, fun c => ⟨hin, ?_⟩⟩
      · have c1 : ¬ vd = 1 := by rw [c]; decide
        simp only [if_neg c1] at sN5
        refine c_X12_orNothingB (d := d + 6) (gb := m5) hR hD m5 ⟨mN5, Same.rf m5⟩ h2 4 (by omega) 102 rfl (fun g2 s2 => ⟨hin, ?_⟩)
        rw [← qRs_o (k := 4) (by omega) (by decide)]
        have s6 := (sN5.tr s2.2).cui 139 (g.1 12 72).toNatClampNeg (qRs g D v2 v3 (g.1 12 0) (g.1 12 0) 4)
        have m6 := s2.1.row 139 (g.1 12 72).toNatClampNeg (qRs g D v2 v3 (g.1 12 0) (g.1 12 0) 4) (by decide) (by decide)
        have k6 : (qz_ui g2 139 (g.1 12 72).toNatClampNeg (qRs g D v2 v3 (g.1 12 0) (g.1 12 0) 4)).1 12 0 = g.1 12 0 := by rw [qz_i1, if_neg (by decide), rM_12_0 s2.2, k5, e0]
        have k672 : (qz_ui g2 139 (g.1 12 72).toNatClampNeg (qRs g D v2 v3 (g.1 12 0) (g.1 12 0) 4)).1 12 72 = g.1 12 72 := by rw [qz_i1, if_neg (by decide), rM_12_72 s2.2, k5, e72]
        generalize qz_ui g2 139 (g.1 12 72).toNatClampNeg (qRs g D v2 v3 (g.1 12 0) (g.1 12 0) 4) = n6 at s6 m6 k6 k672 ⊢
        refine v_X12_ask_226 (d := d + 8) n6 v2 v3 vd _ ⟨fun _ => ?_, fun z => absurd c z⟩
        rw [k6]
        refine c_X12_numberByB (d := d + 7) (gb := n6) hR hD n6 ⟨m6, Same.rf n6⟩ h2 6 (by omega) 101 rfl (fun g8 s8 => ?_)
        have s9 := s6.tr s8.2
        have hy := qNb_rng (w := v2) (land := v3) (day := g.1 12 0) (t := g.1 12 0) (k := 6) hD
        refine v_X12_ask_253 (d := d + 8) g8 vd _ _ ?_
        rw [rM_12_0 s8.2, k6, rM_12_72 s8.2, k672]
        refine ⟨fun c2 => ⟨hin, rfl, rfl, ?_⟩, fun c2 => ⟨hin, rfl, rfl, ?_⟩⟩
        · rw [if_neg c2] at s9
          refine fin _ _ _ (Or.inr ?_) (s9.cui 140 _ _)
          have h := hy.resolve_left c2
          simp only [qI, qz_lt, qz_n0, qz_n99999] at hnow
          rw [qz_lt, qz_n0, qz_ad (by omega) (by omega)]
          omega
        · rw [if_pos c2] at s9
          exact fin _ _ _ (Or.inl rfl) (s9.cui 140 _ _)
      · have c1 : vd = 1 := h01.resolve_left c
        simp only [if_pos c1] at sN5
        have s6 := sN5.cui 139 (g.1 12 72).toNatClampNeg 0
        refine v_X12_ask_226 (d := d + 8) _ v2 v3 vd _ ⟨fun z => absurd z c, fun _ => ?_⟩
        refine v_X12_ask_253 (d := d + 8) _ vd _ _ ⟨fun z => absurd rfl z, fun _ => ⟨hin, rfl, rfl, ?_⟩⟩
        have e72' : (qz_ui m5 139 (g.1 12 72).toNatClampNeg 0).1 12 72 = g.1 12 72 := by rw [qz_i1, if_neg (by decide), k5, e72]
        rw [e72']
        exact fin _ _ _ (Or.inl rfl) (s6.cui 140 _ _)
    · have hv' : qVd g D v2 v3 (1 <<< (v4 &&& 31)) < 0 := Int32.not_le.mp hv
      refine road g7 _ ⟨s7.toM, Same.rf g7⟩ (rM_12_0 s7) (rM_12_71 s7) (s7.1 131 (by decide)) (s7.1 132 (by decide)) (s7.1 133 (by decide)) (rM_12_72 s7) (fun _ g' s' => ⟨rfl, rfl, Rel_same hR (s7.tr s')⟩) (fun z => absurd hv' z)
  · exact v_X12_ask (d := d + 8) g v1 v2 v3 v4 ⟨fun _ => ⟨fun _ => ⟨fun _ => ⟨fun z => absurd (q4.mp z) h4, fun _ => ⟨rfl, rfl, hR⟩⟩, fun z => absurd h3 z⟩, fun z => absurd h2 z⟩, fun z => absurd (q1.mpr h1) z⟩
  · exact v_X12_ask (d := d + 8) g v1 v2 v3 v4 ⟨fun _ => ⟨fun _ => ⟨fun z => absurd z h3, fun _ => ⟨rfl, rfl, hR⟩⟩, fun z => absurd h2 z⟩, fun z => absurd (q1.mpr h1) z⟩
  · exact v_X12_ask (d := d + 8) g v1 v2 v3 v4 ⟨fun _ => ⟨fun z => absurd z h2, fun _ => ⟨rfl, rfl, hR⟩⟩, fun z => absurd (q1.mpr h1) z⟩
  · exact v_X12_ask (d := d + 8) g v1 v2 v3 v4 ⟨fun z => absurd (q1.mp z) h1, fun _ => ⟨rfl, rfl, hR⟩⟩
