/-! an order on the tape is judged -/
noncomputable def qJu (S T : List Nat) (c h : Nat → Nat) : Int64 := qIf (T.length = S.length ∧ (∀ s ∈ T, s < 12) ∧ qWb T = qWb S) (lN (qE c h T 1000000)) (-2)
theorem qz_255 (x : Int32) : ∃ n : Nat, n < 256 ∧ x &&& 255 = nI n := by
  refine ⟨(x &&& 255).toBitVec.toNat, ?_, ?_⟩
  · rw [Int32.toBitVec_and, BitVec.toNat_and]
    exact Nat.lt_of_le_of_lt Nat.and_le_right (by decide)
  · refine Int32.toBitVec_inj.mp ?_
    show _ = BitVec.ofNat 32 _
    rw [BitVec.ofNat_toNat, BitVec.setWidth_eq]
theorem qAt_all {l : List Nat} {P : Nat → Prop} (h : ∀ i, i < l.length → P (qAt l i)) : ∀ s ∈ l, P s := by
  intro s hs
  obtain ⟨j, h1, h2⟩ := qAt_mem hs
  rw [← h2]
  exact h j h1
theorem c_X4_expectedOn {X : qz_X} {d : Nat} {Q : qz_Q} (g : qz_G) (S T : List Nat) (kd : Nat) (c h : Nat → Nat) (hS : S.length ≤ 8) (h8 : g.1 9 9 = nI S.length) (h9 : g.1 9 10 = qWb S) (hk : g.1 9 11 = nI kd) (hk8 : kd < 8) (hco : qCo (g.1 61) (g.1 62) kd c h) (htape : ∀ i, i < T.length → g.1 13 i = nI (qAt T i)) (hTb : ∀ i, i < T.length → qAt T i < 256) (hsz : (T.length : Int) ≤ (g.1 1 1).toInt) (h200 : (g.1 1 1).toInt ≤ 200)
    (hq : ∀ g', Frm [65] g g' → Q g' 0 (qJu S T c h)) : qz_Call X (d + 4) 40 [.ref 9, .ref 1, .int (nI T.length)] g Q := by
  have eT := qz_nI (n := T.length) (by omega)
  have eS := qz_nI (n := S.length) (by omega)
  refine v_X4_expectedOn (d := d + 1) g _ ?_
  refine qz_for (α := qz_G × Int32) (W := fun a v => qz_WP X (d + 4) 40 Q 5 [(0, .ref 9), (1, .ref 1), (2, .int (nI T.length)), (3, .int a.2), (4, .int v)] [] a.1) (n := nI T.length) (fun i a => Frm [65] g a.1 ∧ i ≤ 8 ∧ (∀ j, j < i → qAt T j < 12) ∧ a.2 = qWb (T.take i) ∧ ∀ j, j < i → a.1.1 65 j = nI (qAt T j)) (by omega) (by omega) (fun i a v hI ev cv hle cont => ?_) (g, 0) ⟨Frm.rf _ g, by omega, fun j hj => by omega, rfl, fun j hj => by omega⟩
  obtain ⟨fa, hi8, h12, hw, hrow⟩ := hI
  rw [eT] at hle cont
  have r9 : a.1.1 9 = g.1 9 := fa.1 9 (by decide)
  have r1 : a.1.1 1 = g.1 1 := fa.1 1 (by decide)
  have evn : v = nI i := by
    rw [qz_eq, ev, qz_nI (by omega)]
  subst evn
  refine v_X4_expectedOn_5 (d := d + 1) a.1 _ a.2 _ ?_
  rw [r9, h8, h9, r1, fa.1 13 (by decide), cv]
  have bad : ¬ (T.length = S.length ∧ (∀ s ∈ T, s < 12) ∧ qWb T = qWb S) → Q a.1 0 (-2) := by
    intro hn
    have := hq a.1 fa
    unfold qJu at this
    rw [qIf_neg hn] at this
    exact this
  refine ⟨fun z => ⟨fun c1 => bad (fun z2 => c1 (by rw [z2.1])), fun c1 => ⟨fun c2 => ?_, fun c2 => ?_⟩⟩, fun z => ⟨fun z2 => ⟨fun c1 => bad (fun z3 => c1 (by rw [z3.1])), fun c1 => ?_⟩, fun z2 => ⟨fun c1 => ?_, fun c1 => ⟨fun c2 => ?_, fun c2 => ⟨?_, ?_⟩⟩⟩⟩⟩
  · rw [qz_le, eT, ev] at z
    refine bad (fun z2 => c2 ?_)
    rw [hw, List.take_of_length_le (by omega)]
    exact z2.2.2
  · rw [qz_le, eT, ev] at z
    have eT2 : T.take i = T := List.take_of_length_le (by omega)
    rw [eT2] at hw
    have e1 := nI_inj (by omega) (by omega) c1
    have hall : ∀ s ∈ T, s < 12 := qAt_all (fun j hj => h12 j (by omega))
    have hok := hq a.1 fa
    unfold qJu at hok
    rw [qIf_pos ⟨e1, hall, by rw [← hw]; exact c2⟩] at hok
    exact c_X4_expectedOfRow (d := d) a.1 T kd c h (by omega) (by rw [r9, h8, e1]) (fun j hj => hrow j (by omega)) hall (by rw [r9]; exact hk) hk8 (by rw [fa.1 61 (by decide), fa.1 62 (by decide)]; exact hco) hok
  · rw [qz_le, eT, ev] at z
    rw [qz_le, qz_n8, ev] at z2
    have e1 := nI_inj (by omega) (by omega) c1
    omega
  · rw [qz_lt, ev, qz_n0] at c1
    omega
  · rw [qz_le, eT, ev] at z
    rw [qz_le, ev] at c2
    omega
  · rw [qz_le, eT, ev] at z
    exact qz_vi (by omega) (by omega)
  · rw [qz_le, eT, ev] at z
    rw [qz_le, qz_n8, ev] at z2
    have hi : i < T.length := by omega
    have hb := hTb i hi
    have es := qz_nI (n := qAt T i) (by omega)
    rw [htape i hi]
    refine v_X4_expectedOn_26 (d := d + 1) a.1 _ a.2 _ _ ⟨fun c3 => ⟨qz_vi (by omega) (by omega), ?_⟩, fun c3 => bad (fun z3 => c3 ?_)⟩
    · have h3 := c3.2
      rw [qz_le, es, qz_n12] at h3
      rw [cv]
      refine v_X4_expectedOn_54 (d := d + 1) _ _ _ _ (cont (qz_ui a.1 65 i (nI (qAt T i)), a.2 ||| (1 <<< (nI (qAt T i) &&& 31))) (by omega) ⟨fa.ui 65 _ _ (by decide), by omega, fun j hj => ?_, ?_, fun j hj => ?_⟩)
      · by_cases cj : j = i
        · rw [cj]; omega
        · exact h12 j (by omega)
      · show a.2 ||| _ = _
        rw [qAt_take hi, qWb_app, hw]
      · show (qz_ui a.1 65 i (nI (qAt T i))).1 65 j = _
        rw [qz_i1, if_pos rfl, qz_u1]
        by_cases cj : j = i
        · rw [if_pos cj, cj]
        · rw [if_neg cj]
          exact hrow j (by omega)
    · have := z3.2.1 _ (qAt_memi hi)
      exact ⟨by rw [qz_lt, es, qz_n0]; omega, by rw [qz_le, es, qz_n12]; omega⟩
theorem Rel_tape0 {g : qz_G} (hR : Rel g) : Rel (qz_ui (qz_ui g 1 1 0) 12 25 0) := by
  obtain ⟨hE, hS, hB, hP, hD, hW, hZ, hK, hT, hA, hV, hC, hY, hJ, hU, hL⟩ := hR
  unfold Rel RelE RelS
  unfold RelE at hE
  unfold RelS at hS
  simp only [qz_i1, qz_i2, qz_u1, Nat.reduceEqDiff, reduceIte]
  refine ⟨hE, ?_, ?_, hP, hD, hW, hZ, hK, hT, hA, hV, hC, hY, hJ, hU, hL⟩
  · simp only [hS, and_self]
  · unfold RelB at hB ⊢
    obtain ⟨h1, h2, h3, h4, h5, h6, h7, h8, h9, h10, h11⟩ := hB
    exact ⟨h1, h2, h3, h4, ⟨by decide, by decide⟩, h6, h7, h8, h9, h10, h11⟩
theorem P_judge {X : qz_X} {d : Nat} {g : qz_G} (v1 v2 v3 : Int32) (hR : Rel g) : qz_Pair X (d + 11) 178 282 [.int v1, .int v2, .int v3] g := by
  obtain ⟨D, hD⟩ := LwD_of hR
  have s0 := Same.rf g
  have htp := rB_taped hR
  have hY := hR.2.2.2.2.2.2.2.2.2.2.2.2.1
  refine v_X11_judge (d := d + 8) g v1 v2 v3 ?_
  rw [rS_3_12 hR s0, rS_1_1 hR s0, rS_0_10 hR s0]
  have refNo : (¬ qR v1 (g.1 12 2) ∨ ¬ qR v2 4 ∨ ¬ qI v3 0 (g.1 12 25)) → qz_Call X (d + 11) 282 [.ref 12, .int v1, .int v2, .int v3] g (fun g2 w l2 => (0 : Int32) = w ∧ (-1 : Int64) = l2 ∧ Rel g2) := by
    intro hn
    refine v_X12_judge (d := d + 9) g v1 v2 v3 ⟨fun h1 => ⟨fun h2 => ⟨fun _ => ⟨rfl, rfl, hR⟩, fun h3 => ⟨fun h4 => ?_, fun _ => ⟨rfl, rfl, hR⟩⟩⟩, fun _ => ⟨rfl, rfl, hR⟩⟩, fun _ => ⟨rfl, rfl, hR⟩⟩
    rcases hn with hn | hn | hn
    · exact absurd h1 hn
    · exact absurd h2 hn
    · exact absurd ⟨h3, Int32.not_lt.mpr h4⟩ hn
  refine ⟨fun h1 => ⟨fun h2 => ⟨fun h3 => ?_, fun h3 => refNo (Or.inr (Or.inr h3))⟩, fun h2 => refNo (Or.inr (Or.inl h2))⟩, fun h1 => refNo (Or.inl h1)⟩
  have h3' := h3
  simp only [qI, qz_lt, qz_n0, qz_n200] at h3' htp
  obtain ⟨n, hn, en⟩ := qz_nat (x := v3) (b := (g.1 12 25).toInt) (by omega) (by omega)
  have e3 := qz_nI (n := n) (by omega)
  subst en
  -- what lies on the tape
  have hTx : ∃ T : List Nat, T.length = n ∧ (∀ i, i < n → g.1 13 i = nI (qAt T i)) ∧ ∀ i, i < n → qAt T i < 256 := by
    have hb : ∀ i, i < n → ∃ k, k < 256 ∧ g.1 13 i = nI k := fun i hi => by
      obtain ⟨k, k1, k2⟩ := qz_255 (g.1 99 i)
      exact ⟨k, k1, by rw [hY i (by omega)]; exact k2⟩
    refine ⟨(List.range n).map (fun i => (g.1 13 i).toNatClampNeg), by rw [List.length_map, List.length_range], fun i hi => ?_, fun i hi => ?_⟩
    · obtain ⟨k, k1, k2⟩ := hb i hi
      have e : qAt ((List.range n).map (fun i => (g.1 13 i).toNatClampNeg)) i = (g.1 13 i).toNatClampNeg := by
        rw [qAt_i (by rw [List.length_map, List.length_range]; exact hi), List.getElem_map, List.getElem_range]
      rw [e, k2, nI_clamp (by omega)]
    · obtain ⟨k, k1, k2⟩ := hb i hi
      have e : qAt ((List.range n).map (fun i => (g.1 13 i).toNatClampNeg)) i = (g.1 13 i).toNatClampNeg := by
        rw [qAt_i (by rw [List.length_map, List.length_range]; exact hi), List.getElem_map, List.getElem_range]
      rw [e, k2, nI_clamp (by omega)]
      exact k1
  obtain ⟨T, hTl, hT1, hT2⟩ := hTx
  subst hTl
  have hkd := (RelW_at hR h1).1
  obtain ⟨kd, hk1, hk2⟩ := qz_nat (x := g.1 89 v1.toNatClampNeg) (b := 7) (by
    have := hkd.1
    rw [qz_lt, qz_n0] at this
    omega) (by
    have := hkd.2
    rw [qz_le, qz_n8] at this
    omega)
  have hco := qCo_of hR kd
  have hS8 : (qTd g D v1 v2).length ≤ 8 := qGt_len _ 12
  have hS12 : ∀ s ∈ qTd g D v1 v2, s < 12 := qGt_lt _ 12
  refine c_X4_gather (d := d + 1) hR hD g s0 v1 v2 h1 (fun g4 s4 k11 k8 k63 k9 => ?_)
  refine c_X4_expectedOn (d := d + 6) g4 (qTd g D v1 v2) T kd _ _ hS8 k8 k9 (by rw [k11]; exact hk2) (by omega) (by rw [rE_61 hR s4, rE_62 hR s4]; exact hco) (fun i hi => by rw [rM_13 s4]; exact hT1 i hi) hT2 (by rw [rS_1_1 hR s4]; omega) (by rw [rS_1_1 hR s4]; omega) (fun g6 f6 => ?_)
  have s6 : Same g g6 := s4.tr (f6.same (by decide))
  have sb : Same (qz_ui g 1 1 0) (qz_ui g6 1 1 0) := s6.cui 1 1 0
  have mb : SameM g (qz_ui g6 1 1 0) := s6.toM.ui 1 1 0 (by decide) (by decide)
  generalize qz_ui g6 1 1 0 = G at sb mb ⊢
  have e2 : G.1 12 2 = g.1 12 2 := mb.2 (12, 2) (by decide)
  have e25 : G.1 12 25 = g.1 12 25 := by rw [rM_12_25 sb, qz_i1, if_neg (by decide)]
  refine v_X12_judge (d := d + 9) G v1 v2 _ ?_
  rw [e2, e25]
  refine ⟨fun _ => ⟨fun _ => ⟨fun z => absurd z h3.1, fun _ => ⟨fun _ => ?_, fun z => absurd (Int32.not_lt.mp h3.2) z⟩⟩, fun z => absurd h2 z⟩, fun z => absurd h1 z⟩
  have sH : Same (qz_ui (qz_ui g 1 1 0) 12 25 0) (qz_ui G 12 25 0) := sb.cui 12 25 0
  have mH : SameM g (qz_ui G 12 25 0) := mb.ui 12 25 0 (by decide) (by decide)
  generalize qz_ui G 12 25 0 = H at sH mH ⊢
  have hfin : ∀ g', Same H g' → Rel g' := fun g' s' => Rel_same (Rel_tape0 hR) (sH.tr s')
  have row : ∀ r : Nat, r ∈ qz_kr → ¬ r = 1 → ¬ r = 12 → H.1 r = g.1 r := fun r h1 h2 h3 => by rw [sH.1 r h1, qz_i1, if_neg h3, qz_i1, if_neg h2]
  have H99 := row 99 (by decide) (by decide) (by decide)
  have H120 := row 120 (by decide) (by decide) (by decide)
  have H121 := row 121 (by decide) (by decide) (by decide)
  have H0 : H.1 12 0 = g.1 12 0 := by rw [rM_12_0 sH, qz_i1, if_pos rfl, qz_u1, if_neg (by decide), qz_i1, if_neg (by decide)]
  have eT := qz_nI (n := T.length) (by omega)
  refine c_X12_setsRow (d := d + 4) hR hD H ⟨mH, Same.rf H⟩ H0 v1 v2 h1 (fun g5 s5 m87 m144 => ⟨fun c1 => ?_, fun c1 => ⟨rfl, ?_, hfin g5 s5.2⟩⟩)
  rotate_left
  · unfold qJu
    rw [qIf_neg (fun z => c1 (by rw [m87, z.1]))]
  rw [m87] at c1
  have eTS := nI_inj (by omega) (by omega) c1
  generalize qTd g D v1 v2 = S at hS8 hS12 m87 m144 eTS ⊢
  have bad : ∀ g', Same H g' → ¬ (T.length = S.length ∧ (∀ s ∈ T, s < 12) ∧ qWb T = qWb S) → (0 : Int32) = 0 ∧ qJu S T (fun s => (g.1 120 s).toNatClampNeg) (fun s => (g.1 121 (8 * s + kd)).toNatClampNeg) = -2 ∧ Rel g' := by
    intro g' s' hn
    refine ⟨rfl, ?_, hfin g' s'⟩
    unfold qJu
    rw [qIf_neg hn]
  refine qz_for (α := qz_G × Int32 × Int32) (W := fun a v => qz_WP X (d + 11) 282 _ 63 [(0, .ref 12), (1, .int v1), (3, .int (nI T.length)), (4, .int a.2.1), (5, .int a.2.2), (6, .int v)] [] a.1) (n := nI T.length) (fun i a => SamB g H a.1 ∧ a.1.1 12 87 = nI S.length ∧ (∀ j, j < S.length → a.1.1 144 j = nI (qAt S j)) ∧ a.2.1 = qWb (S.take i) ∧ a.2.2 = qWb (T.take i) ∧ ∀ j, j < i → qAt T j < 12 ∧ a.1.1 145 j = nI (qAt T j)) (by omega) (by omega) (fun i a v hI ev cv hle cont => ?_) (g5, 0, 0) ⟨s5, m87, m144, rfl, rfl, fun j hj => by omega⟩
  obtain ⟨sa, a87, a144, aS, aT, a145⟩ := hI
  rw [eT] at hle cont
  refine v_X12_judge_63 (d := d + 9) a.1 v1 _ _ _ v ?_
  rw [(sa.2.1 99 (by decide)).trans H99, cv]
  refine ⟨fun z => ⟨fun c2 => ?_, fun c2 => bad a.1 sa.2 (fun z2 => c2 ?_)⟩, fun z => ?_⟩
  · rw [qz_le, eT, ev] at z
    rw [aS, aT, List.take_of_length_le (by omega), List.take_of_length_le (by omega)] at c2
    have hall : ∀ s ∈ T, s < 12 := qAt_all (fun j hj => (a145 j (by omega)).1)
    have hok : qJu S T (fun s => (g.1 120 s).toNatClampNeg) (fun s => (g.1 121 (8 * s + kd)).toNatClampNeg) = lN (qE (fun s => (g.1 120 s).toNatClampNeg) (fun s => (g.1 121 (8 * s + kd)).toNatClampNeg) T 1000000) := by
      unfold qJu
      rw [qIf_pos ⟨eTS, hall, c2⟩]
    rw [hok]
    refine qz_for (W := fun b v => qz_WP X (d + 11) 282 _ 145 [(0, .ref 12), (1, .int v1), (3, .int (nI T.length)), (6, .int v)] [] b) (n := nI T.length) (fun i b => SamB g H b ∧ b.1 12 87 = nI S.length ∧ (∀ j, j < i → b.1 144 j = nI (qAt T j)) ∧ ∀ j, j < T.length → b.1 145 j = nI (qAt T j)) (by omega) (by omega) (fun i b v hI2 ev2 cv2 hle2 cont2 => ?_) a.1 ⟨sa, a87, fun j hj => by omega, fun j hj => (a145 j (by omega)).2⟩
    obtain ⟨sb2, b87, b144, b145⟩ := hI2
    rw [eT] at hle2 cont2
    refine v_X12_judge_145 (d := d + 9) b v1 _ v ?_
    rw [cv2, sb2.1.1 89 (by decide), hk2]
    refine ⟨fun z2 => ⟨qz_in80 h1 (rB_works hR), ?_⟩, fun z2 => ?_⟩
    · rw [qz_le, eT, ev2] at z2
      refine c_X12_expected (d := d + 9) b T kd _ _ (by omega) (by rw [b87, eTS]) (fun j hj => b144 j (by omega)) hall (by omega) (by rw [(sb2.2.1 120 (by decide)).trans H120, (sb2.2.1 121 (by decide)).trans H121]; exact hco) ⟨rfl, rfl, hfin b sb2.2⟩
    · rw [qz_le, eT, ev2] at z2
      rw [b145 i (by omega)]
      refine ⟨qz_vi (by omega) (by omega), v_X12_judge_165 (d := d + 9) _ v1 _ v (cont2 _ (by omega) ⟨sb2.row 144 _ _ (by decide) (by decide), ?_, fun j hj => ?_, fun j hj => ?_⟩)⟩
      · rw [qz_i1, if_neg (by decide)]; exact b87
      · rw [qz_i1, if_pos rfl, qz_u1]
        by_cases cj : j = i
        · rw [if_pos cj, cj]
        · rw [if_neg cj]
          exact b144 j (by omega)
      · rw [qz_i1, if_neg (by decide)]
        exact b145 j hj
  · rw [qz_le, eT, ev] at z
    rw [aS, aT, List.take_of_length_le (by omega), List.take_of_length_le (by omega)]
    exact z2.2.2
  · rw [qz_le, eT, ev] at z
    have hi : i < T.length := by omega
    have hb := hT2 i hi
    have es := qz_nI (n := qAt T i) (by omega)
    have e99 : g.1 99 i &&& 255 = nI (qAt T i) := by rw [← hY i (by omega)]; exact hT1 i hi
    rw [e99]
    refine ⟨qz_vi (by omega) (by omega), fun c3 => ⟨qz_vi (by omega) (by omega), ?_⟩, fun c3 => bad a.1 sa.2 (fun z3 => c3 ?_)⟩
    · rw [qz_lt, es, qz_n12] at c3
      rw [a144 i (by omega)]
      refine v_X12_judge_125 (d := d + 9) _ v1 _ _ _ v (cont (qz_ui a.1 145 i (nI (qAt T i)), a.2.1 ||| (1 <<< (nI (qAt S i) &&& 31)), a.2.2 ||| (1 <<< (nI (qAt T i) &&& 31))) (by omega) ⟨sa.row 145 _ _ (by decide) (by decide), ?_, fun j hj => ?_, ?_, ?_, fun j hj => ?_⟩)
      · show (qz_ui a.1 145 i (nI (qAt T i))).1 12 87 = _
        rw [qz_i1, if_neg (by decide)]; exact a87
      · show (qz_ui a.1 145 i (nI (qAt T i))).1 144 j = _
        rw [qz_i1, if_neg (by decide)]; exact a144 j hj
      · show a.2.1 ||| _ = _
        rw [qAt_take (show i < S.length by omega), qWb_app, aS]
      · show a.2.2 ||| _ = _
        rw [qAt_take hi, qWb_app, aT]
      · show _ ∧ (qz_ui a.1 145 i (nI (qAt T i))).1 145 j = _
        rw [qz_i1, if_pos rfl, qz_u1]
        by_cases cj : j = i
        · rw [if_pos cj, cj]
          exact ⟨by omega, rfl⟩
        · rw [if_neg cj]
          exact a145 j (by omega)
    · have := z3.2.1 _ (qAt_memi hi)
      rw [qz_lt, es, qz_n12]
      omega
