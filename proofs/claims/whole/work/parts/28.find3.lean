theorem c_X1_foundShares {X : qz_X} {d : Nat} {Q : qz_Q} (g : qz_G) (v1 v2 v3 : Int32) (h : (HO (g.1 3 12) (g.1 2 8) (g.1 15) (g.1 29) (g.1 30)) ∧ (qR v1 (g.1 3 12)) ∧ (qI (g.1 4 13) 0 300) ∧ (qI (g.1 4 14) 0 200) ∧ Q g (qCt (fun k => qFd (g.1 46) (g.1 4 13) (g.1 37) (g.1 36) (g.1 38) (g.1 4 14) (g.1 39) (g.1 42) (qHn (g.1 30) (g.1 15) (g.1 16) (g.1 17) v1 k v2 v3) v2 v3) (g.1 29 v1.toNatClampNeg).toNatClampNeg) 0) : qz_Call X (d + 4) 7 [.ref 5, .int v1, .int v2, .int v3] g Q := by
  obtain ⟨hO, hw, h2, h3, hq⟩ := h
  have hm := qI_0 (hO.2.2.2 v1 hw).1 qz_n4
  refine v_X1_foundShares g v1 v2 v3 ?_
  exact qz_cntl (W := fun a v => qz_WP X (d + 4) 7 Q 6 [(0, .ref 5), (1, .int v1), (2, .int v2), (3, .int v3), (4, .int a), (5, .int v)] [] g) (n := g.1 29 v1.toNatClampNeg) (F := fun a => Q g a 0) hm.1 (by omega)
    (fun a v hF hr hP hN => v_X1_foundShares_6 g v1 v2 v3 a v ⟨hw, hO.1, hF, fun c => ⟨hO, hw, fun c2 => ⟨qR_40 (qHd_rng hO hw c2) hO.2.1, h2, h3, fun e => hP c e, fun e => hN c e⟩, fun z => absurd (hr c) z⟩⟩) hq
theorem P_found {X : qz_X} {d : Nat} {g : qz_G} (v1 v2 v3 : Int32) (hR : Rel g) : qz_Pair X (d + 3) 168 260 [.int v1, .int v2, .int v3] g := by
  have hE := hR.1
  have hS := hR.2.1
  have hB := hR.2.2.1
  unfold RelS at hS
  unfold RelE at hE
  have hl := hB.2.2.2.2.2.2.1
  have ht := hB.2.2.2.2.2.2.2.1
  refine v_X11_found g v1 v2 v3 ?_
  simp only [hS, hE]
  refine ⟨fun h1 => ⟨fun h2 => ⟨fun h3 => ⟨qR_40 h1 hB.2.1, hl, ht, fun h4 => ?_, fun h4 => ?_⟩, fun h3 => ?_⟩, fun h2 => ?_⟩, fun h1 => ?_⟩
  · exact v_X12_found _ v1 v2 v3 ⟨fun _ => ⟨fun _ => ⟨fun _ => ⟨qR_40 h1 hB.2.1, hl, ht, fun _ => ⟨rfl, rfl, hR⟩, fun z => absurd h4 z⟩, fun z => absurd h3 z⟩, fun z => absurd h2 z⟩, fun z => absurd h1 z⟩
  · exact v_X12_found _ v1 v2 v3 ⟨fun _ => ⟨fun _ => ⟨fun _ => ⟨qR_40 h1 hB.2.1, hl, ht, fun z => absurd z h4, fun _ => ⟨rfl, rfl, hR⟩⟩, fun z => absurd h3 z⟩, fun z => absurd h2 z⟩, fun z => absurd h1 z⟩
  · exact v_X12_found _ v1 v2 v3 ⟨fun _ => ⟨fun _ => ⟨fun z => absurd z h3, fun _ => ⟨rfl, rfl, hR⟩⟩, fun z => absurd h2 z⟩, fun z => absurd h1 z⟩
  · exact v_X12_found _ v1 v2 v3 ⟨fun _ => ⟨fun z => absurd z h2, fun _ => ⟨rfl, rfl, hR⟩⟩, fun z => absurd h1 z⟩
  · exact v_X12_found _ v1 v2 v3 ⟨fun z => absurd z h1, fun _ => ⟨rfl, rfl, hR⟩⟩
theorem P_holds {X : qz_X} {d : Nat} {g : qz_G} (v1 v2 v3 v4 : Int32) (hR : Rel g) : qz_Pair X (d + 4) 157 211 [.int v1, .int v2, .int v3, .int v4] g := by
  have hE := hR.1
  have hS := hR.2.1
  have hO := HO_of hR
  unfold RelS at hS
  unfold RelE at hE
  refine v_X11_holds g v1 v2 v3 v4 ?_
  simp only [hS, hE]
  refine ⟨fun h1 => ⟨fun h2 => ⟨fun h3 => ⟨hO, h1, fun h4 => ?_, fun h4 => ?_⟩, fun h3 => ?_⟩, fun h2 => ?_⟩, fun h1 => ?_⟩
  · exact v_X12_holds (d := d + 1) _ v1 v2 v3 v4 ⟨fun _ => ⟨fun z => absurd z h4.1, fun _ => ⟨qz_in80 h1 hO.1, fun z => absurd z h4.2, fun _ => ⟨fun _ => ⟨fun _ => ⟨hO, h1, h4, rfl, rfl, hR⟩, fun z => absurd h3 z⟩, fun z => absurd h2 z⟩⟩⟩, fun z => absurd h1 z⟩
  · exact v_X12_holds (d := d + 1) _ v1 v2 v3 v4 ⟨fun _ => ⟨fun _ => ⟨rfl, rfl, hR⟩, fun a => ⟨qz_in80 h1 hO.1, fun _ => ⟨rfl, rfl, hR⟩, fun b => absurd ⟨a, b⟩ h4⟩⟩, fun z => absurd h1 z⟩
  · exact v_X12_holds (d := d + 1) _ v1 v2 v3 v4 ⟨fun _ => ⟨fun _ => ⟨rfl, rfl, hR⟩, fun a => ⟨qz_in80 h1 hO.1, fun _ => ⟨rfl, rfl, hR⟩, fun b => ⟨fun _ => ⟨fun z => absurd z h3, fun _ => ⟨rfl, rfl, hR⟩⟩, fun _ => ⟨rfl, rfl, hR⟩⟩⟩⟩, fun z => absurd h1 z⟩
  · exact v_X12_holds (d := d + 1) _ v1 v2 v3 v4 ⟨fun _ => ⟨fun _ => ⟨rfl, rfl, hR⟩, fun a => ⟨qz_in80 h1 hO.1, fun _ => ⟨rfl, rfl, hR⟩, fun b => ⟨fun z => absurd z h2, fun _ => ⟨rfl, rfl, hR⟩⟩⟩⟩, fun z => absurd h1 z⟩
  · exact v_X12_holds (d := d + 1) _ v1 v2 v3 v4 ⟨fun z => absurd z h1, fun _ => ⟨rfl, rfl, hR⟩⟩
theorem RelA_add {n n' t : Int32} {r : Nat → Int32} (h : RelA n t r) (e1 : n'.toInt = n.toInt + 1) (e3 : ((n.toNatClampNeg : Nat) : Int) = n.toInt) (ht : ¬ t < 0) : RelA n' t (upd r n.toNatClampNeg t) := by
  intro k hk
  simp only [qz_u1]
  rcases qz_split1 e1 e3 hk with e | ⟨e, ne⟩
  · simp only [e, if_true]
    exact ⟨ht, by simp only [qz_lt]; omega⟩
  · simp only [ne, if_false]
    exact h k e
theorem Rel_agree {g : qz_G} {a b : Int32} (hR : Rel g) (h200 : ¬ g.1 12 71 = 200) : Rel (qz_ui (qz_ui (qz_ui (qz_ui (qz_ui (qz_ui (qz_ui (qz_ui g 43 ((g.1 12 71).toNatClampNeg) a) 44 ((g.1 12 71).toNatClampNeg) b) 45 ((g.1 12 71).toNatClampNeg) (g.1 12 0)) 4 15 ((g.1 12 71) + 1)) 131 ((g.1 12 71).toNatClampNeg) a) 132 ((g.1 12 71).toNatClampNeg) b) 133 ((g.1 12 71).toNatClampNeg) (g.1 12 0)) 12 71 ((g.1 12 71) + 1)) := by
  obtain ⟨hE, hS, hB, hP, hD, hW, hZ, hK, hT, hA, hV, hC, hY, hJ, hU, hL⟩ := hR
  have hB1 := hB.1
  have hB2 := hB.2.2.2.2.2.2.2.2.1
  have hlt : (g.1 12 71).toInt < 200 := by
    simp only [qI, qz_lt, qz_eq, qz_n0, qz_n200] at hB2 h200
    omega
  obtain ⟨e1, e2, e3⟩ := qz_inc (b := 200) hB2 (by decide) (by decide) hlt
  unfold Rel RelE RelS
  unfold RelE at hE
  unfold RelS at hS
  simp only [qz_i1, qz_i2, qz_u1, Nat.reduceEqDiff, reduceIte]
  refine ⟨?_, ?_, ?_, hP, hD, hW, hZ, hK, hT, RelA_add hA e1 e3 hB1.1, hV, hC, hY, hJ, hU, hL⟩
  · simp only [hE, and_self]
  · simp only [hS, and_self]
  · unfold RelB at hB ⊢
    obtain ⟨h1, h2, h3, h4, h5, h6, h7, h8, h9, h10⟩ := hB
    refine ⟨h1, h2, h3, h4, h5, h6, h7, h8, ?_, h10⟩
    simp only [qI, qz_lt, qz_le, qz_n0, qz_n200, e1] at h9 ⊢
    omega
theorem P_agree {X : qz_X} {d : Nat} {g : qz_G} (v1 v2 : Int32) (hR : Rel g) : qz_Pair X (d + 3) 172 269 [.int v1, .int v2] g := by
  have hE := hR.1
  have hS := hR.2.1
  have hB := hR.2.2.1
  have hA := hR.2.2.2.2.2.2.2.2.2.1
  unfold RelS at hS
  unfold RelE at hE
  have hb := hB.2.2.2.2.2.2.2.2.1
  have hnow := hB.1
  have hx : qEx (g.1 12 71) (fun k => g.1 131 k = v1 ∧ g.1 132 k = v2 ∧ ¬ (g.1 12 0) < g.1 133 k) ↔ qEx (g.1 12 71) (fun k => g.1 131 k = v1 ∧ g.1 132 k = v2 ∧ ¬ 99999 < g.1 133 k) := by
    constructor
    · rintro ⟨k, h1, h2, h3, h4⟩
      refine ⟨k, h1, h2, h3, ?_⟩
      simp only [qI, qz_lt, qz_n0, qz_n99999] at hnow h4 ⊢
      omega
    · rintro ⟨k, h1, h2, h3, h4⟩
      exact ⟨k, h1, h2, h3, (hA k h1).2⟩
  have h200 : 200 ≤ g.1 12 71 ↔ g.1 12 71 = 200 := by
    simp only [qI, qz_lt, qz_le, qz_eq, qz_n0, qz_n200] at hb ⊢
    omega
  refine v_X11_agree g v1 v2 ?_
  simp only [hS, hE, hx, h200]
  refine ⟨fun h1 => ⟨fun h2 => ⟨fun h3 => ?_, fun h3 => ⟨hb, fun h4 => ?_, fun h4 => ⟨?_, ?_⟩⟩⟩, fun h2 => ?_⟩, fun h1 => ?_⟩
  · exact v_X12_agree (d := d + 1) _ v1 v2 ⟨fun _ => ⟨fun _ => ⟨fun _ => ⟨rfl, rfl, hR⟩, fun z => absurd h3 z⟩, fun z => absurd h2 z⟩, fun z => absurd h1 z⟩
  · exact v_X12_agree (d := d + 1) _ v1 v2 ⟨fun _ => ⟨fun _ => ⟨fun _ => ⟨rfl, rfl, hR⟩, fun _ => ⟨hb, fun _ => ⟨rfl, rfl, hR⟩, fun z => absurd h4 z⟩⟩, fun z => absurd h2 z⟩, fun z => absurd h1 z⟩
  · simp only [qI, qz_lt, qz_eq, qz_n0, qz_n200] at hb h3
    exact qz_vi (by omega) (by omega)
  · have hv : vp_in (g.1 12 71) 200 := by
      simp only [qI, qz_lt, qz_eq, qz_n0, qz_n200] at hb h3
      exact qz_vi (by omega) (by omega)
    refine v_X12_agree (d := d + 1) _ v1 v2 ?_
    simp only [qz_i1, qz_i2, qz_u1, Nat.reduceEqDiff, reduceIte]
    exact ⟨fun _ => ⟨fun _ => ⟨fun z => absurd z h3, fun _ => ⟨hb, fun z => absurd z h4, fun _ => ⟨hv, trivial, trivial, Rel_agree hR h3⟩⟩⟩, fun z => absurd h2 z⟩, fun z => absurd h1 z⟩
  · exact v_X12_agree (d := d + 1) _ v1 v2 ⟨fun _ => ⟨fun z => absurd z h2, fun _ => ⟨rfl, rfl, hR⟩⟩, fun z => absurd h1 z⟩
  · exact v_X12_agree (d := d + 1) _ v1 v2 ⟨fun z => absurd z h1, fun _ => ⟨rfl, rfl, hR⟩⟩
