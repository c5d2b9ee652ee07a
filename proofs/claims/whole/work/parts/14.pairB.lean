theorem qz_split1 {n n' : Int32} {k : Nat} (e1 : n'.toInt = n.toInt + 1) (e3 : ((n.toNatClampNeg : Nat) : Int) = n.toInt) (hk : (k : Int) < n'.toInt) : k = n.toNatClampNeg ∨ ((k : Int) < n.toInt ∧ ¬ k = n.toNatClampNeg) := by omega
theorem RelD_add {n n' o : Int32} {r1 r2 r3 r4 : Nat → Int32} {a b c t : Int32} (h : RelD n o r1 r2 r3 r4) (e1 : n'.toInt = n.toInt + 1) (e3 : ((n.toNatClampNeg : Nat) : Int) = n.toInt) (ha : qR a o) (hb : qI b 0 99999) (hc : qI c b 99999) : RelD n' o (upd r1 n.toNatClampNeg a) (upd r2 n.toNatClampNeg b) (upd r3 n.toNatClampNeg c) (upd r4 n.toNatClampNeg t) := by
  intro k hk
  simp only [qz_u1]
  rcases qz_split1 e1 e3 hk with e | ⟨e, ne⟩
  · simp only [e, if_true]
    exact ⟨ha, hb, hc⟩
  · simp only [ne, if_false]
    exact h k e
theorem Rel_died {g : qz_G} {a b c : Int32} (hR : Rel g) (h200 : ¬ g.1 12 3 = 200) (ha : qR a (g.1 12 1)) (hb : qI b 0 99999) (hc : qI c b (g.1 12 0)) : Rel (qz_ui (qz_ui (qz_ui (qz_ui (qz_ui (qz_ui (qz_ui (qz_ui (qz_ui (qz_ui g 18 ((g.1 12 3).toNatClampNeg) a) 19 ((g.1 12 3).toNatClampNeg) b) 20 ((g.1 12 3).toNatClampNeg) c) 21 ((g.1 12 3).toNatClampNeg) (g.1 12 0)) 2 9 ((g.1 12 3) + 1)) 85 ((g.1 12 3).toNatClampNeg) a) 86 ((g.1 12 3).toNatClampNeg) b) 87 ((g.1 12 3).toNatClampNeg) c) 88 ((g.1 12 3).toNatClampNeg) (g.1 12 0)) 12 3 ((g.1 12 3) + 1)) := by
  obtain ⟨hE, hS, hB, hP, hD, hW, hZ, hK, hT, hA, hV, hC, hY, hJ, hU, hL⟩ := hR
  have hB1 := hB.1
  have hB2 := hB.2.2.2.1
  have hlt : (g.1 12 3).toInt < 200 := by
    simp only [qI, qz_lt, qz_eq, qz_n0, qz_n200] at hB2 h200
    omega
  obtain ⟨e1, e2, e3⟩ := qz_inc (b := 200) hB2 (by decide) (by decide) hlt
  have hc2 : qI c b 99999 := by
    simp only [qI, qz_lt, qz_n0, qz_n99999] at hB1 hc ⊢
    omega
  unfold Rel RelE RelS
  unfold RelE at hE
  unfold RelS at hS
  simp only [qz_i1, qz_i2, qz_u1, Nat.reduceEqDiff, reduceIte]
  refine ⟨?_, ?_, ?_, hP, RelD_add hD e1 e3 ha hb hc2, hW, hZ, hK, hT, hA, hV, hC, hY, hJ, hU, hL⟩
  · simp only [hE, and_self]
  · simp only [hS, and_self]
  · unfold RelB at hB ⊢
    obtain ⟨h1, h2, h3, h4, h5⟩ := hB
    refine ⟨h1, h2, h3, ?_, h5⟩
    simp only [qI, qz_lt, qz_le, qz_n0, qz_n200, e1] at h4 ⊢
    omega
theorem P_died {X : qz_X} {d : Nat} {g : qz_G} (v1 v2 v3 : Int32) (hR : Rel g) : qz_Pair X (d + 3) 153 204 [.int v1, .int v2, .int v3] g := by
  have hE := hR.1
  have hS := hR.2.1
  have hB0 := hR.2.2.1
  unfold RelS at hS
  unfold RelE at hE
  have hB := hB0.1
  have hBo := hB0.2.1
  have hBd := hB0.2.2.2.1
  refine v_X11_died g v1 v2 v3 ?_
  simp only [hS, hE]
  refine ⟨hBo, fun h1 => ⟨fun h2 => ⟨fun h3 => ?_, fun h3 => ⟨fun h4 => ?_, fun h4 => ?_⟩⟩, fun h2 => ?_⟩, fun h1 => ?_⟩
  · refine v_X12_died (d := d + 1) _ v1 v2 v3 ⟨fun h4 => ⟨qz_in40 h4 hBo, fun h5 => absurd h1.2 h5, fun _ => ⟨fun _ => ⟨fun h6 => ?_, fun _ => ⟨rfl, rfl, hR⟩⟩, fun _ => ⟨rfl, rfl, hR⟩⟩⟩, fun h4 => absurd h1.1 h4⟩
    simp only [qI, qz_lt] at h3 h6
    omega
  · have hv : vp_in (g.1 12 3) 200 := by
      simp only [qI, qz_lt, qz_n0, qz_n200] at hBd h4
      exact qz_vi (by omega) (by omega)
    have h200 : ¬ g.1 12 3 = 200 := by
      simp only [qz_lt, qz_eq, qz_n200] at h4 ⊢
      omega
    refine ⟨hv, ?_⟩
    refine v_X12_died (d := d + 1) _ v1 v2 v3 ?_
    simp only [qz_i1, qz_i2, qz_u1, Nat.reduceEqDiff, reduceIte]
    have hi : qI v3 v2 (g.1 12 0) := ⟨h2.2.2, h3⟩
    exact ⟨fun _ => ⟨qz_in40 h1.1 hBo, fun z => absurd h1.2 z, fun _ => ⟨fun _ => ⟨fun _ => ⟨fun _ => ⟨hv, trivial, trivial, Rel_died hR h200 h1.1 h2.1 hi⟩, fun z => absurd z h200⟩, fun z => absurd hi z⟩, fun z => absurd h2.1 z⟩⟩, fun z => absurd h1.1 z⟩
  · have h200 : g.1 12 3 = 200 := by
      simp only [qI, qz_lt, qz_eq, qz_n0, qz_n200] at h4 hBd ⊢
      omega
    exact v_X12_died (d := d + 1) _ v1 v2 v3 ⟨fun _ => ⟨qz_in40 h1.1 hBo, fun z => absurd h1.2 z, fun _ => ⟨fun _ => ⟨fun _ => ⟨fun z => absurd h200 z, fun _ => ⟨rfl, rfl, hR⟩⟩, fun _ => ⟨rfl, rfl, hR⟩⟩, fun _ => ⟨rfl, rfl, hR⟩⟩⟩, fun z => absurd h1.1 z⟩
  · refine v_X12_died (d := d + 1) _ v1 v2 v3 ⟨fun _ => ⟨qz_in40 h1.1 hBo, fun z => absurd h1.2 z, fun _ => ⟨fun h5 => ⟨fun h6 => absurd ⟨h5, ?_, h6.1⟩ h2, fun _ => ⟨rfl, rfl, hR⟩⟩, fun _ => ⟨rfl, rfl, hR⟩⟩⟩, fun z => absurd h1.1 z⟩
    simp only [qI, qz_lt, qz_n0, qz_n99999] at h5 h6 hB ⊢
    omega
  · exact v_X12_died (d := d + 1) _ v1 v2 v3 ⟨fun h4 => ⟨qz_in40 h4 hBo, fun _ => ⟨rfl, rfl, hR⟩, fun h5 => absurd ⟨h4, h5⟩ h1⟩, fun _ => ⟨rfl, rfl, hR⟩⟩
theorem RelT_add {n n' o t : Int32} {r1 r2 r3 r4 : Nat → Int32} {a b c : Int32} (h : RelT n o t r1 r2 r3 r4) (e1 : n'.toInt = n.toInt + 1) (e3 : ((n.toNatClampNeg : Nat) : Int) = n.toInt) (ha : qR a o) (hb : qI b 0 99999) : RelT n' o t (upd r1 n.toNatClampNeg a) (upd r2 n.toNatClampNeg b) (upd r3 n.toNatClampNeg c) (upd r4 n.toNatClampNeg (-1)) := by
  intro k hk
  simp only [qz_u1]
  rcases qz_split1 e1 e3 hk with e | ⟨e, ne⟩
  · simp only [e, if_true]
    exact ⟨ha, hb, Or.inl trivial⟩
  · simp only [ne, if_false]
    exact h k e
theorem Rel_letter {g : qz_G} {a b : Int32} (hR : Rel g) (h200 : ¬ g.1 12 56 = 200) (ha : qR a (g.1 12 1)) (hb : qI b 0 (g.1 12 0)) : Rel (qz_ui (qz_ui (qz_ui (qz_ui (qz_ui (qz_ui (qz_ui (qz_ui (qz_ui (qz_ui g 39 ((g.1 12 56).toNatClampNeg) a) 40 ((g.1 12 56).toNatClampNeg) b) 41 ((g.1 12 56).toNatClampNeg) (g.1 12 0)) 42 ((g.1 12 56).toNatClampNeg) (-1)) 4 14 ((g.1 12 56) + 1)) 127 ((g.1 12 56).toNatClampNeg) a) 128 ((g.1 12 56).toNatClampNeg) b) 129 ((g.1 12 56).toNatClampNeg) (g.1 12 0)) 130 ((g.1 12 56).toNatClampNeg) (-1)) 12 56 ((g.1 12 56) + 1)) := by
  obtain ⟨hE, hS, hB, hP, hD, hW, hZ, hK, hT, hA, hV, hC, hY, hJ, hU, hL⟩ := hR
  have hB1 := hB.1
  have hB2 := hB.2.2.2.2.2.2.2.1
  have hlt : (g.1 12 56).toInt < 200 := by
    simp only [qI, qz_lt, qz_eq, qz_n0, qz_n200] at hB2 h200
    omega
  obtain ⟨e1, e2, e3⟩ := qz_inc (b := 200) hB2 (by decide) (by decide) hlt
  have hb2 : qI b 0 99999 := by
    simp only [qI, qz_lt, qz_n0, qz_n99999] at hB1 hb ⊢
    omega
  unfold Rel RelE RelS
  unfold RelE at hE
  unfold RelS at hS
  simp only [qz_i1, qz_i2, qz_u1, Nat.reduceEqDiff, reduceIte]
  refine ⟨?_, ?_, ?_, hP, hD, hW, hZ, hK, RelT_add hT e1 e3 ha hb2, hA, hV, hC, hY, hJ, hU, hL⟩
  · simp only [hE, and_self]
  · simp only [hS, and_self]
  · unfold RelB at hB ⊢
    obtain ⟨h1, h2, h3, h4, h5, h6, h7, h8, h9⟩ := hB
    refine ⟨h1, h2, h3, h4, h5, h6, h7, ?_, h9⟩
    simp only [qI, qz_lt, qz_le, qz_n0, qz_n200, e1] at h8 ⊢
    omega
theorem P_letter {X : qz_X} {d : Nat} {g : qz_G} (v1 v2 : Int32) (hR : Rel g) : qz_Pair X (d + 2) 166 256 [.int v1, .int v2] g := by
  have hS := hR.2.1
  have hB0 := hR.2.2.1
  unfold RelS at hS
  have hBl := hB0.2.2.2.2.2.2.2.1
  refine v_X11_letter g v1 v2 ?_
  simp only [hS]
  refine ⟨fun h1 => ⟨fun h2 => ⟨fun h4 => ?_, fun h4 => ?_⟩, fun h2 => ?_⟩, fun h1 => ?_⟩
  · have hv : vp_in (g.1 12 56) 200 := by
      simp only [qI, qz_lt, qz_n0, qz_n200] at hBl h4
      exact qz_vi (by omega) (by omega)
    have h200 : ¬ g.1 12 56 = 200 := by
      simp only [qz_lt, qz_eq, qz_n200] at h4 ⊢
      omega
    refine ⟨hv, ?_⟩
    refine v_X12_letter _ v1 v2 ?_
    simp only [qz_i1, qz_i2, qz_u1, Nat.reduceEqDiff, reduceIte]
    exact ⟨fun _ => ⟨fun _ => ⟨fun _ => ⟨hv, trivial, trivial, Rel_letter hR h200 h1 h2⟩, fun z => absurd z h200⟩, fun z => absurd h2 z⟩, fun z => absurd h1 z⟩
  · have h200 : g.1 12 56 = 200 := by
      simp only [qI, qz_lt, qz_eq, qz_n0, qz_n200] at h4 hBl ⊢
      omega
    exact v_X12_letter _ v1 v2 ⟨fun _ => ⟨fun _ => ⟨fun z => absurd h200 z, fun _ => ⟨rfl, rfl, hR⟩⟩, fun _ => ⟨rfl, rfl, hR⟩⟩, fun _ => ⟨rfl, rfl, hR⟩⟩
  · exact v_X12_letter _ v1 v2 ⟨fun _ => ⟨fun z => absurd z h2, fun _ => ⟨rfl, rfl, hR⟩⟩, fun _ => ⟨rfl, rfl, hR⟩⟩
  · exact v_X12_letter _ v1 v2 ⟨fun z => absurd z h1, fun _ => ⟨rfl, rfl, hR⟩⟩
