theorem RelK_add {n n' w o t : Int32} {r1 r2 r3 r4 r5 : Nat → Int32} {a b c e5 f : Int32} (h : RelK n w o t r1 r2 r3 r4 r5) (e1 : n'.toInt = n.toInt + 1) (e3 : ((n.toNatClampNeg : Nat) : Int) = n.toInt) (ha : qR a w) (hb : qR b 12) (hc : qI c 0 99999) (he : e5 = -1 ∨ qR e5 o) : RelK n' w o t (upd r1 n.toNatClampNeg a) (upd r2 n.toNatClampNeg b) (upd r3 n.toNatClampNeg c) (upd r4 n.toNatClampNeg e5) (upd r5 n.toNatClampNeg f) := by
  intro k hk
  simp only [qz_u1]
  rcases qz_split1 e1 e3 hk with e | ⟨e, ne⟩
  · simp only [e, if_true]
    exact ⟨ha, hb, hc, he⟩
  · simp only [ne, if_false]
    exact h k e
theorem Rel_look {g : qz_G} {a b c o : Int32} (hR : Rel g) (h300 : ¬ g.1 12 55 = 300) (ha : qR a (g.1 12 2)) (hb : qR b 12) (hc : qI c 0 (g.1 12 0)) (ho : o = -1 ∨ qR o (g.1 12 1)) : Rel (qz_ui (qz_ui (qz_ui (qz_ui (qz_ui (qz_ui (qz_ui (qz_ui (qz_ui (qz_ui (qz_ui (qz_ui g 34 ((g.1 12 55).toNatClampNeg) a) 35 ((g.1 12 55).toNatClampNeg) b) 36 ((g.1 12 55).toNatClampNeg) c) 37 ((g.1 12 55).toNatClampNeg) o) 38 ((g.1 12 55).toNatClampNeg) (g.1 12 0)) 4 13 ((g.1 12 55) + 1)) 122 ((g.1 12 55).toNatClampNeg) a) 123 ((g.1 12 55).toNatClampNeg) b) 124 ((g.1 12 55).toNatClampNeg) c) 125 ((g.1 12 55).toNatClampNeg) o) 126 ((g.1 12 55).toNatClampNeg) (g.1 12 0)) 12 55 ((g.1 12 55) + 1)) := by
  obtain ⟨hE, hS, hB, hP, hD, hW, hZ, hK, hT, hA, hV, hC, hY, hJ, hU, hL⟩ := hR
  have hB1 := hB.1
  have hB2 := hB.2.2.2.2.2.2.1
  have hlt : (g.1 12 55).toInt < 300 := by
    simp only [qI, qz_lt, qz_eq, qz_n0, qz_n300] at hB2 h300
    omega
  obtain ⟨e1, e2, e3⟩ := qz_inc (b := 300) hB2 (by decide) (by decide) hlt
  have hc2 : qI c 0 99999 := by
    simp only [qI, qz_lt, qz_n0, qz_n99999] at hB1 hc ⊢
    omega
  unfold Rel RelE RelS
  unfold RelE at hE
  unfold RelS at hS
  simp only [qz_i1, qz_i2, qz_u1, Nat.reduceEqDiff, reduceIte]
  refine ⟨?_, ?_, ?_, hP, hD, hW, hZ, RelK_add hK e1 e3 ha hb hc2 ho, hT, hA, hV, hC, hY, hJ, hU, hL⟩
  · simp only [hE, and_self]
  · simp only [hS, and_self]
  · unfold RelB at hB ⊢
    obtain ⟨h1, h2, h3, h4, h5, h6, h7, h8⟩ := hB
    refine ⟨h1, h2, h3, h4, h5, h6, ?_, h8⟩
    simp only [qI, qz_lt, qz_le, qz_n0, qz_n300, e1] at h7 ⊢
    omega
theorem P_look {X : qz_X} {d : Nat} {g : qz_G} (v1 v2 v3 v4 : Int32) (hR : Rel g) : qz_Pair X (d + 4) 165 255 [.int v1, .int v2, .int v3, .int v4] g := by
  have hE := hR.1
  have hS := hR.2.1
  have hB0 := hR.2.2.1
  have hBw := hB0.2.2.1
  have hBl := hB0.2.2.2.2.2.2.1
  unfold RelS at hS
  unfold RelE at hE
  refine v_X11_look g v1 v2 v3 v4 ?_
  simp only [hS, hE]
  have hv : g.1 12 55 < 300 → vp_in (g.1 12 55) 300 ∧ ¬ g.1 12 55 = 300 := by
    intro h4
    simp only [qI, qz_lt, qz_eq, qz_n0, qz_n300] at hBl h4 ⊢
    exact ⟨qz_vi (by omega) (by omega), by omega⟩
  have hf : ¬ g.1 12 55 < 300 → g.1 12 55 = 300 := by
    intro h4
    simp only [qI, qz_lt, qz_eq, qz_n0, qz_n300] at hBl h4 ⊢
    omega
  refine ⟨fun h1 => ⟨fun h2 => ⟨fun h3 => ⟨fun h4 => ⟨fun h5 => ⟨(hv h5).1, ?_⟩, fun h5 => ?_⟩, fun h4 => ⟨h1, hBw, ?_⟩⟩, fun h3 => ?_⟩, fun h2 => ?_⟩, fun h1 => ?_⟩
  · refine v_X12_look (d := d + 2) _ v1 v2 v3 v4 ?_
    simp only [qz_i1, qz_i2, qz_u1, Nat.reduceEqDiff, reduceIte]
    exact ⟨fun _ => ⟨fun _ => ⟨fun _ => ⟨fun _ => ⟨fun _ => ⟨(hv h5).1, trivial, trivial, Rel_look hR (hv h5).2 h1 h2 h3 (Or.inl h4)⟩, fun z => absurd z (hv h5).2⟩, fun z => absurd h4 z⟩, fun z => absurd h3 z⟩, fun z => absurd h2 z⟩, fun z => absurd h1 z⟩
  · exact v_X12_look (d := d + 2) _ v1 v2 v3 v4 ⟨fun _ => ⟨fun _ => ⟨fun _ => ⟨fun _ => ⟨fun z => absurd (hf h5) z, fun _ => ⟨rfl, rfl, hR⟩⟩, fun z => absurd h4 z⟩, fun z => absurd h3 z⟩, fun z => absurd h2 z⟩, fun z => absurd h1 z⟩
  · obtain ⟨-, -, -, -, -, -, -, -, -, hm, hs⟩ := RelW_at hR h1
    refine ⟨hm, fun h5 => ⟨fun h6 => ⟨(hv h6).1, ?_⟩, fun h6 => ?_⟩, fun h5 => ?_⟩
    · have ho : qR v4 (g.1 12 1) := by
        obtain ⟨i, hi, e⟩ := h5
        rw [← e]
        exact (hs i hi).1
      refine v_X12_look (d := d + 2) _ v1 v2 v3 v4 ?_
      simp only [qz_i1, qz_i2, qz_u1, Nat.reduceEqDiff, reduceIte]
      exact ⟨fun _ => ⟨fun _ => ⟨fun _ => ⟨fun z => absurd z h4, fun _ => ⟨fun _ => ⟨h1, hBw, hm, fun _ => ⟨fun _ => ⟨(hv h6).1, trivial, trivial, Rel_look hR (hv h6).2 h1 h2 h3 (Or.inr ho)⟩, fun z => absurd z (hv h6).2⟩, fun z => absurd h5 z⟩, fun z => absurd ho z⟩⟩, fun z => absurd h3 z⟩, fun z => absurd h2 z⟩, fun z => absurd h1 z⟩
    · exact v_X12_look (d := d + 2) _ v1 v2 v3 v4 ⟨fun _ => ⟨fun _ => ⟨fun _ => ⟨fun z => absurd z h4, fun _ => ⟨fun _ => ⟨h1, hBw, hm, fun _ => ⟨fun z => absurd (hf h6) z, fun _ => ⟨rfl, rfl, hR⟩⟩, fun z => absurd h5 z⟩, fun _ => ⟨rfl, rfl, hR⟩⟩⟩, fun z => absurd h3 z⟩, fun z => absurd h2 z⟩, fun z => absurd h1 z⟩
    · exact v_X12_look (d := d + 2) _ v1 v2 v3 v4 ⟨fun _ => ⟨fun _ => ⟨fun _ => ⟨fun z => absurd z h4, fun _ => ⟨fun _ => ⟨h1, hBw, hm, fun z => absurd z h5, fun _ => ⟨rfl, rfl, hR⟩⟩, fun _ => ⟨rfl, rfl, hR⟩⟩⟩, fun z => absurd h3 z⟩, fun z => absurd h2 z⟩, fun z => absurd h1 z⟩
  · exact v_X12_look (d := d + 2) _ v1 v2 v3 v4 ⟨fun _ => ⟨fun _ => ⟨fun z => absurd z h3, fun _ => ⟨rfl, rfl, hR⟩⟩, fun z => absurd h2 z⟩, fun z => absurd h1 z⟩
  · exact v_X12_look (d := d + 2) _ v1 v2 v3 v4 ⟨fun _ => ⟨fun z => absurd z h2, fun _ => ⟨rfl, rfl, hR⟩⟩, fun z => absurd h1 z⟩
  · exact v_X12_look (d := d + 2) _ v1 v2 v3 v4 ⟨fun z => absurd z h1, fun _ => ⟨rfl, rfl, hR⟩⟩
