theorem qz_in200 {v n : Int32} (h : qR v n) (hn : qI n 0 200) : vp_in v 200 := by
  simp only [qR, qI, qz_lt, qz_le, qz_n0, qz_n200] at h hn
  exact qz_vi (by omega) (by omega)
theorem qz_in12 {v : Int32} (h : qR v 12) : vp_in v 12 := by
  simp only [qR, qz_lt, qz_le, qz_n0, qz_n12] at h
  exact qz_vi (by omega) (by omega)
theorem Rel_answer {g : qz_G} {v : Int32} (hR : Rel g) : Rel (qz_ui (qz_ui g 42 v.toNatClampNeg (g.1 12 0)) 130 v.toNatClampNeg (g.1 12 0)) := by
  obtain ⟨hE, hS, hB, hP, hD, hW, hZ, hK, hT, hA, hV, hC, hY, hJ, hU, hL⟩ := hR
  have hB1 := hB.1
  unfold Rel RelE RelS
  unfold RelE at hE
  unfold RelS at hS
  simp only [qz_i1, qz_i2, qz_u1, Nat.reduceEqDiff, reduceIte]
  refine ⟨?_, hS, hB, hP, hD, hW, hZ, hK, ?_, hA, hV, hC, hY, hJ, hU, hL⟩
  · simp only [hE, and_self]
  · intro k hk
    obtain ⟨h1, h2, h3⟩ := hT k hk
    refine ⟨h1, h2, ?_⟩
    simp only [qz_u1]
    by_cases e : k = v.toNatClampNeg
    · simp only [e, if_true]
      right
      simp only [qI, qz_lt, qz_n0, qz_n99999] at hB1 ⊢
      omega
    · simp only [e, if_false]
      exact h3
theorem P_answer {X : qz_X} {d : Nat} {g : qz_G} (v1 : Int32) (hR : Rel g) : qz_Pair X (d + 3) 167 257 [.int v1] g := by
  have hE := hR.1
  have hS := hR.2.1
  have hBl := hR.2.2.1.2.2.2.2.2.2.2.1
  unfold RelS at hS
  unfold RelE at hE
  refine v_X11_answer g v1 ?_
  simp only [hS, hE]
  refine ⟨fun h1 => ⟨qz_in200 h1 hBl, fun h2 => ?_, fun h2 => ?_⟩, fun h1 => ?_⟩
  · refine v_X12_answer (d := d + 2) _ v1 ?_
    simp only [qz_i1, qz_i2, qz_u1, Nat.reduceEqDiff, reduceIte]
    exact ⟨fun z => absurd z h1.1, fun _ => ⟨fun z => absurd z h1.2, fun _ => ⟨qz_in200 h1 hBl, fun _ => ⟨trivial, trivial, Rel_answer hR⟩, fun z => absurd h2 z⟩⟩⟩
  · exact v_X12_answer (d := d + 2) _ v1 ⟨fun z => absurd z h1.1, fun _ => ⟨fun z => absurd z h1.2, fun _ => ⟨qz_in200 h1 hBl, fun z => absurd z h2, fun _ => ⟨rfl, rfl, hR⟩⟩⟩⟩
  · exact v_X12_answer (d := d + 2) _ v1 ⟨fun _ => ⟨rfl, rfl, hR⟩, fun a => ⟨fun _ => ⟨rfl, rfl, hR⟩, fun b => absurd ⟨a, b⟩ h1⟩⟩
theorem Rel_source {g : qz_G} {k : Nat} {v : Int32} (hR : Rel g) (hv : qI v 0 10000) : Rel (qz_ui (qz_ui g 61 k v) 120 k v) := by
  obtain ⟨hE, hS, hB, hP, hD, hW, hZ, hK, hT, hA, hV, hC, hY, hJ, hU, hL⟩ := hR
  unfold Rel RelE RelS
  unfold RelE at hE
  unfold RelS at hS
  simp only [qz_i1, qz_i2, qz_u1, Nat.reduceEqDiff, reduceIte]
  refine ⟨?_, hS, hB, hP, hD, hW, hZ, hK, hT, hA, hV, ⟨fun j => ?_, hC.2⟩, hY, hJ, hU, hL⟩
  · simp only [hE, and_self]
  · simp only [qz_u1]
    by_cases e : j = k
    · simp only [e, if_true]; exact hv
    · simp only [e, if_false]; exact hC.1 j
theorem Rel_chance {g : qz_G} {k : Nat} {v : Int32} (hR : Rel g) (hv : qI v 0 100) : Rel (qz_ui (qz_ui g 62 k v) 121 k v) := by
  obtain ⟨hE, hS, hB, hP, hD, hW, hZ, hK, hT, hA, hV, hC, hY, hJ, hU, hL⟩ := hR
  unfold Rel RelE RelS
  unfold RelE at hE
  unfold RelS at hS
  simp only [qz_i1, qz_i2, qz_u1, Nat.reduceEqDiff, reduceIte]
  refine ⟨?_, hS, hB, hP, hD, hW, hZ, hK, hT, hA, hV, ⟨hC.1, fun j => ?_⟩, hY, hJ, hU, hL⟩
  · simp only [hE, and_self]
  · simp only [qz_u1]
    by_cases e : j = k
    · simp only [e, if_true]; exact hv
    · simp only [e, if_false]; exact hC.2 j
theorem P_source {X : qz_X} {d : Nat} {g : qz_G} (v1 v2 : Int32) (hR : Rel g) : qz_Pair X (d + 4) 163 252 [.int v1, .int v2] g := by
  refine v_X11_source g v1 v2 ⟨fun h1 => ⟨fun h2 => ?_, fun h2 => ⟨fun h3 => ?_, fun h3 => ⟨fun _ => ⟨qz_in12 h1, ?_⟩, fun z => absurd h1 z⟩⟩⟩, fun h1 => ?_⟩
  · exact v_X12_source (d := d + 2) _ v1 v2 ⟨fun _ => ⟨fun z => absurd h2 z.1, fun _ => ⟨rfl, rfl, hR⟩⟩, fun z => absurd h1 z⟩
  · exact v_X12_source (d := d + 2) _ v1 v2 ⟨fun _ => ⟨fun z => absurd h3 z.2, fun _ => ⟨rfl, rfl, hR⟩⟩, fun z => absurd h1 z⟩
  · exact v_X12_source (d := d + 2) _ v1 v2 ⟨fun _ => ⟨fun _ => ⟨qz_in12 h1, rfl, rfl, Rel_source hR ⟨h2, h3⟩⟩, fun z => absurd ⟨h2, h3⟩ z⟩, fun z => absurd h1 z⟩
  · exact v_X12_source (d := d + 2) _ v1 v2 ⟨fun z => absurd z h1, fun _ => ⟨rfl, rfl, hR⟩⟩
theorem qz_RI (v : Int32) : (qR v 8 ↔ qI v 0 7) ∧ (qR v 101 ↔ qI v 0 100) ∧ (qR v 2 ↔ qI v 0 1) ∧ (qR v 9 ↔ qI v 0 8) ∧ (qR v 10 ↔ qI v 0 9) ∧ (qR v 4 ↔ qI v 0 3) ∧ (qR v 256 ↔ qI v 0 255) ∧ (qR v 65536 ↔ qI v 0 65535) := by
  have e101 : (101 : Int32).toInt = 101 := by decide
  have e256 : (256 : Int32).toInt = 256 := by decide
  simp only [qR, qI, qz_lt, qz_le, qz_n0, qz_n8, qz_n7, e101, qz_n100, qz_n2, qz_n1, qz_n9, qz_n10, qz_n4, qz_n3, e256, qz_n255, qz_n65536, qz_n65535]
  omega
theorem qz_in96 {a b : Int32} (ha : qR a 12) (hb : qR b 8) : vp_in (8 * a + b) 96 := by
  simp only [qR, qz_lt, qz_le, qz_n0, qz_n12, qz_n8] at ha hb
  have e1 := qz_ml (a := 8) (b := a) (by rw [qz_n8]; omega) (by rw [qz_n8]; omega)
  rw [qz_n8] at e1
  have e2 := qz_ad (a := 8 * a) (b := b) (by rw [e1]; omega) (by rw [e1]; omega)
  exact qz_vi (by omega) (by omega)
theorem P_chance {X : qz_X} {d : Nat} {g : qz_G} (v1 v2 v3 : Int32) (hR : Rel g) : qz_Pair X (d + 4) 164 253 [.int v1, .int v2, .int v3] g := by
  refine v_X11_chance g v1 v2 v3 ?_
  rw [Int32.mul_comm v1 8]
  refine ⟨fun h1 => ⟨fun h2 => ⟨fun h3 => ⟨fun _ => ⟨fun _ => ⟨qz_in96 h1 h2, ?_⟩, fun z => absurd h2 z⟩, fun z => absurd h1 z⟩, fun h3 => ?_⟩, fun h2 => ?_⟩, fun h1 => ?_⟩
  · have h2' := (qz_RI v2).1.mp h2
    have h3' := (qz_RI v3).2.1.mp h3
    exact v_X12_chance (d := d + 2) _ v1 v2 v3 ⟨fun _ => ⟨fun _ => ⟨fun _ => ⟨qz_in96 h1 h2, rfl, rfl, Rel_chance hR h3'⟩, fun z => absurd h3' z⟩, fun z => absurd h2' z⟩, fun z => absurd h1 z⟩
  · have h3' : ¬ qI v3 0 100 := fun z => h3 ((qz_RI v3).2.1.mpr z)
    exact v_X12_chance (d := d + 2) _ v1 v2 v3 ⟨fun _ => ⟨fun _ => ⟨fun z => absurd z h3', fun _ => ⟨rfl, rfl, hR⟩⟩, fun _ => ⟨rfl, rfl, hR⟩⟩, fun z => absurd h1 z⟩
  · have h2' : ¬ qI v2 0 7 := fun z => h2 ((qz_RI v2).1.mpr z)
    exact v_X12_chance (d := d + 2) _ v1 v2 v3 ⟨fun _ => ⟨fun z => absurd z h2', fun _ => ⟨rfl, rfl, hR⟩⟩, fun z => absurd h1 z⟩
  · exact v_X12_chance (d := d + 2) _ v1 v2 v3 ⟨fun z => absurd z h1, fun _ => ⟨rfl, rfl, hR⟩⟩
