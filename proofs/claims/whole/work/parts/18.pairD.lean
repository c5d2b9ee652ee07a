theorem qPa_rng {part : Nat → Int32} {w : Int32} : ∀ {n : Nat}, n ≤ 4 → (∀ i : Nat, i < n → qI (part (4 * w.toNatClampNeg + i)) 1 100) → 0 ≤ (qPa part w n).toInt ∧ (qPa part w n).toInt ≤ 100 * n
  | 0, _, _ => by simp only [qPa, qz_n0]; omega
  | n + 1, hn, h => by
    obtain ⟨h1, h2⟩ := qPa_rng (n := n) (by omega) (fun i hi => h i (by omega))
    have h3 := h n (by omega)
    simp only [qI, qz_lt, qz_n1, qz_n100] at h3
    have e := qz_ad (a := qPa part w n) (b := part (4 * w.toNatClampNeg + n)) (by omega) (by omega)
    simp only [qPa, e]
    omega
theorem RelW_at {g : qz_G} (hR : Rel g) {w : Int32} (hw : qR w (g.1 12 2)) : qR (g.1 89 w.toNatClampNeg) 8 ∧ qR (g.1 90 w.toNatClampNeg) 4 ∧ qI (g.1 91 w.toNatClampNeg) 0 99999 ∧ qI (g.1 92 w.toNatClampNeg) (g.1 91 w.toNatClampNeg) 99999 ∧ qI (g.1 93 w.toNatClampNeg) 0 255 ∧ (g.1 94 w.toNatClampNeg = -1 ∨ (qR (g.1 94 w.toNatClampNeg) (g.1 12 2) ∧ (g.1 94 w.toNatClampNeg).toInt < w.toNatClampNeg)) ∧ qI (g.1 95 w.toNatClampNeg) 1 8 ∧ (g.1 94 w.toNatClampNeg = -1 → g.1 95 w.toNatClampNeg = 1) ∧ (¬ g.1 94 w.toNatClampNeg = -1 → (g.1 95 w.toNatClampNeg).toInt = (g.1 95 (g.1 94 w.toNatClampNeg).toNatClampNeg).toInt + 1) ∧ qI (g.1 96 w.toNatClampNeg) 0 4 ∧ ∀ i : Nat, (i : Int) < (g.1 96 w.toNatClampNeg).toInt → qR (g.1 97 (4 * w.toNatClampNeg + i)) (g.1 12 1) ∧ qI (g.1 98 (4 * w.toNatClampNeg + i)) 1 100 := by
  obtain ⟨hE, hS, hB, hP, hD, hW, -⟩ := hR
  refine hW w.toNatClampNeg ?_
  have c := qz_cl w
  simp only [qR, qz_lt, qz_le, qz_n0] at hw
  omega
theorem Rel_share {g : qz_G} {w o p : Int32} {k : Nat} (hR : Rel g) (hw : qR w (g.1 12 2)) (ho : qR o (g.1 12 1)) (hp : qI p 1 100) (h4 : ¬ g.1 96 w.toNatClampNeg = 4) (hk : k = 4 * w.toNatClampNeg + (g.1 96 w.toNatClampNeg).toNatClampNeg) : Rel (qz_ui (qz_ui (qz_ui (qz_ui (qz_ui (qz_ui g 30 k o) 31 k p) 29 w.toNatClampNeg ((g.1 96 w.toNatClampNeg) + 1)) 97 k o) 98 k p) 96 w.toNatClampNeg ((g.1 96 w.toNatClampNeg) + 1)) := by
  obtain ⟨-, -, -, -, -, -, -, -, -, hm, -⟩ := RelW_at hR hw
  obtain ⟨hE, hS, hB, hP, hD, hW, hZ, hK, hT, hA, hV, hC, hY, hJ, hU, hL⟩ := hR
  have cw := qz_cl w
  have hlt : (g.1 96 w.toNatClampNeg).toInt < 4 := by
    simp only [qI, qz_lt, qz_eq, qz_n0, qz_n4] at hm h4
    omega
  obtain ⟨e1, e2, e3⟩ := qz_inc (b := 4) hm (by decide) (by decide) hlt
  have hwI : (w.toNatClampNeg : Int) < (g.1 12 2).toInt := by
    simp only [qR, qz_lt, qz_le, qz_n0] at hw
    omega
  unfold Rel RelE RelS
  unfold RelE at hE
  unfold RelS at hS
  simp only [qz_i1, qz_i2, qz_u1, Nat.reduceEqDiff, reduceIte]
  refine ⟨?_, hS, hB, hP, hD, ?_, ?_, hK, hT, hA, hV, hC, hY, hJ, hU, hL⟩
  · simp only [hE, and_self]
  · intro u hu
    obtain ⟨a1, a2, a3, a4, a5, a6, a7, a8, a9, a10, a11⟩ := hW u hu
    refine ⟨a1, a2, a3, a4, a5, a6, a7, a8, a9, ?_⟩
    simp only [qz_u1]
    by_cases e : u = w.toNatClampNeg
    · subst e
      simp only [if_true]
      refine ⟨?_, fun i hi => ?_⟩
      · simp only [qI, qz_lt, qz_n0, qz_n4, e1] at a10 ⊢
        omega
      · rw [e1] at hi
        by_cases hi2 : 4 * w.toNatClampNeg + i = k
        · simp only [hi2, if_true]
          exact ⟨ho, hp⟩
        · simp only [hi2, if_false]
          exact a11 i (by omega)
    · simp only [e, if_false]
      refine ⟨a10, fun i hi => ?_⟩
      have hi2 : ¬ 4 * u + i = k := by
        simp only [qI, qz_lt, qz_n0, qz_n4] at a10
        omega
      simp only [hi2, if_false]
      exact a11 i hi
  · intro u hu
    simp only [qz_u1]
    have e : ¬ u = w.toNatClampNeg := by omega
    simp only [e, if_false]
    exact hZ u hu
theorem w_share {X : qz_X} {d : Nat} {Q : qz_Q} (g : qz_G) (v1 v2 v3 : Int32) (hw : qR v1 (g.1 12 2)) (hn : qI (g.1 12 2) 0 80) (hm : qI (g.1 96 v1.toNatClampNeg) 0 4) (h4 : ¬ g.1 96 v1.toNatClampNeg = 4) (h1 : qSh (g.1 96) (g.1 97) v1 v2 → Q g 0 0) (h2 : ¬ qSh (g.1 96) (g.1 97) v1 v2 → v3 + qPa (g.1 98) v1 (g.1 96 v1.toNatClampNeg).toNatClampNeg ≤ 100 → Q (qz_ui (qz_ui (qz_ui g 97 (4 * v1.toNatClampNeg + (g.1 96 v1.toNatClampNeg).toNatClampNeg) v2) 98 (4 * v1.toNatClampNeg + (g.1 96 v1.toNatClampNeg).toNatClampNeg) v3) 96 v1.toNatClampNeg ((g.1 96 v1.toNatClampNeg) + 1)) 1 0) (h3 : ¬ qSh (g.1 96) (g.1 97) v1 v2 → ¬ v3 + qPa (g.1 98) v1 (g.1 96 v1.toNatClampNeg).toNatClampNeg ≤ 100 → Q g 0 0) : qz_WP X (d + 2) 209 Q 44 [(0, .ref 12), (1, .int v1), (2, .int v2), (3, .int v3), (4, .int v3), (5, .int 0)] [] g := by
  have hm' := hm
  simp only [qI, qz_lt, qz_n0, qz_n4] at hm'
  have em := qz_cl (g.1 96 v1.toNatClampNeg)
  have key : ∀ (n i : Nat), (g.1 96 v1.toNatClampNeg).toInt + 1 ≤ n + i → (i : Int) ≤ (g.1 96 v1.toNatClampNeg).toInt → (∀ j : Nat, j < i → ¬ g.1 97 (4 * v1.toNatClampNeg + j) = v2) → qz_WP X (d + 2) 209 Q 44 [(0, .ref 12), (1, .int v1), (2, .int v2), (3, .int v3), (4, .int (v3 + qPa (g.1 98) v1 i)), (5, .int (nI i))] [] g := by
    intro n
    induction n with
    | zero => intro i h1 h2; omega
    | succ n ih =>
      intro i b1 b2 b3
      have ei := qz_nI (n := i) (by omega)
      refine v_X12_share_44 g v1 v2 v3 _ (nI i) ⟨qz_in80 hw hn, fun c => ?_, fun c => ?_⟩
      · simp only [qz_le, ei] at c
        have e : i = (g.1 96 v1.toNatClampNeg).toNatClampNeg := by omega
        have hns : ¬ qSh (g.1 96) (g.1 97) v1 v2 := fun ⟨j, hj, e5⟩ => b3 j (by omega) e5
        have hi : qR (g.1 96 v1.toNatClampNeg) 4 := by
          simp only [qR, qz_lt, qz_le, qz_eq, qz_n0, qz_n4] at h4 ⊢
          omega
        obtain ⟨x1, x3, x4⟩ := qz_ix4R hw hn hi (⟨by decide, by decide⟩ : qI 4 0 4)
        rw [x4] at x1 x3
        rw [e, x1]
        exact ⟨fun c2 => ⟨x3, h2 hns c2⟩, fun c2 => h3 hns c2⟩
      · have hi : qR (nI i) (g.1 96 v1.toNatClampNeg) := ⟨by simp only [qz_lt, ei, qz_n0]; omega, c⟩
        obtain ⟨x1, x3, x4⟩ := qz_ix4R hw hn hi hm
        have x2 : (nI i).toNatClampNeg = i := nI_clamp (by omega)
        rw [x2, x4] at x1
        rw [x4] at x3
        refine ⟨x3, fun e => ?_, fun e => ?_⟩
        · rw [nI_1, x1, Int32.add_assoc]
          simp only [qz_le, ei] at c
          refine ih (i + 1) (by omega) (by omega) (fun j hj => ?_)
          by_cases hji : j = i
          · subst hji; rw [← x1]; exact e
          · exact b3 j (by omega)
        · rw [x1] at e
          simp only [qz_le, ei] at c
          exact h1 ⟨i, by omega, e⟩
  have h0 := key ((g.1 96 v1.toNatClampNeg).toInt.toNat + 1) 0 (by omega) (by omega) (fun j hj => by omega)
  simp only [qPa, Int32.add_zero] at h0
  exact h0
theorem P_share {X : qz_X} {d : Nat} {g : qz_G} (v1 v2 v3 : Int32) (hR : Rel g) : qz_Pair X (d + 5) 156 209 [.int v1, .int v2, .int v3] g := by
  have hE := hR.1
  have hS := hR.2.1
  have hBw := hR.2.2.1.2.2.1
  unfold RelS at hS
  unfold RelE at hE
  refine v_X11_share g v1 v2 v3 ?_
  simp only [hS, hE]
  refine ⟨fun h1 => ⟨fun h2 => ⟨fun _ => ⟨qz_in80 h1 hBw, fun h3 => ?_, fun h3 => ⟨h1, hBw, ?_⟩⟩, fun z => absurd h1 z⟩, fun h2 => ?_⟩, fun h1 => ?_⟩
  · obtain ⟨-, -, -, -, -, -, -, -, -, hm, -⟩ := RelW_at hR h1
    have e4 : g.1 96 v1.toNatClampNeg = 4 := by
      simp only [qI, qz_lt, qz_le, qz_eq, qz_n0, qz_n4] at hm h3 ⊢
      omega
    exact v_X12_share (d := d + 3) _ v1 v2 v3 ⟨fun _ => ⟨fun _ => ⟨fun _ => ⟨qz_in80 h1 hBw, fun z => absurd e4 z, fun _ => ⟨rfl, rfl, hR⟩⟩, fun _ => ⟨rfl, rfl, hR⟩⟩, fun z => absurd h2 z⟩, fun z => absurd h1 z⟩
  · obtain ⟨-, -, -, -, -, -, -, -, -, hm, hs⟩ := RelW_at hR h1
    have n4 : ¬ g.1 96 v1.toNatClampNeg = 4 := by
      simp only [qz_le, qz_eq, qz_n4] at h3 ⊢
      omega
    have hpr := qPa_rng (part := g.1 98) (w := v1) (n := (g.1 96 v1.toNatClampNeg).toNatClampNeg) (by
      have := qz_cl (g.1 96 v1.toNatClampNeg)
      simp only [qI, qz_lt, qz_n0, qz_n4] at hm
      omega) (fun i hi => (hs i (by
      have := qz_cl (g.1 96 v1.toNatClampNeg)
      omega)).2)
    have hb4 : ((g.1 96 v1.toNatClampNeg).toNatClampNeg : Int) ≤ 4 := by
      have := qz_cl (g.1 96 v1.toNatClampNeg)
      simp only [qI, qz_lt, qz_n0, qz_n4] at hm
      omega
    have e100 : (100 - qPa (g.1 98) v1 (g.1 96 v1.toNatClampNeg).toNatClampNeg).toInt = 100 - (qPa (g.1 98) v1 (g.1 96 v1.toNatClampNeg).toNatClampNeg).toInt := by
      have := qz_sb (a := 100) (b := qPa (g.1 98) v1 (g.1 96 v1.toNatClampNeg).toNatClampNeg) (by rw [qz_n100]; omega) (by rw [qz_n100]; omega)
      rw [qz_n100] at this
      exact this
    have hi4 : qR (g.1 96 v1.toNatClampNeg) 4 := by
      simp only [qR, qI, qz_lt, qz_le, qz_n0, qz_n4] at hm h3 ⊢
      omega
    obtain ⟨x1, x3, x4⟩ := qz_ix4R h1 hBw hi4 (⟨by decide, by decide⟩ : qI 4 0 4)
    refine ⟨hm, fun h5 => ?_, fun h5 => ⟨fun h6 => ?_, fun h6 => ⟨h1, hBw, hm, fun h7 => ⟨x3, ?_⟩, fun h7 => ?_⟩⟩⟩
    · refine v_X12_share (d := d + 3) _ v1 v2 v3 ⟨fun _ => ⟨fun _ => ⟨fun _ => ⟨qz_in80 h1 hBw, fun _ => ?_, fun _ => ⟨rfl, rfl, hR⟩⟩, fun _ => ⟨rfl, rfl, hR⟩⟩, fun z => absurd h2 z⟩, fun z => absurd h1 z⟩
      exact w_share g v1 v2 v3 h1 hBw hm n4 (fun _ => ⟨rfl, rfl, hR⟩) (fun z => absurd h5 z) (fun z => absurd h5 z)
    · exact v_X12_share (d := d + 3) _ v1 v2 v3 ⟨fun _ => ⟨fun _ => ⟨fun z => absurd h6 z.1, fun _ => ⟨rfl, rfl, hR⟩⟩, fun z => absurd h2 z⟩, fun z => absurd h1 z⟩
    · have hq : qI v3 1 100 := by
        simp only [qI, qz_lt, qz_le, qz_n1, qz_n100, e100] at h6 h7 ⊢
        omega
      have hsum : v3 + qPa (g.1 98) v1 (g.1 96 v1.toNatClampNeg).toNatClampNeg ≤ 100 := by
        simp only [qI, qz_lt, qz_le, qz_n1, qz_n100, e100] at hq h7 ⊢
        rw [qz_ad (by omega) (by omega)]
        omega
      refine v_X12_share (d := d + 3) _ v1 v2 v3 ?_
      simp only [qz_i1, qz_i2, qz_u1, Nat.reduceEqDiff, reduceIte]
      refine ⟨fun _ => ⟨fun _ => ⟨fun _ => ⟨qz_in80 h1 hBw, fun _ => ?_, fun z => absurd z n4⟩, fun z => absurd hq z⟩, fun z => absurd h2 z⟩, fun z => absurd h1 z⟩
      refine w_share _ v1 v2 v3 ?_ ?_ ?_ ?_ ?_ ?_ ?_
      all_goals simp only [qz_i1, qz_i2, qz_u1, Nat.reduceEqDiff, reduceIte]
      · exact h1
      · exact hBw
      · exact hm
      · exact n4
      · exact fun z => absurd z h5
      · refine fun _ _ => ⟨trivial, trivial, ?_⟩
        rw [x1]
        exact Rel_share hR h1 h2 hq n4 rfl
      · exact fun _ z => absurd hsum z
    · refine v_X12_share (d := d + 3) _ v1 v2 v3 ⟨fun _ => ⟨fun _ => ⟨fun hq => ⟨qz_in80 h1 hBw, fun _ => ?_, fun _ => ⟨rfl, rfl, hR⟩⟩, fun _ => ⟨rfl, rfl, hR⟩⟩, fun z => absurd h2 z⟩, fun z => absurd h1 z⟩
      refine w_share g v1 v2 v3 h1 hBw hm n4 (fun _ => ⟨rfl, rfl, hR⟩) (fun _ z => ?_) (fun _ _ => ⟨rfl, rfl, hR⟩)
      exfalso
      simp only [qI, qz_lt, qz_le, qz_n1, qz_n100, e100] at hq h7 z
      rw [qz_ad (by omega) (by omega)] at z
      omega
  · exact v_X12_share (d := d + 3) _ v1 v2 v3 ⟨fun _ => ⟨fun z => absurd z h2, fun _ => ⟨rfl, rfl, hR⟩⟩, fun z => absurd h1 z⟩
  · exact v_X12_share (d := d + 3) _ v1 v2 v3 ⟨fun z => absurd z h1, fun _ => ⟨rfl, rfl, hR⟩⟩
