theorem P_like {X : qz_X} {d : Nat} {g : qz_G} (v1 v2 v3 : Int32) (hR : Rel g) : qz_Pair X (d + 3) 179 284 [.int v1, .int v2, .int v3] g := by
  have hE := hR.1
  have hS := hR.2.1
  have hbw := hR.2.2.1.2.2.1
  unfold RelS at hS
  unfold RelE at hE
  have r3 := (qz_RI v3).2.2.2.1
  refine v_X11_like g v1 v2 v3 ?_
  simp only [hS, hE]
  refine ⟨fun h1 => ⟨fun h2 => ⟨fun h3 => ?_, fun h3 => ⟨fun h4 => ⟨hbw, (RelW_at hR h1).2.2.2.2.1, (RelW_at hR h2).2.2.2.2.1, fun h5 => ?_, fun h5 => ?_⟩, fun h4 => ?_⟩⟩, fun h2 => ?_⟩, fun h1 => ?_⟩
  · exact v_X12_like (d := d + 1) _ v1 v2 v3 ⟨fun _ => ⟨fun _ => ⟨fun _ => ⟨rfl, rfl, hR⟩, fun z => absurd h3 z⟩, fun z => absurd h2 z⟩, fun z => absurd h1 z⟩
  · exact v_X12_like (d := d + 1) _ v1 v2 v3 ⟨fun _ => ⟨fun _ => ⟨fun z => absurd z h3, fun _ => ⟨fun _ => ⟨hbw, fun _ => ⟨rfl, rfl, hR⟩, fun z => absurd h5 z⟩, fun z => absurd (r3.mp h4) z⟩⟩, fun z => absurd h2 z⟩, fun z => absurd h1 z⟩
  · exact v_X12_like (d := d + 1) _ v1 v2 v3 ⟨fun _ => ⟨fun _ => ⟨fun z => absurd z h3, fun _ => ⟨fun _ => ⟨hbw, fun z => absurd z h5, fun _ => ⟨rfl, rfl, hR⟩⟩, fun z => absurd (r3.mp h4) z⟩⟩, fun z => absurd h2 z⟩, fun z => absurd h1 z⟩
  · exact v_X12_like (d := d + 1) _ v1 v2 v3 ⟨fun _ => ⟨fun _ => ⟨fun z => absurd z h3, fun _ => ⟨fun z => absurd (r3.mpr z) h4, fun _ => ⟨rfl, rfl, hR⟩⟩⟩, fun z => absurd h2 z⟩, fun z => absurd h1 z⟩
  · exact v_X12_like (d := d + 1) _ v1 v2 v3 ⟨fun _ => ⟨fun z => absurd z h2, fun _ => ⟨rfl, rfl, hR⟩⟩, fun z => absurd h1 z⟩
  · exact v_X12_like (d := d + 1) _ v1 v2 v3 ⟨fun z => absurd z h1, fun _ => ⟨rfl, rfl, hR⟩⟩
theorem qz_rsub {v c n : Int32} (hc : 0 ≤ c.toInt) (hc2 : c.toInt ≤ 1000) (hn : n.toInt ≤ 1000) : (qR (v - c) n ↔ c.toInt ≤ v.toInt ∧ v.toInt < c.toInt + n.toInt) ∧ (c.toInt ≤ v.toInt → (v - c).toInt = v.toInt - c.toInt) := by
  have r := qz_rg v
  by_cases h : -2147483648 ≤ v.toInt - c.toInt
  · have e := qz_sb (a := v) (b := c) h (by omega)
    simp only [qR, qz_lt, qz_le, qz_n0, e]
    exact ⟨by omega, fun _ => trivial⟩
  · have e : (v - c).toInt = v.toInt - c.toInt + 4294967296 := by
      rw [Int32.toInt_sub]
      show (v.toInt - c.toInt).bmod 4294967296 = _
      rw [Int.bmod_def]
      split <;> omega
    simp only [qR, qz_lt, qz_le, qz_n0, e]
    exact ⟨by omega, fun _ => by omega⟩
theorem P_count {X : qz_X} {d : Nat} {g : qz_G} (v1 : Int32) (hR : Rel g) : qz_Pair X (d + 4) 185 293 [.int v1] g := by
  have hE := hR.1
  have hS := hR.2.1
  have hB := hR.2.2.1
  have hbw := hB.2.2.1
  have hbl := hB.2.2.2.2.2.1
  have hJ : RelJ (g.1 32) (g.1 146) := hR.2.2.2.2.2.2.2.2.2.2.2.2.2.1
  unfold RelS at hS
  unfold RelE at hE
  have hbw' := qI_0 hbw qz_n80
  have hbl' := qI_0 hbl qz_n20
  obtain ⟨a10, b10⟩ := qz_rsub (v := v1) (c := 10) (n := 4) (by decide) (by decide) (by decide)
  obtain ⟨a20, b20⟩ := qz_rsub (v := v1) (c := 20) (n := 20) (by decide) (by decide) (by decide)
  obtain ⟨a40, b40⟩ := qz_rsub (v := v1) (c := 40) (n := 80) (by decide) (by decide) (by decide)
  obtain ⟨a40w, -⟩ := qz_rsub (v := v1) (c := 40) (n := g.1 12 2) (by decide) (by decide) (by omega)
  have e19 : (19 + g.1 12 41).toInt = 19 + (g.1 12 41).toInt := by
    have := qz_ad (a := 19) (b := g.1 12 41) (by rw [qz_n19]; omega) (by rw [qz_n19]; omega)
    rw [qz_n19] at this
    exact this
  have e39 : (39 + g.1 12 2).toInt = 39 + (g.1 12 2).toInt := by
    have := qz_ad (a := 39) (b := g.1 12 2) (by rw [qz_n39]; omega) (by rw [qz_n39]; omega)
    rw [qz_n39] at this
    exact this
  have i10 : qI v1 10 13 ↔ 10 ≤ v1.toInt ∧ v1.toInt ≤ 13 := by simp only [qI, qz_lt, qz_n10, qz_n13]; omega
  have i20 : qI v1 20 (19 + g.1 12 41) ↔ 20 ≤ v1.toInt ∧ v1.toInt ≤ 19 + (g.1 12 41).toInt := by simp only [qI, qz_lt, qz_n20, e19]; omega
  have i40 : qI v1 40 (39 + g.1 12 2) ↔ 40 ≤ v1.toInt ∧ v1.toInt ≤ 39 + (g.1 12 2).toInt := by simp only [qI, qz_lt, qz_n40, e39]; omega
  rw [qz_n10, qz_n4] at a10
  rw [qz_n10] at b10
  rw [qz_n20] at a20 b20
  rw [qz_n40, qz_n80] at a40
  rw [qz_n40] at b40 a40w
  have none_ : (v1.toInt < 0 ∨ 8 < v1.toInt) → ¬ qI v1 10 13 → ¬ qI v1 20 (19 + g.1 12 41) → ¬ qI v1 40 (39 + g.1 12 2) → qz_Call X (d + 4) 293 [.ref 12, .int v1] g (fun g2 w l2 => (-1 : Int32) = w ∧ (0 : Int64) = l2 ∧ Rel g2) := fun z1 z2 z3 z4 => v_X12_count (d := d + 2) _ v1 ⟨fun _ => ⟨fun z => absurd z z2, fun _ => ⟨fun z => absurd z z3, fun _ => ⟨fun z => absurd z z4, fun _ => ⟨rfl, rfl, hR⟩⟩⟩⟩, fun z => absurd z1 z⟩
  have sc : ∀ c : Int32, ¬ (v1.toInt < 0 ∨ 8 < v1.toInt) → (v1 = 0 → c = g.1 12 0) → (v1 = 1 → c = g.1 12 1) → (v1 = 2 → c = g.1 12 2) → (v1 = 3 → c = g.1 12 41) → (v1 = 4 → c = g.1 12 55) → (v1 = 5 → c = g.1 12 56) → (v1 = 6 → c = g.1 12 72) → (v1 = 7 → c = g.1 12 73) → (v1 = 8 → c = g.1 12 25) → qz_Call X (d + 4) 293 [.ref 12, .int v1] g (fun g2 w l2 => c = w ∧ (0 : Int64) = l2 ∧ Rel g2) := fun c z0 c0 c1 c2 c3 c4 c5 c6 c7 c8 => v_X12_count (d := d + 2) _ v1 ⟨fun z => absurd z z0, fun _ => ⟨fun z => ⟨c0 z, rfl, hR⟩, fun z => ⟨c1 z, rfl, hR⟩, fun z => ⟨c2 z, rfl, hR⟩, fun z => ⟨c3 z, rfl, hR⟩, fun z => ⟨c4 z, rfl, hR⟩, fun z => ⟨c5 z, rfl, hR⟩, fun z => ⟨c6 z, rfl, hR⟩, fun z => ⟨c7 z, rfl, hR⟩, fun z => ⟨c8 z, rfl, hR⟩, trivial⟩⟩
  refine v_X11_count g v1 ?_
  simp only [hS, hE]
  refine ⟨fun h1 => ⟨hbw, ?_⟩, fun h1 => ⟨fun h2 => ⟨fun z => absurd z h2.1, fun _ => ⟨fun h3 => ?_, fun h3 => ⟨?_, ?_⟩⟩⟩, fun h2 => ⟨fun h3 => ⟨fun h4 => ⟨hbw, ?_⟩, fun h4 => ?_⟩, fun h3 => ⟨fun h4 => ?_, fun h4 => ⟨fun h5 => ?_, fun h5 => ?_, fun h5 => ?_, fun h5 => ?_, fun h5 => ?_, fun h5 => ?_, fun h5 => ?_, fun h5 => ?_, fun h5 => ?_, trivial⟩⟩⟩⟩⟩
  · have hc : qCt (fun k => ¬ ((g.1 32 k) >>> ((v1 - 10) &&& 31)) &&& 1 = 0) (g.1 12 2).toNatClampNeg = qCt (fun k => ¬ g.1 146 (80 * (v1 - 10).toNatClampNeg + k) = 0) (g.1 12 2).toNatClampNeg := by
      refine qCt_congr _ (fun k hk => ?_)
      have c := qz_cl (g.1 12 2)
      have c2 := qz_cl (v1 - 10)
      have h1' := h1
      simp only [qR, qz_lt, qz_le, qz_n0, qz_n4] at h1'
      have hj := hJ k (v1 - 10).toNatClampNeg (by omega) (by omega)
      rw [qz_self h1.1] at hj
      exact not_congr hj
    rw [hc]
    have h1' := a10.mp h1
    exact v_X12_count (d := d + 2) _ v1 ⟨fun _ => ⟨fun _ => ⟨hbw, h1, rfl, rfl, hR⟩, fun z => absurd (i10.mpr ⟨h1'.1, by omega⟩) z⟩, fun z => absurd (Or.inr (by omega)) z⟩
  · have h2' := a20.mp h2
    have e := b20 h2'.1
    simp only [qz_le, e] at h3
    exact none_ (Or.inr (by omega)) (fun z => by have := i10.mp z; omega) (fun z => by have := i20.mp z; omega) (fun z => by have := i40.mp z; omega)
  · have h2' := a20.mp h2
    have e := b20 h2'.1
    exact qz_vi (by omega) (by omega)
  · have h2' := a20.mp h2
    have e := b20 h2'.1
    simp only [qz_le, e] at h3
    have hv : vp_in (v1 - 20) 20 := qz_vi (by omega) (by omega)
    exact v_X12_count (d := d + 2) _ v1 ⟨fun _ => ⟨fun z => by have := i10.mp z; omega, fun _ => ⟨fun _ => ⟨hv, rfl, rfl, hR⟩, fun z => absurd (i20.mpr ⟨h2'.1, by omega⟩) z⟩⟩, fun z => absurd (Or.inr (by omega)) z⟩
  · have h3' := a40.mp h3
    have h4' := a40w.mp h4
    have e := b40 h3'.1
    have hv : vp_in (v1 - 40) 80 := qz_vi (by omega) (by omega)
    exact v_X12_count (d := d + 2) _ v1 ⟨fun _ => ⟨fun z => by have := i10.mp z; omega, fun _ => ⟨fun z => by have := i20.mp z; omega, fun _ => ⟨fun _ => ⟨hv, rfl, rfl, hR⟩, fun z => absurd (i40.mpr ⟨h4'.1, by omega⟩) z⟩⟩⟩, fun z => absurd (Or.inr (by omega)) z⟩
  · have h3' := a40.mp h3
    have h4' := not_congr a40w |>.mp h4
    exact none_ (Or.inr (by omega)) (fun z => by have := i10.mp z; omega) (fun z => by have := i20.mp z; omega) (fun z => by have := i40.mp z; omega)
  · have h1' := not_congr a10 |>.mp h1
    have h2' := not_congr a20 |>.mp h2
    have h3' := not_congr a40 |>.mp h3
    exact none_ h4 (fun z => by have := i10.mp z; omega) (fun z => by have := i20.mp z; omega) (fun z => by have := i40.mp z; omega)
  all_goals (refine sc _ h4 ?_ ?_ ?_ ?_ ?_ ?_ ?_ ?_ ?_; all_goals first | (intro _; rfl; done) | (intro e; exfalso; rw [h5] at e; revert e; decide))
