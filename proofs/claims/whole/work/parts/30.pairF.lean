theorem w_nobody {X : qz_X} {d : Nat} {Q : qz_Q} (g : qz_G) (v1 v2 v3 : Int32) (hO : HO (g.1 12 2) (g.1 12 1) (g.1 81) (g.1 96) (g.1 97)) (hw : qR v1 (g.1 12 2)) (h2 : qI (g.1 12 55) 0 300) (h3 : qI (g.1 12 56) 0 200) (ht : (∃ k : Nat, (k : Int) < (g.1 96 v1.toNatClampNeg).toInt ∧ qFd (g.1 84) (g.1 12 55) (g.1 125) (g.1 124) (g.1 126) (g.1 12 56) (g.1 127) (g.1 130) (qHn (g.1 97) (g.1 81) (g.1 82) (g.1 83) v1 k v2 v3) v2 v3) → Q g 0 0) (hf : ¬ (∃ k : Nat, (k : Int) < (g.1 96 v1.toNatClampNeg).toInt ∧ qFd (g.1 84) (g.1 12 55) (g.1 125) (g.1 124) (g.1 126) (g.1 12 56) (g.1 127) (g.1 130) (qHn (g.1 97) (g.1 81) (g.1 82) (g.1 83) v1 k v2 v3) v2 v3) → Q g 1 0) : qz_WP X (d + 3) 267 Q 27 [(0, .ref 12), (1, .int v1), (2, .int v2), (3, .int v3), (4, .int 0)] [] g := by
  have hm := qI_0 (hO.2.2.2 v1 hw).1 qz_n4
  refine qz_srch (W := fun v => qz_WP X (d + 3) 267 Q 27 [(0, .ref 12), (1, .int v1), (2, .int v2), (3, .int v3), (4, .int v)] [] g) (n := g.1 96 v1.toNatClampNeg) (B := 4) hm.1 hm.2 (by decide) (P := fun k => qFd (g.1 84) (g.1 12 55) (g.1 125) (g.1 124) (g.1 126) (g.1 12 56) (g.1 127) (g.1 130) (qHn (g.1 97) (g.1 81) (g.1 82) (g.1 83) v1 k v2 v3) v2 v3) (fun v hF hin hT hW => ?_) ht hf
  refine v_X12_nobody_27 g v1 v2 v3 v ⟨qz_in80 hw hO.1, hF, fun c => ?_⟩
  have hr : qR v (g.1 96 v1.toNatClampNeg) := by
    refine ⟨?_, c⟩
    have h5 := vp_in_iff.mp (hin c)
    simp only [qz_lt, qz_n0]
    omega
  exact ⟨hO, hw, hr, qR_40 (qHd_rng hO hw hr) hO.2.1, h2, h3, fun e => hT c e, fun e => hW c e⟩
theorem P_nobody {X : qz_X} {d : Nat} {g : qz_G} (v1 v2 v3 : Int32) (hR : Rel g) : qz_Pair X (d + 5) 171 267 [.int v1, .int v2, .int v3] g := by
  have hE := hR.1
  have hS := hR.2.1
  have hB := hR.2.2.1
  have hO := HO_of hR
  unfold RelS at hS
  unfold RelE at hE
  have hl := hB.2.2.2.2.2.2.1
  have ht := hB.2.2.2.2.2.2.2.1
  refine v_X11_nobody g v1 v2 v3 ?_
  simp only [hS, hE]
  have key : qR v1 (g.1 12 2) → ((qCt (fun k => qFd (g.1 84) (g.1 12 55) (g.1 125) (g.1 124) (g.1 126) (g.1 12 56) (g.1 127) (g.1 130) (qHn (g.1 97) (g.1 81) (g.1 82) (g.1 83) v1 k v2 v3) v2 v3) (g.1 96 v1.toNatClampNeg).toNatClampNeg) = 0 ↔ ¬ ∃ k : Nat, (k : Int) < (g.1 96 v1.toNatClampNeg).toInt ∧ qFd (g.1 84) (g.1 12 55) (g.1 125) (g.1 124) (g.1 126) (g.1 12 56) (g.1 127) (g.1 130) (qHn (g.1 97) (g.1 81) (g.1 82) (g.1 83) v1 k v2 v3) v2 v3) := by
    intro hw
    have hm := qI_0 (hO.2.2.2 v1 hw).1 qz_n4
    have c := qz_cl (g.1 96 v1.toNatClampNeg)
    have h5 := (qCt_rng (fun k => qFd (g.1 84) (g.1 12 55) (g.1 125) (g.1 124) (g.1 126) (g.1 12 56) (g.1 127) (g.1 130) (qHn (g.1 97) (g.1 81) (g.1 82) (g.1 83) v1 k v2 v3) v2 v3) (g.1 96 v1.toNatClampNeg).toNatClampNeg (by omega)).2.2
    rw [qz_eq, qz_n0, h5]
    constructor
    · intro z ⟨k, h1, h2⟩; exact z ⟨k, by omega, h2⟩
    · intro z ⟨k, h1, h2⟩; exact z ⟨k, by omega, h2⟩
  refine ⟨fun h1 => ⟨fun h2 => ⟨fun h3 => ⟨hO, h1, hl, ht, fun h4 => ?_, fun h4 => ?_⟩, fun h3 => ?_⟩, fun h2 => ?_⟩, fun h1 => ?_⟩
  · rw [key h1] at h4
    exact v_X12_nobody (d := d + 2) _ v1 v2 v3 ⟨fun _ => ⟨fun _ => ⟨fun _ => w_nobody g v1 v2 v3 hO h1 hl ht (fun _ => ⟨rfl, rfl, hR⟩) (fun z => absurd z h4), fun z => absurd h3 z⟩, fun z => absurd h2 z⟩, fun z => absurd h1 z⟩
  · rw [key h1] at h4
    exact v_X12_nobody (d := d + 2) _ v1 v2 v3 ⟨fun _ => ⟨fun _ => ⟨fun _ => w_nobody g v1 v2 v3 hO h1 hl ht (fun z => absurd z h4) (fun _ => ⟨rfl, rfl, hR⟩), fun z => absurd h3 z⟩, fun z => absurd h2 z⟩, fun z => absurd h1 z⟩
  · exact v_X12_nobody (d := d + 2) _ v1 v2 v3 ⟨fun _ => ⟨fun _ => ⟨fun z => absurd z h3, fun _ => ⟨rfl, rfl, hR⟩⟩, fun z => absurd h2 z⟩, fun z => absurd h1 z⟩
  · exact v_X12_nobody (d := d + 2) _ v1 v2 v3 ⟨fun _ => ⟨fun z => absurd z h2, fun _ => ⟨rfl, rfl, hR⟩⟩, fun z => absurd h1 z⟩
  · exact v_X12_nobody (d := d + 2) _ v1 v2 v3 ⟨fun z => absurd z h1, fun _ => ⟨rfl, rfl, hR⟩⟩
theorem qz_in100 {v n : Int32} (h : qR v n) (hn : qI n 0 100) : vp_in v 100 := by
  simp only [qR, qI, qz_lt, qz_le, qz_n0, qz_n100] at h hn
  exact qz_vi (by omega) (by omega)
theorem P_leave {X : qz_X} {d : Nat} {g : qz_G} (v1 v2 : Int32) (hR : Rel g) : qz_Pair X (d + 3) 184 291 [.int v1, .int v2] g := by
  have hE := hR.1
  have hS := hR.2.1
  have hb := hR.2.2.1.2.2.2.2.2.2.2.2.2.1
  unfold RelS at hS
  unfold RelE at hE
  have hok : ∀ (c : Int32) (h1 : qR v1 (g.1 12 72)), (v2 = 0 → c = g.1 134 v1.toNatClampNeg) → (v2 = 1 → c = g.1 135 v1.toNatClampNeg) → (v2 = 2 → c = g.1 136 v1.toNatClampNeg) → (v2 = 3 → c = g.1 137 v1.toNatClampNeg) → (v2 = 4 → c = g.1 138 v1.toNatClampNeg) → (v2 = 5 → c = g.1 139 v1.toNatClampNeg) → (v2 = 6 → c = g.1 140 v1.toNatClampNeg) → (v2 = 7 → g.1 141 v1.toNatClampNeg = 0 → c = 0) → (v2 = 7 → ¬ g.1 141 v1.toNatClampNeg = 0 → c = 1) → (v2.toInt < 0 ∨ 7 < v2.toInt → c = -1) → qz_Call X (d + 3) 291 [.ref 12, .int v1, .int v2] g (fun g2 w l2 => c = w ∧ (0 : Int64) = l2 ∧ Rel g2) := by
    intro c h1 a0 a1 a2 a3 a4 a5 a6 a7 a8 a9
    have hv := qz_in100 h1 hb
    exact v_X12_leave (d := d + 1) _ v1 v2 ⟨fun _ => ⟨fun z => ⟨a9 z, rfl, hR⟩, fun _ => ⟨fun z => ⟨hv, a0 z, rfl, hR⟩, fun z => ⟨hv, a1 z, rfl, hR⟩, fun z => ⟨hv, a2 z, rfl, hR⟩, fun z => ⟨hv, a3 z, rfl, hR⟩, fun z => ⟨hv, a4 z, rfl, hR⟩, fun z => ⟨hv, a5 z, rfl, hR⟩, fun z => ⟨hv, a6 z, rfl, hR⟩, fun z => ⟨hv, fun y => ⟨a7 z y, rfl, hR⟩, fun y => ⟨a8 z y, rfl, hR⟩⟩, trivial⟩⟩, fun z => absurd h1 z⟩
  refine v_X11_leave g v1 v2 ?_
  simp only [hS, hE]
  refine ⟨fun h1 => ⟨fun h2 => ?_, fun h2 => ⟨fun h3 => ⟨qz_in100 h1 hb, ?_⟩, fun h3 => ⟨qz_in100 h1 hb, ?_⟩, fun h3 => ⟨qz_in100 h1 hb, ?_⟩, fun h3 => ⟨qz_in100 h1 hb, ?_⟩, fun h3 => ⟨qz_in100 h1 hb, ?_⟩, fun h3 => ⟨qz_in100 h1 hb, ?_⟩, fun h3 => ⟨qz_in100 h1 hb, ?_⟩, fun h3 => ⟨qz_in100 h1 hb, fun h4 => ?_, fun h4 => ?_⟩, trivial⟩⟩, fun h1 => ?_⟩
  · refine hok _ h1 ?_ ?_ ?_ ?_ ?_ ?_ ?_ ?_ ?_ (fun _ => rfl)
    all_goals (intro e; exfalso; rw [e] at h2; revert h2; decide)
  all_goals first
    | (refine hok _ h1 ?_ ?_ ?_ ?_ ?_ ?_ ?_ ?_ ?_ ?_
       all_goals first | (intro _; rfl; done) | (intro _ z; exact absurd z h4) | (intro _ z; exact absurd h4 z) | (intro _ _; rfl; done) | (intro z; exact absurd z h2) | (intro e; exfalso; rw [h3] at e; revert e; decide) | (intro e; exfalso; rw [h3] at e; revert e; decide))
    | exact v_X12_leave (d := d + 1) _ v1 v2 ⟨fun z => absurd z h1, fun _ => ⟨rfl, rfl, hR⟩⟩
