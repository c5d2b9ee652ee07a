/-! who is found and has not agreed -/
def qUn (came : Nat → Int32) (looks : Int32) (who day told : Nat → Int32) (letters : Int32) (lwho ans : Nat → Int32) (agreed : Int32) (aw ak ao many who2 part from_ told2 : Nat → Int32) (w d t : Int32) : Prop :=
  qEx (many w.toNatClampNeg) (fun i => qFd came looks who day told letters lwho ans (qHn who2 part from_ told2 w i d t) d t ∧ ¬ qEx agreed (fun k => aw k = qHn who2 part from_ told2 w i d t ∧ ak k = w ∧ ¬ d < ao k))
theorem qz_inR {v : Int32} {n : Int32} {B : Nat} (h : vp_in v B) (c : ¬ n ≤ v) : qR v n := by
  refine ⟨?_, c⟩
  have h5 := vp_in_iff.mp h
  simp only [qz_lt, qz_n0]
  omega
theorem c_X1_isUnheeded {X : qz_X} {d : Nat} {Q : qz_Q} (g : qz_G) (v1 v2 v3 : Int32) (h : (HO (g.1 3 12) (g.1 2 8) (g.1 15) (g.1 29) (g.1 30)) ∧ (qR v1 (g.1 3 12)) ∧ (qI (g.1 4 13) 0 300) ∧ (qI (g.1 4 14) 0 200) ∧ (qI (g.1 4 15) 0 200) ∧ (qUn (g.1 46) (g.1 4 13) (g.1 37) (g.1 36) (g.1 38) (g.1 4 14) (g.1 39) (g.1 42) (g.1 4 15) (g.1 43) (g.1 44) (g.1 45) (g.1 29) (g.1 30) (g.1 15) (g.1 16) (g.1 17) v1 v2 v3 → Q g 1 0) ∧ (¬ qUn (g.1 46) (g.1 4 13) (g.1 37) (g.1 36) (g.1 38) (g.1 4 14) (g.1 39) (g.1 42) (g.1 4 15) (g.1 43) (g.1 44) (g.1 45) (g.1 29) (g.1 30) (g.1 15) (g.1 16) (g.1 17) v1 v2 v3 → Q g 0 0)) : qz_Call X (d + 4) 8 [.ref 5, .int v1, .int v2, .int v3] g Q := by
  obtain ⟨hO, hw, h2, h3, h4, ht, hf⟩ := h
  have hm := qI_0 (hO.2.2.2 v1 hw).1 qz_n4
  refine v_X1_isUnheeded g v1 v2 v3 ?_
  refine qz_srch (W := fun v => qz_WP X (d + 4) 8 Q 3 [(0, .ref 5), (1, .int v1), (2, .int v2), (3, .int v3), (4, .int v)] [] g) (n := g.1 29 v1.toNatClampNeg) (B := 4) hm.1 hm.2 (by decide) (fun v hF hin hT hW => ?_) ht hf
  refine v_X1_isUnheeded_3 g v1 v2 v3 v ⟨hw, hO.1, hF, fun c => ?_⟩
  have hr := qz_inR (hin c) c
  exact ⟨hO, fun _ => ⟨qR_40 (qHd_rng hO hw hr) hO.2.1, h2, h3, fun e => ⟨h4, fun e2 => hW c (fun z => z.2 e2), fun e2 => hT c ⟨e, e2⟩⟩, fun e => hW c (fun z => e z.1)⟩, fun z => absurd hr z⟩
theorem c_X12_isWrong {X : qz_X} {d : Nat} {Q : qz_Q} (g : qz_G) (v1 : Int32) (h : (HO (g.1 12 2) (g.1 12 1) (g.1 81) (g.1 96) (g.1 97)) ∧ (qR v1 100) ∧ (qR (g.1 135 v1.toNatClampNeg) (g.1 12 2)) ∧ (qI (g.1 12 55) 0 300) ∧ (qI (g.1 12 56) 0 200) ∧ (qI (g.1 12 71) 0 200) ∧ (qUn (g.1 84) (g.1 12 55) (g.1 125) (g.1 124) (g.1 126) (g.1 12 56) (g.1 127) (g.1 130) (g.1 12 71) (g.1 131) (g.1 132) (g.1 133) (g.1 96) (g.1 97) (g.1 81) (g.1 82) (g.1 83) (g.1 135 v1.toNatClampNeg) (g.1 138 v1.toNatClampNeg) (g.1 12 0) → Q g 1 0) ∧ (¬ qUn (g.1 84) (g.1 12 55) (g.1 125) (g.1 124) (g.1 126) (g.1 12 56) (g.1 127) (g.1 130) (g.1 12 71) (g.1 131) (g.1 132) (g.1 133) (g.1 96) (g.1 97) (g.1 81) (g.1 82) (g.1 83) (g.1 135 v1.toNatClampNeg) (g.1 138 v1.toNatClampNeg) (g.1 12 0) → Q g 0 0)) : qz_Call X (d + 3) 288 [.ref 12, .int v1] g Q := by
  obtain ⟨hO, h1, hw, h2, h3, h4, ht, hf⟩ := h
  have hm := qI_0 (hO.2.2.2 _ hw).1 qz_n4
  refine v_X12_isWrong g v1 ⟨qz_in100 h1 ⟨by decide, by decide⟩, ?_⟩
  refine qz_srch (W := fun v => qz_WP X (d + 3) 288 Q 17 [(0, .ref 12), (2, .int (g.1 135 v1.toNatClampNeg)), (3, .int (g.1 138 v1.toNatClampNeg)), (4, .int v)] [] g) (n := g.1 96 (g.1 135 v1.toNatClampNeg).toNatClampNeg) (B := 4) hm.1 hm.2 (by decide) (fun v hF hin hT hW => ?_) ht hf
  refine v_X12_isWrong_17 g _ _ v ⟨qz_in80 hw hO.1, hF, fun c => ?_⟩
  have hr := qz_inR (hin c) c
  exact ⟨hO, hw, hr, qR_40 (qHd_rng hO hw hr) hO.2.1, h2, h3, fun e => ⟨h4, fun e2 => hW c (fun z => z.2 e2), fun e2 => hT c ⟨e, e2⟩⟩, fun e => hW c (fun z => e z.1)⟩
theorem c_X12_allAgreed {X : qz_X} {d : Nat} {Q : qz_Q} (g : qz_G) (v1 : Int32) (h : (HO (g.1 12 2) (g.1 12 1) (g.1 81) (g.1 96) (g.1 97)) ∧ (qR v1 (g.1 12 2)) ∧ (qI (g.1 12 55) 0 300) ∧ (qI (g.1 12 56) 0 200) ∧ (qI (g.1 12 71) 0 200) ∧ (¬ qUn (g.1 84) (g.1 12 55) (g.1 125) (g.1 124) (g.1 126) (g.1 12 56) (g.1 127) (g.1 130) (g.1 12 71) (g.1 131) (g.1 132) (g.1 133) (g.1 96) (g.1 97) (g.1 81) (g.1 82) (g.1 83) v1 (g.1 12 0) (g.1 12 0) → Q g 1 0) ∧ (¬ (¬ qUn (g.1 84) (g.1 12 55) (g.1 125) (g.1 124) (g.1 126) (g.1 12 56) (g.1 127) (g.1 130) (g.1 12 71) (g.1 131) (g.1 132) (g.1 133) (g.1 96) (g.1 97) (g.1 81) (g.1 82) (g.1 83) v1 (g.1 12 0) (g.1 12 0)) → Q g 0 0)) : qz_Call X (d + 3) 270 [.ref 12, .int v1] g Q := by
  obtain ⟨hO, hw, h2, h3, h4, ht, hf⟩ := h
  have hm := qI_0 (hO.2.2.2 _ hw).1 qz_n4
  refine v_X12_allAgreed g v1 ?_
  refine qz_srch (W := fun v => qz_WP X (d + 3) 270 Q 2 [(0, .ref 12), (1, .int v1), (2, .int v)] [] g) (n := g.1 96 v1.toNatClampNeg) (B := 4) hm.1 hm.2 (by decide) (fun v hF hin hT hW => ?_) (fun z => hf (fun z2 => z2 z)) ht
  refine v_X12_allAgreed_2 g v1 v ⟨qz_in80 hw hO.1, hF, fun c => ?_⟩
  have hr := qz_inR (hin c) c
  exact ⟨hO, hw, hr, qR_40 (qHd_rng hO hw hr) hO.2.1, h2, h3, fun e => ⟨h4, fun e2 => hW c (fun z => z.2 e2), fun e2 => hT c ⟨e, e2⟩⟩, fun e => hW c (fun z => e z.1)⟩
