/-! feed -/
theorem qz_nar8 (x : Int32) : vp_nar .byte x.toInt8.toInt32 &&& 255 = x &&& 255 := by
  show x.toInt8.toInt32.toInt8.toInt32 &&& 255 = x &&& 255
  apply Int32.toBitVec_inj.mp
  simp only [Int32.toBitVec_and, Int8.toBitVec_toInt32, Int32.toBitVec_toInt8]
  apply BitVec.eq_of_getLsbD_eq
  intro i hi
  have h255 : (255 : Int32).toBitVec = BitVec.ofNat 32 255 := rfl
  simp only [BitVec.getLsbD_and, BitVec.getLsbD_signExtend, BitVec.getLsbD_setWidth, h255, BitVec.getLsbD_ofNat]
  by_cases h8 : i < 8
  · simp [h8, hi]
  · have : Nat.testBit 255 i = false := Nat.testBit_lt_two_pow (Nat.lt_of_lt_of_le (by decide : 255 < 2 ^ 8) (Nat.pow_le_pow_right (by decide) (by omega)))
    simp [this]
def Fed (g g' : qz_G) (ro so sj : Nat) (f : Nat → Int32) (s : Int32) : Prop := g'.1 ro = f ∧ g'.1 so sj = s ∧ (∀ a, ¬ a = ro → ¬ a = so → g'.1 a = g.1 a) ∧ (∀ j, ¬ j = sj → g'.1 so j = g.1 so j) ∧ g'.2 = g.2
theorem Fed.st {g g' : qz_G} {ro so sj : Nat} {f : Nat → Int32} {s : Int32} (h : Fed g g' ro so sj f s) (hne : ¬ ro = so) (k : Nat) (b s2 : Int32) : Fed g (qz_ui (qz_ui g' ro k b) so sj s2) ro so sj (upd f k b) s2 := by
  obtain ⟨h1, h2, h3, h4, h5⟩ := h
  refine ⟨?_, ?_, fun a ha hb => ?_, fun j hj => ?_, h5⟩
  · rw [qz_i1, if_neg hne, qz_i1, if_pos rfl, h1]
  · rw [qz_i1, if_pos rfl, qz_u1, if_pos rfl]
  · rw [qz_i1, if_neg hb, qz_i1, if_neg ha]
    exact h3 a ha hb
  · rw [qz_i1, if_pos rfl, qz_u1, if_neg hj, qz_i1, if_neg (fun z => hne z.symm)]
    exact h4 j hj
def qWr (f : Nat → Int32) (s : Nat) : List Int32 → Nat → Int32
  | [] => f
  | b :: t => qWr (upd f s b) (s + 1) t
theorem qWr_app (f : Nat → Int32) (s : Nat) (a b : List Int32) : qWr (qWr f s a) (s + a.length) b = qWr f s (a ++ b) := by
  induction a generalizing f s with
  | nil => rfl
  | cons x t ih =>
    have := ih (upd f s x) (s + 1)
    rw [show s + 1 + t.length = s + (x :: t).length from by simp only [List.length_cons]; omega] at this
    exact this
def qBx (v : Int32) : List Int32 := [(v >>> (24 &&& 31)) &&& 255, (v >>> (16 &&& 31)) &&& 255, (v >>> (8 &&& 31)) &&& 255, (v >>> (0 &&& 31)) &&& 255]
def qBm (v : Int32) : List Int32 := [vp_nar .byte ((v >>> (24 &&& 31)).toInt8.toInt32), vp_nar .byte ((v >>> (16 &&& 31)).toInt8.toInt32), vp_nar .byte ((v >>> (8 &&& 31)).toInt8.toInt32), vp_nar .byte ((v >>> (0 &&& 31)).toInt8.toInt32)]
theorem RelY_st {f f' : Nat → Int32} {k : Nat} {b b' : Int32} (h : RelY f f') (hb : b = b' &&& 255) : RelY (upd f k b) (upd f' k b') := by
  intro j hj
  rw [qz_u1, qz_u1]
  by_cases e : j = k
  · rw [if_pos e, if_pos e]; exact hb
  · rw [if_neg e, if_neg e]; exact h j hj
theorem RelY_wr {f f' : Nat → Int32} {s : Nat} (v : Int32) (h : RelY f f') : RelY (qWr f s (qBx v)) (qWr f' s (qBm v)) := by
  unfold qBx qBm
  simp only [qWr]
  exact RelY_st (RelY_st (RelY_st (RelY_st h (qz_nar8 _).symm) (qz_nar8 _).symm) (qz_nar8 _).symm) (qz_nar8 _).symm
theorem qz_nI4 (s : Nat) (hs : s + 4 ≤ 200) : nI s + 1 = nI (s + 1) ∧ (nI s).toNatClampNeg = s ∧ vp_in (nI s) 200 ∧ ¬ (200 : Int32) ≤ nI s := by
  have ei := qz_nI (n := s) (by omega)
  refine ⟨by rw [nI_1], nI_clamp (by omega), qz_vi (by omega) (by omega), ?_⟩
  rw [qz_le, ei, qz_n200]
  omega
theorem c_X8_put {X : qz_X} {d : Nat} {Q : qz_Q} {g0 : qz_G} (g : qz_G) (v1 : Int32) {f : Nat → Int32} {s : Nat} (hF : Fed g0 g 13 1 1 f (nI s)) (hs : s + 4 ≤ 200) (hq : ∀ g', Fed g0 g' 13 1 1 (qWr f s (qBx v1)) (nI (s + 4)) → Q g' 0 0) : qz_Call X (d + 1) 110 [.ref 1, .int v1] g Q := by
  have st : ∀ (g' : qz_G) (f : Nat → Int32) (s : Nat) (v2 : Int32), Fed g0 g' 13 1 1 f (nI s) → s < 200 → ¬ v2 < 0 → (∀ g2, Fed g0 g2 13 1 1 (upd f s ((v1 >>> (v2 &&& 31)) &&& 255)) (nI (s + 1)) → qz_WP X (d + 1) 110 Q 3 [(0, .ref 1), (1, .int v1), (2, .int (v2 + (-8)))] [] g2) → qz_WP X (d + 1) 110 Q 3 [(0, .ref 1), (1, .int v1), (2, .int v2)] [] g' := by
    intro g' f s v2 hF hs hv hk
    have e1 : g'.1 1 1 = nI s := hF.2.1
    have ei := qz_nI (n := s) (by omega)
    have x2 : (nI s).toNatClampNeg = s := nI_clamp (by omega)
    refine v_X8_put_3 g' v1 v2 ⟨fun z => absurd z hv, fun _ => ⟨fun z => ?_, fun _ => ⟨?_, ?_⟩⟩⟩
    · rw [e1, qz_le, ei, qz_n200] at z
      omega
    · rw [e1]; exact qz_vi (by omega) (by omega)
    · rw [e1, x2, nI_1]
      exact hk _ (hF.st (by decide) s _ _)
  refine v_X8_put g v1 ?_
  refine st g f s 24 hF (by omega) (by decide) (fun g1 h1 => ?_)
  refine st g1 _ (s + 1) 16 h1 (by omega) (by decide) (fun g2 h2 => ?_)
  refine st g2 _ (s + 2) 8 h2 (by omega) (by decide) (fun g3 h3 => ?_)
  refine st g3 _ (s + 3) 0 h3 (by omega) (by decide) (fun g4 h4 => ?_)
  exact v_X8_put_3 g4 v1 (0 + -8) ⟨fun _ => hq g4 h4, fun z => absurd (by decide) z⟩
theorem c_X12_types {X : qz_X} {d : Nat} {Q : qz_Q} {g0 : qz_G} (g : qz_G) (v1 : Int32) {f : Nat → Int32} {s : Nat} (hF : Fed g0 g 99 12 25 f (nI s)) (hs : s + 4 ≤ 200) (hq : ∀ g', Fed g0 g' 99 12 25 (qWr f s (qBm v1)) (nI (s + 4)) → Q g' 0 0) : qz_Call X (d + 1) 212 [.ref 12, .int v1] g Q := by
  have st : ∀ (g' : qz_G) (f : Nat → Int32) (s : Nat) (v2 : Int32), Fed g0 g' 99 12 25 f (nI s) → s < 200 → ¬ v2 < 0 → (∀ g2, Fed g0 g2 99 12 25 (upd f s (vp_nar .byte ((v1 >>> ((8 * v2) &&& 31)).toInt8.toInt32))) (nI (s + 1)) → qz_WP X (d + 1) 212 Q 2 [(0, .ref 12), (1, .int v1), (2, .int (v2 + (-1)))] [] g2) → qz_WP X (d + 1) 212 Q 2 [(0, .ref 12), (1, .int v1), (2, .int v2)] [] g' := by
    intro g' f s v2 hF hs hv hk
    have e1 : g'.1 12 25 = nI s := hF.2.1
    have ei := qz_nI (n := s) (by omega)
    have x2 : (nI s).toNatClampNeg = s := nI_clamp (by omega)
    refine v_X12_types_2 g' v1 v2 ⟨fun z => absurd z hv, fun _ => ⟨?_, ?_⟩⟩
    · rw [e1]; exact qz_vi (by omega) (by omega)
    · rw [e1, x2, nI_1]
      exact hk _ (hF.st (by decide) s _ _)
  refine v_X12_types g v1 ?_
  refine st g f s 3 hF (by omega) (by decide) (fun g1 h1 => ?_)
  refine st g1 _ (s + 1) 2 h1 (by omega) (by decide) (fun g2 h2 => ?_)
  refine st g2 _ (s + 2) 1 h2 (by omega) (by decide) (fun g3 h3 => ?_)
  refine st g3 _ (s + 3) 0 h3 (by omega) (by decide) (fun g4 h4 => ?_)
  exact v_X12_types_2 g4 v1 (0 + -1) ⟨fun _ => hq g4 h4, fun z => absurd (by decide) z⟩
theorem Rel_feed {g g1 g2 : qz_G} {f f' : Nat → Int32} {s : Int32} (hR : Rel g) (h1 : Fed g g1 13 1 1 f s) (h2 : Fed g1 g2 99 12 25 f' s) (hY : RelY f f') (hs : qI s 0 200) : Rel g2 := by
  obtain ⟨a1, a2, a3, a4, a5⟩ := h1
  obtain ⟨b1, b2, b3, b4, b5⟩ := h2
  have hr : ∀ a, ¬ a = 13 → ¬ a = 1 → ¬ a = 99 → ¬ a = 12 → g2.1 a = g.1 a := fun a z1 z2 z3 z4 => (b3 a z3 z4).trans (a3 a z1 z2)
  have h12 : ∀ j, ¬ j = 25 → g2.1 12 j = g.1 12 j := fun j hj => (b4 j hj).trans (by rw [a3 12 (by decide) (by decide)])
  have h11 : g2.1 1 1 = s := by rw [b3 1 (by decide) (by decide)]; exact a2
  have h13 : g2.1 13 = f := by rw [b3 13 (by decide) (by decide)]; exact a1
  have h2 : g2.2 = g.2 := b5.trans a5
  have hG : Same g (qz_ui (qz_ui (qz_uc (qz_uc g2 13 (g.1 13)) 99 (g.1 99)) 1 1 (g.1 1 1)) 12 25 (g.1 12 25)) := by
    refine ⟨fun r hr' => ?_, fun q hq => ?_, ?_, ?_⟩
    · have d12 : ¬ r = 12 := fun z => by rw [z] at hr'; revert hr'; decide
      have d1 : ¬ r = 1 := fun z => by rw [z] at hr'; revert hr'; decide
      rw [qz_i1, if_neg d12, qz_i1, if_neg d1, qz_c1]
      by_cases e99 : r = 99
      · rw [if_pos e99, e99]
      · rw [if_neg e99, qz_c1]
        by_cases e13 : r = 13
        · rw [if_pos e13, e13]
        · rw [if_neg e13]; exact hr r e13 d1 e99 d12
    · have d13 : ¬ q.1 = 13 := fun z => by
        have : (qz_ks.all (fun q => !(Nat.beq q.1 13))) = true := by decide
        have h1 := List.all_eq_true.mp this q hq
        rw [z] at h1; simp at h1
      have d99 : ¬ q.1 = 99 := fun z => by
        have : (qz_ks.all (fun q => !(Nat.beq q.1 99))) = true := by decide
        have h1 := List.all_eq_true.mp this q hq
        rw [z] at h1; simp at h1
      rw [qz_i1]
      by_cases e12 : q.1 = 12
      · rw [if_pos e12, e12, qz_u1]
        by_cases e25 : q.2 = 25
        · rw [if_pos e25, e25]
        · rw [if_neg e25, qz_i1, if_neg (by decide), qz_c1, if_neg (by decide), qz_c1, if_neg (by decide)]
          exact h12 _ e25
      · rw [if_neg e12, qz_i1]
        by_cases e1 : q.1 = 1
        · have e11 : q.2 = 1 := by
            have : (qz_ks.all (fun q => !(Nat.beq q.1 1) || Nat.beq q.2 1)) = true := by decide
            have h1 := List.all_eq_true.mp this q hq
            rw [e1] at h1; simpa using h1
          rw [if_pos e1, e1, qz_u1, if_pos e11, e11]
        · rw [if_neg e1, qz_c1, if_neg d99, qz_c1, if_neg d13]
          exact congrFun (hr q.1 d13 e1 d99 e12) q.2
    · show g2.2 75 = g.2 75
      rw [h2]
    · show g2.2 143 = g.2 143
      rw [h2]
  have hR' := Rel_same hR hG
  obtain ⟨hE, hS, hB, hP, hD, hW, hZ, hK, hT, hA, hV, hC, hY', hJ, hU, hL⟩ := hR'
  unfold Rel
  unfold RelE at hE ⊢
  unfold RelS at hS ⊢
  simp only [qz_i1, qz_i2, qz_u1, qz_c1, qz_c2, Nat.reduceEqDiff, reduceIte] at hE hS hB hP hD hW hZ hK hT hA hV hC hJ hU hL
  rw [h11, b2, h13, b1]
  obtain ⟨x1, x2, x3, x4, -, x6, x7, x8, x9, x10, x11⟩ := hS
  obtain ⟨y1, y2, y3, y4, -, y6⟩ := hB
  exact ⟨hE, ⟨x1, x2, x3, x4, rfl, x6, x7, x8, x9, x10, x11⟩, ⟨y1, y2, y3, y4, hs, y6⟩, hP, hD, hW, hZ, hK, hT, hA, hV, hC, hY, hJ, hU, hL⟩
theorem P_feed {X : qz_X} {d : Nat} {g : qz_G} (v1 v2 v3 v4 v5 : Int32) (hR : Rel g) : qz_Pair X (d + 2) 158 213 [.int v1, .int v2, .int v3, .int v4, .int v5] g := by
  have hS := hR.2.1
  have hB := hR.2.2.1.2.2.2.2.1
  have hY : RelY (g.1 13) (g.1 99) := hR.2.2.2.2.2.2.2.2.2.2.2.2.1
  have e25 : g.1 1 1 = g.1 12 25 := hS.2.2.2.2.1
  have hb := qI_0 hB qz_n200
  have e20 : (g.1 12 25 + 20).toInt = (g.1 12 25).toInt + 20 := by
    have := qz_ad (a := g.1 12 25) (b := 20) (by rw [qz_n20]; omega) (by rw [qz_n20]; omega)
    rw [qz_n20] at this
    exact this
  have hc := qz_cl (g.1 12 25)
  have hs : nI (g.1 12 25).toNatClampNeg = g.1 12 25 := qz_self hB.1
  refine v_X11_feed (d := d) g v1 v2 v3 v4 v5 ⟨fun h1 => ?_, fun h1 => ?_⟩
  · rw [e25, qz_lt, e20, qz_n200] at h1
    refine c_X8_put g v1 (g0 := g) (f := g.1 13) (s := (g.1 12 25).toNatClampNeg) ⟨rfl, by rw [e25, hs], fun _ _ _ => rfl, fun _ _ => rfl, rfl⟩ (by omega) (fun g1 f1 => ?_)
    refine c_X8_put g1 v2 f1 (by omega) (fun g2 f2 => ?_)
    refine c_X8_put g2 v3 f2 (by omega) (fun g3 f3 => ?_)
    refine c_X8_put g3 v4 f3 (by omega) (fun g4 f4 => ?_)
    refine c_X8_put g4 v5 f4 (by omega) (fun g5 f5 => ?_)
    have h12 : g5.1 12 = g.1 12 := f5.2.2.1 12 (by decide) (by decide)
    have h99 : g5.1 99 = g.1 99 := f5.2.2.1 99 (by decide) (by decide)
    rw [f5.2.1]
    refine v_X12_feed (d := d + 1) g5 v1 v2 v3 v4 v5 ⟨fun h2 => ?_, fun h2 => ?_⟩
    · refine c_X12_types g5 v1 (g0 := g5) (f := g5.1 99) (s := (g.1 12 25).toNatClampNeg) ⟨rfl, by rw [h12, hs], fun _ _ _ => rfl, fun _ _ => rfl, rfl⟩ (by omega) (fun m1 k1 => ?_)
      refine c_X12_types m1 v2 k1 (by omega) (fun m2 k2 => ?_)
      refine c_X12_types m2 v3 k2 (by omega) (fun m3 k3 => ?_)
      refine c_X12_types m3 v4 k3 (by omega) (fun m4 k4 => ?_)
      refine c_X12_types m4 v5 k4 (by omega) (fun m5 k5 => ?_)
      refine ⟨k5.2.1.symm, rfl, Rel_feed hR f5 k5 ?_ ?_⟩
      · rw [h99]
        exact RelY_wr v5 (RelY_wr v4 (RelY_wr v3 (RelY_wr v2 (RelY_wr v1 hY))))
      · have ei := qz_nI (n := (g.1 12 25).toNatClampNeg + 4 + 4 + 4 + 4 + 4) (by omega)
        simp only [qI, qz_lt, qz_n0, qz_n200, ei]
        omega
    · rw [h12, qz_le, e20, qz_n200] at h2
      omega
  · rw [e25, qz_lt, e20, qz_n200] at h1
    refine v_X12_feed (d := d + 1) g v1 v2 v3 v4 v5 ⟨fun h2 => ?_, fun _ => ⟨rfl, rfl, hR⟩⟩
    rw [qz_le, e20, qz_n200] at h2
    omega
