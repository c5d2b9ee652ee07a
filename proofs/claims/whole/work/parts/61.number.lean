/-! numbers; deaths -/
theorem qRs_o {g : qz_G} {D : qDt} {w land day t : Int32} {k : Nat} (h : k < 7) (e : qDf k = 0) : qRs g D w land day t k = if qNb g D w land day t k = -1 then 0 else qNb g D w land day t k := by
  unfold qRs
  rw [if_neg (by omega), e]
theorem qRs_n {g : qz_G} {D : qDt} {w land day t : Int32} {k : Nat} (h : k < 7) (e : qDf k = -1) : qRs g D w land day t k = qNb g D w land day t k := by
  unfold qRs
  rw [if_neg (by omega), e]
  by_cases c : qNb g D w land day t k = -1
  · rw [if_pos c, c]
  · rw [if_neg c]
theorem qRs_b {g : qz_G} {D : qDt} {w land day t : Int32} {k : Nat} (h : k = 7 ∨ k = 8) : qRs g D w land day t k = qBb g D w land day t k := by
  unfold qRs
  rw [if_pos h]
theorem qz_k8 : (8 : Int32).toNatClampNeg = 8 := by decide
theorem P_number {X : qz_X} {d : Nat} {g : qz_G} (v1 v2 v3 v4 v5 : Int32) (hR : Rel g) : qz_Pair X (d + 7) 160 246 [.int v1, .int v2, .int v3, .int v4, .int v5] g := by
  obtain ⟨D, hD⟩ := LwD_of hR
  have e3 : g.1 3 12 = g.1 12 2 := rS_3_12 hR (Same.rf g)
  refine v_X11_number (d := d + 3) g v1 v2 v3 v4 v5 ?_
  rw [e3]
  refine ⟨fun hc => c_X2_weigh (d := d) hR hD g (Same.rf g) hc.1 (fun g2 s2 h58 => ⟨fun z => ?_, fun z => ⟨fun z2 => ?_, fun z2 => ⟨?_, ?_⟩⟩⟩), fun hc => ?_⟩
  · refine v_X12_number (d := d + 4) g2 v1 v2 v3 v4 v5 ⟨fun _ => ⟨fun _ => ⟨rfl, rfl, Rel_same hR s2⟩, fun z3 => ?_⟩, fun z3 => absurd ?_ z3⟩
    · rw [qz_lt, qz_n0] at z
      exact absurd (Or.inl z) z3
    · rw [rM_12_2 s2]
      exact hc
  · refine v_X12_number (d := d + 4) g2 v1 v2 v3 v4 v5 ⟨fun _ => ⟨fun _ => ⟨rfl, rfl, Rel_same hR s2⟩, fun z3 => ?_⟩, fun z3 => absurd ?_ z3⟩
    · rw [qz_le, qz_n9] at z2
      exact absurd (Or.inr (by omega)) z3
    · rw [rM_12_2 s2]
      exact hc
  · rw [qz_lt, qz_n0] at z
    rw [qz_le, qz_n9] at z2
    exact qz_vi (by omega) (by omega)
  · have hw := hc.1
    refine v_X12_number (d := d + 4) g2 v1 v2 v3 v4 v5 ⟨fun _ => ⟨fun z3 => ?_, fun _ => ⟨fun e => ?_, fun e => ?_, fun e => ?_, fun e => ?_, fun e => ?_, fun e => ?_, fun e => ?_, fun e => ?_, fun e => ?_, trivial⟩⟩, fun z3 => absurd ?_ z3⟩
    · rw [qz_lt, qz_n0] at z
      rw [qz_le, qz_n9] at z2
      omega
    · refine c_X12_orNothing (d := d + 1) hR hD g2 s2 hw 0 (by omega) 97 rfl (fun g' s' => ⟨?_, rfl, Rel_same hR s'⟩)
      rw [e, qz_k0, h58 0 (by omega), qRs_o (by omega) (by decide)]
    · refine c_X12_orNothing (d := d + 1) hR hD g2 s2 hw 1 (by omega) 108 rfl (fun g' s' => ⟨?_, rfl, Rel_same hR s'⟩)
      rw [e, qz_k1, h58 1 (by omega), qRs_o (by omega) (by decide)]
    · refine c_X12_numberBy (d := d + 2) hR hD g2 s2 hw 2 (by omega) 116 rfl (fun g' s' => ⟨?_, rfl, Rel_same hR s'⟩)
      rw [e, qz_k2, h58 2 (by omega), qRs_n (by omega) (by decide)]
    · refine c_X12_numberBy (d := d + 2) hR hD g2 s2 hw 3 (by omega) 117 rfl (fun g' s' => ⟨?_, rfl, Rel_same hR s'⟩)
      rw [e, qz_k3, h58 3 (by omega), qRs_n (by omega) (by decide)]
    · refine c_X12_orNothing (d := d + 1) hR hD g2 s2 hw 4 (by omega) 102 rfl (fun g' s' => ⟨?_, rfl, Rel_same hR s'⟩)
      rw [e, qz_k4, h58 4 (by omega), qRs_o (by omega) (by decide)]
    · refine c_X12_orNothing (d := d + 1) hR hD g2 s2 hw 5 (by omega) 119 rfl (fun g' s' => ⟨?_, rfl, Rel_same hR s'⟩)
      rw [e, qz_k5, h58 5 (by omega), qRs_o (by omega) (by decide)]
    · refine c_X12_numberBy (d := d + 2) hR hD g2 s2 hw 6 (by omega) 101 rfl (fun g' s' => ⟨?_, rfl, Rel_same hR s'⟩)
      rw [e, qz_k6, h58 6 (by omega), qRs_n (by omega) (by decide)]
    · refine c_X12_bitsBy (d := d + 2) hR hD g2 s2 hw 7 (by omega) 115 rfl (fun g' s' => ⟨?_, rfl, Rel_same hR s'⟩)
      rw [e, qz_k7, h58 7 (by omega), qRs_b (Or.inl rfl)]
    · refine c_X12_bitsBy (d := d + 2) hR hD g2 s2 hw 8 (by omega) 112 rfl (fun g' s' => ⟨?_, rfl, Rel_same hR s'⟩)
      rw [e, qz_k8, h58 8 (by omega), qRs_b (Or.inr rfl)]
    · rw [rM_12_2 s2]
      exact hc
  · exact v_X12_number (d := d + 4) g v1 v2 v3 v4 v5 ⟨fun z => absurd z hc, fun _ => ⟨rfl, rfl, hR⟩⟩
theorem c_X5_deathOf {X : qz_X} {d : Nat} {Q : qz_Q} (g : qz_G) (v1 v2 : Int32) (h : (qI (g.1 2 9) 0 200) ∧ Q g (qLa (fun k => g.1 18 k = v1 ∧ ¬ v2 < g.1 21 k) nI (g.1 2 9).toNatClampNeg) 0) : qz_Call X (d + 1) 60 [.ref 2, .int v1, .int v2] g Q := by
  obtain ⟨hn, hq⟩ := h
  have e : g.1 2 9 - 1 = nI (g.1 2 9).toNatClampNeg + (-1) := by rw [qz_self hn.1, Int32.sub_eq_add_neg]
  simp only [qI, qz_lt, qz_n0, qz_n200] at hn
  have hcl := qz_cl (g.1 2 9)
  refine v_X5_deathOf g v1 v2 ?_
  rw [e]
  refine qz_down (α := Unit) (W := fun _ v => qz_WP X (d + 1) 60 Q 7 [(0, .ref 2), (1, .int v1), (2, .int v2), (3, .int v)] [] g) (fun m _ => qLa (fun k => g.1 18 k = v1 ∧ ¬ v2 < g.1 21 k) nI (g.1 2 9).toNatClampNeg = qLa (fun k => g.1 18 k = v1 ∧ ¬ v2 < g.1 21 k) nI m) 200 (by omega) ?_ ?_ _ () (by omega) rfl
  · intro j _ hj hI cont
    have ej := qz_nI (n := j) (by omega)
    refine v_X5_deathOf_7 g v1 v2 (nI j) ⟨fun z => ?_, fun _ => ⟨qz_vi (by omega) (by omega), ?_⟩⟩
    · rw [qz_lt, ej, qz_n0] at z
      omega
    · rw [nI_clamp (show j < 2147483648 by omega)]
      refine ⟨fun c => ?_, fun c => ⟨fun c2 => ?_, fun c2 => ?_⟩⟩
      · rw [qLa_n (B := fun k => g.1 18 k = v1 ∧ ¬ v2 < g.1 21 k) (fun z => c z.1)] at hI
        exact cont () hI
      · rw [qLa_n (B := fun k => g.1 18 k = v1 ∧ ¬ v2 < g.1 21 k) (fun z => z.2 c2)] at hI
        exact cont () hI
      · rw [qLa_p (B := fun k => g.1 18 k = v1 ∧ ¬ v2 < g.1 21 k) ⟨c, c2⟩] at hI
        rw [hI] at hq
        exact hq
  · intro _ hI
    refine v_X5_deathOf_7 g v1 v2 _ ⟨fun _ => ?_, fun z => absurd (by decide) z⟩
    rw [hI] at hq
    exact hq
theorem c_X12_deathBy {X : qz_X} {d : Nat} {Q : qz_Q} (g : qz_G) (v1 v2 : Int32) (h : (qI (g.1 12 3) 0 200) ∧ Q g (qLa (fun k => g.1 85 k = v1 ∧ ¬ v2 < g.1 88 k) nI (g.1 12 3).toNatClampNeg) 0) : qz_Call X (d + 1) 205 [.ref 12, .int v1, .int v2] g Q := by
  obtain ⟨hn, hq⟩ := h
  simp only [qI, qz_lt, qz_n0, qz_n200] at hn
  have hcl := qz_cl (g.1 12 3)
  refine v_X12_deathBy g v1 v2 ?_
  refine qz_for (α := Int32) (W := fun a v => qz_WP X (d + 1) 205 Q 5 [(0, .ref 12), (1, .int v1), (2, .int v2), (3, .int a), (4, .int v)] [] g) (n := g.1 12 3) (fun i a => a = qLa (fun k => g.1 85 k = v1 ∧ ¬ v2 < g.1 88 k) nI i) (by omega) (by omega) (fun i a v hI ev cv hle cont => ?_) (-1) rfl
  refine v_X12_deathBy_5 g v1 v2 a v ⟨fun z => ?_, fun z => ?_⟩
  · rw [qz_le, ev] at z
    have e : (g.1 12 3).toNatClampNeg = i := by omega
    rw [e, ← hI] at hq
    exact hq
  · rw [qz_le, ev] at z
    rw [cv]
    have evn : v = nI i := by
      rw [qz_eq, ev, qz_nI (by omega)]
    refine ⟨qz_vi (by omega) (by omega), fun c => ?_, fun c => ⟨fun c2 => ?_, fun c2 => ?_⟩⟩
    · refine cont a (by omega) ?_
      rw [qLa_n (fun z => c z.1)]
      exact hI
    · refine cont a (by omega) ?_
      rw [qLa_n (fun z => z.2 c2)]
      exact hI
    · refine cont v (by omega) ?_
      rw [qLa_p ⟨c, c2⟩]
      exact evn
