/-! the class: a clause -/
theorem qLx_A {L n : Nat} {g0 g : qz_G} {p o : Nat} {C : List qOp} (hb : RdB L n g0) (h : RdA L n g0 g p o C) : qLx (qSx g) = if qLq (qSn g0 n p) < 10 then nI (qLq (qSn g0 n p)) else -1 := by
  rw [RdA_sx hb h]
  by_cases q : p < n
  · rw [if_pos q]
    exact qLx_c _ (qSn_lt hb q)
  · rw [if_neg q]
    unfold qSn
    rw [if_neg q]
    decide
theorem qz_lims : ∀ k, k < 10 → qz_limits k = nI (qLm k) := by decide
theorem c_clauseX {X : qz_X} {d : Nat} {Q : qz_Q} {L n : Nat} {g0 : qz_G} (hb0 : RdB L n g0) (g : qz_G) (hF : RlF L g0 g) {i p o : Nat} {C : List qOp} (h : RdA L n g g p o C) (hi : i ≤ 12)
    (hq1 : ∀ g' q o' t k w1 w2, ClG (qSn g0 n) i p C q (C ++ t) k w1 w2 → RlF L g0 g' → (∀ r j, 52 ≤ r → r ≤ 56 → g'.1 r j = g.1 r j) → RdA L n g' g' q o' (C ++ t) → p < q → g'.1 7 9 = nI k → g'.1 7 10 = nI w1 → w1 ≤ qLm k → g'.1 7 11 = (if k = 9 then nI w2 else -1) → w2 ≤ 11 → (¬ g.1 7 12 = 0 → ¬ g'.1 7 12 = 0) → qTy (C ++ t) (g'.1 7 12) C.length (C ++ t).length → Q g' 0 0)
    (hq2 : ∀ g' kd at_, ClF (qSn g0 n) i p C kd at_ → RlF L g0 g' → RdD L g' g' kd at_ → Q g' 0 0) : qz_Call X (d + 25) 73 [.ref 7, .int (nI i)] g Q := by
  have hb := hF.B hb0
  have hsn := hF.sn n
  have hn := hb.2.1
  have hpn := h.2.2.2.2.2.2.1
  have hCp := h.2.2.2.2.2.2.2.1
  have hlx := qLx_A hb h
  rw [hsn] at hlx
  refine v_X6_readClause (d := d + 21) g (nI i) ⟨RdF_11 hb h.1, fun z => ⟨fun q => absurd h.2.1 q, fun _ => ?_⟩, fun z => ⟨fun c => ?_, fun c => ⟨fun q => absurd h.2.1 q, fun _ => ?_⟩⟩⟩
  · have hk : ¬ qLq (qSn g0 n p) < 10 := by
      intro w
      rw [hlx, if_pos w, qz_eq, nI_toInt (by omega), qz_m1] at z
      omega
    refine hq2 _ 1 p (Or.inl ⟨hk, rfl, rfl⟩) ((hF.u7 (by omega) _).u7 (by omega) _) ?_
    have h9 : RdA L n (qz_ui g 7 9 (qLx (qSx g))) (qz_ui g 7 9 (qLx (qSx g))) p o C := h.re (fun r k n1 n2 => ui_n (by omega))
    exact (h9.bl (kd := 1) (at_ := p) (((RlF.rf L g).u7 (by omega) _).B hb) (by rw [h.2.2.1, qFv_1]) (by omega) (by omega) (by omega)).re (fun _ _ _ _ => rfl)
  · have hk : qLq (qSn g0 n p) < 10 := by
      by_cases w : qLq (qSn g0 n p) < 10
      · exact w
      · rw [hlx, if_neg w] at z; exact absurd rfl z
    have hi12 : i < 12 := by
      rw [qz_lt, qz_n12, nI_toInt (by omega)] at c; omega
    rw [hlx, if_pos hk]
    have hin : p < n := by
      by_cases w : p < n
      · exact w
      · unfold qSn at hk
        rw [if_neg w] at hk
        exact absurd hk (by decide)
    refine ⟨qz_vi (by rw [nI_toInt (by omega)]; omega) (by rw [nI_toInt (by omega)]; omega), ?_⟩
    rw [nI_clamp (by omega), qz_lims _ hk]
    have hlm : qLm (qLq (qSn g0 n p)) < 1000000 := by
      unfold qLm
      repeat' split
      all_goals omega
    have hF1 : RlF L g0 (qz_ui (qz_ui g 7 9 (nI (qLq (qSn g0 n p)))) 7 5 (g.1 7 5 + 1)) := (hF.u7 (by omega) _).u7 (by omega) _
    have h1 : RdA L n (qz_ui (qz_ui g 7 9 (nI (qLq (qSn g0 n p)))) 7 5 (g.1 7 5 + 1)) (qz_ui (qz_ui g 7 9 (nI (qLq (qSn g0 n p)))) 7 5 (g.1 7 5 + 1)) (p + 1) o C := ((h.re (g' := qz_ui g 7 9 (nI (qLq (qSn g0 n p)))) (fun r k n1 n2 => ui_n (by omega))).u5 (p' := p + 1) (by rw [h.2.2.1, nI_1]) (by omega) (by omega)).re (fun _ _ _ _ => rfl)
    have k1 : (qz_ui (qz_ui g 7 9 (nI (qLq (qSn g0 n p)))) 7 5 (g.1 7 5 + 1)).1 7 9 = nI (qLq (qSn g0 n p)) := by rw [ui_n (by omega), ui_s]
    have k12 : (qz_ui (qz_ui g 7 9 (nI (qLq (qSn g0 n p)))) 7 5 (g.1 7 5 + 1)).1 7 12 = g.1 7 12 := by rw [ui_n (by omega), ui_n (by omega)]
    have k5 : ∀ r j, 52 ≤ r → r ≤ 56 → (qz_ui (qz_ui g 7 9 (nI (qLq (qSn g0 n p)))) 7 5 (g.1 7 5 + 1)).1 r j = g.1 r j := fun r j _ _ => by rw [ui_n (by omega), ui_n (by omega)]
    generalize qz_ui (qz_ui g 7 9 (nI (qLq (qSn g0 n p)))) 7 5 (g.1 7 5 + 1) = g1 at hF1 h1 k1 k12 k5
    have hb1 := hF1.B hb0
    have hs1 := hF1.sn n
    refine c_limA (d := d + 20) hb1 g1 h1 (qLm (qLq (qSn g0 n p))) rfl (by omega) (fun g4 l0 h4 l2 l3 e4 => ?_) (fun g4 v l0 h4 => ?_)
    · sorry
    · sorry
  · have hk : qLq (qSn g0 n p) < 10 := by
      by_cases w : qLq (qSn g0 n p) < 10
      · exact w
      · rw [hlx, if_neg w] at z; exact absurd rfl z
    have hi12 : ¬ i < 12 := by
      rw [qz_lt, qz_n12, nI_toInt (by omega)] at c; omega
    refine hq2 _ 4 p (Or.inr (Or.inl ⟨hk, hi12, rfl, rfl⟩)) ((hF.u7 (by omega) _).u7 (by omega) _) ?_
    have h9 : RdA L n (qz_ui g 7 9 (qLx (qSx g))) (qz_ui g 7 9 (qLx (qSx g))) p o C := h.re (fun r k n1 n2 => ui_n (by omega))
    exact (h9.bl (kd := 4) (at_ := p) (((RlF.rf L g).u7 (by omega) _).B hb) (by rw [h.2.2.1, qFv_4]) (by omega) (by omega) (by omega)).re (fun _ _ _ _ => rfl)
