/-! the class: a clause -/
theorem qLx_A {L n : Nat} {g0 g : qz_G} {p o : Nat} {C : List qOp} (hb : RdB L n g0) (h : RdA L n g0 g p o C) : qLx (qSx g) = if qLq (qSn g0 n p) < 10 then nI (qLq (qSn g0 n p)) else -1 := by
  rw [RdA_sx hb h]
  by_cases q : p < n
  · rw [if_pos q]
    exact qLx_c _ (qSn_lt hb q)
  · rw [if_neg q]
    unfold qSn
    rw [if_neg q]
    decide
theorem qz_lims : ∀ k, k < 10 → qz_limits k = nI (qLm k) := by decide
theorem c_clauseX {X : qz_X} {d : Nat} {Q : qz_Q} {L n : Nat} {g0 : qz_G} (hb0 : RdB L n g0) (g : qz_G) (hF : RlF L g0 g) {i p o : Nat} {C : List qOp} (h : RdA L n g g p o C) (hi : i ≤ 12)
    (hq1 : ∀ g' q o' t k w1 w2, ClG (qSn g0 n) i p C q (C ++ t) k w1 w2 → RlF L g0 g' → (∀ r j, 52 ≤ r → r ≤ 56 → g'.1 r j = g.1 r j) → RdA L n g' g' q o' (C ++ t) → p < q → g'.1 7 9 = nI k → g'.1 7 10 = nI w1 → w1 ≤ qLm k → g'.1 7 11 = (if k = 9 then nI w2 else -1) → w2 ≤ 11 → (¬ g.1 7 12 = 0 → ¬ g'.1 7 12 = 0) → qTy (C ++ t) (g'.1 7 12) C.length (C ++ t).length → Q g' 0 0)
    (hq2 : ∀ g' kd at_, ClF (qSn g0 n) i p C kd at_ → RlF L g0 g' → RdD L g' g' kd at_ → Q g' 0 0) : qz_Call X (d + 25) 73 [.ref 7, .int (nI i)] g Q := by
  have hb := hF.B hb0
  have hsn := hF.sn n
  have hn := hb.2.1
  have hpn := h.2.2.2.2.2.2.1
  have hCp := h.2.2.2.2.2.2.2.1
  have hlx := qLx_A hb h
  rw [hsn] at hlx
  refine v_X6_readClause (d := d + 21) g (nI i) ⟨RdF_11 hb h.1, fun z => ⟨fun q => absurd h.2.1 q, fun _ => ?_⟩, fun z => ⟨fun c => ?_, fun c => ⟨fun q => absurd h.2.1 q, fun _ => ?_⟩⟩⟩
  · have hk : ¬ qLq (qSn g0 n p) < 10 := by
      intro w
      rw [hlx, if_pos w, qz_eq, nI_toInt (by omega), qz_m1] at z
      omega
    refine hq2 _ 1 p (Or.inl ⟨hk, rfl, rfl⟩) ((hF.u7 (by omega) _).u7 (by omega) _) ?_
    have h9 : RdA L n (qz_ui g 7 9 (qLx (qSx g))) (qz_ui g 7 9 (qLx (qSx g))) p o C := h.re (fun r k n1 n2 => ui_n (by omega))
    exact (h9.bl (kd := 1) (at_ := p) (((RlF.rf L g).u7 (by omega) _).B hb) (by rw [h.2.2.1, qFv_1]) (by omega) (by omega) (by omega)).re (fun _ _ _ _ => rfl)
  · have hk : qLq (qSn g0 n p) < 10 := by
      by_cases w : qLq (qSn g0 n p) < 10
      · exact w
      · rw [hlx, if_neg w] at z; exact absurd rfl z
    have hi12 : i < 12 := by
      rw [qz_lt, qz_n12, nI_toInt (by omega)] at c; omega
    rw [hlx, if_pos hk]
    have hin : p < n := by
      by_cases w : p < n
      · exact w
      · unfold qSn at hk
        rw [if_neg w] at hk
        exact absurd hk (by decide)
    refine ⟨qz_vi (by rw [nI_toInt (by omega)]; omega) (by rw [nI_toInt (by omega)]; omega), ?_⟩
    rw [nI_clamp (by omega), qz_lims _ hk]
    have hlm : qLm (qLq (qSn g0 n p)) < 1000000 := by
      unfold qLm
      repeat' split
      all_goals omega
    have hF1 : RlF L g0 (qz_ui (qz_ui g 7 9 (nI (qLq (qSn g0 n p)))) 7 5 (g.1 7 5 + 1)) := (hF.u7 (by omega) _).u7 (by omega) _
    have h1 : RdA L n (qz_ui (qz_ui g 7 9 (nI (qLq (qSn g0 n p)))) 7 5 (g.1 7 5 + 1)) (qz_ui (qz_ui g 7 9 (nI (qLq (qSn g0 n p)))) 7 5 (g.1 7 5 + 1)) (p + 1) o C := ((h.re (g' := qz_ui g 7 9 (nI (qLq (qSn g0 n p)))) (fun r k n1 n2 => ui_n (by omega))).u5 (p' := p + 1) (by rw [h.2.2.1, nI_1]) (by omega) (by omega)).re (fun _ _ _ _ => rfl)
    have k1 : (qz_ui (qz_ui g 7 9 (nI (qLq (qSn g0 n p)))) 7 5 (g.1 7 5 + 1)).1 7 9 = nI (qLq (qSn g0 n p)) := by rw [ui_n (by omega), ui_s]
    have k12 : (qz_ui (qz_ui g 7 9 (nI (qLq (qSn g0 n p)))) 7 5 (g.1 7 5 + 1)).1 7 12 = g.1 7 12 := by rw [ui_n (by omega), ui_n (by omega)]
    have k5 : ∀ r j, 52 ≤ r → r ≤ 56 → (qz_ui (qz_ui g 7 9 (nI (qLq (qSn g0 n p)))) 7 5 (g.1 7 5 + 1)).1 r j = g.1 r j := fun r j _ _ => by rw [ui_n (by omega), ui_n (by omega)]
    generalize qz_ui (qz_ui g 7 9 (nI (qLq (qSn g0 n p)))) 7 5 (g.1 7 5 + 1) = g1 at hF1 h1 k1 k12 k5
    have hb1 := hF1.B hb0
    have hs1 := hF1.sn n
    refine c_limA (d := d + 20) hb1 g1 h1 (qLm (qLq (qSn g0 n p))) rfl (by omega) (fun g4 l0 h4 l2 l3 e4 => ?_) (fun g4 v l0 h4 => ?_)
    · rw [hs1] at l0 h4 l2 l3
      have hk1 := h4.1.2 7 9 (by omega) (by omega)
      have hF4 : RlF L g0 g4 := hF1.tr (RlF.ofD h4.1)
      have h51 : ∀ r j, 52 ≤ r → r ≤ 56 → g4.1 r j = g.1 r j := fun r j a b => by rw [h4.1.2 r j (by omega) (by omega)]; exact k5 r j a b
      rw [hs1]
      generalize hr : (qLim (qSn g0 n) (p + 1) (qLm (qLq (qSn g0 n p)))).2.1 = r at h4 l2
      generalize hw1 : (qLim (qSn g0 n) (p + 1) (qLm (qLq (qSn g0 n p)))).2.2 = w1 at l3 ⊢
      have mk : ∀ q C' w2, ClB (qSn g0 n) C (qLq (qSn g0 n p)) r q C' w2 → ClG (qSn g0 n) i p C q C' (qLq (qSn g0 n p)) w1 w2 := fun q C' w2 hB => ⟨rfl, hk, hi12, l0, hw1.symm, by rw [hr]; exact hB⟩
      have mkF : ∀ kd at_, ClE (qSn g0 n) C (qLq (qSn g0 n p)) r kd at_ → ClF (qSn g0 n) i p C kd at_ := fun kd at_ hE => Or.inr (Or.inr (Or.inr ⟨hk, hi12, l0, by rw [hr]; exact hE⟩))
      have hF5 : RlF L g0 (qz_ui (qz_ui g4 7 10 (nI w1)) 7 11 (-1)) := (hF4.u7 (by omega) _).u7 (by omega) _
      have h5 : RdA L n (qz_ui (qz_ui g4 7 10 (nI w1)) 7 11 (-1)) (qz_ui (qz_ui g4 7 10 (nI w1)) 7 11 (-1)) r o C := h4.re (fun a b n1 n2 => by rw [ui_n (by omega), ui_n (by omega)])
      have m9 : (qz_ui (qz_ui g4 7 10 (nI w1)) 7 11 (-1)).1 7 9 = nI (qLq (qSn g0 n p)) := by rw [ui_n (by omega), ui_n (by omega), hk1]; exact k1
      have m10 : (qz_ui (qz_ui g4 7 10 (nI w1)) 7 11 (-1)).1 7 10 = nI w1 := by rw [ui_n (by omega), ui_s]
      have m11 : (qz_ui (qz_ui g4 7 10 (nI w1)) 7 11 (-1)).1 7 11 = -1 := ui_s _ _ _ _
      have m12 : (qz_ui (qz_ui g4 7 10 (nI w1)) 7 11 (-1)).1 7 12 = g.1 7 12 := by rw [ui_n (by omega), ui_n (by omega), e4]; exact k12
      have m5 : ∀ r j, 52 ≤ r → r ≤ 56 → (qz_ui (qz_ui g4 7 10 (nI w1)) 7 11 (-1)).1 r j = g.1 r j := fun r j a b => by rw [ui_n (by omega), ui_n (by omega)]; exact h51 r j a b
      generalize qz_ui (qz_ui g4 7 10 (nI w1)) 7 11 (-1) = g5 at hF5 h5 m9 m10 m11 m12 m5 ⊢
      have hb5 := hF5.B hb0
      have hs5 := hF5.sn n
      have hrn := h5.2.2.2.2.2.2.1
      have e9 : g5.1 7 9 = 9 ↔ qLq (qSn g0 n p) = 9 := by
        rw [m9]
        exact ⟨fun w => nI_inj (by omega) (by omega) (w.trans (by decide : (9 : Int32) = nI 9)), fun w => by rw [w]; rfl⟩
      refine v_X6_readClause_81 (d := d + 21) g5 ⟨fun n9 => ⟨RdF_11 hb5 h5.1, fun n40 => ?_, fun y40 => ?_⟩, fun y9 => ?_⟩
      · have n9' : ¬ qLq (qSn g0 n p) = 9 := fun w => n9 (e9.mpr w)
        have i40 := RdA_is hb5 h5 (c := 40) (s := 40) (by decide) (by decide)
        rw [hs5] at i40
        refine hq1 g5 r o [] (qLq (qSn g0 n p)) w1 0 (mk r (C ++ []) 0 (Or.inr (Or.inl ⟨n9', fun w => n40 (i40.mpr w), rfl, rfl, List.append_nil C⟩))) hF5 m5 (by rw [List.append_nil]; exact h5) (by omega) m9 m10 l3 (by rw [if_neg n9']; exact m11) (by omega) (fun w => by rw [m12]; exact w) (Or.inl (by rw [List.append_nil]))
      · have n9' : ¬ qLq (qSn g0 n p) = 9 := fun w => n9 (e9.mpr w)
        have i40 := RdA_is hb5 h5 (c := 40) (s := 40) (by decide) (by decide)
        rw [hs5] at i40
        have s40 := i40.mp y40
        have hin5 : r < n := qSn_in (g0 := g0) (by omega)
        have c0 : (qz_ui g5 7 7 0).1 7 7 = 0 := ui_s _ _ _ _
        have c5 : (qz_ui g5 7 7 0).1 7 5 = nI r := by rw [ui_n (by omega)]; exact h5.2.2.1
        refine v_X6_readClause_123 (d := d + 21) _ ⟨fun _ => ?_, fun w => absurd (by rw [c0]; decide) w⟩
        rw [c0, c5]
        have hF6 : RlF L g0 (qz_ui (qz_ui (qz_ui g5 7 7 0) 7 7 (0 + 1)) 7 5 (nI r + 1)) := ((hF5.u7 (by omega) _).u7 (by omega) _).u7 (by omega) _
        have h6 : RdA L n (qz_ui (qz_ui (qz_ui g5 7 7 0) 7 7 (0 + 1)) 7 5 (nI r + 1)) (qz_ui (qz_ui (qz_ui g5 7 7 0) 7 7 (0 + 1)) 7 5 (nI r + 1)) (r + 1) 1 C := (((h5.u7o (o' := 0) (v := 0) rfl (by omega)).u7o (o' := 1) (v := 0 + 1) (by decide) (by omega)).u5 (p' := r + 1) (v := nI r + 1) (nI_1 r) (by omega) (by omega)).re (fun _ _ _ _ => rfl)
        have q9 : (qz_ui (qz_ui (qz_ui g5 7 7 0) 7 7 (0 + 1)) 7 5 (nI r + 1)).1 7 9 = nI (qLq (qSn g0 n p)) := by rw [ui_n (by omega), ui_n (by omega), ui_n (by omega)]; exact m9
        have q10 : (qz_ui (qz_ui (qz_ui g5 7 7 0) 7 7 (0 + 1)) 7 5 (nI r + 1)).1 7 10 = nI w1 := by rw [ui_n (by omega), ui_n (by omega), ui_n (by omega)]; exact m10
        have q11 : (qz_ui (qz_ui (qz_ui g5 7 7 0) 7 7 (0 + 1)) 7 5 (nI r + 1)).1 7 11 = -1 := by rw [ui_n (by omega), ui_n (by omega), ui_n (by omega)]; exact m11
        have q12 : (qz_ui (qz_ui (qz_ui g5 7 7 0) 7 7 (0 + 1)) 7 5 (nI r + 1)).1 7 12 = g.1 7 12 := by rw [ui_n (by omega), ui_n (by omega), ui_n (by omega)]; exact m12
        have q5 : ∀ a j, 52 ≤ a → a ≤ 56 → (qz_ui (qz_ui (qz_ui g5 7 7 0) 7 7 (0 + 1)) 7 5 (nI r + 1)).1 a j = g.1 a j := fun a j x y => by rw [ui_n (by omega), ui_n (by omega), ui_n (by omega)]; exact m5 a j x y
        generalize qz_ui (qz_ui (qz_ui g5 7 7 0) 7 7 (0 + 1)) 7 5 (nI r + 1) = g6 at hF6 h6 q9 q10 q11 q12 q5 ⊢
        have hb6 := hF6.B hb0
        have hs6 := hF6.sn n
        refine (pie_any hb6 5).2 d _ g6 (r + 1) 1 C h6 rfl (by omega) (fun g2 r2 => ?_)
        rw [hs6, q12] at r2
        rcases r2 with ⟨p2, t, a1, a2, a3, a4, a5, a6, a7⟩ | ⟨kd, at_, a1, a2⟩
        · have i41 := RdA_is hb6 a1 (c := 41) (s := 41) (by decide) (by decide)
          rw [hs6] at i41
          have hp2 := a1.2.2.2.2.2.2.1
          obtain ⟨hw', x⟩ := a5 0 [(13, 0)] ⟨0, [], rfl⟩
          refine ⟨RdF_11 hb6 a1.1, fun z2 => ?_, fun z2 => ⟨fun q => absurd a1.2.1 q, fun _ => ?_⟩⟩
          · have s41 := i41.mp z2
            have hin2 : p2 < n := qSn_in (g0 := g0) (by omega)
            have fr : ∀ a b : Nat, ¬ (a = 7 ∧ (b = 5 ∨ b = 7)) → (qz_ui (qz_ui g2 7 7 (g2.1 7 7 - 1)) 7 5 (g2.1 7 5 + 1)).1 a b = g2.1 a b := fun a b hab => by rw [ui_n (by omega), ui_n (by omega)]
            refine hq1 _ (p2 + 1) 0 t (qLq (qSn g0 n p)) w1 0 (mk (p2 + 1) (C ++ t) 0 (Or.inr (Or.inr ⟨n9', s40, rfl, hw', x.st (s5_par _ s41)⟩))) (((hF6.tr (RlF.ofD a1.1)).u7 (by omega) _).u7 (by omega) _) (fun a j b1 b2 => by rw [fr a j (by omega), a1.1.2 a j (by omega) (by omega)]; exact q5 a j b1 b2) (((a1.u7o (o' := 0) (by rw [a1.2.2.2.1]; exact nI_pred 0) (by omega)).u5 (p' := p2 + 1) (by rw [a1.2.2.1, nI_1]) (by omega) (by omega)).re (fun _ _ _ _ => rfl)) (by omega) (by rw [fr 7 9 (by omega), a1.1.2 7 9 (by omega) (by omega)]; exact q9) (by rw [fr 7 10 (by omega), a1.1.2 7 10 (by omega) (by omega)]; exact q10) l3 (by rw [fr 7 11 (by omega), a1.1.2 7 11 (by omega) (by omega), if_neg n9']; exact q11) (by omega) (fun w => by rw [fr 7 12 (by omega)]; exact a2 w) ?_
            rw [fr 7 12 (by omega)]
            exact qTg_ty a4 (by omega)
          · refine hq2 _ 1 p2 (mkF 1 p2 (Or.inr (Or.inr ⟨n9', s40, x.st (s5_parF _ a6 a7 (fun w => z2 (i41.mpr w)))⟩))) ((((hF6.tr (RlF.ofD a1.1)).u7 (by omega) _).u7 (by omega) _).u7 (by omega) _) ((((a1.bl (kd := 1) (at_ := p2) hb6 (by rw [a1.2.2.1, qFv_1]) (by omega) (by omega) (by omega)).u7 (by omega) _).u7 (by omega) _).re (fun _ _ _ _ => rfl))
        · have fin : Q (qz_ui (qz_ui g2 7 7 (g2.1 7 7 - 1)) 7 5 (g2.1 7 5 + 1)) 0 0 := hq2 _ kd at_ (mkF kd at_ (Or.inr (Or.inr ⟨n9', s40, a2 0 [(13, 0)] ⟨0, [], rfl⟩⟩))) (((hF6.tr (RlF.ofD a1.1)).u7 (by omega) _).u7 (by omega) _) (((a1.u7 (by omega) _).u7 (by omega) _).re (fun _ _ _ _ => rfl))
          exact ⟨RdF_11 hb6 a1.1, fun _ => fin, fun _ => ⟨fun _ => fin, fun q => absurd q a1.2.2.1⟩⟩
      · have y9' := e9.mp y9
        refine c_passA (d := d + 21) hb5 g5 h5 46 (by decide) (by decide) (fun g6 s46 h6 e6 => ?_) (fun g6 s46 h6 => ?_)
        · rw [hs5] at s46
          refine c_limA (d := d + 20) hb5 g6 h6 11 (by decide) (by decide) (fun g7 b0 h7 b2 b3 e7 => ?_) (fun g7 v b0 h7 => ?_)
          · rw [hs5] at b0 h7 b2 b3
            rw [hs5]
            have fr : ∀ a b : Nat, ¬ (a = 7 ∧ b = 11) → (qz_ui g7 7 11 (nI (qLim (qSn g0 n) (r + 1) 11).2.2)).1 a b = g7.1 a b := fun a b hab => ui_n (by omega)
            refine hq1 _ (qLim (qSn g0 n) (r + 1) 11).2.1 o [] (qLq (qSn g0 n p)) w1 (qLim (qSn g0 n) (r + 1) 11).2.2 (mk _ (C ++ []) _ (Or.inl ⟨y9', s46, b0, rfl, rfl, List.append_nil C⟩)) ((hF5.tr (RlF.ofD h7.1)).u7 (by omega) _) (fun a j x y => by rw [fr a j (by omega), h7.1.2 a j (by omega) (by omega)]; exact m5 a j x y) (by rw [List.append_nil]; exact h7.re (fun a b n1 n2 => fr a b (by omega))) (by omega) (by rw [fr 7 9 (by omega), h7.1.2 7 9 (by omega) (by omega)]; exact m9) (by rw [fr 7 10 (by omega), h7.1.2 7 10 (by omega) (by omega)]; exact m10) l3 (by rw [ui_s, if_pos y9']) b3 (fun w => by rw [fr 7 12 (by omega), e7, e6, m12]; exact w) (Or.inl (by rw [List.append_nil]))
          · rw [hs5] at b0 h7
            exact hq2 _ _ _ (mkF _ _ (Or.inr (Or.inl ⟨y9', s46, b0, rfl, rfl⟩))) ((hF5.tr (RlF.ofD h7.1)).u7 (by omega) _) (h7.re (fun a b n1 n2 => ui_n (by omega)))
        · rw [hs5] at s46
          refine D_lim (d := d + 20) hb5 g6 h6 11 ?_
          exact hq2 _ 1 r (mkF 1 r (Or.inl ⟨y9', s46, rfl, rfl⟩)) ((hF5.tr (RlF.ofD h6.1)).u7 (by omega) _) (h6.re (fun a b n1 n2 => ui_n (by omega)))
    · rw [hs1] at l0 h4
      have hk1 := h4.1.2 7 9 (by omega) (by omega)
      have hF5 : RlF L g0 (qz_ui (qz_ui g4 7 10 v) 7 11 (-1)) := ((hF1.tr (RlF.ofD h4.1)).u7 (by omega) _).u7 (by omega) _
      have h5 : RdD L (qz_ui (qz_ui g4 7 10 v) 7 11 (-1)) (qz_ui (qz_ui g4 7 10 v) 7 11 (-1)) (qLim (qSn g0 n) (p + 1) (qLm (qLq (qSn g0 n p)))).1 (qLim (qSn g0 n) (p + 1) (qLm (qLq (qSn g0 n p)))).2.1 := h4.re (fun r k n1 n2 => by rw [ui_n (by omega), ui_n (by omega)])
      have hb5 := hF5.B hb0
      have hcl : ClF (qSn g0 n) i p C (qLim (qSn g0 n) (p + 1) (qLm (qLq (qSn g0 n p)))).1 (qLim (qSn g0 n) (p + 1) (qLm (qLq (qSn g0 n p)))).2.1 := Or.inr (Or.inr (Or.inl ⟨hk, hi12, l0, rfl, rfl⟩))
      generalize qz_ui (qz_ui g4 7 10 v) 7 11 (-1) = g5 at hF5 h5 hb5 ⊢
      have e5 := RdD_sx h5
      refine v_X6_readClause_81 (d := d + 21) g5 ⟨fun _ => ⟨RdF_11 hb5 h5.1, fun _ => hq2 g5 _ _ hcl hF5 h5, fun w => absurd w (by rw [e5]; decide)⟩, fun _ => ?_⟩
      refine D_pass (d := d + 21) hb5 g5 h5 46 (by decide) (by decide) (D_lim (d := d + 20) hb5 g5 h5 11 ?_)
      exact hq2 _ _ _ hcl (hF5.u7 (by omega) _) (h5.re (fun a b n1 n2 => ui_n (by omega)))
  · have hk : qLq (qSn g0 n p) < 10 := by
      by_cases w : qLq (qSn g0 n p) < 10
      · exact w
      · rw [hlx, if_neg w] at z; exact absurd rfl z
    have hi12 : ¬ i < 12 := by
      rw [qz_lt, qz_n12, nI_toInt (by omega)] at c; omega
    refine hq2 _ 4 p (Or.inr (Or.inl ⟨hk, hi12, rfl, rfl⟩)) ((hF.u7 (by omega) _).u7 (by omega) _) ?_
    have h9 : RdA L n (qz_ui g 7 9 (qLx (qSx g))) (qz_ui g 7 9 (qLx (qSx g))) p o C := h.re (fun r k n1 n2 => ui_n (by omega))
    exact (h9.bl (kd := 4) (at_ := p) (((RlF.rf L g).u7 (by omega) _).B hb) (by rw [h.2.2.1, qFv_4]) (by omega) (by omega) (by omega)).re (fun _ _ _ _ => rfl)
