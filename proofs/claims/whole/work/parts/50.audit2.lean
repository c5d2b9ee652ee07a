theorem w_X12_audit {X : qz_X} {d : Nat} {Q : qz_Q} (g : qz_G) (v1 v2 v3 : Int32) (n : Nat) (L : List Nat) (W : Nat → Prop) (hn : qI (g.1 12 72) 0 100) (en : n = (g.1 12 72).toNatClampNeg) (hL : L = qNf (g.1 141) n)
    (hO : HO (g.1 12 2) (g.1 12 1) (g.1 81) (g.1 96) (g.1 97)) (h13 : qI (g.1 12 55) 0 300) (h14 : qI (g.1 12 56) 0 200) (h15 : qI (g.1 12 71) 0 200) (hw : ∀ k, k < n → qR (g.1 135 k) (g.1 12 2))
    (hWk : ∀ k, k < n → (W k ↔ qUn (g.1 84) (g.1 12 55) (g.1 125) (g.1 124) (g.1 126) (g.1 12 56) (g.1 127) (g.1 130) (g.1 12 71) (g.1 131) (g.1 132) (g.1 133) (g.1 96) (g.1 97) (g.1 81) (g.1 82) (g.1 83) (g.1 135 k) (g.1 138 k) (g.1 12 0)))
    (hq0 : L.length = 0 ∨ ¬ qI v1 1 100 ∨ ¬ qI v2 0 65535 → ∀ g', Same g g' → Q g' (-1) 0)
    (hq : ¬ L.length = 0 → qI v1 1 100 → qI v2 0 65535 → ∀ g', Same g g' → Q g' (qAn (nI L.length) (nI (qDr (nI L.length) v1 400 v2 []).length) (qCt (fun j => W (qAt L (qAt (qDr (nI L.length) v1 400 v2 []) j))) (qDr (nI L.length) v1 400 v2 []).length) (fun j => nI (qAt L (qAt (qDr (nI L.length) v1 400 v2 []) j))) v3) 0) : qz_Call X (d + 4) 289 [.ref 12, .int v1, .int v2, .int v3] g Q := by
  have hm := qI_0 hn qz_n100
  have hc := qz_cl (g.1 12 72)
  have hLn : L.length ≤ n := by rw [hL]; exact qNf_len _ _
  have hLi := qz_nI (n := L.length) (by omega)
  have fin : ∀ (D : List Nat) (g' : qz_G), Same g g' → Drw L D 100 → (∀ j, j < D.length → g'.1 148 j = nI (qAt L (qAt D j))) →
      (∀ g', Same g g' → Q g' (qAn (nI L.length) (nI D.length) (qCt (fun j => W (qAt L (qAt D j))) D.length) (fun j => nI (qAt L (qAt D j))) v3) 0) → qz_WP X (d + 4) 289 Q 191 [(0, .ref 12), (3, .int v3), (4, .int (nI L.length)), (5, .int (nI D.length)), (6, .int (qCt (fun j => W (qAt L (qAt D j))) D.length))] [] g' := by
    intro D g' hS hD h148 hfin
    have hDl := hD.1
    have hDi := qz_nI (n := D.length) (by omega)
    have h1 := hfin g' hS
    unfold qAn at h1
    have e9 : (9 + nI D.length).toInt = 9 + D.length := by
      have := qz_ad (a := 9) (b := nI D.length) (by rw [qz_n9]; omega) (by rw [qz_n9]; omega)
      rw [qz_n9, hDi] at this
      exact this
    have e10 := (qz_rsub (v := v3) (c := 10) (n := nI D.length) (by decide) (by decide) (by omega)).2
    rw [qz_n10] at e10
    refine v_X12_audit_191 g' v3 _ _ _ ⟨fun c => ?_, fun c => ⟨fun e => ?_, fun e => ?_, fun e => ?_, fun e => ?_, fun e => ?_, trivial⟩⟩
    · rw [if_neg (fun z => by rw [z, qz_n0] at c; omega), if_neg (fun z => by rw [z, qz_n1] at c; omega), if_neg (fun z => by rw [z, qz_n2] at c; omega), if_neg (fun z => by rw [z, qz_n3] at c; omega), if_neg (fun z => by rw [z, qz_n4] at c; omega)] at h1
      refine ⟨fun e => ?_, fun e => ?_⟩
      · simp only [qI, qz_lt, qz_n10, e9] at e
        have e11 := e10 (by omega)
        have hcl := qz_cl (v3 - 10)
        rw [if_pos ⟨by omega, by rw [hDi]; omega⟩] at h1
        refine ⟨qz_vi (by omega) (by omega), ?_⟩
        rw [h148 _ (by omega)]
        exact h1
      · simp only [qI, qz_lt, qz_n10, e9] at e
        rw [if_neg (by rw [hDi]; omega)] at h1
        exact h1
    · rw [if_pos e] at h1; exact h1
    · subst e; exact h1
    · subst e; exact h1
    · subst e; exact h1
    · subst e; exact h1
  have key : ∀ (m : Nat) (x : Int32) (D : List Nat) (g' : qz_G), m ≤ 400 → ¬ L.length = 0 → qI v1 1 100 → (0 ≤ x.toInt ∧ x.toInt ≤ 65535) → Same g g' → Drw L D 100 → (∀ k, k < n → (¬ g'.1 149 k = 0 ↔ ∃ i, i ∈ D ∧ qAt L i = k)) → (∀ j, j < D.length → g'.1 148 j = nI (qAt L (qAt D j))) →
      (∀ g', Same g g' → Q g' (qAn (nI L.length) (nI (qDr (nI L.length) v1 m x D).length) (qCt (fun j => W (qAt L (qAt (qDr (nI L.length) v1 m x D) j))) (qDr (nI L.length) v1 m x D).length) (fun j => nI (qAt L (qAt (qDr (nI L.length) v1 m x D) j))) v3) 0) → qz_WP X (d + 4) 289 Q 89 [(0, .ref 12), (1, .int v1), (3, .int v3), (4, .int (nI L.length)), (5, .int (nI D.length)), (6, .int (qCt (fun j => W (qAt L (qAt D j))) D.length)), (7, .int x), (8, .int (nI (400 - m)))] [] g' := by
    intro m
    induction m with
    | zero =>
      intro x D g' _ hne hv1 hx hS hD h149 h148 hfin
      exact v_X12_audit_89 g' v1 v3 _ _ _ x (nI (400 - 0)) ⟨fun _ => fin D g' hS hD h148 hfin, fun z => absurd (by decide) z⟩
    | succ m ih =>
      intro x D g' hm4 hne hv1 hx hS hD h149 h148 hfin
      have et := qz_nI (n := 400 - (m + 1)) (by omega)
      have hDl := hD.1
      have hDi := qz_nI (n := D.length) (by omega)
      have hxl := qz_lc hx
      have hxm := qz_mo (x := qLc x) (a := nI L.length) hxl.1 (by omega)
      have hci := qz_cl (qMo (qLc x) (nI L.length))
      have n400 : (400 : Int32).toInt = 400 := by decide
      have hv1' := hv1
      simp only [qI, qz_lt, qz_n1, qz_n100] at hv1'
      refine v_X12_audit_89 g' v1 v3 _ _ _ x (nI (400 - (m + 1))) ⟨fun z => ?_, fun _ => ⟨fun c => ?_, fun c => ⟨fun z => ?_, ?_⟩⟩⟩
      · rw [qz_le, et, n400] at z
        omega
      · rw [qz_le, hDi] at c
        rw [qDr, if_pos c] at hfin
        exact fin D g' hS hD h148 hfin
      · rw [qz_eq, hLi, qz_n0] at z
        omega
      · rw [qz_le, hDi] at c
        show qz_Call X (d + 3) 287 [.ref 12, .int (qMo (qLc x) (nI L.length))] g' (fun g3 r4 _ => qz_WP X (d + 4) 289 Q 130 [(0, .ref 12), (1, .int v1), (3, .int v3), (4, .int (nI L.length)), (5, .int (nI D.length)), (6, .int (qCt (fun j => W (qAt L (qAt D j))) D.length)), (7, .int (qLc x)), (8, .int (nI (400 - (m + 1)))), (9, .int r4)] [] g3)
        have hiL : (qMo (qLc x) (nI L.length)).toNatClampNeg < L.length := by omega
        have hse : qMo (qLc x) (nI L.length) = nI (qMo (qLc x) (nI L.length)).toNatClampNeg := (qz_self (by rw [qz_lt, qz_n0]; omega)).symm
        rw [hse]
        have s1 : g'.1 12 72 = g.1 12 72 := hS.2.1 (12, 72) (by decide)
        have s2 : g'.1 141 = g.1 141 := hS.1 141 (by decide)
        refine c_X12_leaveAt (d := d + 2) g' _ n L (by rw [s1]; exact hn) (by rw [s1]; exact en) (by rw [s2]; exact hL) hiL ?_
        have hki : qAt L (qMo (qLc x) (nI L.length)).toNatClampNeg < n := by rw [hL]; exact qNf_lt _ _ _ (by rw [← hL]; exact hiL)
        have hkn := qz_nI (n := qAt L (qMo (qLc x) (nI L.length)).toNatClampNeg) (by omega)
        refine v_X12_audit_130 g' v1 v3 _ _ _ _ _ _ ⟨qz_vi (by omega) (by omega), fun e3 => ⟨qz_vi (by omega) (by omega), ?_⟩, fun e3 => ?_⟩
        · rw [nI_clamp (by omega)] at e3 ⊢
          have hmem : ¬ (qMo (qLc x) (nI L.length)).toNatClampNeg ∈ D := fun z => (h149 _ hki).mpr ⟨_, z, rfl⟩ e3
          rw [qDr, if_neg c, if_neg hmem] at hfin
          rw [nI_clamp (show D.length < 2147483648 by omega), nI_1]
          have hS2 : Same g (qz_ui (qz_ui g' 149 (qAt L (qMo (qLc x) (nI L.length)).toNatClampNeg) (vp_nar .boolean 1)) 148 D.length (nI (qAt L (qMo (qLc x) (nI L.length)).toNatClampNeg))) := (hS.row 149 _ _ (by decide) (by decide)).row 148 _ _ (by decide) (by decide)
          have hD2 := Drw_add hD (show D.length < 100 by omega) hiL
          have go : ∀ b : Int32, b = qCt (fun j => W (qAt L (qAt (D ++ [(qMo (qLc x) (nI L.length)).toNatClampNeg]) j))) (D.length + 1) → qz_WP X (d + 4) 289 Q 185 [(0, .ref 12), (1, .int v1), (3, .int v3), (4, .int (nI L.length)), (5, .int (nI (D.length + 1))), (6, .int b), (7, .int (qLc x)), (8, .int (nI (400 - (m + 1))))] [] (qz_ui (qz_ui g' 149 (qAt L (qMo (qLc x) (nI L.length)).toNatClampNeg) (vp_nar .boolean 1)) 148 D.length (nI (qAt L (qMo (qLc x) (nI L.length)).toNatClampNeg))) := by
            intro b hb
            refine v_X12_audit_185 _ v1 v3 _ _ _ _ _ ?_
            rw [nI_1, show 400 - (m + 1) + 1 = 400 - m from by omega, hb]
            have hgo := ih (qLc x) (D ++ [(qMo (qLc x) (nI L.length)).toNatClampNeg]) _ (by omega) hne hv1 hxl hS2 hD2 (fun k hk => ?_) (fun j hj => ?_) hfin
            · rw [List.length_append, List.length_singleton] at hgo
              exact hgo
            · rw [qz_i1, if_neg (by decide), qz_i1, if_pos rfl, qz_u1]
              by_cases ek : k = qAt L (qMo (qLc x) (nI L.length)).toNatClampNeg
              · rw [if_pos ek]
                exact ⟨fun _ => ⟨_, List.mem_append_right _ (List.mem_singleton_self _), ek.symm⟩, fun _ => by decide⟩
              · rw [if_neg ek]
                refine (h149 k hk).trans ⟨fun ⟨i, h1, h2⟩ => ⟨i, List.mem_append_left _ h1, h2⟩, fun ⟨i, h1, h2⟩ => ?_⟩
                rcases List.mem_append.mp h1 with h3 | h3
                · exact ⟨i, h3, h2⟩
                · rw [List.mem_singleton.mp h3] at h2
                  exact absurd h2.symm ek
            · rw [List.length_append, List.length_singleton] at hj
              rw [qz_i1, if_pos rfl, qz_u1]
              by_cases ej : j = D.length
              · rw [if_pos ej, ej, qAt_e]
              · rw [if_neg ej, qz_i1, if_neg (by decide), qAt_l (by omega)]
                exact h148 j (by omega)
          have hcg : qCt (fun j => W (qAt L (qAt (D ++ [(qMo (qLc x) (nI L.length)).toNatClampNeg]) j))) D.length = qCt (fun j => W (qAt L (qAt D j))) D.length := qCt_congr _ (fun k hk => by rw [qAt_l hk])
          have hWe := hWk _ hki
          refine v_X12_audit_166 _ v1 v3 _ _ _ _ _ _ ?_
          have r12 : ∀ j, (qz_ui (qz_ui g' 149 (qAt L (qMo (qLc x) (nI L.length)).toNatClampNeg) (vp_nar .boolean 1)) 148 D.length (nI (qAt L (qMo (qLc x) (nI L.length)).toNatClampNeg))).1 12 j = g'.1 12 j := fun j => by rw [qz_i1, if_neg (by decide), qz_i1, if_neg (by decide)]
          rw [hS2.2.1 (12, 2) (by decide), hS2.2.1 (12, 1) (by decide), hS2.2.1 (12, 0) (by decide), hS2.2.1 (12, 55) (by decide), hS2.2.1 (12, 56) (by decide), hS2.2.1 (12, 71) (by decide), hS2.1 81 (by decide), hS2.1 82 (by decide), hS2.1 83 (by decide), hS2.1 84 (by decide), hS2.1 96 (by decide), hS2.1 97 (by decide), hS2.1 124 (by decide), hS2.1 125 (by decide), hS2.1 126 (by decide), hS2.1 127 (by decide), hS2.1 130 (by decide), hS2.1 131 (by decide), hS2.1 132 (by decide), hS2.1 133 (by decide), hS2.1 135 (by decide), hS2.1 138 (by decide), nI_clamp (show qAt L (qMo (qLc x) (nI L.length)).toNatClampNeg < 2147483648 by omega)]
          refine ⟨hO, ⟨by rw [qz_lt, hkn, qz_n0]; omega, by rw [qz_le, hkn, qz_n100]; omega⟩, hw _ hki, h13, h14, h15, fun e4 => ?_, fun e4 => ?_⟩
          · refine go _ ?_
            rw [qCt_pos (by rw [qAt_e]; exact hWe.mpr e4), hcg]
          · refine go _ ?_
            rw [qCt_neg (by rw [qAt_e]; exact fun z => e4 (hWe.mp z)), hcg, Int32.add_zero]
        · rw [nI_clamp (by omega)] at e3
          have hmem : (qMo (qLc x) (nI L.length)).toNatClampNeg ∈ D := by
            obtain ⟨i, h1, h2⟩ := (h149 _ hki).mp e3
            obtain ⟨j, h3, h4⟩ := qAt_mem h1
            have h5 := hD.2 j h3
            rw [h4] at h5
            have : i = (qMo (qLc x) (nI L.length)).toNatClampNeg := by
              rw [hL] at h5 hiL h2
              exact qNf_inj h5 (by rw [← hL] at hiL ⊢; exact hiL) (by rw [← hL] at h2 ⊢; exact h2)
            rw [← this]; exact h1
          rw [qDr, if_neg c, if_pos hmem] at hfin
          refine v_X12_audit_185 _ v1 v3 _ _ _ _ _ ?_
          rw [nI_1, show 400 - (m + 1) + 1 = 400 - m from by omega]
          exact ih (qLc x) D g' (by omega) hne hv1 hxl hS hD h149 h148 hfin
  refine v_X12_audit g v1 v2 v3 ?_
  refine qz_for (W := fun (a : qz_G × Int32) v => qz_WP X (d + 4) 289 Q 6 [(0, .ref 12), (1, .int v1), (2, .int v2), (3, .int v3), (4, .int a.2), (5, .int v)] [] a.1) (n := g.1 12 72) (fun i a => Same g a.1 ∧ a.2 = nI (qNf (g.1 141) i).length ∧ ∀ k, k < i → a.1.1 149 k = 0) hm.1 (by omega) (fun i a v hI e1 e2 hi hW => ?_) (g, 0) ⟨Same.rf g, rfl, fun k hk => by omega⟩
  obtain ⟨hS, h4, hk⟩ := hI
  have s1 : a.1.1 12 72 = g.1 12 72 := hS.2.1 (12, 72) (by decide)
  have s2 : a.1.1 141 = g.1 141 := hS.1 141 (by decide)
  have hl := qNf_len (g.1 141) i
  have hli := qz_nI (n := (qNf (g.1 141) i).length) (by omega)
  refine v_X12_audit_6 a.1 v1 v2 v3 a.2 v ?_
  rw [s1, s2, h4, e2, nI_1, qz_le, e1]
  refine ⟨fun c => ?_, fun c => ⟨qz_vi (by omega) (by omega), fun e3 => ?_, fun e3 => ?_⟩⟩
  · have ein : i = n := by omega
    rw [ein, ← hL] at hli ⊢
    refine ⟨fun c1 => ⟨fun c2 => ⟨fun c3 => ?_, fun c3 => ?_⟩, fun c2 => hq0 (Or.inr (Or.inr c2)) _ hS⟩, fun c1 => hq0 (Or.inr (Or.inl c1)) _ hS⟩
    · have hne : ¬ L.length = 0 := fun z => c3 (by rw [z]; rfl)
      have c2' := c2
      simp only [qI, qz_lt, qz_n0, qz_n65535] at c2'
      refine v_X12_audit_83 a.1 v1 v2 v3 _ _ _ ?_
      refine key 400 v2 [] a.1 (by omega) hne c1 (by omega) hS ⟨by show 0 ≤ 100; omega, fun j hj => by cases hj⟩ (fun k hk' => ?_) (fun j hj => by cases hj) (hq hne c1 c2)
      rw [hk k (by omega)]
      exact ⟨fun z => absurd rfl z, fun ⟨i, h1, _⟩ => by cases h1⟩
    · rw [qz_eq, hLi, qz_n0] at c3
      exact hq0 (Or.inl (by omega)) _ hS
  · refine hW (_, _) (by omega) ⟨hS.row 149 _ _ (by decide) (by decide), ?_, fun k hk' => ?_⟩
    · rw [qNf, if_pos e3, List.length_append, List.length_singleton]
      exact rfl
    · show (qz_ui a.1 149 i (vp_nar .boolean 0)).1 149 k = 0
      rw [qz_i1, if_pos rfl, qz_u1]
      by_cases ek : k = i
      · rw [if_pos ek]; rfl
      · rw [if_neg ek]; exact hk k (by omega)
  · refine hW (_, _) (by omega) ⟨hS.row 149 _ _ (by decide) (by decide), ?_, fun k hk' => ?_⟩
    · rw [qNf, if_neg e3]
      exact Int32.add_zero _
    · show (qz_ui a.1 149 i (vp_nar .boolean 0)).1 149 k = 0
      rw [qz_i1, if_pos rfl, qz_u1]
      by_cases ek : k = i
      · rw [if_pos ek]; rfl
      · rw [if_neg ek]; exact hk k (by omega)
theorem P_audit {X : qz_X} {d : Nat} {g : qz_G} (v1 v2 v3 : Int32) (hR : Rel g) : qz_Pair X (d + 8) 182 289 [.int v1, .int v2, .int v3] g := by
  have hE := hR.1
  have hS := hR.2.1
  have hB := hR.2.2.1
  have hO := HO_of hR
  have hV : RelV (g.1 12 72) (g.1 12 2) (g.1 12 0) (g.1 135) (g.1 136) (g.1 138) (g.1 140) := hR.2.2.2.2.2.2.2.2.2.2.1
  have hbl := hB.2.2.2.2.2.2.2.2.2.1
  have h13 := hB.2.2.2.2.2.2.1
  have h14 := hB.2.2.2.2.2.2.2.1
  have h15 := hB.2.2.2.2.2.2.2.2.1
  unfold RelS at hS
  unfold RelE at hE
  have hc := qz_cl (g.1 12 72)
  have hbl' := qI_0 hbl qz_n100
  have r1 : qI v1 1 100 ↔ (¬ v1 < 1 ∧ ¬ 100 < v1) := Iff.rfl
  have r2 := (qz_RI v2).2.2.2.2.2.2.2
  have mod : ∀ (g1 : qz_G) (r : Int32), Same g g1 → (qNf (g.1 141) (g.1 12 72).toNatClampNeg).length = 0 ∨ ¬ qI v1 1 100 ∨ ¬ qI v2 0 65535 → r = -1 → qz_Call X (d + 8) 289 [.ref 12, .int v1, .int v2, .int v3] g1 (fun g2 w l2 => r = w ∧ (0 : Int64) = l2 ∧ Rel g2) := by
    intro g1 r hs hz hr
    have hR1 := Rel_same hR hs
    refine w_X12_audit (d := d + 4) g1 v1 v2 v3 (g.1 12 72).toNatClampNeg (qNf (g.1 141) (g.1 12 72).toNatClampNeg) (fun k => qUn (g1.1 84) (g1.1 12 55) (g1.1 125) (g1.1 124) (g1.1 126) (g1.1 12 56) (g1.1 127) (g1.1 130) (g1.1 12 71) (g1.1 131) (g1.1 132) (g1.1 133) (g1.1 96) (g1.1 97) (g1.1 81) (g1.1 82) (g1.1 83) (g1.1 135 k) (g1.1 138 k) (g1.1 12 0)) hR1.2.2.1.2.2.2.2.2.2.2.2.2.1 (by rw [hs.2.1 (12, 72) (by decide)]) (by rw [hs.1 141 (by decide)]) (HO_of hR1) hR1.2.2.1.2.2.2.2.2.2.1 hR1.2.2.1.2.2.2.2.2.2.2.1 hR1.2.2.1.2.2.2.2.2.2.2.2.1 ?_ (fun k hk => Iff.rfl) (fun _ g2 hs2 => ⟨hr, rfl, Rel_same hR1 hs2⟩) (fun z1 z2 z3 => ?_)
    · intro k hk
      rw [hs.1 135 (by decide), hs.2.1 (12, 2) (by decide)]
      exact (hV k (by omega)).1
    · exact absurd hz (fun z => z.elim z1 (fun z => z.elim (fun z => z z2) (fun z => z z3)))
  refine v_X11_audit (d := d + 6) g v1 v2 v3 ⟨fun c1 => ?_, fun c1 => ⟨fun c2 => ?_, fun c2 => ⟨fun c3 => ?_, fun c3 => ?_⟩⟩⟩
  · exact mod g _ (Same.rf g) (Or.inr (Or.inl (fun z => z.1 c1))) rfl
  · exact mod g _ (Same.rf g) (Or.inr (Or.inl (fun z => z.2 c2))) rfl
  · refine c_X0_draw (d := d + 3) g v1 v2 (g.1 12 72).toNatClampNeg (qNf (g.1 141) (g.1 12 72).toNatClampNeg) (by simp only [hS]; exact hbl) (by simp only [hS]) (by simp only [hE]) ⟨c1, c2⟩ (r2.mp c3) (fun hz g1 hs => ⟨fun _ => mod g1 _ hs (Or.inl hz) rfl, fun z => absurd rfl z⟩) (fun hz g1 hs q4 q5 hD q77 => ⟨fun z => absurd z (by decide), fun _ => ?_⟩)
    have hR1 := Rel_same hR hs
    have hE1 := hR1.1
    have hS1 := hR1.2.1
    unfold RelS at hS1
    unfold RelE at hE1
    have hDl := hD.1
    have hkn : ∀ j, j < (qDr (nI (qNf (g.1 141) (g.1 12 72).toNatClampNeg).length) v1 400 v2 []).length → qAt (qNf (g.1 141) (g.1 12 72).toNatClampNeg) (qAt (qDr (nI (qNf (g.1 141) (g.1 12 72).toNatClampNeg).length) v1 400 v2 []) j) < (g.1 12 72).toNatClampNeg := fun j hj => qNf_lt _ _ _ (hD.2 j hj)
    have main : ∀ r : Int32, r = qAn (nI (qNf (g.1 141) (g.1 12 72).toNatClampNeg).length) (nI (qDr (nI (qNf (g.1 141) (g.1 12 72).toNatClampNeg).length) v1 400 v2 []).length) (qCt (fun j => qUn (g1.1 84) (g1.1 12 55) (g1.1 125) (g1.1 124) (g1.1 126) (g1.1 12 56) (g1.1 127) (g1.1 130) (g1.1 12 71) (g1.1 131) (g1.1 132) (g1.1 133) (g1.1 96) (g1.1 97) (g1.1 81) (g1.1 82) (g1.1 83) (g1.1 135 (qAt (qNf (g.1 141) (g.1 12 72).toNatClampNeg) (qAt (qDr (nI (qNf (g.1 141) (g.1 12 72).toNatClampNeg).length) v1 400 v2 []) j))) (g1.1 138 (qAt (qNf (g.1 141) (g.1 12 72).toNatClampNeg) (qAt (qDr (nI (qNf (g.1 141) (g.1 12 72).toNatClampNeg).length) v1 400 v2 []) j))) (g1.1 12 0)) (qDr (nI (qNf (g.1 141) (g.1 12 72).toNatClampNeg).length) v1 400 v2 []).length) (fun j => nI (qAt (qNf (g.1 141) (g.1 12 72).toNatClampNeg) (qAt (qDr (nI (qNf (g.1 141) (g.1 12 72).toNatClampNeg).length) v1 400 v2 []) j))) v3 → qz_Call X (d + 8) 289 [.ref 12, .int v1, .int v2, .int v3] g1 (fun g2 w l2 => r = w ∧ (0 : Int64) = l2 ∧ Rel g2) := by
      intro r hr
      refine w_X12_audit (d := d + 4) g1 v1 v2 v3 (g.1 12 72).toNatClampNeg (qNf (g.1 141) (g.1 12 72).toNatClampNeg) (fun k => qUn (g1.1 84) (g1.1 12 55) (g1.1 125) (g1.1 124) (g1.1 126) (g1.1 12 56) (g1.1 127) (g1.1 130) (g1.1 12 71) (g1.1 131) (g1.1 132) (g1.1 133) (g1.1 96) (g1.1 97) (g1.1 81) (g1.1 82) (g1.1 83) (g1.1 135 k) (g1.1 138 k) (g1.1 12 0)) hR1.2.2.1.2.2.2.2.2.2.2.2.2.1 (by rw [hs.2.1 (12, 72) (by decide)]) (by rw [hs.1 141 (by decide)]) (HO_of hR1) hR1.2.2.1.2.2.2.2.2.2.1 hR1.2.2.1.2.2.2.2.2.2.2.1 hR1.2.2.1.2.2.2.2.2.2.2.2.1 ?_ (fun k hk => Iff.rfl) (fun z => ?_) (fun z1 z2 z3 g2 hs2 => ⟨hr, rfl, Rel_same hR1 hs2⟩)
      · intro k hk
        rw [hs.1 135 (by decide), hs.2.1 (12, 2) (by decide)]
        exact (hV k (by omega)).1
      · exact absurd z (fun z => z.elim hz (fun z => z.elim (fun z => z ⟨c1, c2⟩) (fun z => z (r2.mp c3))))
    have hDi := qz_nI (n := (qDr (nI (qNf (g.1 141) (g.1 12 72).toNatClampNeg).length) v1 400 v2 []).length) (by omega)
    have bad : ∀ (Q : qz_Q), Q g1 (qCt (fun j => qUn (g1.1 84) (g1.1 12 55) (g1.1 125) (g1.1 124) (g1.1 126) (g1.1 12 56) (g1.1 127) (g1.1 130) (g1.1 12 71) (g1.1 131) (g1.1 132) (g1.1 133) (g1.1 96) (g1.1 97) (g1.1 81) (g1.1 82) (g1.1 83) (g1.1 135 (qAt (qNf (g.1 141) (g.1 12 72).toNatClampNeg) (qAt (qDr (nI (qNf (g.1 141) (g.1 12 72).toNatClampNeg).length) v1 400 v2 []) j))) (g1.1 138 (qAt (qNf (g.1 141) (g.1 12 72).toNatClampNeg) (qAt (qDr (nI (qNf (g.1 141) (g.1 12 72).toNatClampNeg).length) v1 400 v2 []) j))) (g1.1 12 0)) (qDr (nI (qNf (g.1 141) (g.1 12 72).toNatClampNeg).length) v1 400 v2 []).length) 0 → qz_Call X (d + 6) 4 [.ref 11, .int (g1.1 0 10)] g1 Q := by
      intro Q hq
      refine c_X0_wrongOnes (d := d) g1 _ _ (fun j => qAt (qNf (g.1 141) (g.1 12 72).toNatClampNeg) (qAt (qDr (nI (qNf (g.1 141) (g.1 12 72).toNatClampNeg).length) v1 400 v2 []) j)) hDl q5 q77 ?_ ?_ ?_ ?_ ?_ ?_
      all_goals simp only [hS1, hE1]
      · intro j hj
        have h1 := hkn j hj
        have h2 := qz_nI (n := qAt (qNf (g.1 141) (g.1 12 72).toNatClampNeg) (qAt (qDr (nI (qNf (g.1 141) (g.1 12 72).toNatClampNeg).length) v1 400 v2 []) j)) (by omega)
        have s72 : g1.1 12 72 = g.1 12 72 := hs.2.1 (12, 72) (by decide)
        have s2 : g1.1 12 2 = g.1 12 2 := hs.2.1 (12, 2) (by decide)
        rw [s72, s2, hs.1 135 (by decide)]
        exact ⟨⟨by rw [qz_lt, h2, qz_n0]; omega, by rw [qz_le, h2]; omega⟩, by omega, (hV _ (by omega)).1⟩
      · exact HO_of hR1
      · exact hR1.2.2.1.2.2.2.2.2.2.1
      · exact hR1.2.2.1.2.2.2.2.2.2.2.1
      · exact hR1.2.2.1.2.2.2.2.2.2.2.2.1
      · exact hq
    have e10 := qz_rsub (v := v3) (c := 10) (n := g1.1 11 5) (by decide) (by decide) (by rw [q5, hDi]; omega)
    rw [qz_n10, q5, hDi] at e10
    refine v_X0_result (d := d + 5) g1 v3 (g1.1 0 10) ?_
    rw [q4, q5]
    refine ⟨fun c4 => ⟨fun c5 => ?_, fun c5 => ⟨fun e => ?_, fun e => ?_, fun e => ?_, fun e => ?_, fun e => ?_, trivial⟩⟩, fun c4 => ⟨fun c5 => ⟨?_, ?_⟩, fun c5 => ?_⟩⟩
    · refine main _ ?_
      rw [qz_lt, qz_n10] at c4
      unfold qAn
      rw [if_neg (fun z => by rw [z, qz_n0] at c5; omega), if_neg (fun z => by rw [z, qz_n1] at c5; omega), if_neg (fun z => by rw [z, qz_n2] at c5; omega), if_neg (fun z => by rw [z, qz_n3] at c5; omega), if_neg (fun z => by rw [z, qz_n4] at c5; omega), if_neg (by omega)]
    · subst e; exact main _ rfl
    · subst e; exact bad _ (main _ rfl)
    · subst e; exact bad _ (main _ rfl)
    · subst e; exact bad _ (main _ rfl)
    · subst e; exact main _ rfl
    · have h6 := e10.1.mp c5
      have h7 := e10.2 h6.1
      exact qz_vi (by omega) (by omega)
    · have h6 := e10.1.mp c5
      have h7 := e10.2 h6.1
      have hcl := qz_cl (v3 - 10)
      rw [q77 _ (by omega)]
      refine main _ ?_
      unfold qAn
      rw [if_neg (fun z => by rw [z, qz_n0] at h6; omega), if_neg (fun z => by rw [z, qz_n1] at h6; omega), if_neg (fun z => by rw [z, qz_n2] at h6; omega), if_neg (fun z => by rw [z, qz_n3] at h6; omega), if_neg (fun z => by rw [z, qz_n4] at h6; omega), if_pos (by rw [hDi]; exact h6)]
    · refine main _ ?_
      have h6 := not_congr e10.1 |>.mp c5
      rw [qz_lt, qz_n10] at c4
      unfold qAn
      rw [if_neg (fun z => by rw [z, qz_n0] at c4; omega), if_neg (fun z => by rw [z, qz_n1] at c4; omega), if_neg (fun z => by rw [z, qz_n2] at c4; omega), if_neg (fun z => by rw [z, qz_n3] at c4; omega), if_neg (fun z => by rw [z, qz_n4] at c4; omega), if_neg (by rw [hDi]; exact h6)]
  · exact mod g _ (Same.rf g) (Or.inr (Or.inr (fun z => c3 (r2.mpr z)))) rfl
