/-! the reference's side of the laws -/
def qz_mr : List Nat := [79, 81, 82, 83, 84, 85, 86, 87, 88, 89, 90, 91, 92, 94, 95, 96, 97, 98, 107, 108, 109, 110, 111, 112, 113, 114, 115, 116, 122, 123, 124, 125, 126, 127, 128, 129, 130]
def qz_mc : List (Nat × Nat) := [(12, 1), (12, 2), (12, 3), (12, 41), (12, 55), (12, 56)]
/-- what the reference's laws read is the same -/
def SameM (g g' : qz_G) : Prop := (∀ r ∈ qz_mr, g'.1 r = g.1 r) ∧ (∀ q ∈ qz_mc, g'.1 q.1 q.2 = g.1 q.1 q.2)
theorem Same.toM {g g' : qz_G} (h : Same g g') : SameM g g' := ⟨fun r hr => h.1 r ((by decide : ∀ r ∈ qz_mr, r ∈ qz_kr) r hr), fun q hq => h.2.1 q ((by decide : ∀ q ∈ qz_mc, q ∈ qz_ks) q hq)⟩
theorem SameM.tr {g g1 g2 : qz_G} (h1 : SameM g g1) (h2 : SameM g1 g2) : SameM g g2 := ⟨fun r hr => (h2.1 r hr).trans (h1.1 r hr), fun q hq => (h2.2 q hq).trans (h1.2 q hq)⟩
def SamB (g0 gb g : qz_G) : Prop := SameM g0 g ∧ Same gb g
theorem SamB.of {g0 g : qz_G} (h : Same g0 g) : SamB g0 g0 g := ⟨h.toM, h⟩
theorem SamB.tr {g0 gb g g' : qz_G} (h : SamB g0 gb g) (h2 : Same g g') : SamB g0 gb g' := ⟨h.1.tr h2.toM, h.2.tr h2⟩
theorem SamB.row {g0 gb g : qz_G} (h : SamB g0 gb g) (o j : Nat) (v : Int32) (ho : qz_kr.elem o = false) (hs : (qz_ks.all (fun q => !(Nat.beq q.1 o))) = true) : SamB g0 gb (qz_ui g o j v) := h.tr ((Same.rf g).row o j v ho hs)
theorem SamB.ui {g0 gb g : qz_G} (h : SamB g0 gb g) (o j : Nat) (v : Int32) (ho : qz_kr.elem o = false) (hj : qz_ks.elem (o, j) = false) : SamB g0 gb (qz_ui g o j v) := h.tr ((Same.rf g).ui o j v ho hj)
theorem rN_12_1 {g0 gb g : qz_G} (hs : SamB g0 gb g) : g.1 12 1 = g0.1 12 1 := hs.1.2 (12, 1) (by decide)
theorem rN_12_2 {g0 gb g : qz_G} (hs : SamB g0 gb g) : g.1 12 2 = g0.1 12 2 := hs.1.2 (12, 2) (by decide)
theorem rN_12_3 {g0 gb g : qz_G} (hs : SamB g0 gb g) : g.1 12 3 = g0.1 12 3 := hs.1.2 (12, 3) (by decide)
theorem rN_12_41 {g0 gb g : qz_G} (hs : SamB g0 gb g) : g.1 12 41 = g0.1 12 41 := hs.1.2 (12, 41) (by decide)
theorem rN_12_55 {g0 gb g : qz_G} (hs : SamB g0 gb g) : g.1 12 55 = g0.1 12 55 := hs.1.2 (12, 55) (by decide)
theorem rN_12_56 {g0 gb g : qz_G} (hs : SamB g0 gb g) : g.1 12 56 = g0.1 12 56 := hs.1.2 (12, 56) (by decide)
theorem qFo_b {g0 gb g : qz_G} (hs : SamB g0 gb g) (hR : Rel g0) {land day : Int32} {A : Nat} (hA : A < 2147483648) : qFo (g.1 108) (g.1 109) (g.1 110) (nI A) land day ↔ qFg g0 land day A := by
  unfold qFo qFg
  rw [nI_clamp hA, hs.1.1 108 (by decide), hs.1.1 109 (by decide), hs.1.1 110 (by decide)]
def qSI (g0 gb : qz_G) (D : qDt) (land day : Int32) (R : Nat → Nat → Prop) (g : qz_G) : Prop := SamB g0 gb g ∧ ∀ a b : Nat, (a : Int) < (g0.1 12 41).toInt → b < 12 → (g.1 117 (12 * a + b) = 0 ↔ ¬ qSr g0 D land day R a b)
theorem qSr_same {g : qz_G} {D : qDt} {land day : Int32} {R R' : Nat → Nat → Prop} {a b : Nat} (h : ∀ i j, qSe g D land day i j a b → (R i j ↔ R' i j)) : qSr g D land day R a b ↔ qSr g D land day R' a b :=
  ⟨fun ⟨i, j, x, y⟩ => ⟨i, j, (h i j y).mp x, y⟩, fun ⟨i, j, x, y⟩ => ⟨i, j, (h i j y).mpr x, y⟩⟩
theorem qz_let9 : ∀ k, k < 10 → qz_letters k = 120 → k = 9 := by decide
theorem qz_letI : ∀ k, k < 10 → ∀ l, l < 10 → qz_letters k = qz_letters l → k = l := by decide
theorem c_X12_strikesB {X : qz_X} {d : Nat} {Q : qz_Q} {g0 gb : qz_G} {D : qDt} {land day : Int32} (hR : Rel g0) (hD : LwD g0 D) (g : qz_G) (hs : SamB g0 gb g) (hq : ∀ g', SamB g0 gb g' → (∀ a b : Nat, (a : Int) < (g0.1 12 41).toInt → b < 12 → (g'.1 117 (12 * a + b) = 0 ↔ ¬ qSkG g0 D land day a b)) → Q g' 0 0) : qz_Call X (d + 3) 238 [.ref 12, .int land, .int day] g Q := by
  have h20 := Rel_20 hR
  have e12 : (12 * g0.1 12 41).toInt = 12 * (g0.1 12 41).toInt := by
    rw [qz_ml (by rw [qz_n12]; omega) (by rw [qz_n12]; omega), qz_n12]
  refine v_X12_strikes g land day ?_
  refine qz_for (W := fun a v => qz_WP X (d + 3) 238 Q 2 [(0, .ref 12), (1, .int land), (2, .int day), (3, .int v)] [] a) (n := 12 * g0.1 12 41) (fun i a => SamB g0 gb a ∧ ∀ j, j < i → a.1 117 j = 0) (by omega) (by omega) (fun i a v hI ev cv hle cont => ?_) g ⟨hs, fun j hj => by omega⟩
  have e41 : a.1 12 41 = g0.1 12 41 := rN_12_41 hI.1
  refine v_X12_strikes_2 a land day v ?_
  rw [e41]
  refine ⟨fun z => ?_, fun z => ⟨?_, cont _ ?_ ⟨hI.1.row 117 _ _ (by decide) (by decide), fun j hj => ?_⟩⟩⟩
  rotate_left
  · rw [qz_le, e12, ev] at z
    exact qz_vi (by omega) (by omega)
  · rw [qz_le, e12, ev] at z
    omega
  · rw [qz_i1, if_pos rfl, qz_u1, cv]
    by_cases c : j = i
    · rw [if_pos c]
      rfl
    · rw [if_neg c]
      exact hI.2 j (by omega)
  rw [qz_le, e12, ev] at z
  have hI0 : qSI g0 gb D land day (fun i' _ => (g0.1 12 41).toNatClampNeg ≤ i') a := by
    refine ⟨hI.1, fun a2 b2 ha2 hb2 => ?_⟩
    rw [hI.2 (12 * a2 + b2) (by omega)]
    refine ⟨fun _ => ?_, fun _ => rfl⟩
    rintro ⟨i', j', x1, x2⟩
    have := x2.2.1
    have x1' : (g0.1 12 41).toNatClampNeg ≤ i' := x1
    omega
  rw [h20.2.2.1, Int32.sub_eq_add_neg]
  refine qz_down (W := fun a v => qz_WP X (d + 3) 238 Q 33 [(0, .ref 12), (1, .int land), (2, .int day), (3, .int v)] [] a) (fun m a => (m : Int) ≤ (g0.1 12 41).toInt ∧ qSI g0 gb D land day (fun i' _ => m ≤ i') a) 20 (by omega) ?_ ?_ _ a (by omega) ⟨by omega, hI0⟩
  · rintro m a hm ⟨hmc, hIa⟩ cont
    have em := qz_nI (n := m) (by omega)
    have cm : (nI m).toNatClampNeg = m := nI_clamp (by omega)
    have hi : (m : Int) < (g0.1 12 41).toInt := by omega
    have hc := (hD m hi).1
    simp only [qI, qz_lt, qz_n0, qz_n12] at hc
    refine v_X12_strikes_33 a land day (nI m) ⟨fun z => ?_, fun _ => ?_⟩
    · rw [qz_lt, em, qz_n0] at z
      omega
    refine qz_for (W := fun a v => qz_WP X (d + 3) 238 Q 40 [(0, .ref 12), (1, .int land), (2, .int day), (3, .int (nI m)), (4, .int v)] [] a) (n := g0.1 111 m) (fun i a => qSI g0 gb D land day (fun i' j' => m < i' ∨ (i' = m ∧ j' < i)) a) (by omega) (by omega) (fun j a v hI ev cv hle cont2 => ?_) a ?_
    · have hs := hI.1
      have evn : v = nI j := by
        rw [qz_eq, ev, qz_nI (by omega)]
      subst evn
      have e111 : a.1 111 = g0.1 111 := hs.1.1 111 (by decide)
      refine v_X12_strikes_40 a land day (nI m) (nI j) ?_
      have ep : (12 : Int32) * nI m + nI j = nI (12 * m + j) := by
        show nI 12 * nI m + nI j = _
        rw [nI_mul, nI_add]
      have epp := qz_nI (n := 12 * m + j) (by omega)
      have cp : (nI (12 * m + j)).toNatClampNeg = 12 * m + j := nI_clamp (by omega)
      rw [cm, e111, ep, cp]
      refine ⟨qz_vi (by omega) (by omega), fun z => ?_, fun z => ⟨⟨by rw [qz_lt, em, qz_n0]; omega, by rw [qz_le, em, qz_n20]; omega⟩, fun hf => ?_, fun hf => ?_⟩⟩
      · rw [qz_le, ev] at z
        refine cont a ⟨by omega, hs, fun a2 b2 ha2 hb2 => (hI.2 a2 b2 ha2 hb2).trans (not_congr (qSr_same (fun i' j' h => ?_)))⟩
        have h1 := h.2.2.1
        constructor
        · rintro (x | x)
          · exact Nat.le_of_lt x
          · exact Nat.le_of_eq x.1.symm
        · intro x
          rcases Nat.lt_or_eq_of_le x with x | x
          · exact Or.inl x
          · subst x
            exact Or.inr ⟨rfl, by omega⟩
      · rw [qz_le, ev] at z
        have hj : (j : Int) < (g0.1 111 m).toInt := by omega
        have hj12 := LwD_12 hD hi hj
        have hfo := (qFo_b hs hR (by omega)).mp hf
        obtain ⟨l1, l2, l3, l4, l5, l6, l7, l8, l9, l10, l11, l12, l13, l14, l15⟩ := (hD m hi).2 j hj
        have e112 : a.1 112 (12 * m + j) = qz_letters (D.2.2.2 (12 * m + j)) := by rw [hs.1.1 112 (by decide)]; exact l7
        have e115 : a.1 115 = g0.1 115 := hs.1.1 115 (by decide)
        have e116 : a.1 116 = g0.1 116 := hs.1.1 116 (by decide)
        have hstr : a.1 117 (12 * m + j) = 0 ↔ ¬ qSkG g0 D land day m j := (hI.2 m j hi hj12).trans (not_congr (qSr_full h20.2.1 (fun i' j' h => Or.inl h)))
        have stay : (∀ a2 b2, ¬ qSe g0 D land day m j a2 b2) → qSI g0 gb D land day (fun i' j' => m < i' ∨ (i' = m ∧ j' < j + 1)) a := by
          intro hev
          refine ⟨hs, fun a2 b2 ha2 hb2 => (hI.2 a2 b2 ha2 hb2).trans (not_congr (qSr_same (fun i' j' h => ?_)))⟩
          constructor
          · rintro (x | x)
            · exact Or.inl x
            · exact Or.inr ⟨x.1, by omega⟩
          · rintro (x | x)
            · exact Or.inl x
            · by_cases c : j' = j
              · rw [x.1, c] at h
                exact absurd h (hev a2 b2)
              · exact Or.inr ⟨x.1, by omega⟩
        rw [e112, e115, e116]
        refine ⟨qz_vi (by omega) (by omega), fun c9 => ?_, fun c9 => ⟨fun cs => ?_, fun cs => ?_⟩⟩
        · refine cont2 a (by omega) (stay (fun a2 b2 h => c9 ?_))
          rw [h.2.2.2.2.2.1]
          rfl
        · have hsk : qSkG g0 D land day m j := Classical.byContradiction (fun z => cs (hstr.mpr z))
          exact cont2 a (by omega) (stay (fun a2 b2 h => h.2.2.2.2.2.2.2.2 hsk))
        · have e9 := qz_let9 _ l1 c9
          have hns := hstr.mp cs
          rw [e9] at l9 l10
          obtain ⟨l10a, l10b⟩ := l10 rfl
          have n19 : (qz_limits 9).toInt = 19 := by decide
          simp only [qI, qz_lt, qz_n0, qz_n11, n19] at l9 l10b
          obtain ⟨A, hA, eA⟩ := qz_nat (x := g0.1 115 (12 * m + j)) (b := 19) (by omega) (by omega)
          obtain ⟨b, hb, eb⟩ := qz_nat (x := g0.1 116 (12 * m + j)) (b := 11) (by omega) (by omega)
          have eA2 := qz_nI (n := A) (by omega)
          have ev1 : ∀ a2 b2, qSe g0 D land day m j a2 b2 → a2 = A := by
            intro a2 b2 z
            have h1 := z.2.2.2.2.2.2.1
            rw [eA] at h1
            have h2 := z.1
            exact (nI_inj (by omega) (by omega) h1).symm
          have ei : (12 : Int32) * nI A + nI b = nI (12 * A + b) := by
            show nI 12 * nI A + nI b = _
            rw [nI_mul, nI_add]
          have cAb : (nI (12 * A + b)).toNatClampNeg = 12 * A + b := nI_clamp (by omega)
          have eAb := qz_nI (n := 12 * A + b) (by omega)
          rw [eA, eb, ei, cAb]
          refine ⟨fun z2 => ?_, fun z2 => ⟨⟨by rw [qz_lt, eA2, qz_n0]; omega, by rw [qz_le, eA2, qz_n20]; omega⟩, fun hf2 => ⟨qz_vi (by omega) (by omega), ?_⟩, fun hf2 => ?_⟩⟩
          · refine cont2 a (by omega) (stay (fun a2 b2 h => ?_))
            rw [qz_le, em, eA2] at z2
            have := ev1 a2 b2 h
            have := h.1
            omega
          · have hfg := (qFo_b hs hR (by omega)).mp hf2
            have hAi : A < m := by
              rw [qz_le, em, eA2] at z2
              omega
            have hev : qSe g0 D land day m j A b := ⟨hAi, hi, hj, hfo, hfg, e9, eA, eb, hns⟩
            refine cont2 _ (by omega) ⟨hs.row 117 _ _ (by decide) (by decide), fun a2 b2 ha2 hb2 => ?_⟩
            rw [qz_i1, if_pos rfl, qz_u1]
            by_cases c : 12 * a2 + b2 = 12 * A + b
            · have ea : a2 = A := by omega
              have eb2 : b2 = b := by omega
              rw [if_pos c, ea, eb2]
              refine ⟨fun z3 => absurd z3 (by decide), fun z3 => absurd ⟨m, j, Or.inr ⟨rfl, by omega⟩, hev⟩ z3⟩
            · rw [if_neg c]
              refine (hI.2 a2 b2 ha2 hb2).trans (not_congr (qSr_same (fun i' j' h => ?_)))
              constructor
              · rintro (x | x)
                · exact Or.inl x
                · exact Or.inr ⟨x.1, by omega⟩
              · rintro (x | x)
                · exact Or.inl x
                · by_cases c2 : j' = j
                  · rw [x.1, c2] at h
                    have h1 := ev1 a2 b2 h
                    have h2 := h.2.2.2.2.2.2.2.1
                    rw [eb] at h2
                    have h3 := nI_inj (by omega) (by omega) h2
                    omega
                  · exact Or.inr ⟨x.1, by omega⟩
          · refine cont2 a (by omega) (stay (fun a2 b2 h => hf2 ((qFo_b hs hR (by omega)).mpr ?_)))
            have e := ev1 a2 b2 h
            have h2 := h.2.2.2.2.1
            rw [e] at h2
            exact h2
      · refine cont a ⟨by omega, hs, fun a2 b2 ha2 hb2 => (hI.2 a2 b2 ha2 hb2).trans (not_congr (qSr_same (fun i' j' h => ?_)))⟩
        have hne : ¬ i' = m := fun z2 => hf ((qFo_b hs hR (by omega)).mpr (z2 ▸ h.2.2.2.1))
        constructor
        · rintro (x | x)
          · exact Nat.le_of_lt x
          · exact absurd x.1 hne
        · intro x
          exact Or.inl (by omega)
    · refine ⟨hIa.1, fun a2 b2 ha2 hb2 => (hIa.2 a2 b2 ha2 hb2).trans (not_congr (qSr_same (fun i' j' h => ?_)))⟩
      constructor
      · intro x
        exact Or.inl x
      · rintro (x | x)
        · exact x
        · omega
  · rintro a ⟨_, hIa⟩
    exact v_X12_strikes_33 a land day _ ⟨fun _ => hq a hIa.1 (fun a2 b2 ha2 hb2 => (hIa.2 a2 b2 ha2 hb2).trans (not_congr (qSr_full h20.2.1 (fun i' j' h => Nat.zero_le _)))), fun z => absurd (by decide) z⟩
theorem c_X12_setsFactsB {X : qz_X} {d : Nat} {Q : qz_Q} {g0 gb : qz_G} {w day t : Int32} (hR : Rel g0) (g : qz_G) (hs : SamB g0 gb g) (hw : qR w (g0.1 12 2)) (hq : ∀ g', Frm [119] g g' → (∀ v, v < 8 → g'.1 119 v = qFa g0 w day t v) → Q g' 0 0) : qz_Call X (d + 3) 239 [.ref 12, .int w, .int day, .int t] g Q := by
  have fin : ∀ (x5 x6 : Int32), x5 = qFa g0 w day t 5 → x6 = (if g0.1 94 w.toNatClampNeg = -1 then 0 else 1) → Q (qz_8 g 119 (g0.1 89 w.toNatClampNeg) (g0.1 90 w.toNatClampNeg) (g0.1 91 w.toNatClampNeg / 365) (g0.1 92 w.toNatClampNeg / 365) (g0.1 96 w.toNatClampNeg) x5 x6 day) 0 0 := by
    intro x5 x6 h5 h6
    obtain ⟨k0, k1, k2, k3, k4, k5, k6, k7⟩ := qz_8v g 119 (g0.1 89 w.toNatClampNeg) (g0.1 90 w.toNatClampNeg) (g0.1 91 w.toNatClampNeg / 365) (g0.1 92 w.toNatClampNeg / 365) (g0.1 96 w.toNatClampNeg) x5 x6 day
    exact hq _ (qz_8f g 119 _ _ _ _ _ _ _ _) (fun v hv => qFa_of k0 k1 k2 k3 k4 k5 (k6.trans h6) k7 True (fun _ => h5) v hv (fun _ => trivial))
  have hO := HO_of hR
  have hm := qI_0 (hO.2.2.2 w hw).1 qz_n4
  refine v_X12_setsFacts g w day t ?_
  refine qz_cntl (W := fun a v => qz_WP X (d + 3) 239 Q 6 [(0, .ref 12), (1, .int w), (2, .int day), (3, .int t), (4, .int a), (5, .int v)] [] g) (n := g0.1 96 w.toNatClampNeg) (P := fun k => qFd (g0.1 84) (g0.1 12 55) (g0.1 125) (g0.1 124) (g0.1 126) (g0.1 12 56) (g0.1 127) (g0.1 130) (qHn (g0.1 97) (g0.1 81) (g0.1 82) (g0.1 83) w k day t) day t) (F := fun a => a = qFa g0 w day t 5) hm.1 (by omega) (fun a v hF hr hP hN => ?_) rfl
  refine v_X12_setsFacts_6 g w day t a v ?_
  rw [hs.1.1 96 (by decide), hs.1.1 94 (by decide), hs.1.1 89 (by decide), hs.1.1 90 (by decide), hs.1.1 91 (by decide), hs.1.1 92 (by decide), hs.1.1 97 (by decide), hs.1.1 81 (by decide), hs.1.1 82 (by decide), hs.1.1 83 (by decide), hs.1.1 84 (by decide), hs.1.1 125 (by decide), hs.1.1 124 (by decide), hs.1.1 126 (by decide), hs.1.1 127 (by decide), hs.1.1 130 (by decide), rN_12_2 hs, rN_12_1 hs, rN_12_55 hs, rN_12_56 hs, Int32.add_zero]
  refine ⟨qz_in80 hw (rB_works hR), fun z => ⟨fun c => fin a 1 (hF z) (by rw [if_neg c]), fun c => fin a 0 (hF z) (by rw [if_pos c])⟩, fun z => ⟨hO, hw, hr z, qR_40 (qHd_rng hO hw (hr z)) hO.2.1, rB_looks hR, rB_letters hR, fun c => hP z c, fun c => hN z c⟩⟩
theorem c_X12_numberByB {X : qz_X} {d : Nat} {Q : qz_Q} {g0 gb : qz_G} {D : qDt} {w land day t : Int32} (hR : Rel g0) (hD : LwD g0 D) (g : qz_G) (hs : SamB g0 gb g) (hw : qR w (g0.1 12 2)) (k : Nat) (hk : k < 9) (c : Int32) (ec : c = qz_letters k) (hq : ∀ g', SamB g0 gb g' → Q g' (qNb g0 D w land day t k) 0) : qz_Call X (d + 4) 242 [.ref 12, .int c, .int w, .int land, .int day, .int t] g Q := by
  subst ec
  have h20 := Rel_20 hR
  refine v_X12_numberBy (d := d + 1) g _ w land day t (c_X12_strikesB (d := d) hR hD g hs (fun g1 s1 h1 => c_X12_setsFactsB (d := d) hR g1 s1 hw (fun g3 f3 h3 => ?_)))
  have s3 : SamB g0 gb g3 := s1.tr (f3.same (by decide))
  have hI3 : SamB g0 gb g3 ∧ (∀ v, v < 8 → g3.1 119 v = qFa g0 w day t v) ∧ (∀ a b : Nat, (a : Int) < (g0.1 12 41).toInt → b < 12 → (g3.1 117 (12 * a + b) = 0 ↔ ¬ qSkG g0 D land day a b)) := ⟨s3, h3, fun a b ha hb => by rw [f3.1 117 (by decide)]; exact h1 a b ha hb⟩
  rw [rN_12_41 s3, h20.2.2.1, Int32.sub_eq_add_neg]
  refine qz_down (W := fun a v => qz_WP X (d + 4) 242 Q 24 [(0, .ref 12), (1, .int (qz_letters k)), (3, .int land), (4, .int day), (6, .int v)] [] a) (fun m a => (m : Int) ≤ (g0.1 12 41).toInt ∧ (SamB g0 gb a ∧ (∀ v, v < 8 → a.1 119 v = qFa g0 w day t v) ∧ (∀ a2 b : Nat, (a2 : Int) < (g0.1 12 41).toInt → b < 12 → (a.1 117 (12 * a2 + b) = 0 ↔ ¬ qSkG g0 D land day a2 b))) ∧ qNb g0 D w land day t k = qLa (qBk g0 D w land day t k) (g0.1 115) (12 * m)) 20 (by omega) ?_ ?_ _ g3 (by omega) ⟨by omega, hI3, rfl⟩
  · rintro m a hm ⟨hmc, hIa, hL⟩ cont
    have em := qz_nI (n := m) (by omega)
    have cm : (nI m).toNatClampNeg = m := nI_clamp (by omega)
    have hi : (m : Int) < (g0.1 12 41).toInt := by omega
    have hc := (hD m hi).1
    simp only [qI, qz_lt, qz_n0, qz_n12] at hc
    have hcl := qz_cl (g0.1 111 m)
    have e111 : a.1 111 m = nI (g0.1 111 m).toNatClampNeg := by rw [hIa.1.1.1 111 (by decide)]; exact (qz_self (by rw [qz_lt, qz_n0]; omega)).symm
    refine v_X12_numberBy_24 (d := d + 1) a _ land day (nI m) ⟨fun z => ?_, fun _ => ⟨qz_vi (by omega) (by omega), ?_⟩⟩
    · rw [qz_lt, em, qz_n0] at z
      omega
    rw [cm, e111, Int32.sub_eq_add_neg]
    have hL0 : qNb g0 D w land day t k = qLa (qBk g0 D w land day t k) (g0.1 115) (12 * m + (g0.1 111 m).toNatClampNeg) := by
      rw [hL]
      have := qLa_skip (B := qBk g0 D w land day t k) (N := g0.1 115) (a := 12 * m + (g0.1 111 m).toNatClampNeg) (12 - (g0.1 111 m).toNatClampNeg) (fun q h1 h2 hB => by
        have h3 := hB.2.1
        have e : q / 12 = m := by omega
        rw [e] at h3
        omega)
      rw [← this]
      congr 1
      omega
    refine qz_down (W := fun a v => qz_WP X (d + 4) 242 Q 40 [(0, .ref 12), (1, .int (qz_letters k)), (3, .int land), (4, .int day), (6, .int (nI m)), (7, .int v)] [] a) (fun j a => (j : Int) ≤ (g0.1 111 m).toInt ∧ (SamB g0 gb a ∧ (∀ v, v < 8 → a.1 119 v = qFa g0 w day t v) ∧ (∀ a2 b : Nat, (a2 : Int) < (g0.1 12 41).toInt → b < 12 → (a.1 117 (12 * a2 + b) = 0 ↔ ¬ qSkG g0 D land day a2 b))) ∧ qNb g0 D w land day t k = qLa (qBk g0 D w land day t k) (g0.1 115) (12 * m + j)) 12 (by omega) ?_ ?_ _ a (by omega) ⟨by omega, hIa, hL0⟩
    · rintro j a hj12 ⟨hjc, ⟨hs, hF, hSt⟩, hL⟩ cont2
      have hj : (j : Int) < (g0.1 111 m).toInt := by omega
      have ej := qz_nI (n := j) (by omega)
      obtain ⟨l1, l2, l3, l4, l5, l6, l7, l8, l9, l10, l11, l12, l13, l14, l15⟩ := (hD m hi).2 j hj
      have ep : (12 : Int32) * nI m + nI j = nI (12 * m + j) := by
        show nI 12 * nI m + nI j = _
        rw [nI_mul, nI_add]
      have epp := qz_nI (n := 12 * m + j) (by omega)
      have cp : (nI (12 * m + j)).toNatClampNeg = 12 * m + j := nI_clamp (by omega)
      have e112 : a.1 112 (12 * m + j) = qz_letters (D.2.2.2 (12 * m + j)) := by rw [hs.1.1 112 (by decide)]; exact l7
      have q12 : (12 * m + j) / 12 = m := by omega
      have q13 : (12 * m + j) % 12 = j := by omega
      have hL' : qNb g0 D w land day t k = qLa (qBk g0 D w land day t k) (g0.1 115) (12 * m + j + 1) := hL
      have nxt : ∀ a', SamB g0 gb a' → Frm [118] a a' → ¬ qBk g0 D w land day t k (12 * m + j) → qz_WP X (d + 4) 242 Q 40 [(0, .ref 12), (1, .int (qz_letters k)), (3, .int land), (4, .int day), (6, .int (nI m)), (7, .int (nI j + (-1)))] [] a' := by
        intro a' hs' hf' hnB
        rw [qLa_n hnB] at hL'
        exact cont2 a' ⟨by omega, ⟨hs', fun v hv => by rw [hf'.1 119 (by decide)]; exact hF v hv, fun a2 b ha hb => by rw [hf'.1 117 (by decide)]; exact hSt a2 b ha hb⟩, hL'⟩
      refine v_X12_numberBy_40 (d := d + 1) a _ land day (nI m) (nI j) ⟨fun z => ?_, fun _ => ⟨⟨by rw [qz_lt, em, qz_n0]; omega, by rw [qz_le, em, qz_n20]; omega⟩, fun hf => ?_, fun hf => ?_⟩⟩
      · rw [qz_lt, ej, qz_n0] at z
        omega
      · have hfo := (qFo_b hs hR (by omega)).mp hf
        rw [ep, cp, e112]
        refine ⟨qz_vi (by omega) (by omega), fun ck => ?_, fun ck => ⟨fun cs => ?_, fun cs => ?_⟩⟩
        · exact nxt a hs (Frm.rf _ a) (fun hB => ck (by rw [hB.2.2.2.1]))
        · refine nxt a hs (Frm.rf _ a) (fun hB => ?_)
          have := hB.2.2.2.2.1
          rw [q12, q13] at this
          exact cs ((hSt m j hi hj12).mpr this)
        · have ekd := qz_letI _ l1 k (by omega) ck
          refine c_X12_isTrue (d := d + 1) a m j (D.2.1 (12 * m + j)) (D.2.2.1 (12 * m + j)) (D.1 (12 * m + j)) (g0.1 6 16) (by omega) hj12 l2 l3 l4 (fun k hk => by rw [hs.1.1 107 (by decide)]; exact (l5 k hk).2) l15 (by rw [hs.1.1 113 (by decide)]; exact l13) (by rw [hs.1.1 114 (by decide)]; exact l14) (qFa g0 w day t) (fun v hv _ => hF v hv) (fun g5 f5 => ?_)
          have s5 : SamB g0 gb g5 := hs.tr (f5.same (by decide))
          rw [s5.1.1 115 (by decide)]
          show ((if qTv D (qFa g0 w day t) (12 * m + j) then (1 : Int32) else 0) = 0 → _) ∧ (¬ (if qTv D (qFa g0 w day t) (12 * m + j) then (1 : Int32) else 0) = 0 → _)
          cases htv : qTv D (qFa g0 w day t) (12 * m + j) with
          | false =>
            refine ⟨fun _ => nxt g5 s5 f5 (fun hB => ?_), fun z => absurd rfl z⟩
            rw [hB.2.2.2.2.2] at htv
            cases htv
          | true =>
            refine ⟨fun z => absurd z (by decide), fun _ => ?_⟩
            have hB : qBk g0 D w land day t k (12 * m + j) := ⟨by rw [q12]; exact hi, by rw [q12, q13]; exact hj, by rw [q12]; exact hfo, ekd, by rw [q12, q13]; exact (hSt m j hi hj12).mp cs, htv⟩
            rw [qLa_p hB] at hL'
            rw [← hL']
            exact hq g5 s5
      · refine cont a ⟨by omega, ⟨hs, hF, hSt⟩, ?_⟩
        rw [hL']
        have := qLa_skip (B := qBk g0 D w land day t k) (N := g0.1 115) (a := 12 * m) (j + 1) (fun q h1 h2 hB => by
          have h3 := hB.2.2.1
          have e : q / 12 = m := by omega
          rw [e] at h3
          exact hf ((qFo_b hs hR (by omega)).mpr h3))
        exact this
    · rintro a ⟨_, hIa, hL⟩
      exact v_X12_numberBy_40 (d := d + 1) a _ land day (nI m) _ ⟨fun _ => cont a ⟨by omega, hIa, hL⟩, fun z => absurd (by decide) z⟩
  · rintro a ⟨_, hIa, hL⟩
    refine v_X12_numberBy_24 (d := d + 1) a _ land day _ ⟨fun _ => ?_, fun z => absurd (by decide) z⟩
    have := hq a hIa.1
    rw [hL] at this
    exact this
theorem c_X12_bitsByB {X : qz_X} {d : Nat} {Q : qz_Q} {g0 gb : qz_G} {D : qDt} {w land day t : Int32} (hR : Rel g0) (hD : LwD g0 D) (g : qz_G) (hs : SamB g0 gb g) (hw : qR w (g0.1 12 2)) (k : Nat) (hk : k < 9) (c : Int32) (ec : c = qz_letters k) (hq : ∀ g', SamB g0 gb g' → Q g' (qBb g0 D w land day t k) 0) : qz_Call X (d + 4) 243 [.ref 12, .int c, .int w, .int land, .int day, .int t] g Q := by
  subst ec
  have h20 := Rel_20 hR
  refine v_X12_bitsBy (d := d + 1) g _ w land day t (c_X12_strikesB (d := d) hR hD g hs (fun g1 s1 h1 => c_X12_setsFactsB (d := d) hR g1 s1 hw (fun g3 f3 h3 => ?_)))
  have s3 : SamB g0 gb g3 := s1.tr (f3.same (by decide))
  have hI3 : SamB g0 gb g3 ∧ (∀ v, v < 8 → g3.1 119 v = qFa g0 w day t v) ∧ (∀ a b : Nat, (a : Int) < (g0.1 12 41).toInt → b < 12 → (g3.1 117 (12 * a + b) = 0 ↔ ¬ qSkG g0 D land day a b)) := ⟨s3, h3, fun a b ha hb => by rw [f3.1 117 (by decide)]; exact h1 a b ha hb⟩
  refine qz_for (α := qz_G × Int32) (W := fun a v => qz_WP X (d + 4) 243 Q 22 [(0, .ref 12), (1, .int (qz_letters k)), (3, .int land), (4, .int day), (6, .int a.2), (7, .int v)] [] a.1) (n := g0.1 12 41) (fun m a => (SamB g0 gb a.1 ∧ (∀ v, v < 8 → a.1.1 119 v = qFa g0 w day t v) ∧ (∀ a2 b : Nat, (a2 : Int) < (g0.1 12 41).toInt → b < 12 → (a.1.1 117 (12 * a2 + b) = 0 ↔ ¬ qSkG g0 D land day a2 b))) ∧ a.2 = qOr (qBk g0 D w land day t k) (g0.1 115) (12 * m)) (by omega) (by omega) (fun m a v hI ev cv hle cont => ?_) (g3, 0) ⟨hI3, rfl⟩
  obtain ⟨hIa, hO⟩ := hI
  have evn : v = nI m := by
    rw [qz_eq, ev, qz_nI (by omega)]
  subst evn
  have em := ev
  have cm := cv
  refine v_X12_bitsBy_22 (d := d + 1) a.1 _ land day a.2 (nI m) ?_
  rw [rN_12_41 hIa.1]
  refine ⟨fun z => ?_, fun z => ?_⟩
  · rw [qz_le, ev] at z
    have e : (g0.1 12 41).toNatClampNeg = m := by omega
    have := hq a.1 hIa.1
    unfold qBb at this
    rw [e, ← hO] at this
    exact this
  rw [qz_le, ev] at z
  have hi : (m : Int) < (g0.1 12 41).toInt := by omega
  have hc := (hD m hi).1
  simp only [qI, qz_lt, qz_n0, qz_n12] at hc
  refine qz_for (α := qz_G × Int32) (W := fun a v => qz_WP X (d + 4) 243 Q 34 [(0, .ref 12), (1, .int (qz_letters k)), (3, .int land), (4, .int day), (6, .int a.2), (7, .int (nI m)), (8, .int v)] [] a.1) (n := g0.1 111 m) (fun j a => (SamB g0 gb a.1 ∧ (∀ v, v < 8 → a.1.1 119 v = qFa g0 w day t v) ∧ (∀ a2 b : Nat, (a2 : Int) < (g0.1 12 41).toInt → b < 12 → (a.1.1 117 (12 * a2 + b) = 0 ↔ ¬ qSkG g0 D land day a2 b))) ∧ a.2 = qOr (qBk g0 D w land day t k) (g0.1 115) (12 * m + j)) (by omega) (by omega) (fun j a v hI ev cv hle cont2 => ?_) a ⟨hIa, hO⟩
  obtain ⟨⟨hs, hF, hSt⟩, hO⟩ := hI
  have evn : v = nI j := by
    rw [qz_eq, ev, qz_nI (by omega)]
  subst evn
  have e111 : a.1.1 111 = g0.1 111 := hs.1.1 111 (by decide)
  refine v_X12_bitsBy_34 (d := d + 1) a.1 _ land day a.2 (nI m) (nI j) ?_
  rw [cm, e111]
  have leave : (∀ q, 12 * m + j ≤ q → q < 12 * m + j + (12 - j) → ¬ qBk g0 D w land day t k q) → j ≤ 12 → qz_WP X (d + 4) 243 Q 22 [(0, .ref 12), (1, .int (qz_letters k)), (3, .int land), (4, .int day), (6, .int a.2), (7, .int (nI m + 1))] [] a.1 := by
    intro hdead hj12
    refine cont (a.1, a.2) hi ⟨⟨hs, hF, hSt⟩, ?_⟩
    have := qOr_skip (N := g0.1 115) (12 - j) hdead
    rw [show 12 * m + j + (12 - j) = 12 * (m + 1) from by omega] at this
    rw [this]
    exact hO
  refine ⟨qz_vi (by omega) (by omega), fun z2 => ?_, fun z2 => ⟨⟨by rw [qz_lt, em, qz_n0]; omega, by rw [qz_le, em, qz_n20]; omega⟩, fun hf => ?_, fun hf => ?_⟩⟩
  · rw [qz_le, ev] at z2
    refine leave (fun q h1 h2 hB => ?_) (by omega)
    have h3 := hB.2.1
    have e : q / 12 = m := by omega
    rw [e] at h3
    omega
  · rw [qz_le, ev] at z2
    have hj : (j : Int) < (g0.1 111 m).toInt := by omega
    have hj12 := LwD_12 hD hi hj
    obtain ⟨l1, l2, l3, l4, l5, l6, l7, l8, l9, l10, l11, l12, l13, l14, l15⟩ := (hD m hi).2 j hj
    have ep : (12 : Int32) * nI m + nI j = nI (12 * m + j) := by
      show nI 12 * nI m + nI j = _
      rw [nI_mul, nI_add]
    have epp := qz_nI (n := 12 * m + j) (by omega)
    have cp : (nI (12 * m + j)).toNatClampNeg = 12 * m + j := nI_clamp (by omega)
    have e112 : a.1.1 112 (12 * m + j) = qz_letters (D.2.2.2 (12 * m + j)) := by rw [hs.1.1 112 (by decide)]; exact l7
    have q12 : (12 * m + j) / 12 = m := by omega
    have q13 : (12 * m + j) % 12 = j := by omega
    have hfo := (qFo_b hs hR (by omega)).mp hf
    have nxt : ∀ (a' : qz_G), SamB g0 gb a' → Frm [118] a.1 a' → ¬ qBk g0 D w land day t k (12 * m + j) → qz_WP X (d + 4) 243 Q 34 [(0, .ref 12), (1, .int (qz_letters k)), (3, .int land), (4, .int day), (6, .int a.2), (7, .int (nI m)), (8, .int (nI j + 1))] [] a' := by
      intro a' hs' hf' hnB
      refine cont2 (a', a.2) hj ⟨⟨hs', fun v hv => by rw [hf'.1 119 (by decide)]; exact hF v hv, fun a2 b ha hb => by rw [hf'.1 117 (by decide)]; exact hSt a2 b ha hb⟩, ?_⟩
      show a.2 = qOr _ _ (12 * m + j + 1)
      rw [qOr_n hnB]
      exact hO
    rw [ep, cp, e112]
    refine ⟨qz_vi (by omega) (by omega), fun ck => ?_, fun ck => ⟨fun cs => ?_, fun cs => ?_⟩⟩
    · exact nxt a.1 hs (Frm.rf _ a.1) (fun hB => ck (by rw [hB.2.2.2.1]))
    · refine nxt a.1 hs (Frm.rf _ a.1) (fun hB => ?_)
      have := hB.2.2.2.2.1
      rw [q12, q13] at this
      exact cs ((hSt m j hi hj12).mpr this)
    · have ekd := qz_letI _ l1 k (by omega) ck
      refine c_X12_isTrue (d := d + 1) a.1 m j (D.2.1 (12 * m + j)) (D.2.2.1 (12 * m + j)) (D.1 (12 * m + j)) (g0.1 6 16) (by omega) hj12 l2 l3 l4 (fun k hk => by rw [hs.1.1 107 (by decide)]; exact (l5 k hk).2) l15 (by rw [hs.1.1 113 (by decide)]; exact l13) (by rw [hs.1.1 114 (by decide)]; exact l14) (qFa g0 w day t) (fun v hv _ => hF v hv) (fun g5 f5 => ?_)
      have s5 : SamB g0 gb g5 := hs.tr (f5.same (by decide))
      rw [s5.1.1 115 (by decide)]
      show ((if qTv D (qFa g0 w day t) (12 * m + j) then (1 : Int32) else 0) = 0 → _) ∧ (¬ (if qTv D (qFa g0 w day t) (12 * m + j) then (1 : Int32) else 0) = 0 → _)
      cases htv : qTv D (qFa g0 w day t) (12 * m + j) with
      | false =>
        refine ⟨fun _ => nxt g5 s5 f5 (fun hB => ?_), fun z => absurd rfl z⟩
        rw [hB.2.2.2.2.2] at htv
        cases htv
      | true =>
        refine ⟨fun z => absurd z (by decide), fun _ => ?_⟩
        have hB : qBk g0 D w land day t k (12 * m + j) := ⟨by rw [q12]; exact hi, by rw [q12, q13]; exact hj, by rw [q12]; exact hfo, ekd, by rw [q12, q13]; exact (hSt m j hi hj12).mp cs, htv⟩
        refine cont2 (g5, a.2 ||| (1 <<< (g0.1 115 (12 * m + j) &&& 31))) hj ⟨⟨s5, fun v hv => by rw [f5.1 119 (by decide)]; exact hF v hv, fun a2 b ha hb => by rw [f5.1 117 (by decide)]; exact hSt a2 b ha hb⟩, ?_⟩
        show a.2 ||| (1 <<< (g0.1 115 (12 * m + j) &&& 31)) = qOr _ _ (12 * m + j + 1)
        rw [qOr_p hB, ← hO]
  · by_cases hj12 : j ≤ 12
    · refine leave (fun q h1 h2 hB => ?_) hj12
      have h3 := hB.2.2.1
      have e : q / 12 = m := by omega
      rw [e] at h3
      exact hf ((qFo_b hs hR (by omega)).mpr h3)
    · exfalso
      omega
theorem c_X12_orNothingB {X : qz_X} {d : Nat} {Q : qz_Q} {g0 gb : qz_G} {D : qDt} {w land day t : Int32} (hR : Rel g0) (hD : LwD g0 D) (g : qz_G) (hs : SamB g0 gb g) (hw : qR w (g0.1 12 2)) (k : Nat) (hk : k < 9) (c : Int32) (ec : c = qz_letters k) (hq : ∀ g', SamB g0 gb g' → Q g' (if qNb g0 D w land day t k = -1 then 0 else qNb g0 D w land day t k) 0) : qz_Call X (d + 5) 244 [.ref 12, .int c, .int w, .int land, .int day, .int t] g Q := by
  refine v_X12_orNothing (d := d + 4) g c w land day t (c_X12_numberByB (d := d) hR hD g hs hw k hk c ec (fun g1 s1 => ⟨fun z => ?_, fun z => ?_⟩))
  · have := hq g1 s1
    rw [if_neg z] at this
    exact this
  · have := hq g1 s1
    rw [if_pos z] at this
    exact this
theorem c_X12_numberBy {X : qz_X} {d : Nat} {Q : qz_Q} {g0 : qz_G} {D : qDt} {w land day t : Int32} (hR : Rel g0) (hD : LwD g0 D) (g : qz_G) (hs : Same g0 g) (hw : qR w (g0.1 12 2)) (k : Nat) (hk : k < 9) (c : Int32) (ec : c = qz_letters k) (hq : ∀ g', Same g0 g' → Q g' (qNb g0 D w land day t k) 0) : qz_Call X (d + 4) 242 [.ref 12, .int c, .int w, .int land, .int day, .int t] g Q := c_X12_numberByB hR hD g (SamB.of hs) hw k hk c ec (fun g' s' => hq g' s'.2)
theorem c_X12_bitsBy {X : qz_X} {d : Nat} {Q : qz_Q} {g0 : qz_G} {D : qDt} {w land day t : Int32} (hR : Rel g0) (hD : LwD g0 D) (g : qz_G) (hs : Same g0 g) (hw : qR w (g0.1 12 2)) (k : Nat) (hk : k < 9) (c : Int32) (ec : c = qz_letters k) (hq : ∀ g', Same g0 g' → Q g' (qBb g0 D w land day t k) 0) : qz_Call X (d + 4) 243 [.ref 12, .int c, .int w, .int land, .int day, .int t] g Q := c_X12_bitsByB hR hD g (SamB.of hs) hw k hk c ec (fun g' s' => hq g' s'.2)
theorem c_X12_orNothing {X : qz_X} {d : Nat} {Q : qz_Q} {g0 : qz_G} {D : qDt} {w land day t : Int32} (hR : Rel g0) (hD : LwD g0 D) (g : qz_G) (hs : Same g0 g) (hw : qR w (g0.1 12 2)) (k : Nat) (hk : k < 9) (c : Int32) (ec : c = qz_letters k) (hq : ∀ g', Same g0 g' → Q g' (if qNb g0 D w land day t k = -1 then 0 else qNb g0 D w land day t k) 0) : qz_Call X (d + 5) 244 [.ref 12, .int c, .int w, .int land, .int day, .int t] g Q := c_X12_orNothingB hR hD g (SamB.of hs) hw k hk c ec (fun g' s' => hq g' s'.2)
