/-! the class weighs -/
theorem qWI_dead {g0 gs : qz_G} {D : qDt} {w land day t : Int32} {g : qz_G} (hD : LwD g0 D) {i j : Nat} (hj : j < 12) (hI : qWI g0 gs D w land day t (12 * i + j + 1) g) (hB : ∀ k, k < 9 → ¬ qBk g0 D w land day t k (12 * i + j)) (hev : ∀ a b, ¬ qSe g0 D land day i j a b) : qWI g0 gs D w land day t (12 * i + j) g := by
  obtain ⟨i1, i2, i3, i4, i5⟩ := hI
  refine ⟨i1, i2, fun a b ha hb => (i3 a b ha hb).trans ?_, fun k hk => ?_, fun k hk => ?_⟩
  · rw [qSr_p hD hj]
    exact ⟨Or.inl, fun z => z.elim id (fun z => absurd z (hev a b))⟩
  · have := i4 k hk
    rw [qLa_n (hB k (by omega))] at this
    exact this
  · have := i5 k hk
    rw [qOr_n (hB k (by omega))] at this
    exact this
theorem qFo_x {g0 g : qz_G} (hR : Rel g0) (hs : Same g0 g) {land day : Int32} {A : Nat} (hA : A < 2147483648) : qFo (g.1 47) (g.1 48) (g.1 49) (nI A) land day ↔ qFg g0 land day A := by
  unfold qFo qFg
  rw [nI_clamp hA, rE_47 hR hs, rE_48 hR hs, rE_49 hR hs]
theorem qFo_m {g0 g : qz_G} (hs : Same g0 g) (hR : Rel g0) {land day : Int32} {A : Nat} (hA : A < 2147483648) : qFo (g.1 108) (g.1 109) (g.1 110) (nI A) land day ↔ qFg g0 land day A := by
  unfold qFo qFg
  rw [nI_clamp hA, hs.1 108 (by decide), hs.1 109 (by decide), hs.1 110 (by decide)]
theorem qz_nat {x : Int32} {b : Int} (h0 : 0 ≤ x.toInt) (hb : x.toInt ≤ b) : ∃ n : Nat, (n : Int) ≤ b ∧ x = nI n := by
  have := qz_cl x
  exact ⟨x.toNatClampNeg, by omega, (qz_self (by rw [qz_lt, qz_n0]; omega)).symm⟩
theorem c_X2_weighLaw {X : qz_X} {d : Nat} {Q : qz_Q} {g0 gs : qz_G} {D : qDt} {w land day t : Int32} (hR : Rel g0) (hD : LwD g0 D) (g : qz_G) (i : Nat) (hi : (i : Int) < (g0.1 12 41).toInt) (hfo : qFg g0 land day i) (hI : qWI g0 gs D w land day t (12 * (i + 1)) g) (hq : ∀ g', qWI g0 gs D w land day t (12 * i) g' → Q g' 0 0) : qz_Call X (d + 4) 21 [.ref 6, .int (nI i), .int land, .int day] g Q := by
  have h20 := Rel_20 hR
  have hc := (hD i hi).1
  simp only [qI, qz_lt, qz_n0, qz_n12] at hc
  have hs := hI.1.1
  have ci : (nI i).toNatClampNeg = i := nI_clamp (by omega)
  have ei := qz_nI (n := i) (by omega)
  have hvi : vp_in (nI i) 20 := qz_vi (by omega) (by omega)
  have e50 : g.1 50 i = nI (g0.1 111 i).toNatClampNeg := by rw [rE_50 hR hs]; exact (qz_self (by rw [qz_lt, qz_n0]; omega)).symm
  have hcl := qz_cl (g0.1 111 i)
  refine v_X2_weighLaw (d := d + 2) g _ _ _ ⟨hvi, ?_⟩
  rw [ci, e50, Int32.sub_eq_add_neg]
  refine qz_down (W := fun a v => qz_WP X (d + 4) 21 Q 10 [(0, .ref 6), (1, .int (nI i)), (2, .int land), (3, .int day), (4, .int v)] [] a) (fun m a => (m : Int) ≤ (g0.1 111 i).toInt ∧ qWI g0 gs D w land day t (12 * i + m) a) 12 (by omega) ?_ ?_ _ g (by omega) ⟨by omega, qWI_skip hD (p := 12 * (i + 1)) (by omega) ?_ hI⟩
  · rintro j a hj12 ⟨hjc, hIa⟩ cont
    have hIa' : qWI g0 gs D w land day t (12 * i + j + 1) a := hIa
    have hj : (j : Int) < (g0.1 111 i).toInt := by omega
    obtain ⟨l1, l2, l3, l4, l5, l6, l7, l8, l9, l10, l11, l12, l13, l14, l15⟩ := (hD i hi).2 j hj
    have hs := hIa.1.1
    have ej := qz_nI (n := j) (by omega)
    have ep : nI i * 12 + nI j = nI (12 * i + j) := by
      show nI i * nI 12 + nI j = _
      rw [nI_mul, nI_add, Nat.mul_comm]
    have epp := qz_nI (n := 12 * i + j) (by omega)
    have cp : (nI (12 * i + j)).toNatClampNeg = 12 * i + j := nI_clamp (by omega)
    have e52 : a.1 52 (12 * i + j) = nI (D.2.2.2 (12 * i + j)) := by rw [rM_52 hs]; exact l6
    have e53 : a.1 53 (12 * i + j) = g0.1 115 (12 * i + j) := by rw [rM_53 hs]; exact l8
    have e617 : a.1 6 17 = g0.1 12 41 := rS_6_17 hR hs
    have e12 : (12 * i + j) / 12 = i := by omega
    have e13 : (12 * i + j) % 12 = j := by omega
    have hstr : bt (a.1 51 i) j = true ↔ qSkG g0 D land day i j := (hIa'.2.2.1 i j (by omega) hj12).trans (qSr_full h20.2.1 (fun i' j' h => by omega))
    have dead9 : D.2.2.2 (12 * i + j) = 9 → (∀ a b, ¬ qSe g0 D land day i j a b) → qWI g0 gs D w land day t (12 * i + j) a := fun e hev => qWI_dead hD hj12 hIa' (fun k hk => qBk_kd e (by omega)) hev
    have cont' : ∀ a', ((j : Nat) : Int) ≤ (g0.1 111 i).toInt ∧ qWI g0 gs D w land day t (12 * i + j) a' → qz_WP X (d + 4) 21 Q 107 [(0, .ref 6), (1, .int (nI i)), (2, .int land), (3, .int day), (4, .int (nI j))] [] a' := fun a' h => v_X2_weighLaw_107 (d := d + 2) a' _ _ _ _ (cont a' h)
    refine v_X2_weighLaw_10 (d := d + 2) a _ _ _ _ ⟨fun z => ?_, fun _ => ?_⟩
    · rw [qz_lt, ej, qz_n0] at z
      omega
    · rw [ep, cp, ci, e52, e53]
      refine ⟨qz_vi (by omega) (by omega), hvi, fun cb => ⟨fun ck => ?_, fun ck => ?_⟩, fun cb => ?_⟩
      · have e9 : D.2.2.2 (12 * i + j) = 9 := nI_inj (by omega) (by omega) ck
        rw [b_bit _ (by omega)] at cb
        have hns : ¬ qSkG g0 D land day i j := fun z => by
          rw [hstr.mpr z] at cb
          cases cb
        rw [e9] at l9 l10
        obtain ⟨l10a, l10b⟩ := l10 rfl
        have e54 : a.1 54 (12 * i + j) = g0.1 116 (12 * i + j) := by rw [rM_54 hs]; exact l10a
        have n19 : (qz_limits 9).toInt = 19 := by decide
        simp only [qI, qz_lt, qz_n0, qz_n11, n19] at l9 l10b
        obtain ⟨A, hA, eA⟩ := qz_nat (x := g0.1 115 (12 * i + j)) (b := 19) (by omega) (by omega)
        obtain ⟨b, hb, eb⟩ := qz_nat (x := g0.1 116 (12 * i + j)) (b := 11) (by omega) (by omega)
        have eA2 := qz_nI (n := A) (by omega)
        have cA : (nI A).toNatClampNeg = A := nI_clamp (by omega)
        have ev1 : ∀ a2 b2, qSe g0 D land day i j a2 b2 → a2 = A := by
          intro a2 b2 z
          have := z.2.2.2.2.2.2.1
          rw [eA] at this
          have := z.1
          exact (nI_inj (by omega) (by omega) ‹nI A = nI a2›).symm
        refine v_X2_weighLaw_71 (d := d + 2) a _ _ _ _ _ _ ?_
        rw [e617, cp, e54, eA, eb, cA]
        refine ⟨fun z => ?_, fun z => ⟨rB_laws hR, fun hf => ⟨qz_vi (by omega) (by omega), qz_vi (by omega) (by omega), ?_⟩, fun hf => ?_⟩⟩
        · refine cont' a ⟨by omega, dead9 e9 (fun a2 b2 h => ?_)⟩
          rw [qz_le, ei, eA2] at z
          have := ev1 a2 b2 h
          have := h.1
          omega
        · have hfg := (qFo_x hR hs (by omega)).mp hf.2
          have hAi : A < i := by
            rw [qz_le, ei, eA2] at z
            omega
          have hev : qSe g0 D land day i j A b := ⟨hAi, hi, hj, hfo, hfg, e9, eA, eb, hns⟩
          refine cont' _ ⟨by omega, ⟨hs.row 51 _ _ (by decide) (by decide), hIa.1.2.ui 51 _ _ (by decide)⟩, fun v hv h5 => ?_, fun a2 b2 ha2 hb2 => ?_, fun k hk => ?_, fun k hk => ?_⟩
          · rw [qz_i1, if_neg (by decide)]
            exact hIa'.2.1 v hv h5
          · rw [qz_i1, if_pos rfl, qz_u1, qSr_p hD hj12, ← hIa'.2.2.1 a2 b2 ha2 hb2]
            by_cases c : a2 = A
            · rw [if_pos c, b_or, b_one (by omega) (by omega), c]
              constructor
              · intro z2
                rw [Bool.or_eq_true] at z2
                rcases z2 with z2 | z2
                · exact Or.inl z2
                · rw [of_decide_eq_true z2]
                  exact Or.inr hev
              · rintro (z2 | z2)
                · rw [z2, Bool.true_or]
                · have := z2.2.2.2.2.2.2.2.1
                  rw [eb] at this
                  rw [nI_inj (by omega) (by omega) this, decide_eq_true rfl, Bool.or_true]
            · rw [if_neg c]
              exact ⟨Or.inl, fun z2 => z2.elim id (fun z2 => absurd (ev1 a2 b2 z2) c)⟩
          · rw [qz_i1, if_neg (by decide), qz_i1, if_neg (by decide)]
            have := hIa'.2.2.2.1 k hk
            rw [qLa_n (qBk_kd e9 (by omega))] at this
            exact this
          · rw [qz_i1, if_neg (by decide), qz_i1, if_neg (by decide)]
            have := hIa'.2.2.2.2 k hk
            rw [qOr_n (qBk_kd e9 (by omega))] at this
            exact this
        · refine cont' a ⟨by omega, dead9 e9 (fun a2 b2 h => hf ?_)⟩
          have e := ev1 a2 b2 h
          have h1 := h.1
          have h2 := h.2.2.2.2.1
          rw [e] at h1 h2
          exact ⟨⟨by rw [qz_lt, eA2, qz_n0]; omega, by rw [qz_le, eA2]; omega⟩, (qFo_x hR hs (by omega)).mpr h2⟩
      · have e9 : ¬ D.2.2.2 (12 * i + j) = 9 := fun z => ck (by rw [z]; rfl)
        rw [b_bit _ (by omega)] at cb
        have hns : ¬ qSkG g0 D land day i j := fun z => by
          rw [hstr.mpr z] at cb
          cases cb
        exact c_X2_weighClause (d := d) hR hD a i j hi hj hfo e9 hns hIa' (fun g' h' => cont' g' ⟨by omega, h'⟩)
      · rw [b_bit _ (by omega)] at cb
        have cb' : bt (a.1 51 i) j = true := by simpa using cb
        have hsk := hstr.mp cb'
        refine cont' a ⟨by omega, qWI_dead hD hj12 hIa' (fun k hk z => ?_) (fun a2 b2 z => z.2.2.2.2.2.2.2.2 hsk)⟩
        have := z.2.2.2.2.1
        rw [e12, e13] at this
        exact this hsk
  · rintro a ⟨_, hIa⟩
    exact v_X2_weighLaw_10 (d := d + 2) a _ _ _ _ ⟨fun _ => hq a hIa, fun z => absurd (by decide) z⟩
  · intro i' j' x1 x2 x3 x4 _
    have := LwD_12 hD x3 x4
    have e : i' = i := by omega
    subst e
    omega
def qz_8 (g : qz_G) (o : Nat) (x0 x1 x2 x3 x4 x5 x6 x7 : Int32) : qz_G := qz_ui (qz_ui (qz_ui (qz_ui (qz_ui (qz_ui (qz_ui (qz_ui g o ((0 : Int32).toNatClampNeg) x0) o ((1 : Int32).toNatClampNeg) x1) o ((2 : Int32).toNatClampNeg) x2) o ((3 : Int32).toNatClampNeg) x3) o ((4 : Int32).toNatClampNeg) x4) o ((5 : Int32).toNatClampNeg) x5) o ((6 : Int32).toNatClampNeg) x6) o ((7 : Int32).toNatClampNeg) x7
theorem qz_k0 : (0 : Int32).toNatClampNeg = 0 := by decide
theorem qz_k1 : (1 : Int32).toNatClampNeg = 1 := by decide
theorem qz_k2 : (2 : Int32).toNatClampNeg = 2 := by decide
theorem qz_k3 : (3 : Int32).toNatClampNeg = 3 := by decide
theorem qz_k4 : (4 : Int32).toNatClampNeg = 4 := by decide
theorem qz_k5 : (5 : Int32).toNatClampNeg = 5 := by decide
theorem qz_k6 : (6 : Int32).toNatClampNeg = 6 := by decide
theorem qz_k7 : (7 : Int32).toNatClampNeg = 7 := by decide
theorem qz_8v (g : qz_G) (o : Nat) (x0 x1 x2 x3 x4 x5 x6 x7 : Int32) : (qz_8 g o x0 x1 x2 x3 x4 x5 x6 x7).1 o 0 = x0 ∧ (qz_8 g o x0 x1 x2 x3 x4 x5 x6 x7).1 o 1 = x1 ∧ (qz_8 g o x0 x1 x2 x3 x4 x5 x6 x7).1 o 2 = x2 ∧ (qz_8 g o x0 x1 x2 x3 x4 x5 x6 x7).1 o 3 = x3 ∧ (qz_8 g o x0 x1 x2 x3 x4 x5 x6 x7).1 o 4 = x4 ∧ (qz_8 g o x0 x1 x2 x3 x4 x5 x6 x7).1 o 5 = x5 ∧ (qz_8 g o x0 x1 x2 x3 x4 x5 x6 x7).1 o 6 = x6 ∧ (qz_8 g o x0 x1 x2 x3 x4 x5 x6 x7).1 o 7 = x7 := by
  unfold qz_8
  simp only [qz_k0, qz_k1, qz_k2, qz_k3, qz_k4, qz_k5, qz_k6, qz_k7, qz_i1, if_true, qz_u1]
  exact ⟨rfl, rfl, rfl, rfl, rfl, rfl, rfl, trivial⟩
theorem qz_8f (g : qz_G) (o : Nat) (x0 x1 x2 x3 x4 x5 x6 x7 : Int32) : Frm [o] g (qz_8 g o x0 x1 x2 x3 x4 x5 x6 x7) := by
  have ho : o ∈ [o] := List.mem_singleton.mpr rfl
  exact ((((((((Frm.rf [o] g).ui o _ _ ho).ui o _ _ ho).ui o _ _ ho).ui o _ _ ho).ui o _ _ ho).ui o _ _ ho).ui o _ _ ho).ui o _ _ ho
theorem qFa_of {g0 : qz_G} {w day t : Int32} {f : Nat → Int32} {x5 : Int32} (h0 : f 0 = g0.1 89 w.toNatClampNeg) (h1 : f 1 = g0.1 90 w.toNatClampNeg) (h2 : f 2 = g0.1 91 w.toNatClampNeg / 365) (h3 : f 3 = g0.1 92 w.toNatClampNeg / 365) (h4 : f 4 = g0.1 96 w.toNatClampNeg) (h5 : f 5 = x5) (h6 : f 6 = if g0.1 94 w.toNatClampNeg = -1 then 0 else 1) (h7 : f 7 = day) (P : Prop) (hx : P → x5 = qFa g0 w day t 5) : ∀ v, v < 8 → (v = 5 → P) → f v = qFa g0 w day t v := by
  intro v hv hP
  have hc : v = 0 ∨ v = 1 ∨ v = 2 ∨ v = 3 ∨ v = 4 ∨ v = 5 ∨ v = 6 ∨ v = 7 := by omega
  rcases hc with e | e | e | e | e | e | e | e <;> subst e
  · exact h0
  · exact h1
  · exact h2
  · exact h3
  · exact h4
  · rw [h5]; exact hx (hP rfl)
  · exact h6
  · exact h7
theorem c_X2_learn {X : qz_X} {d : Nat} {Q : qz_Q} {g0 : qz_G} {w day t : Int32} (hR : Rel g0) (g : qz_G) (hs : Same g0 g) (hw : qR w (g0.1 12 2)) (hq : ∀ g', Same g0 g' → Frm [57] g g' → (∀ v, v < 8 → (v = 5 → ¬ g0.1 6 16 = 0) → g'.1 57 v = qFa g0 w day t v) → Q g' 0 0) : qz_Call X (d + 5) 18 [.ref 6, .int w, .int day, .int t] g Q := by
  have fin : ∀ (x5 x6 : Int32), (¬ g0.1 6 16 = 0 → x5 = qFa g0 w day t 5) → x6 = (if g0.1 94 w.toNatClampNeg = -1 then 0 else 1) → Q (qz_8 g 57 (g0.1 89 w.toNatClampNeg) (g0.1 90 w.toNatClampNeg) (g0.1 91 w.toNatClampNeg / 365) (g0.1 92 w.toNatClampNeg / 365) (g0.1 96 w.toNatClampNeg) x5 x6 day) 0 0 := by
    intro x5 x6 h5 h6
    obtain ⟨k0, k1, k2, k3, k4, k5, k6, k7⟩ := qz_8v g 57 (g0.1 89 w.toNatClampNeg) (g0.1 90 w.toNatClampNeg) (g0.1 91 w.toNatClampNeg / 365) (g0.1 92 w.toNatClampNeg / 365) (g0.1 96 w.toNatClampNeg) x5 x6 day
    exact hq _ (hs.tr ((qz_8f g 57 _ _ _ _ _ _ _ _).same (by decide))) (qz_8f g 57 _ _ _ _ _ _ _ _) (qFa_of k0 k1 k2 k3 k4 k5 (k6.trans h6) k7 _ h5)
  have hO := HO_of hR
  refine v_X2_learn g w day t ?_
  rw [rS_3_12 hR hs, rM_6_16 hs, rE_22 hR hs, rE_23 hR hs, rE_24 hR hs, rE_25 hR hs, rE_27 hR hs, rE_29 hR hs, rS_2_8 hR hs, rE_15 hR hs, rE_30 hR hs, rS_4_13 hR hs, rS_4_14 hR hs, rE_46 hR hs, rE_37 hR hs, rE_36 hR hs, rE_38 hR hs, rE_39 hR hs, rE_42 hR hs, rE_16 hR hs, rE_17 hR hs]
  refine ⟨hw, rB_works hR, hw, rB_works hR, fun c => ⟨fun c2 => ?_, fun c2 => ?_⟩, fun c => ⟨hO, rB_looks hR, rB_letters hR, fun c2 => ?_, fun c2 => ?_⟩⟩
  · exact fin 0 1 (fun z => absurd c z) (by rw [if_neg c2])
  · exact fin 0 0 (fun z => absurd c z) (by rw [if_pos c2])
  · exact fin _ 1 (fun _ => rfl) (by rw [if_neg c2])
  · exact fin _ 0 (fun _ => rfl) (by rw [if_pos c2])
theorem c_fill51 {X : qz_X} {d : Nat} {Q : qz_Q} (g : qz_G) (x : Int32) (hq : ∀ g', Frm [51] g g' → (∀ j, j < 20 → g'.1 51 j = x) → Q g' 0 0) : qz_Call X (d + 1) 298 [.ref 51, .int x] g Q := by
  refine v_J7_fill_53178_51 g x ?_
  refine qz_for (W := fun a v => qz_WP X (d + 1) 298 Q 5 [(0, .ref 51), (1, .int x), (2, .int v), (3, .int 20)] [] a) (n := 20) (fun i a => Frm [51] g a ∧ ∀ j, j < i → a.1 51 j = x) (by decide) (by decide) (fun i a v hI ev cv hle cont => ?_) g ⟨Frm.rf _ g, fun j hj => by omega⟩
  rw [qz_n20] at hle
  refine v_J7_fill_53178_51_5 a x v 20 ⟨fun z => hq a hI.1 (fun j hj => ?_), fun z => ⟨qz_vi (by omega) ?_, cont _ ?_ ⟨hI.1.ui 51 _ _ (by decide), fun j hj => ?_⟩⟩⟩
  · rw [qz_le, qz_n20, ev] at z
    exact hI.2 j (by omega)
  · rw [qz_le, qz_n20, ev] at z
    omega
  · rw [qz_le, qz_n20, ev] at z
    rw [qz_n20]
    omega
  · rw [qz_i1, if_pos rfl, qz_u1, cv]
    by_cases c : j = i
    · rw [if_pos c]
    · rw [if_neg c]
      exact hI.2 j (by omega)
theorem c_fill58 {X : qz_X} {d : Nat} {Q : qz_Q} (g : qz_G) (x : Int32) (hq : ∀ g', Frm [58] g g' → (∀ j, j < 9 → g'.1 58 j = x) → Q g' 0 0) : qz_Call X (d + 1) 298 [.ref 58, .int x] g Q := by
  refine v_J7_fill_53178_58 g x ?_
  refine qz_for (W := fun a v => qz_WP X (d + 1) 298 Q 5 [(0, .ref 58), (1, .int x), (2, .int v), (3, .int 9)] [] a) (n := 9) (fun i a => Frm [58] g a ∧ ∀ j, j < i → a.1 58 j = x) (by decide) (by decide) (fun i a v hI ev cv hle cont => ?_) g ⟨Frm.rf _ g, fun j hj => by omega⟩
  rw [qz_n9] at hle
  refine v_J7_fill_53178_58_5 a x v 9 ⟨fun z => hq a hI.1 (fun j hj => ?_), fun z => ⟨qz_vi (by omega) ?_, cont _ ?_ ⟨hI.1.ui 58 _ _ (by decide), fun j hj => ?_⟩⟩⟩
  · rw [qz_le, qz_n9, ev] at z
    exact hI.2 j (by omega)
  · rw [qz_le, qz_n9, ev] at z
    omega
  · rw [qz_le, qz_n9, ev] at z
    rw [qz_n9]
    omega
  · rw [qz_i1, if_pos rfl, qz_u1, cv]
    by_cases c : j = i
    · rw [if_pos c]
    · rw [if_neg c]
      exact hI.2 j (by omega)
theorem c_X2_forget {X : qz_X} {d : Nat} {Q : qz_Q} (g : qz_G) (hq : ∀ g', Frm [51, 58, 6] g g' → (∀ j, ¬ j = 15 → g'.1 6 j = g.1 6 j) → (∀ j, j < 20 → g'.1 51 j = 0) → (∀ k, k < 9 → g'.1 58 k = qDf k) → g'.1 6 15 = 0 → Q g' 0 0) : qz_Call X (d + 2) 19 [.ref 6] g Q := by
  refine v_X2_forget (d := d + 1) g (c_fill51 (d := d) g 0 (fun g1 f1 h1 => c_fill58 (d := d) g1 0 (fun g3 f3 h3 => ?_)))
  have F1 : Frm [51, 58, 6] g g3 := ⟨fun a ha => (f3.1 a (fun z => ha (by simp at z; simp [z]))).trans (f1.1 a (fun z => ha (by simp at z; simp [z]))), f3.2.trans f1.2⟩
  refine hq _ ((((F1.ui 58 _ _ (by decide)).ui 58 _ _ (by decide)).ui 58 _ _ (by decide)).ui 6 _ _ (by decide)) ?_ ?_ ?_ ?_
  · intro j hj
    rw [qz_i1, if_pos rfl, qz_u1, if_neg hj, qz_i1, if_neg (by decide), qz_i1, if_neg (by decide), qz_i1, if_neg (by decide), f3.1 6 (by decide), f1.1 6 (by decide)]
  · intro j hj
    rw [qz_i1, if_neg (by decide), qz_i1, if_neg (by decide), qz_i1, if_neg (by decide), qz_i1, if_neg (by decide), f3.1 51 (by decide)]
    exact h1 j hj
  · intro k hk
    rw [qz_i1, if_neg (by decide), qz_i1, if_pos rfl, qz_i1, if_pos rfl, qz_i1, if_pos rfl, qz_k2, qz_k3, qz_k6]
    have hc : k = 0 ∨ k = 1 ∨ k = 2 ∨ k = 3 ∨ k = 4 ∨ k = 5 ∨ k = 6 ∨ k = 7 ∨ k = 8 := by omega
    have hz := h3 k hk
    rcases hc with e | e | e | e | e | e | e | e | e <;> subst e <;> first | rfl | exact hz
  · rw [qz_i1, if_pos rfl, qz_u1, if_pos rfl]
theorem c_X2_weighF {X : qz_X} {d : Nat} {Q : qz_Q} {g0 : qz_G} {D : qDt} {w land day t : Int32} (hR : Rel g0) (hD : LwD g0 D) (g : qz_G) (hs : Same g0 g) (hw : qR w (g0.1 12 2)) (hq : ∀ g', Same g0 g' → Frm qRw g g' → (∀ k, k < 9 → g'.1 58 k = qRs g0 D w land day t k) → Q g' 0 0) : qz_Call X (d + 6) 16 [.ref 6, .int w, .int land, .int day, .int t] g Q := by
  have h20 := Rel_20 hR
  refine v_X2_weigh (d := d + 4) g w land day t (c_X2_learn (d := d) hR g hs hw (fun g1 s1 f1 h1 => c_X2_forget (d := d + 3) g1 (fun g3 f3 k6 k51 k58 k15 => ?_)))
  have s3 : Same g0 g3 := by
    refine s1.tr ⟨fun r hr => f3.1 r (fun z => ?_), fun q hq => ?_, by rw [f3.2], by rw [f3.2]⟩
    · simp only [List.mem_cons, List.not_mem_nil, or_false] at z
      rcases z with z | z | z <;> subst z <;> exact absurd hr (by decide)
    · by_cases c : q.1 = 6
      · rw [c]
        refine k6 q.2 (fun z => ?_)
        have e : q = (6, 15) := Prod.ext c z
        rw [e] at hq
        exact absurd hq (by decide)
      · refine congrFun (f3.1 q.1 (fun z => ?_)) q.2
        simp only [List.mem_cons, List.not_mem_nil, or_false] at z
        rcases z with z | z | z
        · have h9 := (by decide : ∀ q ∈ qz_ks, ¬ q.1 = 51) q hq
          exact h9 z
        · have h9 := (by decide : ∀ q ∈ qz_ks, ¬ q.1 = 58) q hq
          exact h9 z
        · exact c z
  have hI : qWI g0 g D w land day t (12 * (g0.1 12 41).toNatClampNeg) g3 := by
    refine ⟨⟨s3, (f1.wk (by decide)).tr (f3.wk (by decide))⟩, fun v hv h5 => ?_, fun a b ha hb => ?_, fun k hk => Or.inr ⟨?_, k58 k (by omega), rfl⟩, fun k hk => ⟨?_, ?_⟩⟩
    · rw [f3.1 57 (by decide)]
      exact h1 v hv h5
    · rw [k51 a ha, b_0]
      refine ⟨fun z => (by cases z), ?_⟩
      rintro ⟨i, j, x1, x2⟩
      have := LwD_12 hD x2.2.1 x2.2.2.1
      have := x2.2.1
      omega
    · rw [k15, b_0]
    · rw [k15, b_0]
    · have e : qDf k = 0 := by
        unfold qDf
        rw [if_neg (by omega)]
      rw [k58 k (by omega), e]
      exact Int32.zero_or
  rw [rS_6_17 hR s3, h20.2.2.1, Int32.sub_eq_add_neg]
  refine qz_down (W := fun a v => qz_WP X (d + 6) 16 Q 20 [(0, .ref 6), (2, .int land), (3, .int day), (5, .int v)] [] a) (fun m a => (m : Int) ≤ (g0.1 12 41).toInt ∧ qWI g0 g D w land day t (12 * m) a) 20 (by omega) ?_ ?_ _ g3 (by omega) ⟨by omega, hI⟩
  · rintro j a hj ⟨hjc, hIa⟩ cont
    have ej := qz_nI (n := j) (by omega)
    have hsa := hIa.1.1
    refine v_X2_weigh_20 (d := d + 4) a land day (nI j) ⟨fun z => ?_, fun _ => ?_⟩
    · rw [qz_lt, ej, qz_n0] at z
      omega
    · rw [rS_6_17 hR hsa]
      refine ⟨rB_laws hR, fun hf => ?_, fun hf => ?_⟩
      · exact c_X2_weighLaw (d := d + 1) hR hD a j (by omega) ((qFo_x hR hsa (by omega)).mp hf.2) hIa (fun g' h' => cont g' ⟨by omega, h'⟩)
      · refine cont a ⟨by omega, qWI_skip hD (p := 12 * (j + 1)) (by omega) ?_ hIa⟩
        intro i' j' x1 x2 x3 x4 x5
        have := LwD_12 hD x3 x4
        have e : i' = j := by omega
        rw [e] at x5
        exact hf ⟨⟨by rw [qz_lt, ej, qz_n0]; omega, by rw [qz_le, ej]; omega⟩, (qFo_x hR hsa (by omega)).mpr x5⟩
  · rintro a ⟨_, hIa⟩
    exact v_X2_weigh_20 (d := d + 4) a land day _ ⟨fun _ => hq a hIa.1.1 hIa.1.2 (qWI_end hIa), fun z => absurd (by decide) z⟩
theorem c_X2_weigh {X : qz_X} {d : Nat} {Q : qz_Q} {g0 : qz_G} {D : qDt} {w land day t : Int32} (hR : Rel g0) (hD : LwD g0 D) (g : qz_G) (hs : Same g0 g) (hw : qR w (g0.1 12 2)) (hq : ∀ g', Same g0 g' → (∀ k, k < 9 → g'.1 58 k = qRs g0 D w land day t k) → Q g' 0 0) : qz_Call X (d + 6) 16 [.ref 6, .int w, .int land, .int day, .int t] g Q := c_X2_weighF hR hD g hs hw (fun g' s' _ h => hq g' s' h)
