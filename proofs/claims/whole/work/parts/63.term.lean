/-! terms -/
theorem qLa_ex {B : Nat → Prop} {N : Nat → Int32} : ∀ (n : Nat), qLa B N n = -1 ∨ ∃ k, k < n ∧ B k ∧ qLa B N n = N k
  | 0 => Or.inl rfl
  | n + 1 => by
    by_cases h : B n
    · exact Or.inr ⟨n, by omega, h, qLa_p h⟩
    · rw [qLa_n h]
      rcases qLa_ex (B := B) (N := N) n with h1 | ⟨k, h1, h2, h3⟩
      · exact Or.inl h1
      · exact Or.inr ⟨k, by omega, h2, h3⟩
theorem qz_lim : ∀ k, k < 10 → 0 ≤ (qz_limits k).toInt ∧ (qz_limits k).toInt ≤ 999999 := by decide
theorem qNb_rng {g : qz_G} {D : qDt} {w land day t : Int32} {k : Nat} (hD : LwD g D) : qNb g D w land day t k = -1 ∨ (0 ≤ (qNb g D w land day t k).toInt ∧ (qNb g D w land day t k).toInt ≤ 999999) := by
  rcases qLa_ex (B := qBk g D w land day t k) (N := g.1 115) (12 * (g.1 12 41).toNatClampNeg) with h | ⟨p, h1, h2, h3⟩
  · exact Or.inl h
  · right
    have e : qNb g D w land day t k = g.1 115 p := h3
    obtain ⟨l1, l2, l3, l4, l5, l6, l7, l8, l9, _⟩ := (hD (p / 12) h2.1).2 (p % 12) h2.2.1
    have ep : 12 * (p / 12) + p % 12 = p := by omega
    rw [ep] at l9 l1
    have hl := qz_lim _ l1
    rw [e]
    simp only [qI, qz_lt, qz_n0] at l9
    omega
/-- the latest telling of a death of the holder of share i -/
noncomputable def qDe (g : qz_G) (w day t : Int32) (i : Nat) : Int32 := qLa (fun k => g.1 85 k = qHn (g.1 97) (g.1 81) (g.1 82) (g.1 83) w i day t ∧ ¬ t < g.1 88 k) nI (g.1 12 3).toNatClampNeg
def qPe (g : qz_G) (w day t : Int32) (i : Nat) : Prop := g.1 79 (qHn (g.1 97) (g.1 81) (g.1 82) (g.1 83) w i day t).toNatClampNeg = 0
noncomputable def qDd (g : qz_G) (w day t lat : Int32) (i : Nat) : Int32 := if lat = 0 then g.1 86 (qDe g w day t i).toNatClampNeg else g.1 87 (qDe g w day t i).toNatClampNeg
def qLv (g : qz_G) (w day t : Int32) : Prop := ∃ i : Nat, (i : Int) < (g.1 96 w.toNatClampNeg).toInt ∧ qPe g w day t i ∧ qDe g w day t i = -1
noncomputable def qMx (P : Nat → Prop) (f : Nat → Int32) : Nat → Int32
  | 0 => -1
  | i + 1 => qIf (P i) (if qMx P f i < f i then f i else qMx P f i) (qMx P f i)
theorem qMx_p {P : Nat → Prop} {f : Nat → Int32} {i : Nat} (h : P i) : qMx P f (i + 1) = if qMx P f i < f i then f i else qMx P f i := qIf_pos h
theorem qMx_n {P : Nat → Prop} {f : Nat → Int32} {i : Nat} (h : ¬ P i) : qMx P f (i + 1) = qMx P f i := qIf_neg h
def qTr (y m : Int32) : Int32 := if m = -1 then -1 else m + y * 365
noncomputable def qBd (g : qz_G) (w day t lat y : Int32) : Int32 := if y = -1 then -1 else qIf (qLv g w day t) (-2) (qTr y (qMx (qPe g w day t) (qDd g w day t lat) (g.1 96 w.toNatClampNeg).toNatClampNeg))
def qOd (g : qz_G) (w lat u : Int32) : Int32 := if u = -1 then -1 else (if lat = 0 then g.1 91 w.toNatClampNeg else g.1 92 w.toNatClampNeg) + u * 365
def qTf (bd od : Int32) : Int32 := if bd = -2 then -1 else if bd < od then od else bd
noncomputable def qTe (g : qz_G) (D : qDt) (w land day t lat : Int32) : Int32 := qTf (qBd g w day t lat (qNb g D w land day t 2)) (qOd g w lat (qNb g D w land day t 3))
theorem qz_mxi (a b : Int32) : (if a < b then b else a).toInt = max a.toInt b.toInt := by
  by_cases c : a < b
  · rw [if_pos c]
    rw [qz_lt] at c
    omega
  · rw [if_neg c]
    rw [qz_lt] at c
    omega
theorem qDe_rng {g : qz_G} (hR : Rel g) {w day t : Int32} {i : Nat} (h : ¬ qDe g w day t i = -1) : qR (qDe g w day t i) (g.1 12 3) ∧ vp_in (qDe g w day t i) 200 ∧ (0 ≤ (g.1 86 (qDe g w day t i).toNatClampNeg).toInt ∧ (g.1 86 (qDe g w day t i).toNatClampNeg).toInt ≤ (g.1 87 (qDe g w day t i).toNatClampNeg).toInt ∧ (g.1 87 (qDe g w day t i).toNatClampNeg).toInt ≤ 99999) := by
  have hB := rB_deaths hR
  simp only [qI, qz_lt, qz_n0, qz_n200] at hB
  have hcl := qz_cl (g.1 12 3)
  rcases qLa_ex (B := fun k => g.1 85 k = qHn (g.1 97) (g.1 81) (g.1 82) (g.1 83) w i day t ∧ ¬ t < g.1 88 k) (N := nI) (g.1 12 3).toNatClampNeg with h1 | ⟨k, h1, _, h2⟩
  · exact absurd h1 h
  · have e : qDe g w day t i = nI k := h2
    have ek := qz_nI (n := k) (by omega)
    have hD := hR.2.2.2.2.1 k (by omega)
    rw [e, nI_clamp (show k < 2147483648 by omega)]
    have h3 := hD.2.1
    have h4 := hD.2.2
    simp only [qI, qz_lt, qz_n0, qz_n99999] at h3 h4
    exact ⟨⟨by rw [qz_lt, ek, qz_n0]; omega, by rw [qz_le, ek]; omega⟩, qz_vi (by omega) (by omega), by omega, by omega, by omega⟩
theorem qDd_rng {g : qz_G} (hR : Rel g) {w day t lat : Int32} {i : Nat} (h : ¬ qDe g w day t i = -1) : 0 ≤ (qDd g w day t lat i).toInt ∧ (qDd g w day t lat i).toInt ≤ 99999 := by
  have := (qDe_rng hR h).2.2
  unfold qDd
  by_cases c : lat = 0
  · rw [if_pos c]; omega
  · rw [if_neg c]; omega
theorem qMx_rng {P : Nat → Prop} {f : Nat → Int32} : ∀ (n : Nat), (∀ i, i < n → P i → 0 ≤ (f i).toInt ∧ (f i).toInt ≤ 99999) → -1 ≤ (qMx P f n).toInt ∧ (qMx P f n).toInt ≤ 99999
  | 0, _ => by
    show -1 ≤ (-1 : Int32).toInt ∧ (-1 : Int32).toInt ≤ 99999
    rw [qz_m1]; omega
  | n + 1, h => by
    have ih := qMx_rng (P := P) (f := f) n (fun i hi => h i (by omega))
    by_cases c : P n
    · have := h n (by omega) c
      rw [qMx_p c, qz_mxi]
      omega
    · rw [qMx_n c]; exact ih
theorem qMx_two {P : Nat → Prop} {f f' : Nat → Int32} : ∀ (n : Nat), (∀ i, i < n → P i → 0 ≤ (f i).toInt ∧ (f i).toInt ≤ (f' i).toInt) → (qMx P f n).toInt ≤ (qMx P f' n).toInt ∧ ((qMx P f n).toInt = -1 ↔ (qMx P f' n).toInt = -1) ∧ -1 ≤ (qMx P f n).toInt
  | 0, _ => by
    show (-1 : Int32).toInt ≤ (-1 : Int32).toInt ∧ ((-1 : Int32).toInt = -1 ↔ (-1 : Int32).toInt = -1) ∧ -1 ≤ (-1 : Int32).toInt
    rw [qz_m1]; omega
  | n + 1, h => by
    have ih := qMx_two (P := P) (f := f) (f' := f') n (fun i hi => h i (by omega))
    by_cases c : P n
    · have := h n (by omega) c
      rw [qMx_p c, qMx_p c, qz_mxi, qz_mxi]
      omega
    · rw [qMx_n c, qMx_n c]; exact ih
theorem qz_365 {y : Int32} (h0 : 0 ≤ y.toInt) (h1 : y.toInt ≤ 999999) : (y * 365).toInt = y.toInt * 365 := by
  rw [qz_ml (by rw [qz_n365]; omega) (by rw [qz_n365]; omega), qz_n365]
theorem qz_y365 {m y : Int32} (hm0 : 0 ≤ m.toInt) (hm : m.toInt ≤ 99999) (h0 : 0 ≤ y.toInt) (h1 : y.toInt ≤ 999999) : (m + y * 365).toInt = m.toInt + y.toInt * 365 := by
  have := qz_365 h0 h1
  rw [qz_ad (by omega) (by omega), this]
theorem qTr_step {y m f : Int32} (hm0 : -1 ≤ m.toInt) (hm : m.toInt ≤ 99999) (h0 : 0 ≤ y.toInt) (h1 : y.toInt ≤ 999999) (hf0 : 0 ≤ f.toInt) (hf : f.toInt ≤ 99999) : (if f + 365 * y ≤ qTr y m then qTr y m else f + 365 * y) = qTr y (if m < f then f else m) := by
  rw [Int32.mul_comm 365 y]
  have e1 := qz_y365 hf0 hf h0 h1
  have em : m = -1 ↔ m.toInt = -1 := by rw [qz_eq, qz_m1]
  have ef : ¬ f = -1 := by rw [qz_eq, qz_m1]; omega
  unfold qTr
  by_cases c : m = -1
  · have := em.mp c
    rw [if_pos c, if_pos (show m < f by rw [qz_lt]; omega), if_neg ef, if_neg]
    rw [qz_le, e1, qz_m1]; omega
  · have hc : ¬ m.toInt = -1 := fun z => c (em.mpr z)
    have e2 := qz_y365 (m := m) (by omega) hm h0 h1
    rw [if_neg c]
    by_cases c2 : m < f
    · rw [if_pos c2, if_neg ef, if_neg]
      rw [qz_lt] at c2
      rw [qz_le, e1, e2]; omega
    · rw [if_neg c2, if_neg c, if_pos]
      rw [qz_lt] at c2
      rw [qz_le, e1, e2]; omega
theorem qBd_live {g : qz_G} {w day t lat y : Int32} (hy : ¬ y = -1) (h : qLv g w day t) : qBd g w day t lat y = -2 := by
  unfold qBd
  rw [if_neg hy, qIf_pos h]
theorem qBd_dead {g : qz_G} {w day t lat y : Int32} (hy : ¬ y = -1) (h : ¬ qLv g w day t) : qBd g w day t lat y = qTr y (qMx (qPe g w day t) (qDd g w day t lat) (g.1 96 w.toNatClampNeg).toNatClampNeg) := by
  unfold qBd
  rw [if_neg hy, qIf_neg h]
theorem qHd_n {who part from_ told : Nat → Int32} {w v day t : Int32} {i : Nat} (h : v.toNatClampNeg = i) : qHd who part from_ told w v day t = qHn who part from_ told w i day t := by
  unfold qHd qHn
  rw [h]
theorem c_X7_termByDeaths {X : qz_X} {d : Nat} {Q : qz_Q} {g0 : qz_G} (hR : Rel g0) (g : qz_G) (hs : Same g0 g) (w day t lat : Int32) (hw : qR w (g0.1 12 2)) (hq : Q g (qBd g0 w day t lat (g.1 58 2)) 0) : qz_Call X (d + 4) 98 [.ref 8, .int w, .int day, .int t, .int lat] g Q := by
  have hO := HO_of hR
  have hm := qI_0 (hO.2.2.2 w hw).1 qz_n4
  have hcl := qz_cl (g0.1 96 w.toNatClampNeg)
  refine v_X7_termByDeaths g w day t lat ?_
  rw [qz_k2]
  generalize g.1 58 2 = y at hq ⊢
  refine ⟨fun hy => ?_, fun hy => ?_⟩
  rotate_left
  · unfold qBd at hq
    rw [if_pos hy] at hq
    exact hq
  refine qz_for (α := Int32) (W := fun a v => qz_WP X (d + 4) 98 Q 24 [(0, .ref 8), (1, .int w), (2, .int day), (3, .int t), (4, .int lat), (5, .int y), (6, .int a), (7, .int v)] [] g) (n := g0.1 96 w.toNatClampNeg) (fun i a => a = qMx (qPe g0 w day t) (qDd g0 w day t lat) i ∧ ∀ j, j < i → ¬ (qPe g0 w day t j ∧ qDe g0 w day t j = -1)) hm.1 (by omega) (fun i a v hI ev cv hle cont => ?_) (-1) ⟨rfl, fun j hj => by omega⟩
  refine v_X7_termByDeaths_24 g w day t lat y a v ?_
  rw [rS_3_12 hR hs, rE_29 hR hs, rS_2_8 hR hs, rE_15 hR hs, rE_30 hR hs, rE_16 hR hs, rE_17 hR hs, qHd_n cv]
  refine ⟨hw, hO.1, fun z => ⟨fun c => ?_, fun c => ?_⟩, fun z => ?_⟩
  · rw [qz_le, ev] at z
    have e : (g0.1 96 w.toNatClampNeg).toNatClampNeg = i := by omega
    rw [qBd_dead hy (fun ⟨j, h1, h2⟩ => hI.2 j (by omega) h2), e, ← hI.1] at hq
    unfold qTr at hq
    rw [if_neg c] at hq
    exact hq
  · rw [qz_le, ev] at z
    have e : (g0.1 96 w.toNatClampNeg).toNatClampNeg = i := by omega
    rw [qBd_dead hy (fun ⟨j, h1, h2⟩ => hI.2 j (by omega) h2), e, ← hI.1] at hq
    unfold qTr at hq
    rw [if_pos c] at hq
    exact hq
  · have hr : qR v (g0.1 96 w.toNatClampNeg) := ⟨by rw [qz_lt, ev, qz_n0]; omega, z⟩
    rw [qz_le, ev] at z
    have hh := qHd_rng (from_ := g0.1 82) (told := g0.1 83) (day := day) (t := t) hO hw hr
    rw [qHd_n cv] at hh
    have nx : ∀ b, ¬ (qPe g0 w day t i ∧ qDe g0 w day t i = -1) → b = qMx (qPe g0 w day t) (qDd g0 w day t lat) (i + 1) → qz_WP X (d + 4) 98 Q 105 [(0, .ref 8), (1, .int w), (2, .int day), (3, .int t), (4, .int lat), (5, .int y), (6, .int b), (7, .int v)] [] g := by
      intro b h1 h2
      refine v_X7_termByDeaths_105 g w day t lat y b v (cont b (by omega) ⟨h2, fun j hj => ?_⟩)
      by_cases c : j = i
      · rw [c]; exact h1
      · exact hI.2 j (by omega)
    refine ⟨hO, fun _ => ?_, fun z2 => absurd hr z2⟩
    refine v_X7_termByDeaths_51 g w day t lat y a v _ ?_
    rw [rS_2_8 hR hs, rE_14 hR hs, rS_2_9 hR hs, rE_18 hR hs, rE_21 hR hs]
    refine ⟨hO.2.1, fun hp => ⟨rB_deaths hR, ?_⟩, fun hp => ?_⟩
    · show qz_WP X (d + 4) 98 Q 78 [(0, .ref 8), (1, .int w), (2, .int day), (3, .int t), (4, .int lat), (5, .int y), (6, .int a), (7, .int v), (9, .int (qDe g0 w day t i))] [] g
      refine v_X7_termByDeaths_78 g w day t lat y a v _ ?_
      rw [rS_2_9 hR hs, rE_19 hR hs, rE_20 hR hs]
      refine ⟨fun hd => ?_, fun hd => ?_⟩
      · have hx := qDe_rng hR hd
        refine ⟨fun _ => ⟨fun hl => ⟨hx.2.1, nx _ (fun z2 => hd z2.2) ?_⟩, fun hl => ⟨hx.2.1, nx _ (fun z2 => hd z2.2) ?_⟩⟩, fun z2 => absurd hx.1 z2⟩
        · have e : qDd g0 w day t lat i = g0.1 86 (qDe g0 w day t i).toNatClampNeg := by unfold qDd; rw [if_pos hl]
          rw [qMx_p (P := qPe g0 w day t) hp.2, ← hI.1, e]
        · have e : qDd g0 w day t lat i = g0.1 87 (qDe g0 w day t i).toNatClampNeg := by unfold qDd; rw [if_neg hl]
          rw [qMx_p (P := qPe g0 w day t) hp.2, ← hI.1, e]
      · rw [qBd_live hy ⟨i, by omega, hp.2, hd⟩] at hq
        exact hq
    · have hnp : ¬ qPe g0 w day t i := fun z2 => hp ⟨hh, z2⟩
      refine nx a (fun z2 => hnp z2.1) ?_
      rw [qMx_n hnp]
      exact hI.1
theorem c_X7_weighedTerm {X : qz_X} {d : Nat} {Q : qz_Q} {g0 : qz_G} {D : qDt} (hR : Rel g0) (g : qz_G) (hs : Same g0 g) (w land day t lat : Int32) (hw : qR w (g0.1 12 2)) (h58 : ∀ k, k < 9 → g.1 58 k = qRs g0 D w land day t k) (hq : Q g (qTe g0 D w land day t lat) 0) : qz_Call X (d + 5) 97 [.ref 8, .int w, .int day, .int t, .int lat] g Q := by
  have e2 := h58 2 (by omega)
  have e3 := h58 3 (by omega)
  rw [qRs_n (by omega) (by decide)] at e2 e3
  refine v_X7_weighedTerm (d := d + 2) g w day t lat (c_X7_termByDeaths (d := d) hR g hs w day t lat hw ?_)
  rw [e2, qz_k3, e3, rS_3_12 hR hs, rE_24 hR hs, rE_25 hR hs]
  unfold qTe qTf qOd at hq
  refine ⟨fun c => ⟨fun c2 => ⟨hw, rB_works hR, fun l => ?_, fun l => ?_⟩, fun c2 => ?_⟩, fun c => ?_⟩
  · rw [if_neg c, if_neg c2, if_pos l] at hq
    exact hq
  · rw [if_neg c, if_neg c2, if_neg l] at hq
    exact hq
  · rw [if_neg c, if_pos c2] at hq
    exact hq
  · rw [if_pos c] at hq
    exact hq
theorem c_X7_termOf {X : qz_X} {d : Nat} {Q : qz_Q} {g0 : qz_G} {D : qDt} (hR : Rel g0) (hD : LwD g0 D) (g : qz_G) (hs : Same g0 g) (w land day t lat : Int32) (hw : qR w (g0.1 12 2)) (hq : ∀ g', Same g0 g' → Q g' (qTe g0 D w land day t lat) 0) : qz_Call X (d + 7) 96 [.ref 8, .int w, .int land, .int day, .int t, .int lat] g Q :=
  v_X7_termOf (d := d + 6) g w land day t lat (c_X2_weigh (d := d) hR hD g hs hw (fun g1 s1 h58 => c_X7_weighedTerm (d := d + 1) hR g1 s1 w land day t lat hw h58 (hq g1 s1)))
theorem c_X12_termOfB {X : qz_X} {d : Nat} {Q : qz_Q} {g0 gb : qz_G} {D : qDt} (hR : Rel g0) (hD : LwD g0 D) (g : qz_G) (hs : SamB g0 gb g) (w land day t lat : Int32) (hw : qR w (g0.1 12 2)) (hq : ∀ g', SamB g0 gb g' → Q g' (qTe g0 D w land day t lat) 0) : qz_Call X (d + 6) 247 [.ref 12, .int w, .int land, .int day, .int t, .int lat] g Q := by
  have hO := HO_of hR
  have hm := qI_0 (hO.2.2.2 w hw).1 qz_n4
  have hcl := qz_cl (g0.1 96 w.toNatClampNeg)
  refine v_X12_termOf (d := d + 3) g w land day t lat (c_X12_numberByB (d := d + 1) hR hD g hs hw 2 (by omega) 116 rfl (fun g1 s1 => ?_))
  have fin : ∀ a, a = qBd g0 w day t lat (qNb g0 D w land day t 2) → ¬ a = -2 → qz_WP X (d + 6) 247 Q 132 [(0, .ref 12), (1, .int w), (2, .int land), (3, .int day), (4, .int t), (5, .int lat), (7, .int a)] [] g1 := by
    intro a ha ha2
    refine v_X12_termOf_132 (d := d + 3) g1 w land day t lat a (c_X12_numberByB (d := d + 1) hR hD g1 s1 hw 3 (by omega) 117 rfl (fun g2 s2 => ?_))
    rw [s2.1.1 91 (by decide), s2.1.1 92 (by decide), Int32.mul_comm 365]
    have h := hq g2 s2
    unfold qTe qTf qOd at h
    rw [← ha, if_neg ha2] at h
    have hv := qz_in80 hw (rB_works hR)
    refine ⟨fun c => ⟨fun l => ⟨hv, fun z => ?_, fun z => ?_⟩, fun l => ⟨hv, fun z => ?_, fun z => ?_⟩⟩, fun c => ⟨fun z => ?_, fun z => ?_⟩⟩
    · rw [if_neg c, if_pos l, if_neg (Int32.not_lt.mpr z)] at h
      exact h
    · rw [if_neg c, if_pos l, if_pos (Int32.not_le.mp z)] at h
      exact h
    · rw [if_neg c, if_neg l, if_neg (Int32.not_lt.mpr z)] at h
      exact h
    · rw [if_neg c, if_neg l, if_pos (Int32.not_le.mp z)] at h
      exact h
    · rw [if_pos c, if_neg (Int32.not_lt.mpr z)] at h
      exact h
    · rw [if_pos c, if_pos (Int32.not_le.mp z)] at h
      exact h
  have hyr := qNb_rng (w := w) (land := land) (day := day) (t := t) (k := 2) hD
  have live : ¬ qNb g0 D w land day t 2 = -1 → qLv g0 w day t → Q g1 (-1) 0 := by
    intro hy h
    have h2 := hq g1 s1
    unfold qTe qTf at h2
    rw [qBd_live hy h, if_pos rfl] at h2
    exact h2
  generalize qNb g0 D w land day t 2 = y at fin hyr live ⊢
  refine qz_for (α := Int32) (W := fun a v => qz_WP X (d + 6) 247 Q 19 [(0, .ref 12), (1, .int w), (2, .int land), (3, .int day), (4, .int t), (5, .int lat), (6, .int y), (7, .int a), (8, .int v)] [] g1) (n := g0.1 96 w.toNatClampNeg) (fun i a => a = qTr y (qMx (qPe g0 w day t) (qDd g0 w day t lat) i) ∧ (y = -1 → a = -1) ∧ ∀ j, j < i → ¬ (qPe g0 w day t j ∧ qDe g0 w day t j = -1)) hm.1 (by omega) (fun i a v hI ev cv hle cont => ?_) (-1) ⟨rfl, fun _ => rfl, fun j hj => by omega⟩
  have hmx := qMx_rng (P := qPe g0 w day t) (f := qDd g0 w day t lat) i (fun j hj hp => qDd_rng hR (fun z => hI.2.2 j hj ⟨hp, z⟩))
  have hne2 : ∀ m : Int32, -1 ≤ m.toInt → m.toInt ≤ 99999 → ¬ y = -1 → ¬ qTr y m = -2 := by
    intro m h1 h2 hy
    have hy2 := hyr.resolve_left hy
    unfold qTr
    by_cases c : m = -1
    · rw [if_pos c]; decide
    · rw [if_neg c, qz_eq, qz_y365 (by
        have : ¬ m.toInt = -1 := fun z => c (by rw [qz_eq, qz_m1]; exact z)
        omega) h2 hy2.1 hy2.2]
      have : (-2 : Int32).toInt = -2 := by decide
      have : ¬ m.toInt = -1 := fun z => c (by rw [qz_eq, qz_m1]; exact z)
      omega
  refine v_X12_termOf_19 (d := d + 3) g1 w land day t lat y a v ?_
  rw [s1.1.1 96 (by decide), s1.1.1 97 (by decide), s1.1.1 81 (by decide), s1.1.1 82 (by decide), s1.1.1 83 (by decide), rN_12_2 s1, rN_12_1 s1, qHd_n cv]
  refine ⟨qz_in80 hw hO.1, fun z => ?_, fun z => ⟨fun hy => ?_, fun hy => ?_⟩⟩
  · rw [qz_le, ev] at z
    have e : (g0.1 96 w.toNatClampNeg).toNatClampNeg = i := by omega
    by_cases hy : y = -1
    · refine fin a ?_ ?_
      · rw [hI.2.1 hy]
        unfold qBd
        rw [if_pos hy]
      · rw [hI.2.1 hy]; decide
    · refine fin a ?_ ?_
      · rw [qBd_dead hy (fun ⟨j, h1, h2⟩ => hI.2.2 j (by omega) h2), e]
        exact hI.1
      · rw [hI.1]
        exact hne2 _ hmx.1 hmx.2 hy
  · refine fin a ?_ ?_
    · rw [hI.2.1 hy]
      unfold qBd
      rw [if_pos hy]
    · rw [hI.2.1 hy]; decide
  · have hr : qR v (g0.1 96 w.toNatClampNeg) := ⟨by rw [qz_lt, ev, qz_n0]; omega, z⟩
    rw [qz_le, ev] at z
    have hh := qHd_rng (from_ := g0.1 82) (told := g0.1 83) (day := day) (t := t) hO hw hr
    rw [qHd_n cv] at hh
    have hy2 := hyr.resolve_left hy
    have nx : ∀ b, ¬ (qPe g0 w day t i ∧ qDe g0 w day t i = -1) → b = qTr y (qMx (qPe g0 w day t) (qDd g0 w day t lat) (i + 1)) → qz_WP X (d + 6) 247 Q 19 [(0, .ref 12), (1, .int w), (2, .int land), (3, .int day), (4, .int t), (5, .int lat), (6, .int y), (7, .int b), (8, .int (v + 1))] [] g1 := by
      intro b h1 h2
      refine cont b (by omega) ⟨h2, fun z2 => absurd z2 hy, fun j hj => ?_⟩
      by_cases c : j = i
      · rw [c]; exact h1
      · exact hI.2.2 j (by omega)
    refine ⟨hO, hw, hr, ?_⟩
    refine v_X12_termOf_48 (d := d + 3) g1 w land day t lat y a v _ ?_
    rw [s1.1.1 79 (by decide), s1.1.1 85 (by decide), s1.1.1 88 (by decide), rN_12_3 s1]
    refine ⟨qz_in40 hh hO.2.1, fun hp => ⟨rB_deaths hR, ?_⟩, fun hp => ?_⟩
    · show qz_WP X (d + 6) 247 Q 71 [(0, .ref 12), (1, .int w), (2, .int land), (3, .int day), (4, .int t), (5, .int lat), (6, .int y), (7, .int a), (8, .int v), (10, .int (qDe g0 w day t i))] [] g1
      refine v_X12_termOf_71 (d := d + 3) g1 w land day t lat y a v _ ?_
      rw [s1.1.1 86 (by decide), s1.1.1 87 (by decide)]
      refine ⟨fun hd => ?_, fun hd => ?_⟩
      · have hx := qDe_rng hR hd
        have hdd := qDd_rng (lat := lat) hR hd
        have stp := qTr_step hmx.1 hmx.2 hy2.1 hy2.2 hdd.1 hdd.2
        rw [← hI.1, ← qMx_p (P := qPe g0 w day t) hp] at stp
        have go : ∀ f, f = qDd g0 w day t lat i → qz_WP X (d + 6) 247 Q 110 [(0, .ref 12), (1, .int w), (2, .int land), (3, .int day), (4, .int t), (5, .int lat), (6, .int y), (7, .int a), (8, .int v), (11, .int (f + 365 * y))] [] g1 := by
          intro f hf
          subst hf
          refine v_X12_termOf_110 (d := d + 3) g1 w land day t lat y a v _ ⟨fun c => v_X12_termOf_126 (d := d + 3) g1 w land day t lat y _ v ?_, fun c => v_X12_termOf_126 (d := d + 3) g1 w land day t lat y _ v ?_⟩
          · refine nx a (fun z2 => hd z2.2) ?_
            rw [if_pos c] at stp
            exact stp
          · refine nx _ (fun z2 => hd z2.2) ?_
            rw [if_neg c] at stp
            exact stp
        refine ⟨fun hl => ⟨hx.2.1, go _ ?_⟩, fun hl => ⟨hx.2.1, go _ ?_⟩⟩
        · unfold qDd; rw [if_pos hl]
        · unfold qDd; rw [if_neg hl]
      · exact live hy ⟨i, by omega, hp, hd⟩
    · have hnp : ¬ qPe g0 w day t i := fun z2 => hp z2
      refine v_X12_termOf_126 (d := d + 3) g1 w land day t lat y _ v (nx a (fun z2 => hnp z2.1) ?_)
      rw [qMx_n hnp]
      exact hI.1
theorem c_X12_termOf {X : qz_X} {d : Nat} {Q : qz_Q} {g0 : qz_G} {D : qDt} (hR : Rel g0) (hD : LwD g0 D) (g : qz_G) (hs : Same g0 g) (w land day t lat : Int32) (hw : qR w (g0.1 12 2)) (hq : ∀ g', Same g0 g' → Q g' (qTe g0 D w land day t lat) 0) : qz_Call X (d + 6) 247 [.ref 12, .int w, .int land, .int day, .int t, .int lat] g Q := c_X12_termOfB hR hD g (SamB.of hs) w land day t lat hw (fun g' s' => hq g' s'.2)
theorem P_term {X : qz_X} {d : Nat} {g : qz_G} (v1 v2 v3 v4 v5 : Int32) (hR : Rel g) : qz_Pair X (d + 8) 161 248 [.int v1, .int v2, .int v3, .int v4, .int v5] g := by
  obtain ⟨D, hD⟩ := LwD_of hR
  have e3 : g.1 3 12 = g.1 12 2 := rS_3_12 hR (Same.rf g)
  have hqi : qI v5 0 1 ↔ qR v5 2 := by
    simp only [qI, qR, qz_lt, qz_le, qz_n0, qz_n1, qz_n2]
    omega
  refine v_X11_term (d := d + 4) g v1 v2 v3 v4 v5 ?_
  rw [e3]
  refine ⟨fun hc => ⟨fun h5 => ⟨fun c => ?_, fun c => ?_⟩, fun h5 => ?_⟩, fun hc => ?_⟩
  · refine c_X7_termOf (d := d) hR hD g (Same.rf g) v1 v2 v3 v4 0 hc.1 (fun g2 s2 => ?_)
    exact v_X12_term (d := d + 5) g2 v1 v2 v3 v4 v5 ⟨fun _ => ⟨fun _ => ⟨fun _ => c_X12_termOf (d := d + 1) hR hD g2 s2 v1 v2 v3 v4 0 hc.1 (fun g' s' => ⟨rfl, rfl, Rel_same hR s'⟩), fun z => absurd z c⟩, fun z => absurd (hqi.mpr h5) z⟩, fun z => absurd (by rw [rM_12_2 s2]; exact hc) z⟩
  · refine c_X7_termOf (d := d) hR hD g (Same.rf g) v1 v2 v3 v4 1 hc.1 (fun g2 s2 => ?_)
    exact v_X12_term (d := d + 5) g2 v1 v2 v3 v4 v5 ⟨fun _ => ⟨fun _ => ⟨fun z => absurd c z, fun _ => c_X12_termOf (d := d + 1) hR hD g2 s2 v1 v2 v3 v4 1 hc.1 (fun g' s' => ⟨rfl, rfl, Rel_same hR s'⟩)⟩, fun z => absurd (hqi.mpr h5) z⟩, fun z => absurd (by rw [rM_12_2 s2]; exact hc) z⟩
  · exact v_X12_term (d := d + 5) g v1 v2 v3 v4 v5 ⟨fun _ => ⟨fun z => absurd (hqi.mp z) h5, fun _ => ⟨rfl, rfl, hR⟩⟩, fun z => absurd hc z⟩
  · exact v_X12_term (d := d + 5) g v1 v2 v3 v4 v5 ⟨fun z => absurd z hc, fun _ => ⟨rfl, rfl, hR⟩⟩
