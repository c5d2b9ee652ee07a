/-! the reference: the law is kept -/
def RkF (M : Nat) (g0 g : qz_G) : Prop := g.2 = g0.2 ∧ ∀ r k : Nat, ¬ (r = 107 ∧ 220 * M ≤ k) → ¬ (112 ≤ r ∧ r ≤ 116 ∧ 12 * M ≤ k) → g.1 r k = g0.1 r k
def RkC (M : Nat) (g : qz_G) (C : List qOp) (k : Nat) : Prop := ∀ j, j < k → g.1 107 (220 * M + j) = qWm (qOa C j)
def RkL (M : Nat) (g : qz_G) (cl : List qCl) (m : Nat) : Prop := ∀ j, j < m → g.1 112 (12 * M + j) = qz_letters (qCa cl j).1 ∧ g.1 115 (12 * M + j) = nI (qCa cl j).2.1 ∧ g.1 116 (12 * M + j) = nI (qCa cl j).2.2.1 ∧ g.1 113 (12 * M + j) = nI (220 * M + (qCa cl j).2.2.2.1) ∧ g.1 114 (12 * M + j) = nI (220 * M + (qCa cl j).2.2.2.2)
theorem c_keepM {X : qz_X} {d : Nat} {Q : qz_Q} (g : qz_G) {M m : Nat} {C : List qOp} {cl : List qCl} (hM : M < 20) (hm : m ≤ 12) (hC : C.length ≤ 200) (e31 : g.1 12 31 = nI C.length) (e33 : g.1 12 33 = nI m) (e41 : g.1 12 41 = nI M) (e100 : ∀ k, k < C.length → g.1 100 k = qWm (qOa C k)) (hrow : ∀ j, j < m → g.1 102 j = qz_letters (qCa cl j).1 ∧ g.1 105 j = nI (qCa cl j).2.1 ∧ g.1 106 j = nI (qCa cl j).2.2.1 ∧ g.1 103 j = nI (qCa cl j).2.2.2.1 ∧ g.1 104 j = nI (qCa cl j).2.2.2.2) (hq : ∀ g', RkF M g g' → RkC M g' C C.length → RkL M g' cl m → Q (qz_ui g' 12 41 (nI (M + 1))) (nI M) 0) : qz_WP X (d + 2) 236 Q 186 [(0, .ref 12), (6, .int 0)] [] g := by
  have two : ∀ (f k : Nat) (g1 : qz_G), k + f = m → RkF M g g1 → RkC M g1 C C.length → RkL M g1 cl k → qz_WP X (d + 2) 236 Q 227 [(0, .ref 12), (6, .int (nI k))] [] g1 := by
    intro f
    induction f with
    | zero =>
      intro k g1 hk hf hc hl
      have ek : k = m := by omega
      subst ek
      have x33 : g1.1 12 33 = nI k := by rw [hf.2 12 33 (by omega) (by omega)]; exact e33
      have x41 : g1.1 12 41 = nI M := by rw [hf.2 12 41 (by omega) (by omega)]; exact e41
      refine v_X12_law_227 g1 (nI k) ⟨fun _ => ?_, fun z => absurd (by rw [x33]; exact Int32.le_refl _) z⟩
      rw [x41, nI_1, nI_pred]
      exact hq g1 hf hc hl
    | succ f ih =>
      intro k g1 hk hf hc hl
      have x33 : g1.1 12 33 = nI m := by rw [hf.2 12 33 (by omega) (by omega)]; exact e33
      have x41 : g1.1 12 41 = nI M := by rw [hf.2 12 41 (by omega) (by omega)]; exact e41
      have rk := hrow k (by omega)
      have eix : 12 * g1.1 12 41 + nI k = nI (12 * M + k) := by rw [x41, show (12 : Int32) = nI 12 from by decide, nI_mul, nI_add]
      have ecl : (nI (12 * M + k)).toNatClampNeg = 12 * M + k := nI_clamp (by omega)
      have eck : (nI k).toNatClampNeg = k := nI_clamp (by omega)
      refine v_X12_law_227 g1 (nI k) ⟨fun z => absurd z (by rw [x33, nI_leI (by omega) (by omega)]; omega), fun _ => ?_⟩
      rw [eix, ecl, eck]
      refine ⟨qz_vi (by rw [nI_toInt (by omega)]; omega) (by rw [nI_toInt (by omega)]; omega), qz_vi (by rw [nI_toInt (by omega)]; omega) (by rw [nI_toInt (by omega)]; omega), ?_⟩
      rw [nI_1, x41, show (220 : Int32) = nI 220 from by decide, nI_mul, hf.2 102 k (by omega) (by omega), hf.2 105 k (by omega) (by omega), hf.2 106 k (by omega) (by omega), hf.2 103 k (by omega) (by omega), hf.2 104 k (by omega) (by omega), rk.1, rk.2.1, rk.2.2.1, rk.2.2.2.1, rk.2.2.2.2, nI_add, nI_add]
      refine ih (k + 1) _ (by omega) ⟨hf.1, fun r j n1 n2 => ?_⟩ (fun j hj => ?_) (fun j hj => ?_)
      · rw [ui_n (by omega), ui_n (by omega), ui_n (by omega), ui_n (by omega), ui_n (by omega)]
        exact hf.2 r j n1 n2
      · rw [ui_n (by omega), ui_n (by omega), ui_n (by omega), ui_n (by omega), ui_n (by omega)]
        exact hc j hj
      · by_cases c : j = k
        · subst c
          refine ⟨?_, ?_, ?_, ?_, ?_⟩
          · rw [ui_n (by omega), ui_n (by omega), ui_n (by omega), ui_n (by omega), ui_s]
          · rw [ui_n (by omega), ui_n (by omega), ui_n (by omega), ui_s]
          · rw [ui_n (by omega), ui_n (by omega), ui_s]
          · rw [ui_n (by omega), ui_s]
          · rw [ui_s]
        · have old : ∀ a, (qz_ui (qz_ui (qz_ui (qz_ui (qz_ui g1 112 (12 * M + k) (qz_letters (qCa cl k).1)) 115 (12 * M + k) (nI (qCa cl k).2.1)) 116 (12 * M + k) (nI (qCa cl k).2.2.1)) 113 (12 * M + k) (nI (220 * M + (qCa cl k).2.2.2.1))) 114 (12 * M + k) (nI (220 * M + (qCa cl k).2.2.2.2))).1 a (12 * M + j) = g1.1 a (12 * M + j) := fun a => by
            rw [ui_n (by omega), ui_n (by omega), ui_n (by omega), ui_n (by omega), ui_n (by omega)]
          rw [old, old, old, old, old]
          exact hl j (by omega)
  have one : ∀ (f k : Nat) (g1 : qz_G), k + f = C.length → RkF M g g1 → RkC M g1 C k → qz_WP X (d + 2) 236 Q 186 [(0, .ref 12), (6, .int (nI k))] [] g1 := by
    intro f
    induction f with
    | zero =>
      intro k g1 hk hf hc
      have ek : k = C.length := by omega
      subst ek
      have x31 : g1.1 12 31 = nI C.length := by rw [hf.2 12 31 (by omega) (by omega)]; exact e31
      refine v_X12_law_186 g1 _ ⟨fun _ => ?_, fun z => absurd (by rw [x31]; exact Int32.le_refl _) z⟩
      exact two m 0 g1 (by omega) hf hc (fun j hj => absurd hj (Nat.not_lt_zero _))
    | succ f ih =>
      intro k g1 hk hf hc
      have x31 : g1.1 12 31 = nI C.length := by rw [hf.2 12 31 (by omega) (by omega)]; exact e31
      have x41 : g1.1 12 41 = nI M := by rw [hf.2 12 41 (by omega) (by omega)]; exact e41
      have eix : 220 * g1.1 12 41 + nI k = nI (220 * M + k) := by rw [x41, show (220 : Int32) = nI 220 from by decide, nI_mul, nI_add]
      have ecl : (nI (220 * M + k)).toNatClampNeg = 220 * M + k := nI_clamp (by omega)
      have eck : (nI k).toNatClampNeg = k := nI_clamp (by omega)
      refine v_X12_law_186 g1 (nI k) ⟨fun z => absurd z (by rw [x31, nI_leI (by omega) (by omega)]; omega), fun _ => ?_⟩
      rw [eix, ecl, eck]
      refine ⟨qz_vi (by rw [nI_toInt (by omega)]; omega) (by rw [nI_toInt (by omega)]; omega), qz_vi (by rw [nI_toInt (by omega)]; omega) (by rw [nI_toInt (by omega)]; omega), ?_⟩
      rw [nI_1, hf.2 100 k (by omega) (by omega), e100 k (by omega)]
      refine ih (k + 1) _ (by omega) ⟨hf.1, fun r j n1 n2 => ?_⟩ (fun j hj => ?_)
      · rw [ui_n (by omega)]; exact hf.2 r j n1 n2
      · by_cases c : j = k
        · subst c
          rw [ui_s]
        · rw [ui_n (by omega)]; exact hc j (by omega)
  exact one C.length 0 g (by omega) ⟨rfl, fun _ _ _ _ => rfl⟩ (fun j hj => absurd hj (Nat.not_lt_zero _))
/-- a text read by the reference -/
theorem c_textM {X : qz_X} {d : Nat} {Q : qz_Q} {n : Nat} {sg : Nat → Nat} {g0 : qz_G} (hb : RmB n sg g0) (v1 v2 v3 : Int32) (hq1 : ∀ g' i C cl, LwG sg n i C cl → RcS n g0 g' (i + 1) n C cl → vp_in (g'.1 12 41) 20 ∧ qz_WP X (d + 9) 236 Q 186 [(0, .ref 12), (6, .int 0)] [] (qz_ui (qz_ui (qz_ui (qz_ui (qz_ui g' 12 25 0) 108 ((g'.1 12 41).toNatClampNeg) v1) 109 ((g'.1 12 41).toNatClampNeg) v2) 110 ((g'.1 12 41).toNatClampNeg) v3) 111 ((g'.1 12 41).toNatClampNeg) (g'.1 12 33))) (hq2 : ∀ g' kd at_, LwX sg n kd at_ → RcX g0 g' kd at_ → Q (qz_ui g' 12 25 0) (qFv kd at_) 0) : ∀ (f i p : Nat) (C : List qOp) (cl : List qCl) (g : qz_G), p + f = n → LwP sg i p C cl → RcS n g0 g i p C cl → ∀ Q7 : qz_Q, (∀ g7, qz_WP X (d + 9) 236 Q 83 [(0, .ref 12), (1, .int v1), (2, .int v2), (3, .int v3), (5, .int 1)] [] g7 → Q7 g7 1 0) → (∀ g7, qz_WP X (d + 9) 236 Q 83 [(0, .ref 12), (1, .int v1), (2, .int v2), (3, .int v3), (5, .int 0)] [] g7 → Q7 g7 0 0) → qz_Call X (d + 8) 235 [.ref 12] g Q7 := by
  have bad : ∀ g' kd at_, LwX sg n kd at_ → RcX g0 g' kd at_ → qz_WP X (d + 9) 236 Q 83 [(0, .ref 12), (1, .int v1), (2, .int v2), (3, .int v3), (5, .int 0)] [] g' := by
    intro g' kd at_ hX hx
    refine v_X12_law_83 (d := d + 7) g' v1 v2 v3 0 ⟨fun _ => ?_, fun z => absurd rfl z⟩
    rw [hx.2]
    exact hq2 g' kd at_ hX hx
  intro f
  induction f using Nat.strongRecOn with
  | _ f ihf =>
    intro i p C cl g hf hL hS Q7 k1 k0
    refine c_clauseM (d := d) hb g hS (fun g' q C' k w1 w2 hG hpq hS' => k1 _ ?_) (fun g' kd at_ hF hx => k0 _ <| bad g' kd at_ ⟨i, p, C, cl, hL, Or.inl hF⟩ hx)
    have hqn := hS'.2.2.2.2.2.1
    have hn := hb.1
    have hP : RmP n sg g' q := RmP_of (hS'.1.B hb) (RmF.rf g') hS'.2.1 hqn
    refine v_X12_law_83 (d := d + 7) g' v1 v2 v3 1 ⟨fun z => absurd z (by decide), fun _ => ⟨fun z => ?_, fun z => ?_⟩⟩
    · rw [hP.1, hP.2.1, nI_leI (by omega) (by omega)] at z
      have : q = n := by omega
      subst this
      exact hq1 g' i C' _ ⟨p, C, cl, q, k, w1, w2, hL, hG, Nat.le_refl _, rfl⟩ hS'
    · rw [hP.1, hP.2.1, nI_leI (by omega) (by omega)] at z
      have h59 := hP.is (c := 59) (s := 59) (by decide) (by decide)
      refine v_X12_takes (d := d + 6) g' 59 ⟨hP.c.1, hP.c.2, fun y => ⟨fun w => absurd w (by decide), fun _ => ?_⟩, fun y => ⟨fun _ => ?_, fun w => absurd rfl w⟩⟩
      · have s59 := h59.mp y
        have hL' : LwP sg (i + 1) (q + 1) C' (cl ++ [(k, w1, w2, C.length, C'.length)]) := ⟨p, C, cl, q, k, w1, w2, hL, hG, s59, rfl, rfl⟩
        have hS2 : RcS n g0 (qz_ui g' 12 26 (g'.1 12 26 + 1)) (i + 1) (q + 1) C' (cl ++ [(k, w1, w2, C.length, C'.length)]) := by
          obtain ⟨a1, a2, a3, a4, a5, a6, a7, a8, a9, a10⟩ := hS'
          refine ⟨a1.u12 (by omega) _, by rw [ui_s, a2, nI_1], by rw [ui_n (by omega)]; exact a3, by rw [ui_n (by omega)]; exact a4, fun k hk => by rw [ui_n (by omega)]; exact a5 k hk, by omega, by omega, a8, a9, fun j hj => ?_⟩
          rw [ui_n (by omega), ui_n (by omega), ui_n (by omega), ui_n (by omega), ui_n (by omega)]
          exact a10 j hj
        exact ihf (n - (q + 1)) (by omega) (i + 1) (q + 1) C' _ _ (by omega) hL' hS2 _ (fun g7 w => ⟨fun z => absurd z (by decide), fun _ => w⟩) (fun g7 w => ⟨fun _ => w, fun z => absurd rfl z⟩)
      · refine bad _ 1 q ⟨i, p, C, cl, hL, Or.inr ⟨q, C', k, w1, w2, hG, by omega, fun w => y (h59.mpr w), rfl, rfl⟩⟩ ⟨hS'.1.u12 (by omega) _, ?_⟩
        rw [ui_s, hP.1]
        exact qGv 1 q (by decide)
