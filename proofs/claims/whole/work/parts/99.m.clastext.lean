/-! the class: a text read, clause by clause -/
theorem qTy_as {asks asks' : Int32} {C : List qOp} {a b : Nat} (h : qTy C asks a b) (hx : ¬ asks = 0 → ¬ asks' = 0) : qTy C asks' a b := by
  rcases h with h | ⟨T, h1, h2, h3⟩
  · exact Or.inl h
  · refine Or.inr ⟨T, h1, h2, fun k k1 k2 => ?_⟩
    obtain ⟨a0, a1, a2, a3, a4, a5⟩ := h3 k k1 k2
    exact ⟨a0, a1, fun z => ⟨(a2 z).1, fun w => hx ((a2 z).2.1 w), (a2 z).2.2⟩, a3, a4, a5⟩
theorem qTy_app {asks : Int32} {C t : List qOp} {a b : Nat} (h : qTy C asks a b) (hb : b ≤ C.length) : qTy (C ++ t) asks a b := by
  rcases h with h | ⟨T, h1, h2, h3⟩
  · exact Or.inl h
  · refine Or.inr ⟨T, h1, h2, fun k k1 k2 => ?_⟩
    rw [qOa_l (by omega)]
    exact h3 k k1 k2
def CxL (L : Nat) (g : qz_G) (asks : Int32) (C : List qOp) (cl : List qCl) (i : Nat) : Prop := cl.length = i ∧ ∀ j, j < i → g.1 52 (12 * L + j) = nI (qCa cl j).1 ∧ g.1 53 (12 * L + j) = nI (qCa cl j).2.1 ∧ g.1 54 (12 * L + j) = (if (qCa cl j).1 = 9 then nI (qCa cl j).2.2.1 else -1) ∧ g.1 55 (12 * L + j) = nI (200 * L + (qCa cl j).2.2.2.1) ∧ g.1 56 (12 * L + j) = nI (200 * L + (qCa cl j).2.2.2.2) ∧ (qCa cl j).1 < 10 ∧ (qCa cl j).2.1 ≤ qLm (qCa cl j).1 ∧ (qCa cl j).2.2.1 ≤ 11 ∧ (qCa cl j).2.2.2.1 ≤ (qCa cl j).2.2.2.2 ∧ (qCa cl j).2.2.2.2 ≤ C.length ∧ qTy C asks (qCa cl j).2.2.2.1 (qCa cl j).2.2.2.2
theorem CxL_same {L : Nat} {g g' : qz_G} {a a' : Int32} {C : List qOp} {cl : List qCl} {i : Nat} (h : CxL L g a C cl i) (e : ∀ r k, 52 ≤ r → r ≤ 56 → g'.1 r k = g.1 r k) (ha : ¬ a = 0 → ¬ a' = 0) : CxL L g' a' C cl i := by
  refine ⟨h.1, fun j hj => ?_⟩
  obtain ⟨a1, a2, a3, a4, a5, a6, a7, a8, a9, a10, a11⟩ := h.2 j hj
  rw [e 52 _ (by omega) (by omega), e 53 _ (by omega) (by omega), e 54 _ (by omega) (by omega), e 55 _ (by omega) (by omega), e 56 _ (by omega) (by omega)]
  exact ⟨a1, a2, a3, a4, a5, a6, a7, a8, a9, a10, qTy_as a11 ha⟩
theorem CxL_step {L : Nat} {g g' : qz_G} {a a' : Int32} {C t : List qOp} {cl : List qCl} {i : Nat} (h : CxL L g a C cl i) (ha : ¬ a = 0 → ¬ a' = 0) {k v1 v2 : Nat} (e2 : g'.1 52 (12 * L + i) = nI k) (e3 : g'.1 53 (12 * L + i) = nI v1) (e4 : g'.1 54 (12 * L + i) = if k = 9 then nI v2 else -1) (e5 : g'.1 55 (12 * L + i) = nI (200 * L + C.length)) (e6 : g'.1 56 (12 * L + i) = nI (200 * L + (C ++ t).length)) (hk : k < 10) (h1 : v1 ≤ qLm k) (h2 : v2 ≤ 11) (ht : qTy (C ++ t) a' C.length (C ++ t).length) (old : ∀ r j, 52 ≤ r → r ≤ 56 → ¬ j = 12 * L + i → g'.1 r j = g.1 r j) : CxL L g' a' (C ++ t) (cl ++ [(k, v1, v2, C.length, (C ++ t).length)]) (i + 1) := by
  have hl := h.1
  refine ⟨by rw [List.length_append, hl]; rfl, fun j hj => ?_⟩
  by_cases c : j = i
  · subst c
    have e : qCa (cl ++ [(k, v1, v2, C.length, (C ++ t).length)]) j = (k, v1, v2, C.length, (C ++ t).length) := by rw [← hl]; exact qCa_e
    rw [e]
    exact ⟨e2, e3, e4, e5, e6, hk, h1, h2, by show C.length ≤ (C ++ t).length; rw [List.length_append]; omega, Nat.le_refl _, ht⟩
  · obtain ⟨a1, a2, a3, a4, a5, a6, a7, a8, a9, a10, a11⟩ := h.2 j (by omega)
    rw [qCa_l (by omega), old 52 _ (by omega) (by omega) (by omega), old 53 _ (by omega) (by omega) (by omega), old 54 _ (by omega) (by omega) (by omega), old 55 _ (by omega) (by omega) (by omega), old 56 _ (by omega) (by omega) (by omega)]
    exact ⟨a1, a2, a3, a4, a5, a6, a7, a8, a9, by rw [List.length_append]; omega, qTy_as (qTy_app a11 a10) ha⟩
theorem c_textX {X : qz_X} {d : Nat} {Q : qz_Q} {L n : Nat} {g0 : qz_G} (hb0 : RdB L n g0) (hbit : qz_bit (g0.1 7 12)) (e17 : g0.1 6 17 = nI L) (v1 v2 v3 : Int32)
    (hq1 : ∀ g' i C cl asks, LwG (qSn g0 n) n i C cl → RlF L g0 g' → C.length ≤ n → (∀ k, k < C.length → g'.1 59 (200 * L + k) = qWx k (qOa C k)) → CxL L g' (g'.1 7 12) C cl (i + 1) → i < 12 → (¬ g0.1 6 16 = 0 → ¬ asks = 0) → (¬ g'.1 7 12 = 0 → ¬ asks = 0) → Q (qz_ui (qz_ui (qz_ui (qz_ui (qz_ui (qz_ui g' 47 L v1) 48 L v2) 49 L v3) 50 L (nI (i + 1))) 6 16 asks) 6 17 (nI (L + 1))) (nI L) 0)
    (hq2 : ∀ g' kd at_, LwX (qSn g0 n) n kd at_ → RlF L g0 g' → Q g' (qFv kd at_) 0) :
    ∀ (f i p o : Nat) (C : List qOp) (cl : List qCl) (g : qz_G), p + f = n → LwP (qSn g0 n) i p C cl → i ≤ 12 → RlF L g0 g → RdA L n g g p o C → CxL L g (g.1 7 12) C cl i → qz_WP X (d + 26) 14 Q 28 [(0, .ref 6), (1, .int v1), (2, .int v2), (3, .int v3), (5, .int (nI i)), (6, .int 1)] [] g := by
  have hl := hb0.1
  have hn := hb0.2.1
  have bad : ∀ g' kd at_ (u : Int32), LwX (qSn g0 n) n kd at_ → RlF L g0 g' → g'.1 7 8 = qFv kd at_ → ¬ g'.1 7 8 = 0 → qz_WP X (d + 26) 14 Q 28 [(0, .ref 6), (1, .int v1), (2, .int v2), (3, .int v3), (5, .int u), (6, .int 0)] [] g' := by
    intro g' kd at_ u hX hF e8 n8
    refine v_X2_add_28 (d := d + 24) g' v1 v2 v3 u 0 ⟨fun _ => ⟨fun z => absurd z n8, fun _ => ?_⟩, fun z => absurd rfl z⟩
    rw [e8]
    exact hq2 g' kd at_ hX hF
  intro f
  induction f using Nat.strongRecOn with
  | _ f ihf =>
    intro i p o C cl g hf hL hi hF hA hC
    refine v_X2_add_28 (d := d + 24) g v1 v2 v3 (nI i) 1 ⟨fun z => absurd z (by decide), fun _ => ⟨fun z => ?_, fun _ => ?_⟩⟩
    · rw [qz_lt, qz_n12, nI_toInt (by omega)] at z
      omega
    refine c_clauseX (d := d) hb0 g hF hA hi (fun g9 q o' t k w1 w2 hG hF9 h5 hA9 hpq m9 m10 hw1 m11 hw2 m12 hty => ?_) (fun g9 kd at_ hX hF9 hD9 => ?_)
    · have hi12 := hG.2.2.1
      have hk10 := hG.2.1
      have x17 : g9.1 6 17 = nI L := by rw [hF9.2 6 17 (by omega) (by omega) (by omega)]; exact e17
      have eix : g9.1 6 17 * 12 + nI i = nI (12 * L + i) := by rw [x17, show (12 : Int32) = nI 12 from by decide, nI_mul, nI_add, Nat.mul_comm]
      refine v_X2_keepClause (d := d + 23) g9 (nI i) _ ⟨fun z => absurd (by rw [x17, qz_lt, qz_n20, nI_toInt (by omega)]; omega) z, fun _ => ⟨fun _ => ?_, fun z => absurd (by rw [qz_lt, qz_n12, nI_toInt (by omega)]; omega) z⟩⟩
      rw [eix, nI_clamp (by omega)]
      refine ⟨qz_vi (by rw [nI_toInt (by omega)]; omega) (by rw [nI_toInt (by omega)]; omega), ?_⟩
      have hF1 : RlF L g0 (qz_ui (qz_ui (qz_ui (qz_ui (qz_ui g9 52 (12 * L + i) (g9.1 7 9)) 53 (12 * L + i) (g9.1 7 10)) 54 (12 * L + i) (g9.1 7 11)) 55 (12 * L + i) (g.1 7 3)) 56 (12 * L + i) (g9.1 7 3)) := ((((hF9.ur (by omega) (by omega) _).ur (by omega) (by omega) _).ur (by omega) (by omega) _).ur (by omega) (by omega) _).ur (by omega) (by omega) _
      have fr : ∀ r j : Nat, ¬ (52 ≤ r ∧ r ≤ 56 ∧ j = 12 * L + i) → (qz_ui (qz_ui (qz_ui (qz_ui (qz_ui g9 52 (12 * L + i) (g9.1 7 9)) 53 (12 * L + i) (g9.1 7 10)) 54 (12 * L + i) (g9.1 7 11)) 55 (12 * L + i) (g.1 7 3)) 56 (12 * L + i) (g9.1 7 3)).1 r j = g9.1 r j := fun r j n1 => by rw [ui_n (by omega), ui_n (by omega), ui_n (by omega), ui_n (by omega), ui_n (by omega)]
      have hA1 : RdA L n (qz_ui (qz_ui (qz_ui (qz_ui (qz_ui g9 52 (12 * L + i) (g9.1 7 9)) 53 (12 * L + i) (g9.1 7 10)) 54 (12 * L + i) (g9.1 7 11)) 55 (12 * L + i) (g.1 7 3)) 56 (12 * L + i) (g9.1 7 3)) (qz_ui (qz_ui (qz_ui (qz_ui (qz_ui g9 52 (12 * L + i) (g9.1 7 9)) 53 (12 * L + i) (g9.1 7 10)) 54 (12 * L + i) (g9.1 7 11)) 55 (12 * L + i) (g.1 7 3)) 56 (12 * L + i) (g9.1 7 3)) q o' (C ++ t) := hA9.re (fun r j n1 n2 => fr r j (by omega))
      have z2 : (qz_ui (qz_ui (qz_ui (qz_ui (qz_ui g9 52 (12 * L + i) (g9.1 7 9)) 53 (12 * L + i) (g9.1 7 10)) 54 (12 * L + i) (g9.1 7 11)) 55 (12 * L + i) (g.1 7 3)) 56 (12 * L + i) (g9.1 7 3)).1 52 (12 * L + i) = nI k := by rw [ui_n (by omega), ui_n (by omega), ui_n (by omega), ui_n (by omega), ui_s]; exact m9
      have z3 : (qz_ui (qz_ui (qz_ui (qz_ui (qz_ui g9 52 (12 * L + i) (g9.1 7 9)) 53 (12 * L + i) (g9.1 7 10)) 54 (12 * L + i) (g9.1 7 11)) 55 (12 * L + i) (g.1 7 3)) 56 (12 * L + i) (g9.1 7 3)).1 53 (12 * L + i) = nI w1 := by rw [ui_n (by omega), ui_n (by omega), ui_n (by omega), ui_s]; exact m10
      have z4 : (qz_ui (qz_ui (qz_ui (qz_ui (qz_ui g9 52 (12 * L + i) (g9.1 7 9)) 53 (12 * L + i) (g9.1 7 10)) 54 (12 * L + i) (g9.1 7 11)) 55 (12 * L + i) (g.1 7 3)) 56 (12 * L + i) (g9.1 7 3)).1 54 (12 * L + i) = if k = 9 then nI w2 else -1 := by rw [ui_n (by omega), ui_n (by omega), ui_s]; exact m11
      have z5 : (qz_ui (qz_ui (qz_ui (qz_ui (qz_ui g9 52 (12 * L + i) (g9.1 7 9)) 53 (12 * L + i) (g9.1 7 10)) 54 (12 * L + i) (g9.1 7 11)) 55 (12 * L + i) (g.1 7 3)) 56 (12 * L + i) (g9.1 7 3)).1 55 (12 * L + i) = nI (200 * L + C.length) := by rw [ui_n (by omega), ui_s]; exact hA.2.2.2.2.1
      have z6 : (qz_ui (qz_ui (qz_ui (qz_ui (qz_ui g9 52 (12 * L + i) (g9.1 7 9)) 53 (12 * L + i) (g9.1 7 10)) 54 (12 * L + i) (g9.1 7 11)) 55 (12 * L + i) (g.1 7 3)) 56 (12 * L + i) (g9.1 7 3)).1 56 (12 * L + i) = nI (200 * L + (C ++ t).length) := by rw [ui_s]; exact hA9.2.2.2.2.1
      have z12 := fr 7 12 (by omega)
      have hold : ∀ r j, 52 ≤ r → r ≤ 56 → ¬ j = 12 * L + i → (qz_ui (qz_ui (qz_ui (qz_ui (qz_ui g9 52 (12 * L + i) (g9.1 7 9)) 53 (12 * L + i) (g9.1 7 10)) 54 (12 * L + i) (g9.1 7 11)) 55 (12 * L + i) (g.1 7 3)) 56 (12 * L + i) (g9.1 7 3)).1 r j = g.1 r j := fun r j y1 y2 y3 => by rw [fr r j (by omega)]; exact h5 r j y1 y2
      generalize qz_ui (qz_ui (qz_ui (qz_ui (qz_ui g9 52 (12 * L + i) (g9.1 7 9)) 53 (12 * L + i) (g9.1 7 10)) 54 (12 * L + i) (g9.1 7 11)) 55 (12 * L + i) (g.1 7 3)) 56 (12 * L + i) (g9.1 7 3) = g1 at hF1 hA1 z2 z3 z4 z5 z6 z12 hold ⊢
      have hC1 : CxL L g1 (g1.1 7 12) (C ++ t) (cl ++ [(k, w1, w2, C.length, (C ++ t).length)]) (i + 1) := CxL_step hC (fun w => by rw [z12]; exact m12 w) z2 z3 z4 z5 z6 hk10 hw1 hw2 (by rw [z12]; exact hty) hold
      have hb1 := hF1.B hb0
      have hs1 := hF1.sn n
      have hqn := hA1.2.2.2.2.2.2.1
      refine v_X6_goesOn (d := d + 24) g1 ⟨fun z => ?_, fun z => ?_⟩
      · rw [hA1.2.2.1, hb1.2.2.1, qz_lt, nI_toInt (by omega), nI_toInt (by omega)] at z
        refine c_passA (d := d + 21) hb1 g1 hA1 59 (by decide) (by decide) (fun g2 s59 h2 e2 => ?_) (fun g2 s59 h2 => ?_)
        · rw [hs1] at s59
          refine ⟨fun w => absurd h2.2.1 w, fun _ => ?_⟩
          have hL' : LwP (qSn g0 n) (i + 1) (q + 1) (C ++ t) (cl ++ [(k, w1, w2, C.length, (C ++ t).length)]) := ⟨p, C, cl, q, k, w1, w2, hL, hG, s59, rfl, rfl⟩
          have hF2 : RlF L g0 g2 := hF1.tr (RlF.ofD h2.1)
          rw [nI_1]
          exact ihf (n - (q + 1)) (by omega) (i + 1) (q + 1) o' (C ++ t) _ g2 (by omega) hL' (by omega) hF2 (h2.re (fun _ _ _ _ => rfl)) (CxL_same hC1 (fun r j y1 y2 => h2.1.2 r j (by omega) (by omega)) (fun w => by rw [e2]; exact w))
        · rw [hs1] at s59
          refine ⟨fun _ => ?_, fun w => absurd w h2.2.2.1⟩
          exact bad g2 1 q _ ⟨i, p, C, cl, hL, Or.inr ⟨q, C ++ t, k, w1, w2, hG, by omega, s59, rfl, rfl⟩⟩ (hF1.tr (RlF.ofD h2.1)) h2.2.1 h2.2.2.1
      · rw [hA1.2.2.1, hb1.2.2.1, qz_lt, nI_toInt (by omega), nI_toInt (by omega)] at z
        have hGd : LwG (qSn g0 n) n i (C ++ t) (cl ++ [(k, w1, w2, C.length, (C ++ t).length)]) := ⟨p, C, cl, q, k, w1, w2, hL, hG, by omega, rfl⟩
        have y17 : g1.1 6 17 = nI L := by rw [hF1.2 6 17 (by omega) (by omega) (by omega)]; exact e17
        have y16 : g1.1 6 16 = g0.1 6 16 := hF1.2 6 16 (by omega) (by omega) (by omega)
        have hcl : (C ++ t).length ≤ n := by have := hA1.2.2.2.2.2.2.2.1; omega
        have h59 := hA1.2.2.2.2.2.1
        have fin : ∀ asks : Int32, (¬ g0.1 6 16 = 0 → ¬ asks = 0) → (¬ g1.1 7 12 = 0 → ¬ asks = 0) → _ := fun asks a1 a2 => hq1 g1 i (C ++ t) _ asks hGd hF1 hcl h59 hC1 hi12 a1 a2
        rw [nI_1]
        refine v_X2_add_28 (d := d + 24) g1 v1 v2 v3 _ 0 ⟨fun _ => ⟨fun _ => ?_, fun w => absurd hA1.2.1 w⟩, fun w => absurd rfl w⟩
        rw [y17, nI_clamp (by omega), nI_1, nI_pred]
        refine ⟨qz_vi (by rw [nI_toInt (by omega)]; omega) (by rw [nI_toInt (by omega)]; omega), fun w => ?_, fun w => ⟨hF1.1.2 hbit, fun w2 => ?_, fun w2 => ?_⟩⟩
        · exact fin 1 (fun _ => by decide) (fun _ => by decide)
        · exact fin 0 (fun y => absurd (by rw [← y16]; exact w) y) (fun y => absurd w2 y)
        · exact fin 1 (fun _ => by decide) (fun _ => by decide)
    · have hLX : LwX (qSn g0 n) n kd at_ := ⟨i, p, C, cl, hL, Or.inl hX⟩
      have go : ∀ g1, RlF L g0 g1 → RdD L g1 g1 kd at_ → qz_Call X (d + 25) 74 [.ref 7] g1 (fun g13 r14 _ => qz_WP X (d + 26) 14 Q 28 [(0, .ref 6), (1, .int v1), (2, .int v2), (3, .int v3), (5, .int (nI i + 1)), (6, .int r14)] [] g13) := by
        intro g1 hF1 hD1
        refine v_X6_goesOn (d := d + 24) g1 ⟨fun z => ?_, fun z => bad g1 kd at_ _ hLX hF1 hD1.2.1 hD1.2.2.1⟩
        refine D_pass (d := d + 21) (hF1.B hb0) g1 hD1 59 (by decide) (by decide) ⟨fun _ => ?_, fun w => absurd w hD1.2.2.1⟩
        exact bad g1 kd at_ _ hLX hF1 hD1.2.1 hD1.2.2.1
      have x17 : g9.1 6 17 = nI L := by rw [hF9.2 6 17 (by omega) (by omega) (by omega)]; exact e17
      have eix : g9.1 6 17 * 12 + nI i = nI (12 * L + i) := by rw [x17, show (12 : Int32) = nI 12 from by decide, nI_mul, nI_add, Nat.mul_comm]
      refine v_X2_keepClause (d := d + 23) g9 (nI i) _ ⟨fun z => absurd (by rw [x17, qz_lt, qz_n20, nI_toInt (by omega)]; omega) z, fun _ => ⟨fun z => ?_, fun _ => go g9 hF9 hD9⟩⟩
      rw [qz_lt, qz_n12, nI_toInt (by omega)] at z
      rw [eix, nI_clamp (by omega)]
      refine ⟨qz_vi (by rw [nI_toInt (by omega)]; omega) (by rw [nI_toInt (by omega)]; omega), ?_⟩
      refine go _ (((((hF9.ur (by omega) (by omega) _).ur (by omega) (by omega) _).ur (by omega) (by omega) _).ur (by omega) (by omega) _).ur (by omega) (by omega) _) (hD9.re (fun r j n1 n2 => ?_))
      rw [ui_n (by omega), ui_n (by omega), ui_n (by omega), ui_n (by omega), ui_n (by omega)]
