/-! behind a fault all that still reads ends by itself -/
theorem D_88 {X : qz_X} {d : Nat} {Q : qz_Q} {L n : Nat} {g0 : qz_G} (hb : RdB L n g0) (g : qz_G) {kd at_ : Nat} (h : RdD L g0 g kd at_) (hq : ∀ g', RdD L g0 g' kd at_ → Q g' 0 0) : qz_Call X (d + 4) 88 [.ref 7] g Q := by
  have e := RdD_sx h
  refine v_X6_factor g ?_
  rw [e]
  exact ⟨RdF_11 hb h.1, fun z => absurd z (by unfold qI; decide), fun _ => ⟨fun _ => ⟨fun z => absurd z (by decide), fun _ => ⟨fun _ => hq g h, fun z => absurd z h.2.2.1⟩⟩, fun z => absurd (by decide) z⟩⟩
theorem H_87 {X : qz_X} {d : Nat} {Q : qz_Q} {L n : Nat} {g0 : qz_G} (hb : RdB L n g0) (g : qz_G) (v : Int32) {kd at_ : Nat} (h : RdD L g0 g kd at_) (hq : ∀ g', RdD L g0 g' kd at_ → Q g' 0 0) : qz_WP X (d + 3) 87 Q 6 [(0, .ref 7), (1, .int v)] [] g := by
  have e := RdD_sx h
  refine v_X6_product_6 g v ?_
  rw [e]
  exact ⟨fun _ => hq g h, fun _ => ⟨RdF_11 hb h.1, fun z => absurd z (by decide), fun _ => ⟨fun z => absurd z (by decide), fun _ => ⟨fun _ => hq g h, fun z => absurd z (by decide)⟩⟩⟩⟩
theorem D_87 {X : qz_X} {d : Nat} {Q : qz_Q} {L n : Nat} {g0 : qz_G} (hb : RdB L n g0) (g : qz_G) {kd at_ : Nat} (h : RdD L g0 g kd at_) (hq : ∀ g', RdD L g0 g' kd at_ → Q g' 0 0) : qz_Call X (d + 5) 87 [.ref 7] g Q :=
  v_X6_product (d := d + 2) g (D_88 (d := d) hb g h (fun g1 h1 => H_87 (d := d + 2) hb g1 0 h1 hq))
theorem H_86 {X : qz_X} {d : Nat} {Q : qz_Q} {L n : Nat} {g0 : qz_G} (hb : RdB L n g0) (g : qz_G) (v : Int32) {kd at_ : Nat} (h : RdD L g0 g kd at_) (hq : ∀ g', RdD L g0 g' kd at_ → Q g' 0 0) : qz_WP X (d + 3) 86 Q 6 [(0, .ref 7), (1, .int v)] [] g := by
  have e := RdD_sx h
  refine v_X6_sum_6 g v ?_
  rw [e]
  exact ⟨fun _ => hq g h, fun _ => ⟨RdF_11 hb h.1, fun z => absurd z (by decide), fun _ => ⟨fun _ => hq g h, fun z => absurd z (by decide)⟩⟩⟩
theorem D_86 {X : qz_X} {d : Nat} {Q : qz_Q} {L n : Nat} {g0 : qz_G} (hb : RdB L n g0) (g : qz_G) {kd at_ : Nat} (h : RdD L g0 g kd at_) (hq : ∀ g', RdD L g0 g' kd at_ → Q g' 0 0) : qz_Call X (d + 6) 86 [.ref 7] g Q :=
  v_X6_sum (d := d + 3) g (D_87 (d := d) hb g h (fun g1 h1 => H_86 (d := d + 3) hb g1 0 h1 hq))
theorem D_85 {X : qz_X} {d : Nat} {Q : qz_Q} {L n : Nat} {g0 : qz_G} (hb : RdB L n g0) (g : qz_G) {kd at_ : Nat} (h : RdD L g0 g kd at_) (hq : ∀ g', RdD L g0 g' kd at_ → Q g' 0 0) : qz_Call X (d + 7) 85 [.ref 7] g Q := by
  have e := RdD_sx h
  refine v_X6_piece (d := d + 3) g ?_
  rw [e]
  refine ⟨RdF_11 hb h.1, fun z => absurd z (by decide), fun _ => ⟨fun z => absurd z (by decide), fun _ => D_86 (d := d) hb g h (fun g1 h1 => ?_)⟩⟩
  have e1 := RdD_sx h1
  rw [e1]
  exact ⟨RdF_11 hb h1.1, fun z => absurd z (by decide), fun _ => ⟨fun z => absurd z (by decide), fun _ => ⟨fun z => absurd z (by decide), fun _ => ⟨fun _ => hq g1 h1, fun z => absurd z h1.2.2.1⟩⟩⟩⟩
theorem H_84 {X : qz_X} {d : Nat} {Q : qz_Q} {L n : Nat} {g0 : qz_G} (hb : RdB L n g0) (g : qz_G) (v : Int32) {kd at_ : Nat} (h : RdD L g0 g kd at_) (hq : ∀ g', RdD L g0 g' kd at_ → Q g' 0 0) : qz_WP X (d + 3) 84 Q 6 [(0, .ref 7), (1, .int v)] [] g := by
  have e := RdD_sx h
  refine v_X6_everyPiece_6 g v ?_
  rw [e]
  exact ⟨fun _ => hq g h, fun _ => ⟨RdF_11 hb h.1, fun _ => hq g h, fun z => absurd z (by decide)⟩⟩
theorem D_84 {X : qz_X} {d : Nat} {Q : qz_Q} {L n : Nat} {g0 : qz_G} (hb : RdB L n g0) (g : qz_G) {kd at_ : Nat} (h : RdD L g0 g kd at_) (hq : ∀ g', RdD L g0 g' kd at_ → Q g' 0 0) : qz_Call X (d + 8) 84 [.ref 7] g Q :=
  v_X6_everyPiece (d := d + 5) g (D_85 (d := d) hb g h (fun g1 h1 => H_84 (d := d + 5) hb g1 0 h1 hq))
theorem H_83 {X : qz_X} {d : Nat} {Q : qz_Q} {L n : Nat} {g0 : qz_G} (hb : RdB L n g0) (g : qz_G) (v : Int32) {kd at_ : Nat} (h : RdD L g0 g kd at_) (hq : ∀ g', RdD L g0 g' kd at_ → Q g' 0 0) : qz_WP X (d + 3) 83 Q 6 [(0, .ref 7), (1, .int v)] [] g := by
  have e := RdD_sx h
  refine v_X6_anyPart_6 g v ?_
  rw [e]
  exact ⟨fun _ => hq g h, fun _ => ⟨RdF_11 hb h.1, fun _ => hq g h, fun z => absurd z (by decide)⟩⟩
theorem D_83 {X : qz_X} {d : Nat} {Q : qz_Q} {L n : Nat} {g0 : qz_G} (hb : RdB L n g0) (g : qz_G) {kd at_ : Nat} (h : RdD L g0 g kd at_) (hq : ∀ g', RdD L g0 g' kd at_ → Q g' 0 0) : qz_Call X (d + 9) 83 [.ref 7] g Q :=
  v_X6_anyPart (d := d + 6) g (D_84 (d := d) hb g h (fun g1 h1 => H_83 (d := d + 6) hb g1 0 h1 hq))
/-! digits -/
theorem c_rdA {X : qz_X} {d : Nat} {Q : qz_Q} {L n : Nat} {g0 : qz_G} (hb : RdB L n g0) (g : qz_G) {p o : Nat} {C : List qOp} (h : RdA L n g0 g p o C) (hq1 : ∀ g', ¬ qDc (qSn g0 n) p 7 = 7 → qDc (qSn g0 n) p 7 ≤ 6 → qDv (qSn g0 n) p (qDc (qSn g0 n) p 7) < 1000000 → RdA L n g0 g' (p + qDc (qSn g0 n) p 7) o C → g'.1 7 12 = g.1 7 12 → Q g' (nI (qDv (qSn g0 n) p (qDc (qSn g0 n) p 7))) 0) (hq2 : ∀ g' v, qDc (qSn g0 n) p 7 = 7 → RdD L g0 g' 2 (p + 6) → v = nI (qDv (qSn g0 n) p 6) → qDv (qSn g0 n) p 6 < 1000000 → Q g' v 0) : qz_Call X (d + 3) 81 [.ref 7] g Q := by
  have hn := hb.2.1
  have main : ∀ (j m : Nat) (g1 : qz_G), m + j = 6 → RdA L n g0 g1 (p + m) o C → g1.1 7 12 = g.1 7 12 → qDc (qSn g0 n) p 7 = m + qDc (qSn g0 n) (p + m) (7 - m) → qDv (qSn g0 n) p m < 10 ^ m → qz_WP X (d + 3) 81 Q 4 [(0, .ref 7), (1, .int (nI (qDv (qSn g0 n) p m))), (2, .int (nI m))] [] g1 := by
    intro j
    induction j with
    | zero =>
      intro m g1 e h1 h12 hc hv
      have em : m = 6 := by omega
      subst em
      have hv : qDv (qSn g0 n) p 6 < 1000000 := hv
      have hc2 : qDc (qSn g0 n) (p + 6) (7 - 6) = if 48 ≤ qSn g0 n (p + 6) ∧ qSn g0 n (p + 6) ≤ 57 then 1 + 0 else 0 := rfl
      rw [hc2] at hc
      refine v_X6_readDigits_4 g1 _ _ ⟨fun _ => ⟨RdF_11 hb h1.1, fun z => ⟨fun q => absurd h1.2.1 q, fun _ => ?_⟩, fun z => ?_⟩, fun z => absurd (by decide) z⟩
      · rw [RdA_dig hb h1] at z
        rw [if_pos z] at hc
        have hp6 := h1.2.2.2.2.2.2.1
        exact hq2 _ _ hc (h1.bl hb (by rw [h1.2.2.1, qFv_2]) (by omega) (by omega) (by omega)) rfl hv
      · rw [RdA_dig hb h1] at z
        rw [if_neg z] at hc
        have hc : qDc (qSn g0 n) p 7 = 6 := hc
        have x := hq1 g1
        rw [hc] at x
        exact x (by omega) (by omega) hv h1 h12
    | succ j ih =>
      intro m g1 e h1 h12 hc hv
      have hm : m < 6 := by omega
      have hpw : (10 : Nat) ^ m ≤ 10 ^ 5 := Nat.pow_le_pow_right (by omega) (by omega)
      have hpw : 10 ^ m ≤ 100000 := hpw
      have hc2 : qDc (qSn g0 n) (p + m) (7 - m) = if 48 ≤ qSn g0 n (p + m) ∧ qSn g0 n (p + m) ≤ 57 then 1 + qDc (qSn g0 n) (p + m + 1) (6 - m) else 0 := by
        rw [show 7 - m = (6 - m) + 1 from by omega]
        rfl
      rw [hc2] at hc
      refine v_X6_readDigits_4 g1 _ _ ⟨fun z => absurd z ?_, fun _ => ⟨RdF_11 hb h1.1, fun z => ?_, fun z => ?_⟩⟩
      · rw [qz_le, qz_n6, nI_toInt (by omega)]; omega
      · rw [RdA_dig hb h1] at z
        rw [if_pos z] at hc
        have hin : p + m < n := qSn_in (g0 := g0) (by omega)
        have ev : nI (qDv (qSn g0 n) p m) * 10 + qSx g1 - 48 = nI (qDv (qSn g0 n) p (m + 1)) := by
          rw [RdA_sx hb h1, if_pos hin, show (10 : Int32) = nI 10 from by decide, nI_mul, nI_add, qz_eq]
          rw [qz_sb (by rw [nI_toInt (by omega), qz_n48]; omega) (by rw [nI_toInt (by omega), qz_n48]; omega), nI_toInt (by omega), qz_n48]
          show _ = (nI (10 * qDv (qSn g0 n) p m + (qSn g0 n (p + m) - 48))).toInt
          rw [nI_toInt (by omega)]
          omega
        rw [ev, nI_1]
        refine ih (m + 1) _ (by omega) (h1.u5 (by rw [h1.2.2.1, nI_1]; rfl) (by omega) (by omega)) ?_ ?_ ?_
        · rw [ui_n (by omega)]; exact h12
        · rw [hc, show 7 - (m + 1) = 6 - m from by omega, ← Nat.add_assoc p m 1]; omega
        · show 10 * qDv (qSn g0 n) p m + (qSn g0 n (p + m) - 48) < _
          rw [Nat.pow_succ]; omega
      · rw [RdA_dig hb h1] at z
        rw [if_neg z] at hc
        have hc : qDc (qSn g0 n) p 7 = m := hc
        have x := hq1 g1
        rw [hc] at x
        exact x (by omega) (by omega) (by omega) h1 h12
  refine v_X6_readDigits g ?_
  exact main 6 0 g (by omega) h rfl (by show _ = 0 + qDc _ p 7; omega) (by show 0 < 1; omega)
