/-! factors, products, sums -/
theorem qTg_as {asks asks' : Int32} {C : List qOp} {a b hgt : Nat} {out : Bool} (h : qTg asks C a b hgt out) (hx : ¬ asks = 0 → ¬ asks' = 0) : qTg asks' C a b hgt out := by
  refine ⟨h.1, h.2.1, fun τ hτ => ?_⟩
  obtain ⟨T, h1, h2, h3⟩ := h.2.2 τ hτ
  refine ⟨T, h1, h2, fun k k1 k2 => ?_⟩
  obtain ⟨a0, a1, a2, a3, a4, a5⟩ := h3 k k1 k2
  exact ⟨a0, a1, fun z => ⟨(a2 z).1, fun w => hx ((a2 z).2.1 w), (a2 z).2.2⟩, a3, a4, a5⟩
def RdR (L n : Nat) (g0 : qz_G) (hgt : Nat) (out : Bool) (W : Nat → List qOp → Prop) (V : Nat → Nat → Prop) (p o : Nat) (C : List qOp) (a : Int32) (g' : qz_G) : Prop :=
  (∃ (p' : Nat) (t : List qOp), RdA L n g0 g' p' o (C ++ t) ∧ (¬ a = 0 → ¬ g'.1 7 12 = 0) ∧ t.length + p ≤ p' ∧ qTg (g'.1 7 12) (C ++ t) C.length (C ++ t).length hgt out ∧ W p' (C ++ t)) ∨ (∃ kd at_, RdD L g0 g' kd at_ ∧ V kd at_)
def WF (sg : Nat → Nat) (S : List qOp → Prop) (p o : Nat) (C : List qOp) (p' : Nat) (C' : List qOp) : Prop := ∀ (ph hw : Nat) (K1 K2 : List qOp), (ph = 1 ∨ ph = 3) → S K2 → Rch sg (ph, hw, p, o, C, K1, K2) (ph + 1, hw, p', o, C', K1, K2)
def VF (sg : Nat → Nat) (S : List qOp → Prop) (p o : Nat) (C : List qOp) (kd at_ : Nat) : Prop := ∀ (ph hw : Nat) (K1 K2 : List qOp), (ph = 1 ∨ ph = 3) → S K2 → Rch sg (ph, hw, p, o, C, K1, K2) (qFt kd at_)
def S0 (_ : List qOp) : Prop := True
def S1 (K : List qOp) : Prop := ¬ (4 ≤ qTop K ∧ qTop K ≤ 6)
def S2 (K : List qOp) : Prop := ¬ (2 ≤ qTop K ∧ qTop K ≤ 6)
def CFac (X : qz_X) (L n : Nat) (g0 : qz_G) (k : Nat) : Prop := ∀ (d : Nat) (Q : qz_Q) (g : qz_G) (p o : Nat) (C : List qOp), RdA L n g0 g p o C → o + k = 6 → (∀ g', RdR L n g0 (1 + 2 * k) false (WF (qSn g0 n) S0 p o C) (VF (qSn g0 n) S0 p o C) p o C (g.1 7 12) g' → Q g' 0 0) → qz_Call X (d + 3 * k + 4) 88 [.ref 7] g Q
def CPro (X : qz_X) (L n : Nat) (g0 : qz_G) (k : Nat) : Prop := ∀ (d : Nat) (Q : qz_Q) (g : qz_G) (p o : Nat) (C : List qOp), RdA L n g0 g p o C → o + k = 6 → (∀ g', RdR L n g0 (2 + 2 * k) false (fun p' C' => WF (qSn g0 n) S1 p o C p' C' ∧ ¬ 4 ≤ qSs (qSn g0 n p')) (VF (qSn g0 n) S1 p o C) p o C (g.1 7 12) g' → Q g' 0 0) → qz_Call X (d + 3 * k + 5) 87 [.ref 7] g Q
def CSum (X : qz_X) (L n : Nat) (g0 : qz_G) (k : Nat) : Prop := ∀ (d : Nat) (Q : qz_Q) (g : qz_G) (p o : Nat) (C : List qOp), RdA L n g0 g p o C → o + k = 6 → (∀ g', RdR L n g0 (3 + 2 * k) false (fun p' C' => WF (qSn g0 n) S2 p o C p' C' ∧ ¬ 2 ≤ qSs (qSn g0 n p')) (VF (qSn g0 n) S2 p o C) p o C (g.1 7 12) g' → Q g' 0 0) → qz_Call X (d + 3 * k + 6) 86 [.ref 7] g Q
theorem fac_of {X : qz_X} {L n : Nat} {g0 : qz_G} (hb : RdB L n g0) (k : Nat) (ih : k = 0 ∨ ∃ j, k = j + 1 ∧ CSum X L n g0 j) : CFac X L n g0 k := by
  intro d Q g p o C h ho hq
  have hn := hb.2.1
  have hpn := h.2.2.2.2.2.2.1
  have hCp := h.2.2.2.2.2.2.2.1
  have hfy := RdA_fy hb h
  have h91 := RdA_is hb h (c := 91) (s := 91) (by decide) (by decide)
  have hdg := RdA_dig hb h
  refine v_X6_factor (d := d + 3 * k) g ⟨RdF_11 hb h.1, fun z => ?_, fun nd => ⟨fun f1 => ⟨fun z => ?_, fun z => ⟨fun q => absurd h.2.1 q, fun _ => ?_⟩⟩, fun f1 => ?_⟩⟩
  · -- a number
    have hd := hdg.mp z
    have hc1 : 1 ≤ qDc (qSn g0 n) p 7 := by
      show 1 ≤ if 48 ≤ qSn g0 n p ∧ qSn g0 n p ≤ 57 then 1 + qDc (qSn g0 n) (p + 1) 6 else 0
      rw [if_pos hd]; omega
    refine c_rdA (d := d + 3 * k) hb g h (fun g1 c7 c6 hv h1 e1 => ?_) (fun g1 v c7 h1 ev hv => ?_)
    · refine c_emitA (d := d + 3 * k + 2) hb g1 h1 (by omega) 0 (qDv (qSn g0 n) p (qDc (qSn g0 n) p 7)) ?_ (fun g2 h2 e2 => ?_)
      · rw [show (110 : Int32) = nI 110 from by decide, qz_enc _ _ (by decide) (by omega)]
        rfl
      · refine hq _ (Or.inl ⟨_, _, h2, fun w => by rw [e2, e1]; exact w, by show 1 + p ≤ _; omega, ?_, ?_⟩)
        · rw [List.length_append]
          exact qTg_up (qTg_num (by rw [List.length_append]; show _ < _ + 1; omega) qOa_e hv) (by omega)
        · intro ph hw K1 K2 hph _
          exact (Rch.rf _ _).st (s1_num _ hph hd c7)
    · exact c_emitD (d := d + 3 * k + 2) hb.1 g1 h1 (fun g2 h2 => hq _ (Or.inr ⟨2, p + 6, h2, fun ph hw K1 K2 hph _ => (Rch.rf _ _).st (s1_numF _ hph hd c7)⟩))
  · -- a bracket
    have s91 := h91.mp z
    have hin : p < n := qSn_in (g0 := g0) (by omega)
    have h77 := h.2.2.2.1
    refine ⟨fun c => ?_, fun c => ⟨fun q => absurd h.2.1 q, fun _ => ?_⟩⟩
    · rw [h77, qz_lt, qz_n6, nI_toInt (by omega)] at c
      rcases ih with rfl | ⟨j, rfl, ih⟩
      · omega
      · have h1 : RdA L n g0 (qz_ui (qz_ui g 7 7 (g.1 7 7 + 1)) 7 5 (g.1 7 5 + 1)) (p + 1) (o + 1) C := (h.u7o (by rw [h77, nI_1]) (by omega)).u5 (by rw [h.2.2.1, nI_1]) (by omega) (by omega)
        have e12 : (qz_ui (qz_ui g 7 7 (g.1 7 7 + 1)) 7 5 (g.1 7 5 + 1)).1 7 12 = g.1 7 12 := by rw [ui_n (by omega), ui_n (by omega)]
        rw [show d + 3 * (j + 1) + 3 = d + 3 * j + 6 from by omega]
        refine ih d _ _ (p + 1) (o + 1) C h1 (by omega) (fun g2 r2 => ?_)
        rw [e12] at r2
        rcases r2 with ⟨p2, t, a1, a2, a3, a4, a5, a6⟩ | ⟨kd, at_, a1, a2⟩
        · have h93 := RdA_is hb a1 (c := 93) (s := 93) (by decide) (by decide)
          have hp2 := a1.2.2.2.2.2.2.1
          refine ⟨RdF_11 hb a1.1, fun z2 => ?_, fun z2 => ⟨fun q => absurd a1.2.1 q, fun _ => ?_⟩⟩
          · have s93 := h93.mp z2
            have hin2 : p2 < n := qSn_in (g0 := g0) (by omega)
            refine hq _ (Or.inl ⟨p2 + 1, t, (a1.u7o (o' := o) (by rw [a1.2.2.2.1]; exact nI_pred o) (by omega)).u5 (by rw [a1.2.2.1, nI_1]) (by omega) (by omega), ?_, by omega, ?_, ?_⟩)
            · rw [ui_n (by omega), ui_n (by omega)]; exact a2
            · rw [ui_n (by omega), ui_n (by omega)]
              exact qTg_up a4 (by omega)
            · intro ph hw K1 K2 hph _
              refine (((Rch.rf _ _).st (s1_open _ hph s91 (by omega))).tr (a5 ph hw K1 ((14, 0) :: K2) hph (by show ¬ (2 ≤ 14 ∧ 14 ≤ 6); omega))).st ?_
              exact s2_cls _ (by omega) a6 s93
          · refine hq _ (Or.inr ⟨1, p2, ((a1.bl hb (by rw [a1.2.2.1, qFv_1]) (by omega) (by omega) (by omega)).u7 (by omega) _).u7 (by omega) _, fun ph hw K1 K2 hph _ => ?_⟩)
            refine (((Rch.rf _ _).st (s1_open _ hph s91 (by omega))).tr (a5 ph hw K1 ((14, 0) :: K2) hph (by show ¬ (2 ≤ 14 ∧ 14 ≤ 6); omega))).st ?_
            exact s2_clsF _ (by omega) a6 (fun w => z2 (h93.mpr w))
        · have e2 := RdD_sx a1
          have fin : RdR L n g0 (1 + 2 * (j + 1)) false (WF (qSn g0 n) S0 p o C) (VF (qSn g0 n) S0 p o C) p o C (g.1 7 12) (qz_ui (qz_ui g2 7 7 (g2.1 7 7 - 1)) 7 5 (g2.1 7 5 + 1)) :=
            Or.inr ⟨kd, at_, (a1.u7 (by omega) _).u7 (by omega) _, fun ph hw K1 K2 hph _ => ((Rch.rf _ _).st (s1_open _ hph s91 (by omega))).tr (a2 ph hw K1 ((14, 0) :: K2) hph (by show ¬ (2 ≤ 14 ∧ 14 ≤ 6); omega))⟩
          refine ⟨RdF_11 hb a1.1, fun z2 => ?_, fun z2 => ⟨fun _ => hq _ fin, fun q => absurd q a1.2.2.1⟩⟩
          exact hq _ fin
    · rw [h77, qz_lt, qz_n6, nI_toInt (by omega)] at c
      exact hq _ (Or.inr ⟨5, p, h.bl hb (by rw [h.2.2.1, qFv_5]) (by omega) (by omega) (by omega), fun ph hw K1 K2 hph _ => (Rch.rf _ _).st (s1_openF _ hph s91 (by omega))⟩)
  · -- nothing that may stand there
    have hf8 : ¬ qFc (qSn g0 n p) < 8 := by
      intro w
      rw [hfy, if_pos w, qz_eq, nI_toInt (by omega), qz_m1] at f1
      omega
    exact hq _ (Or.inr ⟨1, p, h.bl hb (by rw [h.2.2.1, qFv_1]) (by omega) (by omega) (by omega), fun ph hw K1 K2 hph _ => (Rch.rf _ _).st (s1_F _ hph (fun w => z (h91.mpr w)) (fun w => nd (hdg.mpr w)) hf8)⟩)
  · -- a letter
    have hf8 : qFc (qSn g0 n p) < 8 := by
      by_cases c : qFc (qSn g0 n p) < 8
      · exact c
      · rw [hfy, if_neg c] at f1; exact absurd rfl f1
    have hin : p < n := by
      by_cases c : p < n
      · exact c
      · unfold qSn at hf8
        rw [if_neg c] at hf8
        exact absurd hf8 (by decide)
    rw [if_pos hf8] at hfy
    have n91 : ¬ qSn g0 n p = 91 := fun w => by rw [w] at hf8; exact absurd hf8 (by decide)
    have h1 : RdA L n g0 (qz_ui g 7 5 (g.1 7 5 + 1)) (p + 1) o C := h.u5 (by rw [h.2.2.1, nI_1]) (by omega) (by omega)
    refine c_emitA (d := d + 3 * k + 2) hb _ h1 (by omega) 1 (qFc (qSn g0 n p)) ?_ (fun g2 h2 e2 => ?_)
    · rw [hfy, show (118 : Int32) = nI 118 from by decide, qz_enc _ _ (by decide) (by omega)]
      rfl
    · rw [ui_n (by omega)] at e2
      have fin : ∀ v : Int32, qz_bit v → (¬ g.1 7 12 = 0 → ¬ v = 0) → (qFc (qSn g0 n p) = 5 → ¬ v = 0) → RdR L n g0 (1 + 2 * k) false (WF (qSn g0 n) S0 p o C) (VF (qSn g0 n) S0 p o C) p o C (g.1 7 12) (qz_ui g2 7 12 v) := by
        intro v v0 v1 v2
        refine Or.inl ⟨_, _, h2.u12 v v0, ?_, by show 1 + p ≤ _; omega, ?_, ?_⟩
        · rw [ui_s]; exact v1
        · rw [ui_s, List.length_append]
          exact qTg_up (qTg_let (by rw [List.length_append]; show _ < _ + 1; omega) qOa_e hf8 v2) (by omega)
        · intro ph hw K1 K2 hph _
          exact (Rch.rf _ _).st (s1_let _ hph n91 (fun w => nd (hdg.mpr w)) hf8)
      refine ⟨fun _ => hq _ (fin 1 (Or.inr rfl) (fun _ => by decide) (fun _ => by decide)), fun c => ⟨fun c2 => hq _ (fin 0 (Or.inl rfl) (fun w => absurd (by rw [← e2]; exact c) w) (fun w => absurd (by rw [hfy, w]; rfl) c2)), fun _ => hq _ (fin 1 (Or.inr rfl) (fun _ => by decide) (fun _ => by decide))⟩⟩
