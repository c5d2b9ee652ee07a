/-! the class: numbers with limits, signs that must stand -/
theorem c_limA {X : qz_X} {d : Nat} {Q : qz_Q} {L n : Nat} {g0 : qz_G} (hb : RdB L n g0) (g : qz_G) {p o : Nat} {C : List qOp} (h : RdA L n g0 g p o C) (m : Nat) {mo : Int32} (em : mo = nI m) (hm : m < 2147483648) (hq1 : ∀ g', (qLim (qSn g0 n) p m).1 = 0 → RdA L n g0 g' (qLim (qSn g0 n) p m).2.1 o C → p + 1 ≤ (qLim (qSn g0 n) p m).2.1 → (qLim (qSn g0 n) p m).2.2 ≤ m → g'.1 7 12 = g.1 7 12 → Q g' (nI (qLim (qSn g0 n) p m).2.2) 0) (hq2 : ∀ g' v, ¬ (qLim (qSn g0 n) p m).1 = 0 → RdD L g0 g' (qLim (qSn g0 n) p m).1 (qLim (qSn g0 n) p m).2.1 → Q g' v 0) : qz_Call X (d + 4) 80 [.ref 7, .int mo] g Q := by
  have hn := hb.2.1
  have hpn := h.2.2.2.2.2.2.1
  have hdg := RdA_dig hb h
  refine v_X6_readLimited (d := d + 1) g mo ⟨RdF_11 hb h.1, fun z => ?_, fun z => ⟨fun q => absurd h.2.1 q, fun _ => ?_⟩⟩
  · have hd := hdg.mp z
    have hc1 : 1 ≤ qDc (qSn g0 n) p 7 := by
      show 1 ≤ if 48 ≤ qSn g0 n p ∧ qSn g0 n p ≤ 57 then 1 + qDc (qSn g0 n) (p + 1) 6 else 0
      rw [if_pos hd]; omega
    refine c_rdA (d := d) hb g h (fun g1 c7 c6 hv h1 e1 => ⟨fun w => ?_, fun w => ⟨fun q => absurd h1.2.1 q, fun _ => ?_⟩⟩) (fun g1 v c7 h1 ev hv => ?_)
    · rw [em, nI_leI (by omega) (by omega)] at w
      have el : qLim (qSn g0 n) p m = (0, p + qDc (qSn g0 n) p 7, qDv (qSn g0 n) p (qDc (qSn g0 n) p 7)) := by unfold qLim; rw [if_pos hd, if_neg c7, if_neg (by omega)]
      have x := hq1 g1
      rw [el] at x
      exact x rfl h1 (by show p + 1 ≤ p + _; omega) w e1
    · rw [em, nI_leI (by omega) (by omega)] at w
      have el : qLim (qSn g0 n) p m = (3, p, 0) := by unfold qLim; rw [if_pos hd, if_neg c7, if_pos (by omega)]
      have x := hq2 (qz_ui g1 7 8 (-3000 - g.1 7 5)) (nI (qDv (qSn g0 n) p (qDc (qSn g0 n) p 7)))
      rw [el] at x
      exact x (by show ¬ 3 = 0; decide) (h1.bl (kd := 3) (at_ := p) hb (by rw [h.2.2.1, qFv_3]) (by omega) (by omega) (by omega))
    · have el : qLim (qSn g0 n) p m = (2, p + 6, 0) := by unfold qLim; rw [if_pos hd, if_pos c7]
      have x := hq2 g1 v
      rw [el] at x
      exact ⟨fun _ => x (by show ¬ 2 = 0; decide) h1, fun _ => ⟨fun _ => x (by show ¬ 2 = 0; decide) h1, fun q => absurd q h1.2.2.1⟩⟩
  · have nd : ¬ (48 ≤ qSn g0 n p ∧ qSn g0 n p ≤ 57) := fun w => z (hdg.mpr w)
    have el : qLim (qSn g0 n) p m = (1, p, 0) := by unfold qLim; rw [if_neg nd]
    have x := hq2 (qz_ui g 7 8 (-1000 - g.1 7 5)) 0
    rw [el] at x
    exact x (by show ¬ 1 = 0; decide) (h.bl (kd := 1) (at_ := p) hb (by rw [h.2.2.1, qFv_1]) (by omega) (by omega) (by omega))
theorem D_lim {X : qz_X} {d : Nat} {Q : qz_Q} {L n : Nat} {g0 : qz_G} (hb : RdB L n g0) (g : qz_G) {kd at_ : Nat} (h : RdD L g0 g kd at_) (mo : Int32) (hq : Q g 0 0) : qz_Call X (d + 4) 80 [.ref 7, .int mo] g Q := by
  have e := RdD_sx h
  refine v_X6_readLimited (d := d + 1) g mo ?_
  rw [e]
  exact ⟨RdF_11 hb h.1, fun z => absurd z (by unfold qI; decide), fun _ => ⟨fun _ => hq, fun z => absurd z h.2.2.1⟩⟩
theorem c_passA {X : qz_X} {d : Nat} {Q : qz_Q} {L n : Nat} {g0 : qz_G} (hb : RdB L n g0) (g : qz_G) {p o : Nat} {C : List qOp} (h : RdA L n g0 g p o C) (s : Nat) {c : Int32} (ec : c = nI s) (hs : s < 256) (hq1 : ∀ g', qSn g0 n p = s → RdA L n g0 g' (p + 1) o C → g'.1 7 12 = g.1 7 12 → Q g' 0 0) (hq2 : ∀ g', ¬ qSn g0 n p = s → RdD L g0 g' 1 p → Q g' 0 0) : qz_Call X (d + 3) 77 [.ref 7, .int c] g Q := by
  have hn := hb.2.1
  have hpn := h.2.2.2.2.2.2.1
  have hi := RdA_is hb h ec hs
  refine v_X6_pass g c ⟨RdF_11 hb h.1, fun z => ⟨fun q => absurd h.2.1 q, fun _ => ?_⟩, fun z => ?_⟩
  · exact hq2 _ (fun w => z (hi.mpr w)) (h.bl hb (by rw [h.2.2.1, qFv_1]) (by omega) (by omega) (by omega))
  · have e := hi.mp z
    have hin : p < n := qSn_in (g0 := g0) (by omega)
    exact hq1 _ e (h.u5 (by rw [h.2.2.1, nI_1]) (by omega) (by omega)) (by rw [ui_n (by omega)])
theorem D_pass {X : qz_X} {d : Nat} {Q : qz_Q} {L n : Nat} {g0 : qz_G} (hb : RdB L n g0) (g : qz_G) {kd at_ : Nat} (h : RdD L g0 g kd at_) (s : Nat) {c : Int32} (ec : c = nI s) (hs : s < 256) (hq : Q g 0 0) : qz_Call X (d + 3) 77 [.ref 7, .int c] g Q := by
  have e := RdD_sx h
  refine v_X6_pass g c ?_
  rw [e]
  refine ⟨RdF_11 hb h.1, fun _ => ⟨fun _ => hq, fun z => absurd z h.2.2.1⟩, fun z => ?_⟩
  rw [ec, qz_eq, nI_toInt (by omega), qz_m1] at z
  omega
