/-! the reference: numbers, brackets, waiting operators -/
def RmX (g0 g' : qz_G) (kd at_ : Nat) : Prop := RmF g0 g' ∧ g'.1 12 28 = qFv kd at_
theorem qGv (k p : Nat) {c : Int32} (ec : c = nI k) : (-1000) * c - nI p = qFv k p := by unfold qFv; rw [ec]
theorem RmM.x {n : Nat} {g0 g : qz_G} {p o : Nat} {C W : List qOp} (h : RmM n g0 g p o C W) {v : Int32} {kd at_ : Nat} (hv : v = qFv kd at_) : RmX g0 (qz_ui g 12 28 v) kd at_ := ⟨h.1.u12 (by omega) v, by rw [ui_s]; exact hv⟩
def NmF (g g' : qz_G) : Prop := g'.2 = g.2 ∧ ∀ r k : Nat, ¬ (r = 12 ∧ (k = 26 ∨ k = 28 ∨ k = 29)) → g'.1 r k = g.1 r k
theorem NmF.u {g g' : qz_G} (h : NmF g g') {k : Nat} (hk : k = 26 ∨ k = 28 ∨ k = 29) (v : Int32) : NmF g (qz_ui g' 12 k v) := ⟨h.1, fun r j n1 => by rw [ui_n (fun z => n1 ⟨z.1, by rw [z.2]; exact hk⟩)]; exact h.2 r j n1⟩
theorem NmF.F {g0 g g' : qz_G} (h : NmF g g') (hf : RmF g0 g) : RmF g0 g' := ⟨h.1.trans hf.1, fun r k n1 n2 n3 => by rw [h.2 r k (by omega)]; exact hf.2 r k n1 n2 n3⟩
theorem NmF.M {n : Nat} {g0 g g' : qz_G} {p o p' : Nat} {C W : List qOp} (h : NmF g g') (hm : RmM n g0 g p o C W) (e : g'.1 12 26 = nI p') (hn : p' ≤ n) : RmM n g0 g' p' o C W := by
  obtain ⟨hf, a1, a2, a3, a4, a5, a6, a7⟩ := hm
  refine ⟨h.F hf, e, ?_, ?_, ?_, ?_, ?_, hn⟩
  · rw [h.2 12 30 (by omega)]; exact a2
  · rw [h.2 12 31 (by omega)]; exact a3
  · rw [h.2 12 32 (by omega)]; exact a4
  · intro k hk
    rw [h.2 100 k (by omega)]; exact a5 k hk
  · exact StkM_congr a6 (fun k _ => h.2 101 k (by omega))
theorem NmF.P {n : Nat} {sg : Nat → Nat} {g g' : qz_G} {p p' : Nat} (h : NmF g g') (hp : RmP n sg g p) (e : g'.1 12 26 = nI p') (hn : p' ≤ n) : RmP n sg g' p' := by
  obtain ⟨a1, a2, a3, a4, a5, a6⟩ := hp
  exact ⟨e, by rw [h.2 12 27 (by omega)]; exact a2, hn, a4, fun k hk => by rw [h.2 99 k (by omega)]; exact a5 k hk, a6⟩
def qLim (sg : Nat → Nat) (p m : Nat) : Nat × Nat × Nat := if 48 ≤ sg p ∧ sg p ≤ 57 then (if qDc sg p 7 = 7 then (2, p + 6, 0) else if m < qDv sg p (qDc sg p 7) then (3, p, 0) else (0, p + qDc sg p 7, qDv sg p (qDc sg p 7))) else (1, p, 0)
theorem c_rmNum {X : qz_X} {d : Nat} {Q : qz_Q} {n : Nat} {sg : Nat → Nat} (g : qz_G) {p : Nat} (h : RmP n sg g p) (m : Nat) {mo : Int32} (em : mo = nI m) (hm : m < 2147483648) (hq1 : ∀ g', NmF g g' → (qLim sg p m).1 = 0 → (48 ≤ sg p ∧ sg p ≤ 57) → ¬ qDc sg p 7 = 7 → g'.1 12 26 = nI (qLim sg p m).2.1 → g'.1 12 29 = nI (qLim sg p m).2.2 → (qLim sg p m).2.1 ≤ n → p + 1 ≤ (qLim sg p m).2.1 → (qLim sg p m).2.2 ≤ m → (qLim sg p m).2.2 < 1000000 → Q g' 1 0) (hq2 : ∀ g', NmF g g' → ¬ (qLim sg p m).1 = 0 → g'.1 12 28 = qFv (qLim sg p m).1 (qLim sg p m).2.1 → Q g' 0 0) : qz_Call X (d + 3) 218 [.ref 12, .int mo] g Q := by
  have hc := h.c
  have hn := h.2.2.2.1
  have h29 : NmF g (qz_ui g 12 29 0) := NmF.u (g := g) (g' := g) ⟨rfl, fun _ _ _ => rfl⟩ (by omega) 0
  have hp0 : RmP n sg (qz_ui g 12 29 0) p := h29.P h (by rw [ui_n (by omega)]; exact h.1) h.2.2.1
  refine v_X12_readsNumber g mo ⟨hc.1, hc.2, fun z => ?_, fun z => ?_⟩
  · rw [hp0.dig] at z
    have hc1 : 1 ≤ qDc sg p 7 := by
      show 1 ≤ if 48 ≤ sg p ∧ sg p ≤ 57 then 1 + qDc sg (p + 1) 6 else 0
      rw [if_pos z]; omega
    have main : ∀ (j k : Nat) (g1 : qz_G), k + j = 6 → NmF g g1 → g1.1 12 26 = nI (p + k) → p + k ≤ n → g1.1 12 29 = nI (qDv sg p k) → qDc sg p 7 = k + qDc sg (p + k) (7 - k) → qDv sg p k < 10 ^ k → qz_WP X (d + 3) 218 Q 27 [(0, .ref 12), (1, .int mo), (2, .int (g.1 12 26))] [] g1 := by
      intro j
      induction j with
      | zero =>
        intro k g1 e hf e26 hk e29 hcc hv
        have ek : k = 6 := by omega
        subst ek
        have hv : qDv sg p 6 < 1000000 := hv
        have h1 := hf.P h e26 hk
        have hcc2 : qDc sg (p + 6) (7 - 6) = if 48 ≤ sg (p + 6) ∧ sg (p + 6) ≤ 57 then 1 + 0 else 0 := rfl
        rw [hcc2] at hcc
        refine v_X12_readsNumber_27 g1 mo _ ⟨h1.c.1, h1.c.2, fun z1 => ⟨fun z2 => absurd ?_ z2, fun _ => ?_⟩, fun z1 => ?_⟩
        · rw [e26, h.1, show (6 : Int32) = nI 6 from by decide, nI_add]
        · rw [h1.dig] at z1
          rw [if_pos z1] at hcc
          have el : qLim sg p m = (2, p + 6, 0) := by unfold qLim; rw [if_pos z, if_pos hcc]
          refine hq2 _ (hf.u (by omega) _) (by rw [el]; show ¬ 2 = 0; decide) ?_
          rw [ui_s, e26, el]
          exact qGv 2 (p + 6) (by decide)
        · rw [h1.dig] at z1
          rw [if_neg z1] at hcc
          have hcc : qDc sg p 7 = 6 := hcc
          refine ⟨fun z2 => ?_, fun z2 => ?_⟩
          · rw [e29, em, nI_leI (by omega) (by omega)] at z2
            have el : qLim sg p m = (0, p + 6, qDv sg p 6) := by unfold qLim; rw [if_pos z, if_neg (by omega), hcc, if_neg (by omega)]
            refine hq1 g1 hf (by rw [el]) z (by omega) (by rw [el]; exact e26) (by rw [el]; exact e29) (by rw [el]; exact hk) (by rw [el]; show p + 1 ≤ p + 6; omega) (by rw [el]; exact z2) (by rw [el]; exact hv)
          · rw [e29, em, nI_leI (by omega) (by omega)] at z2
            have el : qLim sg p m = (3, p, 0) := by unfold qLim; rw [if_pos z, if_neg (by omega), hcc, if_pos (by omega)]
            refine hq2 _ (hf.u (by omega) _) (by rw [el]; show ¬ 3 = 0; decide) ?_
            rw [ui_s, h.1, el]
            exact qGv 3 p (by decide)
      | succ j ih =>
        intro k g1 e hf e26 hk e29 hcc hv
        have hpw : (10 : Nat) ^ k ≤ 10 ^ 5 := Nat.pow_le_pow_right (by omega) (by omega)
        have hpw : 10 ^ k ≤ 100000 := hpw
        have h1 := hf.P h e26 hk
        have hcc2 : qDc sg (p + k) (7 - k) = if 48 ≤ sg (p + k) ∧ sg (p + k) ≤ 57 then 1 + qDc sg (p + k + 1) (6 - k) else 0 := by
          rw [show 7 - k = (6 - k) + 1 from by omega]
          rfl
        rw [hcc2] at hcc
        refine v_X12_readsNumber_27 g1 mo _ ⟨h1.c.1, h1.c.2, fun z1 => ⟨fun _ => ?_, fun z2 => absurd z2 ?_⟩, fun z1 => ?_⟩
        · rw [h1.dig] at z1
          rw [if_pos z1] at hcc
          have hin : p + k < n := h1.lt (by omega)
          have ev : 10 * g1.1 12 29 + qSy g1 - 48 = nI (qDv sg p (k + 1)) := by
            rw [h1.sy, if_pos hin, e29, show (10 : Int32) = nI 10 from by decide, nI_mul, nI_add, qz_eq]
            rw [qz_sb (by rw [nI_toInt (by omega), qz_n48]; omega) (by rw [nI_toInt (by omega), qz_n48]; omega), nI_toInt (by omega), qz_n48]
            show _ = (nI (10 * qDv sg p k + (sg (p + k) - 48))).toInt
            rw [nI_toInt (by omega)]
            omega
          refine ih (k + 1) _ (by omega) ((hf.u (by omega) _).u (by omega) _) ?_ (by omega) ?_ ?_ ?_
          · rw [ui_s, e26, nI_1]; rfl
          · rw [ui_n (by omega), ui_s]; exact ev
          · rw [hcc, show 7 - (k + 1) = 6 - k from by omega, ← Nat.add_assoc p k 1]; omega
          · show 10 * qDv sg p k + (sg (p + k) - 48) < _
            rw [Nat.pow_succ]; omega
        · rw [e26, h.1, show (6 : Int32) = nI 6 from by decide, nI_add]
          intro w
          have := nI_inj (by omega) (by omega) w
          omega
        · rw [h1.dig] at z1
          rw [if_neg z1] at hcc
          have hcc : qDc sg p 7 = k := hcc
          refine ⟨fun z2 => ?_, fun z2 => ?_⟩
          · rw [e29, em, nI_leI (by omega) (by omega)] at z2
            have el : qLim sg p m = (0, p + k, qDv sg p k) := by unfold qLim; rw [if_pos z, if_neg (by omega), hcc, if_neg (by omega)]
            refine hq1 g1 hf (by rw [el]) z (by omega) (by rw [el]; exact e26) (by rw [el]; exact e29) (by rw [el]; exact hk) (by rw [el]; show p + 1 ≤ p + k; omega) (by rw [el]; exact z2) (by rw [el]; show qDv sg p k < 1000000; omega)
          · rw [e29, em, nI_leI (by omega) (by omega)] at z2
            have el : qLim sg p m = (3, p, 0) := by unfold qLim; rw [if_pos z, if_neg (by omega), hcc, if_pos (by omega)]
            refine hq2 _ (hf.u (by omega) _) (by rw [el]; show ¬ 3 = 0; decide) ?_
            rw [ui_s, h.1, el]
            exact qGv 3 p (by decide)
    exact main 6 0 _ (by omega) h29 (by rw [ui_n (by omega)]; exact h.1) h.2.2.1 (by rw [ui_s]; rfl) (by show _ = 0 + qDc _ p 7; omega) (by show 0 < 1; omega)
  · rw [hp0.dig] at z
    have el : qLim sg p m = (1, p, 0) := by unfold qLim; rw [if_neg z]
    refine hq2 _ (h29.u (by omega) _) (by rw [el]; show ¬ 1 = 0; decide) ?_
    rw [ui_s, h.1, el]
    exact qGv 1 p (by decide)
theorem qWm_0 (x : Nat) {c : Int32} (ec : c = nI x) : 1048576 * c = qWm (x, 0) := by
  rw [ec, show (1048576 : Int32) = nI 1048576 from by decide, nI_mul]
  rfl
theorem c_opens {X : qz_X} {d : Nat} {Q : qz_Q} {n : Nat} {g0 : qz_G} (g : qz_G) {p o : Nat} {C W : List qOp} (h : RmM n g0 g p o C W) (hp : p < n) (hn : n ≤ 200) (ho : o ≤ 6) (hW : W.length < 220) (x : Nat) {c : Int32} (ec : c = nI x) (hq1 : ∀ g', ¬ o = 6 → RmM n g0 g' (p + 1) (o + 1) C ((x, 0) :: W) → Q g' 1 0) (hq2 : ∀ g', o = 6 → RmX g0 g' 5 p → Q g' 0 0) : qz_Call X (d + 2) 220 [.ref 12, .int c] g Q := by
  have e30 := h.2.2.1
  have e32 := h.2.2.2.2.1
  refine v_X12_opens g c ⟨fun z => ⟨?_, ?_⟩, fun z => ?_⟩
  · rw [e32]; exact qz_vi (by rw [nI_toInt (by omega)]; omega) (by rw [nI_toInt (by omega)]; omega)
  · refine hq1 _ ?_ (((h.op (o' := o + 1) (by rw [e30, nI_1])).push (q := (x, 0)) (by rw [e32, nI_clamp (by omega)]) (qWm_0 x ec) (by rw [e32, nI_1])).pl (by rw [h.2.1, nI_1]) (by omega))
    intro w
    apply z
    rw [e30, w]
    rfl
  · rw [e30] at z
    have : o = 6 := nI_inj (by omega) (by omega) (z.trans (by decide : (6 : Int32) = nI 6))
    exact hq2 _ this (h.x (by rw [h.2.1]; exact qGv 5 p (by decide)))
theorem clo_form {t v1 : Int32} {P R : Prop} {T : Int} (eT : t.toInt = T) (hp : (4 ≤ T ∧ T ≤ 6 ∨ ¬ v1 = 0 ∧ (T = 2 ∨ T = 3)) → P) (hs : ¬ (4 ≤ T ∧ T ≤ 6 ∨ ¬ v1 = 0 ∧ (T = 2 ∨ T = 3)) → R) : (t < 4 → ((v1 = 0 → R) ∧ (¬ v1 = 0 → ((t = 2 → P) ∧ (¬ t = 2 → ((¬ t = 3 → R) ∧ (t = 3 → P))))))) ∧ (¬ t < 4 → ((t ≤ 6 → P) ∧ (¬ t ≤ 6 → ((v1 = 0 → R) ∧ (¬ v1 = 0 → ((t = 2 → P) ∧ (¬ t = 2 → ((¬ t = 3 → R) ∧ (t = 3 → P))))))))) := by
  simp only [qz_lt, qz_le, qz_eq t, eT, qz_n2, qz_n3, qz_n4, qz_n6]
  refine ⟨fun a => ⟨fun b => hs (fun z => ?_), fun b => ⟨fun c => hp (Or.inr ⟨b, Or.inl c⟩), fun c => ⟨fun e => hs (fun z => ?_), fun e => hp (Or.inr ⟨b, Or.inr e⟩)⟩⟩⟩, fun a => ⟨fun b => hp (Or.inl ⟨by omega, b⟩), fun b => ⟨fun c => hs (fun z => ?_), fun b2 => ⟨fun c => hp (Or.inr ⟨b2, Or.inl c⟩), fun c => ⟨fun e => hs (fun z => ?_), fun e => hp (Or.inr ⟨b2, Or.inr e⟩)⟩⟩⟩⟩⟩
  · rcases z with z | z
    · omega
    · exact z.1 b
  · omega
  · rcases z with z | z
    · omega
    · exact z.1 c
  · omega
