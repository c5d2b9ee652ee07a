/-! the class's reader: its states -/
theorem ui_s (g : qz_G) (o j : Nat) (v : Int32) : (qz_ui g o j v).1 o j = v := if_pos ⟨rfl, rfl⟩
theorem ui_n {g : qz_G} {o j : Nat} {v : Int32} {a b : Nat} (h : ¬ (a = o ∧ b = j)) : (qz_ui g o j v).1 a b = g.1 a b := if_neg h
def RdF (L : Nat) (g0 g : qz_G) : Prop := (g.2 = g0.2 ∧ (qz_bit (g0.1 7 12) → qz_bit (g.1 7 12))) ∧ ∀ r k : Nat, ¬ (r = 7 ∧ (k = 3 ∨ k = 5 ∨ k = 7 ∨ k = 8 ∨ k = 12)) → ¬ (r = 59 ∧ 200 * L ≤ k) → g.1 r k = g0.1 r k
theorem RdF.rf (L : Nat) (g : qz_G) : RdF L g g := ⟨⟨rfl, id⟩, fun _ _ _ _ => rfl⟩
theorem RdF.u7 {L : Nat} {g0 g : qz_G} (h : RdF L g0 g) {k : Nat} (hk : k = 3 ∨ k = 5 ∨ k = 7 ∨ k = 8) (v : Int32) : RdF L g0 (qz_ui g 7 k v) := ⟨⟨h.1.1, by rw [ui_n (by omega)]; exact h.1.2⟩, fun r j n1 n2 => by rw [ui_n (fun z => n1 ⟨z.1, by omega⟩)]; exact h.2 r j n1 n2⟩
theorem RdF.u59 {L : Nat} {g0 g : qz_G} (h : RdF L g0 g) {k : Nat} (hk : 200 * L ≤ k) (v : Int32) : RdF L g0 (qz_ui g 59 k v) := ⟨⟨h.1.1, by rw [ui_n (by omega)]; exact h.1.2⟩, fun r j n1 n2 => by rw [ui_n (fun z => n2 ⟨z.1, by rw [z.2]; exact hk⟩)]; exact h.2 r j n1 n2⟩
def RdB (L n : Nat) (g0 : qz_G) : Prop := L < 20 ∧ n ≤ 200 ∧ g0.1 7 6 = nI n ∧ qI (g0.1 1 1) 0 200 ∧ (n : Int) ≤ (g0.1 1 1).toInt ∧ ∀ k, k < 200 → qI (g0.1 13 k) 0 255
def qSn (g0 : qz_G) (n k : Nat) : Nat := if k < n then (g0.1 13 k).toNatClampNeg else 999
def qFv (kd at_ : Nat) : Int32 := (-1000) * nI kd - nI at_
def RdA (L n : Nat) (g0 g : qz_G) (p o : Nat) (C : List qOp) : Prop := RdF L g0 g ∧ g.1 7 8 = 0 ∧ g.1 7 5 = nI p ∧ g.1 7 7 = nI o ∧ g.1 7 3 = nI (200 * L + C.length) ∧ (∀ k, k < C.length → g.1 59 (200 * L + k) = qWx k (qOa C k)) ∧ p ≤ n ∧ C.length ≤ p ∧ o ≤ 4294967296
def RdD (L : Nat) (g0 g : qz_G) (kd at_ : Nat) : Prop := RdF L g0 g ∧ g.1 7 8 = qFv kd at_ ∧ ¬ g.1 7 8 = 0 ∧ (200 * L : Nat) ≤ (g.1 7 3).toInt ∧ (g.1 7 3).toInt ≤ 4000
theorem RdF_11 {L n : Nat} {g0 g : qz_G} (hb : RdB L n g0) (h : RdF L g0 g) : qI (g.1 1 1) 0 200 := by rw [h.2 1 1 (by omega) (by omega)]; exact hb.2.2.2.1
theorem RdD_sx {L : Nat} {g0 g : qz_G} {kd at_ : Nat} (h : RdD L g0 g kd at_) : qSx g = -1 := by
  unfold qSx
  rw [if_neg (fun z => h.2.2.1 z.1)]
theorem qSn_lt {L n : Nat} {g0 : qz_G} (hb : RdB L n g0) {p : Nat} (h : p < n) : qSn g0 n p < 256 := by
  unfold qSn
  rw [if_pos h]
  have h1 := hb.2.2.2.2.2 p (by have := hb.2.1; omega)
  have h2 := h1.1
  have h3 := h1.2
  rw [qz_lt, qz_n0] at h2
  rw [qz_lt, show (255 : Int32).toInt = 255 from by decide] at h3
  have := qz_cl (g0.1 13 p)
  omega
theorem qSn_in {g0 : qz_G} {n p : Nat} (h : qSn g0 n p < 999) : p < n := by
  by_cases c : p < n
  · exact c
  · unfold qSn at h
    rw [if_neg c] at h
    omega
theorem RdA_sx {L n : Nat} {g0 g : qz_G} {p o : Nat} {C : List qOp} (hb : RdB L n g0) (h : RdA L n g0 g p o C) : qSx g = if p < n then nI (qSn g0 n p) else -1 := by
  obtain ⟨hf, a1, a2, a3, a4, a5, a6, a7, a8⟩ := h
  have e11 := hf.2 1 1 (by omega) (by omega)
  have e76 := hf.2 7 6 (by omega) (by omega)
  have hn := hb.2.1
  have h6 := hb.2.2.1
  have h11 := hb.2.2.2.2.1
  by_cases c : p < n
  · have e13 := hf.2 13 p (by omega) (by omega)
    unfold qSx
    rw [if_pos c, if_pos]
    · rw [a2, nI_clamp (by omega), e13]
      unfold qSn
      rw [if_pos c, qz_self (hb.2.2.2.2.2 p (by omega)).1]
    · refine ⟨a1, ?_, ?_, ?_⟩
      · rw [e76, h6, a2, nI_leI (by omega) (by omega)]; omega
      · rw [a2, qz_lt, nI_toInt (by omega), qz_n0]; omega
      · rw [e11, a2, qz_le, nI_toInt (by omega)]; omega
  · unfold qSx
    rw [if_neg c, if_neg]
    intro z
    have := z.2.1
    rw [e76, h6, a2, nI_leI (by omega) (by omega)] at this
    omega
theorem RdA_is {L n : Nat} {g0 g : qz_G} {p o : Nat} {C : List qOp} (hb : RdB L n g0) (h : RdA L n g0 g p o C) {c : Int32} {s : Nat} (ec : c = nI s) (hs : s < 256) : qSx g = c ↔ qSn g0 n p = s := by
  rw [RdA_sx hb h, ec]
  by_cases q : p < n
  · rw [if_pos q]
    have := qSn_lt hb q
    exact ⟨fun e => nI_inj (by omega) (by omega) e, fun e => by rw [e]⟩
  · rw [if_neg q]
    refine ⟨fun e => ?_, fun e => ?_⟩
    · rw [qz_eq, nI_toInt (by omega), qz_m1] at e
      omega
    · unfold qSn at e
      rw [if_neg q] at e
      omega
theorem RdA_dig {L n : Nat} {g0 g : qz_G} {p o : Nat} {C : List qOp} (hb : RdB L n g0) (h : RdA L n g0 g p o C) : qI (qSx g) 48 57 ↔ 48 ≤ qSn g0 n p ∧ qSn g0 n p ≤ 57 := by
  rw [RdA_sx hb h]
  unfold qI
  rw [qz_lt, qz_lt, qz_n48, qz_n57]
  by_cases q : p < n
  · rw [if_pos q]
    have := qSn_lt hb q
    rw [nI_toInt (by omega)]
    omega
  · rw [if_neg q, qz_m1]
    unfold qSn
    rw [if_neg q]
    omega
theorem qFy_c : ∀ s, s < 256 → qFy (nI s) = if qFc s < 8 then nI (qFc s) else -1 := by decide +kernel
theorem RdA_fy {L n : Nat} {g0 g : qz_G} {p o : Nat} {C : List qOp} (hb : RdB L n g0) (h : RdA L n g0 g p o C) : qFy (qSx g) = if qFc (qSn g0 n p) < 8 then nI (qFc (qSn g0 n p)) else -1 := by
  rw [RdA_sx hb h]
  by_cases q : p < n
  · rw [if_pos q]
    exact qFy_c _ (qSn_lt hb q)
  · rw [if_neg q]
    unfold qSn
    rw [if_neg q]
    decide
theorem qz_enc (v s : Nat) (hs : s < 256) (hv : v < 8388608) : ((nI v <<< ((8 : Int32) &&& 31)) ||| nI s) = nI (256 * v + s) := by
  apply Int32.toBitVec_inj.mp
  rw [show ((8 : Int32) &&& 31) = 8 from by decide, Int32.toBitVec_or, Int32.toBitVec_shiftLeft]
  apply BitVec.eq_of_toNat_eq
  rw [BitVec.toNat_or]
  show ((BitVec.ofNat 32 v) <<< (8 : Nat)).toNat ||| (BitVec.ofNat 32 s).toNat = (BitVec.ofNat 32 (256 * v + s)).toNat
  rw [BitVec.toNat_ofNat, BitVec.toNat_ofNat, BitVec.toNat_shiftLeft, BitVec.toNat_ofNat]
  show (v % 2 ^ 32) <<< 8 % 2 ^ 32 ||| s % 2 ^ 32 = (256 * v + s) % 2 ^ 32
  rw [Nat.mod_eq_of_lt (show v < 2 ^ 32 by omega), Nat.shiftLeft_eq, Nat.mod_eq_of_lt (show v * 2 ^ 8 < 2 ^ 32 by omega), Nat.mod_eq_of_lt (show s < 2 ^ 32 by omega), Nat.mod_eq_of_lt (show 256 * v + s < 2 ^ 32 by omega), ← Nat.shiftLeft_eq, ← Nat.shiftLeft_add_eq_or_of_lt (show s < 2 ^ 8 by omega), Nat.shiftLeft_eq]
  omega
theorem qFv_ne {kd at_ : Nat} (h1 : 1 ≤ kd) (h2 : kd ≤ 5) (h3 : at_ ≤ 1000) : ¬ qFv kd at_ = 0 := by
  unfold qFv
  rw [qz_eq]
  have e1 := qz_ml (a := -1000) (b := nI kd) (by rw [nI_toInt (by omega), show (-1000 : Int32).toInt = -1000 from by decide]; omega) (by rw [nI_toInt (by omega), show (-1000 : Int32).toInt = -1000 from by decide]; omega)
  rw [nI_toInt (by omega), show (-1000 : Int32).toInt = -1000 from by decide] at e1
  have e2 := qz_sb (a := -1000 * nI kd) (b := nI at_) (by rw [nI_toInt (by omega)]; omega) (by rw [nI_toInt (by omega)]; omega)
  rw [e2, e1, nI_toInt (by omega), qz_n0]
  omega
theorem qFv_1 (p : Nat) : (-1000) - nI p = qFv 1 p := by unfold qFv; rw [show (-1000 : Int32) * nI 1 = -1000 from by decide]
theorem qFv_2 (p : Nat) : (-2000) - nI p = qFv 2 p := by unfold qFv; rw [show (-1000 : Int32) * nI 2 = -2000 from by decide]
theorem qFv_3 (p : Nat) : (-3000) - nI p = qFv 3 p := by unfold qFv; rw [show (-1000 : Int32) * nI 3 = -3000 from by decide]
theorem qFv_4 (p : Nat) : (-4000) - nI p = qFv 4 p := by unfold qFv; rw [show (-1000 : Int32) * nI 4 = -4000 from by decide]
theorem qFv_5 (p : Nat) : (-5000) - nI p = qFv 5 p := by unfold qFv; rw [show (-1000 : Int32) * nI 5 = -5000 from by decide]
/-- a fault is met -/
theorem RdA.bl {L n : Nat} {g0 g : qz_G} {p o : Nat} {C : List qOp} (hb : RdB L n g0) (h : RdA L n g0 g p o C) {kd at_ : Nat} {v : Int32} (ev : v = qFv kd at_) (h1 : 1 ≤ kd) (h2 : kd ≤ 5) (h3 : at_ ≤ 1000) : RdD L g0 (qz_ui g 7 8 v) kd at_ := by
  have hl := hb.1
  have hn := hb.2.1
  obtain ⟨hf, a1, a2, a3, a4, a5, a6, a7, a8⟩ := h
  refine ⟨hf.u7 (by omega) v, by rw [ui_s, ev], by rw [ui_s, ev]; exact qFv_ne h1 h2 h3, ?_, ?_⟩
  · rw [ui_n (by omega), a4, nI_toInt (by omega)]; omega
  · rw [ui_n (by omega), a4, nI_toInt (by omega)]; omega
theorem RdD.u7 {L : Nat} {g0 g : qz_G} {kd at_ : Nat} (h : RdD L g0 g kd at_) {k : Nat} (hk : k = 5 ∨ k = 7) (v : Int32) : RdD L g0 (qz_ui g 7 k v) kd at_ := by
  obtain ⟨hf, a1, a2, a3, a4⟩ := h
  refine ⟨hf.u7 (by omega) v, ?_, ?_, ?_, ?_⟩
  · rw [ui_n (by omega)]; exact a1
  · rw [ui_n (by omega)]; exact a2
  · rw [ui_n (by omega)]; exact a3
  · rw [ui_n (by omega)]; exact a4
theorem RdA.u5 {L n : Nat} {g0 g : qz_G} {p o : Nat} {C : List qOp} (h : RdA L n g0 g p o C) {p' : Nat} {v : Int32} (ev : v = nI p') (h1 : p ≤ p') (h2 : p' ≤ n) : RdA L n g0 (qz_ui g 7 5 v) p' o C := by
  obtain ⟨hf, a1, a2, a3, a4, a5, a6, a7, a8⟩ := h
  refine ⟨hf.u7 (by omega) v, ?_, ?_, ?_, ?_, ?_, h2, by omega, a8⟩
  · rw [ui_n (by omega)]; exact a1
  · rw [ui_s]; exact ev
  · rw [ui_n (by omega)]; exact a3
  · rw [ui_n (by omega)]; exact a4
  · intro k hk
    rw [ui_n (by omega)]; exact a5 k hk
theorem RdA.u7o {L n : Nat} {g0 g : qz_G} {p o : Nat} {C : List qOp} (h : RdA L n g0 g p o C) {o' : Nat} {v : Int32} (ev : v = nI o') (h1 : o' ≤ 6) : RdA L n g0 (qz_ui g 7 7 v) p o' C := by
  obtain ⟨hf, a1, a2, a3, a4, a5, a6, a7, a8⟩ := h
  refine ⟨hf.u7 (by omega) v, ?_, ?_, ?_, ?_, ?_, a6, a7, by omega⟩
  · rw [ui_n (by omega)]; exact a1
  · rw [ui_n (by omega)]; exact a2
  · rw [ui_s]; exact ev
  · rw [ui_n (by omega)]; exact a4
  · intro k hk
    rw [ui_n (by omega)]; exact a5 k hk
theorem RdA.u12 {L n : Nat} {g0 g : qz_G} {p o : Nat} {C : List qOp} (h : RdA L n g0 g p o C) (v : Int32) (hv : qz_bit v) : RdA L n g0 (qz_ui g 7 12 v) p o C := by
  obtain ⟨hf, a1, a2, a3, a4, a5, a6, a7, a8⟩ := h
  refine ⟨⟨⟨hf.1.1, fun _ => by rw [ui_s]; exact hv⟩, fun r j n1 n2 => by rw [ui_n (by omega)]; exact hf.2 r j n1 n2⟩, ?_, ?_, ?_, ?_, ?_, a6, a7, a8⟩
  · rw [ui_n (by omega)]; exact a1
  · rw [ui_n (by omega)]; exact a2
  · rw [ui_n (by omega)]; exact a3
  · rw [ui_n (by omega)]; exact a4
  · intro k hk
    rw [ui_n (by omega)]; exact a5 k hk
theorem c_emitA {X : qz_X} {d : Nat} {Q : qz_Q} {L n : Nat} {g0 : qz_G} (hb : RdB L n g0) (g : qz_G) {p o : Nat} {C : List qOp} (h : RdA L n g0 g p o C) (hp : C.length + 1 ≤ p) (op v : Nat) {c w : Int32} (ew : (w <<< ((8 : Int32) &&& 31)) ||| c = qWx C.length (op, v)) (hq : ∀ g', RdA L n g0 g' p o (C ++ [(op, v)]) → g'.1 7 12 = g.1 7 12 → Q g' 0 0) : qz_Call X (d + 1) 89 [.ref 7, .int c, .int w] g Q := by
  have hl := hb.1
  have hn := hb.2.1
  obtain ⟨hf, a1, a2, a3, a4, a5, a6, a7, a8⟩ := h
  have e3 : (g.1 7 3).toInt = (200 * L + C.length : Nat) := by rw [a4, nI_toInt (by omega)]
  refine v_X6_emit g c w ⟨fun z => absurd z ?_, fun _ => ⟨fun z => absurd z ?_, fun _ => ⟨qz_vi (by omega) (by omega), hq _ ?_ ?_⟩⟩⟩
  · rw [qz_lt, e3, qz_n0]; omega
  · rw [qz_le, e3, show (4000 : Int32).toInt = 4000 from by decide]; omega
  · rw [a4, nI_clamp (show 200 * L + C.length < 2147483648 by omega), nI_1, ew]
    refine ⟨(hf.u59 (by omega) _).u7 (by omega) _, ?_, ?_, ?_, ?_, ?_, a6, by rw [List.length_append]; show C.length + 1 ≤ p; omega, a8⟩
    · rw [ui_n (by omega), ui_n (by omega)]; exact a1
    · rw [ui_n (by omega), ui_n (by omega)]; exact a2
    · rw [ui_n (by omega), ui_n (by omega)]; exact a3
    · rw [ui_s, List.length_append]; rfl
    · intro k hk
      rw [List.length_append] at hk
      have hk : k < C.length + 1 := hk
      rw [ui_n (by omega)]
      by_cases c1 : k = C.length
      · subst c1
        rw [ui_s, qOa_e]
      · rw [ui_n (by omega), qOa_l (by omega)]
        exact a5 k (by omega)
  · rw [ui_n (by omega), ui_n (by omega)]
theorem c_emitD {X : qz_X} {d : Nat} {Q : qz_Q} {L : Nat} {g0 : qz_G} (hl : L < 20) (g : qz_G) {kd at_ : Nat} (h : RdD L g0 g kd at_) {c w : Int32} (hq : ∀ g', RdD L g0 g' kd at_ → Q g' 0 0) : qz_Call X (d + 1) 89 [.ref 7, .int c, .int w] g Q := by
  obtain ⟨hf, a1, a2, a3, a4⟩ := h
  have e4 : (4000 : Int32).toInt = 4000 := by decide
  refine v_X6_emit g c w ⟨fun z => absurd z ?_, fun _ => ⟨fun z => hq _ ⟨hf, a1, a2, a3, a4⟩, fun z => ?_⟩⟩
  · rw [qz_lt, qz_n0]; omega
  · rw [qz_le, e4] at z
    have cl := qz_cl (g.1 7 3)
    refine ⟨qz_vi (by omega) (by omega), hq _ ⟨(hf.u59 (by omega) _).u7 (by omega) _, ?_, ?_, ?_, ?_⟩⟩
    · rw [ui_n (by omega), ui_n (by omega)]; exact a1
    · rw [ui_n (by omega), ui_n (by omega)]; exact a2
    · rw [ui_s, qz_ad (by rw [qz_n1]; omega) (by rw [qz_n1]; omega), qz_n1]; omega
    · rw [ui_s, qz_ad (by rw [qz_n1]; omega) (by rw [qz_n1]; omega), qz_n1]; omega
theorem c_landA {X : qz_X} {d : Nat} {Q : qz_Q} {L n : Nat} {g0 : qz_G} (hb : RdB L n g0) (g : qz_G) {p o : Nat} {C : List qOp} (h : RdA L n g0 g p o C) (j op : Nat) (hj : j < C.length) (ho1 : 11 ≤ op) (ho2 : op ≤ 12) (hC : qOa C j = (op, 0)) {v : Int32} (ev : v = nI (200 * L + j)) (hq : ∀ g', RdA L n g0 g' p o (C.set j (op, C.length)) → g'.1 7 12 = g.1 7 12 → Q g' 0 0) : qz_Call X (d + 1) 90 [.ref 7, .int v] g Q := by
  have hl := hb.1
  have hn := hb.2.1
  obtain ⟨hf, a1, a2, a3, a4, a5, a6, a7, a8⟩ := h
  have ej : v.toInt = (200 * L + j : Nat) := by rw [ev, nI_toInt (by omega)]
  have ecl : v.toNatClampNeg = 200 * L + j := by rw [ev, nI_clamp (by omega)]
  have e59 : g.1 59 (200 * L + j) = nI (qSg op) := by
    rw [a5 j hj, hC]
    unfold qWx
    rw [if_pos (show 11 ≤ (op, 0).1 from ho1)]
    show nI (256 * (0 - j - 1) + qSg op) = _
    rw [show 256 * (0 - j - 1) + qSg op = qSg op from by omega]
  have hsg : qSg op < 256 := by
    obtain rfl | rfl : op = 11 ∨ op = 12 := by omega
    · decide
    · decide
  have ed : g.1 7 3 - v - 1 = nI (C.length - j - 1) := by
    rw [qz_eq, nI_toInt (by omega)]
    have x1 : (g.1 7 3).toInt = (200 * L + C.length : Nat) := by rw [a4, nI_toInt (by omega)]
    have x2 := qz_sb (a := g.1 7 3) (b := v) (by omega) (by omega)
    rw [qz_sb (by rw [qz_n1]; omega) (by rw [qz_n1]; omega), qz_n1]
    omega
  refine v_X6_landJump g v ⟨fun z => absurd z ?_, fun _ => ⟨fun z => absurd z ?_, fun _ => ⟨qz_vi (by omega) (by omega), hq _ ?_ ?_⟩⟩⟩
  · rw [qz_lt, qz_n0]; omega
  · rw [qz_le, show (4000 : Int32).toInt = 4000 from by decide]; omega
  · rw [ecl, e59, ed, qz_enc _ _ hsg (by omega)]
    refine ⟨hf.u59 (by omega) _, ?_, ?_, ?_, ?_, ?_, a6, by rw [List.length_set]; exact a7, a8⟩
    · rw [ui_n (by omega)]; exact a1
    · rw [ui_n (by omega)]; exact a2
    · rw [ui_n (by omega)]; exact a3
    · rw [ui_n (by omega), List.length_set]; exact a4
    · intro k hk
      rw [List.length_set] at hk
      rw [qOa_set hj]
      by_cases c1 : k = j
      · subst c1
        rw [ui_s, if_pos rfl]
        unfold qWx
        rw [if_pos (show 11 ≤ (op, C.length).1 from ho1)]
      · rw [ui_n (by omega), if_neg c1]
        exact a5 k hk
  · rw [ui_n (by omega)]
theorem c_landD {X : qz_X} {d : Nat} {Q : qz_Q} {L : Nat} {g0 : qz_G} (g : qz_G) {kd at_ : Nat} (h : RdD L g0 g kd at_) {v : Int32} (hv : (200 * L : Nat) ≤ v.toInt) (hq : ∀ g', RdD L g0 g' kd at_ → Q g' 0 0) : qz_Call X (d + 1) 90 [.ref 7, .int v] g Q := by
  obtain ⟨hf, a1, a2, a3, a4⟩ := h
  have e4 : (4000 : Int32).toInt = 4000 := by decide
  have cl := qz_cl v
  refine v_X6_landJump g v ⟨fun z => absurd z ?_, fun _ => ⟨fun z => hq _ ⟨hf, a1, a2, a3, a4⟩, fun z => ?_⟩⟩
  · rw [qz_lt, qz_n0]; omega
  · rw [qz_le, e4] at z
    refine ⟨qz_vi (by omega) (by omega), hq _ ⟨hf.u59 (by omega) _, ?_, ?_, ?_, ?_⟩⟩
    · rw [ui_n (by omega)]; exact a1
    · rw [ui_n (by omega)]; exact a2
    · rw [ui_n (by omega)]; exact a3
    · rw [ui_n (by omega)]; exact a4
