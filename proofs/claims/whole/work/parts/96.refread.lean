/-! the reference's reader: its states -/
def StkM (r : Nat → Int32) : List qOp → Prop
  | [] => True
  | q :: W => r W.length = qWm q ∧ StkM r W
theorem StkM_congr {r r' : Nat → Int32} : ∀ {W : List qOp}, StkM r W → (∀ k, k < W.length → r' k = r k) → StkM r' W
  | [], _, _ => trivial
  | q :: W, h, e => ⟨by rw [e W.length (by rw [List.length_cons]; omega)]; exact h.1, StkM_congr h.2 (fun k hk => e k (by rw [List.length_cons]; omega))⟩
def qJm : List qOp → Nat
  | [] => 0
  | q :: W => (if q.1 = 11 ∨ q.1 = 12 then 1 else 0) + qJm W
def qOn : List qOp → Nat
  | [] => 0
  | q :: W => (if q.1 = 10 ∨ q.1 = 13 ∨ q.1 = 14 then 1 else 0) + qOn W
theorem qJm_le : ∀ W : List qOp, qJm W ≤ W.length
  | [] => Nat.le_refl _
  | q :: W => by
    have := qJm_le W
    show (if q.1 = 11 ∨ q.1 = 12 then 1 else 0) + qJm W ≤ W.length + 1
    split <;> omega
def RmF (g0 g : qz_G) : Prop := g.2 = g0.2 ∧ ∀ r k : Nat, ¬ (r = 12 ∧ (k = 26 ∨ k = 28 ∨ k = 29 ∨ k = 30 ∨ k = 31 ∨ k = 32)) → ¬ r = 100 → ¬ r = 101 → g.1 r k = g0.1 r k
theorem RmF.rf (g : qz_G) : RmF g g := ⟨rfl, fun _ _ _ _ _ => rfl⟩
theorem RmF.u12 {g0 g : qz_G} (h : RmF g0 g) {k : Nat} (hk : k = 26 ∨ k = 28 ∨ k = 29 ∨ k = 30 ∨ k = 31 ∨ k = 32) (v : Int32) : RmF g0 (qz_ui g 12 k v) := ⟨h.1, fun r j n1 n2 n3 => by rw [ui_n (fun z => n1 ⟨z.1, by rw [z.2]; exact hk⟩)]; exact h.2 r j n1 n2 n3⟩
theorem RmF.u100 {g0 g : qz_G} (h : RmF g0 g) (k : Nat) (v : Int32) : RmF g0 (qz_ui g 100 k v) := ⟨h.1, fun r j n1 n2 n3 => by rw [ui_n (fun z => n2 z.1)]; exact h.2 r j n1 n2 n3⟩
theorem RmF.u101 {g0 g : qz_G} (h : RmF g0 g) (k : Nat) (v : Int32) : RmF g0 (qz_ui g 101 k v) := ⟨h.1, fun r j n1 n2 n3 => by rw [ui_n (fun z => n3 z.1)]; exact h.2 r j n1 n2 n3⟩
def RmB (n : Nat) (sg : Nat → Nat) (g0 : qz_G) : Prop := n ≤ 200 ∧ g0.1 12 27 = nI n ∧ (∀ k, k < n → g0.1 99 k &&& 255 = nI (sg k) ∧ sg k < 256) ∧ ∀ k, n ≤ k → sg k = 999
def RmM (n : Nat) (g0 g : qz_G) (p o : Nat) (C W : List qOp) : Prop := RmF g0 g ∧ g.1 12 26 = nI p ∧ g.1 12 30 = nI o ∧ g.1 12 31 = nI C.length ∧ g.1 12 32 = nI W.length ∧ (∀ k, k < C.length → g.1 100 k = qWm (qOa C k)) ∧ StkM (g.1 101) W ∧ p ≤ n
theorem RmM.say {n : Nat} {g0 g : qz_G} {p o : Nat} {C W : List qOp} (h : RmM n g0 g p o C W) {q : qOp} {j : Nat} {x v : Int32} (hj : j = C.length) (hx : x = qWm q) (hv : v = nI (C.length + 1)) : RmM n g0 (qz_ui (qz_ui g 100 j x) 12 31 v) p o (C ++ [q]) W := by
  obtain ⟨hf, a1, a2, a3, a4, a5, a6, a7⟩ := h
  subst hj
  refine ⟨(hf.u100 _ x).u12 (by omega) v, ?_, ?_, ?_, ?_, ?_, ?_, a7⟩
  · rw [ui_n (by omega), ui_n (by omega)]; exact a1
  · rw [ui_n (by omega), ui_n (by omega)]; exact a2
  · rw [ui_s, List.length_append]; exact hv
  · rw [ui_n (by omega), ui_n (by omega)]; exact a4
  · intro k hk
    rw [List.length_append] at hk
    have hk : k < C.length + 1 := hk
    rw [ui_n (by omega)]
    by_cases c : k = C.length
    · rw [c, ui_s, qOa_e]; exact hx
    · rw [ui_n (by omega), qOa_l (by omega)]; exact a5 k (by omega)
  · exact StkM_congr a6 (fun k _ => by rw [ui_n (by omega), ui_n (by omega)])
theorem RmM.set {n : Nat} {g0 g : qz_G} {p o : Nat} {C W : List qOp} (h : RmM n g0 g p o C W) {q : qOp} {j : Nat} {x : Int32} (hj : j < C.length) (hx : x = qWm q) : RmM n g0 (qz_ui g 100 j x) p o (C.set j q) W := by
  obtain ⟨hf, a1, a2, a3, a4, a5, a6, a7⟩ := h
  refine ⟨hf.u100 _ x, ?_, ?_, ?_, ?_, ?_, ?_, a7⟩
  · rw [ui_n (by omega)]; exact a1
  · rw [ui_n (by omega)]; exact a2
  · rw [ui_n (by omega), List.length_set]; exact a3
  · rw [ui_n (by omega)]; exact a4
  · intro k hk
    rw [List.length_set] at hk
    rw [qOa_set hj]
    by_cases c : k = j
    · rw [c, ui_s, if_pos rfl]; exact hx
    · rw [ui_n (by omega), if_neg c]; exact a5 k hk
  · exact StkM_congr a6 (fun k _ => by rw [ui_n (by omega)])
theorem RmM.push {n : Nat} {g0 g : qz_G} {p o : Nat} {C W : List qOp} (h : RmM n g0 g p o C W) {q : qOp} {j : Nat} {x v : Int32} (hj : j = W.length) (hx : x = qWm q) (hv : v = nI (W.length + 1)) : RmM n g0 (qz_ui (qz_ui g 101 j x) 12 32 v) p o C (q :: W) := by
  obtain ⟨hf, a1, a2, a3, a4, a5, a6, a7⟩ := h
  subst hj
  refine ⟨(hf.u101 _ x).u12 (by omega) v, ?_, ?_, ?_, ?_, ?_, ?_, a7⟩
  · rw [ui_n (by omega), ui_n (by omega)]; exact a1
  · rw [ui_n (by omega), ui_n (by omega)]; exact a2
  · rw [ui_n (by omega), ui_n (by omega)]; exact a3
  · rw [ui_s, List.length_cons]; exact hv
  · intro k hk
    rw [ui_n (by omega), ui_n (by omega)]; exact a5 k hk
  · refine ⟨?_, StkM_congr a6 (fun k hk => by rw [ui_n (by omega), ui_n (by omega)])⟩
    rw [ui_n (by omega), ui_s]; exact hx
theorem RmM.pop {n : Nat} {g0 g : qz_G} {p o : Nat} {C W : List qOp} {q : qOp} (h : RmM n g0 g p o C (q :: W)) {v : Int32} (hv : v = nI W.length) : RmM n g0 (qz_ui g 12 32 v) p o C W := by
  obtain ⟨hf, a1, a2, a3, a4, a5, a6, a7⟩ := h
  refine ⟨hf.u12 (by omega) v, ?_, ?_, ?_, ?_, ?_, ?_, a7⟩
  · rw [ui_n (by omega)]; exact a1
  · rw [ui_n (by omega)]; exact a2
  · rw [ui_n (by omega)]; exact a3
  · rw [ui_s]; exact hv
  · intro k hk
    rw [ui_n (by omega)]; exact a5 k hk
  · exact StkM_congr a6.2 (fun k _ => by rw [ui_n (by omega)])
theorem RmM.pl {n : Nat} {g0 g : qz_G} {p o : Nat} {C W : List qOp} (h : RmM n g0 g p o C W) {p' : Nat} {v : Int32} (hv : v = nI p') (hn : p' ≤ n) : RmM n g0 (qz_ui g 12 26 v) p' o C W := by
  obtain ⟨hf, a1, a2, a3, a4, a5, a6, a7⟩ := h
  refine ⟨hf.u12 (by omega) v, ?_, ?_, ?_, ?_, ?_, ?_, hn⟩
  · rw [ui_s]; exact hv
  · rw [ui_n (by omega)]; exact a2
  · rw [ui_n (by omega)]; exact a3
  · rw [ui_n (by omega)]; exact a4
  · intro k hk
    rw [ui_n (by omega)]; exact a5 k hk
  · exact StkM_congr a6 (fun k _ => by rw [ui_n (by omega)])
theorem RmM.op {n : Nat} {g0 g : qz_G} {p o : Nat} {C W : List qOp} (h : RmM n g0 g p o C W) {o' : Nat} {v : Int32} (hv : v = nI o') : RmM n g0 (qz_ui g 12 30 v) p o' C W := by
  obtain ⟨hf, a1, a2, a3, a4, a5, a6, a7⟩ := h
  refine ⟨hf.u12 (by omega) v, ?_, ?_, ?_, ?_, ?_, ?_, a7⟩
  · rw [ui_n (by omega)]; exact a1
  · rw [ui_s]; exact hv
  · rw [ui_n (by omega)]; exact a3
  · rw [ui_n (by omega)]; exact a4
  · intro k hk
    rw [ui_n (by omega)]; exact a5 k hk
  · exact StkM_congr a6 (fun k _ => by rw [ui_n (by omega)])
theorem RmM.f29 {n : Nat} {g0 g : qz_G} {p o : Nat} {C W : List qOp} (h : RmM n g0 g p o C W) (v : Int32) : RmM n g0 (qz_ui g 12 29 v) p o C W := by
  obtain ⟨hf, a1, a2, a3, a4, a5, a6, a7⟩ := h
  refine ⟨hf.u12 (by omega) v, ?_, ?_, ?_, ?_, ?_, ?_, a7⟩
  · rw [ui_n (by omega)]; exact a1
  · rw [ui_n (by omega)]; exact a2
  · rw [ui_n (by omega)]; exact a3
  · rw [ui_n (by omega)]; exact a4
  · intro k hk
    rw [ui_n (by omega)]; exact a5 k hk
  · exact StkM_congr a6 (fun k _ => by rw [ui_n (by omega)])
/-- what the sign is -/
def RmP (n : Nat) (sg : Nat → Nat) (g : qz_G) (p : Nat) : Prop := g.1 12 26 = nI p ∧ g.1 12 27 = nI n ∧ p ≤ n ∧ n ≤ 200 ∧ (∀ k, k < n → g.1 99 k &&& 255 = nI (sg k) ∧ sg k < 256) ∧ ∀ k, n ≤ k → sg k = 999
theorem RmP_of {n : Nat} {sg : Nat → Nat} {g0 g : qz_G} {p : Nat} (hb : RmB n sg g0) (hf : RmF g0 g) (hp : g.1 12 26 = nI p) (hn : p ≤ n) : RmP n sg g p := by
  refine ⟨hp, ?_, hn, hb.1, fun k hk => ?_, hb.2.2.2⟩
  · rw [hf.2 12 27 (by omega) (by omega) (by omega)]; exact hb.2.1
  · rw [hf.2 99 k (by omega) (by omega) (by omega)]; exact hb.2.2.1 k hk
theorem RmM.P {n : Nat} {sg : Nat → Nat} {g0 g : qz_G} {p o : Nat} {C W : List qOp} (h : RmM n g0 g p o C W) (hb : RmB n sg g0) : RmP n sg g p := RmP_of hb h.1 h.2.1 h.2.2.2.2.2.2.2
theorem RmP.c {n : Nat} {sg : Nat → Nat} {g : qz_G} {p : Nat} (h : RmP n sg g p) : qI (g.1 12 26) 0 200 ∧ qI (g.1 12 27) 0 200 := by
  obtain ⟨a1, a2, a3, a4, a5, a6⟩ := h
  unfold qI
  rw [a1, a2, qz_lt, qz_lt, qz_lt, qz_lt, qz_n0, qz_n200, nI_toInt (by omega), nI_toInt (by omega)]
  omega
theorem RmP.sy {n : Nat} {sg : Nat → Nat} {g : qz_G} {p : Nat} (h : RmP n sg g p) : qSy g = if p < n then nI (sg p) else -1 := by
  obtain ⟨a1, a2, a3, a4, a5, a6⟩ := h
  unfold qSy
  by_cases c : p < n
  · rw [if_pos c, if_pos (by rw [a1, a2, nI_leI (by omega) (by omega)]; omega), a1, nI_clamp (by omega)]
    exact (a5 p c).1
  · rw [if_neg c, if_neg (by rw [a1, a2, nI_leI (by omega) (by omega)]; omega)]
theorem RmP.lt {n : Nat} {sg : Nat → Nat} {g : qz_G} {p : Nat} (h : RmP n sg g p) (hs : sg p < 999) : p < n := by
  by_cases c : p < n
  · exact c
  · have := h.2.2.2.2.2 p (by omega)
    omega
theorem RmP.is {n : Nat} {sg : Nat → Nat} {g : qz_G} {p : Nat} (h : RmP n sg g p) {c : Int32} {s : Nat} (ec : c = nI s) (hs : s < 256) : qSy g = c ↔ sg p = s := by
  rw [h.sy, ec]
  by_cases q : p < n
  · rw [if_pos q]
    have := (h.2.2.2.2.1 p q).2
    exact ⟨fun e => nI_inj (by omega) (by omega) e, fun e => by rw [e]⟩
  · rw [if_neg q]
    have := h.2.2.2.2.2 p (by omega)
    refine ⟨fun e => ?_, fun e => by omega⟩
    rw [qz_eq, nI_toInt (by omega), qz_m1] at e
    omega
theorem RmP.dig {n : Nat} {sg : Nat → Nat} {g : qz_G} {p : Nat} (h : RmP n sg g p) : qI (qSy g) 48 57 ↔ 48 ≤ sg p ∧ sg p ≤ 57 := by
  rw [h.sy]
  unfold qI
  rw [qz_lt, qz_lt, qz_n48, qz_n57]
  by_cases q : p < n
  · rw [if_pos q]
    have := (h.2.2.2.2.1 p q).2
    rw [nI_toInt (by omega)]
    omega
  · rw [if_neg q, qz_m1, h.2.2.2.2.2 p (by omega)]
    omega
theorem RmP.fy {n : Nat} {sg : Nat → Nat} {g : qz_G} {p : Nat} (h : RmP n sg g p) : qFy (qSy g) = if qFc (sg p) < 8 then nI (qFc (sg p)) else -1 := by
  rw [h.sy]
  by_cases q : p < n
  · rw [if_pos q]
    exact qFy_c _ (h.2.2.2.2.1 p q).2
  · rw [if_neg q, h.2.2.2.2.2 p (by omega)]
    decide
theorem qSu_c : ∀ s, s < 256 → qSu (nI s) = if 2 ≤ qSs s then nI (qSs s) else -1 := by decide +kernel
theorem RmP.su {n : Nat} {sg : Nat → Nat} {g : qz_G} {p : Nat} (h : RmP n sg g p) : qSu (qSy g) = if 2 ≤ qSs (sg p) then nI (qSs (sg p)) else -1 := by
  rw [h.sy]
  by_cases q : p < n
  · rw [if_pos q]
    exact qSu_c _ (h.2.2.2.2.1 p q).2
  · rw [if_neg q, h.2.2.2.2.2 p (by omega)]
    decide
theorem qWm_dv {q : qOp} (h1 : q.1 ≤ 14) (h2 : q.2 < 1048576) : qWm q / 1048576 = nI q.1 ∧ qWm q - qWm q / 1048576 * 1048576 = nI q.2 := by
  have hdv := qz_dv (n := 1048576 * q.1 + q.2) (a := 1048576) (by omega) (by omega) (by omega)
  rw [show (1048576 * q.1 + q.2) / 1048576 = q.1 from by omega, show (1048576 * q.1 + q.2) % 1048576 = q.2 from by omega] at hdv
  rw [show (1048576 : Int32) = nI 1048576 from by decide]
  unfold qWm
  exact ⟨hdv.1, hdv.2⟩
theorem RmM.tp0 {n : Nat} {g0 g : qz_G} {p o : Nat} {C : List qOp} (h : RmM n g0 g p o C []) : qTp g = -1 := by
  unfold qTp
  rw [if_pos (show g.1 12 32 = 0 from h.2.2.2.2.1)]
theorem RmM.tp {n : Nat} {g0 g : qz_G} {p o : Nat} {C W : List qOp} {q : qOp} (h : RmM n g0 g p o C (q :: W)) (hl : W.length < 220) (h1 : q.1 ≤ 14) (h2 : q.2 < 1048576) : qTp g = nI q.1 := by
  have e := h.2.2.2.2.1
  rw [List.length_cons] at e
  unfold qTp
  rw [if_neg (by rw [e, qz_eq, nI_toInt (by omega), qz_n0]; omega), e, nI_pred, nI_clamp (show W.length < 2147483648 by omega), h.2.2.2.2.2.2.1.1, (qWm_dv h1 h2).1]
