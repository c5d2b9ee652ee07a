/-! the reference: clauses -/
def qCa (cl : List qCl) (j : Nat) : qCl := (cl[j]?).getD (0, 0, 0, 0, 0)
theorem qCa_l {cl t : List qCl} {j : Nat} (h : j < cl.length) : qCa (cl ++ t) j = qCa cl j := by
  unfold qCa
  rw [List.getElem?_append_left h]
theorem qCa_e {cl : List qCl} {q : qCl} : qCa (cl ++ [q]) cl.length = q := by
  unfold qCa
  rw [List.getElem?_append_right (Nat.le_refl _), Nat.sub_self]
  rfl
theorem qLx_c : ∀ s, s < 256 → qLx (nI s) = if qLq s < 10 then nI (qLq s) else -1 := by decide +kernel
theorem qLq_l : ∀ s, s < 256 → qLq s < 10 → nI s = qz_letters (qLq s) := by decide +kernel
theorem qLq_le (s : Nat) : qLq s ≤ 10 := by
  unfold qLq
  repeat' split
  all_goals omega
def qMoL (c : Int32) : Int32 := if c = 115 then 11 else if c = 112 then 3 else if c = 119 then 100 else if c = 120 then 19 else 999999
theorem qMoL_c : ∀ s, s < 256 → qLq s < 10 → qMoL (nI s) = nI (qLm (qLq s)) := by decide +kernel
theorem c_mostOf {X : qz_X} {d : Nat} {Q : qz_Q} (g : qz_G) (v0 : Int32) (h : Q g (qMoL v0) 0) : qz_Call X (d + 1) 234 [.int v0] g Q := by
  unfold qMoL at h
  refine v_X12_mostOf g v0 ⟨fun a1 => ⟨fun a2 => ⟨fun a3 => ⟨fun a4 => ?_, fun a4 => ?_⟩, fun a3 => ?_⟩, fun a2 => ?_⟩, fun a1 => ?_⟩
  · rw [if_neg a1, if_neg a2, if_neg a3, if_neg a4] at h; exact h
  · subst a4; exact h
  · subst a3; exact h
  · subst a2; exact h
  · subst a1; exact h
theorem c_isLetter {X : qz_X} {d : Nat} {Q : qz_Q} (g : qz_G) (v0 : Int32) (h1 : ¬ qLx v0 = -1 → Q g 1 0) (h2 : qLx v0 = -1 → Q g 0 0) : qz_Call X (d + 1) 233 [.int v0] g Q := by
  have y : ∀ c : Int32, ¬ qLx c = -1 → v0 = c → Q g 1 0 := fun c hc e => h1 (by rw [e]; exact hc)
  refine v_X12_isLetter g v0 ⟨y 115 (by decide), fun a1 => ⟨y 97 (by decide), fun a2 => ⟨y 108 (by decide), fun a3 => ⟨y 116 (by decide), fun a4 => ⟨y 117 (by decide), fun a5 => ⟨y 102 (by decide), fun a6 => ⟨y 112 (by decide), fun a7 => ⟨y 119 (by decide), fun a8 => ⟨y 101 (by decide), fun a9 => ⟨fun a10 => h2 ?_, y 120 (by decide)⟩⟩⟩⟩⟩⟩⟩⟩⟩⟩
  unfold qLx
  rw [if_neg a2, if_neg a3, if_neg a4, if_neg a5, if_neg a6, if_neg a8, if_neg a9, if_neg a1, if_neg a7, if_neg a10]
theorem RmP.lx {n : Nat} {sg : Nat → Nat} {g : qz_G} {p : Nat} (h : RmP n sg g p) : qLx (qSy g) = -1 ↔ ¬ qLq (sg p) < 10 := by
  rw [h.sy]
  by_cases q : p < n
  · rw [if_pos q, qLx_c _ (h.2.2.2.2.1 p q).2]
    by_cases c : qLq (sg p) < 10
    · rw [if_pos c, qz_eq, nI_toInt (by omega), qz_m1]
      omega
    · rw [if_neg c]
      exact ⟨fun _ => c, fun _ => rfl⟩
  · rw [if_neg q, h.2.2.2.2.2 p (by omega)]
    decide
def RcF (g0 g : qz_G) : Prop := g.2 = g0.2 ∧ ∀ r k : Nat, ¬ (r = 12 ∧ (k = 26 ∨ k = 28 ∨ k = 29 ∨ k = 30 ∨ k = 31 ∨ k = 32 ∨ k = 33)) → ¬ (100 ≤ r ∧ r ≤ 106) → g.1 r k = g0.1 r k
theorem RcF.rf (g : qz_G) : RcF g g := ⟨rfl, fun _ _ _ _ => rfl⟩
theorem RcF.tr {a b c : qz_G} (h1 : RcF a b) (h2 : RcF b c) : RcF a c := ⟨h2.1.trans h1.1, fun r k n1 n2 => (h2.2 r k n1 n2).trans (h1.2 r k n1 n2)⟩
theorem RcF.u12 {g0 g : qz_G} (h : RcF g0 g) {k : Nat} (hk : k = 26 ∨ k = 28 ∨ k = 29 ∨ k = 30 ∨ k = 31 ∨ k = 32 ∨ k = 33) (v : Int32) : RcF g0 (qz_ui g 12 k v) := ⟨h.1, fun r j n1 n2 => by rw [ui_n (fun z => n1 ⟨z.1, by rw [z.2]; exact hk⟩)]; exact h.2 r j n1 n2⟩
theorem RcF.ur {g0 g : qz_G} (h : RcF g0 g) {r0 : Nat} (hr : 100 ≤ r0 ∧ r0 ≤ 106) (k : Nat) (v : Int32) : RcF g0 (qz_ui g r0 k v) := ⟨h.1, fun r j n1 n2 => by rw [ui_n (fun z => n2 (by rw [z.1]; exact hr))]; exact h.2 r j n1 n2⟩
theorem RcF.ofM {g0 g : qz_G} (h : RmF g0 g) : RcF g0 g := ⟨h.1, fun r k n1 n2 => h.2 r k (by omega) (by omega) (by omega)⟩
theorem RcF.ofN {g0 g : qz_G} (h : NmF g0 g) : RcF g0 g := ⟨h.1, fun r k n1 n2 => h.2 r k (by omega)⟩
theorem RcF.B {n : Nat} {sg : Nat → Nat} {g0 g : qz_G} (h : RcF g0 g) (hb : RmB n sg g0) : RmB n sg g := ⟨hb.1, by rw [h.2 12 27 (by omega) (by omega)]; exact hb.2.1, fun k hk => by rw [h.2 99 k (by omega) (by omega)]; exact hb.2.2.1 k hk, hb.2.2.2⟩
def RcS (n : Nat) (g0 g : qz_G) (i p : Nat) (C : List qOp) (cl : List qCl) : Prop := RcF g0 g ∧ g.1 12 26 = nI p ∧ g.1 12 31 = nI C.length ∧ g.1 12 33 = nI i ∧ (∀ k, k < C.length → g.1 100 k = qWm (qOa C k)) ∧ p ≤ n ∧ C.length ≤ p ∧ cl.length = i ∧ i ≤ 12 ∧ ∀ j, j < i → g.1 102 j = qz_letters (qCa cl j).1 ∧ g.1 105 j = nI (qCa cl j).2.1 ∧ g.1 106 j = nI (qCa cl j).2.2.1 ∧ g.1 103 j = nI (qCa cl j).2.2.2.1 ∧ g.1 104 j = nI (qCa cl j).2.2.2.2
def RcX (g0 g : qz_G) (kd at_ : Nat) : Prop := RcF g0 g ∧ g.1 12 28 = qFv kd at_
theorem RcS_step {n : Nat} {g0 g g' : qz_G} {i p : Nat} {C : List qOp} {cl : List qCl} (h : RcS n g0 g i p C cl) (hi : i < 12) (hf : RcF g0 g') {q : Nat} {C' : List qOp} {k v1 v2 a b : Nat} (e26 : g'.1 12 26 = nI q) (e31 : g'.1 12 31 = nI C'.length) (e33 : g'.1 12 33 = nI (i + 1)) (e100 : ∀ k, k < C'.length → g'.1 100 k = qWm (qOa C' k)) (hq : q ≤ n) (hC : C'.length ≤ q) (r2 : g'.1 102 i = qz_letters k) (r5 : g'.1 105 i = nI v1) (r6 : g'.1 106 i = nI v2) (r3 : g'.1 103 i = nI a) (r4 : g'.1 104 i = nI b) (old : ∀ r j, 102 ≤ r → r ≤ 106 → ¬ j = i → g'.1 r j = g.1 r j) : RcS n g0 g' (i + 1) q C' (cl ++ [(k, v1, v2, a, b)]) := by
  obtain ⟨_, _, _, _, _, _, _, hl, _, hr⟩ := h
  refine ⟨hf, e26, e31, e33, e100, hq, hC, by rw [List.length_append, hl]; rfl, by omega, fun j hj => ?_⟩
  by_cases c : j = i
  · subst c
    have e : qCa (cl ++ [(k, v1, v2, a, b)]) j = (k, v1, v2, a, b) := by rw [← hl]; exact qCa_e
    rw [e]
    exact ⟨r2, r5, r6, r3, r4⟩
  · rw [qCa_l (by omega), old 102 j (by omega) (by omega) c, old 105 j (by omega) (by omega) c, old 106 j (by omega) (by omega) c, old 103 j (by omega) (by omega) c, old 104 j (by omega) (by omega) c]
    exact hr j (by omega)
