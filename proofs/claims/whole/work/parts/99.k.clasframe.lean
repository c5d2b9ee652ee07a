/-! the class: what a clause and a law change -/
def RlF (L : Nat) (g0 g : qz_G) : Prop := (g.2 = g0.2 ∧ (qz_bit (g0.1 7 12) → qz_bit (g.1 7 12))) ∧ ∀ r k : Nat, ¬ (r = 7 ∧ (k = 3 ∨ k = 5 ∨ k = 7 ∨ k = 8 ∨ k = 9 ∨ k = 10 ∨ k = 11 ∨ k = 12)) → ¬ (r = 59 ∧ 200 * L ≤ k) → ¬ (52 ≤ r ∧ r ≤ 56 ∧ 12 * L ≤ k) → g.1 r k = g0.1 r k
theorem RlF.rf (L : Nat) (g : qz_G) : RlF L g g := ⟨⟨rfl, id⟩, fun _ _ _ _ _ => rfl⟩
theorem RlF.tr {L : Nat} {a b c : qz_G} (h1 : RlF L a b) (h2 : RlF L b c) : RlF L a c := ⟨⟨h2.1.1.trans h1.1.1, fun w => h2.1.2 (h1.1.2 w)⟩, fun r k n1 n2 n3 => (h2.2 r k n1 n2 n3).trans (h1.2 r k n1 n2 n3)⟩
theorem RlF.ofD {L : Nat} {g0 g : qz_G} (h : RdF L g0 g) : RlF L g0 g := ⟨h.1, fun r k n1 n2 n3 => h.2 r k (by omega) n2⟩
theorem RlF.u7 {L : Nat} {g0 g : qz_G} (h : RlF L g0 g) {k : Nat} (hk : k = 3 ∨ k = 5 ∨ k = 7 ∨ k = 8 ∨ k = 9 ∨ k = 10 ∨ k = 11) (v : Int32) : RlF L g0 (qz_ui g 7 k v) := ⟨⟨h.1.1, by rw [ui_n (by omega)]; exact h.1.2⟩, fun r j n1 n2 n3 => by rw [ui_n (fun z => n1 ⟨z.1, by omega⟩)]; exact h.2 r j n1 n2 n3⟩
theorem RlF.ur {L : Nat} {g0 g : qz_G} (h : RlF L g0 g) {r0 k : Nat} (hr : 52 ≤ r0 ∧ r0 ≤ 56) (hk : 12 * L ≤ k) (v : Int32) : RlF L g0 (qz_ui g r0 k v) := ⟨⟨h.1.1, by rw [ui_n (by omega)]; exact h.1.2⟩, fun r j n1 n2 n3 => by rw [ui_n (fun z => n3 ⟨by omega, by omega, by omega⟩)]; exact h.2 r j n1 n2 n3⟩
theorem RlF.B {L n : Nat} {g0 g : qz_G} (h : RlF L g0 g) (hb : RdB L n g0) : RdB L n g := by
  obtain ⟨a1, a2, a3, a4, a5, a6⟩ := hb
  refine ⟨a1, a2, ?_, ?_, ?_, fun k hk => ?_⟩
  · rw [h.2 7 6 (by omega) (by omega) (by omega)]; exact a3
  · rw [h.2 1 1 (by omega) (by omega) (by omega)]; exact a4
  · rw [h.2 1 1 (by omega) (by omega) (by omega)]; exact a5
  · rw [h.2 13 k (by omega) (by omega) (by omega)]; exact a6 k hk
theorem RlF.sn {L : Nat} {g0 g : qz_G} (h : RlF L g0 g) (n : Nat) : qSn g n = qSn g0 n := by
  funext k
  unfold qSn
  rw [h.2 13 k (by omega) (by omega) (by omega)]
/-- the same state over another base -/
theorem RdA.re {L n : Nat} {g0 g g' : qz_G} {p o : Nat} {C : List qOp} (h : RdA L n g0 g p o C) (e : ∀ r k : Nat, ¬ (r = 7 ∧ (k = 9 ∨ k = 10 ∨ k = 11 ∨ k = 12)) → ¬ (52 ≤ r ∧ r ≤ 56) → g'.1 r k = g.1 r k) : RdA L n g' g' p o C := by
  obtain ⟨hf, a1, a2, a3, a4, a5, a6, a7, a8⟩ := h
  refine ⟨RdF.rf L g', ?_, ?_, ?_, ?_, ?_, a6, a7, a8⟩
  · rw [e 7 8 (by omega) (by omega)]; exact a1
  · rw [e 7 5 (by omega) (by omega)]; exact a2
  · rw [e 7 7 (by omega) (by omega)]; exact a3
  · rw [e 7 3 (by omega) (by omega)]; exact a4
  · intro k hk
    rw [e 59 (200 * L + k) (by omega) (by omega)]; exact a5 k hk
theorem RdD.re {L : Nat} {g0 g g' : qz_G} {kd at_ : Nat} (h : RdD L g0 g kd at_) (e : ∀ r k : Nat, ¬ (r = 7 ∧ (k = 9 ∨ k = 10 ∨ k = 11 ∨ k = 12)) → ¬ (52 ≤ r ∧ r ≤ 56) → g'.1 r k = g.1 r k) : RdD L g' g' kd at_ := by
  obtain ⟨hf, a1, a2, a3, a4⟩ := h
  refine ⟨RdF.rf L g', ?_, ?_, ?_, ?_⟩
  · rw [e 7 8 (by omega) (by omega)]; exact a1
  · rw [e 7 8 (by omega) (by omega)]; exact a2
  · rw [e 7 3 (by omega) (by omega)]; exact a3
  · rw [e 7 3 (by omega) (by omega)]; exact a4
