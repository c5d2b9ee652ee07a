/-! loops over a work's shares -/
def qSh (many who : Nat → Int32) (w o : Int32) : Prop := ∃ i : Nat, (i : Int) < (many w.toNatClampNeg).toInt ∧ who (4 * w.toNatClampNeg + i) = o
def qPa (part : Nat → Int32) (w : Int32) : Nat → Int32
  | 0 => 0
  | n + 1 => qPa part w n + part (4 * w.toNatClampNeg + n)
theorem qz_nI {n : Nat} (h : n < 2147483648) : (nI n).toInt = n := nI_toInt h
theorem c_X10_isSharedBy {X : qz_X} {d : Nat} {Q : qz_Q} (g : qz_G) (v1 v2 : Int32) (h : (qR v1 (g.1 3 12)) ∧ (qI (g.1 3 12) 0 80) ∧ (qI (g.1 29 v1.toNatClampNeg) 0 4) ∧ (qSh (g.1 29) (g.1 30) v1 v2 → Q g 1 0) ∧ (¬ (qSh (g.1 29) (g.1 30) v1 v2) → Q g 0 0)) : qz_Call X (d + 3) 140 [.ref 3, .int v1, .int v2] g Q := by
  obtain ⟨hw, hn, hm, ht, hf⟩ := h
  have key : ∀ (n i : Nat), (g.1 29 v1.toNatClampNeg).toInt + 1 ≤ n + i → (i : Int) ≤ (g.1 29 v1.toNatClampNeg).toInt → (∀ j : Nat, j < i → ¬ g.1 30 (4 * v1.toNatClampNeg + j) = v2) → qz_WP X (d + 3) 140 Q 2 [(0, .ref 3), (1, .int v1), (2, .int v2), (3, .int (nI i))] [] g := by
    intro n
    have hm' := hm
    simp only [qI, qz_lt, qz_n0, qz_n4] at hm'
    induction n with
    | zero => intro i h1 h2; omega
    | succ n ih =>
      intro i h1 h2 h3
      have ei := qz_nI (n := i) (by omega)
      refine v_X10_isSharedBy_2 g v1 v2 (nI i) ⟨hw, hn, fun c => ?_, fun c => ?_⟩
      · refine hf (fun ⟨j, hj, e⟩ => h3 j ?_ e)
        simp only [qz_le, ei] at c
        omega
      · have hi : qR (nI i) (g.1 29 v1.toNatClampNeg) := ⟨by simp only [qz_lt, ei, qz_n0]; omega, c⟩
        obtain ⟨x1, -, -⟩ := qz_ix4R hw hn hi hm
        have x2 : (nI i).toNatClampNeg = i := nI_clamp (by omega)
        rw [x2] at x1
        refine ⟨hw, hn, hm, fun _ => ⟨fun e => ?_, fun e => ?_⟩, fun z => absurd hi z⟩
        · rw [nI_1]
          simp only [qz_le, ei] at c
          refine ih (i + 1) (by omega) (by omega) (fun j hj => ?_)
          by_cases hji : j = i
          · subst hji; rw [← x1]; exact e
          · exact h3 j (by omega)
        · rw [x1] at e
          simp only [qz_le, ei] at c
          exact ht ⟨i, by omega, e⟩
  refine v_X10_isSharedBy g v1 v2 ?_
  have hm' := hm
  simp only [qI, qz_lt, qz_n0, qz_n4] at hm'
  exact key ((g.1 29 v1.toNatClampNeg).toInt.toNat + 1) 0 (by omega) (by omega) (fun j hj => by omega)
theorem c_X12_hasShare {X : qz_X} {d : Nat} {Q : qz_Q} (g : qz_G) (v1 v2 : Int32) (h : (qR v1 (g.1 12 2)) ∧ (qI (g.1 12 2) 0 80) ∧ (qI (g.1 96 v1.toNatClampNeg) 0 4) ∧ (qSh (g.1 96) (g.1 97) v1 v2 → Q g 1 0) ∧ (¬ (qSh (g.1 96) (g.1 97) v1 v2) → Q g 0 0)) : qz_Call X (d + 1) 254 [.ref 12, .int v1, .int v2] g Q := by
  obtain ⟨hw, hn, hm, ht, hf⟩ := h
  have key : ∀ (n i : Nat), (g.1 96 v1.toNatClampNeg).toInt + 1 ≤ n + i → (i : Int) ≤ (g.1 96 v1.toNatClampNeg).toInt → (∀ j : Nat, j < i → ¬ g.1 97 (4 * v1.toNatClampNeg + j) = v2) → qz_WP X (d + 1) 254 Q 2 [(0, .ref 12), (1, .int v1), (2, .int v2), (3, .int (nI i))] [] g := by
    intro n
    have hm' := hm
    simp only [qI, qz_lt, qz_n0, qz_n4] at hm'
    induction n with
    | zero => intro i h1 h2; omega
    | succ n ih =>
      intro i h1 h2 h3
      have ei := qz_nI (n := i) (by omega)
      refine v_X12_hasShare_2 g v1 v2 (nI i) ⟨qz_in80 hw hn, fun c => ?_, fun c => ?_⟩
      · refine hf (fun ⟨j, hj, e⟩ => h3 j ?_ e)
        simp only [qz_le, ei] at c
        omega
      · have hi : qR (nI i) (g.1 96 v1.toNatClampNeg) := ⟨by simp only [qz_lt, ei, qz_n0]; omega, c⟩
        obtain ⟨x1, x3, x4⟩ := qz_ix4R hw hn hi hm
        have x2 : (nI i).toNatClampNeg = i := nI_clamp (by omega)
        rw [x2, x4] at x1
        rw [x4] at x3
        refine ⟨x3, fun e => ?_, fun e => ?_⟩
        · rw [nI_1]
          simp only [qz_le, ei] at c
          refine ih (i + 1) (by omega) (by omega) (fun j hj => ?_)
          by_cases hji : j = i
          · subst hji; rw [← x1]; exact e
          · exact h3 j (by omega)
        · rw [x1] at e
          simp only [qz_le, ei] at c
          exact ht ⟨i, by omega, e⟩
  refine v_X12_hasShare g v1 v2 ?_
  have hm' := hm
  simp only [qI, qz_lt, qz_n0, qz_n4] at hm'
  exact key ((g.1 96 v1.toNatClampNeg).toInt.toNat + 1) 0 (by omega) (by omega) (fun j hj => by omega)
theorem c_X10_partsOf {X : qz_X} {d : Nat} {Q : qz_Q} (g : qz_G) (v1 : Int32) (h : (qR v1 (g.1 3 12)) ∧ (qI (g.1 3 12) 0 80) ∧ (qI (g.1 29 v1.toNatClampNeg) 0 4) ∧ Q g (qPa (g.1 31) v1 (g.1 29 v1.toNatClampNeg).toNatClampNeg) 0) : qz_Call X (d + 3) 142 [.ref 3, .int v1] g Q := by
  obtain ⟨hw, hn, hm, hq⟩ := h
  have key : ∀ (n i : Nat), (g.1 29 v1.toNatClampNeg).toInt + 1 ≤ n + i → (i : Int) ≤ (g.1 29 v1.toNatClampNeg).toInt → qz_WP X (d + 3) 142 Q 4 [(0, .ref 3), (1, .int v1), (2, .int (qPa (g.1 31) v1 i)), (3, .int (nI i))] [] g := by
    intro n
    have hm' := hm
    simp only [qI, qz_lt, qz_n0, qz_n4] at hm'
    induction n with
    | zero => intro i h1 h2; omega
    | succ n ih =>
      intro i h1 h2
      have ei := qz_nI (n := i) (by omega)
      have em := qz_cl (g.1 29 v1.toNatClampNeg)
      refine v_X10_partsOf_4 g v1 _ (nI i) ⟨hw, hn, fun c => ?_, fun c => ?_⟩
      · simp only [qz_le, ei] at c
        have e : i = (g.1 29 v1.toNatClampNeg).toNatClampNeg := by omega
        rw [e]
        exact hq
      · have hi : qR (nI i) (g.1 29 v1.toNatClampNeg) := ⟨by simp only [qz_lt, ei, qz_n0]; omega, c⟩
        obtain ⟨x1, -, -⟩ := qz_ix4R hw hn hi hm
        have x2 : (nI i).toNatClampNeg = i := nI_clamp (by omega)
        rw [x2] at x1
        refine ⟨hw, hn, hm, fun _ => ?_, fun z => absurd hi z⟩
        rw [nI_1, x1]
        simp only [qz_le, ei] at c
        exact ih (i + 1) (by omega) (by omega)
  refine v_X10_partsOf g v1 ?_
  have hm' := hm
  simp only [qI, qz_lt, qz_n0, qz_n4] at hm'
  exact key ((g.1 29 v1.toNatClampNeg).toInt.toNat + 1) 0 (by omega) (by omega)
