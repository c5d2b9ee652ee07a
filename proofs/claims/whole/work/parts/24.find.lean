/-! loops that seek -/
def qEx (n : Int32) (P : Nat → Prop) : Prop := ∃ i : Nat, (i : Int) < n.toInt ∧ P i
theorem qz_srch {W : Int32 → Prop} {n : Int32} {B : Nat} {P : Nat → Prop} {T F : Prop} (hn0 : 0 ≤ n.toInt) (hnB : n.toInt ≤ B) (hB : B < 2000000000)
    (hs : ∀ v : Int32, (n ≤ v → F) → (¬ n ≤ v → vp_in v B) → (¬ n ≤ v → P v.toNatClampNeg → T) → (¬ n ≤ v → ¬ P v.toNatClampNeg → W (v + 1)) → W v) (ht : qEx n P → T) (hf : ¬ qEx n P → F) : W 0 := by
  have key : ∀ (m i : Nat), n.toInt + 1 ≤ m + i → (i : Int) ≤ n.toInt → (∀ j : Nat, j < i → ¬ P j) → W (nI i) := by
    intro m
    induction m with
    | zero => intro i h1 h2; omega
    | succ m ih =>
      intro i h1 h2 h3
      have ei := qz_nI (n := i) (by omega)
      have x2 : (nI i).toNatClampNeg = i := nI_clamp (by omega)
      refine hs (nI i) (fun c => ?_) (fun c => ?_) (fun c hp => ?_) (fun c hp => ?_)
      · simp only [qz_le, ei] at c
        exact hf (fun ⟨j, hj, e⟩ => h3 j (by omega) e)
      · simp only [qz_le, ei] at c
        exact qz_vi (by omega) (by omega)
      · simp only [qz_le, ei] at c
        rw [x2] at hp
        exact ht ⟨i, by omega, hp⟩
      · simp only [qz_le, ei] at c
        rw [x2] at hp
        rw [nI_1]
        refine ih (i + 1) (by omega) (by omega) (fun j hj => ?_)
        by_cases hji : j = i
        · rw [hji]; exact hp
        · exact h3 j (by omega)
  exact key (n.toInt.toNat + 1) 0 (by omega) (by omega) (fun j hj => by omega)
theorem qI_0 {n B : Int32} {b : Int} (h : qI n 0 B) (hB : B.toInt = b) : 0 ≤ n.toInt ∧ n.toInt ≤ b := by
  simp only [qI, qz_lt, qz_n0] at h
  omega
theorem c_X9_hasAgreed {X : qz_X} {d : Nat} {Q : qz_Q} (g : qz_G) (v1 v2 v3 : Int32) (h : (qI (g.1 4 15) 0 200) ∧ (qEx (g.1 4 15) (fun k => g.1 43 k = v1 ∧ g.1 44 k = v2 ∧ ¬ v3 < g.1 45 k) → Q g 1 0) ∧ (¬ (qEx (g.1 4 15) (fun k => g.1 43 k = v1 ∧ g.1 44 k = v2 ∧ ¬ v3 < g.1 45 k)) → Q g 0 0)) : qz_Call X (d + 1) 122 [.ref 4, .int v1, .int v2, .int v3] g Q :=
  v_X9_hasAgreed g v1 v2 v3 (qz_srch (W := fun v => qz_WP X (d + 1) 122 Q 3 [(0, .ref 4), (1, .int v1), (2, .int v2), (3, .int v3), (4, .int v)] [] g) (B := 200) (qI_0 h.1 qz_n200).1 (qI_0 h.1 qz_n200).2 (by decide)
    (fun v hF hin hT hW => v_X9_hasAgreed_3 g v1 v2 v3 v ⟨hF, fun c => ⟨hin c, fun a => hW c (fun z => a z.1), fun a => ⟨fun b => hW c (fun z => b z.2.1), fun b => ⟨fun e => hW c (fun z => z.2.2 e), fun e => hT c ⟨a, b, e⟩⟩⟩⟩⟩) h.2.1 h.2.2)
theorem c_X12_hasAgreed {X : qz_X} {d : Nat} {Q : qz_Q} (g : qz_G) (v1 v2 v3 : Int32) (h : (qI (g.1 12 71) 0 200) ∧ (qEx (g.1 12 71) (fun k => g.1 131 k = v1 ∧ g.1 132 k = v2 ∧ ¬ v3 < g.1 133 k) → Q g 1 0) ∧ (¬ (qEx (g.1 12 71) (fun k => g.1 131 k = v1 ∧ g.1 132 k = v2 ∧ ¬ v3 < g.1 133 k)) → Q g 0 0)) : qz_Call X (d + 1) 268 [.ref 12, .int v1, .int v2, .int v3] g Q :=
  v_X12_hasAgreed g v1 v2 v3 (qz_srch (W := fun v => qz_WP X (d + 1) 268 Q 3 [(0, .ref 12), (1, .int v1), (2, .int v2), (3, .int v3), (4, .int v)] [] g) (B := 200) (qI_0 h.1 qz_n200).1 (qI_0 h.1 qz_n200).2 (by decide)
    (fun v hF hin hT hW => v_X12_hasAgreed_3 g v1 v2 v3 v ⟨hF, fun c => ⟨hin c, fun a => hW c (fun z => a z.1), fun a => ⟨fun b => hW c (fun z => b z.2.1), fun b => ⟨fun e => hW c (fun z => z.2.2 e), fun e => hT c ⟨a, b, e⟩⟩⟩⟩⟩) h.2.1 h.2.2)
theorem c_X9_hasAnswered {X : qz_X} {d : Nat} {Q : qz_Q} (g : qz_G) (v1 v2 : Int32) (h : (qI (g.1 4 14) 0 200) ∧ (qEx (g.1 4 14) (fun k => g.1 39 k = v1 ∧ ¬ g.1 42 k = -1 ∧ ¬ v2 < g.1 42 k) → Q g 1 0) ∧ (¬ (qEx (g.1 4 14) (fun k => g.1 39 k = v1 ∧ ¬ g.1 42 k = -1 ∧ ¬ v2 < g.1 42 k)) → Q g 0 0)) : qz_Call X (d + 1) 124 [.ref 4, .int v1, .int v2] g Q :=
  v_X9_hasAnswered g v1 v2 (qz_srch (W := fun v => qz_WP X (d + 1) 124 Q 2 [(0, .ref 4), (1, .int v1), (2, .int v2), (3, .int v)] [] g) (B := 200) (qI_0 h.1 qz_n200).1 (qI_0 h.1 qz_n200).2 (by decide)
    (fun v hF hin hT hW => v_X9_hasAnswered_2 g v1 v2 v ⟨hF, fun c => ⟨hin c, fun a => hW c (fun z => a z.1), fun a => ⟨fun b => hW c (fun z => z.2.1 b), fun b => ⟨fun e => hW c (fun z => z.2.2 e), fun e => hT c ⟨a, b, e⟩⟩⟩⟩⟩) h.2.1 h.2.2)
theorem c_X9_isSeen {X : qz_X} {d : Nat} {Q : qz_Q} (g : qz_G) (v1 v2 v3 : Int32) (h : (qI (g.1 4 13) 0 300) ∧ (qEx (g.1 4 13) (fun k => g.1 37 k = v1 ∧ ¬ v2 < g.1 36 k ∧ ¬ v3 < g.1 38 k) → Q g 1 0) ∧ (¬ (qEx (g.1 4 13) (fun k => g.1 37 k = v1 ∧ ¬ v2 < g.1 36 k ∧ ¬ v3 < g.1 38 k)) → Q g 0 0)) : qz_Call X (d + 1) 125 [.ref 4, .int v1, .int v2, .int v3] g Q :=
  v_X9_isSeen g v1 v2 v3 (qz_srch (W := fun v => qz_WP X (d + 1) 125 Q 3 [(0, .ref 4), (1, .int v1), (2, .int v2), (3, .int v3), (4, .int v)] [] g) (B := 300) (qI_0 h.1 qz_n300).1 (qI_0 h.1 qz_n300).2 (by decide)
    (fun v hF hin hT hW => v_X9_isSeen_3 g v1 v2 v3 v ⟨hF, fun c => ⟨hin c, fun a => hW c (fun z => a z.1), fun a => ⟨fun b => hW c (fun z => z.2.1 b), fun b => ⟨fun e => hW c (fun z => z.2.2 e), fun e => hT c ⟨a, b, e⟩⟩⟩⟩⟩) h.2.1 h.2.2)
/-- FOUND -/
def qFd (came : Nat → Int32) (looks : Int32) (who day told : Nat → Int32) (letters : Int32) (lwho ans : Nat → Int32) (o d t : Int32) : Prop := qBy (came o.toNatClampNeg) d t ∨ qEx looks (fun k => who k = o ∧ ¬ d < day k ∧ ¬ t < told k) ∨ qEx letters (fun k => lwho k = o ∧ qBy (ans k) d t)
theorem qz_in40' {v : Int32} (h : qR v 40) : vp_in v 40 := qz_in40 h ⟨by decide, by decide⟩
theorem c_X12_isFound {X : qz_X} {d : Nat} {Q : qz_Q} (g : qz_G) (v1 v2 v3 : Int32) (h : (qR v1 40) ∧ (qI (g.1 12 55) 0 300) ∧ (qI (g.1 12 56) 0 200) ∧ (qFd (g.1 84) (g.1 12 55) (g.1 125) (g.1 124) (g.1 126) (g.1 12 56) (g.1 127) (g.1 130) v1 v2 v3 → Q g 1 0) ∧ (¬ (qFd (g.1 84) (g.1 12 55) (g.1 125) (g.1 124) (g.1 126) (g.1 12 56) (g.1 127) (g.1 130) v1 v2 v3) → Q g 0 0)) : qz_Call X (d + 2) 259 [.ref 12, .int v1, .int v2, .int v3] g Q := by
  obtain ⟨h1, h2, h3, ht, hf⟩ := h
  refine v_X12_isFound g v1 v2 v3 ⟨qz_in40' h1, fun a => ht (Or.inl a), fun a => ?_⟩
  refine qz_srch (W := fun v => qz_WP X (d + 2) 259 Q 19 [(0, .ref 12), (1, .int v1), (2, .int v2), (3, .int v3), (4, .int v)] [] g) (B := 300) (qI_0 h2 qz_n300).1 (qI_0 h2 qz_n300).2 (by decide) (P := fun k => g.1 125 k = v1 ∧ ¬ v2 < g.1 124 k ∧ ¬ v3 < g.1 126 k)
    (fun v hF hin hT hW => v_X12_isFound_19 g v1 v2 v3 v ⟨hF, fun c => ⟨hin c, fun a => hW c (fun z => a z.1), fun a => ⟨fun b => hW c (fun z => z.2.1 b), fun b => ⟨fun e => hW c (fun z => z.2.2 e), fun e => hT c ⟨a, b, e⟩⟩⟩⟩⟩) (fun z => ht (Or.inr (Or.inl z))) (fun b => ?_)
  exact qz_srch (W := fun v => qz_WP X (d + 2) 259 Q 72 [(0, .ref 12), (1, .int v1), (2, .int v2), (3, .int v3), (4, .int v)] [] g) (B := 200) (qI_0 h3 qz_n200).1 (qI_0 h3 qz_n200).2 (by decide) (P := fun k => g.1 127 k = v1 ∧ qBy (g.1 130 k) v2 v3)
    (fun v hF hin hT hW => v_X12_isFound_72 g v1 v2 v3 v ⟨hF, fun c => ⟨hin c, fun a => hW c (fun z => a z.1), fun a => ⟨fun b => hT c ⟨a, b⟩, fun b => hW c (fun z => b z.2)⟩⟩⟩) (fun z => ht (Or.inr (Or.inr z))) (fun e => hf (fun z => z.elim a (fun z => z.elim b e)))
