theorem c_X10_areAlike {X : qz_X} {d : Nat} {Q : qz_Q} (g : qz_G) (v1 v2 v3 : Int32) (h : (qR v1 (g.1 3 12)) ∧ (qR v2 (g.1 3 12)) ∧ (qI (g.1 3 12) 0 80) ∧ (qI (g.1 26 v1.toNatClampNeg) 0 255) ∧ (qI (g.1 26 v2.toNatClampNeg) 0 255) ∧ (qLk (g.1 22) (g.1 26) (g.1 24) (g.1 25) v1 v2 v3 → Q g 1 0) ∧ (¬ (qLk (g.1 22) (g.1 26) (g.1 24) (g.1 25) v1 v2 v3) → Q g 0 0)) : qz_Call X (d + 2) 143 [.ref 3, .int v1, .int v2, .int v3] g Q := by
  obtain ⟨h1, h2, hn, m1, m2, ht, hf⟩ := h
  exact v_X10_areAlike g v1 v2 v3 ⟨fun _ => ⟨fun _ => ⟨qz_in80 h1 hn, qz_in80 h2 hn, fun a => hf (fun z => a z.1), fun a => ⟨qz_xorI m1 m2, fun b => hf (fun z => z.2.1 b), fun b => ⟨fun c => hf (fun z => z.2.2.1 c), fun c => ⟨fun e => hf (fun z => z.2.2.2 e), fun e => ht ⟨a, b, c, e⟩⟩⟩⟩⟩, fun z => absurd h2 z⟩, fun z => absurd h1 z⟩
theorem c_X10_listed {X : qz_X} {d : Nat} {Q : qz_Q} (g : qz_G) (v1 : Int32) (h : (qI (g.1 3 12) 0 80) ∧ Q g (qCt (fun k => ¬ ((g.1 32 k) >>> (v1 &&& 31)) &&& 1 = 0) (g.1 3 12).toNatClampNeg) 0) : qz_Call X (d + 3) 146 [.ref 3, .int v1] g Q := by
  obtain ⟨hn, hq⟩ := h
  have hm := qI_0 hn qz_n80
  refine v_X10_listed g v1 ?_
  exact qz_cntl (W := fun a v => qz_WP X (d + 3) 146 Q 4 [(0, .ref 3), (1, .int v1), (2, .int a), (3, .int v)] [] g) (n := g.1 3 12) (F := fun a => Q g a 0) hm.1 (by omega)
    (fun a v hF hr hP hN => v_X10_listed_4 g v1 a v ⟨hF, fun c => ⟨fun _ => ⟨qz_in80 (hr c) hn, fun e => hN c (fun z => z e), fun e => hP c e⟩, fun z => absurd (hr c) z⟩⟩) hq
theorem c_X12_listedBy {X : qz_X} {d : Nat} {Q : qz_Q} (g : qz_G) (v1 : Int32) (h : (qI (g.1 12 2) 0 80) ∧ (qR v1 4) ∧ Q g (qCt (fun k => ¬ g.1 146 (80 * v1.toNatClampNeg + k) = 0) (g.1 12 2).toNatClampNeg) 0) : qz_Call X (d + 1) 292 [.ref 12, .int v1] g Q := by
  obtain ⟨hn, hl, hq⟩ := h
  have hm := qI_0 hn qz_n80
  refine v_X12_listedBy g v1 ?_
  refine qz_cntl (W := fun a v => qz_WP X (d + 1) 292 Q 4 [(0, .ref 12), (1, .int v1), (2, .int a), (3, .int v)] [] g) (n := g.1 12 2) (F := fun a => Q g a 0) hm.1 (by omega) (P := fun k => ¬ g.1 146 (80 * v1.toNatClampNeg + k) = 0) (fun a v hF hr hP hN => ?_) hq
  refine v_X12_listedBy_4 g v1 a v ⟨hF, fun c => ?_⟩
  obtain ⟨x1, x2, -, -⟩ := qz_ix80 (hr c) hn hl
  rw [x1]
  refine ⟨x2, fun e => ?_, fun e => hP c e⟩
  rw [Int32.add_zero]
  exact hN c (fun z => z e)
theorem qCt_congr {P P' : Nat → Prop} : ∀ (n : Nat), (∀ k, k < n → (P k ↔ P' k)) → qCt P n = qCt P' n
  | 0, _ => rfl
  | n + 1, h => by
    have h1 := qCt_congr n (fun k hk => h k (by omega))
    by_cases hp : P n
    · rw [qCt_pos hp, qCt_pos ((h n (by omega)).mp hp), h1]
    · rw [qCt_neg hp, qCt_neg (fun z => hp ((h n (by omega)).mpr z)), h1]
