/-! comes -/
theorem qz_uc_self (g : qz_G) (o : Nat) : qz_uc g o (g.1 o) = g := by
  refine Prod.ext ?_ rfl
  funext a b
  show (if a = o then g.1 o b else g.1 a b) = g.1 a b
  by_cases h : a = o
  · rw [if_pos h, h]
  · rw [if_neg h]
theorem qz_ui_uc (g : qz_G) (o : Nat) (f : Nat → Int32) (j : Nat) (v : Int32) : qz_ui (qz_uc g o f) o j v = qz_uc g o (upd f j v) := by
  refine Prod.ext ?_ rfl
  funext a b
  show (if a = o ∧ b = j then v else (if a = o then f b else g.1 a b)) = (if a = o then (if b = j then v else f b) else g.1 a b)
  by_cases h : a = o
  · by_cases h2 : b = j
    · rw [if_pos ⟨h, h2⟩, if_pos h, if_pos h2]
    · rw [if_neg (fun z => h2 z.2), if_pos h, if_pos h, if_neg h2]
  · rw [if_neg (fun z => h z.1), if_neg h, if_neg h]
noncomputable def qCm (P : Nat → Prop) (now : Int32) (f0 : Nat → Int32) : Nat → (Nat → Int32) × Int32
  | 0 => (f0, 0)
  | n + 1 => qIf (P n) (upd (qCm P now f0 n).1 n now, (qCm P now f0 n).2 + 1) (qCm P now f0 n)
theorem qCm_at {P : Nat → Prop} {now : Int32} {f0 : Nat → Int32} : ∀ (n k : Nat), n ≤ k → (qCm P now f0 n).1 k = f0 k
  | 0, k, _ => rfl
  | n + 1, k, h => by
    have ih := qCm_at (P := P) (now := now) (f0 := f0) n k (by omega)
    rw [qCm]
    by_cases hp : P n
    · rw [qIf_pos hp]
      show upd (qCm P now f0 n).1 n now k = _
      rw [qz_u1, if_neg (by omega)]
      exact ih
    · rw [qIf_neg hp]
      exact ih
theorem qCm_or {P : Nat → Prop} {now : Int32} {f0 : Nat → Int32} : ∀ (n k : Nat), (qCm P now f0 n).1 k = f0 k ∨ (qCm P now f0 n).1 k = now
  | 0, k => Or.inl rfl
  | n + 1, k => by
    have ih := qCm_or (P := P) (now := now) (f0 := f0) n k
    rw [qCm]
    by_cases hp : P n
    · rw [qIf_pos hp]
      show upd (qCm P now f0 n).1 n now k = _ ∨ upd (qCm P now f0 n).1 n now k = _
      rw [qz_u1]
      by_cases hk : k = n
      · rw [if_pos hk]; exact Or.inr rfl
      · rw [if_neg hk]; exact ih
    · rw [qIf_neg hp]
      exact ih
theorem c_X3_endFor {X : qz_X} {d : Nat} {Q : qz_Q} (g : qz_G) (v1 v2 : Int32) (P : Nat → Prop) (hn : qI (g.1 10 12) 0 100) (hO : HO (g.1 3 12) (g.1 2 8) (g.1 15) (g.1 29) (g.1 30)) (hw : ∀ k : Nat, (k : Int) < (g.1 10 12).toInt → qR (g.1 68 k) (g.1 3 12))
    (hP : ∀ k : Nat, (k : Int) < (g.1 10 12).toInt → (P k ↔ (g.1 74 k = 0 ∧ (g.1 73 k = -1 ∨ ¬ g.1 73 k ≤ v2) ∧ ¬ (qSm (fun i => qHn (g.1 30) (g.1 15) (g.1 16) (g.1 17) (g.1 68 k) i v2 v2 = v1) (fun i => g.1 31 (4 * (g.1 68 k).toNatClampNeg + i)) (g.1 29 (g.1 68 k).toNatClampNeg).toNatClampNeg) ≤ 0)))
    (hq : Q (qz_uc g 73 (qCm P v2 (g.1 73) (g.1 10 12).toNatClampNeg).1) (qCm P v2 (g.1 73) (g.1 10 12).toNatClampNeg).2 0) : qz_Call X (d + 5) 31 [.ref 10, .int v1, .int v2] g Q := by
  have hm := qI_0 hn qz_n100
  have hc := qz_cl (g.1 10 12)
  refine v_X3_endFor g v1 v2 ?_
  have hgo := qz_for (W := fun (a : (Nat → Int32) × Int32) v => qz_WP X (d + 5) 31 Q 5 [(0, .ref 10), (1, .int v1), (2, .int v2), (3, .int a.2), (4, .int v)] [] (qz_uc g 73 a.1)) (n := g.1 10 12) (fun i a => a = qCm P v2 (g.1 73) i) hm.1 (by omega) (fun i a v hI e1 e2 hi hW => ?_) (g.1 73, 0) rfl
  · rw [qz_uc_self] at hgo
    exact hgo
  have hs : ∀ r : Nat, ¬ r = 73 → (qz_uc g 73 a.1).1 r = g.1 r := fun r hr => by rw [qz_c1, if_neg hr]
  have h73 : (qz_uc g 73 a.1).1 73 = a.1 := by rw [qz_c1, if_pos rfl]
  refine v_X3_endFor_5 (qz_uc g 73 a.1) v1 v2 a.2 v ?_
  rw [h73, hs 10 (by decide), hs 74 (by decide), hs 3 (by decide), hs 2 (by decide), hs 15 (by decide), hs 29 (by decide), hs 30 (by decide), hs 16 (by decide), hs 17 (by decide), hs 31 (by decide), hs 68 (by decide), e2, qz_ui_uc]
  have hai : a.1 i = g.1 73 i := by rw [hI]; exact qCm_at i i (Nat.le_refl i)
  rw [hai]
  refine ⟨fun c => ?_, fun c => ?_⟩
  · rw [qz_le, e1] at c
    rw [show i = (g.1 10 12).toNatClampNeg from by omega] at hI
    rw [hI]
    exact hq
  · have hlt : (i : Int) < (g.1 10 12).toInt := by rw [qz_le, e1] at c; omega
    have hPi := hP i hlt
    have no : ¬ P i → qz_WP X (d + 5) 31 Q 5 [(0, .ref 10), (1, .int v1), (2, .int v2), (3, .int a.2), (4, .int (v + 1))] [] (qz_uc g 73 a.1) := fun z => hW a hlt (by rw [qCm, qIf_neg z]; exact hI)
    have yes : P i → qz_WP X (d + 5) 31 Q 5 [(0, .ref 10), (1, .int v1), (2, .int v2), (3, .int (a.2 + 1)), (4, .int (v + 1))] [] (qz_uc g 73 (upd a.1 i v2)) := fun z => hW (upd a.1 i v2, a.2 + 1) hlt (by rw [qCm, qIf_pos z, hI])
    refine ⟨qz_vi (by omega) (by omega), fun e3 => no (fun z => e3 (hPi.mp z).1), fun e3 => ⟨fun e4 => ⟨hO, hw i hlt, fun e5 => no (fun z => (hPi.mp z).2.2 e5), fun e5 => yes (hPi.mpr ⟨e3, Or.inl e4, e5⟩)⟩, fun e4 => ⟨fun e5 => no (fun z => (hPi.mp z).2.1.elim e4 (fun z => z e5)), fun e5 => ⟨hO, hw i hlt, fun e6 => no (fun z => (hPi.mp z).2.2 e6), fun e6 => yes (hPi.mpr ⟨e3, Or.inr e5, e6⟩)⟩⟩⟩⟩
theorem w_X12_comes {X : qz_X} {d : Nat} {Q : qz_Q} (g : qz_G) (v1 : Int32) (P : Nat → Prop) (hn : qI (g.1 12 72) 0 100) (hO : HO (g.1 12 2) (g.1 12 1) (g.1 81) (g.1 96) (g.1 97)) (hw : ∀ k : Nat, (k : Int) < (g.1 12 72).toInt → qR (g.1 135 k) (g.1 12 2))
    (hP : ∀ k : Nat, (k : Int) < (g.1 12 72).toInt → (P k ↔ (g.1 141 k = 0 ∧ (g.1 140 k = -1 ∨ ¬ g.1 140 k ≤ g.1 12 0) ∧ ¬ (qSm (fun i => qHn (g.1 97) (g.1 81) (g.1 82) (g.1 83) (g.1 135 k) i (g.1 12 0) (g.1 12 0) = v1) (fun i => g.1 98 (4 * (g.1 135 k).toNatClampNeg + i)) (g.1 96 (g.1 135 k).toNatClampNeg).toNatClampNeg) = 0)))
    (hq : Q (qz_uc g 140 (qCm P (g.1 12 0) (g.1 140) (g.1 12 72).toNatClampNeg).1) (qCm P (g.1 12 0) (g.1 140) (g.1 12 72).toNatClampNeg).2 0) : qz_WP X (d + 4) 275 Q 34 [(0, .ref 12), (1, .int v1), (2, .int 0), (3, .int 0)] [] g := by
  have hm := qI_0 hn qz_n100
  have hc := qz_cl (g.1 12 72)
  have hgo := qz_for (W := fun (a : (Nat → Int32) × Int32) v => qz_WP X (d + 4) 275 Q 34 [(0, .ref 12), (1, .int v1), (2, .int a.2), (3, .int v)] [] (qz_uc g 140 a.1)) (n := g.1 12 72) (fun i a => a = qCm P (g.1 12 0) (g.1 140) i) hm.1 (by omega) (fun i a v hI e1 e2 hi hW => ?_) (g.1 140, 0) rfl
  · rw [qz_uc_self] at hgo
    exact hgo
  have hs : ∀ r : Nat, ¬ r = 140 → (qz_uc g 140 a.1).1 r = g.1 r := fun r hr => by rw [qz_c1, if_neg hr]
  have h73 : (qz_uc g 140 a.1).1 140 = a.1 := by rw [qz_c1, if_pos rfl]
  refine v_X12_comes_34 (qz_uc g 140 a.1) v1 a.2 v ?_
  rw [h73, hs 12 (by decide), hs 141 (by decide), hs 81 (by decide), hs 82 (by decide), hs 83 (by decide), hs 96 (by decide), hs 97 (by decide), hs 98 (by decide), hs 135 (by decide), e2, qz_ui_uc]
  have hai : a.1 i = g.1 140 i := by rw [hI]; exact qCm_at i i (Nat.le_refl i)
  rw [hai]
  refine ⟨fun c => ?_, fun c => ?_⟩
  · rw [qz_le, e1] at c
    rw [show i = (g.1 12 72).toNatClampNeg from by omega] at hI
    rw [hI]
    exact hq
  · have hlt : (i : Int) < (g.1 12 72).toInt := by rw [qz_le, e1] at c; omega
    have hPi := hP i hlt
    have no : ¬ P i → qz_WP X (d + 4) 275 Q 34 [(0, .ref 12), (1, .int v1), (2, .int a.2), (3, .int (v + 1))] [] (qz_uc g 140 a.1) := fun z => hW a hlt (by rw [qCm, qIf_neg z]; exact hI)
    have yes : P i → qz_WP X (d + 4) 275 Q 34 [(0, .ref 12), (1, .int v1), (2, .int (a.2 + 1)), (3, .int (v + 1))] [] (qz_uc g 140 (upd a.1 i (g.1 12 0))) := fun z => hW (upd a.1 i (g.1 12 0), a.2 + 1) hlt (by rw [qCm, qIf_pos z, hI])
    refine ⟨qz_vi (by omega) (by omega), fun e3 => no (fun z => e3 (hPi.mp z).1), fun e3 => ⟨fun e4 => ⟨hO, hw i hlt, fun e5 => yes (hPi.mpr ⟨e3, Or.inl e4, e5⟩), fun e5 => no (fun z => (hPi.mp z).2.2 e5)⟩, fun e4 => ⟨fun e5 => no (fun z => (hPi.mp z).2.1.elim e4 (fun z => z e5)), fun e5 => ⟨hO, hw i hlt, fun e6 => yes (hPi.mpr ⟨e3, Or.inr e5, e6⟩), fun e6 => no (fun z => (hPi.mp z).2.2 e6)⟩⟩⟩⟩
theorem Rel_comes {g : qz_G} {P : Nat → Prop} {k n : Nat} (hR : Rel g) : Rel (qz_uc (qz_ui (qz_uc (qz_ui g 46 k (g.1 12 0)) 73 (qCm P (g.1 12 0) (g.1 140) n).1) 84 k (g.1 12 0)) 140 (qCm P (g.1 12 0) (g.1 140) n).1) := by
  obtain ⟨hE, hS, hB, hP, hD, hW, hZ, hK, hT, hA, hV, hC, hY, hJ, hU, hL⟩ := hR
  unfold Rel RelE RelS
  unfold RelE at hE
  unfold RelS at hS
  simp only [qz_i1, qz_i2, qz_u1, qz_c1, qz_c2, Nat.reduceEqDiff, reduceIte]
  refine ⟨?_, hS, hB, hP, hD, hW, hZ, hK, hT, hA, ?_, hC, hY, hJ, hU, hL⟩
  · simp only [hE, and_self]
  · intro j hj
    obtain ⟨a1, a2, a3, a4⟩ := hV j hj
    refine ⟨a1, a2, a3, ?_⟩
    rcases qCm_or (P := P) (now := g.1 12 0) (f0 := g.1 140) n j with e | e
    · rw [e]; exact a4
    · rw [e]; exact Or.inr hB.1.1
theorem P_comes {X : qz_X} {d : Nat} {g : qz_G} (v1 : Int32) (hR : Rel g) : qz_Pair X (d + 6) 175 275 [.int v1] g := by
  have hE := hR.1
  have hS := hR.2.1
  have hB := hR.2.2.1
  have hO := HO_of hR
  have hV : RelV (g.1 12 72) (g.1 12 2) (g.1 12 0) (g.1 135) (g.1 136) (g.1 138) (g.1 140) := hR.2.2.2.2.2.2.2.2.2.2.1
  have hbl := hB.2.2.2.2.2.2.2.2.2.1
  unfold RelS at hS
  unfold RelE at hE
  have key : ∀ w : Int32, qR w (g.1 12 2) → 0 ≤ (qSm (fun i => qHn (g.1 97) (g.1 81) (g.1 82) (g.1 83) w i (g.1 12 0) (g.1 12 0) = v1) (fun i => g.1 98 (4 * w.toNatClampNeg + i)) (g.1 96 w.toNatClampNeg).toNatClampNeg).toInt := by
    intro w hw
    have hWw := (RelW_at hR hw).2.2.2.2.2.2.2.2.2
    have hm := qI_0 hWw.1 qz_n4
    have hc := qz_cl (g.1 96 w.toNatClampNeg)
    refine (qSm_rng (b := 100) _ (fun k hk => ?_) (by omega) (by omega)).1
    have h1 := (hWw.2 k (by omega)).2
    simp only [qI, qz_lt, qz_n1, qz_n100] at h1
    omega
  refine v_X11_comes (d := d + 3) g v1 ?_
  simp only [hS, hE]
  refine ⟨fun h1 => ⟨fun h2 => ⟨qz_in40' h2, fun h3 => ?_, fun h3 => ?_⟩, fun h2 => absurd (qR_40 h1 hB.2.1) h2⟩, fun h1 => ?_⟩
  · have hs : ∀ r : Nat, ¬ r = 46 → (qz_ui g 46 v1.toNatClampNeg (g.1 12 0)).1 r = g.1 r := fun r hr => by rw [qz_i1, if_neg hr]
    refine c_X3_endFor (d := d) (qz_ui g 46 v1.toNatClampNeg (g.1 12 0)) v1 (g.1 12 0) (fun k => g.1 141 k = 0 ∧ (g.1 140 k = -1 ∨ ¬ g.1 140 k ≤ g.1 12 0) ∧ ¬ (qSm (fun i => qHn (g.1 97) (g.1 81) (g.1 82) (g.1 83) (g.1 135 k) i (g.1 12 0) (g.1 12 0) = v1) (fun i => g.1 98 (4 * (g.1 135 k).toNatClampNeg + i)) (g.1 96 (g.1 135 k).toNatClampNeg).toNatClampNeg) = 0) ?_ ?_ ?_ ?_ ?_
    · rw [hs 10 (by decide)]; simp only [hS]; exact hbl
    · rw [hs 3 (by decide), hs 2 (by decide), hs 15 (by decide), hs 29 (by decide), hs 30 (by decide)]; simp only [hS, hE]; exact hO
    · rw [hs 10 (by decide), hs 3 (by decide), hs 68 (by decide)]; simp only [hS, hE]; exact fun k hk => (hV k hk).1
    · rw [hs 10 (by decide), hs 74 (by decide), hs 73 (by decide), hs 68 (by decide), hs 31 (by decide), hs 29 (by decide), hs 30 (by decide), hs 15 (by decide), hs 16 (by decide), hs 17 (by decide)]
      simp only [hS, hE]
      intro k hk
      have h4 := key _ (hV k hk).1
      refine and_congr Iff.rfl (and_congr Iff.rfl (not_congr ?_))
      rw [qz_eq, qz_le, qz_n0]
      omega
    · rw [hs 10 (by decide), hs 73 (by decide)]
      simp only [hS, hE]
      refine v_X12_comes (d := d + 2) _ v1 ?_
      simp only [qz_i1, qz_c1, qz_i2, Nat.reduceEqDiff, reduceIte]
      refine ⟨fun _ => ⟨qz_in40' h2, fun _ => ?_, fun z => absurd h3 z⟩, fun z => absurd h1 z⟩
      refine w_X12_comes (d := d + 2) _ v1 (fun k => g.1 141 k = 0 ∧ (g.1 140 k = -1 ∨ ¬ g.1 140 k ≤ g.1 12 0) ∧ ¬ (qSm (fun i => qHn (g.1 97) (g.1 81) (g.1 82) (g.1 83) (g.1 135 k) i (g.1 12 0) (g.1 12 0) = v1) (fun i => g.1 98 (4 * (g.1 135 k).toNatClampNeg + i)) (g.1 96 (g.1 135 k).toNatClampNeg).toNatClampNeg) = 0) ?_ ?_ ?_ ?_ ?_
      all_goals simp only [qz_i1, qz_c1, qz_i2, Nat.reduceEqDiff, reduceIte]
      · exact hbl
      · exact hO
      · exact fun k hk => (hV k hk).1
      · exact fun k hk => trivial
      · exact ⟨trivial, trivial, Rel_comes hR⟩
  · exact v_X12_comes (d := d + 2) _ v1 ⟨fun _ => ⟨qz_in40' h2, fun z => absurd z h3, fun _ => ⟨rfl, rfl, hR⟩⟩, fun z => absurd h1 z⟩
  · exact v_X12_comes (d := d + 2) _ v1 ⟨fun z => absurd z h1, fun _ => ⟨rfl, rfl, hR⟩⟩
