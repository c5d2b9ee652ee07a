/-! whether a work is free -/
theorem qTf_i {bd od : Int32} (h : ¬ bd = -2) : (qTf bd od).toInt = max bd.toInt od.toInt := by
  unfold qTf
  rw [if_neg h, qz_mxi]
theorem qTr_i {y m : Int32} (hm0 : -1 ≤ m.toInt) (hm : m.toInt ≤ 99999) (h0 : 0 ≤ y.toInt) (h1 : y.toInt ≤ 999999) : (m.toInt = -1 → (qTr y m).toInt = -1) ∧ (¬ m.toInt = -1 → (qTr y m).toInt = m.toInt + y.toInt * 365) := by
  have em : m = -1 ↔ m.toInt = -1 := by rw [qz_eq, qz_m1]
  unfold qTr
  refine ⟨fun c => ?_, fun c => ?_⟩
  · rw [if_pos (em.mpr c), qz_m1]
  · rw [if_neg (fun z => c (em.mp z)), qz_y365 (by omega) hm h0 h1]
theorem qTe_two {g : qz_G} {D : qDt} {w land day t : Int32} (hR : Rel g) (hD : LwD g D) (hw : qR w (g.1 12 2)) : (qTe g D w land day t 0).toInt ≤ (qTe g D w land day t 1).toInt ∧ ((qTe g D w land day t 0).toInt = -1 ↔ (qTe g D w land day t 1).toInt = -1) := by
  have hy := qNb_rng (w := w) (land := land) (day := day) (t := t) (k := 2) hD
  have hu := qNb_rng (w := w) (land := land) (day := day) (t := t) (k := 3) hD
  unfold qTe
  generalize qNb g D w land day t 2 = y at hy ⊢
  generalize qNb g D w land day t 3 = u at hu ⊢
  have hW := RelW_at hR hw
  have hf := hW.2.2.1
  have ht := hW.2.2.2.1
  simp only [qI, qz_lt, qz_n0, qz_n99999] at hf ht
  have hod : (qOd g w 0 u).toInt ≤ (qOd g w 1 u).toInt ∧ ((qOd g w 0 u).toInt = -1 ↔ (qOd g w 1 u).toInt = -1) ∧ -1 ≤ (qOd g w 0 u).toInt := by
    unfold qOd
    by_cases c : u = -1
    · rw [if_pos c, if_pos c, qz_m1]
      omega
    · have h := hu.resolve_left c
      rw [if_neg c, if_neg c, if_pos (rfl : (0 : Int32) = 0), if_neg (show ¬ (1 : Int32) = 0 by decide), qz_y365 (by omega) (by omega) h.1 h.2, qz_y365 (by omega) (by omega) h.1 h.2]
      omega
  have n2 : (-2 : Int32).toInt = -2 := by decide
  by_cases c : y = -1
  · have e : ∀ l, qBd g w day t l y = -1 := fun l => by unfold qBd; rw [if_pos c]
    rw [e 0, e 1, qTf_i (by decide), qTf_i (by decide), qz_m1]
    omega
  · have h := hy.resolve_left c
    by_cases hl : qLv g w day t
    · rw [qBd_live c hl, qBd_live c hl]
      have e : ∀ x, qTf (-2) x = -1 := fun x => by unfold qTf; rw [if_pos rfl]
      rw [e, e, qz_m1]
      omega
    · rw [qBd_dead c hl, qBd_dead c hl]
      have hm := qI_0 ((HO_of hR).2.2.2 w hw).1 qz_n4
      have hcl := qz_cl (g.1 96 w.toNatClampNeg)
      have hP : ∀ i, i < (g.1 96 w.toNatClampNeg).toNatClampNeg → qPe g w day t i → ¬ qDe g w day t i = -1 := fun i hi hp z => hl ⟨i, by omega, hp, z⟩
      have h2 := qMx_two (P := qPe g w day t) (f := qDd g w day t 0) (f' := qDd g w day t 1) (g.1 96 w.toNatClampNeg).toNatClampNeg (fun i hi hp => by
        have h3 := (qDe_rng hR (hP i hi hp)).2.2
        unfold qDd
        rw [if_pos (rfl : (0 : Int32) = 0), if_neg (show ¬ (1 : Int32) = 0 by decide)]
        omega)
      have r0 := qMx_rng (P := qPe g w day t) (f := qDd g w day t 0) (g.1 96 w.toNatClampNeg).toNatClampNeg (fun i hi hp => qDd_rng hR (hP i hi hp))
      have r1 := qMx_rng (P := qPe g w day t) (f := qDd g w day t 1) (g.1 96 w.toNatClampNeg).toNatClampNeg (fun i hi hp => qDd_rng hR (hP i hi hp))
      generalize qMx (qPe g w day t) (qDd g w day t 0) (g.1 96 w.toNatClampNeg).toNatClampNeg = m0 at h2 r0 ⊢
      generalize qMx (qPe g w day t) (qDd g w day t 1) (g.1 96 w.toNatClampNeg).toNatClampNeg = m1 at h2 r1 ⊢
      have t0 := qTr_i (y := y) r0.1 r0.2 h.1 h.2
      have t1 := qTr_i (y := y) r1.1 r1.2 h.1 h.2
      have n0 : ¬ qTr y m0 = -2 := by
        rw [qz_eq, n2]
        by_cases c0 : m0.toInt = -1
        · rw [t0.1 c0]; omega
        · rw [t0.2 c0]; omega
      have n1 : ¬ qTr y m1 = -2 := by
        rw [qz_eq, n2]
        by_cases c0 : m1.toInt = -1
        · rw [t1.1 c0]; omega
        · rw [t1.2 c0]; omega
      rw [qTf_i n0, qTf_i n1]
      by_cases c0 : m0.toInt = -1
      · rw [t0.1 c0, t1.1 (h2.2.1.mp c0)]
        omega
      · rw [t0.2 c0, t1.2 (fun z => c0 (h2.2.1.mpr z))]
        omega
noncomputable def qFr (g : qz_G) (D : qDt) (w land day t : Int32) : Int32 := if qTe g D w land day t 1 = -1 then 0 else if qTe g D w land day t 1 < day then 1 else if qTe g D w land day t 0 < day then 2 else 0
theorem c_X7_freedom {X : qz_X} {d : Nat} {Q : qz_Q} {g0 : qz_G} {D : qDt} (hR : Rel g0) (hD : LwD g0 D) (g : qz_G) (hs : Same g0 g) (w land day t : Int32) (hw : qR w (g0.1 12 2)) (hq : ∀ g', Same g0 g' → (∀ k, k < 9 → g'.1 58 k = qRs g0 D w land day t k) → Q g' (qFr g0 D w land day t) 0) : qz_Call X (d + 7) 99 [.ref 8, .int w, .int land, .int day, .int t] g Q := by
  refine v_X7_freedom (d := d + 6) g w land day t (c_X2_weigh (d := d) hR hD g hs hw (fun g1 s1 h58 => c_X7_weighedTerm (d := d + 1) hR g1 s1 w land day t 1 hw h58 ?_))
  have h := hq g1 s1 h58
  unfold qFr at h
  refine ⟨fun c => ⟨fun c2 => c_X7_weighedTerm (d := d + 1) hR g1 s1 w land day t 0 hw h58 ⟨fun c3 => ?_, fun c3 => ?_⟩, fun c2 => ?_⟩, fun c => ?_⟩
  · rw [if_neg c, if_neg (Int32.not_lt.mpr c2), if_neg (Int32.not_lt.mpr c3)] at h
    exact h
  · rw [if_neg c, if_neg (Int32.not_lt.mpr c2), if_pos (Int32.not_le.mp c3)] at h
    exact h
  · rw [if_neg c, if_pos (Int32.not_le.mp c2)] at h
    exact h
  · rw [if_pos c] at h
    exact h
theorem c_X12_freeOfB {X : qz_X} {d : Nat} {Q : qz_Q} {g0 gb : qz_G} {D : qDt} (hR : Rel g0) (hD : LwD g0 D) (g : qz_G) (hs : SamB g0 gb g) (w land day t : Int32) (hw : qR w (g0.1 12 2)) (hq : ∀ g', SamB g0 gb g' → Q g' (qFr g0 D w land day t) 0) : qz_Call X (d + 7) 249 [.ref 12, .int w, .int land, .int day, .int t] g Q := by
  have h2 := qTe_two (land := land) (day := day) (t := t) hR hD hw
  have em : ∀ x : Int32, x = -1 ↔ x.toInt = -1 := fun x => by rw [qz_eq, qz_m1]
  refine v_X12_freeOf (d := d + 6) g w land day t (c_X12_termOfB (d := d) hR hD g hs w land day t 0 hw (fun g1 s1 => ⟨fun c => ?_, fun c => ⟨fun c2 => c_X12_termOfB (d := d) hR hD g1 s1 w land day t 1 hw (fun g2 s2 => ⟨fun c3 => ?_, fun c3 => ?_⟩), fun c2 => ?_⟩⟩))
  · have h := hq g1 s1
    unfold qFr at h
    rw [if_pos ((em _).mpr (h2.2.mp ((em _).mp c)))] at h
    exact h
  · have h := hq g2 s2
    unfold qFr at h
    rw [if_neg (fun z => c ((em _).mpr (h2.2.mpr ((em _).mp z)))), if_neg (Int32.not_lt.mpr c3), if_pos c2] at h
    exact h
  · have h := hq g2 s2
    unfold qFr at h
    rw [if_neg (fun z => c ((em _).mpr (h2.2.mpr ((em _).mp z)))), if_pos (Int32.not_le.mp c3)] at h
    exact h
  · have h := hq g1 s1
    unfold qFr at h
    have c3 : ¬ qTe g0 D w land day t 1 < day := by
      rw [qz_lt] at c2 ⊢
      omega
    rw [if_neg c3, if_neg c2, ite_self] at h
    exact h
theorem c_X12_freeOf {X : qz_X} {d : Nat} {Q : qz_Q} {g0 : qz_G} {D : qDt} (hR : Rel g0) (hD : LwD g0 D) (g : qz_G) (hs : Same g0 g) (w land day t : Int32) (hw : qR w (g0.1 12 2)) (hq : ∀ g', Same g0 g' → Q g' (qFr g0 D w land day t) 0) : qz_Call X (d + 7) 249 [.ref 12, .int w, .int land, .int day, .int t] g Q := c_X12_freeOfB hR hD g (SamB.of hs) w land day t hw (fun g' s' => hq g' s'.2)
theorem P_free {X : qz_X} {d : Nat} {g : qz_G} (v1 v2 v3 v4 : Int32) (hR : Rel g) : qz_Pair X (d + 9) 162 250 [.int v1, .int v2, .int v3, .int v4] g := by
  obtain ⟨D, hD⟩ := LwD_of hR
  have e3 : g.1 3 12 = g.1 12 2 := rS_3_12 hR (Same.rf g)
  refine v_X11_free (d := d + 5) g v1 v2 v3 v4 ?_
  rw [e3]
  refine ⟨fun hc => ?_, fun hc => ?_⟩
  · refine c_X7_freedom (d := d + 1) hR hD g (Same.rf g) v1 v2 v3 v4 hc.1 (fun g2 s2 _ => ?_)
    exact v_X12_free (d := d + 6) g2 v1 v2 v3 v4 ⟨fun _ => c_X12_freeOf (d := d + 1) hR hD g2 s2 v1 v2 v3 v4 hc.1 (fun g' s' => ⟨rfl, rfl, Rel_same hR s'⟩), fun z => absurd (by rw [rM_12_2 s2]; exact hc) z⟩
  · exact v_X12_free (d := d + 6) g v1 v2 v3 v4 ⟨fun z => absurd z hc, fun _ => ⟨rfl, rfl, hR⟩⟩
/-! looks and letters -/
theorem qOr_bt {B : Nat → Prop} {N : Nat → Int32} : ∀ (n : Nat), (∀ k, k < n → B k → qR (N k) 32) → ∀ s, s < 32 → (bt (qOr B N n) s = true ↔ ∃ k, k < n ∧ B k ∧ N k = nI s)
  | 0, _, s, _ => by
    show bt 0 s = true ↔ _
    rw [b_0]
    exact ⟨fun z => (by cases z), fun ⟨k, h, _⟩ => by omega⟩
  | n + 1, h, s, hs => by
    have ih := qOr_bt (B := B) (N := N) n (fun k hk => h k (by omega)) s hs
    by_cases c : B n
    · have hr := h n (by omega) c
      obtain ⟨m, hm, em⟩ := qz_nat (x := N n) (b := 31) (by
        have := hr.1
        rw [qz_lt, qz_n0] at this
        omega) (by
        have := hr.2
        rw [qz_le, qz_n32] at this
        omega)
      rw [qOr_p c, b_or, em, b_one (by omega) hs, Bool.or_eq_true, ih]
      constructor
      · rintro (⟨k, h1, h2⟩ | h1)
        · exact ⟨k, by omega, h2⟩
        · exact ⟨n, by omega, c, by rw [of_decide_eq_true h1]; exact em⟩
      · rintro ⟨k, h1, h2, h3⟩
        by_cases ck : k = n
        · rw [ck, em] at h3
          exact Or.inr (decide_eq_true (nI_inj (by omega) (by omega) h3).symm)
        · exact Or.inl ⟨k, by omega, h2, h3⟩
    · rw [qOr_n c, ih]
      constructor
      · rintro ⟨k, h1, h2⟩
        exact ⟨k, by omega, h2⟩
      · rintro ⟨k, h1, h2, h3⟩
        by_cases ck : k = n
        · rw [ck] at h2
          exact absurd h2 c
        · exact ⟨k, by omega, h2, h3⟩
def qLoG (g : qz_G) (w s day t old : Int32) : Prop := ∃ k : Nat, (k : Int) < (g.1 12 55).toInt ∧ g.1 122 k = w ∧ g.1 123 k = s ∧ ¬ day < g.1 124 k ∧ ¬ t < g.1 126 k ∧ (old = 0 ∨ ¬ old < day - g.1 124 k)
theorem c_X9_lookedThrough {X : qz_X} {d : Nat} {Q : qz_Q} (g : qz_G) (v1 v2 v3 v4 : Int32) (hn : qI (g.1 4 13) 0 300) (hq : Q g (qOr (fun k => g.1 34 k = v1 ∧ ¬ g.1 36 k < v2 ∧ ¬ v3 < g.1 36 k ∧ ¬ v4 < g.1 38 k) (g.1 35) (g.1 4 13).toNatClampNeg) 0) : qz_Call X (d + 1) 126 [.ref 4, .int v1, .int v2, .int v3, .int v4] g Q := by
  simp only [qI, qz_lt, qz_n0, qz_n300] at hn
  have hcl := qz_cl (g.1 4 13)
  refine v_X9_lookedThrough g v1 v2 v3 v4 ?_
  refine qz_for (α := Int32) (W := fun a v => qz_WP X (d + 1) 126 Q 6 [(0, .ref 4), (1, .int v1), (2, .int v2), (3, .int v3), (4, .int v4), (5, .int a), (6, .int v)] [] g) (n := g.1 4 13) (fun i a => a = qOr (fun k => g.1 34 k = v1 ∧ ¬ g.1 36 k < v2 ∧ ¬ v3 < g.1 36 k ∧ ¬ v4 < g.1 38 k) (g.1 35) i) (by omega) (by omega) (fun i a v hI ev cv hle cont => ?_) 0 rfl
  have cont' : ∀ a', (i : Int) < (g.1 4 13).toInt → a' = qOr (fun k => g.1 34 k = v1 ∧ ¬ g.1 36 k < v2 ∧ ¬ v3 < g.1 36 k ∧ ¬ v4 < g.1 38 k) (g.1 35) (i + 1) → qz_WP X (d + 1) 126 Q 74 [(0, .ref 4), (1, .int v1), (2, .int v2), (3, .int v3), (4, .int v4), (5, .int a'), (6, .int v)] [] g := fun a' h1 h2 => v_X9_lookedThrough_74 g v1 v2 v3 v4 a' v (cont a' h1 h2)
  refine v_X9_lookedThrough_6 g v1 v2 v3 v4 a v ?_
  rw [cv]
  refine ⟨fun z => ?_, fun z => ?_⟩
  · rw [qz_le, ev] at z
    have e : (g.1 4 13).toNatClampNeg = i := by omega
    rw [e, ← hI] at hq
    exact hq
  · rw [qz_le, ev] at z
    refine ⟨qz_vi (by omega) (by omega), fun c1 => cont' a (by omega) ?_, fun c1 => ⟨fun c2 => cont' a (by omega) ?_, fun c2 => ⟨fun c3 => cont' a (by omega) ?_, fun c3 => ⟨fun c4 => cont' a (by omega) ?_, fun c4 => cont' _ (by omega) ?_⟩⟩⟩⟩
    · rw [qOr_n (fun z2 => c1 z2.1)]; exact hI
    · rw [qOr_n (fun z2 => z2.2.1 c2)]; exact hI
    · rw [qOr_n (fun z2 => z2.2.2.1 c3)]; exact hI
    · rw [qOr_n (fun z2 => z2.2.2.2 c4)]; exact hI
    · rw [qOr_p ⟨c1, c2, c3, c4⟩, hI]
theorem qMx_ex {P : Nat → Prop} {f : Nat → Int32} : ∀ (n : Nat), (∀ k, k < n → P k → 0 ≤ (f k).toInt) → (qMx P f n = -1 ∧ ∀ k, k < n → ¬ P k) ∨ (∃ k, k < n ∧ P k ∧ qMx P f n = f k ∧ ∀ j, j < n → P j → (f j).toInt ≤ (f k).toInt)
  | 0, _ => Or.inl ⟨rfl, fun k hk => by omega⟩
  | n + 1, h => by
    by_cases c : P n
    · right
      have h0 := h n (by omega) c
      rw [qMx_p c]
      rcases qMx_ex (P := P) (f := f) n (fun k hk => h k (by omega)) with ⟨e, hn⟩ | ⟨k, h1, h2, h3, h4⟩
      · refine ⟨n, by omega, c, ?_, fun j hj hp => ?_⟩
        · rw [e, if_pos (by rw [qz_lt, qz_m1]; omega)]
        · by_cases cj : j = n
          · rw [cj]; exact Int.le_refl _
          · exact absurd hp (hn j (by omega))
      · rw [h3]
        by_cases cl : f k < f n
        · refine ⟨n, by omega, c, if_pos cl, fun j hj hp => ?_⟩
          rw [qz_lt] at cl
          by_cases cj : j = n
          · rw [cj]; exact Int.le_refl _
          · have := h4 j (by omega) hp
            omega
        · refine ⟨k, by omega, h2, if_neg cl, fun j hj hp => ?_⟩
          rw [qz_lt] at cl
          by_cases cj : j = n
          · rw [cj]; omega
          · exact h4 j (by omega) hp
    · rw [qMx_n c]
      rcases qMx_ex (P := P) (f := f) n (fun k hk => h k (by omega)) with ⟨e, hn⟩ | ⟨k, h1, h2, h3, h4⟩
      · refine Or.inl ⟨e, fun k hk => ?_⟩
        by_cases cj : k = n
        · rw [cj]; exact c
        · exact hn k (by omega)
      · refine Or.inr ⟨k, by omega, h2, h3, fun j hj hp => ?_⟩
        by_cases cj : j = n
        · rw [cj] at hp
          exact absurd hp c
        · exact h4 j (by omega) hp
theorem c_X12_isLookedB {X : qz_X} {d : Nat} {Q : qz_Q} {g0 gb : qz_G} (hR : Rel g0) (g : qz_G) (hs : SamB g0 gb g) (w s day t old : Int32) (hday : qI day 0 99999) (hold : 0 ≤ old.toInt) (h1 : qLoG g0 w s day t old → Q g 1 0) (h0 : ¬ qLoG g0 w s day t old → Q g 0 0) : qz_Call X (d + 1) 261 [.ref 12, .int w, .int s, .int day, .int t, .int old] g Q := by
  have hn := rB_looks hR
  simp only [qI, qz_lt, qz_n0, qz_n300, qz_n99999] at hn hday
  have hcl := qz_cl (g0.1 12 55)
  have hK := hR.2.2.2.2.2.2.2.1
  have hdy : ∀ k : Nat, (k : Int) < (g0.1 12 55).toInt → 0 ≤ (g0.1 124 k).toInt ∧ (g0.1 124 k).toInt ≤ 99999 := by
    intro k hk
    have := (hK k hk).2.2.1
    simp only [qI, qz_lt, qz_n0, qz_n99999] at this
    omega
  refine v_X12_isLooked g w s day t old ?_
  refine qz_for (α := Int32) (W := fun a v => qz_WP X (d + 1) 261 Q 6 [(0, .ref 12), (1, .int w), (2, .int s), (3, .int day), (4, .int t), (5, .int old), (6, .int a), (7, .int v)] [] g) (n := g0.1 12 55) (fun i a => a = qMx (fun k => g0.1 122 k = w ∧ g0.1 123 k = s ∧ ¬ day < g0.1 124 k ∧ ¬ t < g0.1 126 k) (g0.1 124) i) (by omega) (by omega) (fun i a v hI ev cv hle cont => ?_) (-1) rfl
  have cont' : ∀ a', (i : Int) < (g0.1 12 55).toInt → a' = qMx (fun k => g0.1 122 k = w ∧ g0.1 123 k = s ∧ ¬ day < g0.1 124 k ∧ ¬ t < g0.1 126 k) (g0.1 124) (i + 1) → qz_WP X (d + 1) 261 Q 81 [(0, .ref 12), (1, .int w), (2, .int s), (3, .int day), (4, .int t), (5, .int old), (6, .int a'), (7, .int v)] [] g := fun a' h1 h2 => v_X12_isLooked_81 g w s day t old a' v (cont a' h1 h2)
  refine v_X12_isLooked_6 g w s day t old a v ?_
  rw [cv, rN_12_55 hs, hs.1.1 122 (by decide), hs.1.1 123 (by decide), hs.1.1 124 (by decide), hs.1.1 126 (by decide)]
  refine ⟨fun z => ?_, fun z => ?_⟩
  · rw [qz_le, ev] at z
    have hx := qMx_ex (P := fun k => g0.1 122 k = w ∧ g0.1 123 k = s ∧ ¬ day < g0.1 124 k ∧ ¬ t < g0.1 126 k) (f := g0.1 124) i (fun k hk _ => (hdy k (by omega)).1)
    rw [← hI] at hx
    rcases hx with ⟨e, hno⟩ | ⟨k, k1, k2, k3, k4⟩
    · refine ⟨fun _ => h0 (fun ⟨k, x1, x2, x3, x4, x5, _⟩ => hno k (by omega) ⟨x2, x3, x4, x5⟩), fun c => absurd e c⟩
    · have hk := hdy k (by omega)
      have ea : ¬ a = -1 := by
        rw [k3, qz_eq, qz_m1]; omega
      refine ⟨fun c => absurd c ea, fun _ => ⟨fun c => h1 ⟨k, by omega, k2.1, k2.2.1, k2.2.2.1, k2.2.2.2, Or.inl c⟩, fun c => ⟨fun c2 => h0 ?_, fun c2 => h1 ⟨k, by omega, k2.1, k2.2.1, k2.2.2.1, k2.2.2.2, Or.inr (by rw [← k3]; exact c2)⟩⟩⟩⟩
      rintro ⟨j, x1, x2, x3, x4, x5, x6⟩
      have x7 := x6.resolve_left c
      have hj := hdy j x1
      have := k4 j (by omega) ⟨x2, x3, x4, x5⟩
      rw [k3] at c2
      have e1 := qz_sb (a := day) (b := g0.1 124 k) (by omega) (by omega)
      have e2 := qz_sb (a := day) (b := g0.1 124 j) (by omega) (by omega)
      rw [qz_lt, e1] at c2
      rw [qz_lt, e2] at x7
      omega
  · rw [qz_le, ev] at z
    refine ⟨qz_vi (by omega) (by omega), fun c1 => cont' a (by omega) ?_, fun c1 => ⟨fun c2 => cont' a (by omega) ?_, fun c2 => ⟨fun c3 => cont' a (by omega) ?_, fun c3 => ⟨fun c4 => cont' a (by omega) ?_, fun c4 => ⟨fun c5 => cont' a (by omega) ?_, fun c5 => cont' _ (by omega) ?_⟩⟩⟩⟩⟩
    · rw [qMx_n (fun z2 => c1 z2.1)]; exact hI
    · rw [qMx_n (fun z2 => c2 z2.2.1)]; exact hI
    · rw [qMx_n (fun z2 => z2.2.2.1 c3)]; exact hI
    · rw [qMx_n (fun z2 => z2.2.2.2 c4)]; exact hI
    · rw [qMx_p ⟨c1, c2, c3, c4⟩, ← hI, if_neg (Int32.not_lt.mpr c5)]
    · rw [qMx_p ⟨c1, c2, c3, c4⟩, ← hI, if_pos (Int32.not_le.mp c5)]
def qWrt (g : qz_G) (day t wait o : Int32) : Prop := qEx (g.1 12 56) (fun k => g.1 127 k = o ∧ ¬ day - wait < g.1 128 k ∧ ¬ t < g.1 129 k)
theorem c_X9_wasWritten {X : qz_X} {d : Nat} {Q : qz_Q} {g0 : qz_G} (hR : Rel g0) (g : qz_G) (hs : Same g0 g) (o day t wait : Int32) (h1 : qWrt g0 day t wait o → Q g 1 0) (h0 : ¬ qWrt g0 day t wait o → Q g 0 0) : qz_Call X (d + 1) 127 [.ref 4, .int o, .int (day - wait), .int t] g Q := by
  have hn := qI_0 (rB_letters hR) qz_n200
  refine v_X9_wasWritten g o _ t ?_
  refine qz_srch (W := fun v => qz_WP X (d + 1) 127 Q 3 [(0, .ref 4), (1, .int o), (2, .int (day - wait)), (3, .int t), (4, .int v)] [] g) (n := g0.1 12 56) (B := 200) (P := fun k => g0.1 127 k = o ∧ ¬ day - wait < g0.1 128 k ∧ ¬ t < g0.1 129 k) hn.1 hn.2 (by omega) (fun v hF hin hT hN => ?_) h1 h0
  have hN' : ¬ g0.1 12 56 ≤ v → ¬ (g0.1 127 v.toNatClampNeg = o ∧ ¬ day - wait < g0.1 128 v.toNatClampNeg ∧ ¬ t < g0.1 129 v.toNatClampNeg) → qz_WP X (d + 1) 127 Q 47 [(0, .ref 4), (1, .int o), (2, .int (day - wait)), (3, .int t), (4, .int v)] [] g := fun c c2 => v_X9_wasWritten_47 g o _ t v (hN c c2)
  refine v_X9_wasWritten_3 g o _ t v ?_
  rw [rS_4_14 hR hs, rE_39 hR hs, rE_40 hR hs, rE_41 hR hs]
  exact ⟨hF, fun c => ⟨hin c, fun c1 => hN' c (fun z => c1 z.1), fun c1 => ⟨fun c2 => hN' c (fun z => z.2.1 c2), fun c2 => ⟨fun c3 => hN' c (fun z => z.2.2 c3), fun c3 => hT c ⟨c1, c2, c3⟩⟩⟩⟩⟩
theorem c_X12_isWrittenB {X : qz_X} {d : Nat} {Q : qz_Q} {g0 gb : qz_G} (hR : Rel g0) (g : qz_G) (hs : SamB g0 gb g) (o day t wait : Int32) (hday : qI day 0 99999) (hw0 : 0 ≤ wait.toInt) (hw : wait.toInt ≤ 999999) (hnf : ¬ qFd (g0.1 84) (g0.1 12 55) (g0.1 125) (g0.1 124) (g0.1 126) (g0.1 12 56) (g0.1 127) (g0.1 130) o day t) (h1 : qWrt g0 day t wait o → Q g 1 0) (h0 : ¬ qWrt g0 day t wait o → Q g 0 0) : qz_Call X (d + 2) 262 [.ref 12, .int o, .int day, .int t, .int wait] g Q := by
  have hn := qI_0 (rB_letters hR) qz_n200
  simp only [qI, qz_lt, qz_n0, qz_n99999] at hday
  have hT := hR.2.2.2.2.2.2.2.2.1
  have eqv : ∀ k : Nat, (k : Int) < (g0.1 12 56).toInt → (¬ day - wait < g0.1 128 k ↔ ¬ day < g0.1 128 k + wait) := by
    intro k hk
    have := (hT k hk).2.1
    simp only [qI, qz_lt, qz_n0, qz_n99999] at this
    have e1 := qz_sb (a := day) (b := wait) (by omega) (by omega)
    have e2 := qz_ad (a := g0.1 128 k) (b := wait) (by omega) (by omega)
    rw [qz_lt, qz_lt, e1, e2]
    omega
  refine v_X12_isWritten g o day t wait ?_
  have ex : qEx (g0.1 12 56) (fun k => g0.1 127 k = o ∧ ¬ t < g0.1 129 k ∧ ¬ day < g0.1 128 k + wait ∧ ¬ qBy (g0.1 130 k) day t) ↔ qWrt g0 day t wait o := by
    constructor
    · rintro ⟨k, x1, x2, x3, x4, x5⟩
      exact ⟨k, x1, x2, (eqv k x1).mpr x4, x3⟩
    · rintro ⟨k, x1, x2, x3, x4⟩
      exact ⟨k, x1, x2, x4, (eqv k x1).mp x3, fun z => hnf (Or.inr (Or.inr ⟨k, x1, x2, z⟩))⟩
  refine qz_srch (W := fun v => qz_WP X (d + 2) 262 Q 3 [(0, .ref 12), (1, .int o), (2, .int day), (3, .int t), (4, .int wait), (5, .int v)] [] g) (n := g0.1 12 56) (B := 200) (P := fun k => g0.1 127 k = o ∧ ¬ t < g0.1 129 k ∧ ¬ day < g0.1 128 k + wait ∧ ¬ qBy (g0.1 130 k) day t) hn.1 hn.2 (by omega) (fun v hF hin hT hN => ?_) (fun z => h1 (ex.mp z)) (fun z => h0 (fun z2 => z (ex.mpr z2)))
  have hN' : ¬ g0.1 12 56 ≤ v → ¬ (g0.1 127 v.toNatClampNeg = o ∧ ¬ t < g0.1 129 v.toNatClampNeg ∧ ¬ day < g0.1 128 v.toNatClampNeg + wait ∧ ¬ qBy (g0.1 130 v.toNatClampNeg) day t) → qz_WP X (d + 2) 262 Q 65 [(0, .ref 12), (1, .int o), (2, .int day), (3, .int t), (4, .int wait), (5, .int v)] [] g := fun c c2 => v_X12_isWritten_65 g o day t wait v (hN c c2)
  refine v_X12_isWritten_3 g o day t wait v ?_
  rw [rN_12_56 hs, hs.1.1 127 (by decide), hs.1.1 128 (by decide), hs.1.1 129 (by decide), hs.1.1 130 (by decide)]
  exact ⟨hF, fun c => ⟨hin c, fun c1 => hN' c (fun z => c1 z.1), fun c1 => ⟨fun c2 => hN' c (fun z => z.2.1 c2), fun c2 => ⟨fun c3 => hN' c (fun z => z.2.2.1 c3), fun c3 => ⟨fun c4 => hN' c (fun z => z.2.2.2 c4), fun c4 => hT c ⟨c1, c2, c3, c4⟩⟩⟩⟩⟩⟩
