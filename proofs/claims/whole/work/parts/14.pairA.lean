/-! calls of the class and of the reference, side by side -/
def qz_Pair (X : qz_X) (d zx zm : Nat) (av : List Value) (g : qz_G) : Prop := qz_Call X d zx (.ref 0 :: av) g (fun g1 v l => qz_Call X d zm (.ref 12 :: av) g1 (fun g2 w l2 => v = w ∧ l = l2 ∧ Rel g2))
theorem RelT_now {a b c n n' : Int32} {r1 r2 r3 r4 : Nat → Int32} (h : RelT a b n r1 r2 r3 r4) (hn : n ≤ n') : RelT a b n' r1 r2 r3 r4 := by
  intro k hk
  obtain ⟨h1, h2, h3⟩ := h k hk
  refine ⟨h1, h2, h3.imp id (fun z => ?_)⟩
  simp only [qI, qz_lt, qz_le] at z hn ⊢
  omega
theorem RelA_now {a n n' : Int32} {r1 : Nat → Int32} (h : RelA a n r1) (hn : n ≤ n') : RelA a n' r1 := by
  intro k hk
  have z := h k hk
  simp only [qI, qz_lt, qz_le] at z hn ⊢
  omega
theorem RelV_now {a b n n' : Int32} {r1 r2 r3 r4 : Nat → Int32} (h : RelV a b n r1 r2 r3 r4) (hn : n ≤ n') : RelV a b n' r1 r2 r3 r4 := by
  intro k hk
  obtain ⟨h1, h2, z, h4⟩ := h k hk
  refine ⟨h1, h2, ?_, h4⟩
  simp only [qI, qz_lt, qz_le] at z hn ⊢
  omega
theorem Rel_now {g : qz_G} {v : Int32} (hR : Rel g) (hv : qI v (g.1 12 0) 99999) : Rel (qz_ui (qz_ui g 0 10 v) 12 0 v) := by
  obtain ⟨hE, hS, hB, hP, hD, hW, hZ, hK, hT, hA, hV, hC, hY, hJ, hU, hL⟩ := hR
  have hn : g.1 12 0 ≤ v := by
    simp only [qI, qz_lt, qz_le] at hv ⊢
    omega
  unfold Rel RelE RelS
  unfold RelE at hE
  unfold RelS at hS
  simp only [qz_i1, qz_i2, qz_u1, Nat.reduceEqDiff, reduceIte]
  refine ⟨hE, ?_, ?_, hP, hD, hW, hZ, hK, RelT_now (c := 0) hT hn, RelA_now hA hn, RelV_now hV hn, hC, hY, hJ, hU, hL⟩
  · simp only [hS, and_self]
  · unfold RelB at hB ⊢
    obtain ⟨h1, h2⟩ := hB
    refine ⟨?_, h2⟩
    simp only [qI, qz_lt, qz_le, qz_n0] at h1 hv ⊢
    omega
theorem P_now {X : qz_X} {d : Nat} {g : qz_G} (v1 : Int32) (hR : Rel g) : qz_Pair X (d + 2) 151 200 [.int v1] g := by
  have hS := hR.2.1
  have hB := hR.2.2.1
  unfold RelS at hS
  unfold RelB at hB
  refine v_X11_now g v1 ?_
  simp only [hS]
  refine ⟨fun h1 => ⟨fun h2 => ?_, fun h2 => ?_⟩, fun h1 => ?_⟩
  · refine v_X12_now _ v1 ?_
    simp only [qz_i1, qz_i2, qz_u1, Nat.reduceEqDiff, reduceIte]
    refine ⟨fun h3 => ⟨trivial, trivial, Rel_now hR h3⟩, fun h3 => ?_⟩
    exfalso
    simp only [qI, qz_lt, qz_le, qz_n0, qz_n99999] at h1 h2 h3
    omega
  · refine v_X12_now _ v1 ⟨fun h3 => ?_, fun h3 => ⟨rfl, rfl, hR⟩⟩
    exfalso
    simp only [qI, qz_lt, qz_le, qz_n0, qz_n99999] at h1 h2 h3
    omega
  · refine v_X12_now _ v1 ⟨fun h3 => ?_, fun h3 => ⟨rfl, rfl, hR⟩⟩
    exfalso
    have h4 := hB.1
    simp only [qI, qz_lt, qz_le, qz_n0, qz_n99999] at h1 h3 h4
    omega
-- ===== growing counts =====
theorem qR_mono {v n n' : Int32} (h : qR v n) (hn : n.toInt ≤ n'.toInt) : qR v n' := by
  simp only [qR, qz_lt, qz_le, qz_n0] at h ⊢
  omega
theorem qz_inc {n : Int32} {b : Int} (h : qI n 0 (Int32.ofInt b)) (hb : (Int32.ofInt b).toInt = b) (h1 : b < 1000) (hne : n.toInt < b) : (n + 1).toInt = n.toInt + 1 ∧ 0 ≤ n.toInt ∧ ((n.toNatClampNeg : Nat) : Int) = n.toInt := by
  simp only [qI, qz_lt, qz_n0, hb] at h
  have e := qz_ad (a := n) (b := 1) (by rw [qz_n1]; omega) (by rw [qz_n1]; omega)
  rw [qz_n1] at e
  refine ⟨e, by omega, ?_⟩
  rw [qz_cl]
  omega
theorem qz_sub1 (n : Int32) : n + 1 - 1 = n := by simp
theorem RelD_own {n o o' : Int32} {r1 r2 r3 r4 : Nat → Int32} (h : RelD n o r1 r2 r3 r4) (ho : o.toInt ≤ o'.toInt) : RelD n o' r1 r2 r3 r4 := fun k hk => ⟨qR_mono (h k hk).1 ho, (h k hk).2⟩
theorem RelW_own {n o o' : Int32} {r1 r2 r3 r4 r5 r6 r7 r8 r9 r10 : Nat → Int32} (h : RelW n o r1 r2 r3 r4 r5 r6 r7 r8 r9 r10) (ho : o.toInt ≤ o'.toInt) : RelW n o' r1 r2 r3 r4 r5 r6 r7 r8 r9 r10 := by
  intro w hw
  obtain ⟨a1, a2, a3, a4, a5, a6, a7, a8, a9, a10, a11⟩ := h w hw
  exact ⟨a1, a2, a3, a4, a5, a6, a7, a8, a9, a10, fun i hi => ⟨qR_mono (a11 i hi).1 ho, (a11 i hi).2⟩⟩
theorem RelK_own {n w o o' t : Int32} {r1 r2 r3 r4 r5 : Nat → Int32} (h : RelK n w o t r1 r2 r3 r4 r5) (ho : o.toInt ≤ o'.toInt) : RelK n w o' t r1 r2 r3 r4 r5 := fun k hk => ⟨(h k hk).1, (h k hk).2.1, (h k hk).2.2.1, (h k hk).2.2.2.imp id (fun z => qR_mono z ho)⟩
theorem RelT_own {n o o' t : Int32} {r1 r2 r3 r4 : Nat → Int32} (h : RelT n o t r1 r2 r3 r4) (ho : o.toInt ≤ o'.toInt) : RelT n o' t r1 r2 r3 r4 := fun k hk => ⟨qR_mono (h k hk).1 ho, (h k hk).2⟩
theorem RelP_own {o o' : Int32} {r : Nat → Int32} (h : RelP o r) (ho : o'.toInt = o.toInt + 1) (h0 : 0 ≤ o.toInt) (h40 : o.toInt < 40) : RelP o' r := by
  obtain ⟨h1, h2, h3⟩ := h
  refine ⟨fun i hi => (h1 i hi).imp id (fun z => qR_mono z (by omega)), fun i hi => h2 i (by omega), fun q hq => ?_⟩
  by_cases hqo : qR q o
  · exact h3 q hqo
  · simp only [qR, qz_lt, qz_le, qz_n0] at hq hqo
    have e : q.toInt = o.toInt := by omega
    refine ⟨1, ?_⟩
    have hn : ¬ q < 0 := by simp only [qz_lt, qz_n0]; omega
    have hc := qz_cl q
    simp only [qz_up, hn, if_false]
    rw [h2 q.toNatClampNeg (by omega) (by omega)]
    decide
theorem Rel_owner {g : qz_G} {b v2 : Int32} (hR : Rel g) (h40 : ¬ g.1 12 1 = 40) : Rel (qz_ui (qz_ui (qz_ui (qz_ui (qz_ui g 14 ((g.1 12 1).toNatClampNeg) b) 2 8 ((g.1 12 1) + 1)) 79 ((g.1 12 1).toNatClampNeg) b) 80 ((g.1 12 1).toNatClampNeg) v2) 12 1 ((g.1 12 1) + 1)) := by
  obtain ⟨hE, hS, hB, hP, hD, hW, hZ, hK, hT, hA, hV, hC, hY, hJ, hU, hL⟩ := hR
  have hB2 := hB.2.1
  have hlt : (g.1 12 1).toInt < 40 := by
    simp only [qI, qz_lt, qz_eq, qz_n0, qz_n40] at hB2 h40
    omega
  obtain ⟨e1, e2, e3⟩ := qz_inc (b := 40) hB2 (by decide) (by decide) hlt
  unfold Rel RelE RelS
  unfold RelE at hE
  unfold RelS at hS
  simp only [qz_i1, qz_i2, qz_u1, Nat.reduceEqDiff, reduceIte]
  refine ⟨?_, ?_, ?_, RelP_own hP e1 e2 hlt, RelD_own hD (by omega), RelW_own hW (by omega), hZ, RelK_own hK (by omega), RelT_own hT (by omega), hA, hV, hC, hY, hJ, hU, hL⟩
  · simp only [hE, and_self]
  · simp only [hS, and_self]
  · unfold RelB at hB ⊢
    obtain ⟨h1, h2, h3⟩ := hB
    refine ⟨h1, ?_, h3⟩
    simp only [qI, qz_lt, qz_le, qz_n0, qz_n40, e1] at h2 ⊢
    omega
theorem P_owner {X : qz_X} {d : Nat} {g : qz_G} (v1 v2 : Int32) (hR : Rel g) : qz_Pair X (d + 3) 152 203 [.int v1, .int v2] g := by
  have hS := hR.2.1
  have hB := hR.2.2.1.2.1
  unfold RelS at hS
  refine v_X11_owner g v1 v2 ?_
  simp only [hS]
  simp only [qI, qz_lt, qz_n0, qz_n40] at hB
  refine ⟨fun h1 => ⟨fun h2 => ⟨?_, ?_⟩, fun h2 => ?_⟩, fun h1 => ?_⟩
  · simp only [qz_lt, qz_n40] at h2
    exact qz_vi (by omega) (by omega)
  · refine v_X12_owner (d := d + 1) _ v1 v2 ?_
    simp only [qz_i1, qz_i2, qz_u1, Nat.reduceEqDiff, reduceIte]
    simp only [qz_lt, qz_n40] at h2
    have h3 : ¬ g.1 12 1 = 40 := by simp only [qz_eq, qz_n40]; omega
    have h4 : vp_in (g.1 12 1) 40 := qz_vi (by omega) (by omega)
    exact ⟨fun _ => ⟨fun _ => ⟨h4, trivial, trivial, Rel_owner hR h3⟩, fun z => absurd z h3⟩, fun z => absurd h1 z⟩
  · simp only [qz_lt, qz_n40] at h2
    have h3 : g.1 12 1 = 40 := by simp only [qz_eq, qz_n40]; omega
    exact v_X12_owner (d := d + 1) _ v1 v2 ⟨fun _ => ⟨fun z => absurd h3 z, fun _ => ⟨rfl, rfl, hR⟩⟩, fun z => absurd h1 z⟩
  · exact v_X12_owner (d := d + 1) _ v1 v2 ⟨fun z => absurd z h1, fun _ => ⟨rfl, rfl, hR⟩⟩
