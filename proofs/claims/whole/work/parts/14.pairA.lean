/-! calls of the class and of the reference, side by side -/
def qz_Pair (X : qz_X) (d zx zm : Nat) (av : List Value) (g : qz_G) : Prop := qz_Call X d zx (.ref 0 :: av) g (fun g1 v l => qz_Call X d zm (.ref 12 :: av) g1 (fun g2 w l2 => v = w ∧ l = l2 ∧ Rel g2))
theorem RelT_now {a b c n n' : Int32} {r1 r2 r3 r4 : Nat → Int32} (h : RelT a b n r1 r2 r3 r4) (hn : n ≤ n') : RelT a b n' r1 r2 r3 r4 := by
  intro k hk
  obtain ⟨h1, h2, h3⟩ := h k hk
  refine ⟨h1, h2, h3.imp id (fun z => ?_)⟩
  simp only [qI, qz_lt, qz_le] at z hn ⊢
  omega
theorem RelA_now {a n n' : Int32} {r1 : Nat → Int32} (h : RelA a n r1) (hn : n ≤ n') : RelA a n' r1 := by
  intro k hk
  have z := h k hk
  simp only [qI, qz_lt, qz_le] at z hn ⊢
  omega
theorem RelV_now {a b n n' : Int32} {r1 r2 r3 r4 : Nat → Int32} (h : RelV a b n r1 r2 r3 r4) (hn : n ≤ n') : RelV a b n' r1 r2 r3 r4 := by
  intro k hk
  obtain ⟨h1, h2, z, h4⟩ := h k hk
  refine ⟨h1, h2, ?_, h4⟩
  simp only [qI, qz_lt, qz_le] at z hn ⊢
  omega
theorem Rel_now {g : qz_G} {v : Int32} (hR : Rel g) (hv : qI v (g.1 12 0) 99999) : Rel (qz_ui (qz_ui g 0 10 v) 12 0 v) := by
  obtain ⟨hE, hS, hB, hP, hD, hW, hZ, hK, hT, hA, hV, hC, hY, hJ, hU, hL⟩ := hR
  have hn : g.1 12 0 ≤ v := by
    simp only [qI, qz_lt, qz_le] at hv ⊢
    omega
  unfold Rel RelE RelS
  unfold RelE at hE
  unfold RelS at hS
  simp only [qz_i1, qz_i2, qz_u1, Nat.reduceEqDiff, reduceIte]
  refine ⟨hE, ?_, ?_, hP, hD, hW, hZ, hK, RelT_now (c := 0) hT hn, RelA_now hA hn, RelV_now hV hn, hC, hY, hJ, hU, hL⟩
  · simp only [hS, and_self]
  · unfold RelB at hB ⊢
    obtain ⟨h1, h2⟩ := hB
    refine ⟨?_, h2⟩
    simp only [qI, qz_lt, qz_le, qz_n0] at h1 hv ⊢
    omega
theorem P_now {X : qz_X} {d : Nat} {g : qz_G} (v1 : Int32) (hR : Rel g) : qz_Pair X (d + 2) 151 200 [.int v1] g := by
  have hS := hR.2.1
  have hB := hR.2.2.1
  unfold RelS at hS
  unfold RelB at hB
  refine v_X11_now g v1 ?_
  simp only [hS]
  refine ⟨fun h1 => ⟨fun h2 => ?_, fun h2 => ?_⟩, fun h1 => ?_⟩
  · refine v_X12_now _ v1 ?_
    simp only [qz_i1, qz_i2, qz_u1, Nat.reduceEqDiff, reduceIte]
    refine ⟨fun h3 => ⟨trivial, trivial, Rel_now hR h3⟩, fun h3 => ?_⟩
    exfalso
    simp only [qI, qz_lt, qz_le, qz_n0, qz_n99999] at h1 h2 h3
    omega
  · refine v_X12_now _ v1 ⟨fun h3 => ?_, fun h3 => ⟨rfl, rfl, hR⟩⟩
    exfalso
    simp only [qI, qz_lt, qz_le, qz_n0, qz_n99999] at h1 h2 h3
    omega
  · refine v_X12_now _ v1 ⟨fun h3 => ?_, fun h3 => ⟨rfl, rfl, hR⟩⟩
    exfalso
    have h4 := hB.1
    simp only [qI, qz_lt, qz_le, qz_n0, qz_n99999] at h1 h3 h4
    omega
