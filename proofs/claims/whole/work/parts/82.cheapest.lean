/-! the cheapest search, both sides -/
theorem qFx.same {g a : qz_G} (h : qFx g a) : Same g a :=
  ⟨fun r hr => h.1 r (fun z => by rw [z] at hr; exact absurd hr (by decide)) (fun z => by rw [z] at hr; exact absurd hr (by decide)), fun q hq => congrFun (h.1 q.1 ((by decide : ∀ q ∈ qz_ks, ¬ q.1 = 65) q hq) ((by decide : ∀ q ∈ qz_ks, ¬ q.1 = 66) q hq)) q.2, h.2 75 (by decide), h.2 143 (by decide)⟩
theorem c_X4_findCheapest {X : qz_X} {d : Nat} {Q : qz_Q} (g : qz_G) (S : List Nat) (kd : Nat) (c h : Nat → Nat) (hS8 : S.length ≤ 8) (hS12 : ∀ s ∈ S, s < 12) (hasc : S.Pairwise (fun a b => a < b)) (h8 : g.1 9 8 = nI S.length) (hrow : Rw (g.1 63) S) (hk : g.1 9 11 = nI kd) (hk8 : kd < 8) (hco : qCo (g.1 61) (g.1 62) kd c h) (hcA : ∀ s, c s ≤ 10000) (hhA : ∀ s, h s ≤ 100)
    (hq : ∀ g' b, Same g g' → qBest c h S b → g'.2 9 12 = lN (qE c h b 1000000) → Rw (g'.1 66) b → g'.1 9 8 = nI S.length → Q g' 0 0) : qz_Call X (d + 13) 41 [.ref 9] g Q := by
  refine v_X4_findCheapest (d := d + 12) g (c_X4_rank (d := d + 9) g S kd c h hS8 hS12 h8 hrow hk hk8 hco (fun g1 R f1 n1 hpR hsR k64 krb => ?_))
  have hRl : R.length = S.length := hpR.length_eq.symm
  have hR12 : ∀ s ∈ R, s < 12 := fun s hs => hS12 s (hpR.symm.subset hs)
  have g8 : g1.1 9 8 = nI S.length := by rw [n1 8 (by decide)]; exact h8
  have g11 : g1.1 9 11 = nI kd := by rw [n1 11 (by decide)]; exact hk
  have gco : qCo (g1.1 61) (g1.1 62) kd c h := by rw [f1.1 61 (by decide), f1.1 62 (by decide)]; exact hco
  refine c_X4_expectedOf_64 (d := d + 9) g1 R kd c h (by omega) (by rw [g8, hRl]) k64 hR12 g11 hk8 gco ?_
  have hER := qE_le c h hcA R 1000000 (Nat.le_refl _)
  have s1 : Same g g1 := f1.same (by decide)
  rw [lN_1]
  have hsc : qSc (qz_ul g1 9 12 (lN (qE c h R 1000000 + 1))) S R kd c h := by
    unfold qSc
    rw [qz_l1]
    exact ⟨hS8, hS12, hasc, hpR, hsR, g8, by rw [f1.1 63 (by decide)]; exact hrow, k64, g11, hk8, gco, hcA, hhA, fun s hs => (krb s hs).trans (and_congr ⟨fun z => hpR.subset z, fun z => hpR.symm.subset z⟩ Iff.rfl)⟩
  have hx := c_X4_extend (X := X) hsc S.length (d + (8 - S.length)) (fun g5 _ _ => Q g5 0 0) [] (qz_ul g1 9 12 (lN (qE c h R 1000000 + 1))) 0 0 1000000 (qE c h R 1000000 + 1) none (by simp) ⟨S, List.Perm.refl S⟩ (fun s hs => by rw [b_0]; exact ⟨fun z => (by cases z), fun z => (by cases z)⟩) (Nat.le_refl _) (fun t => by rw [Nat.zero_add]; rfl) (qFx.rf _) (fun i hi => (by cases hi)) ⟨by rw [qz_l2, if_pos rfl, qz_u2, if_pos rfl], by omega, fun b hb => (by cases hb)⟩ (fun b hb => (by cases hb)) (fun a' lst' fb' x1 x2 x3 x4 x5 => ?_)
  · rw [show d + (8 - S.length) + S.length + 4 = d + 12 from by omega] at hx
    exact hx
  · have hall : ∀ p, S.Perm p → lst' ≤ qE c h p 1000000 ∧ (lst' = qE c h p 1000000 → ∀ b, fb' = some b → qCd b ≤ qCd p) := fun p hp => x5 p hp (List.nil_prefix)
    have hR1 := (hall R hpR).1
    rcases x4 with ⟨e1, e2⟩ | ⟨e1, b, e2, e3⟩
    · omega
    · obtain ⟨y1, y2, y3⟩ := x3.2.2 b e2
      refine hq a' b ((s1.ul 9 12 _ ⟨by decide, by decide⟩).tr x1.same) ⟨y2, fun p hp => ?_⟩ (by rw [x3.1, y3]) y1 (by rw [x1.1 9 (by decide) (by decide), qz_l1]; exact g8)
      have := hall p hp
      rcases Nat.lt_or_eq_of_le this.1 with z | z
      · exact Or.inl (by omega)
      · exact Or.inr ⟨by omega, this.2 z b e2⟩
theorem P_cheapest {X : qz_X} {d : Nat} {g : qz_G} (v1 v2 v3 : Int32) (hR : Rel g) : qz_Pair X (d + 14) 177 281 [.int v1, .int v2, .int v3] g := by
  obtain ⟨D, hD⟩ := LwD_of hR
  have s0 := Same.rf g
  refine v_X11_cheapest (d := d + 11) g v1 v2 v3 ?_
  rw [rS_3_12 hR s0, rS_0_10 hR s0]
  have refNo : (¬ qR v1 (g.1 12 2) ∨ ¬ qR v2 4 ∨ ¬ (-1 : Int32) ≤ v3) → qz_Call X (d + 14) 281 [.ref 12, .int v1, .int v2, .int v3] g (fun g2 w l2 => (0 : Int32) = w ∧ (-1 : Int64) = l2 ∧ Rel g2) := by
    intro hn
    refine v_X12_cheapest (d := d + 12) g v1 v2 v3 ⟨fun h1 => ⟨fun h2 => ⟨fun h3 => ?_, fun _ => ⟨rfl, rfl, hR⟩⟩, fun _ => ⟨rfl, rfl, hR⟩⟩, fun _ => ⟨rfl, rfl, hR⟩⟩
    rcases hn with hn | hn | hn
    · exact absurd h1 hn
    · exact absurd h2 hn
    · exact absurd h3 hn
  refine ⟨fun h1 => ⟨fun h2 => ⟨fun h3 => ?_, fun h3 => refNo (Or.inr (Or.inr h3))⟩, fun h2 => refNo (Or.inr (Or.inl h2))⟩, fun h1 => refNo (Or.inl h1)⟩
  have hkd := (RelW_at hR h1).1
  obtain ⟨kd, hk1, hk2⟩ := qz_nat (x := g.1 89 v1.toNatClampNeg) (b := 7) (by
    have := hkd.1
    rw [qz_lt, qz_n0] at this
    omega) (by
    have := hkd.2
    rw [qz_le, qz_n8] at this
    omega)
  have hco := qCo_of hR kd
  have hC := hR.2.2.2.2.2.2.2.2.2.2.2.1
  have hcA : ∀ s, (fun s => (g.1 120 s).toNatClampNeg) s ≤ 10000 := fun s => by
    have h4 := hC.1 s
    have c1 := qz_cl (g.1 120 s)
    simp only [qI, qz_lt, qz_n0, qz_n10000] at h4
    show (g.1 120 s).toNatClampNeg ≤ 10000
    omega
  have hhA : ∀ s, (fun s => (g.1 121 (8 * s + kd)).toNatClampNeg) s ≤ 100 := fun s => by
    have h4 := hC.2 (8 * s + kd)
    have c1 := qz_cl (g.1 121 (8 * s + kd))
    simp only [qI, qz_lt, qz_n0, qz_n100] at h4
    show (g.1 121 (8 * s + kd)).toNatClampNeg ≤ 100
    omega
  generalize (fun s => (g.1 120 s).toNatClampNeg) = c at hco hcA
  generalize (fun s => (g.1 121 (8 * s + kd)).toNatClampNeg) = h at hco hhA
  have hS8 : (qTd g D v1 v2).length ≤ 8 := qGt_len _ 12
  have hS12 : ∀ s ∈ qTd g D v1 v2, s < 12 := qGt_lt _ 12
  have hasc : (qTd g D v1 v2).Pairwise (fun a b => a < b) := qGt_asc _ 12
  have eS := qz_nI (n := (qTd g D v1 v2).length) (by omega)
  refine c_X4_gather (d := d + 4) hR hD g s0 v1 v2 h1 (fun g4 s4 k11 k8 k63 k9 => ?_)
  refine c_X4_findCheapest (d := d) g4 (qTd g D v1 v2) kd c h hS8 hS12 hasc k8 k63 (by rw [k11]; exact hk2) (by omega) (by rw [rE_61 hR s4, rE_62 hR s4]; exact hco) hcA hhA (fun g6 b s46 hB k12 k66 k68 => ?_)
  have s6 : Same g g6 := s4.tr s46
  have hbl : b.length = (qTd g D v1 v2).length := hB.1.length_eq.symm
  rw [k68, k12]
  -- the reference
  have ref : ∀ (x : Int64), (¬ v3 < nI (qTd g D v1 v2).length → x = -1) → (v3 = -1 → x = lN (qE c h b 1000000)) → (∀ k, k < (qTd g D v1 v2).length → v3 = nI k → x = (nI (qAt b k)).toInt64) → qz_Call X (d + 14) 281 [.ref 12, .int v1, .int v2, .int v3] g6 (fun g2 w l2 => (0 : Int32) = w ∧ x = l2 ∧ Rel g2) := by
    intro x y1 y2 y3
    refine v_X12_cheapest (d := d + 12) g6 v1 v2 v3 ?_
    rw [rM_12_2 s6]
    refine ⟨fun _ => ⟨fun _ => ⟨fun _ => ?_, fun z => absurd h3 z⟩, fun z => absurd h2 z⟩, fun z => absurd h1 z⟩
    refine c_X12_setsRow (d := d + 7) hR hD g6 (SamB.of s6) rfl v1 v2 h1 (fun g7 s7 m87 m144 => ?_)
    rw [m87]
    refine ⟨fun z => ?_, fun z => ⟨rfl, y1 z, Rel_same hR s7.2⟩⟩
    refine w_X12_cheapest (d := d + 10) hR g7 s7.2 v1 v3 h1 (qTd g D v1 v2) kd c h hk2 (by omega) hco hcA hS8 hS12 hasc m87 m144 z h3 (fun g' b' s' hB' => ?_)
    rw [qBest_one hS12 hB' hB]
    exact ⟨fun z2 => ⟨rfl, y2 z2, Rel_same hR s'⟩, fun k hk3 hk4 => ⟨rfl, y3 k hk3 hk4, Rel_same hR s'⟩⟩
  refine ⟨fun c1 => ⟨fun c2 => ⟨?_, ?_⟩, fun c2 => ?_⟩, fun c1 => ?_⟩
  · have h5 := c2.1
    have h6 := c2.2
    rw [qz_lt, qz_n0] at h5
    rw [qz_le, eS] at h6
    exact qz_vi (by omega) (by omega)
  · have h5 := c2.1
    have h6 := c2.2
    rw [qz_lt, qz_n0] at h5
    rw [qz_le, eS] at h6
    refine ref _ (fun z => ?_) (fun z => absurd z c1) (fun k hk3 hk4 => ?_)
    · rw [qz_lt, eS] at z
      omega
    · rw [hk4, nI_clamp (by omega), k66 k (by omega)]
  · refine ref _ (fun z => by decide) (fun z => absurd z c1) (fun k hk3 hk4 => absurd ?_ c2)
    have ek := qz_nI (n := k) (by omega)
    rw [hk4]
    exact ⟨by rw [qz_lt, ek, qz_n0]; omega, by rw [qz_le, ek, eS]; omega⟩
  · refine ref _ (fun z => ?_) (fun _ => rfl) (fun k hk3 hk4 => ?_)
    · rw [c1, qz_lt, eS, qz_m1] at z
      omega
    · have ek := qz_nI (n := k) (by omega)
      rw [c1, qz_eq, ek, qz_m1] at hk4
      omega
