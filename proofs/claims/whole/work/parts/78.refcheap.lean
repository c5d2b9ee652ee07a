/-! the reference's cheapest order -/
theorem qz_nodup {S : List Nat} (h : S.Pairwise (fun a b => a < b)) : S.Nodup := h.imp (fun hab => Nat.ne_of_lt hab)
theorem qE_63 {c h : Nat → Nat} (hc : ∀ s, c s ≤ 10000) {l : List Nat} (hl : l.length ≤ 8) : qE c h l 1000000 < 2 ^ 63 := by
  have := qE_le c h hc l 1000000 (Nat.le_refl _)
  have h2 : 10000000000 * l.length ≤ 10000000000 * 8 := Nat.mul_le_mul_left _ hl
  omega
theorem w_X12_cheapest {X : qz_X} {d : Nat} {Q : qz_Q} {g : qz_G} (hR : Rel g) (a0 : qz_G) (s0 : Same g a0) (v1 v3 : Int32) (hw : qR v1 (g.1 12 2)) (S : List Nat) (kd : Nat) (c h : Nat → Nat) (hk : g.1 89 v1.toNatClampNeg = nI kd) (hk8 : kd < 8) (hco : qCo (g.1 120) (g.1 121) kd c h) (hcA : ∀ s, c s ≤ 10000) (hS8 : S.length ≤ 8) (hS12 : ∀ s ∈ S, s < 12) (hasc : S.Pairwise (fun a b => a < b)) (h87 : a0.1 12 87 = nI S.length) (hrow : Rw (a0.1 144) S) (hv3 : v3 < nI S.length)
    (hv3m : -1 ≤ v3) (hq : ∀ g' b, Same g g' → qBest c h S b → (v3 = -1 → Q g' 0 (lN (qE c h b 1000000))) ∧ (∀ k, k < S.length → v3 = nI k → Q g' 0 ((nI (qAt b k)).toInt64))) : qz_WP X (d + 4) 281 Q 50 [(0, .ref 12), (1, .int v1), (3, .int v3), (4, .long (-1)), (6, .int 1)] [] a0 := by
  have key : ∀ (n : Nat) (p : List Nat) (a : qz_G) (bst : Int64), 429981696 ≤ n + qCd p → S.Perm p → Same g a → a.1 12 87 = nI S.length → Rw (a.1 144) p → ((bst = -1 ∧ ∀ q, S.Perm q → qCd p ≤ qCd q) ∨ (∃ b, S.Perm b ∧ bst = lN (qE c h b 1000000) ∧ Rw (a.1 145) b ∧ qCd b < qCd p ∧ ∀ q, S.Perm q → qCd q < qCd p → qE c h b 1000000 < qE c h q 1000000 ∨ (qE c h b 1000000 = qE c h q 1000000 ∧ qCd b ≤ qCd q))) → qz_WP X (d + 4) 281 Q 50 [(0, .ref 12), (1, .int v1), (3, .int v3), (4, .long bst), (6, .int 1)] [] a := by
    intro n
    induction n with
    | zero =>
      intro p a bst hn hp
      have h1 := qCd_lt p (fun s hs => hS12 s (hp.symm.subset hs))
      have h2 : 12 ^ p.length ≤ 12 ^ 8 := Nat.pow_le_pow_right (by decide) (by rw [← hp.length_eq]; exact hS8)
      have h3 : (12 : Nat) ^ 8 = 429981696 := by decide
      omega
    | succ n ih =>
      intro p a bst hn hp sa k87 krow hb
      have hpl : p.length = S.length := hp.length_eq.symm
      have hp12 : ∀ s ∈ p, s < 12 := fun s hs => hS12 s (hp.symm.subset hs)
      have hpn : p.Nodup := hp.nodup_iff.mp (qz_nodup hasc)
      have hEp := qE_63 (h := h) hcA (l := p) (by omega)
      -- behind the choice
      have go : ∀ (a' : qz_G) (b : List Nat), Same g a' → a'.1 12 87 = nI S.length → Rw (a'.1 144) p → S.Perm b → Rw (a'.1 145) b → qCd b ≤ qCd p → (∀ q, S.Perm q → qCd q ≤ qCd p → qE c h b 1000000 < qE c h q 1000000 ∨ (qE c h b 1000000 = qE c h q 1000000 ∧ qCd b ≤ qCd q)) → qz_WP X (d + 4) 281 Q 120 [(0, .ref 12), (1, .int v1), (3, .int v3), (4, .long (lN (qE c h b 1000000)))] [] a' := by
        intro a' b sa' k1 k2 hpb k3 hbp hbq
        refine v_X12_cheapest_120 (d := d + 2) a' v1 v3 _ (c_X12_nextRow (d := d + 1) a' p (by omega) (by rw [k1, hpl]) k2 hp12 hpn (fun hlast => ?_) (fun g' nx hf' hnp hnr hlt hnx => ?_))
        · have hB := hq a' b sa' ⟨hpb, fun q hpq => hbq q hpq (hlast q (hp.symm.trans hpq))⟩
          refine v_X12_cheapest_126 (d := d + 2) a' v1 v3 _ _ (v_X12_cheapest_50 (d := d + 2) a' v1 v3 _ _ ⟨fun _ => ⟨fun z => ?_, fun z => hB.1 z⟩, fun z => absurd rfl z⟩)
          have eS := qz_nI (n := S.length) (by omega)
          have z0 : ¬ v3.toInt = -1 := fun z2 => z (by rw [qz_eq, qz_m1]; exact z2)
          rw [qz_lt, eS] at hv3
          rw [qz_le, qz_m1] at hv3m
          obtain ⟨k, hk1, hk2⟩ := qz_nat (x := v3) (b := S.length - 1) (by omega) (by omega)
          have ek := qz_nI (n := k) (by omega)
          have hkS : k < S.length := by omega
          refine ⟨qz_vi (by omega) (by omega), ?_⟩
          have h2 := hB.2 k hkS hk2
          rw [hk2, nI_clamp (by omega), k3 k (by rw [← hpb.length_eq]; exact hkS)]
          exact h2
        · have s'' : Same g g' := sa'.tr (hf'.same (by decide))
          refine v_X12_cheapest_126 (d := d + 2) g' v1 v3 _ _ (ih nx g' _ (by omega) (hp.trans hnp) s'' (by rw [hf'.1 12 (by decide)]; exact k1) hnr (Or.inr ⟨b, hpb, rfl, by rw [hf'.1 145 (by decide)]; exact k3, by omega, fun q hpq hqn => hbq q hpq ?_⟩))
          rcases hnx q (hp.symm.trans hpq) with h1 | h1
          · exact h1
          · omega
      -- the row is taken
      have take : (∀ q, S.Perm q → qCd q ≤ qCd p → qE c h p 1000000 < qE c h q 1000000 ∨ (qE c h p 1000000 = qE c h q 1000000 ∧ qCd p ≤ qCd q)) → qz_WP X (d + 4) 281 Q 84 [(0, .ref 12), (1, .int v1), (3, .int v3), (7, .long (lN (qE c h p 1000000)))] [] a := by
        intro hall
        have eS := qz_nI (n := S.length) (by omega)
        refine v_X12_cheapest_84 (d := d + 2) a v1 v3 _ ?_
        refine qz_for (W := fun b v => qz_WP X (d + 4) 281 Q 91 [(0, .ref 12), (1, .int v1), (3, .int v3), (4, .long (lN (qE c h p 1000000))), (9, .int v)] [] b) (n := nI S.length) (fun i b => Frm [145] a b ∧ ∀ j, j < i → b.1 145 j = nI (qAt p j)) (by omega) (by omega) (fun i b v hI ev cv hle cont => ?_) a ⟨Frm.rf _ a, fun j hj => by omega⟩
        obtain ⟨fb, hb2⟩ := hI
        rw [eS] at hle cont
        have sb : Same g b := sa.tr (fb.same (by decide))
        have b87 : b.1 12 87 = nI S.length := by rw [fb.1 12 (by decide)]; exact k87
        refine v_X12_cheapest_91 (d := d + 2) b v1 v3 _ v ?_
        rw [b87, cv, fb.1 144 (by decide)]
        refine ⟨fun z => ?_, fun z => ⟨?_, ?_⟩⟩
        · rw [qz_le, eS, ev] at z
          exact go b p sb b87 (by rw [fb.1 144 (by decide)]; exact krow) hp (fun j hj => hb2 j (by omega)) (Nat.le_refl _) hall
        · rw [qz_le, eS, ev] at z
          exact qz_vi (by omega) (by omega)
        · rw [qz_le, eS, ev] at z
          rw [krow i (by omega)]
          refine v_X12_cheapest_114 (d := d + 2) _ v1 v3 _ v (cont _ (by omega) ⟨fb.ui 145 _ _ (by decide), fun j hj => ?_⟩)
          rw [qz_i1, if_pos rfl, qz_u1]
          by_cases cj : j = i
          · rw [if_pos cj, cj]
          · rw [if_neg cj]
            exact hb2 j (by omega)
      refine v_X12_cheapest_50 (d := d + 2) a v1 v3 bst 1 ⟨fun z => absurd z (by decide), fun _ => ⟨qz_in80 hw (rB_works hR), ?_⟩⟩
      rw [sa.1 89 (by decide), hk]
      refine c_X12_expected (d := d + 2) a p kd c h (by omega) (by rw [k87, hpl]) krow hp12 hk8 (by rw [sa.1 120 (by decide), sa.1 121 (by decide)]; exact hco) ?_
      refine v_X12_cheapest_67 (d := d + 2) a v1 v3 bst _ ?_
      rw [lg_cmp_eq, lg_cmp_ge]
      rcases hb with ⟨e1, hfirst⟩ | ⟨b, hpb, e1, k145, hbp, hbq⟩
      · refine ⟨fun _ => take (fun q hpq hqp => ?_), fun z => absurd e1 z⟩
        have h1 := hfirst q hpq
        have h2 : q = p := qCd_inj q p (hpq.length_eq.symm.trans hp.length_eq) (fun s hs => hS12 s (hpq.symm.subset hs)) hp12 (by omega)
        rw [h2]
        exact Or.inr ⟨rfl, Nat.le_refl _⟩
      · have hEb := qE_63 (h := h) hcA (l := b) (by rw [← hpb.length_eq]; exact hS8)
        subst e1
        refine ⟨fun z => ?_, fun _ => ⟨fun z => ?_, fun z => ?_⟩⟩
        · have h1 := pk_lT hEb
          rw [z] at h1
          have h2 : (-1 : Int64).toInt = -1 := by decide
          omega
        · rw [pk_lLE hEb hEp] at z
          refine go a b sa k87 krow hpb k145 (by omega) (fun q hpq hqp => ?_)
          rcases Nat.lt_or_eq_of_le hqp with h1 | h1
          · exact hbq q hpq h1
          · have h2 : q = p := qCd_inj q p (hpq.length_eq.symm.trans hp.length_eq) (fun s hs => hS12 s (hpq.symm.subset hs)) hp12 h1
            rw [h2]
            rcases Nat.lt_or_eq_of_le z with h3 | h3
            · exact Or.inl h3
            · exact Or.inr ⟨h3, by omega⟩
        · rw [pk_lLE hEb hEp] at z
          refine take (fun q hpq hqp => ?_)
          rcases Nat.lt_or_eq_of_le hqp with h1 | h1
          · have := hbq q hpq h1
            omega
          · have h2 : q = p := qCd_inj q p (hpq.length_eq.symm.trans hp.length_eq) (fun s hs => hS12 s (hpq.symm.subset hs)) hp12 h1
            rw [h2]
            exact Or.inr ⟨rfl, Nat.le_refl _⟩
  exact key 429981696 S a0 (-1) (Nat.le_add_right _ _) (List.Perm.refl S) s0 h87 hrow (Or.inl ⟨rfl, fun q hpq => qCd_min S q hasc hpq hS12⟩)
