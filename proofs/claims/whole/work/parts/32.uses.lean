theorem qz_earn_congr {who who' : Nat → Int32} {pence pence' : Nat → Int64} {k : Int32} : ∀ (n : Nat), (∀ i, i < n → who' i = who i ∧ pence' i = pence i) → qz_earn who' pence' k n = qz_earn who pence k n
  | 0, _ => rfl
  | n + 1, h => by
    simp only [qz_earn]
    rw [qz_earn_congr n (fun i hi => h i (by omega)), (h n (by omega)).1, (h n (by omega)).2]
theorem RelU_add {n n' l : Int32} {earn : Nat → Int64} {who : Nat → Int32} {pence : Nat → Int64} {a : Int32} {x : Int64} (h : RelU n earn who pence l) (e1 : n'.toInt = n.toInt + 1) (e2 : 0 ≤ n.toInt) (e3 : ((n.toNatClampNeg : Nat) : Int) = n.toInt) (ha : qR a l) : RelU n' (vp_updL earn a.toNatClampNeg (earn a.toNatClampNeg + x)) (upd who n.toNatClampNeg a) (vp_updL pence n.toNatClampNeg x) l := by
  have en : n'.toNatClampNeg = n.toNatClampNeg + 1 := by
    have := qz_cl n'
    omega
  refine ⟨fun k hk => ?_, fun i hi => ?_⟩
  · rw [en]
    simp only [qz_earn, qz_u1, qz_u2, if_true]
    rw [qz_earn_congr (who := who) (pence := pence) n.toNatClampNeg (fun i hi => by
      have : ¬ i = n.toNatClampNeg := by omega
      simp only [qz_u1, qz_u2, this, if_false, and_self])]
    have hs := qz_self ha.1
    by_cases e : k = a.toNatClampNeg
    · have ea : a = nI k := by rw [e]; exact hs.symm
      rw [if_pos e, if_pos ea, ← h.1 k hk, e]
    · have ea : ¬ a = nI k := by
        intro z
        apply e
        rw [z]
        exact (nI_clamp (by omega)).symm
      rw [if_neg e, if_neg ea, ← h.1 k hk]
      exact (Int64.add_zero _).symm
  · simp only [qz_u1]
    rcases qz_split1 e1 e3 hi with e | ⟨e, ne⟩
    · simp only [e, if_true]; exact ha
    · simp only [ne, if_false]; exact h.2 i e
theorem Rel_uses {g : qz_G} {a : Int32} {x : Int64} (hR : Rel g) (h300 : ¬ g.1 12 73 = 300) (ha : qR a (g.1 12 72)) : Rel (qz_ui (qz_ul (qz_ui (qz_ui (qz_ul g 75 a.toNatClampNeg ((g.2 75 a.toNatClampNeg) + x)) 10 13 ((g.1 12 73) + 1)) 142 ((g.1 12 73).toNatClampNeg) a) 143 ((g.1 12 73).toNatClampNeg) x) 12 73 ((g.1 12 73) + 1)) := by
  obtain ⟨hE, hS, hB, hP, hD, hW, hZ, hK, hT, hA, hV, hC, hY, hJ, hU, hL⟩ := hR
  have hB2 := hB.2.2.2.2.2.2.2.2.2.2
  have hlt : (g.1 12 73).toInt < 300 := by
    simp only [qI, qz_lt, qz_eq, qz_n0, qz_n300] at hB2 h300
    omega
  obtain ⟨e1, e2, e3⟩ := qz_inc (b := 300) hB2 (by decide) (by decide) hlt
  unfold Rel RelE RelS
  unfold RelE at hE
  unfold RelS at hS
  simp only [qz_i1, qz_i2, qz_l1, qz_l2, qz_u1, Nat.reduceEqDiff, reduceIte]
  refine ⟨hE, ?_, ?_, hP, hD, hW, hZ, hK, hT, hA, hV, hC, hY, hJ, RelU_add hU e1 e2 e3 ha, hL⟩
  · simp only [hS, and_self]
  · unfold RelB at hB ⊢
    obtain ⟨h1, h2, h3, h4, h5, h6, h7, h8, h9, h10, h11⟩ := hB
    refine ⟨h1, h2, h3, h4, h5, h6, h7, h8, h9, h10, ?_⟩
    simp only [qI, qz_lt, qz_le, qz_n0, qz_n300, e1] at h11 ⊢
    omega
theorem P_uses {X : qz_X} {d : Nat} {g : qz_G} (v1 v2 v3 v4 : Int32) (hR : Rel g) : qz_Pair X (d + 3) 174 273 [.int v1, .int v2, .int v3, .int v4] g := by
  have hE := hR.1
  have hS := hR.2.1
  have hbl := hR.2.2.1.2.2.2.2.2.2.2.2.2.1
  have hbu := hR.2.2.1.2.2.2.2.2.2.2.2.2.2
  have hV := hR.2.2.2.2.2.2.2.2.2.2.1
  unfold RelS at hS
  unfold RelE at hE
  have hv : g.1 12 73 < 300 → vp_in (g.1 12 73) 300 ∧ ¬ g.1 12 73 = 300 := by
    intro h4
    simp only [qI, qz_lt, qz_eq, qz_n0, qz_n300] at hbu h4 ⊢
    exact ⟨qz_vi (by omega) (by omega), by omega⟩
  have hf : ¬ g.1 12 73 < 300 → g.1 12 73 = 300 := by
    intro h4
    simp only [qI, qz_lt, qz_eq, qz_n0, qz_n300] at hbu h4 ⊢
    omega
  -- the reference refuses
  have bad : (qR v1 (g.1 12 72) → qI v2 (g.1 138 v1.toNatClampNeg) (g.1 12 0) → (g.1 140 v1.toNatClampNeg = -1 ∨ ¬ g.1 140 v1.toNatClampNeg ≤ v2) → qI v3 1 100000 → qI v4 0 100000 → g.1 12 73 = 300) → qz_Call X (d + 3) 273 [.ref 12, .int v1, .int v2, .int v3, .int v4] g (fun g2 w l2 => (0 : Int32) = w ∧ (0 : Int64) = l2 ∧ Rel g2) := by
    intro hb
    exact v_X12_uses (d := d + 1) _ v1 v2 v3 v4 ⟨fun a1 => ⟨qz_in100 a1 hbl, fun a2 => ⟨fun a3 => ⟨fun a4 => ⟨fun a5 => ⟨fun a6 => absurd (hb a1 a2 (Or.inl a3) a4 a5) a6, fun _ => ⟨rfl, rfl, hR⟩⟩, fun _ => ⟨rfl, rfl, hR⟩⟩, fun _ => ⟨rfl, rfl, hR⟩⟩, fun a3 => ⟨fun _ => ⟨rfl, rfl, hR⟩, fun a3' => ⟨fun a4 => ⟨fun a5 => ⟨fun a6 => absurd (hb a1 a2 (Or.inr a3') a4 a5) a6, fun _ => ⟨rfl, rfl, hR⟩⟩, fun _ => ⟨rfl, rfl, hR⟩⟩, fun _ => ⟨rfl, rfl, hR⟩⟩⟩⟩, fun _ => ⟨rfl, rfl, hR⟩⟩, fun _ => ⟨rfl, rfl, hR⟩⟩
  refine v_X11_uses g v1 v2 v3 v4 ?_
  simp only [hS, hE]
  refine ⟨fun h1 => ⟨fun h2 => ?_, fun h2 => ⟨fun h3 => ?_, fun h3 => ⟨fun h4 => ?_, fun h4 => ⟨fun h5 => ?_, fun h5 => ⟨fun h6 => ⟨qz_in100 h6 hbl, fun h7 => ?_, fun h7 => ⟨fun h8 => ⟨fun h9 => ?_, fun h9 => ?_⟩, fun h8 => ⟨fun h8' => ?_, fun h8' => ⟨fun h9 => ?_, fun h9 => ?_⟩⟩⟩⟩, fun h6 => ?_⟩⟩⟩⟩⟩, fun h1 => ?_⟩
  · exact bad (fun _ _ _ a _ => absurd h2 a.1)
  · exact bad (fun _ _ _ a _ => absurd h3 a.2)
  · exact bad (fun _ _ _ _ a => absurd h4 a.1)
  · exact bad (fun _ _ _ _ a => absurd h5 a.2)
  · exact bad (fun _ a _ _ _ => absurd h7 a.1)
  · refine v_X12_uses (d := d + 1) _ v1 v2 v3 v4 ?_
    simp only [qz_i1, qz_i2, qz_l1, qz_l2, qz_u1, Nat.reduceEqDiff, reduceIte]
    exact ⟨fun _ => ⟨qz_in100 h6 hbl, fun _ => ⟨fun _ => ⟨fun _ => ⟨fun _ => ⟨fun _ => ⟨(hv h9).1, trivial, trivial, Rel_uses hR (hv h9).2 h6⟩, fun z => absurd z (hv h9).2⟩, fun z => absurd ⟨h4, h5⟩ z⟩, fun z => absurd ⟨h2, h3⟩ z⟩, fun z => absurd h8 z⟩, fun z => absurd ⟨h7, h1.2⟩ z⟩, fun z => absurd h6 z⟩
  · exact bad (fun _ _ _ _ _ => hf h9)
  · exact bad (fun _ _ a _ _ => absurd h8' (a.resolve_left h8))
  · refine v_X12_uses (d := d + 1) _ v1 v2 v3 v4 ?_
    simp only [qz_i1, qz_i2, qz_l1, qz_l2, qz_u1, Nat.reduceEqDiff, reduceIte]
    exact ⟨fun _ => ⟨qz_in100 h6 hbl, fun _ => ⟨fun z => absurd z h8, fun _ => ⟨fun z => absurd z h8', fun _ => ⟨fun _ => ⟨fun _ => ⟨fun _ => ⟨(hv h9).1, trivial, trivial, Rel_uses hR (hv h9).2 h6⟩, fun z => absurd z (hv h9).2⟩, fun z => absurd ⟨h4, h5⟩ z⟩, fun z => absurd ⟨h2, h3⟩ z⟩⟩⟩, fun z => absurd ⟨h7, h1.2⟩ z⟩, fun z => absurd h6 z⟩
  · exact bad (fun _ _ _ _ _ => hf h9)
  · exact bad (fun a _ _ _ _ => absurd a h6)
  · refine bad (fun a b _ _ _ => absurd ⟨?_, b.2⟩ h1)
    have hd := (hV v1.toNatClampNeg (by
      have c := qz_cl v1
      simp only [qR, qz_lt, qz_le, qz_n0] at a
      omega)).2.2.1
    have b1 := b.1
    have hd1 := hd.1
    simp only [qz_lt, qz_n0] at b1 hd1 ⊢
    omega
