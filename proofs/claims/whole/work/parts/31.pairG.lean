theorem qz_ix80 {w l : Int32} {n : Int32} (hw : qR w n) (hn : qI n 0 80) (hl : qR l 4) : (80 * l + w).toNatClampNeg = 80 * l.toNatClampNeg + w.toNatClampNeg ∧ vp_in (80 * l + w) 320 ∧ w.toNatClampNeg < 80 ∧ l.toNatClampNeg < 4 := by
  simp only [qR, qI, qz_lt, qz_le, qz_n0, qz_n80, qz_n4] at hw hn hl
  have e1 := qz_ml (a := 80) (b := l) (by rw [qz_n80]; omega) (by rw [qz_n80]; omega)
  rw [qz_n80] at e1
  have e2 := qz_ad (a := 80 * l) (b := w) (by omega) (by omega)
  have c1 := qz_cl (80 * l + w)
  have c2 := qz_cl w
  have c3 := qz_cl l
  exact ⟨by omega, qz_vi (by omega) (by omega), by omega, by omega⟩
theorem Rel_list {g : qz_G} {w l : Int32} {k : Nat} (hR : Rel g) (hw : w.toNatClampNeg < 80) (hl : l.toNatClampNeg < 4) (hl0 : ¬ l < 0) (hk : k = 80 * l.toNatClampNeg + w.toNatClampNeg) : Rel (qz_ui (qz_ui g 32 w.toNatClampNeg ((g.1 32 w.toNatClampNeg) ||| (1 <<< (l &&& 31)))) 146 k (vp_nar .boolean 1)) := by
  obtain ⟨hE, hS, hB, hP, hD, hW, hZ, hK, hT, hA, hV, hC, hY, hJ, hU, hL⟩ := hR
  unfold Rel RelE RelS
  unfold RelE at hE
  unfold RelS at hS
  simp only [qz_i1, qz_i2, qz_u1, Nat.reduceEqDiff, reduceIte]
  refine ⟨hE, hS, hB, hP, hD, hW, hZ, hK, hT, hA, hV, hC, hY, ?_, hU, hL⟩
  intro w' l' hw' hl'
  have h0 := hJ w' l' hw' hl'
  simp only [qz_u1]
  rw [b_bit _ (by omega : l' < 32)] at h0 ⊢
  have hls := qz_self hl0
  have hb : vp_nar .boolean 1 = 1 := rfl
  by_cases e : w' = w.toNatClampNeg
  · subst e
    simp only [if_true]
    rw [b_or, ← hls, b_one (by omega) (by omega)]
    by_cases e2 : l' = l.toNatClampNeg
    · rw [if_pos (by omega), hb]
      simp [e2]
    · rw [if_neg (by omega), ← h0]
      simp [e2]
  · rw [if_neg e, if_neg (by omega)]
    exact h0
theorem P_list {X : qz_X} {d : Nat} {g : qz_G} (v1 v2 : Int32) (hR : Rel g) : qz_Pair X (d + 4) 180 285 [.int v1, .int v2] g := by
  have hS := hR.2.1
  have hbw := hR.2.2.1.2.2.1
  have hJ : RelJ (g.1 32) (g.1 146) := hR.2.2.2.2.2.2.2.2.2.2.2.2.2.1
  unfold RelS at hS
  refine v_X11_list g v1 v2 ?_
  simp only [hS]
  refine ⟨fun h1 => ⟨fun h2 => ⟨qz_in80 h1 hbw, fun h3 => ?_, fun h3 => ?_⟩, fun h2 => ?_⟩, fun h1 => ?_⟩
  · obtain ⟨x1, x2, x3, x4⟩ := qz_ix80 h1 hbw h2
    have hj := hJ v1.toNatClampNeg v2.toNatClampNeg x3 x4
    rw [qz_self h2.1, ← x1] at hj
    refine v_X12_list (d := d + 2) _ v1 v2 ?_
    simp only [qz_i1, qz_i2, qz_u1, Nat.reduceEqDiff, reduceIte]
    exact ⟨fun _ => ⟨fun _ => ⟨x2, fun _ => ⟨trivial, trivial, Rel_list hR x3 x4 h2.1 x1⟩, fun z => absurd (hj.mp h3) z⟩, fun z => absurd h2 z⟩, fun z => absurd h1 z⟩
  · obtain ⟨x1, x2, x3, x4⟩ := qz_ix80 h1 hbw h2
    have hj := hJ v1.toNatClampNeg v2.toNatClampNeg x3 x4
    rw [qz_self h2.1, ← x1] at hj
    exact v_X12_list (d := d + 2) _ v1 v2 ⟨fun _ => ⟨fun _ => ⟨x2, fun z => absurd (hj.mpr z) h3, fun _ => ⟨rfl, rfl, hR⟩⟩, fun z => absurd h2 z⟩, fun z => absurd h1 z⟩
  · exact v_X12_list (d := d + 2) _ v1 v2 ⟨fun _ => ⟨fun z => absurd z h2, fun _ => ⟨rfl, rfl, hR⟩⟩, fun z => absurd h1 z⟩
  · exact v_X12_list (d := d + 2) _ v1 v2 ⟨fun z => absurd z h1, fun _ => ⟨rfl, rfl, hR⟩⟩
theorem RelW_add {n n' o : Int32} {r1 r2 r3 r4 r5 r6 r7 r8 r9 r10 : Nat → Int32} {a b c e f i dp : Int32} (h : RelW n o r1 r2 r3 r4 r5 r6 r7 r8 r9 r10) (hz : RelZ n r8) (e1 : n'.toInt = n.toInt + 1) (e2 : 0 ≤ n.toInt) (e3 : ((n.toNatClampNeg : Nat) : Int) = n.toInt) (ha : qR a 8) (hb : qR b 4) (hc : qI c 0 99999) (he : qI e c 99999) (hf : qI f 0 255) (hd : (i = -1 ∧ dp = 1) ∨ (qR i n ∧ dp.toInt = (r7 i.toNatClampNeg).toInt + 1 ∧ qI dp 1 8)) : RelW n' o (upd r1 n.toNatClampNeg a) (upd r2 n.toNatClampNeg b) (upd r3 n.toNatClampNeg c) (upd r4 n.toNatClampNeg e) (upd r5 n.toNatClampNeg f) (upd r6 n.toNatClampNeg i) (upd r7 n.toNatClampNeg dp) r8 r9 r10 := by
  intro k hk
  simp only [qz_u1]
  rcases qz_split1 e1 e3 hk with e' | ⟨e', ne⟩
  · subst e'
    simp only [if_true]
    have hm : r8 n.toNatClampNeg = 0 := hz _ (by omega)
    have hm4 : qI (r8 n.toNatClampNeg) 0 4 ∧ ∀ j : Nat, (j : Int) < (r8 n.toNatClampNeg).toInt → qR (r9 (4 * n.toNatClampNeg + j)) o ∧ qI (r10 (4 * n.toNatClampNeg + j)) 1 100 := by
      rw [hm]
      exact ⟨⟨by decide, by decide⟩, fun j hj => by rw [qz_n0] at hj; omega⟩
    rcases hd with ⟨rfl, rfl⟩ | ⟨h1, h2, h3⟩
    · exact ⟨ha, hb, hc, he, hf, Or.inl rfl, ⟨by decide, by decide⟩, fun _ => rfl, fun z => absurd rfl z, hm4⟩
    · have hni : ¬ i = -1 := fun z => h1.1 (by rw [z]; decide)
      have hci := qz_cl i
      have h1' := h1
      simp only [qR, qz_lt, qz_le, qz_n0] at h1'
      refine ⟨ha, hb, hc, he, hf, Or.inr ⟨qR_mono h1 (by omega), by omega⟩, h3, fun z => absurd z hni, fun _ => ?_, hm4⟩
      have hne : ¬ i.toNatClampNeg = n.toNatClampNeg := by omega
      simp only [hne, if_false]
      exact h2
  · simp only [ne, if_false]
    obtain ⟨a1, a2, a3, a4, a5, a6, a7, a8, a9, a10⟩ := h k e'
    refine ⟨a1, a2, a3, a4, a5, a6.imp id (fun z => ⟨qR_mono z.1 (by omega), z.2⟩), a7, a8, fun z => ?_, a10⟩
    have h6 := a6.resolve_left z
    have hci := qz_cl (r6 k)
    have h6' := h6.1
    simp only [qR, qz_lt, qz_le, qz_n0] at h6'
    have hne : ¬ (r6 k).toNatClampNeg = n.toNatClampNeg := by omega
    simp only [hne, if_false]
    exact a9 z
theorem Rel_work {g : qz_G} {a b c e f i dp : Int32} (hR : Rel g) (h80 : ¬ g.1 12 2 = 80) (ha : qR a 8) (hb : qR b 4) (hc : qI c 0 99999) (he : qI e c 99999) (hf : qI f 0 255) (hd : (i = -1 ∧ dp = 1) ∨ (qR i (g.1 12 2) ∧ dp.toInt = (g.1 95 i.toNatClampNeg).toInt + 1 ∧ qI dp 1 8)) : Rel (qz_ui (qz_ui (qz_ui (qz_ui (qz_ui (qz_ui (qz_ui (qz_ui (qz_ui (qz_ui (qz_ui (qz_ui (qz_ui (qz_ui (qz_ui (qz_ui g 22 ((g.1 12 2).toNatClampNeg) a) 23 ((g.1 12 2).toNatClampNeg) b) 24 ((g.1 12 2).toNatClampNeg) c) 25 ((g.1 12 2).toNatClampNeg) e) 26 ((g.1 12 2).toNatClampNeg) f) 27 ((g.1 12 2).toNatClampNeg) i) 28 ((g.1 12 2).toNatClampNeg) dp) 3 12 ((g.1 12 2) + 1)) 89 ((g.1 12 2).toNatClampNeg) a) 90 ((g.1 12 2).toNatClampNeg) b) 91 ((g.1 12 2).toNatClampNeg) c) 92 ((g.1 12 2).toNatClampNeg) e) 93 ((g.1 12 2).toNatClampNeg) f) 94 ((g.1 12 2).toNatClampNeg) i) 95 ((g.1 12 2).toNatClampNeg) dp) 12 2 ((g.1 12 2) + 1)) := by
  obtain ⟨hE, hS, hB, hP, hD, hW, hZ, hK, hT, hA, hV, hC, hY, hJ, hU, hL⟩ := hR
  have hB2 := hB.2.2.1
  have hlt : (g.1 12 2).toInt < 80 := by
    simp only [qI, qz_lt, qz_eq, qz_n0, qz_n80] at hB2 h80
    omega
  obtain ⟨e1, e2, e3⟩ := qz_inc (b := 80) hB2 (by decide) (by decide) hlt
  unfold Rel RelE RelS
  unfold RelE at hE
  unfold RelS at hS
  simp only [qz_i1, qz_i2, qz_u1, Nat.reduceEqDiff, reduceIte]
  refine ⟨?_, ?_, ?_, hP, hD, RelW_add hW hZ e1 e2 e3 ha hb hc he hf hd, fun w hw => hZ w (by omega), fun k hk => ⟨qR_mono (hK k hk).1 (by omega), (hK k hk).2⟩, hT, hA, fun k hk => ⟨qR_mono (hV k hk).1 (by omega), (hV k hk).2⟩, hC, hY, hJ, hU, hL⟩
  · simp only [hE, and_self]
  · simp only [hS, and_self]
  · unfold RelB at hB ⊢
    obtain ⟨h1, h2, h3, h4⟩ := hB
    refine ⟨h1, h2, ?_, h4⟩
    simp only [qI, qz_lt, qz_le, qz_n0, qz_n80, e1] at h3 ⊢
    omega
theorem P_work {X : qz_X} {d : Nat} {g : qz_G} (v1 v2 v3 v4 v5 v6 : Int32) (hR : Rel g) : qz_Pair X (d + 3) 155 208 [.int v1, .int v2, .int v3, .int v4, .int v5, .int v6] g := by
  have hE := hR.1
  have hS := hR.2.1
  have hbw := hR.2.2.1.2.2.1
  unfold RelS at hS
  unfold RelE at hE
  have r1 := (qz_RI v1).1
  have r5 := (qz_RI v5).2.2.2.2.2.2.1
  have hn1 : ¬ qR (-1) (g.1 12 2) := fun z => z.1 (by decide)
  -- the reference answers c without a change
  have bad : (qI v1 0 7 → qR v2 4 → qI v3 0 99999 → qI v4 v3 99999 → qI v5 0 255 → ((v6 = -1 → g.1 12 2 = 80) ∧ (qR v6 (g.1 12 2) → g.1 12 2 = 80 ∨ 8 ≤ g.1 95 v6.toNatClampNeg))) → qz_Call X (d + 3) 208 [.ref 12, .int v1, .int v2, .int v3, .int v4, .int v5, .int v6] g (fun g2 w l2 => (-1 : Int32) = w ∧ (0 : Int64) = l2 ∧ Rel g2) := by
    intro hb
    refine v_X12_work (d := d + 1) _ v1 v2 v3 v4 v5 v6 ⟨fun a1 => ⟨fun a2 => ⟨fun a3 => ⟨fun a4 => ⟨fun a5 => ⟨fun a6 => ⟨fun a7 => absurd ((hb a1 a2 a3 a4 a5).1 a6) a7, fun _ => ⟨rfl, rfl, hR⟩⟩, fun a6 => ⟨fun a7 => ⟨fun a8 => ⟨qz_in80 a7 hbw, fun a9 => ?_, fun _ => ⟨rfl, rfl, hR⟩⟩, fun _ => ⟨rfl, rfl, hR⟩⟩, fun _ => ⟨rfl, rfl, hR⟩⟩⟩, fun _ => ⟨rfl, rfl, hR⟩⟩, fun _ => ⟨rfl, rfl, hR⟩⟩, fun _ => ⟨rfl, rfl, hR⟩⟩, fun _ => ⟨rfl, rfl, hR⟩⟩, fun _ => ⟨rfl, rfl, hR⟩⟩
    exfalso
    have h8 := ((hb a1 a2 a3 a4 a5).2 a7).resolve_left a8
    have hdp := (RelW_at hR a7).2.2.2.2.2.2.1
    simp only [qI, qz_lt, qz_le, qz_n1, qz_n8] at h8 hdp a9
    rw [qz_ad (by rw [qz_n1]; omega) (by rw [qz_n1]; omega), qz_n1] at a9
    omega
  refine v_X11_work g v1 v2 v3 v4 v5 v6 ?_
  simp only [hS, hE]
  refine ⟨fun h1 => ⟨fun h2 => ⟨fun h3 => ⟨fun h4 => ⟨hbw, fun h5 => ⟨fun h6 => ⟨?_, fun h7 => ⟨qz_in80 h7 hbw, ?_⟩, fun h7 => ?_⟩, fun h6 => ?_⟩, fun h5 => ?_⟩, fun h4 => ?_⟩, fun h3 => ?_⟩, fun h2 => ?_⟩, fun h1 => ?_⟩
  · simp only [qI, qz_lt, qz_n0, qz_n80] at hbw h6
    exact qz_vi (by omega) (by omega)
  · have h6' : ¬ g.1 12 2 = 80 := by simp only [qz_lt, qz_eq, qz_n80] at h6 ⊢; omega
    have hv : vp_in (g.1 12 2) 80 := by
      simp only [qI, qz_lt, qz_n0, qz_n80] at hbw h6
      exact qz_vi (by omega) (by omega)
    have hne : ¬ v6 = -1 := fun z => hn1 (by rw [← z]; exact h7)
    have hle := (h5.resolve_left hne).2
    have hdp := (RelW_at hR h7).2.2.2.2.2.2.1
    have hd1 : ((g.1 95 v6.toNatClampNeg) + 1).toInt = (g.1 95 v6.toNatClampNeg).toInt + 1 := by
      simp only [qI, qz_lt, qz_le, qz_n1, qz_n8] at hle hdp
      have := qz_ad (a := g.1 95 v6.toNatClampNeg) (b := 1) (by rw [qz_n1]; omega) (by rw [qz_n1]; omega)
      rw [qz_n1] at this
      exact this
    have hd2 : qI ((g.1 95 v6.toNatClampNeg) + 1) 1 8 ∧ ((g.1 95 v6.toNatClampNeg) + 1) ≤ 8 := by
      simp only [qI, qz_lt, qz_le, qz_n1, qz_n8, hd1] at hle hdp ⊢
      omega
    have h4' := r5.mp h4
    have hsp : qI v4 v3 99999 := ⟨h3.2.2, h3.2.1.2⟩
    refine v_X12_work (d := d + 1) _ v1 v2 v3 v4 v5 v6 ?_
    simp only [qz_i1, qz_i2, qz_u1, Nat.reduceEqDiff, reduceIte]
    exact ⟨fun _ => ⟨fun _ => ⟨fun _ => ⟨fun _ => ⟨fun _ => ⟨fun z => absurd z hne, fun _ => ⟨fun _ => ⟨fun _ => ⟨qz_in80 h7 hbw, fun _ => ⟨hv, trivial, trivial, Rel_work hR h6' h1 h2 h3.1 hsp h4' (Or.inr ⟨h7, hd1, hd2.1⟩)⟩, fun z => absurd hd2.2 z⟩, fun z => absurd z h6'⟩, fun z => absurd h7 z⟩⟩, fun z => absurd h4' z⟩, fun z => absurd hsp z⟩, fun z => absurd h3.1 z⟩, fun z => absurd h2 z⟩, fun z => absurd (r1.mp h1) z⟩
  · have h6' : ¬ g.1 12 2 = 80 := by simp only [qz_lt, qz_eq, qz_n80] at h6 ⊢; omega
    have hv : vp_in (g.1 12 2) 80 := by
      simp only [qI, qz_lt, qz_n0, qz_n80] at hbw h6
      exact qz_vi (by omega) (by omega)
    have he : v6 = -1 := h5.elim id (fun z => absurd z.1 h7)
    have h4' := r5.mp h4
    have hsp : qI v4 v3 99999 := ⟨h3.2.2, h3.2.1.2⟩
    refine v_X12_work (d := d + 1) _ v1 v2 v3 v4 v5 v6 ?_
    simp only [qz_i1, qz_i2, qz_u1, Nat.reduceEqDiff, reduceIte]
    exact ⟨fun _ => ⟨fun _ => ⟨fun _ => ⟨fun _ => ⟨fun _ => ⟨fun _ => ⟨fun _ => ⟨hv, trivial, trivial, Rel_work hR h6' h1 h2 h3.1 hsp h4' (Or.inl ⟨he, rfl⟩)⟩, fun z => absurd z h6'⟩, fun z => absurd he z⟩, fun z => absurd h4' z⟩, fun z => absurd hsp z⟩, fun z => absurd h3.1 z⟩, fun z => absurd h2 z⟩, fun z => absurd (r1.mp h1) z⟩
  · have h80 : g.1 12 2 = 80 := by
      simp only [qI, qz_lt, qz_eq, qz_n0, qz_n80] at hbw h6 ⊢
      omega
    exact bad (fun _ _ _ _ _ => ⟨fun _ => h80, fun _ => Or.inl h80⟩)
  · exact bad (fun _ _ _ _ _ => ⟨fun z => absurd (Or.inl z) h5, fun z => Or.inr (Classical.byContradiction (fun y => h5 (Or.inr ⟨z, y⟩)))⟩)
  · exact bad (fun _ _ _ _ a5 => absurd (r5.mpr a5) h4)
  · exact bad (fun _ _ a3 a4 _ => absurd ⟨a3, by simp only [qI, qz_lt, qz_n0, qz_n99999] at a3 a4 ⊢; omega, a4.1⟩ h3)
  · exact bad (fun _ a2 _ _ _ => absurd a2 h2)
  · exact bad (fun a1 _ _ _ _ => absurd (r1.mpr a1) h1)
