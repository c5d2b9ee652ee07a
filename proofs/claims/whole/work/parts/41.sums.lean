/-! joined; a loop with an invariant; the hundredths that an owner holds -/
theorem P_joined {X : qz_X} {d : Nat} {g : qz_G} (v1 v2 v3 v4 v5 : Int32) (hR : Rel g) : qz_Pair X (d + 5) 181 286 [.int v1, .int v2, .int v3, .int v4, .int v5] g := by
  have hE := hR.1
  have hS := hR.2.1
  have hbw := hR.2.2.1.2.2.1
  have hJ : RelJ (g.1 32) (g.1 146) := hR.2.2.2.2.2.2.2.2.2.2.2.2.2.1
  unfold RelS at hS
  unfold RelE at hE
  have hbw' := qI_0 hbw qz_n80
  have r3 := (qz_RI v3).2.2.2.1
  have r5 := (qz_RI v5).2.2.1
  have hc := qz_cl (g.1 12 2)
  have lst : ∀ (l : Int32), qR l 4 → ∀ v : Nat, v < (g.1 12 2).toNatClampNeg → (¬ ((g.1 32 v) >>> (l &&& 31)) &&& 1 = 0 ↔ ¬ g.1 146 (80 * l.toNatClampNeg + v) = 0) := by
    intro l hl v hv
    have c2 := qz_cl l
    have hl' := hl
    simp only [qR, qz_lt, qz_le, qz_n0, qz_n4] at hl'
    have hj := hJ v l.toNatClampNeg (by omega) (by omega)
    rw [qz_self hl.1] at hj
    exact not_congr hj
  -- no pair stands at a place below 0
  have neg : ∀ (n : Nat) (A B : Nat → Prop) (K : Nat → Nat → Prop) (m w : Nat) (p : Int32) (t : Nat → Prop), v4 < 0 → 0 ≤ p.toInt → p.toInt + m < 2000000000 → qJn n A B K v4 v5 m w p t = -1 := by
    intro n A B K m
    induction m with
    | zero => intro w p t _ _ _; rfl
    | succ m ih =>
      intro w p t h1 h2 h3
      have h4 : ¬ p = v4 := by
        rw [qz_eq]
        rw [qz_lt, qz_n0] at h1
        omega
      have h5 : (p + 1).toInt = p.toInt + 1 := by
        have := qz_ad (a := p) (b := 1) (by rw [qz_n1]; omega) (by rw [qz_n1]; omega)
        rw [qz_n1] at this
        exact this
      unfold qJn
      by_cases hA : A w
      · rw [qIf_pos hA, if_neg h4, ih (w + 1) p t h1 h2 (by omega), ih (w + 1) (p + 1) _ h1 (by omega) (by omega)]
        exact ite_self _
      · rw [qIf_neg hA]
        exact ih (w + 1) p t h1 h2 (by omega)
  have main : ∀ b : Int32, qR v1 4 → qR v2 4 → ¬ v1 = v2 → qR v3 9 → qR v5 2 → b = v5 → qz_Call X (d + 4) 147 [.ref 3, .int v1, .int v2, .int v3, .int v4, .int b] g (fun g7 r8 _ => qz_Call X (d + 5) 286 [.ref 12, .int v1, .int v2, .int v3, .int v4, .int v5] g7 (fun g2 w l2 => r8 = w ∧ (0 : Int64) = l2 ∧ Rel g2)) := by
    intro b h1 h2 h3 h4 h5 hb
    subst hb
    refine c_X10_pairAt (d := d) g v1 v2 v3 v4 b (g.1 12 2).toNatClampNeg (fun v => ¬ g.1 146 (80 * v1.toNatClampNeg + v) = 0) (fun v => ¬ g.1 146 (80 * v2.toNatClampNeg + v) = 0) (fun u v => qLk (g.1 89) (g.1 93) (g.1 91) (g.1 92) (nI u) (nI v) v3) (by simp only [hS]; exact hbw) (by simp only [hS]) ?_ (lst v1 h1) (lst v2 h2) ?_ (fun g1 hs => ?_)
    · simp only [hS, hE]
      intro v hv
      exact (RelW_at hR hv).2.2.2.2.1
    · simp only [hS, hE]
      intro u v hu hv
      rw [qz_self hu.1, qz_self hv.1]
    · have hR1 := Rel_same hR hs
      have e1 : g1.1 12 2 = g.1 12 2 := hs.2.1 (12, 2) (by decide)
      have e89 : g1.1 89 = g.1 89 := hs.1 89 (by decide)
      have e91 : g1.1 91 = g.1 91 := hs.1 91 (by decide)
      have e92 : g1.1 92 = g.1 92 := hs.1 92 (by decide)
      have e93 : g1.1 93 = g.1 93 := hs.1 93 (by decide)
      have e146 : g1.1 146 = g.1 146 := hs.1 146 (by decide)
      refine v_X12_joined (d := d + 3) g1 v1 v2 v3 v4 b ⟨fun _ => ⟨fun _ => ⟨fun z => absurd z h3, fun _ => ⟨fun _ => ⟨fun z => ?_, fun z => ⟨fun _ => ?_, fun z => absurd (r5.mp h5) z⟩⟩, fun z => absurd (r3.mp h4) z⟩⟩, fun z => absurd h2 z⟩, fun z => absurd h1 z⟩
      · exact ⟨neg _ _ _ _ _ _ 0 _ z (by decide) (by rw [qz_n0]; omega), rfl, hR1⟩
      · refine w_X12_joined (d := d + 3) g1 v1 v2 v3 v4 b (g.1 12 2).toNatClampNeg (fun v => ¬ g.1 146 (80 * v1.toNatClampNeg + v) = 0) (fun v => ¬ g.1 146 (80 * v2.toNatClampNeg + v) = 0) (fun u v => qLk (g.1 89) (g.1 93) (g.1 91) (g.1 92) (nI u) (nI v) v3) (by rw [e1]; exact hbw) (by rw [e1]) h1 h2 (by rw [e146]; exact fun _ _ => Iff.rfl) (by rw [e146]; exact fun _ _ => Iff.rfl) ?_ (fun g2 hs2 => ⟨rfl, rfl, Rel_same hR1 hs2⟩)
        rw [e89, e91, e92, e93]
        intro u v hu hv
        rw [qz_self hu.1, qz_self hv.1]
  refine v_X11_joined (d := d + 2) g v1 v2 v3 v4 v5 ⟨fun h1 => ⟨fun h2 => ⟨fun h3 => ?_, fun h3 => ⟨fun h4 => ⟨fun h5 => ⟨fun h6 => ?_, fun h6 => ?_⟩, fun h5 => ?_⟩, fun h4 => ?_⟩⟩, fun h2 => ?_⟩, fun h1 => ?_⟩
  · exact v_X12_joined (d := d + 3) _ v1 v2 v3 v4 v5 ⟨fun _ => ⟨fun _ => ⟨fun _ => ⟨rfl, rfl, hR⟩, fun z => absurd h3 z⟩, fun z => absurd h2 z⟩, fun z => absurd h1 z⟩
  · refine main 0 h1 h2 h3 h4 h5 ?_
    have h5' := h5
    simp only [qR, qz_lt, qz_le, qz_n0, qz_n2, qz_eq, qz_n1] at h5' h6 ⊢
    omega
  · exact main 1 h1 h2 h3 h4 h5 h6.symm
  · exact v_X12_joined (d := d + 3) _ v1 v2 v3 v4 v5 ⟨fun _ => ⟨fun _ => ⟨fun z => absurd z h3, fun _ => ⟨fun _ => ⟨fun _ => ⟨rfl, rfl, hR⟩, fun _ => ⟨fun z => absurd (r5.mpr z) h5, fun _ => ⟨rfl, rfl, hR⟩⟩⟩, fun z => absurd (r3.mp h4) z⟩⟩, fun z => absurd h2 z⟩, fun z => absurd h1 z⟩
  · exact v_X12_joined (d := d + 3) _ v1 v2 v3 v4 v5 ⟨fun _ => ⟨fun _ => ⟨fun z => absurd z h3, fun _ => ⟨fun z => absurd (r3.mpr z) h4, fun _ => ⟨rfl, rfl, hR⟩⟩⟩, fun z => absurd h2 z⟩, fun z => absurd h1 z⟩
  · exact v_X12_joined (d := d + 3) _ v1 v2 v3 v4 v5 ⟨fun _ => ⟨fun z => absurd z h2, fun _ => ⟨rfl, rfl, hR⟩⟩, fun z => absurd h1 z⟩
  · exact v_X12_joined (d := d + 3) _ v1 v2 v3 v4 v5 ⟨fun z => absurd z h1, fun _ => ⟨rfl, rfl, hR⟩⟩
theorem qz_for {α : Type} {W : α → Int32 → Prop} {n : Int32} (I : Nat → α → Prop) (hn0 : 0 ≤ n.toInt) (hnB : n.toInt < 2000000000)
    (hs : ∀ (i : Nat) (a : α) (v : Int32), I i a → v.toInt = i → v.toNatClampNeg = i → (i : Int) ≤ n.toInt → (∀ a', (i : Int) < n.toInt → I (i + 1) a' → W a' (v + 1)) → W a v) (a0 : α) (h0 : I 0 a0) : W a0 0 := by
  have key : ∀ (m i : Nat) (a : α), n.toInt + 1 ≤ m + i → (i : Int) ≤ n.toInt → I i a → W a (nI i) := by
    intro m
    induction m with
    | zero => intro i a h1 h2; omega
    | succ m ih =>
      intro i a h1 h2 h3
      have ei := qz_nI (n := i) (by omega)
      have x2 : (nI i).toNatClampNeg = i := nI_clamp (by omega)
      refine hs i a (nI i) h3 ei x2 h2 (fun a' h4 h5 => ?_)
      rw [nI_1]
      exact ih (i + 1) a' (by omega) (by omega) h5
  exact key (n.toInt.toNat + 1) 0 a0 (by omega) (by omega) h0
noncomputable def qSm (P : Nat → Prop) (f : Nat → Int32) : Nat → Int32
  | 0 => 0
  | n + 1 => qSm P f n + qIf (P n) (f n) 0
theorem qSm_congr {P P' : Nat → Prop} {f f' : Nat → Int32} : ∀ (n : Nat), (∀ k, k < n → (P k ↔ P' k)) → (∀ k, k < n → f k = f' k) → qSm P f n = qSm P' f' n
  | 0, _, _ => rfl
  | n + 1, h, h2 => by
    have h1 := qSm_congr n (fun k hk => h k (by omega)) (fun k hk => h2 k (by omega))
    have h3 := h n (by omega)
    simp only [qSm]
    rw [h1, h2 n (by omega)]
    by_cases hp : P n
    · rw [qIf_pos hp, qIf_pos (h3.mp hp)]
    · rw [qIf_neg hp, qIf_neg (fun z => hp (h3.mpr z))]
theorem qSm_rng {P : Nat → Prop} {f : Nat → Int32} {b : Int} : ∀ (n : Nat), (∀ k, k < n → 0 ≤ (f k).toInt ∧ (f k).toInt ≤ b) → 0 ≤ b → b * n < 2000000000 → 0 ≤ (qSm P f n).toInt ∧ (qSm P f n).toInt ≤ b * n
  | 0, _, _, _ => by simp only [qSm, qz_n0]; omega
  | n + 1, h, hb, h2 => by
    have e : b * ((n + 1 : Nat) : Int) = b * n + b := by
      rw [show ((n + 1 : Nat) : Int) = (n : Int) + 1 from by omega, Int.mul_add, Int.mul_one]
    rw [e] at h2 ⊢
    have h1 := qSm_rng (P := P) n (fun k hk => h k (by omega)) hb (by omega)
    have h3 := h n (by omega)
    simp only [qSm]
    by_cases hp : P n
    · rw [qIf_pos hp, qz_ad (by omega) (by omega)]
      omega
    · rw [qIf_neg hp, Int32.add_zero]
      omega
theorem c_X1_hundredthsOf {X : qz_X} {d : Nat} {Q : qz_Q} (g : qz_G) (v1 v2 v3 : Int32) (h : (HO (g.1 3 12) (g.1 2 8) (g.1 15) (g.1 29) (g.1 30)) ∧ (qR v2 (g.1 3 12)) ∧ Q g (qSm (fun k => qHn (g.1 30) (g.1 15) (g.1 16) (g.1 17) v2 k v3 v3 = v1) (fun k => g.1 31 (4 * v2.toNatClampNeg + k)) (g.1 29 v2.toNatClampNeg).toNatClampNeg) 0) : qz_Call X (d + 4) 9 [.ref 5, .int v1, .int v2, .int v3] g Q := by
  obtain ⟨hO, hw, hq⟩ := h
  have hm4 := (hO.2.2.2 v2 hw).1
  have hm := qI_0 hm4 qz_n4
  have hc := qz_cl (g.1 29 v2.toNatClampNeg)
  refine v_X1_hundredthsOf g v1 v2 v3 ?_
  refine qz_for (W := fun a v => qz_WP X (d + 4) 9 Q 6 [(0, .ref 5), (1, .int v1), (2, .int v2), (3, .int v3), (4, .int a), (5, .int v)] [] g) (n := g.1 29 v2.toNatClampNeg) (fun i a => a = qSm (fun k => qHn (g.1 30) (g.1 15) (g.1 16) (g.1 17) v2 k v3 v3 = v1) (fun k => g.1 31 (4 * v2.toNatClampNeg + k)) i) hm.1 (by omega) (fun i a v hI e1 e2 hi hW => ?_) 0 rfl
  refine v_X1_hundredthsOf_6 g v1 v2 v3 a v ⟨hw, hO.1, fun c => ?_, fun c => ?_⟩
  · rw [qz_le, e1] at c
    rw [hI, show i = (g.1 29 v2.toNatClampNeg).toNatClampNeg from by omega]
    exact hq
  · have hr : qR v (g.1 29 v2.toNatClampNeg) := ⟨by rw [qz_lt, qz_n0]; omega, c⟩
    have hlt : (i : Int) < (g.1 29 v2.toNatClampNeg).toInt := by rw [qz_le, e1] at c; omega
    have ix := (qz_ix4R hw hO.1 hr hm4).1
    refine ⟨hO, fun _ => ⟨fun e => ?_, fun e => ⟨hm4, ?_⟩⟩, fun z => absurd hr z⟩
    · refine hW a hlt ?_
      have e' : ¬ qHn (g.1 30) (g.1 15) (g.1 16) (g.1 17) v2 i v3 v3 = v1 := by rw [← e2]; exact e
      rw [qSm, qIf_neg e', Int32.add_zero]
      exact hI
    · refine hW _ hlt ?_
      have e' : qHn (g.1 30) (g.1 15) (g.1 16) (g.1 17) v2 i v3 v3 = v1 := by rw [← e2]; exact e
      rw [qSm, qIf_pos e', hI, ix, e2]
theorem c_X12_partsHeld {X : qz_X} {d : Nat} {Q : qz_Q} (g : qz_G) (v1 v2 : Int32) (h : (HO (g.1 12 2) (g.1 12 1) (g.1 81) (g.1 96) (g.1 97)) ∧ (qR v1 (g.1 12 2)) ∧ Q g (qSm (fun k => qHn (g.1 97) (g.1 81) (g.1 82) (g.1 83) v1 k (g.1 12 0) (g.1 12 0) = v2) (fun k => g.1 98 (4 * v1.toNatClampNeg + k)) (g.1 96 v1.toNatClampNeg).toNatClampNeg) 0) : qz_Call X (d + 3) 274 [.ref 12, .int v1, .int v2] g Q := by
  obtain ⟨hO, hw, hq⟩ := h
  have hm4 := (hO.2.2.2 v1 hw).1
  have hm := qI_0 hm4 qz_n4
  have hc := qz_cl (g.1 96 v1.toNatClampNeg)
  refine v_X12_partsHeld g v1 v2 ?_
  refine qz_for (W := fun a v => qz_WP X (d + 3) 274 Q 5 [(0, .ref 12), (1, .int v1), (2, .int v2), (3, .int a), (4, .int v)] [] g) (n := g.1 96 v1.toNatClampNeg) (fun i a => a = qSm (fun k => qHn (g.1 97) (g.1 81) (g.1 82) (g.1 83) v1 k (g.1 12 0) (g.1 12 0) = v2) (fun k => g.1 98 (4 * v1.toNatClampNeg + k)) i) hm.1 (by omega) (fun i a v hI e1 e2 hi hW => ?_) 0 rfl
  refine v_X12_partsHeld_5 g v1 v2 a v ⟨qz_in80 hw hO.1, fun c => ?_, fun c => ?_⟩
  · rw [qz_le, e1] at c
    rw [hI, show i = (g.1 96 v1.toNatClampNeg).toNatClampNeg from by omega]
    exact hq
  · have hr : qR v (g.1 96 v1.toNatClampNeg) := ⟨by rw [qz_lt, qz_n0]; omega, c⟩
    have hlt : (i : Int) < (g.1 96 v1.toNatClampNeg).toInt := by rw [qz_le, e1] at c; omega
    have ix := qz_ix4R hw hO.1 hr hm4
    rw [show v1 * 4 = 4 * v1 from Int32.mul_comm _ _] at ix
    refine ⟨hO, hw, hr, fun e => ?_, fun e => ⟨ix.2.1, ?_⟩⟩
    · refine hW _ hlt ?_
      have e' : ¬ qHn (g.1 97) (g.1 81) (g.1 82) (g.1 83) v1 i (g.1 12 0) (g.1 12 0) = v2 := by rw [← e2]; exact e
      rw [qSm, qIf_neg e', hI]
    · refine hW _ hlt ?_
      have e' : qHn (g.1 97) (g.1 81) (g.1 82) (g.1 83) v1 i (g.1 12 0) (g.1 12 0) = v2 := by rw [← e2]; exact e
      rw [qSm, qIf_pos e', hI, ix.1, e2]
