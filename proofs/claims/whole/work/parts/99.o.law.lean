/-! the pair law -/
theorem c_lawM {X : qz_X} {d : Nat} {Q : qz_Q} {n L : Nat} {sg : Nat → Nat} (g : qz_G) (v1 v2 v3 : Int32) (h41 : g.1 12 41 = nI L) (hL : L < 20) (hn1 : 1 ≤ n) (hn : n ≤ 200) (htp : (n : Int) ≤ (g.1 12 25).toInt) (hv1 : qR v1 4) (hsp : qSp v2 v3) (hsg : ∀ k, k < n → g.1 99 k &&& 255 = nI (sg k) ∧ sg k < 256) (hs9 : ∀ k, n ≤ k → sg k = 999)
    (hq1 : ∀ h i C cl, LwG sg n i C cl → LaF L g h → C.length ≤ n → i + 1 ≤ 12 → h.1 12 25 = 0 → h.1 12 41 = nI (L + 1) → h.1 108 L = v1 → h.1 109 L = v2 → h.1 110 L = v3 → h.1 111 L = nI (i + 1) → RkC L h C C.length → RkL L h cl (i + 1) → (∀ r k, r < 100 → ¬ r = 12 → h.1 r k = g.1 r k) → Q h (nI L) 0)
    (hq2 : ∀ h kd at_, LwX sg n kd at_ → LaF L g h → h.1 12 25 = 0 → h.1 12 41 = nI L → (∀ r k, r < 100 ∨ 107 ≤ r → ¬ r = 12 → h.1 r k = g.1 r k) → Q h (qFv kd at_) 0) : qz_Call X (d + 9) 236 [.ref 12, .int v1, .int v2, .int v3, .int (nI n)] g Q := by
  have hq : qI (nI n) 1 200 := by
    unfold qI
    rw [qz_lt, qz_lt, nI_toInt (by omega), qz_n1, qz_n200]
    omega
  refine v_X12_law (d := d + 7) g v1 v2 v3 (nI n) ⟨fun _ => ⟨fun _ => ⟨fun _ => ⟨fun _ => ⟨fun z => ?_, fun _ => ⟨fun _ => ?_, fun z => ?_⟩⟩, fun z => absurd hq z⟩, fun z => absurd ⟨hsp.2.2, hsp.2.1.2⟩ z⟩, fun z => absurd hsp.1 z⟩, fun z => absurd hv1 z⟩
  · rw [qz_lt, nI_toInt (by omega)] at z
    omega
  · have f0 : LaF L g (qz_ui (qz_ui (qz_ui (qz_ui g 12 26 0) 12 27 (nI n)) 12 31 0) 12 33 0) := ((((LaF.rf L g).ui (by unfold LaX; omega) _).ui (by unfold LaX; omega) _).ui (by unfold LaX; omega) _).ui (by unfold LaX; omega) _
    have fr : ∀ r k, ¬ (r = 12 ∧ (k = 26 ∨ k = 27 ∨ k = 31 ∨ k = 33)) → (qz_ui (qz_ui (qz_ui (qz_ui g 12 26 0) 12 27 (nI n)) 12 31 0) 12 33 0).1 r k = g.1 r k := fun r k hk => by rw [ui_n (by omega), ui_n (by omega), ui_n (by omega), ui_n (by omega)]
    have x26 : (qz_ui (qz_ui (qz_ui (qz_ui g 12 26 0) 12 27 (nI n)) 12 31 0) 12 33 0).1 12 26 = 0 := by rw [ui_n (by omega), ui_n (by omega), ui_n (by omega), ui_s]
    have x27 : (qz_ui (qz_ui (qz_ui (qz_ui g 12 26 0) 12 27 (nI n)) 12 31 0) 12 33 0).1 12 27 = nI n := by rw [ui_n (by omega), ui_n (by omega), ui_s]
    have x31 : (qz_ui (qz_ui (qz_ui (qz_ui g 12 26 0) 12 27 (nI n)) 12 31 0) 12 33 0).1 12 31 = 0 := by rw [ui_n (by omega), ui_s]
    have x33 : (qz_ui (qz_ui (qz_ui (qz_ui g 12 26 0) 12 27 (nI n)) 12 31 0) 12 33 0).1 12 33 = 0 := ui_s _ _ _ _
    generalize qz_ui (qz_ui (qz_ui (qz_ui g 12 26 0) 12 27 (nI n)) 12 31 0) 12 33 0 = gm at f0 fr x26 x27 x31 x33 ⊢
    have hb : RmB n sg gm := ⟨hn, x27, fun k hk => by rw [fr 99 k (by omega)]; exact hsg k hk, hs9⟩
    have hS : RcS n gm gm 0 0 [] [] := ⟨RcF.rf gm, x26, x31, x33, fun k hk => absurd hk (Nat.not_lt_zero _), Nat.zero_le _, Nat.le_refl _, rfl, by omega, fun j hj => absurd hj (Nat.not_lt_zero _)⟩
    refine c_textM (d := d) hb v1 v2 v3 (fun g' i C cl hG hS' => ?_) (fun g' kd at_ hX hx => ?_) n 0 0 [] [] gm (by omega) ⟨rfl, rfl, rfl⟩ hS _ (fun g7 w => w) (fun g7 w => w)
    · obtain ⟨b1, b2, b3, b4, b5, b6, b7, b8, b9, b10⟩ := hS'
      have y41 : g'.1 12 41 = nI L := by rw [b1.2 12 41 (by omega) (by omega), fr 12 41 (by omega)]; exact h41
      rw [y41, nI_clamp (by omega)]
      refine ⟨qz_vi (by rw [nI_toInt (by omega)]; omega) (by rw [nI_toInt (by omega)]; omega), ?_⟩
      have f1 : LaF L g (qz_ui (qz_ui (qz_ui (qz_ui (qz_ui g' 12 25 0) 108 L v1) 109 L v2) 110 L v3) 111 L (g'.1 12 33)) := (((((f0.tr (LaF.ofC b1)).ui (by unfold LaX; omega) _).ui (by unfold LaX; omega) _).ui (by unfold LaX; omega) _).ui (by unfold LaX; omega) _).ui (by unfold LaX; omega) _
      have fs : ∀ r k, ¬ (r = 12 ∧ k = 25) → ¬ (108 ≤ r ∧ r ≤ 111) → (qz_ui (qz_ui (qz_ui (qz_ui (qz_ui g' 12 25 0) 108 L v1) 109 L v2) 110 L v3) 111 L (g'.1 12 33)).1 r k = g'.1 r k := fun r k n1 n2 => by rw [ui_n (by omega), ui_n (by omega), ui_n (by omega), ui_n (by omega), ui_n (by omega)]
      have z25 : (qz_ui (qz_ui (qz_ui (qz_ui (qz_ui g' 12 25 0) 108 L v1) 109 L v2) 110 L v3) 111 L (g'.1 12 33)).1 12 25 = 0 := by rw [ui_n (by omega), ui_n (by omega), ui_n (by omega), ui_n (by omega), ui_s]
      have z8 : (qz_ui (qz_ui (qz_ui (qz_ui (qz_ui g' 12 25 0) 108 L v1) 109 L v2) 110 L v3) 111 L (g'.1 12 33)).1 108 L = v1 := by rw [ui_n (by omega), ui_n (by omega), ui_n (by omega), ui_s]
      have z9 : (qz_ui (qz_ui (qz_ui (qz_ui (qz_ui g' 12 25 0) 108 L v1) 109 L v2) 110 L v3) 111 L (g'.1 12 33)).1 109 L = v2 := by rw [ui_n (by omega), ui_n (by omega), ui_s]
      have z10 : (qz_ui (qz_ui (qz_ui (qz_ui (qz_ui g' 12 25 0) 108 L v1) 109 L v2) 110 L v3) 111 L (g'.1 12 33)).1 110 L = v3 := by rw [ui_n (by omega), ui_s]
      have z11 : (qz_ui (qz_ui (qz_ui (qz_ui (qz_ui g' 12 25 0) 108 L v1) 109 L v2) 110 L v3) 111 L (g'.1 12 33)).1 111 L = nI (i + 1) := by rw [ui_s]; exact b4
      generalize qz_ui (qz_ui (qz_ui (qz_ui (qz_ui g' 12 25 0) 108 L v1) 109 L v2) 110 L v3) 111 L (g'.1 12 33) = g1 at f1 fs z25 z8 z9 z10 z11 ⊢
      have w41 : g1.1 12 41 = nI L := by rw [fs 12 41 (by omega) (by omega)]; exact y41
      refine c_keepM (d := d + 7) (M := L) (m := i + 1) (C := C) (cl := cl) g1 hL b9 (by omega) (by rw [fs 12 31 (by omega) (by omega)]; exact b3) (by rw [fs 12 33 (by omega) (by omega)]; exact b4) w41 (fun k hk => by rw [fs 100 k (by omega) (by omega)]; exact b5 k hk) (fun j hj => ?_) (fun g2 k1 k2 k3 => ?_)
      · rw [fs 102 j (by omega) (by omega), fs 103 j (by omega) (by omega), fs 104 j (by omega) (by omega), fs 105 j (by omega) (by omega), fs 106 j (by omega) (by omega)]
        exact b10 j hj
      · have ft : ∀ r k, ¬ (r = 12 ∧ k = 41) → (qz_ui g2 12 41 (nI (L + 1))).1 r k = g2.1 r k := fun r k n1 => ui_n n1
        refine hq1 _ i C cl hG ((f1.tr (LaF.ofK k1)).ui (by unfold LaX; omega) _) (by omega) b9 ?_ (ui_s _ _ _ _) ?_ ?_ ?_ ?_ (fun j hj => ?_) (fun j hj => ?_) (fun r k r1 r2 => ?_)
        · rw [ft 12 25 (by omega), k1.2 12 25 (by omega) (by omega)]; exact z25
        · rw [ft 108 L (by omega), k1.2 108 L (by omega) (by omega)]; exact z8
        · rw [ft 109 L (by omega), k1.2 109 L (by omega) (by omega)]; exact z9
        · rw [ft 110 L (by omega), k1.2 110 L (by omega) (by omega)]; exact z10
        · rw [ft 111 L (by omega), k1.2 111 L (by omega) (by omega)]; exact z11
        · rw [ft 107 _ (by omega)]; exact k2 j hj
        · rw [ft 112 _ (by omega), ft 113 _ (by omega), ft 114 _ (by omega), ft 115 _ (by omega), ft 116 _ (by omega)]; exact k3 j hj
        · rw [ft r k (by omega), k1.2 r k (by omega) (by omega), fs r k (by omega) (by omega), b1.2 r k (by omega) (by omega), fr r k (by omega)]
    · have b1 := hx.1
      have y41 : g'.1 12 41 = nI L := by rw [b1.2 12 41 (by omega) (by omega), fr 12 41 (by omega)]; exact h41
      refine hq2 _ kd at_ hX ((f0.tr (LaF.ofC b1)).ui (by unfold LaX; omega) _) (ui_s _ _ _ _) (by rw [ui_n (by omega)]; exact y41) (fun r k r1 r2 => ?_)
      rw [ui_n (by omega), b1.2 r k (by omega) (by omega), fr r k (by omega)]
  · rw [h41, qz_eq, nI_toInt (by omega), qz_n20] at z
    omega
theorem qz_anyN (x : Int32) : ∃ o : Nat, o ≤ 4294967296 ∧ x = nI o := by
  refine ⟨x.toBitVec.toNat, by have := x.toBitVec.isLt; omega, Int32.toBitVec_inj.mp ?_⟩
  apply BitVec.eq_of_toNat_eq
  show x.toBitVec.toNat = (BitVec.ofNat 32 x.toBitVec.toNat).toNat
  rw [BitVec.toNat_ofNat]
  exact (Nat.mod_eq_of_lt x.toBitVec.isLt).symm
theorem P_law {X : qz_X} {d : Nat} {g : qz_G} (v1 v2 v3 v4 : Int32) (hR : Rel g) : qz_Pair X (d + 27) 159 236 [.int v1, .int v2, .int v3, .int v4] g := by
  have s0 := Same.rf g
  have hB6 := rB_laws hR
  have hBt := rB_taped hR
  have hY := hR.2.2.2.2.2.2.2.2.2.2.2.2.1
  have hE := hR.1
  unfold RelE at hE
  refine v_X11_law (d := d + 24) g v1 v2 v3 v4 ?_
  rw [rS_6_17 hR s0, rS_1_1 hR s0]
  have refNo : (¬ qR v1 4 ∨ ¬ qSp v2 v3 ∨ ¬ g.1 12 41 < 20 ∨ v4 < 1 ∨ ¬ qI v4 0 (g.1 12 25)) → qz_Call X (d + 27) 236 [.ref 12, .int v1, .int v2, .int v3, .int v4] g (fun g2 w l2 => (-1 : Int32) = w ∧ (0 : Int64) = l2 ∧ Rel g2) := by
    intro hn
    refine v_X12_law (d := d + 25) g v1 v2 v3 v4 ⟨fun h1 => ⟨fun h2 => ⟨fun h3 => ⟨fun h4 => ⟨fun _ => ⟨rfl, rfl, hR⟩, fun h5 => ⟨fun h6 => ?_, fun _ => ⟨rfl, rfl, hR⟩⟩⟩, fun _ => ⟨rfl, rfl, hR⟩⟩, fun _ => ⟨rfl, rfl, hR⟩⟩, fun _ => ⟨rfl, rfl, hR⟩⟩, fun _ => ⟨rfl, rfl, hR⟩⟩
    exfalso
    rcases hn with hn | hn | hn | hn | hn
    · exact hn h1
    · refine hn ⟨h2, ⟨?_, h3.2⟩, h3.1⟩
      have a := h2.1
      have b := h3.1
      rw [qz_lt, qz_n0] at a ⊢
      rw [qz_lt] at b
      omega
    · simp only [qI, qz_lt, qz_eq, qz_n0, qz_n20] at hn h6 hB6
      omega
    · exact h4.1 hn
    · refine hn ⟨?_, h5⟩
      have a := h4.1
      rw [qz_lt, qz_n1] at a
      rw [qz_lt, qz_n0]
      omega
  refine ⟨fun h1 => ⟨fun h2 => ⟨fun h3 => refNo (Or.inr (Or.inr (Or.inl h3))), fun h3 => ⟨fun h4 => refNo (Or.inr (Or.inr (Or.inr (Or.inl h4)))), fun h4 => ⟨fun h5 => ?_, fun h5 => refNo (Or.inr (Or.inr (Or.inr (Or.inr h5))))⟩⟩⟩, fun h2 => refNo (Or.inr (Or.inl h2))⟩, fun h1 => refNo (Or.inl h1)⟩
  have h5' := h5
  simp only [qI, qz_lt, qz_n0, qz_n1, qz_n20, qz_n200] at h3 h4 h5' hB6 hBt
  obtain ⟨n, hn, en⟩ := qz_nat (x := v4) (b := 200) (by omega) (by omega)
  obtain ⟨L, hL, eL⟩ := qz_nat (x := g.1 12 41) (b := 20) (by omega) (by omega)
  have tL : (g.1 12 41).toInt = L := by rw [eL, nI_toInt (by omega)]
  have tn : v4.toInt = n := by rw [en, nI_toInt (by omega)]
  have hL20 : L < 20 := by omega
  subst en
  obtain ⟨o, ho, eo⟩ := qz_anyN (g.1 7 7)
  have e617 : g.1 6 17 = nI L := by rw [rS_6_17 hR s0]; exact eL
  refine v_X2_add (d := d + 24) g v1 v2 v3 (nI n) ⟨fun z => absurd (by rw [e617, qz_lt, qz_n20, nI_toInt (by omega)]; omega) z, fun _ => ?_⟩
  have f0 : LaF L g (qz_ui (qz_ui (qz_ui (qz_ui (qz_ui g 7 3 (g.1 6 17 * 200)) 7 5 0) 7 6 (nI n)) 7 8 0) 7 12 0) := (((((LaF.rf L g).ui (by unfold LaX; omega) _).ui (by unfold LaX; omega) _).ui (by unfold LaX; omega) _).ui (by unfold LaX; omega) _).ui (by unfold LaX; omega) _
  have fr : ∀ r k, ¬ (r = 7 ∧ (k = 3 ∨ k = 5 ∨ k = 6 ∨ k = 8 ∨ k = 12)) → (qz_ui (qz_ui (qz_ui (qz_ui (qz_ui g 7 3 (g.1 6 17 * 200)) 7 5 0) 7 6 (nI n)) 7 8 0) 7 12 0).1 r k = g.1 r k := fun r k hk => by rw [ui_n (by omega), ui_n (by omega), ui_n (by omega), ui_n (by omega), ui_n (by omega)]
  have x3 : (qz_ui (qz_ui (qz_ui (qz_ui (qz_ui g 7 3 (g.1 6 17 * 200)) 7 5 0) 7 6 (nI n)) 7 8 0) 7 12 0).1 7 3 = nI (200 * L + 0) := by rw [ui_n (by omega), ui_n (by omega), ui_n (by omega), ui_n (by omega), ui_s, e617, show (200 : Int32) = nI 200 from by decide, nI_mul, Nat.mul_comm, Nat.add_zero]
  have x5 : (qz_ui (qz_ui (qz_ui (qz_ui (qz_ui g 7 3 (g.1 6 17 * 200)) 7 5 0) 7 6 (nI n)) 7 8 0) 7 12 0).1 7 5 = 0 := by rw [ui_n (by omega), ui_n (by omega), ui_n (by omega), ui_s]
  have x6 : (qz_ui (qz_ui (qz_ui (qz_ui (qz_ui g 7 3 (g.1 6 17 * 200)) 7 5 0) 7 6 (nI n)) 7 8 0) 7 12 0).1 7 6 = nI n := by rw [ui_n (by omega), ui_n (by omega), ui_s]
  have x8 : (qz_ui (qz_ui (qz_ui (qz_ui (qz_ui g 7 3 (g.1 6 17 * 200)) 7 5 0) 7 6 (nI n)) 7 8 0) 7 12 0).1 7 8 = 0 := by rw [ui_n (by omega), ui_s]
  have x12 : (qz_ui (qz_ui (qz_ui (qz_ui (qz_ui g 7 3 (g.1 6 17 * 200)) 7 5 0) 7 6 (nI n)) 7 8 0) 7 12 0).1 7 12 = 0 := ui_s _ _ _ _
  generalize qz_ui (qz_ui (qz_ui (qz_ui (qz_ui g 7 3 (g.1 6 17 * 200)) 7 5 0) 7 6 (nI n)) 7 8 0) 7 12 0 = gb at f0 fr x3 x5 x6 x8 x12 ⊢
  have y11 : gb.1 1 1 = g.1 12 25 := by rw [fr 1 1 (by omega)]; exact rS_1_1 hR s0
  have y17 : gb.1 6 17 = nI L := by rw [fr 6 17 (by omega)]; exact e617
  have y16 : gb.1 6 16 = g.1 6 16 := fr 6 16 (by omega)
  have hby : ∀ k, k < 200 → ∃ m, m < 256 ∧ gb.1 13 k = nI m ∧ g.1 99 k &&& 255 = nI m := fun k hk => by
    obtain ⟨m, m1, m2⟩ := qz_255 (g.1 99 k)
    exact ⟨m, m1, by rw [fr 13 k (by omega), hY k hk]; exact m2, m2⟩
  have hb : RdB L n gb := by
    refine ⟨hL20, by omega, x6, by rw [y11]; exact rB_taped hR, by rw [y11]; omega, fun k hk => ?_⟩
    obtain ⟨m, m1, m2, m3⟩ := hby k hk
    rw [m2]
    unfold qI
    rw [qz_lt, qz_lt, nI_toInt (by omega), qz_n0, qz_n255]
    omega
  have hA : RdA L n gb gb 0 o [] := ⟨RdF.rf L gb, x8, x5, by rw [fr 7 7 (by omega)]; exact eo, x3, fun k hk => absurd hk (Nat.not_lt_zero _), Nat.zero_le _, Nat.le_refl _, ho⟩
  have hs9 : ∀ k, n ≤ k → qSn gb n k = 999 := fun k hk => by
    unfold qSn
    rw [if_neg (by omega)]
  have hsg : ∀ k, k < n → g.1 99 k &&& 255 = nI (qSn gb n k) ∧ qSn gb n k < 256 := fun k hk => by
    refine ⟨?_, qSn_lt hb hk⟩
    obtain ⟨m, m1, m2, m3⟩ := hby k (by omega)
    unfold qSn
    rw [if_pos hk, m2, nI_clamp (by omega)]
    exact m3
  refine c_textX (d := d) hb (Or.inl x12) y17 v1 v2 v3 (fun g' i C cl asks hG hF hC h59 hX hi a1 a2 => ?_) (fun g' kd at_ hX hF => ?_) n 0 0 o [] [] gb (by omega) ⟨rfl, rfl, rfl⟩ (by omega) (RlF.rf L gb) hA ⟨rfl, fun j hj => absurd hj (Nat.not_lt_zero _)⟩
  · have f1 : LaF L g (qz_ui (qz_ui (qz_ui (qz_ui (qz_ui (qz_ui (qz_ui g' 47 L v1) 48 L v2) 49 L v3) 50 L (nI (i + 1))) 6 16 asks) 6 17 (nI (L + 1))) 1 1 0) := (((((((f0.tr (LaF.ofL hF)).ui (by unfold LaX; omega) _).ui (by unfold LaX; omega) _).ui (by unfold LaX; omega) _).ui (by unfold LaX; omega) _).ui (by unfold LaX; omega) _).ui (by unfold LaX; omega) _).ui (by unfold LaX; omega) _
    have fs : ∀ r k, ¬ (47 ≤ r ∧ r ≤ 50) → ¬ (r = 6 ∧ (k = 16 ∨ k = 17)) → ¬ (r = 1 ∧ k = 1) → (qz_ui (qz_ui (qz_ui (qz_ui (qz_ui (qz_ui (qz_ui g' 47 L v1) 48 L v2) 49 L v3) 50 L (nI (i + 1))) 6 16 asks) 6 17 (nI (L + 1))) 1 1 0).1 r k = g'.1 r k := fun r k n1 n2 n3 => by rw [ui_n (by omega), ui_n (by omega), ui_n (by omega), ui_n (by omega), ui_n (by omega), ui_n (by omega), ui_n (by omega)]
    have z1 : (qz_ui (qz_ui (qz_ui (qz_ui (qz_ui (qz_ui (qz_ui g' 47 L v1) 48 L v2) 49 L v3) 50 L (nI (i + 1))) 6 16 asks) 6 17 (nI (L + 1))) 1 1 0).1 1 1 = 0 := ui_s _ _ _ _
    have z17 : (qz_ui (qz_ui (qz_ui (qz_ui (qz_ui (qz_ui (qz_ui g' 47 L v1) 48 L v2) 49 L v3) 50 L (nI (i + 1))) 6 16 asks) 6 17 (nI (L + 1))) 1 1 0).1 6 17 = nI (L + 1) := by rw [ui_n (by omega), ui_s]
    have z16 : (qz_ui (qz_ui (qz_ui (qz_ui (qz_ui (qz_ui (qz_ui g' 47 L v1) 48 L v2) 49 L v3) 50 L (nI (i + 1))) 6 16 asks) 6 17 (nI (L + 1))) 1 1 0).1 6 16 = asks := by rw [ui_n (by omega), ui_n (by omega), ui_s]
    have z50 : (qz_ui (qz_ui (qz_ui (qz_ui (qz_ui (qz_ui (qz_ui g' 47 L v1) 48 L v2) 49 L v3) 50 L (nI (i + 1))) 6 16 asks) 6 17 (nI (L + 1))) 1 1 0).1 50 L = nI (i + 1) := by rw [ui_n (by omega), ui_n (by omega), ui_n (by omega), ui_s]
    have z49 : (qz_ui (qz_ui (qz_ui (qz_ui (qz_ui (qz_ui (qz_ui g' 47 L v1) 48 L v2) 49 L v3) 50 L (nI (i + 1))) 6 16 asks) 6 17 (nI (L + 1))) 1 1 0).1 49 L = v3 := by rw [ui_n (by omega), ui_n (by omega), ui_n (by omega), ui_n (by omega), ui_s]
    have z48 : (qz_ui (qz_ui (qz_ui (qz_ui (qz_ui (qz_ui (qz_ui g' 47 L v1) 48 L v2) 49 L v3) 50 L (nI (i + 1))) 6 16 asks) 6 17 (nI (L + 1))) 1 1 0).1 48 L = v2 := by rw [ui_n (by omega), ui_n (by omega), ui_n (by omega), ui_n (by omega), ui_n (by omega), ui_s]
    have z47 : (qz_ui (qz_ui (qz_ui (qz_ui (qz_ui (qz_ui (qz_ui g' 47 L v1) 48 L v2) 49 L v3) 50 L (nI (i + 1))) 6 16 asks) 6 17 (nI (L + 1))) 1 1 0).1 47 L = v1 := by rw [ui_n (by omega), ui_n (by omega), ui_n (by omega), ui_n (by omega), ui_n (by omega), ui_n (by omega), ui_s]
    show qz_Call X (d + 27) 236 [.ref 12, .int v1, .int v2, .int v3, .int (nI n)] (qz_ui (qz_ui (qz_ui (qz_ui (qz_ui (qz_ui (qz_ui g' 47 L v1) 48 L v2) 49 L v3) 50 L (nI (i + 1))) 6 16 asks) 6 17 (nI (L + 1))) 1 1 0) (fun g2 w l2 => nI L = w ∧ (0 : Int64) = l2 ∧ Rel g2)
    generalize qz_ui (qz_ui (qz_ui (qz_ui (qz_ui (qz_ui (qz_ui g' 47 L v1) 48 L v2) 49 L v3) 50 L (nI (i + 1))) 6 16 asks) 6 17 (nI (L + 1))) 1 1 0 = gx at f1 fs z1 z17 z16 z50 z49 z48 z47 ⊢
    have ft : ∀ r k, r = 12 ∨ 99 ≤ r → gx.1 r k = g.1 r k := fun r k hr => by rw [fs r k (by omega) (by omega) (by omega), hF.2 r k (by omega) (by omega) (by omega), fr r k (by omega)]
    refine c_lawM (d := d + 18) (n := n) (L := L) (sg := qSn gb n) gx v1 v2 v3 (by rw [ft 12 41 (by omega)]; exact eL) hL20 (by omega) (by omega) (by rw [ft 12 25 (by omega)]; omega) h1 h2 (fun k hk => by rw [ft 99 k (by omega)]; exact hsg k hk) hs9 (fun h i' C' cl' hG' fh hC' hi' e25 e41 e8 e9 e10 e11 hk hkl hcl => ?_) (fun h kd at_ hX' _ _ _ _ => (LwG_X hs9 hG hX').elim)
    obtain ⟨rfl, rfl, rfl⟩ := LwG_det hs9 hG hG'
    have f2 := f1.tr fh
    have ask : h.1 6 16 = asks := by rw [hcl 6 16 (by omega) (by omega)]; exact z16
    refine ⟨rfl, rfl, Rel_law hR f2 (by rw [hcl 1 1 (by omega) (by omega)]; exact z1) e25 (fun r r1 r2 => ?_) (by rw [hcl 6 17 (by omega) (by omega), e41]; exact z17) ?_ ?_⟩
    · rw [hcl r L (by omega) (by omega)]
      obtain rfl | rfl | rfl | rfl : r = 47 ∨ r = 48 ∨ r = 49 ∨ r = 50 := by omega
      · exact z47.trans e8.symm
      · exact z48.trans e9.symm
      · exact z49.trans e10.symm
      · exact z50.trans e11.symm
    · rw [e41]
      unfold qI
      rw [qz_lt, qz_lt, nI_toInt (by omega), qz_n0, qz_n20]
      omega
    · rw [e41, ask]
      refine RelL_add hL20 hi' (by omega) (RelL_keep hR eL (by omega) f2 (fun w => a1 (by rw [y16]; exact w))) (fun k hk' => ?_) hk (CxL_same hX (fun r k r1 r2 => ?_) a2) hkl e11
      · rw [hcl 59 _ (by omega) (by omega), fs 59 _ (by omega) (by omega) (by omega)]
        exact h59 k hk'
      · rw [hcl r k (by omega) (by omega), fs r k (by omega) (by omega) (by omega)]
  · have f1 : LaF L g (qz_ui g' 1 1 0) := (f0.tr (LaF.ofL hF)).ui (by unfold LaX; omega) _
    show qz_Call X (d + 27) 236 [.ref 12, .int v1, .int v2, .int v3, .int (nI n)] (qz_ui g' 1 1 0) (fun g2 w l2 => qFv kd at_ = w ∧ (0 : Int64) = l2 ∧ Rel g2)
    have z1 : (qz_ui g' 1 1 0).1 1 1 = 0 := ui_s _ _ _ _
    have fs : ∀ r k, ¬ (r = 1 ∧ k = 1) → (qz_ui g' 1 1 0).1 r k = g'.1 r k := fun r k n1 => ui_n n1
    generalize qz_ui g' 1 1 0 = gx at f1 z1 fs ⊢
    have ft : ∀ r k, r = 12 ∨ 99 ≤ r ∨ r = 6 ∨ (47 ≤ r ∧ r ≤ 50) → gx.1 r k = g.1 r k := fun r k hr => by rw [fs r k (by omega), hF.2 r k (by omega) (by omega) (by omega), fr r k (by omega)]
    refine c_lawM (d := d + 18) (n := n) (L := L) (sg := qSn gb n) gx v1 v2 v3 (by rw [ft 12 41 (by omega)]; exact eL) hL20 (by omega) (by omega) (by rw [ft 12 25 (by omega)]; omega) h1 h2 (fun k hk => by rw [ft 99 k (by omega)]; exact hsg k hk) hs9 (fun h i' C' cl' hG' _ _ _ _ _ _ _ _ _ _ _ _ => (LwG_X hs9 hG' hX).elim) (fun h kd' at' hX' fh e25 e41 hcl => ?_)
    obtain ⟨rfl, rfl⟩ := LwX_det hX hX'
    have f2 := f1.tr fh
    have ask : h.1 6 16 = g.1 6 16 := by rw [hcl 6 16 (by omega) (by omega)]; exact ft 6 16 (by omega)
    refine ⟨rfl, rfl, Rel_law hR f2 (by rw [hcl 1 1 (by omega) (by omega)]; exact z1) e25 (fun r r1 r2 => ?_) (by rw [hcl 6 17 (by omega) (by omega), e41, ft 6 17 (by omega)]; exact e617) ?_ ?_⟩
    · rw [hcl r L (by omega) (by omega), hcl (r + 61) L (by omega) (by omega), ft r L (by omega), ft (r + 61) L (by omega)]
      obtain rfl | rfl | rfl | rfl : r = 47 ∨ r = 48 ∨ r = 49 ∨ r = 50 := by omega
      · show g.1 47 L = g.1 108 L
        rw [show g.1 47 = g.1 108 from by simp only [hE]]
      · show g.1 48 L = g.1 109 L
        rw [show g.1 48 = g.1 109 from by simp only [hE]]
      · show g.1 49 L = g.1 110 L
        rw [show g.1 49 = g.1 110 from by simp only [hE]]
      · show g.1 50 L = g.1 111 L
        rw [show g.1 50 = g.1 111 from by simp only [hE]]
    · rw [e41]
      unfold qI
      rw [qz_lt, qz_lt, nI_toInt (by omega), qz_n0, qz_n20]
      omega
    · rw [e41]
      exact RelL_keep hR eL (by omega) f2 (fun w => by rw [ask]; exact w)
