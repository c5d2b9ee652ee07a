/-! what a law's call leaves: the frame of both sides, and the relation again -/
def LaX (L r k : Nat) : Prop := r = 7 ∨ (r = 59 ∧ 200 * L ≤ k) ∨ (52 ≤ r ∧ r ≤ 56 ∧ 12 * L ≤ k) ∨ (47 ≤ r ∧ r ≤ 50 ∧ k = L) ∨ (r = 6 ∧ (k = 16 ∨ k = 17)) ∨ (r = 1 ∧ k = 1) ∨ (r = 12 ∧ (25 ≤ k ∧ k ≤ 33 ∨ k = 41)) ∨ (100 ≤ r ∧ r ≤ 106) ∨ (r = 107 ∧ 220 * L ≤ k) ∨ (108 ≤ r ∧ r ≤ 111 ∧ k = L) ∨ (112 ≤ r ∧ r ≤ 116 ∧ 12 * L ≤ k)
def LaF (L : Nat) (g h : qz_G) : Prop := h.2 = g.2 ∧ ∀ r k : Nat, ¬ LaX L r k → h.1 r k = g.1 r k
theorem LaF.rf (L : Nat) (g : qz_G) : LaF L g g := ⟨rfl, fun _ _ _ => rfl⟩
theorem LaF.tr {L : Nat} {a b c : qz_G} (h1 : LaF L a b) (h2 : LaF L b c) : LaF L a c := ⟨h2.1.trans h1.1, fun r k n => (h2.2 r k n).trans (h1.2 r k n)⟩
theorem LaF.ui {L : Nat} {g h : qz_G} (f : LaF L g h) {r0 k0 : Nat} (hx : LaX L r0 k0) (v : Int32) : LaF L g (qz_ui h r0 k0 v) := ⟨f.1, fun r k n => by rw [ui_n (fun z => n (by rw [z.1, z.2]; exact hx))]; exact f.2 r k n⟩
theorem LaF.ofL {L : Nat} {g h : qz_G} (f : RlF L g h) : LaF L g h := ⟨f.1.1, fun r k n => by
  unfold LaX at n
  exact f.2 r k (by omega) (by omega) (by omega)⟩
theorem LaF.ofC {L : Nat} {g h : qz_G} (f : RcF g h) : LaF L g h := ⟨f.1, fun r k n => by
  unfold LaX at n
  exact f.2 r k (by omega) (by omega)⟩
theorem LaF.ofK {L : Nat} {g h : qz_G} (f : RkF L g h) : LaF L g h := ⟨f.1, fun r k n => by
  unfold LaX at n
  exact f.2 r k (by omega) (by omega)⟩
theorem LaF.row {L : Nat} {g h : qz_G} (f : LaF L g h) (r : Nat) (hr : ∀ k, ¬ LaX L r k) : h.1 r = g.1 r := funext fun k => f.2 r k (hr k)
theorem Rel_law {L : Nat} {g h : qz_G} (hR : Rel g) (f : LaF L g h) (e1 : h.1 1 1 = 0) (e25 : h.1 12 25 = 0) (hrows : ∀ r, 47 ≤ r → r ≤ 50 → h.1 r L = h.1 (r + 61) L) (e17 : h.1 6 17 = h.1 12 41) (h41 : qI (h.1 12 41) 0 20) (hRL : RelL (h.1 12 41) (h.1 6 16) (h.1 111) (h.1 52) (h.1 53) (h.1 54) (h.1 55) (h.1 56) (h.1 59) (h.1 112) (h.1 113) (h.1 114) (h.1 115) (h.1 116) (h.1 107)) : Rel h := by
  obtain ⟨hE, hS, hB, hP, hD, hW, hZ, hK, hT, hA, hV, hC, hY, hJ, hU, _⟩ := hR
  have r13 := f.row 13 (fun k => by unfold LaX; omega)
  have r14 := f.row 14 (fun k => by unfold LaX; omega)
  have r15 := f.row 15 (fun k => by unfold LaX; omega)
  have r16 := f.row 16 (fun k => by unfold LaX; omega)
  have r17 := f.row 17 (fun k => by unfold LaX; omega)
  have r18 := f.row 18 (fun k => by unfold LaX; omega)
  have r19 := f.row 19 (fun k => by unfold LaX; omega)
  have r20 := f.row 20 (fun k => by unfold LaX; omega)
  have r21 := f.row 21 (fun k => by unfold LaX; omega)
  have r22 := f.row 22 (fun k => by unfold LaX; omega)
  have r23 := f.row 23 (fun k => by unfold LaX; omega)
  have r24 := f.row 24 (fun k => by unfold LaX; omega)
  have r25 := f.row 25 (fun k => by unfold LaX; omega)
  have r26 := f.row 26 (fun k => by unfold LaX; omega)
  have r27 := f.row 27 (fun k => by unfold LaX; omega)
  have r28 := f.row 28 (fun k => by unfold LaX; omega)
  have r29 := f.row 29 (fun k => by unfold LaX; omega)
  have r30 := f.row 30 (fun k => by unfold LaX; omega)
  have r31 := f.row 31 (fun k => by unfold LaX; omega)
  have r32 := f.row 32 (fun k => by unfold LaX; omega)
  have r34 := f.row 34 (fun k => by unfold LaX; omega)
  have r35 := f.row 35 (fun k => by unfold LaX; omega)
  have r36 := f.row 36 (fun k => by unfold LaX; omega)
  have r37 := f.row 37 (fun k => by unfold LaX; omega)
  have r38 := f.row 38 (fun k => by unfold LaX; omega)
  have r39 := f.row 39 (fun k => by unfold LaX; omega)
  have r40 := f.row 40 (fun k => by unfold LaX; omega)
  have r41 := f.row 41 (fun k => by unfold LaX; omega)
  have r42 := f.row 42 (fun k => by unfold LaX; omega)
  have r43 := f.row 43 (fun k => by unfold LaX; omega)
  have r44 := f.row 44 (fun k => by unfold LaX; omega)
  have r45 := f.row 45 (fun k => by unfold LaX; omega)
  have r46 := f.row 46 (fun k => by unfold LaX; omega)
  have r61 := f.row 61 (fun k => by unfold LaX; omega)
  have r62 := f.row 62 (fun k => by unfold LaX; omega)
  have r67 := f.row 67 (fun k => by unfold LaX; omega)
  have r68 := f.row 68 (fun k => by unfold LaX; omega)
  have r69 := f.row 69 (fun k => by unfold LaX; omega)
  have r70 := f.row 70 (fun k => by unfold LaX; omega)
  have r71 := f.row 71 (fun k => by unfold LaX; omega)
  have r72 := f.row 72 (fun k => by unfold LaX; omega)
  have r73 := f.row 73 (fun k => by unfold LaX; omega)
  have r74 := f.row 74 (fun k => by unfold LaX; omega)
  have r79 := f.row 79 (fun k => by unfold LaX; omega)
  have r81 := f.row 81 (fun k => by unfold LaX; omega)
  have r82 := f.row 82 (fun k => by unfold LaX; omega)
  have r83 := f.row 83 (fun k => by unfold LaX; omega)
  have r84 := f.row 84 (fun k => by unfold LaX; omega)
  have r85 := f.row 85 (fun k => by unfold LaX; omega)
  have r86 := f.row 86 (fun k => by unfold LaX; omega)
  have r87 := f.row 87 (fun k => by unfold LaX; omega)
  have r88 := f.row 88 (fun k => by unfold LaX; omega)
  have r89 := f.row 89 (fun k => by unfold LaX; omega)
  have r90 := f.row 90 (fun k => by unfold LaX; omega)
  have r91 := f.row 91 (fun k => by unfold LaX; omega)
  have r92 := f.row 92 (fun k => by unfold LaX; omega)
  have r93 := f.row 93 (fun k => by unfold LaX; omega)
  have r94 := f.row 94 (fun k => by unfold LaX; omega)
  have r95 := f.row 95 (fun k => by unfold LaX; omega)
  have r96 := f.row 96 (fun k => by unfold LaX; omega)
  have r97 := f.row 97 (fun k => by unfold LaX; omega)
  have r98 := f.row 98 (fun k => by unfold LaX; omega)
  have r99 := f.row 99 (fun k => by unfold LaX; omega)
  have r120 := f.row 120 (fun k => by unfold LaX; omega)
  have r121 := f.row 121 (fun k => by unfold LaX; omega)
  have r122 := f.row 122 (fun k => by unfold LaX; omega)
  have r123 := f.row 123 (fun k => by unfold LaX; omega)
  have r124 := f.row 124 (fun k => by unfold LaX; omega)
  have r125 := f.row 125 (fun k => by unfold LaX; omega)
  have r126 := f.row 126 (fun k => by unfold LaX; omega)
  have r127 := f.row 127 (fun k => by unfold LaX; omega)
  have r128 := f.row 128 (fun k => by unfold LaX; omega)
  have r129 := f.row 129 (fun k => by unfold LaX; omega)
  have r130 := f.row 130 (fun k => by unfold LaX; omega)
  have r131 := f.row 131 (fun k => by unfold LaX; omega)
  have r132 := f.row 132 (fun k => by unfold LaX; omega)
  have r133 := f.row 133 (fun k => by unfold LaX; omega)
  have r134 := f.row 134 (fun k => by unfold LaX; omega)
  have r135 := f.row 135 (fun k => by unfold LaX; omega)
  have r136 := f.row 136 (fun k => by unfold LaX; omega)
  have r137 := f.row 137 (fun k => by unfold LaX; omega)
  have r138 := f.row 138 (fun k => by unfold LaX; omega)
  have r139 := f.row 139 (fun k => by unfold LaX; omega)
  have r140 := f.row 140 (fun k => by unfold LaX; omega)
  have r141 := f.row 141 (fun k => by unfold LaX; omega)
  have r142 := f.row 142 (fun k => by unfold LaX; omega)
  have r146 := f.row 146 (fun k => by unfold LaX; omega)
  have c0_10 := f.2 0 10 (by unfold LaX; omega)
  have c2_8 := f.2 2 8 (by unfold LaX; omega)
  have c2_9 := f.2 2 9 (by unfold LaX; omega)
  have c3_12 := f.2 3 12 (by unfold LaX; omega)
  have c4_13 := f.2 4 13 (by unfold LaX; omega)
  have c4_14 := f.2 4 14 (by unfold LaX; omega)
  have c4_15 := f.2 4 15 (by unfold LaX; omega)
  have c10_12 := f.2 10 12 (by unfold LaX; omega)
  have c10_13 := f.2 10 13 (by unfold LaX; omega)
  have c12_0 := f.2 12 0 (by unfold LaX; omega)
  have c12_1 := f.2 12 1 (by unfold LaX; omega)
  have c12_2 := f.2 12 2 (by unfold LaX; omega)
  have c12_3 := f.2 12 3 (by unfold LaX; omega)
  have c12_55 := f.2 12 55 (by unfold LaX; omega)
  have c12_56 := f.2 12 56 (by unfold LaX; omega)
  have c12_71 := f.2 12 71 (by unfold LaX; omega)
  have c12_72 := f.2 12 72 (by unfold LaX; omega)
  have c12_73 := f.2 12 73 (by unfold LaX; omega)
  unfold RelE at hE
  obtain ⟨x14, x15, x16, x17, x46, x18, x19, x20, x21, x22, x23, x24, x25, x26, x27, x28, x29, x30, x31, x34, x35, x36, x37, x38, x39, x40, x41, x42, x43, x44, x45, x47, x48, x49, x50, x61, x62, x67, x68, x69, x70, x71, x72, x73, x74⟩ := hE
  unfold RelS at hS
  obtain ⟨y0_10, y2_8, y3_12, y2_9, y1_1, y6_17, y4_13, y4_14, y4_15, y10_12, y10_13⟩ := hS
  refine ⟨⟨?_, ?_, ?_, ?_, ?_, ?_, ?_, ?_, ?_, ?_, ?_, ?_, ?_, ?_, ?_, ?_, ?_, ?_, ?_, ?_, ?_, ?_, ?_, ?_, ?_, ?_, ?_, ?_, ?_, ?_, ?_, ?_, ?_, ?_, ?_, ?_, ?_, ?_, ?_, ?_, ?_, ?_, ?_, ?_, ?_⟩, ⟨?_, ?_, ?_, ?_, ?_, ?_, ?_, ?_, ?_, ?_, ?_⟩, ?_, ?_, ?_, ?_, ?_, ?_, ?_, ?_, ?_, ?_, ?_, ?_, ?_, hRL⟩
  · rw [r14, r79]; exact x14
  · rw [r15, r81]; exact x15
  · rw [r16, r82]; exact x16
  · rw [r17, r83]; exact x17
  · rw [r46, r84]; exact x46
  · rw [r18, r85]; exact x18
  · rw [r19, r86]; exact x19
  · rw [r20, r87]; exact x20
  · rw [r21, r88]; exact x21
  · rw [r22, r89]; exact x22
  · rw [r23, r90]; exact x23
  · rw [r24, r91]; exact x24
  · rw [r25, r92]; exact x25
  · rw [r26, r93]; exact x26
  · rw [r27, r94]; exact x27
  · rw [r28, r95]; exact x28
  · rw [r29, r96]; exact x29
  · rw [r30, r97]; exact x30
  · rw [r31, r98]; exact x31
  · rw [r34, r122]; exact x34
  · rw [r35, r123]; exact x35
  · rw [r36, r124]; exact x36
  · rw [r37, r125]; exact x37
  · rw [r38, r126]; exact x38
  · rw [r39, r127]; exact x39
  · rw [r40, r128]; exact x40
  · rw [r41, r129]; exact x41
  · rw [r42, r130]; exact x42
  · rw [r43, r131]; exact x43
  · rw [r44, r132]; exact x44
  · rw [r45, r133]; exact x45
  · funext k
    by_cases c : k = L
    · rw [c]; exact hrows 47 (by omega) (by omega)
    · rw [f.2 47 k (by unfold LaX; omega), f.2 108 k (by unfold LaX; omega)]; exact congrFun x47 k
  · funext k
    by_cases c : k = L
    · rw [c]; exact hrows 48 (by omega) (by omega)
    · rw [f.2 48 k (by unfold LaX; omega), f.2 109 k (by unfold LaX; omega)]; exact congrFun x48 k
  · funext k
    by_cases c : k = L
    · rw [c]; exact hrows 49 (by omega) (by omega)
    · rw [f.2 49 k (by unfold LaX; omega), f.2 110 k (by unfold LaX; omega)]; exact congrFun x49 k
  · funext k
    by_cases c : k = L
    · rw [c]; exact hrows 50 (by omega) (by omega)
    · rw [f.2 50 k (by unfold LaX; omega), f.2 111 k (by unfold LaX; omega)]; exact congrFun x50 k
  · rw [r61, r120]; exact x61
  · rw [r62, r121]; exact x62
  · rw [r67, r134]; exact x67
  · rw [r68, r135]; exact x68
  · rw [r69, r136]; exact x69
  · rw [r70, r137]; exact x70
  · rw [r71, r138]; exact x71
  · rw [r72, r139]; exact x72
  · rw [r73, r140]; exact x73
  · rw [r74, r141]; exact x74
  · rw [c0_10, c12_0]; exact y0_10
  · rw [c2_8, c12_1]; exact y2_8
  · rw [c3_12, c12_2]; exact y3_12
  · rw [c2_9, c12_3]; exact y2_9
  · rw [e1, e25]
  · exact e17
  · rw [c4_13, c12_55]; exact y4_13
  · rw [c4_14, c12_56]; exact y4_14
  · rw [c4_15, c12_71]; exact y4_15
  · rw [c10_12, c12_72]; exact y10_12
  · rw [c10_13, c12_73]; exact y10_13
  · unfold RelB at hB ⊢
    obtain ⟨h1, h2, h3, h4, h5, h6, h7, h8, h9, h10, h11⟩ := hB
    rw [c12_0, c12_1, c12_2, c12_3, e25, c12_55, c12_56, c12_71, c12_72, c12_73]
    exact ⟨h1, h2, h3, h4, ⟨by decide, by decide⟩, h41, h7, h8, h9, h10, h11⟩
  · rw [c12_1, r81]; exact hP
  · rw [c12_3, c12_1, r85, r86, r87, r88]; exact hD
  · rw [c12_2, c12_1, r89, r90, r91, r92, r93, r94, r95, r96, r97, r98]; exact hW
  · rw [c12_2, r96]; exact hZ
  · rw [c12_55, c12_2, c12_1, c12_0, r122, r123, r124, r125, r126]; exact hK
  · rw [c12_56, c12_1, c12_0, r127, r128, r129, r130]; exact hT
  · rw [c12_71, c12_0, r133]; exact hA
  · rw [c12_72, c12_2, c12_0, r135, r136, r138, r140]; exact hV
  · rw [r120, r121]; exact hC
  · rw [r13, r99]; exact hY
  · rw [r32, r146]; exact hJ
  · rw [c12_73, r142, c12_72, f.1]; exact hU
theorem RelL_keep {L : Nat} {g h : qz_G} {asks : Int32} (hR : Rel g) (eL : g.1 12 41 = nI L) (hl : L ≤ 20) (f : LaF L g h) (ha : ¬ g.1 6 16 = 0 → ¬ asks = 0) : RelL (nI L) asks (h.1 111) (h.1 52) (h.1 53) (h.1 54) (h.1 55) (h.1 56) (h.1 59) (h.1 112) (h.1 113) (h.1 114) (h.1 115) (h.1 116) (h.1 107) := by
  have hL := hR.2.2.2.2.2.2.2.2.2.2.2.2.2.2.2
  intro i hi
  rw [nI_toInt (by omega)] at hi
  obtain ⟨C, c1, c2, c3, c4⟩ := hL i (by rw [eL, nI_toInt (by omega)]; exact hi)
  have e111 := f.2 111 i (by unfold LaX; omega)
  refine ⟨C, c1, fun k hk => ?_, by rw [e111]; exact c3, fun j hj => ?_⟩
  · rw [f.2 59 (200 * i + k) (by unfold LaX; omega), f.2 107 (220 * i + k) (by unfold LaX; omega)]
    exact c2 k hk
  · rw [e111] at hj
    have hj12 : j < 12 := by
      have := c3.2
      rw [qz_lt, qz_n12] at this
      omega
    obtain ⟨kd, a, b, a1, a2, a3, a4, a5, a6, a7, a8, a9, a10, a11, a12, a13⟩ := c4 j hj
    refine ⟨kd, a, b, a1, a2, a3, ?_, ?_, ?_, ?_, ?_, ?_, ?_, ?_, ?_, qTy_as a13 ha⟩
    · rw [f.2 52 _ (by unfold LaX; omega)]; exact a4
    · rw [f.2 112 _ (by unfold LaX; omega)]; exact a5
    · rw [f.2 53 _ (by unfold LaX; omega), f.2 115 _ (by unfold LaX; omega)]; exact a6
    · rw [f.2 115 _ (by unfold LaX; omega)]; exact a7
    · rw [f.2 54 _ (by unfold LaX; omega), f.2 116 _ (by unfold LaX; omega)]; exact a8
    · rw [f.2 55 _ (by unfold LaX; omega)]; exact a9
    · rw [f.2 56 _ (by unfold LaX; omega)]; exact a10
    · rw [f.2 113 _ (by unfold LaX; omega)]; exact a11
    · rw [f.2 114 _ (by unfold LaX; omega)]; exact a12
theorem RelL_add {L m : Nat} {h : qz_G} {asks : Int32} {C : List qOp} {cl : List qCl} (hl : L < 20) (hm : m ≤ 12) (hC : C.length ≤ 200) (h0 : RelL (nI L) asks (h.1 111) (h.1 52) (h.1 53) (h.1 54) (h.1 55) (h.1 56) (h.1 59) (h.1 112) (h.1 113) (h.1 114) (h.1 115) (h.1 116) (h.1 107)) (h59 : ∀ k, k < C.length → h.1 59 (200 * L + k) = qWx k (qOa C k)) (hk : RkC L h C C.length) (hx : CxL L h asks C cl m) (hkl : RkL L h cl m) (e111 : h.1 111 L = nI m) : RelL (nI (L + 1)) asks (h.1 111) (h.1 52) (h.1 53) (h.1 54) (h.1 55) (h.1 56) (h.1 59) (h.1 112) (h.1 113) (h.1 114) (h.1 115) (h.1 116) (h.1 107) := by
  intro i hi
  rw [nI_toInt (by omega)] at hi
  by_cases c : i = L
  · subst c
    refine ⟨C, hC, fun k hkk => ⟨h59 k hkk, hk k hkk⟩, ?_, fun j hj => ?_⟩
    · rw [e111]
      unfold qI
      rw [qz_lt, qz_lt, nI_toInt (by omega), qz_n0, qz_n12]
      omega
    · rw [e111, nI_toInt (by omega)] at hj
      obtain ⟨a1, a2, a3, a4, a5, a6, a7, a8, a9, a10, a11⟩ := hx.2 j (by omega)
      obtain ⟨b1, b2, b3, b4, b5⟩ := hkl j (by omega)
      have hlm : qLm (qCa cl j).1 < 1000000 := by
        unfold qLm
        repeat' split
        all_goals omega
      refine ⟨(qCa cl j).1, (qCa cl j).2.2.2.1, (qCa cl j).2.2.2.2, a6, a9, a10, a1, b1, a2.trans b2.symm, ?_, fun k9 => ⟨?_, ?_⟩, a4, a5, b4, b5, a11⟩
      · rw [b2, qz_lims _ a6]
        unfold qI
        rw [qz_lt, qz_lt, nI_toInt (by omega), nI_toInt (by omega), qz_n0]
        omega
      · rw [a3, b3, if_pos k9]
      · rw [b3]
        unfold qI
        rw [qz_lt, qz_lt, nI_toInt (by omega), qz_n0, qz_n11]
        omega
  · exact h0 i (by rw [nI_toInt (by omega)]; omega)
