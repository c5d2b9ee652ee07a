theorem c_clauseM {X : qz_X} {d : Nat} {Q : qz_Q} {n : Nat} {sg : Nat → Nat} {g0 : qz_G} (hb : RmB n sg g0) (g : qz_G) {i p : Nat} {C : List qOp} {cl : List qCl} (h : RcS n g0 g i p C cl) (hq1 : ∀ g' q C' k v1 v2, ClG sg i p C q C' k v1 v2 → p < q → RcS n g0 g' (i + 1) q C' (cl ++ [(k, v1, v2, C.length, C'.length)]) → Q g' 1 0) (hq2 : ∀ g' kd at_, ClF sg i p C kd at_ → RcX g0 g' kd at_ → Q g' 0 0) : qz_Call X (d + 8) 235 [.ref 12] g Q := by
  have hS := h
  obtain ⟨hf, e26, e31, e33, e100, hpn, hCp, hcl, hi, hrow⟩ := h
  have hn := hb.1
  have hbg := hf.B hb
  have hP : RmP n sg g p := RmP_of hbg (RmF.rf g) e26 hpn
  refine v_X12_readsClause (d := d + 6) g ⟨hP.c.1, hP.c.2, c_isLetter (d := d + 6) g _ (fun hl => ⟨fun _ => ⟨fun z => ?_, fun z => ?_⟩, fun z => absurd z (by decide)⟩) (fun hl => ⟨fun z => absurd rfl z, fun _ => ?_⟩)⟩
  · have hk : qLq (sg p) < 10 := by
      by_cases c : qLq (sg p) < 10
      · exact c
      · exact absurd (hP.lx.mpr c) hl
    have hi12 : i < 12 := by
      by_cases c : i = 12
      · exact absurd (by rw [e33, c]; rfl) z
      · omega
    have hin : p < n := by
      by_cases c : p < n
      · exact c
      · rw [hP.2.2.2.2.2 p (by omega)] at hk
        exact absurd hk (by decide)
    have esy : qSy g = nI (sg p) := by rw [hP.sy, if_pos hin]
    have hs256 := (hP.2.2.2.2.1 p hin).2
    have hN1 : NmF g (qz_ui g 12 26 (g.1 12 26 + 1)) := NmF.u (g := g) (g' := g) ⟨rfl, fun _ _ _ => rfl⟩ (by omega) _
    have hP1 : RmP n sg (qz_ui g 12 26 (g.1 12 26 + 1)) (p + 1) := hN1.P hP (by rw [ui_s, e26, nI_1]) (by omega)
    have hlm : qLm (qLq (sg p)) < 1000000 := by
      unfold qLm
      repeat' split
      all_goals omega
    refine c_mostOf (d := d + 6) _ _ ?_
    refine c_rmNum (d := d + 4) _ hP1 (qLm (qLq (sg p))) (by rw [esy, qMoL_c _ hs256 hk]) (by omega) (fun g7 hf7 l0 _ _ f26 f29 l1 l2 l3 l4 => ⟨fun _ => ?_, fun z => absurd z (by decide)⟩) (fun g7 hf7 l0 f28 => ⟨fun z => absurd rfl z, fun _ => hq2 g7 _ _ (Or.inr (Or.inr (Or.inl ⟨hk, hi12, l0, rfl, rfl⟩))) ⟨(hf.tr (RcF.ofN hN1)).tr (RcF.ofN hf7), f28⟩⟩)
    generalize hr : (qLim sg (p + 1) (qLm (qLq (sg p)))).2.1 = r at f26 l1 l2
    generalize hv1 : (qLim sg (p + 1) (qLm (qLq (sg p)))).2.2 = v1 at f29 l3 l4
    have t7 : ∀ a b : Nat, ¬ (a = 12 ∧ (b = 26 ∨ b = 28 ∨ b = 29)) → g7.1 a b = g.1 a b := fun a b hab => (hf7.2 a b hab).trans (hN1.2 a b hab)
    have f33 : g7.1 12 33 = nI i := by rw [t7 12 33 (by omega)]; exact e33
    have f31 : g7.1 12 31 = nI C.length := by rw [t7 12 31 (by omega)]; exact e31
    have ecl : (g7.1 12 33).toNatClampNeg = i := by rw [f33, nI_clamp (by omega)]
    have hF7 : RcF g0 g7 := (hf.tr (RcF.ofN hN1)).tr (RcF.ofN hf7)
    have elet : qSy g = qz_letters (qLq (sg p)) := by rw [esy]; exact qLq_l _ hs256 hk
    have h120 : qSy g = 120 ↔ qLq (sg p) = 9 := by
      rw [elet]
      exact ⟨fun w => qz_let9 _ hk w, fun w => by rw [w]; rfl⟩
    rw [ecl]
    refine ⟨by rw [f33]; exact qz_vi (by rw [nI_toInt (by omega)]; omega) (by rw [nI_toInt (by omega)]; omega), ?_⟩
    have hF8 : RcF g0 (qz_ui (qz_ui (qz_ui (qz_ui g7 102 i (qSy g)) 105 i (g7.1 12 29)) 106 i 0) 103 i (g7.1 12 31)) := (((hF7.ur (by omega) i _).ur (by omega) i _).ur (by omega) i _).ur (by omega) i _
    generalize hg8 : qz_ui (qz_ui (qz_ui (qz_ui g7 102 i (qSy g)) 105 i (g7.1 12 29)) 106 i 0) 103 i (g7.1 12 31) = g8 at hF8
    have u8 : ∀ a b : Nat, ¬ (102 ≤ a ∧ a ≤ 106) → g8.1 a b = g7.1 a b := fun a b hab => by
      rw [← hg8, ui_n (by omega), ui_n (by omega), ui_n (by omega), ui_n (by omega)]
    have o8 : ∀ a b : Nat, ¬ b = i → g8.1 a b = g7.1 a b := fun a b hab => by
      rw [← hg8, ui_n (by omega), ui_n (by omega), ui_n (by omega), ui_n (by omega)]
    have w2 : g8.1 102 i = qz_letters (qLq (sg p)) := by rw [← hg8, ui_n (by omega), ui_n (by omega), ui_n (by omega), ui_s]; exact elet
    have w5 : g8.1 105 i = nI v1 := by rw [← hg8, ui_n (by omega), ui_n (by omega), ui_s]; exact f29
    have w6 : g8.1 106 i = nI 0 := by rw [← hg8, ui_n (by omega), ui_s]; rfl
    have w3 : g8.1 103 i = nI C.length := by rw [← hg8, ui_s]; exact f31
    have hP8 : RmP n sg g8 r := RmP_of (hF8.B hb) (RmF.rf g8) (by rw [u8 12 26 (by omega)]; exact f26) l1
    have e33' : g8.1 12 33 = nI i := by rw [u8 12 33 (by omega)]; exact f33
    have e31' : g8.1 12 31 = nI C.length := by rw [u8 12 31 (by omega)]; exact f31
    have e100' : ∀ k, k < C.length → g8.1 100 k = qWm (qOa C k) := fun k hk => by rw [u8 100 k (by omega), t7 100 k (by omega)]; exact e100 k hk
    have old8 : ∀ a j : Nat, 102 ≤ a → a ≤ 106 → ¬ j = i → g8.1 a j = g.1 a j := fun a j _ _ hj => by rw [o8 a j hj, t7 a j (by omega)]
    have mk : ∀ q C' v2, ClB sg C (qLq (sg p)) r q C' v2 → ClG sg i p C q C' (qLq (sg p)) v1 v2 := fun q C' v2 hB => ⟨rfl, hk, hi12, l0, hv1.symm, by rw [hr]; exact hB⟩
    have mkF : ∀ kd at_, ClE sg C (qLq (sg p)) r kd at_ → ClF sg i p C kd at_ := fun kd at_ hE => Or.inr (Or.inr (Or.inr ⟨hk, hi12, l0, by rw [hr]; exact hE⟩))
    refine ⟨fun nx => ?_, fun yx => ?_⟩
    · have n9 : ¬ qLq (sg p) = 9 := fun w => nx (h120.mpr w)
      have h40 := hP8.is (c := 40) (s := 40) (by decide) (by decide)
      have c8 := hP8.c
      rw [u8 12 26 (by omega), u8 12 27 (by omega)] at c8
      refine ⟨c8.1, c8.2, fun z40 => ?_, fun z40 => ?_⟩
      · refine hq1 _ r C (qLq (sg p)) v1 0 (mk r C 0 (Or.inr (Or.inl ⟨n9, fun w => z40 (h40.mpr w), rfl, rfl, rfl⟩))) (by omega) ?_
        refine RcS_step hS hi12 ((hF8.ur (r0 := 104) (by omega) i _).u12 (by omega) _) ?_ ?_ ?_ ?_ l1 (by omega) ?_ ?_ ?_ ?_ ?_ ?_
        · rw [ui_n (by omega), ui_n (by omega), u8 12 26 (by omega)]; exact f26
        · rw [ui_n (by omega), ui_n (by omega)]; exact e31'
        · rw [ui_s, f33, nI_1]
        · intro k hk; rw [ui_n (by omega), ui_n (by omega)]; exact e100' k hk
        · rw [ui_n (by omega), ui_n (by omega)]; exact w2
        · rw [ui_n (by omega), ui_n (by omega)]; exact w5
        · rw [ui_n (by omega), ui_n (by omega)]; exact w6
        · rw [ui_n (by omega), ui_n (by omega)]; exact w3
        · rw [ui_n (by omega), ui_s]; exact f31
        · intro a j ha1 ha2 hj; rw [ui_n (by omega), ui_n (by omega)]; exact old8 a j ha1 ha2 hj
      · have s40 := h40.mp z40
        have hinr : r < n := hP8.lt (by omega)
        have hM : RmM n g8 (qz_ui (qz_ui g8 12 30 0) 12 32 0) r 0 C [] := by
          refine ⟨((RmF.rf g8).u12 (by omega) _).u12 (by omega) _, ?_, ?_, ?_, ?_, ?_, trivial, l1⟩
          · rw [ui_n (by omega), ui_n (by omega)]; exact hP8.1
          · rw [ui_n (by omega), ui_s]; rfl
          · rw [ui_n (by omega), ui_n (by omega)]; exact e31'
          · rw [ui_s]; rfl
          · intro k hk; rw [ui_n (by omega), ui_n (by omega)]; exact e100' k hk
        refine c_condition (d := d) (hF8.B hb) g8 hM (by omega) hinr (fun g' hw q C' m1 m2 m3 m4 => ⟨fun _ => ?_, fun z => absurd z (by decide)⟩) (fun g' kd at_ m1 m2 => ⟨fun z => absurd rfl z, fun _ => hq2 g' kd at_ (mkF kd at_ (Or.inr (Or.inr ⟨n9, s40, m2⟩))) ⟨hF8.tr (RcF.ofM m1.1), m1.2⟩⟩)
        refine hq1 _ q C' (qLq (sg p)) v1 0 (mk q C' 0 (Or.inr (Or.inr ⟨n9, s40, rfl, hw, m4⟩))) (by omega) ?_
        have rr : ∀ a j : Nat, 102 ≤ a → a ≤ 106 → g'.1 a j = g8.1 a j := fun a j h1 h2 => m1.1.2 a j (by omega) (by omega) (by omega)
        have g33 : g'.1 12 33 = nI i := by rw [m1.1.2 12 33 (by omega) (by omega) (by omega)]; exact e33'
        refine RcS_step hS hi12 (((hF8.tr (RcF.ofM m1.1)).ur (r0 := 104) (by omega) i _).u12 (by omega) _) ?_ ?_ ?_ ?_ m1.2.2.2.2.2.2.2 m2 ?_ ?_ ?_ ?_ ?_ ?_
        · rw [ui_n (by omega), ui_n (by omega)]; exact m1.2.1
        · rw [ui_n (by omega), ui_n (by omega)]; exact m1.2.2.2.1
        · rw [ui_s, g33, nI_1]
        · intro k hk; rw [ui_n (by omega), ui_n (by omega)]; exact m1.2.2.2.2.2.1 k hk
        · rw [ui_n (by omega), ui_n (by omega), rr 102 i (by omega) (by omega)]; exact w2
        · rw [ui_n (by omega), ui_n (by omega), rr 105 i (by omega) (by omega)]; exact w5
        · rw [ui_n (by omega), ui_n (by omega), rr 106 i (by omega) (by omega)]; exact w6
        · rw [ui_n (by omega), ui_n (by omega), rr 103 i (by omega) (by omega)]; exact w3
        · rw [ui_n (by omega), ui_s]; exact m1.2.2.2.1
        · intro a j ha1 ha2 hj; rw [ui_n (by omega), ui_n (by omega), rr a j ha1 ha2]; exact old8 a j ha1 ha2 hj
    · have y9 := h120.mp yx
      have h46 := hP8.is (c := 46) (s := 46) (by decide) (by decide)
      refine v_X12_takes (d := d + 5) g8 46 ⟨hP8.c.1, hP8.c.2, fun z => ⟨fun w => absurd w (by decide), fun _ => ?_⟩, fun z => ⟨fun _ => ?_, fun w => absurd rfl w⟩⟩
      · have s46 := h46.mp z
        have hinr : r < n := hP8.lt (by omega)
        have hN9 : NmF g8 (qz_ui g8 12 26 (g8.1 12 26 + 1)) := NmF.u (g := g8) (g' := g8) ⟨rfl, fun _ _ _ => rfl⟩ (by omega) _
        have hP9 : RmP n sg (qz_ui g8 12 26 (g8.1 12 26 + 1)) (r + 1) := hN9.P hP8 (by rw [ui_s, hP8.1, nI_1]) (by omega)
        refine c_rmNum (d := d + 4) _ hP9 11 (by decide) (by decide) (fun g' hf9 m0 _ _ m26 m29 m1 m2 m3 m4 => ⟨fun _ => ?_, fun z => absurd z (by decide)⟩) (fun g' hf9 m0 m28 => ⟨fun z => absurd rfl z, fun _ => hq2 g' _ _ (mkF _ _ (Or.inr (Or.inl ⟨y9, s46, m0, rfl, rfl⟩))) ⟨(hF8.tr (RcF.ofN hN9)).tr (RcF.ofN hf9), m28⟩⟩)
        have t9 : ∀ a b : Nat, ¬ (a = 12 ∧ (b = 26 ∨ b = 28 ∨ b = 29)) → g'.1 a b = g8.1 a b := fun a b hab => (hf9.2 a b hab).trans (hN9.2 a b hab)
        have g33 : g'.1 12 33 = nI i := by rw [t9 12 33 (by omega)]; exact e33'
        refine hq1 _ (qLim sg (r + 1) 11).2.1 C (qLq (sg p)) v1 (qLim sg (r + 1) 11).2.2 (mk _ C _ (Or.inl ⟨y9, s46, m0, rfl, rfl, rfl⟩)) (by omega) ?_
        refine RcS_step hS hi12 (((((hF8.tr (RcF.ofN hN9)).tr (RcF.ofN hf9)).ur (r0 := 106) (by omega) i _).ur (r0 := 104) (by omega) i _).u12 (by omega) _) ?_ ?_ ?_ ?_ m1 (by omega) ?_ ?_ ?_ ?_ ?_ ?_
        · rw [ui_n (by omega), ui_n (by omega), ui_n (by omega)]; exact m26
        · rw [ui_n (by omega), ui_n (by omega), ui_n (by omega), t9 12 31 (by omega)]; exact e31'
        · rw [ui_s, g33, nI_1]
        · intro k hk; rw [ui_n (by omega), ui_n (by omega), ui_n (by omega), t9 100 k (by omega)]; exact e100' k hk
        · rw [ui_n (by omega), ui_n (by omega), ui_n (by omega), t9 102 i (by omega)]; exact w2
        · rw [ui_n (by omega), ui_n (by omega), ui_n (by omega), t9 105 i (by omega)]; exact w5
        · rw [ui_n (by omega), ui_n (by omega), ui_s]; exact m29
        · rw [ui_n (by omega), ui_n (by omega), ui_n (by omega), t9 103 i (by omega)]; exact w3
        · rw [ui_n (by omega), ui_s, t9 12 31 (by omega)]; exact e31'
        · intro a j ha1 ha2 hj; rw [ui_n (by omega), ui_n (by omega), ui_n (by omega), t9 a j (by omega)]; exact old8 a j ha1 ha2 hj
      · refine hq2 _ 1 r (mkF 1 r (Or.inl ⟨y9, fun w => z (h46.mpr w), rfl, rfl⟩)) ⟨hF8.u12 (by omega) _, ?_⟩
        rw [ui_s, hP8.1]
        exact qGv 1 r (by decide)
  · have hk : qLq (sg p) < 10 := by
      by_cases c : qLq (sg p) < 10
      · exact c
      · exact absurd (hP.lx.mpr c) hl
    have hi12 : i = 12 := nI_inj (by omega) (by omega) ((e33.symm.trans z).trans (by decide : (12 : Int32) = nI 12))
    refine hq2 _ 4 p (Or.inr (Or.inl ⟨hk, by omega, rfl, rfl⟩)) ⟨hf.u12 (by omega) _, ?_⟩
    rw [ui_s, e26]
    exact qGv 4 p (by decide)
  · refine hq2 _ 1 p (Or.inl ⟨hP.lx.mp hl, rfl, rfl⟩) ⟨hf.u12 (by omega) _, ?_⟩
    rw [ui_s, e26]
    exact qGv 1 p (by decide)
