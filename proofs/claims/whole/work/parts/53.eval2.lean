theorem qEv_s {C : List qOp} {F : Nat → Int32} {b m k : Nat} {s : List Int32} : qEv C F b (m + 1) k s = if b ≤ k then (match s with
      | [] => true
      | x :: _ => decide (x = 1))
    else if (qOa C k).1 = 0 then qEv C F b m (k + 1) (nI (qOa C k).2 :: s)
    else if (qOa C k).1 = 1 then qEv C F b m (k + 1) (F (qOa C k).2 :: s)
    else if (qOa C k).1 = 10 then (match s with
      | x :: r => qEv C F b m (k + 1) ((1 - x) :: r)
      | [] => false)
    else if 11 ≤ (qOa C k).1 then (match s with
      | x :: r => if x = (if (qOa C k).1 = 12 then 1 else 0) then qEv C F b m (qOa C k).2 (x :: r) else qEv C F b m (k + 1) r
      | [] => false)
    else (match s with
      | y :: x :: r => if ((qOa C k).1 = 5 ∨ (qOa C k).1 = 6) ∧ y = 0 then false else qEv C F b m (k + 1) (qRk (qOa C k).1 x y :: r)
      | _ => false) := rfl
theorem qEv_end {C : List qOp} {F : Nat → Int32} {b m : Nat} {s : List Int32} : qEv C F b (m + 1) b s = (match s with
      | [] => true
      | x :: _ => decide (x = 1)) := by
  rw [qEv_s, if_pos (Nat.le_refl b)]
theorem c_X6_isMet {X : qz_X} {d : Nat} {Q : qz_Q} (g : qz_G) (i a b : Nat) (C : List qOp) (asks : Int32) (F : Nat → Int32) (hi : i < 20) (hab : a ≤ b) (hb : b ≤ C.length) (hC : C.length ≤ 200) (hcode : ∀ k, k < C.length → g.1 59 (200 * i + k) = qWx k (qOa C k)) (hT : qTy C asks a b) (hF : ∀ v, v < 8 → (v = 5 → ¬ asks = 0) → g.1 57 v = F v)
    (hq : ∀ g', Frm [60, 7] g g' → Q g' (if qEv C F b (b - a + 1) a [] then 1 else 0) 0) : qz_Call X (d + 2) 91 [.ref 7, .int (nI (200 * i + a)), .int (nI (200 * i + b)), .ref 57] g Q := by
  have ea := qz_nI (n := 200 * i + a) (by omega)
  have eb := qz_nI (n := 200 * i + b) (by omega)
  have n4000 := qz_n4000
  refine v_X6_isMet g _ _ ?_
  rw [if_neg (by rw [qz_lt, ea, qz_n0]; omega)]
  have f0 : Frm [60, 7] g (qz_ui g 7 4 0) := (Frm.rf _ g).ui 7 4 0 (by decide)
  by_cases hab' : a = b
  · subst hab'
    rw [show a - a + 1 = 0 + 1 from by omega, qEv_end] at hq
    exact v_X6_isMet_12 _ _ _ _ ⟨fun _ => v_X6_isMet_234 _ _ _ ⟨fun _ => hq _ f0, fun z => absurd rfl z⟩, fun z => absurd (Int32.le_refl _) z⟩
  · rcases hT with hT | ⟨T, hTa, hTb, hTk⟩
    · exact absurd hT hab'
    have key : ∀ (m k : Nat) (s : List Int32) (g' : qz_G), a ≤ k → k ≤ b → b < m + k → qSt (T k) s → s.length ≤ 31 → Frm [60, 7] g g' → g'.1 7 4 = nI s.length → Stk (g'.1 60) s → (∀ g2, Frm [60, 7] g g2 → Q g2 (if qEv C F b m k s then 1 else 0) 0) → qz_WP X (d + 2) 91 Q 12 [(0, .ref 7), (1, .int (nI (200 * i + a))), (2, .int (nI (200 * i + b))), (3, .ref 57), (4, .int (nI (200 * i + k)))] [] g' := by
      intro m
      induction m with
      | zero => intro k s g' h1 h2 h3; omega
      | succ m ih =>
        intro k s g' h1 h2 h3 hS hl hfr h4 hSt hfin
        have ek := qz_nI (n := 200 * i + k) (by omega)
        by_cases hk : k = b
        · subst hk
          rw [hTb] at hS
          obtain ⟨x, r, es, hx, hr⟩ := qSt_cons hS
          have er := qSt_nil hr
          subst er
          subst es
          rw [qEv_end] at hfin
          refine v_X6_isMet_12 _ _ _ _ ⟨fun _ => v_X6_isMet_234 _ _ _ ⟨fun z => ?_, fun _ => ?_⟩, fun z => absurd (Int32.le_refl _) z⟩
          · rw [qz_eq, ea, eb] at z
            omega
          · refine c_X6_pop (d := d) g' x [] h4 (by decide) hSt (fun g2 hf2 _ _ => ⟨fun e => ?_, fun e => ?_⟩)
            · have := hfin g2 (hfr.tr hf2)
              rw [e] at this
              exact this
            · have := hfin g2 (hfr.tr hf2)
              rw [(hx rfl).resolve_left e] at this
              exact this
        · have hw : g'.1 59 (200 * i + k) = qWx k (qOa C k) := by rw [hfr.1 59 (by decide)]; exact hcode k (by omega)
          have ht := hTk k h1 (by omega)
          rw [qEv_s, if_neg (show ¬ b ≤ k by omega)] at hfin
          rcases hp : qOa C k with ⟨o, v⟩
          rw [hp] at hw ht hfin
          obtain ⟨ho12, h0, h1', h29, h10, h11⟩ := ht
          simp only [] at ho12 h0 h1' h29 h10 h11 hfin
          have hu : (if 11 ≤ o then v - k - 1 else v) < 8388608 := by
            by_cases c : 11 ≤ o
            · rw [if_pos c]
              have := h11 c
              omega
            · rw [if_neg c]
              by_cases c0 : o = 0
              · have := h0 c0; omega
              · by_cases c1 : o = 1
                · have := h1' c1; omega
                · by_cases c10 : o = 10
                  · have := h10 c10; omega
                  · have := h29 (by omega) (by omega); omega
          have hsg : qSg o < 256 := (by decide : ∀ o, o ≤ 12 → qSg o < 256) o ho12
          refine v_X6_isMet_12 _ _ _ _ ⟨fun z => ?_, fun _ => ⟨fun z => ?_, fun _ => ⟨qz_vi (by omega) (by omega), ?_⟩⟩⟩
          · rw [qz_le, ek, eb] at z
            omega
          · rw [qz_le, ek, n4000] at z
            omega
          · rw [nI_clamp (by omega), hw]
            unfold qWx
            simp only []
            rw [qz_w255 hsg, qz_w8 hsg hu]
            have nxt : ∀ (s' : List Int32) (g2 : qz_G), Frm [60, 7] g g2 → g2.1 7 4 = nI s'.length → Stk (g2.1 60) s' → qSt (T (k + 1)) s' → s'.length ≤ 31 → (∀ g2, Frm [60, 7] g g2 → Q g2 (if qEv C F b m (k + 1) s' then 1 else 0) 0) → qz_WP X (d + 2) 91 Q 228 [(0, .ref 7), (1, .int (nI (200 * i + a))), (2, .int (nI (200 * i + b))), (3, .ref 57), (4, .int (nI (200 * i + k)))] [] g2 := by
              intro s' g2 hf2 h42 hS2 hq2 hl2 hfin2
              refine v_X6_isMet_228 _ _ _ _ ?_
              rw [nI_1, Nat.add_assoc]
              exact ih (k + 1) s' g2 (by omega) (by omega) (by omega) hq2 hl2 hf2 h42 hS2 hfin2
            have r57 : ∀ g2, Frm [60, 7] g g2 → g2.1 57 = g.1 57 := fun g2 hf2 => hf2.1 57 (by decide)
            by_cases c0 : o = 0
            · subst c0
              obtain ⟨hv, hlen, hTn⟩ := h0 rfl
              rw [if_pos rfl] at hfin
              rw [if_neg (by decide)]
              have hls := qSt_len hS
              refine v_X6_isMet_53 _ _ _ _ _ _ ⟨fun z => absurd (by decide) z, fun _ => ?_⟩
              refine c_X6_push (d := d) g' (nI v) s h4 (by omega) hSt (fun g2 hf2 h42 hS2 => ?_)
              exact nxt (nI v :: s) g2 (hfr.tr hf2) h42 hS2 (by rw [hTn]; exact ⟨fun z => (by cases z), hS⟩) (by rw [List.length_cons]; omega) hfin
            by_cases c1 : o = 1
            · subst c1
              obtain ⟨hv, h5, hlen, hTn⟩ := h1' rfl
              rw [if_neg (show ¬ (1 : Nat) = 0 by decide), if_pos (rfl : (1 : Nat) = 1)] at hfin
              rw [if_neg (by decide)]
              have hls := qSt_len hS
              have ev := qz_nI (n := v) (by omega)
              refine v_X6_isMet_53 _ _ _ _ _ _ ⟨fun _ => ⟨fun z => absurd (by decide) z, fun _ => ⟨fun _ => ⟨qz_vi (by omega) (by omega), ?_⟩, fun z => absurd ⟨by rw [qz_lt, ev, qz_n0]; omega, by rw [qz_le, ev, qz_n8]; omega⟩ z⟩⟩, fun z => absurd z (by decide)⟩
              rw [r57 g' hfr, nI_clamp (by omega), hF v hv h5]
              refine c_X6_push (d := d) g' (F v) s h4 (by omega) hSt (fun g2 hf2 h42 hS2 => ?_)
              exact nxt (F v :: s) g2 (hfr.tr hf2) h42 hS2 (by rw [hTn]; exact ⟨fun z => (by cases z), hS⟩) (by rw [List.length_cons]; omega) hfin
            by_cases c10 : o = 10
            · subst c10
              obtain ⟨hv, r, hTr, hTn⟩ := h10 rfl
              rw [if_neg (show ¬ (10 : Nat) = 0 by decide), if_neg (show ¬ (10 : Nat) = 1 by decide), if_pos (rfl : (10 : Nat) = 10)] at hfin
              rw [hTr] at hS
              obtain ⟨x, s', es, hx, hr⟩ := qSt_cons hS
              subst es
              rw [List.length_cons] at hl h4
              refine v_X6_isMet_53 _ _ _ _ _ _ ⟨fun _ => ⟨fun _ => ⟨fun z => absurd z (by decide), fun _ => ⟨fun _ => ⟨fun z => absurd (by decide) z, fun _ => ?_⟩, fun z => absurd z (by decide)⟩⟩, fun z => absurd z (by decide)⟩, fun z => absurd z (by decide)⟩
              refine c_X6_pop (d := d) g' x s' h4 (by omega) hSt (fun g2 hf2 h42 hS2 => ?_)
              refine c_X6_push (d := d) g2 (1 - x) s' h42 (by omega) hS2 (fun g3 hf3 h43 hS3 => ?_)
              refine nxt ((1 - x) :: s') g3 ((hfr.tr hf2).tr hf3) h43 hS3 ?_ (by rw [List.length_cons]; omega) hfin
              rw [hTn]
              refine ⟨fun _ => ?_, hr⟩
              rcases hx rfl with e | e <;> subst e
              · exact Or.inr (by decide)
              · exact Or.inl (by decide)
            by_cases c11 : 11 ≤ o
            · obtain ⟨hv1, hv2, r, hTr, hTn, hTt⟩ := h11 c11
              rw [if_neg c0, if_neg c1, if_neg c10, if_pos c11] at hfin
              rw [hTr] at hS
              obtain ⟨x, s', es, hx, hr⟩ := qSt_cons hS
              subst es
              rw [List.length_cons] at hl h4
              rw [if_pos c11]
              have jmp : ∀ g3, Frm [60, 7] g g3 → g3.1 7 4 = nI (s'.length + 1) → Stk (g3.1 60) (x :: s') → (∀ g2, Frm [60, 7] g g2 → Q g2 (if qEv C F b m v (x :: s') then 1 else 0) 0) → qz_WP X (d + 2) 91 Q 228 [(0, .ref 7), (1, .int (nI (200 * i + a))), (2, .int (nI (200 * i + b))), (3, .ref 57), (4, .int (nI (200 * i + k) + nI (v - k - 1)))] [] g3 := by
                intro g3 hf3 h43 hS3 hfin3
                refine v_X6_isMet_228 _ _ _ _ ?_
                rw [nI_add, nI_1, show 200 * i + k + (v - k - 1) + 1 = 200 * i + v from by omega]
                exact ih v (x :: s') g3 (by omega) hv2 (by omega) (by rw [hTt]; exact ⟨hx, hr⟩) (by rw [List.length_cons]; omega) hf3 (by rw [List.length_cons]; exact h43) hS3 hfin3
              have hjp : (if nI (v - k - 1) < 0 then (0 : Int32) else nI (v - k - 1)) = nI (v - k - 1) := if_neg (by rw [qz_lt, qz_nI (n := v - k - 1) (by omega), qz_n0]; omega)
              have stay : ∀ g3, Frm [60, 7] g g3 → g3.1 7 4 = nI s'.length → Stk (g3.1 60) s' → (∀ g2, Frm [60, 7] g g2 → Q g2 (if qEv C F b m (k + 1) s' then 1 else 0) 0) → qz_WP X (d + 2) 91 Q 228 [(0, .ref 7), (1, .int (nI (200 * i + a))), (2, .int (nI (200 * i + b))), (3, .ref 57), (4, .int (nI (200 * i + k)))] [] g3 := by
                intro g3 hf3 h43 hS3 hfin3
                exact nxt s' g3 hf3 h43 hS3 (by rw [hTn]; exact hr) (by omega) hfin3
              by_cases c12 : o = 12
              · subst c12
                simp only [reduceIte] at hfin
                refine v_X6_isMet_53 _ _ _ _ _ _ ⟨fun _ => ⟨fun _ => ⟨fun z => absurd z (by decide), fun _ => ⟨fun z => absurd (by decide) z, fun _ => ?_⟩⟩, fun z => absurd z (by decide)⟩, fun z => absurd z (by decide)⟩
                refine c_X6_pop (d := d) g' x s' h4 (by omega) hSt (fun g2 hf2 h42 hS2 => ?_)
                refine v_X6_isMet_121 _ _ _ _ _ _ _ ⟨fun e => ⟨fun z => absurd (by decide) z, fun _ => ?_⟩, fun e => ⟨fun z => absurd (by decide) z, fun _ => ?_⟩⟩
                · refine stay g2 (hfr.tr hf2) h42 hS2 ?_
                  rw [if_neg (show ¬ x = 1 by rw [e]; decide)] at hfin
                  exact hfin
                · refine c_X6_push (d := d) g2 x s' h42 (by omega) hS2 (fun g3 hf3 h43 hS3 => ?_)
                  rw [hjp]
                  refine jmp g3 ((hfr.tr hf2).tr hf3) h43 hS3 ?_
                  rw [if_pos ((hx rfl).resolve_left e)] at hfin
                  exact hfin
              · have e11 : o = 11 := by omega
                subst e11
                simp only [Nat.reduceEqDiff, reduceIte] at hfin
                refine v_X6_isMet_53 _ _ _ _ _ _ ⟨fun _ => ⟨fun _ => ⟨fun _ => ?_, fun z => absurd (by decide) z⟩, fun z => absurd z (by decide)⟩, fun z => absurd z (by decide)⟩
                refine c_X6_pop (d := d) g' x s' h4 (by omega) hSt (fun g2 hf2 h42 hS2 => ?_)
                refine v_X6_isMet_121 _ _ _ _ _ _ _ ⟨fun e => ⟨fun _ => ?_, fun z => absurd z (by decide)⟩, fun e => ⟨fun _ => ?_, fun z => absurd z (by decide)⟩⟩
                · refine c_X6_push (d := d) g2 x s' h42 (by omega) hS2 (fun g3 hf3 h43 hS3 => ?_)
                  rw [hjp]
                  refine jmp g3 ((hfr.tr hf2).tr hf3) h43 hS3 ?_
                  rw [if_pos e] at hfin
                  exact hfin
                · refine stay g2 (hfr.tr hf2) h42 hS2 ?_
                  rw [if_neg e] at hfin
                  exact hfin
            · obtain ⟨hv, tx, ty, r, hTr, hTn⟩ := h29 (by omega) (by omega)
              rw [if_neg c0, if_neg c1, if_neg c10, if_neg c11] at hfin
              rw [hTr] at hS
              obtain ⟨y, s1, es, hy, hr1⟩ := qSt_cons hS
              obtain ⟨x, s', es1, hx, hr⟩ := qSt_cons hr1
              subst es1
              subst es
              rw [List.length_cons, List.length_cons] at hl h4
              dsimp only at hfin
              have sg : ¬ nI (qSg o) = 110 ∧ ¬ nI (qSg o) = 118 ∧ ¬ nI (qSg o) = 38 ∧ ¬ nI (qSg o) = 124 ∧ ¬ nI (qSg o) = 33 ∧ (nI (qSg o) = 47 ↔ o = 5) ∧ (nI (qSg o) = 37 ↔ o = 6) := (by decide : ∀ o, o < 10 → 2 ≤ o → (¬ nI (qSg o) = 110 ∧ ¬ nI (qSg o) = 118 ∧ ¬ nI (qSg o) = 38 ∧ ¬ nI (qSg o) = 124 ∧ ¬ nI (qSg o) = 33 ∧ (nI (qSg o) = 47 ↔ o = 5) ∧ (nI (qSg o) = 37 ↔ o = 6))) o (by omega) (by omega)
              obtain ⟨g1, g2, g3, g4, g5, g6, g7⟩ := sg
              refine v_X6_isMet_53 _ _ _ _ _ _ ⟨fun _ => ⟨fun _ => ⟨fun z => absurd z g3, fun _ => ⟨fun _ => ⟨fun _ => ?_, fun z => absurd z g5⟩, fun z => absurd z g4⟩⟩, fun z => absurd z g2⟩, fun z => absurd z g1⟩
              refine c_X6_pop (d := d) g' y (x :: s') h4 (by rw [List.length_cons]; omega) hSt (fun k2 hf2 h42 hS2 => ?_)
              have go : ¬ ((o = 5 ∨ o = 6) ∧ y = 0) → qz_Call X (d + 1) 93 [.ref 7] k2 (fun g2 r3 _ => qz_Call X (d + 1) 94 [.int r3, .int (nI (qSg o)), .int y] g2 (fun g4 r5 _ => qz_Call X (d + 1) 92 [.ref 7, .int r5] g4 (fun g6 _ _ => qz_WP X (d + 2) 91 Q 228 [(0, .ref 7), (1, .int (nI (200 * i + a))), (2, .int (nI (200 * i + b))), (3, .ref 57), (4, .int (nI (200 * i + k)))] [] g6))) := by
                intro hz
                simp only [if_neg hz] at hfin
                refine c_X6_pop (d := d) k2 x s' h42 (by omega) hS2 (fun k3 hf3 h43 hS3 => ?_)
                refine c_X6_reckoned (d := d) k3 x y o (by omega) (by omega) (fun e z => hz ⟨e, z⟩) ?_
                refine c_X6_push (d := d) k3 _ s' h43 (by omega) hS3 (fun k4 hf4 h44 hS4 => ?_)
                refine nxt (qRk o x y :: s') k4 (((hfr.tr hf2).tr hf3).tr hf4) h44 hS4 ?_ (by rw [List.length_cons]; omega) hfin
                rw [hTn]
                exact ⟨fun z => qRk_b (of_decide_eq_true z), hr⟩
              refine v_X6_isMet_192 _ _ _ _ _ _ ⟨fun e => go (fun z => e z.2), fun e => ⟨fun e2 => ?_, fun e2 => ⟨fun e3 => go (fun z => z.1.elim (fun z => e2 (g6.mpr z)) (fun z => e3 (g7.mpr z))), fun e3 => ?_⟩⟩⟩
              · simp only [if_pos (show (o = 5 ∨ o = 6) ∧ y = 0 from ⟨Or.inl (g6.mp e2), e⟩)] at hfin
                exact hfin k2 (hfr.tr hf2)
              · simp only [if_pos (show (o = 5 ∨ o = 6) ∧ y = 0 from ⟨Or.inr (g7.mp e3), e⟩)] at hfin
                exact hfin k2 (hfr.tr hf2)
    refine key (b - a + 1) a [] _ (Nat.le_refl a) hab (by omega) (by rw [hTa]; trivial) (by decide) f0 ?_ (fun i hi => by cases hi) hq
    rw [qz_i1, if_pos rfl, qz_u1, if_pos rfl]
    rfl
theorem nI_mul (a b : Nat) : nI a * nI b = nI (a * b) := (Int32.ofNat_mul a b).symm
theorem c_X12_isTrue {X : qz_X} {d : Nat} {Q : qz_Q} (g : qz_G) (i j a b : Nat) (C : List qOp) (asks : Int32) (hi : i < 20) (hj : j < 12) (hab : a ≤ b) (hb : b ≤ C.length) (hC : C.length ≤ 200) (hcode : ∀ k, k < C.length → g.1 107 (220 * i + k) = qWm (qOa C k)) (hT : qTy C asks a b) (h113 : g.1 113 (12 * i + j) = nI (220 * i + a)) (h114 : g.1 114 (12 * i + j) = nI (220 * i + b)) (F : Nat → Int32) (hF : ∀ v, v < 8 → (v = 5 → ¬ asks = 0) → g.1 119 v = F v)
    (hq : ∀ g', Frm [118] g g' → Q g' (if qEv C F b (b - a + 1) a [] then 1 else 0) 0) : qz_Call X (d + 2) 241 [.ref 12, .int (nI (12 * i + j))] g Q := by
  have ex := qz_nI (n := 12 * i + j) (by omega)
  have cx : (nI (12 * i + j)).toNatClampNeg = 12 * i + j := nI_clamp (by omega)
  have eb := qz_nI (n := 220 * i + b) (by omega)
  have hvx : vp_in (nI (12 * i + j)) 240 := qz_vi (by omega) (by omega)
  have hbase : (220 : Int32) * (nI (12 * i + j) / 12) = nI (220 * i) := by
    have h1 := (qz_dv (n := 12 * i + j) (a := 12) (by omega) (by omega) (by omega)).1
    rw [show (12 * i + j) / 12 = i from by omega] at h1
    show nI 220 * (nI (12 * i + j) / nI 12) = _
    rw [h1, nI_mul]
  refine v_X12_isTrue g _ ⟨hvx, ?_⟩
  rw [hbase, cx, h113]
  by_cases hab' : a = b
  · subst hab'
    rw [show a - a + 1 = 0 + 1 from by omega, qEv_end] at hq
    refine v_X12_isTrue_19 _ _ _ _ _ ⟨hvx, fun _ => v_X12_isTrue_242 _ _ ⟨fun _ => hq _ (Frm.rf _ g), fun z => absurd rfl z⟩, fun z => absurd ?_ z⟩
    rw [cx, h114]
    exact Int32.le_refl _
  · rcases hT with hT | ⟨T, hTa, hTb, hTk⟩
    · exact absurd hT hab'
    have key : ∀ (m k : Nat) (s : List Int32) (g' : qz_G), a ≤ k → k ≤ b → b < m + k → qSt (T k) s → s.length ≤ 31 → Frm [118] g g' → Stk (g'.1 118) s → (∀ g2, Frm [118] g g2 → Q g2 (if qEv C F b m k s then 1 else 0) 0) → qz_WP X (d + 2) 241 Q 19 [(0, .ref 12), (1, .int (nI (12 * i + j))), (2, .int (nI s.length)), (3, .int (nI (220 * i))), (4, .int (nI (220 * i + k)))] [] g' := by
      intro m
      induction m with
      | zero => intro k s g' h1 h2 h3; omega
      | succ m ih =>
        intro k s g' h1 h2 h3 hS hl hfr hSt hfin
        have ek := qz_nI (n := 220 * i + k) (by omega)
        have r114 : g'.1 114 (12 * i + j) = nI (220 * i + b) := by rw [hfr.1 114 (by decide)]; exact h114
        by_cases hk : k = b
        · subst hk
          rw [hTb] at hS
          obtain ⟨x, r, es, hx, hr⟩ := qSt_cons hS
          have er := qSt_nil hr
          subst er
          subst es
          rw [qEv_end] at hfin
          have htop : g'.1 118 (0 : Int32).toNatClampNeg = x := hSt.top
          refine v_X12_isTrue_19 _ _ _ _ _ ⟨hvx, fun _ => v_X12_isTrue_242 _ _ ⟨fun z => absurd z (show ¬ nI 1 = 0 by decide), fun _ => ⟨fun e => ?_, fun e => ?_⟩⟩, fun z => absurd ?_ z⟩
          · rw [htop] at e
            have := hfin g' hfr
            simp only [e, decide_false] at this
            exact this
          · rw [htop] at e
            have := hfin g' hfr
            simp only [e, decide_true] at this
            exact this
          · rw [cx, r114]
            exact Int32.le_refl _
        · have hw : g'.1 107 (220 * i + k) = qWm (qOa C k) := by rw [hfr.1 107 (by decide)]; exact hcode k (by omega)
          have ht := hTk k h1 (by omega)
          rw [qEv_s, if_neg (show ¬ b ≤ k by omega)] at hfin
          rcases hp : qOa C k with ⟨o, v⟩
          rw [hp] at hw ht hfin
          obtain ⟨ho12, h0, h1', h29, h10, h11⟩ := ht
          simp only [] at ho12 h0 h1' h29 h10 h11 hfin
          have hu : v < 1048576 := by
            by_cases c : 11 ≤ o
            · have := h11 c
              omega
            · by_cases c0 : o = 0
              · have := h0 c0; omega
              · by_cases c1 : o = 1
                · have := h1' c1; omega
                · by_cases c10 : o = 10
                  · have := h10 c10; omega
                  · have := h29 (by omega) (by omega); omega
          have hdv := qz_dv (n := 1048576 * o + v) (a := 1048576) (by omega) (by omega) (by omega)
          rw [show (1048576 * o + v) / 1048576 = o from by omega, show (1048576 * o + v) % 1048576 = v from by omega] at hdv
          have hls := qSt_len hS
          have esl := qz_nI (n := s.length) (by omega)
          refine v_X12_isTrue_19 _ _ _ _ _ ⟨hvx, fun z => ?_, fun _ => ⟨qz_vi (by omega) (by omega), ?_⟩⟩
          · rw [cx, r114, qz_le, ek, eb] at z
            omega
          · rw [nI_clamp (show 220 * i + k < 2147483648 by omega), hw]
            show qz_WP X (d + 2) 241 Q 56 [(0, .ref 12), (1, .int (nI (12 * i + j))), (2, .int (nI s.length)), (3, .int (nI (220 * i))), (4, .int (nI (220 * i + k))), (5, .int (nI (1048576 * o + v) / nI 1048576)), (6, .int (nI (1048576 * o + v) - nI (1048576 * o + v) / nI 1048576 * nI 1048576))] [] g'
            rw [hdv.2, hdv.1]
            refine v_X12_isTrue_56 _ _ _ _ _ _ _ ?_
            rw [nI_1, Nat.add_assoc]
            have nxt : ∀ (s' : List Int32) (g2 : qz_G), Frm [118] g g2 → Stk (g2.1 118) s' → qSt (T (k + 1)) s' → s'.length ≤ 31 → (∀ g2, Frm [118] g g2 → Q g2 (if qEv C F b m (k + 1) s' then 1 else 0) 0) → qz_WP X (d + 2) 241 Q 19 [(0, .ref 12), (1, .int (nI (12 * i + j))), (2, .int (nI s'.length)), (3, .int (nI (220 * i))), (4, .int (nI (220 * i + (k + 1))))] [] g2 := by
              intro s' g2 hf2 hS2 hq2 hl2 hfin2
              exact ih (k + 1) s' g2 (by omega) (by omega) (by omega) hq2 hl2 hf2 hS2 hfin2
            have eo : ∀ n : Nat, n < 100 → (nI o = nI n ↔ o = n) := by
              intro n hn
              have e1 := qz_nI (n := o) (by omega)
              have e2 := qz_nI (n := n) (by omega)
              rw [qz_eq, e1, e2]
              omega
            have o0 := eo 0 (by omega)
            have o1 := eo 1 (by omega)
            have o5 := eo 5 (by omega)
            have o6 := eo 6 (by omega)
            have o10 := eo 10 (by omega)
            have o11 := eo 11 (by omega)
            have o12 := eo 12 (by omega)
            by_cases c0 : o = 0
            · obtain ⟨hv, hlen, hTn⟩ := h0 c0
              rw [if_pos c0] at hfin
              refine v_X12_isTrue_62 _ _ _ _ _ _ _ ⟨fun _ => ⟨qz_vi (by omega) (by omega), ?_⟩, fun z => absurd (o0.mpr c0) z⟩
              rw [nI_clamp (show s.length < 2147483648 by omega), nI_1]
              refine nxt (nI v :: s) _ (hfr.ui 118 _ _ (by decide)) ?_ (by rw [hTn]; exact ⟨fun z => (by cases z), hS⟩) (by rw [List.length_cons]; omega) hfin
              rw [qz_i1, if_pos rfl]
              exact hSt.push _
            by_cases c1 : o = 1
            · obtain ⟨hv, h5, hlen, hTn⟩ := h1' c1
              rw [if_neg c0, if_pos c1] at hfin
              have ev := qz_nI (n := v) (by omega)
              refine v_X12_isTrue_62 _ _ _ _ _ _ _ ⟨fun z => absurd (o0.mp z) c0, fun _ => ⟨fun z => absurd (o1.mpr c1) z, fun _ => ⟨qz_vi (by omega) (by omega), qz_vi (by omega) (by omega), ?_⟩⟩⟩
              rw [nI_clamp (show s.length < 2147483648 by omega), nI_1, nI_clamp (show v < 2147483648 by omega), hfr.1 119 (by decide), hF v hv h5]
              refine nxt (F v :: s) _ (hfr.ui 118 _ _ (by decide)) ?_ (by rw [hTn]; exact ⟨fun z => (by cases z), hS⟩) (by rw [List.length_cons]; omega) hfin
              rw [qz_i1, if_pos rfl]
              exact hSt.push _
            by_cases c10 : o = 10
            · obtain ⟨hv, r, hTr, hTn⟩ := h10 c10
              rw [if_neg c0, if_neg c1, if_pos c10] at hfin
              rw [hTr] at hS
              obtain ⟨x, s', es, hx, hr⟩ := qSt_cons hS
              subst es
              rw [List.length_cons] at hl
              rw [List.length_cons]
              have es' := qz_nI (n := s'.length) (by omega)
              refine v_X12_isTrue_62 _ _ _ _ _ _ _ ⟨fun z => absurd (o0.mp z) c0, fun _ => ⟨fun _ => ⟨fun z => absurd (o10.mpr c10) z, fun _ => ?_⟩, fun z => absurd (o1.mp z) c1⟩⟩
              rw [nI_pred, nI_clamp (show s'.length < 2147483648 by omega), hSt.top]
              refine ⟨qz_vi (by omega) (by omega), ?_⟩
              refine nxt ((1 - x) :: s') _ (hfr.ui 118 _ _ (by decide)) ?_ ?_ (by rw [List.length_cons]; omega) hfin
              · rw [qz_i1, if_pos rfl]
                exact hSt.pop.push _
              · rw [hTn]
                refine ⟨fun _ => ?_, hr⟩
                rcases hx rfl with e | e <;> subst e
                · exact Or.inr (by decide)
                · exact Or.inl (by decide)
            by_cases c11 : 11 ≤ o
            · obtain ⟨hv1, hv2, r, hTr, hTn, hTt⟩ := h11 c11
              rw [if_neg c0, if_neg c1, if_neg c10, if_pos c11] at hfin
              rw [hTr] at hS
              obtain ⟨x, s', es, hx, hr⟩ := qSt_cons hS
              subst es
              rw [List.length_cons] at hl
              rw [List.length_cons]
              have es' := qz_nI (n := s'.length) (by omega)
              have jmp : (∀ g2, Frm [118] g g2 → Q g2 (if qEv C F b m v (x :: s') then 1 else 0) 0) → qz_WP X (d + 2) 241 Q 19 [(0, .ref 12), (1, .int (nI (12 * i + j))), (2, .int (nI (s'.length + 1))), (3, .int (nI (220 * i))), (4, .int (nI (220 * i) + nI v))] [] g' := by
                intro hfin3
                rw [nI_add]
                exact ih v (x :: s') g' (by omega) hv2 (by omega) (by rw [hTt]; exact ⟨hx, hr⟩) (by rw [List.length_cons]; omega) hfr hSt hfin3
              have stay : (∀ g2, Frm [118] g g2 → Q g2 (if qEv C F b m (k + 1) s' then 1 else 0) 0) → qz_WP X (d + 2) 241 Q 19 [(0, .ref 12), (1, .int (nI (12 * i + j))), (2, .int (nI s'.length)), (3, .int (nI (220 * i))), (4, .int (nI (220 * i + (k + 1))))] [] g' := fun hfin3 => nxt s' g' hfr hSt.pop (by rw [hTn]; exact hr) (by omega) hfin3
              refine v_X12_isTrue_62 _ _ _ _ _ _ _ ⟨fun z => absurd (o0.mp z) c0, fun _ => ⟨fun _ => ⟨fun _ => ?_, fun z => absurd (o10.mp z) c10⟩, fun z => absurd (o1.mp z) c1⟩⟩
              rw [nI_pred, nI_clamp (show s'.length < 2147483648 by omega), hSt.top]
              have hvi : vp_in (nI s'.length) 220 := qz_vi (by omega) (by omega)
              refine ⟨fun e11 => ⟨hvi, fun _ => ⟨fun e => ?_, fun e => ?_⟩, fun z => ?_⟩, fun e11 => ⟨fun z => ?_, fun e12 => ⟨hvi, fun e => ?_, fun e => ?_⟩⟩⟩
              · refine stay ?_
                rw [o11.mp e11] at hfin
                simp only [Nat.reduceEqDiff, reduceIte] at hfin
                rw [if_neg e] at hfin
                exact hfin
              · refine jmp ?_
                rw [o11.mp e11] at hfin
                simp only [Nat.reduceEqDiff, reduceIte] at hfin
                rw [if_pos e] at hfin
                exact hfin
              · have := o11.mp e11
                have := o12.mp z
                omega
              · exact absurd (o12.mpr (by have : ¬ o = 11 := fun z => e11 (o11.mpr z); omega)) z
              · refine stay ?_
                rw [o12.mp e12] at hfin
                simp only [reduceIte] at hfin
                rw [if_neg e] at hfin
                exact hfin
              · refine jmp ?_
                rw [o12.mp e12] at hfin
                simp only [reduceIte] at hfin
                rw [if_pos e] at hfin
                exact hfin
            · obtain ⟨hv, tx, ty, r, hTr, hTn⟩ := h29 (by omega) (by omega)
              rw [if_neg c0, if_neg c1, if_neg c10, if_neg c11] at hfin
              rw [hTr] at hS
              obtain ⟨y, s1, es, hy, hr1⟩ := qSt_cons hS
              obtain ⟨x, s', es1, hx, hr⟩ := qSt_cons hr1
              subst es1
              subst es
              rw [List.length_cons, List.length_cons] at hl
              dsimp only at hfin
              rw [List.length_cons, List.length_cons]
              have es' := qz_nI (n := s'.length) (by omega)
              have es1 := qz_nI (n := s'.length + 1) (by omega)
              have ty : g'.1 118 (s'.length + 1) = y := hSt.top
              have tx : g'.1 118 s'.length = x := hSt.pop.top
              have hvi : vp_in (nI s'.length) 220 := qz_vi (by omega) (by omega)
              have hvi1 : vp_in (nI (s'.length + 1)) 220 := qz_vi (by omega) (by omega)
              have go : ¬ ((o = 5 ∨ o = 6) ∧ y = 0) → qz_Call X (d + 1) 240 [.int (nI o), .int x, .int y] g' (fun g11 r12 _ => qz_WP X (d + 2) 241 Q 19 [(0, .ref 12), (1, .int (nI (12 * i + j))), (2, .int (nI (s'.length + 1))), (3, .int (nI (220 * i))), (4, .int (nI (220 * i + (k + 1))))] [] (qz_ui g11 118 s'.length r12)) := by
                intro hz
                simp only [if_neg hz] at hfin
                refine c_X12_reckon (d := d) g' x y o (by omega) (by omega) (fun e z => hz ⟨e, z⟩) ?_
                refine nxt (qRk o x y :: s') _ (hfr.ui 118 _ _ (by decide)) ?_ ?_ (by rw [List.length_cons]; omega) hfin
                · rw [qz_i1, if_pos rfl]
                  exact hSt.pop.pop.push _
                · rw [hTn]
                  exact ⟨fun z => qRk_b (of_decide_eq_true z), hr⟩
              refine v_X12_isTrue_62 _ _ _ _ _ _ _ ⟨fun z => absurd (o0.mp z) c0, fun _ => ⟨fun _ => ⟨fun _ => ⟨fun z => absurd (o11.mp z) (by omega), fun _ => ⟨fun _ => ?_, fun z => absurd (o12.mp z) (by omega)⟩⟩, fun z => absurd (o10.mp z) c10⟩, fun z => absurd (o1.mp z) c1⟩⟩
              rw [nI_pred, nI_pred, nI_clamp (show s'.length < 2147483648 by omega), nI_clamp (show s'.length + 1 < 2147483648 by omega), tx, ty]
              refine ⟨fun e5 => ⟨hvi1, fun e => ⟨hvi, go (fun z => e z.2)⟩, fun e => ?_⟩, fun e5 => ⟨fun e6 => ⟨hvi, hvi1, go (fun z => z.1.elim (fun z => e5 (o5.mpr z)) (fun z => e6 (o6.mpr z)))⟩, fun e6 => ⟨hvi1, fun e => ⟨hvi, go (fun z => e z.2)⟩, fun e => ?_⟩⟩⟩
              · simp only [if_pos (show (o = 5 ∨ o = 6) ∧ y = 0 from ⟨Or.inl (o5.mp e5), e⟩)] at hfin
                exact hfin g' hfr
              · simp only [if_pos (show (o = 5 ∨ o = 6) ∧ y = 0 from ⟨Or.inr (o6.mp e6), e⟩)] at hfin
                exact hfin g' hfr
    exact key (b - a + 1) a [] g (Nat.le_refl a) hab (by omega) (by rw [hTa]; trivial) (by decide) (Frm.rf _ g) (fun i hi => by cases hi) hq
