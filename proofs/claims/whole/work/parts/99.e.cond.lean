/-! the reference: comparisons, conditions -/
theorem c_compared {X : qz_X} {d : Nat} {Q : qz_Q} {n : Nat} {sg : Nat → Nat} {g0 : qz_G} (hb : RmB n sg g0) (g : qz_G) {p o : Nat} {C K1 : List qOp} (h : RmM n g0 g p o C K1) (hI : PIv p o C K1 [] 0) (hK : ¬ K1 = []) (hw : WfK K1) (n33 : ¬ sg p = 33) (n40 : ¬ sg p = 40) (hq1 : ∀ g' p' o' C' K1', RmM n g0 g' p' o' C' K1' → PIv p' o' C' K1' [] 0 → ¬ K1' = [] → WfK K1' → ¬ qTop K1' = 10 → p < p' → (∀ hw, ∃ hw', Rch sg (0, hw, p, o, C, K1, []) (5, hw', p', o', C', K1', [])) → Q g' 1 0) (hq2 : ∀ g' kd at_, RmX g0 g' kd at_ → (∀ hw, Rch sg (0, hw, p, o, C, K1, []) (qFt kd at_)) → Q g' 0 0) : qz_Call X (d + 6) 231 [.ref 12] g Q := by
  have hn := hb.1
  refine v_X12_readsCompared (d := d + 4) g (c_refsum (d := d) hb g h hI (fun g1 p1 C1 a1 a2 a3 a4 a5 => ⟨fun _ => ?_, fun z => absurd z (by decide)⟩) (fun g1 kd at_ a1 a2 => ⟨fun z => absurd rfl z, fun _ => hq2 g1 kd at_ a1 (fun hw => ((Rch.rf _ _).st (s0_sum _ n33 n40)).tr (a2 1 hw (by omega)))⟩))
  have pre : ∀ hw, Rch sg (0, hw, p, o, C, K1, []) (2, hw, p1, o, C1, K1, []) := fun hw => ((Rch.rf _ _).st (s0_sum _ n33 n40)).tr (a5 1 hw (by omega))
  have hP := a1.P hb
  have hp1 := a1.2.2.2.2.2.2.2
  have s60 := hP.is (c := 60) (s := 60) (by decide) (by decide)
  have s62 := hP.is (c := 62) (s := 62) (by decide) (by decide)
  have s61 := hP.is (c := 61) (s := 61) (by decide) (by decide)
  have step : ∀ (s : Nat) (w : Int32), sg p1 = s → s < 256 → 7 ≤ qCp s → qCp s ≤ 9 → w = qWm (qCp s, 0) → qz_Call X (d + 5) 227 [.ref 12] (qz_ui g1 12 26 ((g1.1 12 26) + 1)) (fun g7 r8 _ => (¬ r8 = 0 → (vp_in (g7.1 12 31) 220 ∧ (qz_Call X (d + 5) 228 [.ref 12] (qz_ui (qz_ui g7 100 ((g7.1 12 31).toNatClampNeg) w) 12 31 ((g7.1 12 31) + 1)) (fun g10 _ _ => Q g10 1 0)))) ∧ (r8 = 0 → (Q g7 0 0))) := by
    intro s w es hs o1 o2 ew
    have hin : p1 < n := hP.lt (by omega)
    have b1 : RmM n g0 (qz_ui g1 12 26 ((g1.1 12 26) + 1)) (p1 + 1) o C1 K1 := a1.pl (by rw [a1.2.1, nI_1]) (by omega)
    have pre2 : ∀ hw, Rch sg (0, hw, p, o, C, K1, []) (3, qCp s, p1 + 1, o, C1, K1, []) := by
      intro hw
      refine (pre hw).st ?_
      have x := s2_cmp sg (hw := hw) (p := p1) (o := o) (C := C1) (K1 := K1) a4 (by rw [es]; omega)
      rw [es] at x
      exact x
    refine c_refsum (d := d) hb _ b1 (piv_pend (e' := 1) a2 (by omega)) (fun g3 p3 C3 c1 c2 c3 c4 c5 => ⟨fun _ => ?_, fun z => absurd z (by decide)⟩) (fun g3 kd at_ c1 c2 => ⟨fun z => absurd rfl z, fun _ => hq2 g3 kd at_ c1 (fun hw => (pre2 hw).tr (c2 3 (qCp s) (by omega)))⟩)
    have hl := c2.len
    have hp3 := c1.2.2.2.2.2.2.2
    have e31 := c1.2.2.2.1
    refine ⟨by rw [e31]; exact qz_vi (by rw [nI_toInt (by omega)]; omega) (by rw [nI_toInt (by omega)]; omega), EndF_c (d := d + 3) (end_main (sg := sg) hn p3 K1 (C3 ++ [(qCp s, 0)]) o _ (c1.say (by rw [e31, nI_clamp (by omega)]) ew (by rw [e31, nI_1])) (piv_emit c2 _ 0 (by omega)) hK hw (fun g' o' C' K1' f1 f2 f3 f4 f5 f6 => ?_))⟩
    exact hq1 g' p3 o' C' K1' f1 f2 f3 f4 f5 (by omega) (fun hw => ⟨qCp s, (((pre2 hw).tr (c5 3 (qCp s) (by omega))).st (s4_cmp _ c4)).tr (f6 (qCp s))⟩)
  refine ⟨hP.c.1, hP.c.2, fun y1 => ⟨fun y2 => ⟨fun y3 => ?_, fun z => step 61 _ (s61.mp z) (by decide) (by decide) (by decide) (by decide)⟩, fun z => step 62 _ (s62.mp z) (by decide) (by decide) (by decide) (by decide)⟩, fun z => step 60 _ (s60.mp z) (by decide) (by decide) (by decide) (by decide)⟩
  refine hq2 _ 1 p1 (a1.x (by rw [a1.2.1]; exact qGv 1 p1 (by decide))) (fun hw => (pre hw).st (s2_cmpF _ a4 ?_))
  unfold qCp
  rw [if_neg (fun w => y1 (s60.mpr w)), if_neg (fun w => y2 (s62.mpr w)), if_neg (fun w => y3 (s61.mpr w))]
theorem c_condition {X : qz_X} {d : Nat} {Q : qz_Q} {n : Nat} {sg : Nat → Nat} {g0 : qz_G} (hb : RmB n sg g0) (g : qz_G) {p : Nat} {C : List qOp} (h0 : RmM n g0 (qz_ui (qz_ui g 12 30 0) 12 32 0) p 0 C []) (hCp : C.length ≤ p) (hin0 : p < n) (hq1 : ∀ g' hw p' C', RmM n g0 g' p' 0 C' [] → C'.length ≤ p' → p < p' → Rch sg (0, 0, p + 1, 1, C, [(13, 0)], []) (5, hw, p', 0, C', [], []) → Q g' 1 0) (hq2 : ∀ g' kd at_, RmX g0 g' kd at_ → Rch sg (0, 0, p + 1, 1, C, [(13, 0)], []) (qFt kd at_) → Q g' 0 0) : qz_Call X (d + 7) 232 [.ref 12] g Q := by
  have hn := hb.1
  have heads : ∀ (f : Nat) (g1 : qz_G) (p1 o1 : Nat) (C1 K1 : List qOp) (hw : Nat), p1 + f = n → p < p1 → RmM n g0 g1 p1 o1 C1 K1 → PIv p1 o1 C1 K1 [] 0 → ¬ K1 = [] → WfK K1 → (Rch sg (0, 0, p + 1, 1, C, [(13, 0)], []) (0, hw, p1, o1, C1, K1, []) → qz_WP X (d + 7) 232 Q 21 [(0, .ref 12)] [] g1) ∧ (¬ qTop K1 = 10 → Rch sg (0, 0, p + 1, 1, C, [(13, 0)], []) (5, hw, p1, o1, C1, K1, []) → qz_WP X (d + 7) 232 Q 73 [(0, .ref 12)] [] g1) := by
    intro f
    induction f using Nat.strongRecOn with
    | _ f ihf =>
      intro g1 p1 o1 C1 K1 hw hf hpp h1 hI1 hK hW
      have hP := h1.P hb
      have hp1 := h1.2.2.2.2.2.2.2
      have hl := hI1.len
      have hl2 := hl.2
      rw [List.length_nil] at hl2
      constructor
      · intro hr
        have s33 := hP.is (c := 33) (s := 33) (by decide) (by decide)
        have s40 := hP.is (c := 40) (s := 40) (by decide) (by decide)
        refine v_X12_readsCondition_21 (d := d + 5) g1 ⟨hP.c.1, hP.c.2, fun z => ?_, fun z1 => ⟨fun z2 => ?_, fun z => ?_⟩⟩
        · have e := s33.mp z
          have hin : p1 < n := hP.lt (by omega)
          refine c_opens (d := d + 4) g1 h1 hin hn hI1.2.2.2.1 (by omega) 10 (by decide) (fun g8 ho h8 => ⟨fun _ => ?_, fun z => absurd z (by decide)⟩) (fun g8 ho h8 => ⟨fun z => absurd rfl z, fun _ => hq2 g8 5 p1 h8 (hr.st (s0_notF _ e ho))⟩)
          exact (ihf (n - (p1 + 1)) (by omega) g8 (p1 + 1) (o1 + 1) C1 ((10, 0) :: K1) hw (by omega) (by omega) h8 (piv_open1 hI1 (Or.inl rfl) ho) (fun w => by cases w) ⟨hW, fun w => absurd w (by show ¬ 10 = 11; decide), fun w => absurd w (by show ¬ 10 = 12; decide), fun w => absurd w hK⟩).1 (hr.st (s0_not _ e ho))
        · refine c_compared (d := d) hb g1 h1 hI1 hK hW (fun w => z1 (s33.mpr w)) (fun w => z2 (s40.mpr w)) (fun g' p' o' C' K1' b1 b2 b3 b4 b5 b6 b7 => ⟨fun _ => ?_, fun z => absurd z (by decide)⟩) (fun g' kd at_ b1 b2 => ⟨fun z => absurd rfl z, fun _ => hq2 g' kd at_ b1 (hr.tr (b2 hw))⟩)
          obtain ⟨hw', r⟩ := b7 hw
          have hp' := b1.2.2.2.2.2.2.2
          exact (ihf (n - p') (by omega) g' p' o' C' K1' hw' (by omega) (by omega) b1 b2 b3 b4).2 b5 (hr.tr r)
        · have e := s40.mp z
          have hin : p1 < n := hP.lt (by omega)
          refine c_opens (d := d + 4) g1 h1 hin hn hI1.2.2.2.1 (by omega) 13 (by decide) (fun g8 ho h8 => ⟨fun _ => ?_, fun z => absurd z (by decide)⟩) (fun g8 ho h8 => ⟨fun z => absurd rfl z, fun _ => hq2 g8 5 p1 h8 (hr.st (s0_parF _ e ho))⟩)
          exact (ihf (n - (p1 + 1)) (by omega) g8 (p1 + 1) (o1 + 1) C1 ((13, 0) :: K1) hw (by omega) (by omega) h8 (piv_open1 hI1 (Or.inr rfl) ho) (fun w => by cases w) ⟨hW, fun w => absurd w (by show ¬ 13 = 11; decide), fun w => absurd w (by show ¬ 13 = 12; decide), fun _ => rfl⟩).1 (hr.st (s0_par _ e ho))
      · intro h10 hr
        have s41 := hP.is (c := 41) (s := 41) (by decide) (by decide)
        have s38 := hP.is (c := 38) (s := 38) (by decide) (by decide)
        have s124 := hP.is (c := 124) (s := 124) (by decide) (by decide)
        have doAnd : sg p1 = 38 → qz_Call X (d + 6) 229 [.ref 12, .int 0] g1 (fun g4 _ _ => (qI (g4.1 12 26) 0 200) ∧ (qI (g4.1 12 27) 0 200) ∧ ((¬ (qSy g4) = 38 → (qz_Call X (d + 6) 230 [.ref 12, .int 12] g4 (fun g7 _ _ => qz_WP X (d + 7) 232 Q 21 [(0, .ref 12)] [] g7))) ∧ ((qSy g4) = 38 → (qz_Call X (d + 6) 230 [.ref 12, .int 11] g4 (fun g9 _ _ => qz_WP X (d + 7) 232 Q 21 [(0, .ref 12)] [] g9))))) := by
          intro e
          have hin : p1 < n := hP.lt (by omega)
          refine LanF_c (d := d + 4) (lan_main (sg := sg) hn p1 o1 0 (Or.inl rfl) K1 C1 g1 h1 hI1 hK hW h10 (fun g' C' K1' b1 b2 b3 b4 b5 b6 b7 => ?_))
          have hP' := b1.P hb
          refine ⟨hP'.c.1, hP'.c.2, fun w => absurd ((hP'.is (c := 38) (s := 38) (by decide) (by decide)).mpr e) w, fun _ => ?_⟩
          refine c_jumps (d := d + 4) hn g' b1 b2 hin 11 (Or.inl rfl) (by decide) (fun g'' c1 c2 => ?_)
          exact (ihf (n - (p1 + 1)) (by omega) g'' (p1 + 1) o1 _ _ hw (by omega) (by omega) c1 c2 (fun w => by cases w) ⟨b4, fun _ => b5, fun w => absurd w (by show ¬ 11 = 12; decide), fun w => absurd w b3⟩).1 ((hr.tr (b7 hw)).st (s5_and _ b5 e))
        have doOr : sg p1 = 124 → qz_Call X (d + 6) 229 [.ref 12, .int 1] g1 (fun g4 _ _ => (qI (g4.1 12 26) 0 200) ∧ (qI (g4.1 12 27) 0 200) ∧ ((¬ (qSy g4) = 38 → (qz_Call X (d + 6) 230 [.ref 12, .int 12] g4 (fun g7 _ _ => qz_WP X (d + 7) 232 Q 21 [(0, .ref 12)] [] g7))) ∧ ((qSy g4) = 38 → (qz_Call X (d + 6) 230 [.ref 12, .int 11] g4 (fun g9 _ _ => qz_WP X (d + 7) 232 Q 21 [(0, .ref 12)] [] g9))))) := by
          intro e
          have hin : p1 < n := hP.lt (by omega)
          refine LanF_c (d := d + 4) (lan_main (sg := sg) hn p1 o1 1 (Or.inr (by omega)) K1 C1 g1 h1 hI1 hK hW h10 (fun g' C' K1' b1 b2 b3 b4 b5 b6 b7 => ?_))
          have hP' := b1.P hb
          refine ⟨hP'.c.1, hP'.c.2, fun _ => ?_, fun w => absurd ((hP'.is (c := 38) (s := 38) (by decide) (by decide)).mp w) (by omega)⟩
          have t13 := b6 (by decide)
          cases K1' with
          | nil => exact absurd rfl b3
          | cons q K =>
            obtain ⟨x, y⟩ := q
            have t13' : x = 13 := t13
            subst t13'
            refine c_jumps (d := d + 4) hn g' b1 b2 hin 12 (Or.inr rfl) (by decide) (fun g'' c1 c2 => ?_)
            exact (ihf (n - (p1 + 1)) (by omega) g'' (p1 + 1) o1 _ _ hw (by omega) (by omega) c1 c2 (fun w => by cases w) ⟨b4, fun w => absurd w (by show ¬ 12 = 11; decide), fun _ => rfl, fun w => by cases w⟩).1 ((hr.tr (b7 hw)).st (s5_or _ e))
        refine v_X12_readsCondition_73 (d := d + 5) g1 ⟨hP.c.1, hP.c.2, fun n41 => ⟨fun z => ⟨fun _ => doAnd (s38.mp z), fun z2 => doOr (s124.mp z2)⟩, fun n38 => ⟨fun z => doOr (s124.mp z), fun n124 => ?_⟩⟩, fun z => ?_⟩
        · have e41 : ¬ sg p1 = 41 := fun w => n41 (s41.mpr w)
          have e38 : ¬ sg p1 = 38 := fun w => n38 (s38.mpr w)
          have e124 : ¬ sg p1 = 124 := fun w => n124 (s124.mpr w)
          refine hq2 _ 1 p1 (h1.x (by rw [h1.2.1]; exact qGv 1 p1 (by decide))) (hr.tr ?_)
          have pl : ∀ (K1 C1 : List qOp), (∀ q, q ∈ K1 → 10 ≤ q.1 ∧ q.1 ≤ 13) → ¬ K1 = [] → WfK K1 → ¬ qTop K1 = 10 → Rch sg (5, hw, p1, o1, C1, K1, []) (qFt 1 p1) := by
            intro K1
            induction K1 with
            | nil => intro C1 _ h; exact absurd rfl h
            | cons q r ih =>
              intro C1 ht _ hW h10
              obtain ⟨x, y⟩ := q
              have t := ht (x, y) List.mem_cons_self
              have t1 : 10 ≤ x := t.1
              have t2 : x ≤ 13 := t.2
              have n10 : ¬ x = 10 := h10
              have hr0 : x = 11 ∨ x = 12 → ¬ r = [] ∧ ¬ qTop r = 10 := by
                intro hx
                refine ⟨fun w => ?_, fun w => ?_⟩
                · have : x = 13 := hW.2.2.2 w
                  omega
                · rcases hx with rfl | rfl
                  · have := hW.2.1 rfl; omega
                  · have := hW.2.2.1 rfl; omega
              obtain rfl | rfl | rfl : x = 11 ∨ x = 12 ∨ x = 13 := by omega
              · exact ((Rch.rf _ _).st (s5_ifn _)).tr (ih _ (fun q hq => ht q (List.mem_cons_of_mem _ hq)) (hr0 (Or.inl rfl)).1 hW.1 (hr0 (Or.inl rfl)).2)
              · exact ((Rch.rf _ _).st (s5_ifl _ e38)).tr (ih _ (fun q hq => ht q (List.mem_cons_of_mem _ hq)) (hr0 (Or.inr rfl)).1 hW.1 (hr0 (Or.inr rfl)).2)
              · exact (Rch.rf _ _).st (s5_parF _ e38 e124 e41)
          exact pl K1 C1 (fun q hq => ⟨(hI1.2.2.2.2.2 q hq).1, (hI1.2.2.2.2.2 q hq).2.1⟩) hK hW h10
        · have e := s41.mp z
          have hin : p1 < n := hP.lt (by omega)
          refine LanF_c (d := d + 4) (lan_main (sg := sg) hn p1 o1 1 (Or.inr (by omega)) K1 C1 g1 h1 hI1 hK hW h10 (fun g' C' K1' b1 b2 b3 b4 b5 b6 b7 => ?_))
          have t13 := b6 (by decide)
          cases K1' with
          | nil => exact absurd rfl b3
          | cons q K =>
            obtain ⟨x, y⟩ := q
            have t13' : x = 13 := t13
            subst t13'
            have hpar := piv_par b2
            have hlb := b2.len
            have hlb2 := hlb.2
            rw [List.length_nil, List.length_cons] at hlb2
            have e32 := b1.2.2.2.2.1
            rw [List.length_cons] at e32
            have m1 : RmM n g0 (qz_ui (qz_ui (qz_ui g' 12 32 ((g'.1 12 32) - 1)) 12 30 ((g'.1 12 30) - 1)) 12 26 ((g'.1 12 26) + 1)) (p1 + 1) (o1 - 1) C' K := ((b1.pop (by rw [e32]; exact nI_pred _)).op (by rw [b1.2.2.1]; exact nI_dec hpar.2)).pl (by rw [b1.2.1, nI_1]) (by omega)
            have r1 : Rch sg (0, 0, p + 1, 1, C, [(13, 0)], []) (5, hw, p1 + 1, o1 - 1, C', K, []) := (hr.tr (b7 hw)).st (s5_par _ e)
            rw [e32, nI_pred] at m1
            rw [e32, nI_pred]
            refine ⟨fun w => ?_, fun w => ?_⟩
            · have hK' : ¬ K = [] := fun z => w (by rw [z]; rfl)
              refine EndF_c (d := d + 4) (end_main (sg := sg) hn (p1 + 1) K C' (o1 - 1) _ m1 hpar.1 hK' b4.1 (fun g'' o' C'' K'' c1 c2 c3 c4 c5 c6 => ?_))
              exact (ihf (n - (p1 + 1)) (by omega) g'' (p1 + 1) o' C'' K'' hw (by omega) (by omega) c1 c2 c3 c4).2 c5 (r1.tr (c6 hw))
            · have hK' : K.length = 0 := nI_inj (by omega) (by omega) (w.trans (by decide : (0 : Int32) = nI 0))
              have hK' : K = [] := List.length_eq_zero_iff.mp hK'
              subst hK'
              have ho0 : o1 - 1 = 0 := hpar.1.2.2.1
              rw [ho0] at m1 r1
              exact hq1 _ hw (p1 + 1) C' m1 (by have := hpar.1.len.1; omega) (by omega) r1
  refine v_X12_readsCondition (d := d + 5) g (c_opens (d := d + 4) _ h0 hin0 hn (by omega) (by show 0 < 220; decide) 13 (by decide) (fun g8 ho h8 => ⟨fun _ => ?_, fun z => absurd z (by decide)⟩) (fun g8 ho h8 => absurd ho (by decide)))
  have hI0 : PIv p 0 C [] [] 0 := ⟨by show C.length + 0 + 0 + 0 ≤ p + 0; omega, Nat.zero_le _, rfl, by omega, fun q hq => absurd hq (by simp), fun q hq => absurd hq (by simp)⟩
  exact (heads (n - (p + 1)) g8 (p + 1) 1 C [(13, 0)] 0 (by omega) (by omega) h8 (piv_open1 hI0 (Or.inr rfl) (by decide)) (fun w => by cases w) ⟨trivial, fun w => absurd w (by show ¬ 13 = 11; decide), fun w => absurd w (by show ¬ 13 = 12; decide), fun _ => rfl⟩).1 (Rch.rf _ _)
