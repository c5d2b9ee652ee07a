theorem top_no {t : Nat} (h1 : ¬ (4 ≤ t ∧ t ≤ 6)) (h2 : ¬ (2 ≤ t ∧ t ≤ 3)) : ¬ (2 ≤ t ∧ t ≤ 6) := by omega
theorem FacF_c {X : qz_X} {d : Nat} {Q : qz_Q} {g : qz_G} (h : FacF X d Q g) : qz_Call X (d + 3) 225 [.ref 12] g Q := v_X12_readsFactor g h
/-- an open sum that isn't closed -/
theorem pure_open (sg : Nat → Nat) {ph hw p o : Nat} {K1 : List qOp} (hph : ph = 2 ∨ ph = 4) (h2 : ¬ 2 ≤ qSs (sg p)) (h93 : ¬ sg p = 93) : ∀ (K2 C : List qOp), (∀ q, q ∈ K2 → (2 ≤ q.1 ∧ q.1 ≤ 6 ∨ q.1 = 14) ∧ q.2 = 0) → (∃ q, q ∈ K2 ∧ q.1 = 14) → Rch sg (ph, hw, p, o, C, K1, K2) (qFt 1 p)
  | [], C, _, hx => by
    obtain ⟨q, hq, _⟩ := hx
    exact absurd hq (by simp)
  | (x, y) :: K2, C, ht, hx => by
    have h0 := ht (x, y) List.mem_cons_self
    have h1 : 2 ≤ x ∧ x ≤ 6 ∨ x = 14 := h0.1
    by_cases c : x = 14
    · subst c
      exact (Rch.rf _ _).st (s2_clsF _ hph h2 h93)
    · have hx2 : ∃ q, q ∈ K2 ∧ q.1 = 14 := by
        obtain ⟨q, hq, e⟩ := hx
        rcases List.mem_cons.mp hq with rfl | hq
        · exact absurd e c
        · exact ⟨q, hq, e⟩
      have r := pure_open sg (hw := hw) (o := o) (K1 := K1) hph h2 h93 K2 (C ++ [(x, 0)]) (fun q hq => ht q (List.mem_cons_of_mem _ hq)) hx2
      refine Rch.tr ((Rch.rf _ _).st ?_) r
      by_cases c4 : 4 ≤ x
      · exact s2_mul _ hph (by omega)
      · exact s2_add _ hph (by omega) (by omega)
theorem k2_nil {K : List qOp} (ht : ∀ q, q ∈ K → (2 ≤ q.1 ∧ q.1 ≤ 6 ∨ q.1 = 14) ∧ q.2 = 0) (h1 : ¬ (4 ≤ qTop K ∧ qTop K ≤ 6)) (h2 : ¬ (2 ≤ qTop K ∧ qTop K ≤ 3)) : K = [] ∨ ∃ K', K = (14, 0) :: K' := by
  cases K with
  | nil => exact Or.inl rfl
  | cons q K =>
    obtain ⟨x, y⟩ := q
    have h0 := ht (x, y) List.mem_cons_self
    have a1 : 2 ≤ x ∧ x ≤ 6 ∨ x = 14 := h0.1
    have a2 : y = 0 := h0.2
    have a3 : ¬ (4 ≤ x ∧ x ≤ 6) := h1
    have a4 : ¬ (2 ≤ x ∧ x ≤ 3) := h2
    have : x = 14 := by omega
    subst this
    subst a2
    exact Or.inr ⟨K, rfl⟩
theorem c_refsum {X : qz_X} {d : Nat} {Q : qz_Q} {n : Nat} {sg : Nat → Nat} {g0 : qz_G} (hb : RmB n sg g0) (g : qz_G) {p o e : Nat} {C K1 : List qOp} (h : RmM n g0 g p o C K1) (hI : PIv p o C K1 [] e) (hq1 : ∀ g' p' C', RmM n g0 g' p' o C' K1 → PIv p' o C' K1 [] e → p < p' → ¬ 2 ≤ qSs (sg p') → (∀ ph hw, ph = 1 ∨ ph = 3 → Rch sg (ph, hw, p, o, C, K1, []) (ph + 1, hw, p', o, C', K1, [])) → Q g' 1 0) (hq2 : ∀ g' kd at_, RmX g0 g' kd at_ → (∀ ph hw, ph = 1 ∨ ph = 3 → Rch sg (ph, hw, p, o, C, K1, []) (qFt kd at_)) → Q g' 0 0) : qz_Call X (d + 5) 227 [.ref 12] g Q := by
  have hn := hb.1
  have e32 := h.2.2.2.2.1
  have head : ∀ (f : Nat) (g1 : qz_G) (p1 o1 : Nat) (C1 K2 : List qOp), p1 + f = n → p < p1 → RmM n g0 g1 p1 o1 C1 (K2 ++ K1) → PIv p1 o1 C1 K1 K2 e → (∀ ph hw, ph = 1 ∨ ph = 3 → Rch sg (ph, hw, p, o, C, K1, []) (ph + 1, hw, p1, o1, C1, K1, K2)) → qz_WP X (d + 5) 227 Q 14 [(0, .ref 12), (1, .int (g.1 12 32))] [] g1 := by
    intro f
    induction f using Nat.strongRecOn with
    | _ f ihf =>
      intro g1 p1 o1 C1 K2 hf hpp h1 hI1 hr
      have hP := h1.P hb
      have h93 := hP.is (c := 93) (s := 93) (by decide) (by decide)
      have hp1 := h1.2.2.2.2.2.2.2
      have closeEnd : ¬ 2 ≤ qSs (sg p1) → ¬ (∃ q, q ∈ K2 ∧ q.1 = 14) → qz_Call X (d + 4) 224 [.ref 12, .int 1] g1 (fun g6 _ _ => Q g6 1 0) := by
        intro ns no
        refine CloR_c (d := d + 2) (clo_main (sg := sg) hn K1 1 p1 o1 e (Or.inr (by omega)) K2 C1 g1 h1 hI1 (fun g' C' K2' b1 b2 b3 b4 b5 b6 => ?_))
        rcases k2_nil b2.2.2.2.2.1 b4 (b5 (by decide)) with rfl | ⟨K', rfl⟩
        · have eo : o1 = o := by
            have x1 := b2.2.2.1
            have x2 := hI.2.2.1
            omega
          subst eo
          exact hq1 g' p1 C' b1 b2 hpp ns (fun ph hw hph => (hr ph hw hph).tr (b3 (ph + 1) hw (by omega)))
        · exact absurd (b6.mpr ⟨(14, 0), List.mem_cons_self, rfl⟩) no
      have push : ∀ v1 : Int32, 2 ≤ qSs (sg p1) → (v1 = 0 ∨ ¬ 4 ≤ qSs (sg p1)) → (¬ v1 = 0 ∨ 4 ≤ qSs (sg p1)) → qz_Call X (d + 4) 224 [.ref 12, .int v1] g1 (fun g19 _ _ => vp_in (g19.1 12 32) 220 ∧ (qz_Call X (d + 4) 225 [.ref 12] (qz_ui (qz_ui (qz_ui g19 101 ((g19.1 12 32).toNatClampNeg) (1048576 * (qSu (qSy g1)))) 12 32 ((g19.1 12 32) + 1)) 12 26 ((g19.1 12 26) + 1)) (fun g21 r22 _ => (¬ r22 = 0 → (qz_WP X (d + 5) 227 Q 14 [(0, .ref 12), (1, .int (g.1 12 32))] [] g21)) ∧ (r22 = 0 → (Q g21 0 0))))) := by
        intro v1 s2 sv sv2
        have s6 : qSs (sg p1) ≤ 6 := by unfold qSs; split <;> (try omega); split <;> (try omega); split <;> (try omega); split <;> (try omega); split <;> omega
        have hin : p1 < n := by
          apply hP.lt
          by_cases c : sg p1 < 999
          · exact c
          · exfalso
            unfold qSs at s2
            rw [if_neg (by omega), if_neg (by omega), if_neg (by omega), if_neg (by omega), if_neg (by omega)] at s2
            omega
        refine CloR_c (d := d + 2) (clo_main (sg := sg) hn K1 v1 p1 o1 e sv K2 C1 g1 h1 hI1 (fun g' C' K2' b1 b2 b3 b4 b5 b6 => ?_))
        have hl := b2.len
        have hWl : (K2' ++ K1).length = K2'.length + K1.length := List.length_append
        have e32' := b1.2.2.2.2.1
        have h2 : RmM n g0 (qz_ui (qz_ui (qz_ui g' 101 ((g'.1 12 32).toNatClampNeg) (1048576 * (qSu (qSy g1)))) 12 32 ((g'.1 12 32) + 1)) 12 26 ((g'.1 12 26) + 1)) (p1 + 1) o1 C' (((qSs (sg p1), 0) :: K2') ++ K1) := (b1.push (q := (qSs (sg p1), 0)) (by rw [e32', nI_clamp (by omega)]) (qWm_0 _ (by rw [hP.su, if_pos s2])) (by rw [e32', nI_1])).pl (by rw [b1.2.1, nI_1]) (by omega)
        have pre : ∀ ph hw, ph = 1 ∨ ph = 3 → Rch sg (ph, hw, p, o, C, K1, []) (ph, hw, p1 + 1, o1, C', K1, (qSs (sg p1), 0) :: K2') := by
          intro ph hw hph
          refine ((hr ph hw hph).tr (b3 (ph + 1) hw (by omega))).st ?_
          by_cases c4 : 4 ≤ qSs (sg p1)
          · exact s2_rdm sg (ph := ph + 1) (by omega) b4 c4
          · refine s2_rda sg (ph := ph + 1) (by omega) (fun z => ?_) c4 s2
            exact top_no b4 (b5 (by rcases sv2 with w | w; exact w; exact absurd w c4)) z
        refine ⟨by rw [e32']; exact qz_vi (by rw [nI_toInt (by omega)]; omega) (by rw [nI_toInt (by omega)]; omega), ?_⟩
        refine FacF_c (d := d + 1) (facr_main hb K1 e (n - (p1 + 1)) (p1 + 1) o1 C' ((qSs (sg p1), 0) :: K2') _ (by omega) h2 (piv_pushop b2 ⟨s2, s6⟩) (fun g'' p' o' C'' K2'' c1 c2 c3 c4 => ⟨fun _ => ?_, fun z => absurd z (by decide)⟩) (fun g'' kd at_ c1 c2 => ⟨fun z => absurd rfl z, fun _ => hq2 g'' kd at_ c1 (fun ph hw hph => (pre ph hw hph).tr (c2 ph hw hph))⟩))
        have hp' := c1.2.2.2.2.2.2.2
        exact ihf (n - p') (by omega) g'' p' o' C'' K2'' (by omega) (by omega) c1 c2 (fun ph hw hph => (pre ph hw hph).tr (c4 ph hw hph))
      have ho := fun (Q' : qz_Q) (a1 : (∃ q, q ∈ K2 ∧ q.1 = 14) → Q' g1 1 0) (a2 : ¬ (∃ q, q ∈ K2 ∧ q.1 = 14) → Q' g1 0 0) => c_hasOpen (X := X) (d := d + 3) (Q := Q') hn g1 h1 hI1 e32 a1 a2
      have hsu : ¬ 2 ≤ qSs (sg p1) ↔ qSu (qSy g1) = -1 := by
        rw [hP.su]
        by_cases c : 2 ≤ qSs (sg p1)
        · rw [if_pos c]
          have s6 : qSs (sg p1) ≤ 6 := by unfold qSs; split <;> (try omega); split <;> (try omega); split <;> (try omega); split <;> (try omega); split <;> omega
          refine ⟨fun z => absurd c z, fun z => ?_⟩
          rw [qz_eq, nI_toInt (by omega), qz_m1] at z
          omega
        · rw [if_neg c]
          exact ⟨fun _ => rfl, fun _ => c⟩
      refine v_X12_readsSum_14 (d := d + 3) g1 _ ⟨hP.c.1, hP.c.2, fun z => ⟨fun n93 => ?_, fun y93 => ?_⟩, fun z => ⟨fun s4 => ?_, fun s4 => ?_⟩⟩
      · have ns := hsu.mpr z
        refine ho _ (fun w => ⟨fun r => absurd r (by decide), fun _ => ?_⟩) (fun w => ⟨fun _ => closeEnd ns w, fun r => absurd rfl r⟩)
        refine hq2 _ 1 p1 (h1.x (by rw [h1.2.1]; exact qGv 1 p1 (by decide))) (fun ph hw hph => (hr ph hw hph).tr (pure_open sg (by omega) ns (fun w2 => n93 (h93.mpr w2)) K2 C1 hI1.2.2.2.2.1 w))
      · have ns := hsu.mpr z
        have s93 := h93.mp y93
        refine ho _ (fun w => ⟨fun r => absurd r (by decide), fun _ => ?_⟩) (fun w => ⟨fun _ => ho _ (fun w2 => absurd w2 w) (fun _ => ⟨fun _ => closeEnd ns w, fun r => absurd rfl r⟩), fun r => absurd rfl r⟩)
        refine CloR_c (d := d + 2) (clo_main (sg := sg) hn K1 1 p1 o1 e (Or.inr (by omega)) K2 C1 g1 h1 hI1 (fun g' C' K2' b1 b2 b3 b4 b5 b6 => ?_))
        rcases k2_nil b2.2.2.2.2.1 b4 (b5 (by decide)) with rfl | ⟨K', rfl⟩
        · obtain ⟨q, hq, _⟩ := b6.mp w
          exact absurd hq (by simp)
        · have hin : p1 < n := hP.lt (by omega)
          have hc := piv_close2 b2
          have b1' : RmM n g0 g' p1 o1 C' ((14, 0) :: (K' ++ K1)) := b1
          refine ihf (n - (p1 + 1)) (by omega) _ (p1 + 1) (o1 - 1) C' K' (by omega) (by omega) (((b1'.pop (by rw [b1'.2.2.2.2.1, List.length_cons]; exact nI_pred _)).op (o' := o1 - 1) ?_).pl (by rw [b1.2.1, nI_1]) (by omega)) hc.1 (fun ph hw hph => ((hr ph hw hph).tr (b3 (ph + 1) hw (by omega))).st (s2_cls sg (by omega) ns s93))
          rw [b1.2.2.1]
          have := nI_pred (o1 - 1)
          rw [show o1 - 1 + 1 = o1 from by have := hc.2; omega] at this
          exact this
      · have s2 : 2 ≤ qSs (sg p1) := by
          by_cases c : 2 ≤ qSs (sg p1)
          · exact c
          · exact absurd (hsu.mp c) z
        have s4' : 4 ≤ qSs (sg p1) := by
          by_cases c : 4 ≤ qSs (sg p1)
          · exact c
          · rw [hP.su, if_pos s2, qz_le, qz_n4, nI_toInt (by omega)] at s4
            omega
        exact push 0 s2 (Or.inl rfl) (Or.inr s4')
      · have s2 : 2 ≤ qSs (sg p1) := by
          by_cases c : 2 ≤ qSs (sg p1)
          · exact c
          · exact absurd (hsu.mp c) z
        have s4' : ¬ 4 ≤ qSs (sg p1) := by
          intro c
          apply s4
          have s6 : qSs (sg p1) ≤ 6 := by unfold qSs; split <;> (try omega); split <;> (try omega); split <;> (try omega); split <;> (try omega); split <;> omega
          rw [hP.su, if_pos s2, qz_le, qz_n4, nI_toInt (by omega)]
          omega
        exact push 1 s2 (Or.inr s4') (Or.inl (by decide))
  have hpn := h.2.2.2.2.2.2.2
  refine v_X12_readsSum (d := d + 3) g (FacF_c (d := d + 1) (facr_main hb K1 e (n - p) p o C [] g (by omega) h hI (fun g'' p' o' C'' K2'' c1 c2 c3 c4 => ⟨fun _ => ?_, fun z => absurd z (by decide)⟩) (fun g'' kd at_ c1 c2 => ⟨fun z => absurd rfl z, fun _ => hq2 g'' kd at_ c1 c2⟩)))
  have hp' := c1.2.2.2.2.2.2.2
  exact head (n - p') g'' p' o' C'' K2'' (by omega) c3 c1 c2 c4
