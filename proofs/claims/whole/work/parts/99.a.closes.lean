def CloP (X : qz_X) (d : Nat) (Q : qz_Q) (v1 : Int32) (g : qz_G) : Prop := vp_in (g.1 12 31) 220 ∧ (qz_WP X (d + 2) 224 Q 0 [(0, .ref 12), (1, .int v1)] [] (qz_ui (qz_ui (qz_ui g 100 ((g.1 12 31).toNatClampNeg) ((1048576 * (qTp g)) + 0)) 12 31 ((g.1 12 31) + 1)) 12 32 ((g.1 12 32) - 1)))
def CloR (X : qz_X) (d : Nat) (Q : qz_Q) (v1 : Int32) (g : qz_G) : Prop := qI (g.1 12 32) 0 220 ∧ ∃ T : Int, (qTp g).toInt = T ∧ ((4 ≤ T ∧ T ≤ 6 ∨ ¬ v1 = 0 ∧ (T = 2 ∨ T = 3)) → CloP X d Q v1 g) ∧ (¬ (4 ≤ T ∧ T ≤ 6 ∨ ¬ v1 = 0 ∧ (T = 2 ∨ T = 3)) → Q g 0 0)
theorem CloR_w {X : qz_X} {d : Nat} {Q : qz_Q} {v1 : Int32} {g : qz_G} (h : CloR X d Q v1 g) : qz_WP X (d + 2) 224 Q 0 [(0, .ref 12), (1, .int v1)] [] g := by
  obtain ⟨h0, T, h1, h2, h3⟩ := h
  exact v_X12_closesSums_0 g v1 ⟨h0, clo_form h1 h2 h3⟩
theorem CloR_c {X : qz_X} {d : Nat} {Q : qz_Q} {v1 : Int32} {g : qz_G} (h : CloR X d Q v1 g) : qz_Call X (d + 2) 224 [.ref 12, .int v1] g Q := by
  obtain ⟨h0, T, h1, h2, h3⟩ := h
  exact v_X12_closesSums g v1 ⟨h0, clo_form h1 h2 h3⟩
theorem RmM.w {n : Nat} {g0 g : qz_G} {p o : Nat} {C W : List qOp} (h : RmM n g0 g p o C W) (hW : W.length ≤ 220) : qI (g.1 12 32) 0 220 := by
  unfold qI
  rw [h.2.2.2.2.1, qz_lt, qz_lt, qz_n0, show (220 : Int32).toInt = 220 from by decide, nI_toInt (by omega)]
  omega
theorem clo_main {X : qz_X} {d : Nat} {Q : qz_Q} {n : Nat} {sg : Nat → Nat} {g0 : qz_G} (hn : n ≤ 200) (K1 : List qOp) (v1 : Int32) (p o e : Nat) (hv : v1 = 0 ∨ ¬ 4 ≤ qSs (sg p)) : ∀ (K2 C : List qOp) (g : qz_G), RmM n g0 g p o C (K2 ++ K1) → PIv p o C K1 K2 e → (∀ g' C' K2', RmM n g0 g' p o C' (K2' ++ K1) → PIv p o C' K1 K2' e → (∀ ph hw, ph = 2 ∨ ph = 4 → Rch sg (ph, hw, p, o, C, K1, K2) (ph, hw, p, o, C', K1, K2')) → ¬ (4 ≤ qTop K2' ∧ qTop K2' ≤ 6) → (¬ v1 = 0 → ¬ (2 ≤ qTop K2' ∧ qTop K2' ≤ 3)) → ((∃ q, q ∈ K2 ∧ q.1 = 14) ↔ (∃ q, q ∈ K2' ∧ q.1 = 14)) → Q g' 0 0) → CloR X d Q v1 g := by
  intro K2
  induction K2 with
  | nil =>
    intro C g h hI hq
    have hl := hI.len
    have hp := h.2.2.2.2.2.2.2
    have hl2 : K1.length ≤ p := by have := hl.2; rw [List.length_nil] at this; omega
    have fin : Q g 0 0 := hq g C [] h hI (fun ph hw _ => Rch.rf _ _) (fun z => absurd z.2 (by show ¬ 99 ≤ 6; decide)) (fun _ z => absurd z.2 (by show ¬ 99 ≤ 3; decide)) Iff.rfl
    refine ⟨h.w (by show K1.length ≤ 220; omega), ?_⟩
    cases K1 with
    | nil => exact ⟨-1, by rw [h.tp0]; exact qz_m1, fun z => by omega, fun _ => fin⟩
    | cons q K =>
      have ht := hI.2.2.2.2.2 q List.mem_cons_self
      rw [List.length_cons] at hl2
      refine ⟨(q.1 : Int), ?_, fun z => by omega, fun _ => fin⟩
      have h' : RmM n g0 g p o C (q :: K) := h
      rw [h'.tp (by omega) (by omega) (by omega), nI_toInt (by omega)]
  | cons q K2 ih =>
    intro C g h hI hq
    obtain ⟨x, y⟩ := q
    have hl := hI.len
    have hp := h.2.2.2.2.2.2.2
    rw [List.length_cons] at hl
    have ht := hI.2.2.2.2.1 (x, y) List.mem_cons_self
    have ht1 : 2 ≤ x ∧ x ≤ 6 ∨ x = 14 := ht.1
    have hy : y = 0 := ht.2
    have hWl : (K2 ++ K1).length = K2.length + K1.length := List.length_append
    have h' : RmM n g0 g p o C ((x, y) :: (K2 ++ K1)) := h
    have etp := h'.tp (by omega) (by show x ≤ 14; omega) (by show y < 1048576; omega)
    have etp : qTp g = nI x := etp
    refine ⟨h.w (by rw [List.cons_append, List.length_cons]; omega), (x : Int), by rw [etp, nI_toInt (by omega)], fun z => ?_, fun z => ?_⟩
    · have hx : 2 ≤ x ∧ x ≤ 6 := by omega
      have e31 := h.2.2.2.1
      refine ⟨by rw [e31]; exact qz_vi (by rw [nI_toInt (by omega)]; omega) (by rw [nI_toInt (by omega)]; omega), CloR_w (ih (C ++ [(x, 0)]) _ ?_ (piv_op hI hx) ?_)⟩
      · refine (h'.say (q := (x, 0)) (by rw [e31, nI_clamp (by omega)]) ?_ (by rw [e31, nI_1])).pop ?_
        · rw [etp, qWm_0 x rfl, show (0 : Int32) = nI 0 from by decide]
          unfold qWm
          rw [nI_add]
          rfl
        · rw [h'.2.2.2.2.1, List.length_cons]; exact nI_pred _
      · intro g' C' K2' b1 b2 b3 b4 b5 b6
        refine hq g' C' K2' b1 b2 (fun ph hw hph => ?_) b4 b5 ?_
        · refine ((Rch.rf _ _).st ?_).tr (b3 ph hw hph)
          by_cases c4 : 4 ≤ x
          · exact s2_mul _ hph ⟨c4, hx.2⟩
          · refine s2_add _ hph (by omega) ?_
            rcases hv with hv | hv
            · rcases z with z | z
              · omega
              · exact absurd hv z.1
            · exact hv
        · refine Iff.trans ⟨fun w => ?_, fun w => ?_⟩ b6
          · obtain ⟨q, w1, w2⟩ := w
            rcases List.mem_cons.mp w1 with rfl | w1
            · have w2 : x = 14 := w2
              omega
            · exact ⟨q, w1, w2⟩
          · obtain ⟨q, w1, w2⟩ := w
            exact ⟨q, List.mem_cons_of_mem _ w1, w2⟩
    · refine hq g C ((x, y) :: K2) h hI (fun ph hw _ => Rch.rf _ _) ?_ ?_ Iff.rfl
      · show ¬ (4 ≤ x ∧ x ≤ 6)
        omega
      · intro hv2
        show ¬ (2 ≤ x ∧ x ≤ 3)
        intro w
        exact z (Or.inr ⟨hv2, by omega⟩)
theorem StkM_drop {r : Nat → Int32} : ∀ (A : List qOp) {W : List qOp}, StkM r (A ++ W) → StkM r W
  | [], _, h => h
  | _ :: A, _, h => StkM_drop A h.2
theorem c_hasOpen {X : qz_X} {d : Nat} {Q : qz_Q} {n : Nat} {g0 : qz_G} (hn : n ≤ 200) (g : qz_G) {p o e : Nat} {C K1 K2 : List qOp} (h : RmM n g0 g p o C (K2 ++ K1)) (hI : PIv p o C K1 K2 e) {v : Int32} (ev : v = nI K1.length) (hq1 : (∃ q, q ∈ K2 ∧ q.1 = 14) → Q g 1 0) (hq2 : ¬ (∃ q, q ∈ K2 ∧ q.1 = 14) → Q g 0 0) : qz_Call X (d + 1) 226 [.ref 12, .int v] g Q := by
  have hl := hI.len
  have hp := h.2.2.2.2.2.2.2
  have e32 : g.1 12 32 = nI (K2.length + K1.length) := by rw [h.2.2.2.2.1, List.length_append]
  have main : ∀ (m : Nat) (A B : List qOp), A.length = m → K2 = A ++ B → (∀ q, q ∈ B → ¬ q.1 = 14) → qz_WP X (d + 1) 226 Q 2 [(0, .ref 12), (2, .int (nI (B.length + K1.length)))] [] g := by
    intro m
    induction m with
    | zero =>
      intro A B hA hK hB
      have : A = [] := List.length_eq_zero_iff.mp hA
      subst this
      have hK : K2 = B := hK
      refine v_X12_hasOpenSum_2 g _ ⟨fun _ => hq2 (fun z => ?_), fun z => absurd ?_ z⟩
      · obtain ⟨q, z1, z2⟩ := z
        rw [hK] at z1
        exact hB q z1 z2
      · rw [e32, hK]; exact Int32.le_refl _
    | succ m ih =>
      intro A B hA hK hB
      obtain ⟨A', q, rfl⟩ : ∃ A' q, A = A' ++ [q] := by
        rcases List.eq_nil_or_concat A with hA0 | ⟨A', q, hA0⟩
        · rw [hA0] at hA; simp at hA
        · exact ⟨A', q, by rw [hA0]; simp⟩
      have hqm : q ∈ K2 := by rw [hK]; simp
      have hlen : K2.length = A'.length + 1 + B.length := by rw [hK]; simp; omega
      have ht := hI.2.2.2.2.1 q hqm
      have hst := h.2.2.2.2.2.2.1
      rw [hK, show A' ++ [q] ++ B ++ K1 = A' ++ (q :: (B ++ K1)) from by simp] at hst
      have hrow := (StkM_drop A' hst).1
      rw [List.length_append] at hrow
      have hw := (qWm_dv (q := q) (by omega) (by omega)).1
      refine v_X12_hasOpenSum_2 g _ ⟨fun z => absurd z ?_, fun _ => ⟨qz_vi (by rw [nI_toInt (by omega)]; omega) (by rw [nI_toInt (by omega)]; omega), ?_⟩⟩
      · rw [e32, nI_leI (by omega) (by omega)]; omega
      · rw [nI_clamp (show B.length + K1.length < 2147483648 by omega), hrow, hw]
        refine ⟨fun z => ?_, fun z => hq1 ⟨q, hqm, nI_inj (by omega) (by omega) (z.trans (by decide : (14 : Int32) = nI 14))⟩⟩
        rw [nI_1, show B.length + K1.length + 1 = (q :: B).length + K1.length from by rw [List.length_cons]; omega]
        refine ih A' (q :: B) (by rw [List.length_append] at hA; have hA : A'.length + 1 = m + 1 := hA; omega) (by rw [hK]; simp) (fun q2 hq2 => ?_)
        rcases List.mem_cons.mp hq2 with rfl | hq2
        · intro w
          apply z
          rw [w]; decide
        · exact hB q2 hq2
  rw [ev]
  refine v_X12_hasOpenSum g _ ?_
  have x := main K2.length K2 [] rfl (by rw [List.append_nil]) (fun q hq => by simp at hq)
  rw [List.length_nil, Nat.zero_add] at x
  exact x
