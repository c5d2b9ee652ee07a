def HO (works owners : Int32) (part many who : Nat → Int32) : Prop := qI works 0 80 ∧ qI owners 0 40 ∧ RelP owners part ∧ ∀ w : Int32, qR w works → qI (many w.toNatClampNeg) 0 4 ∧ ∀ i : Nat, (i : Int) < (many w.toNatClampNeg).toInt → qR (who (4 * w.toNatClampNeg + i)) owners
def qHd (who part from_ told : Nat → Int32) (w i day t : Int32) : Int32 := qz_hold part from_ told day t 40 (who (4 * w.toNatClampNeg + i.toNatClampNeg))
theorem HO_of {g : qz_G} (hR : Rel g) : HO (g.1 12 2) (g.1 12 1) (g.1 81) (g.1 96) (g.1 97) :=
  ⟨hR.2.2.1.2.2.1, hR.2.2.1.2.1, hR.2.2.2.1, fun w hw => ⟨(RelW_at hR hw).2.2.2.2.2.2.2.2.2.1, fun i hi => ((RelW_at hR hw).2.2.2.2.2.2.2.2.2.2 i hi).1⟩⟩
theorem HO_who {works owners : Int32} {part many who : Nat → Int32} (h : HO works owners part many who) {w i : Int32} (hw : qR w works) (hi : qR i (many w.toNatClampNeg)) : qR (who (4 * w.toNatClampNeg + i.toNatClampNeg)) owners := by
  refine (h.2.2.2 w hw).2 i.toNatClampNeg ?_
  have c := qz_cl i
  simp only [qR, qz_lt, qz_le, qz_n0] at hi
  omega
theorem qHd_rng {works owners : Int32} {part many who from_ told : Nat → Int32} (h : HO works owners part many who) {w i day t : Int32} (hw : qR w works) (hi : qR i (many w.toNatClampNeg)) : qR (qHd who part from_ told w i day t) owners := qz_hold_rng h.2.2.1 h.2.1 40 (HO_who h hw hi)
theorem c_X1_holderOf {X : qz_X} {d : Nat} {Q : qz_Q} (g : qz_G) (v1 v2 v3 v4 : Int32) (h : (HO (g.1 3 12) (g.1 2 8) (g.1 15) (g.1 29) (g.1 30)) ∧ (qR v1 (g.1 3 12)) ∧ (qR v2 (g.1 29 v1.toNatClampNeg) → Q g (qHd (g.1 30) (g.1 15) (g.1 16) (g.1 17) v1 v2 v3 v4) 0) ∧ (¬ qR v2 (g.1 29 v1.toNatClampNeg) → Q g (-1) 0)) : qz_Call X (d + 3) 6 [.ref 5, .int v1, .int v2, .int v3, .int v4] g Q := by
  obtain ⟨hO, hw, h1, h2⟩ := h
  have hm := (hO.2.2.2 v1 hw).1
  refine v_X1_holderOf g v1 v2 v3 v4 ⟨hw, hO.1, hm, fun c => ?_, h2⟩
  have hx := (qz_ix4R hw hO.1 c hm).1
  have hwho := HO_who hO hw c
  rw [hx]
  refine ⟨fun _ => ⟨hO.2.2.1, hO.2.1, hwho, h1 c⟩, fun e => ?_⟩
  rw [e] at hwho
  exact absurd (by decide) hwho.1
theorem c_X12_holderOf {X : qz_X} {d : Nat} {Q : qz_Q} (g : qz_G) (v1 v2 v3 v4 : Int32) (h : (HO (g.1 12 2) (g.1 12 1) (g.1 81) (g.1 96) (g.1 97)) ∧ (qR v1 (g.1 12 2)) ∧ (qR v2 (g.1 96 v1.toNatClampNeg)) ∧ Q g (qHd (g.1 97) (g.1 81) (g.1 82) (g.1 83) v1 v2 v3 v4) 0) : qz_Call X (d + 2) 210 [.ref 12, .int v1, .int v2, .int v3, .int v4] g Q := by
  obtain ⟨hO, hw, hi, h1⟩ := h
  have hm := (hO.2.2.2 v1 hw).1
  obtain ⟨x1, x3, x4⟩ := qz_ix4R hw hO.1 hi hm
  rw [x4] at x1 x3
  refine v_X12_holderOf g v1 v2 v3 v4 ⟨x3, hO.2.2.1, hO.2.1, ?_⟩
  rw [x1]
  exact ⟨HO_who hO hw hi, h1⟩
theorem qz_up_upd {part : Nat → Int32} {a b : Int32} (ha : ¬ a < 0) : ∀ (n : Nat) (o : Int32), (∀ j : Nat, j < n → ¬ qz_up part j o = a) → qz_up (upd part a.toNatClampNeg b) n o = qz_up part n o
  | 0, o, _ => rfl
  | n + 1, o, h => by
    by_cases hn : o < 0
    · rw [qz_up_neg _ _ hn, qz_up_neg _ _ hn]
    · have h0 := h 0 (by omega)
      have h0 : ¬ o = a := h0
      have hne : ¬ o.toNatClampNeg = a.toNatClampNeg := by
        have c1 := qz_cl o
        have c2 := qz_cl a
        simp only [qz_lt, qz_eq, qz_n0] at ha hn h0
        omega
      simp only [qz_up, hn, if_false, qz_u1, hne]
      refine qz_up_upd ha n _ (fun j hj => ?_)
      have h1 := h (j + 1) (by omega)
      simp only [qz_up, hn, if_false] at h1
      exact h1
theorem RelP_merge {owners : Int32} {part : Nat → Int32} {a b : Int32} (hP : RelP owners part) (ho : qI owners 0 40) (ha : qR a owners) (hb : qR b owners) (hl : ¬ qLd part b a) : RelP owners (upd part a.toNatClampNeg b) := by
  have ca := qz_cl a
  have hb40 : qz_up (upd part a.toNatClampNeg b) 40 b < 0 := by
    rw [qz_up_upd ha.1 40 b (fun j hj e => hl ⟨j, hj, e⟩)]
    exact qz_chain hP ho hb
  refine ⟨fun i hi => ?_, fun i hi h40 => ?_, fun o hoo => ?_⟩
  · simp only [qz_u1]
    by_cases e : i = a.toNatClampNeg
    · simp only [e, if_true]; exact Or.inr hb
    · simp only [e, if_false]; exact hP.1 i hi
  · simp only [qz_u1]
    have e : ¬ i = a.toNatClampNeg := by
      simp only [qR, qz_lt, qz_le, qz_n0] at ha
      omega
    simp only [e, if_false]
    exact hP.2.1 i hi h40
  · by_cases hv : ∃ j : Nat, qz_up part j o = a
    · obtain ⟨j0, hj0⟩ := hv
      obtain ⟨j, hj, hjl⟩ := qz_least (P := fun j => qz_up part j o = a) j0 hj0
      refine ⟨j + (1 + 40), ?_⟩
      rw [qz_up_add, qz_up_upd ha.1 j o hjl, hj, qz_up_add]
      have e : qz_up (upd part a.toNatClampNeg b) 1 a = b := by
        simp only [qz_up, ha.1, if_false, qz_u1, if_true]
      rw [e]
      exact hb40
    · refine ⟨40, ?_⟩
      rw [qz_up_upd ha.1 40 o (fun j _ e => hv ⟨j, e⟩)]
      exact qz_chain hP ho hoo
theorem Rel_merge {g : qz_G} {a b c : Int32} (hR : Rel g) (ha : qR a (g.1 12 1)) (hb : qR b (g.1 12 1)) (hl : ¬ qLd (g.1 81) b a) : Rel (qz_ui (qz_ui (qz_ui (qz_ui (qz_ui (qz_ui g 15 a.toNatClampNeg b) 16 a.toNatClampNeg c) 17 a.toNatClampNeg (g.1 12 0)) 81 a.toNatClampNeg b) 82 a.toNatClampNeg c) 83 a.toNatClampNeg (g.1 12 0)) := by
  obtain ⟨hE, hS, hB, hP, hD, hW, hZ, hK, hT, hA, hV, hC, hY, hJ, hU, hL⟩ := hR
  unfold Rel RelE RelS
  unfold RelE at hE
  unfold RelS at hS
  simp only [qz_i1, qz_i2, qz_u1, Nat.reduceEqDiff, reduceIte]
  refine ⟨?_, hS, hB, RelP_merge hP hB.2.1 ha hb hl, hD, hW, hZ, hK, hT, hA, hV, hC, hY, hJ, hU, hL⟩
  simp only [hE, and_self]
theorem w_merge {X : qz_X} {d : Nat} {Q : qz_Q} (g : qz_G) (v1 v2 v3 : Int32) (hP : RelP (g.1 12 1) (g.1 81)) (ho : qI (g.1 12 1) 0 40) (h1 : qR v1 (g.1 12 1)) (h2 : qR v2 (g.1 12 1)) (ht : qLd (g.1 81) v2 v1 → Q g 0 0) (hf : ¬ qLd (g.1 81) v2 v1 → Q (qz_ui (qz_ui (qz_ui g 81 v1.toNatClampNeg v2) 82 v1.toNatClampNeg v3) 83 v1.toNatClampNeg (g.1 12 0)) 1 0) : qz_WP X (d + 2) 206 Q 56 [(0, .ref 12), (1, .int v1), (2, .int v2), (3, .int v3), (4, .int v2)] [] g := by
  have key : ∀ (n i : Nat), n + i = 40 → (∀ j : Nat, j < i → ¬ qz_up (g.1 81) j v2 = v1) → qz_WP X (d + 2) 206 Q 56 [(0, .ref 12), (1, .int v1), (2, .int v2), (3, .int v3), (4, .int (qz_up (g.1 81) i v2))] [] g := by
    have hend : ∀ i : Nat, qz_up (g.1 81) i v2 < 0 → (∀ j : Nat, j < i → ¬ qz_up (g.1 81) j v2 = v1) → qz_WP X (d + 2) 206 Q 56 [(0, .ref 12), (1, .int v1), (2, .int v2), (3, .int v3), (4, .int (qz_up (g.1 81) i v2))] [] g := by
      intro i hneg h3
      have hnl : ¬ qLd (g.1 81) v2 v1 := by
        rintro ⟨j, hj, e⟩
        by_cases hji : j < i
        · exact h3 j hji e
        · rw [show j = i + (j - i) by omega, qz_up_add, qz_up_neg _ _ hneg] at e
          rw [e] at hneg
          exact h1.1 hneg
      have hm1 : qz_up (g.1 81) i v2 = -1 := by
        obtain ⟨k, hk, hkl⟩ := qz_least (P := fun n => qz_up (g.1 81) n v2 < 0) i hneg
        cases k with
        | zero => exact absurd hk h2.1
        | succ k =>
          have hr := (qz_up_rng hP ho k h2).resolve_left (hkl k (by omega))
          have e : qz_up (g.1 81) (k + 1) v2 = g.1 81 (qz_up (g.1 81) k v2).toNatClampNeg := by
            rw [qz_up_add]
            simp only [qz_up, hr.1, if_false]
          have hk' : g.1 81 (qz_up (g.1 81) k v2).toNatClampNeg < 0 := by rw [← e]; exact hk
          have c := qz_cl (qz_up (g.1 81) k v2)
          have hr' := hr
          have ho' := ho
          simp only [qR, qI, qz_lt, qz_le, qz_n0, qz_n40] at hr' ho'
          have hm : g.1 81 (qz_up (g.1 81) k v2).toNatClampNeg = -1 := (hP.1 _ (by omega)).resolve_right (fun z => z.1 hk')
          have hki : k + 1 ≤ i := by
            rcases Nat.lt_or_ge i (k + 1) with z | z
            · exact absurd hneg (hkl i z)
            · exact z
          rw [show i = (k + 1) + (i - (k + 1)) by omega, qz_up_add, e, hm]
          exact qz_up_neg _ _ (by decide)
      rw [hm1]
      have hne : ¬ (-1 : Int32) = v1 := fun e => h1.1 (by rw [← e]; decide)
      exact v_X12_merge_56 g v1 v2 v3 _ ⟨fun _ => ⟨fun _ => ⟨qz_in40 h1 ho, hf hnl⟩, fun z => absurd z hne⟩, fun z => absurd rfl z⟩
    intro n
    induction n with
    | zero =>
      intro i hi h3
      have e : i = 40 := by omega
      subst e
      exact hend 40 (qz_chain hP ho h2) h3
    | succ n ih =>
      intro i hi h3
      by_cases hneg : qz_up (g.1 81) i v2 < 0
      · exact hend i hneg h3
      · have hr := (qz_up_rng hP ho i h2).resolve_left hneg
        have hne1 : ¬ qz_up (g.1 81) i v2 = -1 := fun e => hneg (by rw [e]; decide)
        refine v_X12_merge_56 g v1 v2 v3 _ ⟨fun z => absurd z hne1, fun _ => ⟨fun e => ⟨fun z => absurd e z, fun _ => ht ⟨i, by omega, e⟩⟩, fun e => ⟨qz_in40 hr ho, ?_⟩⟩⟩
        have e2 : g.1 81 (qz_up (g.1 81) i v2).toNatClampNeg = qz_up (g.1 81) (i + 1) v2 := by
          rw [qz_up_add]
          simp only [qz_up, hr.1, if_false]
        rw [e2]
        refine ih (i + 1) (by omega) (fun j hj => ?_)
        by_cases hji : j = i
        · rw [hji]; exact e
        · exact h3 j (by omega)
  exact key 40 0 rfl (fun j hj => by omega)
theorem P_merge {X : qz_X} {d : Nat} {g : qz_G} (v1 v2 v3 : Int32) (hR : Rel g) : qz_Pair X (d + 4) 154 206 [.int v1, .int v2, .int v3] g := by
  have hE := hR.1
  have hS := hR.2.1
  have hBo := hR.2.2.1.2.1
  have hP := hR.2.2.2.1
  unfold RelS at hS
  unfold RelE at hE
  refine v_X11_merge g v1 v2 v3 ?_
  simp only [hS, hE]
  refine ⟨hBo, fun h1 => ⟨hBo, fun h2 => ⟨fun h3 => ⟨fun _ => ⟨qz_in40 h1.1 hBo, fun h4 => ?_, fun h4 => ⟨hP, hBo, h2.1, h1.1, fun h5 => ?_, fun h5 => ?_⟩⟩, fun z => absurd h1.1 z⟩, fun h3 => ?_⟩, fun h2 => ?_⟩, fun h1 => ?_⟩
  · exact v_X12_merge (d := d + 2) _ v1 v2 v3 ⟨fun _ => ⟨fun _ => ⟨qz_in40 h1.1 hBo, fun z => absurd z h1.2, fun _ => ⟨qz_in40 h2.1 hBo, fun z => absurd z h2.2, fun _ => ⟨fun _ => ⟨fun z => absurd z h4, fun _ => ⟨rfl, rfl, hR⟩⟩, fun _ => ⟨rfl, rfl, hR⟩⟩⟩⟩, fun z => absurd h2.1 z⟩, fun z => absurd h1.1 z⟩
  · exact v_X12_merge (d := d + 2) _ v1 v2 v3 ⟨fun _ => ⟨fun _ => ⟨qz_in40 h1.1 hBo, fun z => absurd z h1.2, fun _ => ⟨qz_in40 h2.1 hBo, fun z => absurd z h2.2, fun _ => ⟨fun _ => ⟨fun _ => w_merge g v1 v2 v3 hP hBo h1.1 h2.1 (fun _ => ⟨rfl, rfl, hR⟩) (fun z => absurd h5 z), fun z => absurd h4 z⟩, fun _ => ⟨rfl, rfl, hR⟩⟩⟩⟩, fun z => absurd h2.1 z⟩, fun z => absurd h1.1 z⟩
  · refine v_X12_merge (d := d + 2) _ v1 v2 v3 ?_
    simp only [qz_i1, qz_i2, qz_u1, Nat.reduceEqDiff, reduceIte]
    refine ⟨fun _ => ⟨fun _ => ⟨qz_in40 h1.1 hBo, fun z => absurd z h1.2, fun _ => ⟨qz_in40 h2.1 hBo, fun z => absurd z h2.2, fun _ => ⟨fun _ => ⟨fun _ => ?_, fun z => absurd h4 z⟩, fun z => absurd h3 z⟩⟩⟩, fun z => absurd h2.1 z⟩, fun z => absurd h1.1 z⟩
    refine w_merge _ v1 v2 v3 ?_ ?_ ?_ ?_ ?_ ?_
    all_goals simp only [qz_i1, qz_i2, qz_u1, Nat.reduceEqDiff, reduceIte]
    · exact hP
    · exact hBo
    · exact h1.1
    · exact h2.1
    · exact fun z => absurd z h5
    · exact fun _ => ⟨trivial, trivial, Rel_merge hR h1.1 h2.1 h5⟩
  · exact v_X12_merge (d := d + 2) _ v1 v2 v3 ⟨fun _ => ⟨fun _ => ⟨qz_in40 h1.1 hBo, fun z => absurd z h1.2, fun _ => ⟨qz_in40 h2.1 hBo, fun z => absurd z h2.2, fun _ => ⟨fun z => absurd z h3, fun _ => ⟨rfl, rfl, hR⟩⟩⟩⟩, fun z => absurd h2.1 z⟩, fun z => absurd h1.1 z⟩
  · exact v_X12_merge (d := d + 2) _ v1 v2 v3 ⟨fun _ => ⟨fun h4 => ⟨qz_in40 h1.1 hBo, fun z => absurd z h1.2, fun _ => ⟨qz_in40 h4 hBo, fun _ => ⟨rfl, rfl, hR⟩, fun z => absurd ⟨h4, z⟩ h2⟩⟩, fun _ => ⟨rfl, rfl, hR⟩⟩, fun z => absurd h1.1 z⟩
  · exact v_X12_merge (d := d + 2) _ v1 v2 v3 ⟨fun h4 => ⟨fun _ => ⟨qz_in40 h4 hBo, fun _ => ⟨rfl, rfl, hR⟩, fun z => absurd ⟨h4, z⟩ h1⟩, fun _ => ⟨rfl, rfl, hR⟩⟩, fun _ => ⟨rfl, rfl, hR⟩⟩
