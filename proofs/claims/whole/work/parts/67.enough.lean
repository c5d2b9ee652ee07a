/-! whether a search is enough -/
theorem qRs_rng {g : qz_G} {D : qDt} {w land day t : Int32} {k : Nat} (hD : LwD g D) (h : k < 7) (e : qDf k = 0) : 0 ≤ (qRs g D w land day t k).toInt ∧ (qRs g D w land day t k).toInt ≤ 999999 := by
  rw [qRs_o h e]
  rcases qNb_rng (w := w) (land := land) (day := day) (t := t) (k := k) hD with c | c
  · rw [if_pos c, qz_n0]; omega
  · by_cases c2 : qNb g D w land day t k = -1
    · rw [if_pos c2, qz_n0]; omega
    · rw [if_neg c2]; exact c
noncomputable def qSrc (g : qz_G) (D : qDt) (land day t w : Int32) : Nat := qFs (fun s => bt (qBb g D w land day t 7) s = true ∧ ¬ qLoG g w (nI s) day t (qRs g D w land day t 0)) 12
def qNo (g : qz_G) (day t wait w : Int32) (i : Nat) : Prop := ¬ qFd (g.1 84) (g.1 12 55) (g.1 125) (g.1 124) (g.1 126) (g.1 12 56) (g.1 127) (g.1 130) (g.1 97 (4 * w.toNatClampNeg + i)) day t ∧ ¬ qWrt g day t wait (g.1 97 (4 * w.toNatClampNeg + i))
noncomputable def qOwn (g : qz_G) (D : qDt) (land day t w : Int32) : Nat := if qRs g D w land day t 1 = 0 then (g.1 96 w.toNatClampNeg).toNatClampNeg else qFs (qNo g day t (qRs g D w land day t 1) w) (g.1 96 w.toNatClampNeg).toNatClampNeg
noncomputable def qSv (g : qz_G) (D : qDt) (land day t w : Int32) : Int32 := if qSrc g D land day t w < 12 then nI (qSrc g D land day t w) else -1
noncomputable def qOv (g : qz_G) (D : qDt) (land day t w : Int32) : Int32 := if qOwn g D land day t w < (g.1 96 w.toNatClampNeg).toNatClampNeg then g.1 97 (4 * w.toNatClampNeg + qOwn g D land day t w) else -1
def qLck (g : qz_G) (D : qDt) (land day t w : Int32) : Prop := qSrc g D land day t w < 12 ∨ qOwn g D land day t w < (g.1 96 w.toNatClampNeg).toNatClampNeg
noncomputable def qFl (L : Int32 → Prop) (inn : Nat → Int32) : Nat → Int32 → Int32
  | 0, _ => -1
  | n + 1, x => if x = -1 then -1 else qIf (L x) x (qFl L inn n (inn x.toNatClampNeg))
theorem qFl_m {L : Int32 → Prop} {inn : Nat → Int32} : ∀ (n : Nat), qFl L inn n (-1) = -1
  | 0 => rfl
  | n + 1 => by
    show (if (-1 : Int32) = -1 then (-1 : Int32) else _) = -1
    rw [if_pos rfl]
theorem qFl_p {L : Int32 → Prop} {inn : Nat → Int32} {n : Nat} {x : Int32} (h : ¬ x = -1) (hl : L x) : qFl L inn (n + 1) x = x := by
  show (if x = -1 then (-1 : Int32) else _) = x
  rw [if_neg h, qIf_pos hl]
theorem qFl_n {L : Int32 → Prop} {inn : Nat → Int32} {n : Nat} {x : Int32} (h : ¬ x = -1) (hl : ¬ L x) : qFl L inn (n + 1) x = qFl L inn n (inn x.toNatClampNeg) := by
  show (if x = -1 then (-1 : Int32) else _) = _
  rw [if_neg h, qIf_neg hl]
theorem qSv_m {g : qz_G} {D : qDt} {land day t w : Int32} : qSv g D land day t w = -1 ↔ ¬ qSrc g D land day t w < 12 := by
  unfold qSv
  by_cases c : qSrc g D land day t w < 12
  · rw [if_pos c]
    refine ⟨fun z => ?_, fun z => absurd c z⟩
    rw [qz_eq, qz_nI (by omega), qz_m1] at z
    omega
  · rw [if_neg c]
    exact ⟨fun _ => c, fun _ => rfl⟩
theorem qOv_m {g : qz_G} {D : qDt} {land day t w : Int32} (hR : Rel g) (hw : qR w (g.1 12 2)) : qOv g D land day t w = -1 ↔ ¬ qOwn g D land day t w < (g.1 96 w.toNatClampNeg).toNatClampNeg := by
  unfold qOv
  by_cases c : qOwn g D land day t w < (g.1 96 w.toNatClampNeg).toNatClampNeg
  · rw [if_pos c]
    refine ⟨fun z => ?_, fun z => absurd c z⟩
    have hcl := qz_cl (g.1 96 w.toNatClampNeg)
    have := ((HO_of hR).2.2.2 w hw).2 (qOwn g D land day t w) (by omega)
    rw [z] at this
    exact absurd (by decide) this.1
  · rw [if_neg c]
    exact ⟨fun _ => c, fun _ => rfl⟩
theorem qLo_bits {g0 : qz_G} (hR : Rel g0) {w day t old fr : Int32} (hday : qI day 0 99999) (ho0 : 0 ≤ old.toInt) (ho : old.toInt ≤ 999999) (hf : (old = 0 ∧ fr = 0) ∨ (¬ old = 0 ∧ fr = day - old)) (s : Nat) (hs : s < 12) : bt (qOr (fun k => g0.1 122 k = w ∧ ¬ g0.1 124 k < fr ∧ ¬ day < g0.1 124 k ∧ ¬ t < g0.1 126 k) (g0.1 123) (g0.1 12 55).toNatClampNeg) s = true ↔ qLoG g0 w (nI s) day t old := by
  have hn := rB_looks hR
  simp only [qI, qz_lt, qz_n0, qz_n300, qz_n99999] at hn hday
  have hcl := qz_cl (g0.1 12 55)
  have hK := hR.2.2.2.2.2.2.2.1
  have key : ∀ k : Nat, (k : Int) < (g0.1 12 55).toInt → (¬ g0.1 124 k < fr ↔ (old = 0 ∨ ¬ old < day - g0.1 124 k)) := by
    intro k hk
    have h1 := (hK k hk).2.2.1
    simp only [qI, qz_lt, qz_n0, qz_n99999] at h1
    rcases hf with ⟨e1, e2⟩ | ⟨e1, e2⟩
    · rw [e2, qz_lt, qz_n0]
      exact ⟨fun _ => Or.inl e1, fun _ => by omega⟩
    · have x1 := qz_sb (a := day) (b := old) (by omega) (by omega)
      have x2 := qz_sb (a := day) (b := g0.1 124 k) (by omega) (by omega)
      rw [e2, qz_lt, qz_lt, x1, x2]
      exact ⟨fun z => Or.inr (by omega), fun z => by have := z.resolve_left e1; omega⟩
  rw [qOr_bt _ (fun k hk _ => ?_) s (by omega)]
  · constructor
    · rintro ⟨k, h1, ⟨h2, h3, h4, h5⟩, h6⟩
      exact ⟨k, by omega, h2, h6, h4, h5, (key k (by omega)).mp h3⟩
    · rintro ⟨k, h1, h2, h3, h4, h5, h6⟩
      exact ⟨k, by omega, ⟨h2, (key k h1).mpr h6, h4, h5⟩, h3⟩
  · exact qR_mono (hK k (by omega)).2.1 (by rw [qz_n12, qz_n32]; omega)
theorem c_X7_missingSources {X : qz_X} {d : Nat} {Q : qz_Q} {g0 : qz_G} {D : qDt} (hR : Rel g0) (hD : LwD g0 D) (g : qz_G) (hs : Same g0 g) (w land day t : Int32) (hday : qI day 0 99999) (h58 : ∀ k, k < 9 → g.1 58 k = qRs g0 D w land day t k) (hq : ∀ m, (∀ s, s < 12 → (bt m s = true ↔ bt (qBb g0 D w land day t 7) s = true ∧ ¬ qLoG g0 w (nI s) day t (qRs g0 D w land day t 0))) → Q g m 0) : qz_Call X (d + 2) 103 [.ref 8, .int w, .int day, .int t] g Q := by
  have e0 := h58 0 (by omega)
  have e7 := h58 7 (by omega)
  rw [qRs_b (Or.inl rfl)] at e7
  have hr := qRs_rng (w := w) (land := land) (day := day) (t := t) (k := 0) hD (by omega) (by decide)
  have go : ∀ r, (∀ s, s < 12 → (bt r s = true ↔ qLoG g0 w (nI s) day t (qRs g0 D w land day t 0))) → Q g (qBb g0 D w land day t 7 &&& (r ^^^ (-1))) 0 := by
    intro r h
    refine hq _ (fun s hs12 => ?_)
    rw [b_and, b_xor, b_m1 s (by omega), Bool.and_eq_true]
    refine and_congr Iff.rfl ?_
    rw [← h s hs12]
    cases bt r s <;> decide
  refine v_X7_missingSources g w day t ?_
  rw [qz_k0, qz_k7, e0, e7]
  refine ⟨fun c => ?_, fun c => ?_⟩
  · refine c_X9_lookedThrough g w _ day t (by rw [rS_4_13 hR hs]; exact rB_looks hR) (go _ (fun s hs12 => ?_))
    rw [rE_34 hR hs, rE_36 hR hs, rE_38 hR hs, rE_35 hR hs, rS_4_13 hR hs]
    exact qLo_bits hR hday hr.1 hr.2 (Or.inr ⟨c, rfl⟩) s hs12
  · refine c_X9_lookedThrough g w 0 day t (by rw [rS_4_13 hR hs]; exact rB_looks hR) (go _ (fun s hs12 => ?_))
    rw [rE_34 hR hs, rE_36 hR hs, rE_38 hR hs, rE_35 hR hs, rS_4_13 hR hs]
    exact qLo_bits hR hday hr.1 hr.2 (Or.inl ⟨c, rfl⟩) s hs12
theorem c_X7_firstBit {X : qz_X} {d : Nat} {Q : qz_Q} (g : qz_G) (m : Int32) (P : Nat → Prop) (hP : ∀ s, s < 12 → (bt m s = true ↔ P s)) (hq : Q g (if qFs P 12 < 12 then nI (qFs P 12) else -1) 0) : qz_Call X (d + 1) 105 [.int m] g Q := by
  refine v_X7_firstBit g m ?_
  refine qz_for (α := Unit) (W := fun _ v => qz_WP X (d + 1) 105 Q 2 [(0, .int m), (1, .int v)] [] g) (n := 12) (fun i _ => ∀ j, j < i → ¬ P j) (by decide) (by decide) (fun i _ v hI ev cv hle cont => ?_) () (fun j hj => by omega)
  have evn : v = nI i := by
    rw [qz_n12] at hle
    rw [qz_eq, ev, qz_nI (by omega)]
  subst evn
  rw [qz_n12] at hle cont
  refine v_X7_firstBit_2 g m _ ⟨fun z => ?_, fun z => ⟨fun c => v_X7_firstBit_18 g m _ (cont () ?_ (fun j hj => ?_)), fun c => ?_⟩⟩
  · rw [qz_le, ev, qz_n12] at z
    rw [qFs_neg (fun j hj => hI j (by omega)), if_neg (by omega)] at hq
    exact hq
  · rw [qz_le, ev, qz_n12] at z
    omega
  · rw [qz_le, ev, qz_n12] at z
    rw [b_bit _ (by omega)] at c
    by_cases cj : j = i
    · rw [cj, ← hP i (by omega), c]
      intro z2
      cases z2
    · exact hI j (by omega)
  · rw [qz_le, ev, qz_n12] at z
    rw [b_bit _ (by omega)] at c
    have hp : P i := (hP i (by omega)).mp (by simpa using c)
    rw [qFs_pos (by omega) hp hI, if_pos (by omega)] at hq
    exact hq
theorem c_X7_missingOwner {X : qz_X} {d : Nat} {Q : qz_Q} {g0 : qz_G} {D : qDt} (hR : Rel g0) (g : qz_G) (hs : Same g0 g) (w land day t : Int32) (hw : qR w (g0.1 12 2)) (h58 : ∀ k, k < 9 → g.1 58 k = qRs g0 D w land day t k) (hq : Q g (qOv g0 D land day t w) 0) : qz_Call X (d + 3) 104 [.ref 8, .int w, .int day, .int t] g Q := by
  have e1 := h58 1 (by omega)
  have hO := HO_of hR
  have hm := qI_0 (hO.2.2.2 w hw).1 qz_n4
  have hcl := qz_cl (g0.1 96 w.toNatClampNeg)
  refine v_X7_missingOwner g w day t ?_
  rw [qz_k1, e1]
  unfold qOv qOwn at hq
  generalize qRs g0 D w land day t 1 = wait at hq ⊢
  refine qz_for (α := Unit) (W := fun _ v => qz_WP X (d + 3) 104 Q 13 [(0, .ref 8), (1, .int w), (2, .int day), (3, .int t), (4, .int wait), (5, .int v)] [] g) (n := g0.1 96 w.toNatClampNeg) (fun i _ => ∀ j, j < i → ¬ qNo g0 day t wait w j) hm.1 (by omega) (fun i _ v hI ev cv hle cont => ?_) () (fun j hj => by omega)
  refine v_X7_missingOwner_13 g w day t wait v ?_
  rw [rS_3_12 hR hs, rE_29 hR hs, rE_30 hR hs]
  refine ⟨fun c => ?_, fun c => ⟨hw, hO.1, fun z => ?_, fun z => ?_⟩⟩
  · rw [if_pos c, if_neg (Nat.lt_irrefl _)] at hq
    exact hq
  · rw [qz_le, ev] at z
    rw [if_neg c, qFs_neg (fun j hj => hI j (by omega)), if_neg (Nat.lt_irrefl _)] at hq
    exact hq
  · have hr : qR v (g0.1 96 w.toNatClampNeg) := ⟨by rw [qz_lt, ev, qz_n0]; omega, z⟩
    rw [qz_le, ev] at z
    have e4 := (qz_ix4R hw hO.1 hr (hO.2.2.2 w hw).1).1
    rw [cv] at e4
    have ho := HO_who hO hw hr
    rw [cv] at ho
    have nx : ¬ qNo g0 day t wait w i → qz_WP X (d + 3) 104 Q 77 [(0, .ref 8), (1, .int w), (2, .int day), (3, .int t), (4, .int wait), (5, .int v)] [] g := by
      intro h1
      refine v_X7_missingOwner_77 g w day t wait v (cont () (by omega) (fun j hj => ?_))
      by_cases cj : j = i
      · rw [cj]; exact h1
      · exact hI j (by omega)
    rw [e4]
    refine ⟨(hO.2.2.2 w hw).1, fun _ => ?_, fun z2 => absurd hr z2⟩
    refine v_X7_missingOwner_43 g w day t wait v _ ?_
    rw [rS_4_13 hR hs, rS_4_14 hR hs, rE_46 hR hs, rE_37 hR hs, rE_36 hR hs, rE_38 hR hs, rE_39 hR hs, rE_42 hR hs]
    refine ⟨qR_40 ho hO.2.1, rB_looks hR, rB_letters hR, fun h1 => nx (fun z2 => z2.1 h1), fun h1 => ?_⟩
    refine c_X9_wasWritten (d := d + 1) hR g hs _ day t wait (fun h2 => ⟨fun _ => nx (fun z2 => z2.2 h2), fun z2 => absurd z2 (by decide)⟩) (fun h2 => ⟨fun z2 => absurd rfl z2, fun _ => ?_⟩)
    rw [if_neg c, qFs_pos (by omega) (show qNo g0 day t wait w i from ⟨h1, h2⟩) hI, if_pos (by omega)] at hq
    exact hq
theorem c_X7_lacks {X : qz_X} {d : Nat} {Q : qz_Q} {g0 : qz_G} {D : qDt} (hR : Rel g0) (hD : LwD g0 D) (g : qz_G) (hs : Same g0 g) (w land day t r : Int32) (hw : qR w (g0.1 12 2)) (hday : qI day 0 99999) (er : r = qFl (qLck g0 D land day t) (g0.1 94) 8 w)
    (h1 : ∀ g', Same g0 g' → ¬ r = -1 → g'.1 8 5 = r → g'.1 8 6 = qSv g0 D land day t r → g'.1 8 7 = qOv g0 D land day t r → Q g' 1 0) (h0 : ∀ g', Same g0 g' → r = -1 → Q g' 0 0) : qz_Call X (d + 8) 100 [.ref 8, .int w, .int land, .int day, .int t] g Q := by
  refine v_X7_lacks (d := d + 5) g w land day t ?_
  refine qz_for (W := fun a v => qz_WP X (d + 8) 100 Q 8 [(0, .ref 8), (2, .int land), (3, .int day), (4, .int t), (5, .int v)] [] a) (n := 8) (fun i a => Same g0 a ∧ (a.1 8 5 = -1 ∨ qR (a.1 8 5) (g0.1 12 2)) ∧ r = qFl (qLck g0 D land day t) (g0.1 94) (8 - i) (a.1 8 5)) (by decide) (by decide) (fun i a v hI ev cv hle cont => ?_) _ ⟨hs.ui 8 5 w (by decide) (by decide), ?_, ?_⟩
  rotate_left
  · rw [qz_i1, if_pos rfl, qz_u1, if_pos rfl]
    exact Or.inr hw
  · rw [qz_i1, if_pos rfl, qz_u1, if_pos rfl]
    exact er
  obtain ⟨hsa, hx, hr⟩ := hI
  rw [qz_n8] at hle cont
  refine v_X7_lacks_8 (d := d + 5) a land day t v ?_
  rw [rS_3_12 hR hsa]
  refine ⟨fun z => ?_, fun z => ⟨fun hxr => ?_, fun hxr => ?_⟩⟩
  · rw [qz_le, ev, qz_n8] at z
    refine h0 a hsa ?_
    rw [hr, show 8 - i = 0 from by omega]
    rfl
  · rw [qz_le, ev, qz_n8] at z
    have hx1 : ¬ a.1 8 5 = -1 := fun z2 => by
      rw [z2] at hxr
      exact hxr.1 (by decide)
    rw [show 8 - i = (7 - i) + 1 from by omega] at hr
    refine c_X2_weighF (d := d + 1) hR hD a hsa hxr (fun g3 s3 f3 h58 => ?_)
    have e8 : g3.1 8 = a.1 8 := f3.1 8 (by decide)
    rw [e8]
    refine c_X7_missingSources (d := d + 5) hR hD g3 s3 _ land day t hday h58 (fun m hm => ?_)
    refine c_X7_firstBit (d := d + 6) g3 m _ hm ?_
    show qz_Call X (d + 7) 104 [.ref 8, .int (g3.1 8 5), .int day, .int t] (qz_ui g3 8 6 (qSv g0 D land day t (a.1 8 5))) _
    rw [e8]
    have s7 : Same g0 (qz_ui g3 8 6 (qSv g0 D land day t (a.1 8 5))) := s3.ui 8 6 _ (by decide) (by decide)
    refine c_X7_missingOwner (d := d + 4) hR _ s7 (a.1 8 5) land day t hxr (fun k hk => by rw [qz_i1, if_neg (by decide)]; exact h58 k hk) ?_
    have e86 : (qz_ui g3 8 6 (qSv g0 D land day t (a.1 8 5))).1 8 6 = qSv g0 D land day t (a.1 8 5) := by rw [qz_i1, if_pos rfl, qz_u1, if_pos rfl]
    have e85 : (qz_ui g3 8 6 (qSv g0 D land day t (a.1 8 5))).1 8 5 = a.1 8 5 := by rw [qz_i1, if_pos rfl, qz_u1, if_neg (by decide), e8]
    have fin : qLck g0 D land day t (a.1 8 5) → Q (qz_ui (qz_ui g3 8 6 (qSv g0 D land day t (a.1 8 5))) 8 7 (qOv g0 D land day t (a.1 8 5))) 1 0 := by
      intro hl
      rw [qFl_p hx1 hl] at hr
      refine h1 _ (s7.ui 8 7 _ (by decide) (by decide)) (by rw [hr]; exact hx1) ?_ ?_ ?_
      · rw [qz_i1, if_pos rfl, qz_u1, if_neg (by decide), e85, hr]
      · rw [qz_i1, if_pos rfl, qz_u1, if_neg (by decide), e86, hr]
      · rw [qz_i1, if_pos rfl, qz_u1, if_pos rfl, hr]
    rw [e86, e85, rS_3_12 hR s7, rE_27 hR s7]
    refine ⟨fun c => fin (Or.inl ?_), fun c => ⟨fun c2 => ⟨hxr, rB_works hR, ?_⟩, fun c2 => fin (Or.inr ?_)⟩⟩
    · exact Classical.byContradiction (fun z2 => c (qSv_m.mpr z2))
    · have hnl : ¬ qLck g0 D land day t (a.1 8 5) := fun z2 => z2.elim (qSv_m.mp c) ((qOv_m hR hxr).mp c2)
      rw [qFl_n hx1 hnl] at hr
      have hW := RelW_at hR hxr
      refine cont _ (by omega) ⟨(s7.ui 8 7 _ (by decide) (by decide)).ui 8 5 _ (by decide) (by decide), ?_, ?_⟩
      · rw [qz_i1, if_pos rfl, qz_u1, if_pos rfl]
        exact hW.2.2.2.2.2.1.imp id (fun z2 => z2.1)
      · rw [qz_i1, if_pos rfl, qz_u1, if_pos rfl, hr, show 8 - (i + 1) = 7 - i from by omega]
    · exact Classical.byContradiction (fun z2 => c2 ((qOv_m hR hxr).mpr z2))
  · have hx1 := hx.resolve_right hxr
    refine h0 a hsa ?_
    rw [hr, hx1, qFl_m]
theorem c_X12_lacksOfB {X : qz_X} {d : Nat} {Q : qz_Q} {g0 gb : qz_G} {D : qDt} (hR : Rel g0) (hD : LwD g0 D) (g : qz_G) (hs : SamB g0 gb g) (w land day t : Int32) (hw : qR w (g0.1 12 2)) (hday : qI day 0 99999)
    (h1 : ∀ g', SamB g0 gb g' → qLck g0 D land day t w → g'.1 12 68 = w → g'.1 12 69 = (if qSrc g0 D land day t w < 12 then 0 else 1) → g'.1 12 70 = (if qSrc g0 D land day t w < 12 then nI (qSrc g0 D land day t w) else qOv g0 D land day t w) → Q g' 1 0) (h0 : ∀ g', SamB g0 gb g' → ¬ qLck g0 D land day t w → Q g' 0 0) : qz_Call X (d + 6) 263 [.ref 12, .int w, .int land, .int day, .int t] g Q := by
  have hO := HO_of hR
  have hm := qI_0 (hO.2.2.2 w hw).1 qz_n4
  have hcl := qz_cl (g0.1 96 w.toNatClampNeg)
  refine v_X12_lacksOf (d := d + 3) g w land day t (c_X12_bitsByB (d := d + 1) hR hD g hs hw 7 (by omega) 115 rfl (fun g1 s1 => v_X12_lacksOf_13 (d := d + 3) g1 w land day t _ (c_X12_orNothingB (d := d) hR hD g1 s1 hw 0 (by omega) 97 rfl (fun g3 s3 => v_X12_lacksOf_26 (d := d + 3) g3 w land day t _ _ (c_X12_orNothingB (d := d) hR hD g3 s3 hw 1 (by omega) 108 rfl (fun g5 s5 => v_X12_lacksOf_39 (d := d + 3) g5 w day t _ _ _ ?_))))))
  rw [← qRs_o (k := 0) (by omega) (by decide), ← qRs_o (k := 1) (by omega) (by decide)]
  have hr0 := qRs_rng (w := w) (land := land) (day := day) (t := t) (k := 0) hD (by omega) (by decide)
  have hr1 := qRs_rng (w := w) (land := land) (day := day) (t := t) (k := 1) hD (by omega) (by decide)
  have s6 : SamB g0 gb (qz_ui (qz_ui g5 12 68 w) 12 69 0) := (s5.ui 12 68 w (by decide) (by decide)).ui 12 69 0 (by decide) (by decide)
  have e68 : (qz_ui (qz_ui g5 12 68 w) 12 69 0).1 12 68 = w := by rw [qz_i1, if_pos rfl, qz_u1, if_neg (by decide), qz_i1, if_pos rfl, qz_u1, if_pos rfl]
  have e69 : (qz_ui (qz_ui g5 12 68 w) 12 69 0).1 12 69 = 0 := by rw [qz_i1, if_pos rfl, qz_u1, if_pos rfl]
  generalize qz_ui (qz_ui g5 12 68 w) 12 69 0 = g6 at s6 e68 e69 ⊢
  refine qz_for (α := Unit) (W := fun _ v => qz_WP X (d + 6) 263 Q 52 [(0, .ref 12), (1, .int w), (3, .int day), (4, .int t), (5, .int (qBb g0 D w land day t 7)), (6, .int (qRs g0 D w land day t 0)), (7, .int (qRs g0 D w land day t 1)), (8, .int v)] [] g6) (n := 12) (fun i _ => ∀ j, j < i → ¬ (bt (qBb g0 D w land day t 7) j = true ∧ ¬ qLoG g0 w (nI j) day t (qRs g0 D w land day t 0))) (by decide) (by decide) (fun i _ v hI ev cv hle cont => ?_) () (fun j hj => by omega)
  rw [qz_n12] at hle cont
  have evn : v = nI i := by
    rw [qz_eq, ev, qz_nI (by omega)]
  subst evn
  have nx : i < 12 → ¬ (bt (qBb g0 D w land day t 7) i = true ∧ ¬ qLoG g0 w (nI i) day t (qRs g0 D w land day t 0)) → qz_WP X (d + 6) 263 Q 95 [(0, .ref 12), (1, .int w), (3, .int day), (4, .int t), (5, .int (qBb g0 D w land day t 7)), (6, .int (qRs g0 D w land day t 0)), (7, .int (qRs g0 D w land day t 1)), (8, .int (nI i))] [] g6 := by
    intro hi h2
    refine v_X12_lacksOf_95 (d := d + 3) g6 w day t _ _ _ _ (cont () (by omega) (fun j hj => ?_))
    by_cases cj : j = i
    · rw [cj]; exact h2
    · exact hI j (by omega)
  refine v_X12_lacksOf_52 (d := d + 3) g6 w day t _ _ _ _ ⟨fun z => ?_, fun z => ?_⟩
  · rw [qz_le, ev, qz_n12] at z
    have hns : qSrc g0 D land day t w = 12 := qFs_neg (fun j hj => hI j (by omega))
    have s8 : SamB g0 gb (qz_ui g6 12 69 1) := s6.ui 12 69 1 (by decide) (by decide)
    have e68' : (qz_ui g6 12 69 1).1 12 68 = w := by rw [qz_i1, if_pos rfl, qz_u1, if_neg (by decide)]; exact e68
    have e69' : (qz_ui g6 12 69 1).1 12 69 = 1 := by rw [qz_i1, if_pos rfl, qz_u1, if_pos rfl]
    generalize qz_ui g6 12 69 1 = g8 at s8 e68' e69' ⊢
    have hown : ∀ i, qRs g0 D w land day t 1 = 0 ∨ i = (g0.1 96 w.toNatClampNeg).toNatClampNeg → (∀ j, j < i → ¬ qNo g0 day t (qRs g0 D w land day t 1) w j) → Q g8 0 0 := by
      intro i hc hno
      refine h0 g8 s8 (fun hl => ?_)
      rcases hl with hl | hl
      · omega
      · unfold qOwn at hl
        by_cases c : qRs g0 D w land day t 1 = 0
        · rw [if_pos c] at hl
          omega
        · rw [if_neg c, qFs_neg (fun j hj => hno j (by have := hc.resolve_left c; omega))] at hl
          omega
    refine qz_for (α := Unit) (W := fun _ v => qz_WP X (d + 6) 263 Q 109 [(0, .ref 12), (1, .int w), (3, .int day), (4, .int t), (7, .int (qRs g0 D w land day t 1)), (8, .int v)] [] g8) (n := g0.1 96 w.toNatClampNeg) (fun i _ => ∀ j, j < i → ¬ qNo g0 day t (qRs g0 D w land day t 1) w j) hm.1 (by omega) (fun i _ v hI2 ev2 cv2 hle2 cont2 => ?_) () (fun j hj => by omega)
    refine v_X12_lacksOf_109 (d := d + 3) g8 w day t _ v ?_
    rw [s8.1.1 96 (by decide), s8.1.1 97 (by decide)]
    refine ⟨qz_in80 hw hO.1, fun z2 => ?_, fun z2 => ⟨fun c => hown i (Or.inl c) hI2, fun c => ?_⟩⟩
    · rw [qz_le, ev2] at z2
      exact hown i (Or.inr (by omega)) hI2
    · have hr : qR v (g0.1 96 w.toNatClampNeg) := ⟨by rw [qz_lt, ev2, qz_n0]; omega, z2⟩
      rw [qz_le, ev2] at z2
      have e4 := qz_ix4R hw hO.1 hr (hO.2.2.2 w hw).1
      have ho := HO_who hO hw hr
      rw [cv2] at e4 ho
      rw [← e4.2.2, e4.1]
      refine ⟨e4.2.1, ?_⟩
      have nx2 : ¬ qNo g0 day t (qRs g0 D w land day t 1) w i → qz_WP X (d + 6) 263 Q 175 [(0, .ref 12), (1, .int w), (3, .int day), (4, .int t), (7, .int (qRs g0 D w land day t 1)), (8, .int v)] [] g8 := by
        intro h2
        refine v_X12_lacksOf_175 (d := d + 3) g8 w day t _ v (cont2 () (by omega) (fun j hj => ?_))
        by_cases cj : j = i
        · rw [cj]; exact h2
        · exact hI2 j (by omega)
      refine v_X12_lacksOf_138 (d := d + 3) g8 w day t _ v _ ?_
      rw [rN_12_55 s8, rN_12_56 s8, s8.1.1 84 (by decide), s8.1.1 125 (by decide), s8.1.1 124 (by decide), s8.1.1 126 (by decide), s8.1.1 127 (by decide), s8.1.1 130 (by decide)]
      refine ⟨qR_40 ho hO.2.1, rB_looks hR, rB_letters hR, fun hf => nx2 (fun z3 => z3.1 hf), fun hf => ?_⟩
      refine c_X12_isWrittenB (d := d + 3) hR g8 s8 _ day t _ hday hr1.1 hr1.2 hf (fun h2 => ⟨fun z3 => absurd z3 (by decide), fun _ => nx2 (fun z3 => z3.2 h2)⟩) (fun h2 => ⟨fun _ => ?_, fun z3 => absurd rfl z3⟩)
      have hqo : qOwn g0 D land day t w = i := by
        unfold qOwn
        rw [if_neg c, qFs_pos (by omega) (show qNo g0 day t (qRs g0 D w land day t 1) w i from ⟨hf, h2⟩) hI2]
      have hlt : qOwn g0 D land day t w < (g0.1 96 w.toNatClampNeg).toNatClampNeg := by omega
      refine h1 _ (s8.ui 12 70 _ (by decide) (by decide)) (Or.inr hlt) ?_ ?_ ?_
      · rw [qz_i1, if_pos rfl, qz_u1, if_neg (by decide)]; exact e68'
      · rw [qz_i1, if_pos rfl, qz_u1, if_neg (by decide), if_neg (by omega)]; exact e69'
      · rw [qz_i1, if_pos rfl, qz_u1, if_pos rfl, if_neg (by omega)]
        unfold qOv
        rw [if_pos hlt, hqo]
  · rw [qz_le, ev, qz_n12] at z
    rw [b_bit _ (by omega)]
    refine ⟨fun c => nx (by omega) (fun z2 => ?_), fun c => ?_⟩
    · rw [c] at z2
      exact absurd z2.1 (by decide)
    · have c' : bt (qBb g0 D w land day t 7) i = true := by simpa using c
      refine c_X12_isLookedB (d := d + 4) hR g6 s6 w (nI i) day t _ hday hr0.1 (fun h2 => ⟨fun z2 => absurd z2 (by decide), fun _ => nx (by omega) (fun z2 => z2.2 h2)⟩) (fun h2 => ⟨fun _ => ?_, fun z2 => absurd rfl z2⟩)
      have hsr : qSrc g0 D land day t w = i := qFs_pos (by omega) ⟨c', h2⟩ hI
      have hlt : qSrc g0 D land day t w < 12 := by omega
      refine h1 _ (s6.ui 12 70 _ (by decide) (by decide)) (Or.inl hlt) ?_ ?_ ?_
      · rw [qz_i1, if_pos rfl, qz_u1, if_neg (by decide)]; exact e68
      · rw [qz_i1, if_pos rfl, qz_u1, if_neg (by decide), if_pos hlt]; exact e69
      · rw [qz_i1, if_pos rfl, qz_u1, if_pos rfl, if_pos hlt, hsr]
theorem c_X12_isEnoughB {X : qz_X} {d : Nat} {Q : qz_Q} {g0 gb : qz_G} {D : qDt} (hR : Rel g0) (hD : LwD g0 D) (g : qz_G) (hs : SamB g0 gb g) (w land day t r : Int32) (hw : qR w (g0.1 12 2)) (hday : qI day 0 99999) (er : r = qFl (qLck g0 D land day t) (g0.1 94) 8 w)
    (h0 : ∀ g', SamB g0 gb g' → ¬ r = -1 → g'.1 12 68 = r → g'.1 12 69 = (if qSrc g0 D land day t r < 12 then 0 else 1) → g'.1 12 70 = (if qSrc g0 D land day t r < 12 then nI (qSrc g0 D land day t r) else qOv g0 D land day t r) → Q g' 0 0) (h1 : ∀ g', SamB g0 gb g' → r = -1 → Q g' 1 0) : qz_Call X (d + 7) 264 [.ref 12, .int w, .int land, .int day, .int t] g Q := by
  refine v_X12_isEnough (d := d + 6) g w land day t ?_
  have key : ∀ (n : Nat) (x : Int32) (a : qz_G), SamB g0 gb a → (x = -1 ∨ (qR x (g0.1 12 2) ∧ (g0.1 95 x.toNatClampNeg).toInt ≤ n)) → r = qFl (qLck g0 D land day t) (g0.1 94) n x → qz_WP X (d + 7) 264 Q 3 [(0, .ref 12), (2, .int land), (3, .int day), (4, .int t), (5, .int x)] [] a := by
    intro n
    induction n with
    | zero =>
      intro x a hsa hx hr
      rcases hx with hx | hx
      · exact v_X12_isEnough_3 (d := d + 6) a land day t x ⟨fun _ => h1 a hsa hr, fun z => absurd hx z⟩
      · have hW := (RelW_at hR hx.1).2.2.2.2.2.2.1
        simp only [qI, qz_lt, qz_n1, qz_n8] at hW
        omega
    | succ n ih =>
      intro x a hsa hx hr
      refine v_X12_isEnough_3 (d := d + 6) a land day t x ⟨fun z => h1 a hsa ?_, fun z => ?_⟩
      · rw [hr, z, qFl_m]
      · have hx2 := hx.resolve_left z
        refine c_X12_lacksOfB (d := d) hR hD a hsa x land day t hx2.1 hday (fun g' s' hl k1 k2 k3 => ⟨fun z2 => absurd z2 (by decide), fun _ => ?_⟩) (fun g' s' hl => ⟨fun _ => ⟨qz_in80 hx2.1 (rB_works hR), ?_⟩, fun z2 => absurd rfl z2⟩)
        · rw [qFl_p z hl] at hr
          refine h0 g' s' (by rw [hr]; exact z) ?_ ?_ ?_
          · rw [hr]; exact k1
          · rw [hr]; exact k2
          · rw [hr]; exact k3
        · rw [qFl_n z hl] at hr
          rw [s'.1.1 94 (by decide)]
          have hW := RelW_at hR hx2.1
          refine ih _ g' s' ?_ hr
          rcases hW.2.2.2.2.2.1 with e | e
          · exact Or.inl e
          · have hne : ¬ g0.1 94 x.toNatClampNeg = -1 := fun z2 => by
              rw [z2] at e
              exact e.1.1 (by decide)
            have hdp := hW.2.2.2.2.2.2.2.2.1 hne
            exact Or.inr ⟨e.1, by have := hx2.2; omega⟩
  have hW := (RelW_at hR hw).2.2.2.2.2.2.1
  simp only [qI, qz_lt, qz_n1, qz_n8] at hW
  exact key 8 w g hs (Or.inr ⟨hw, by omega⟩) er
theorem c_X12_isEnough {X : qz_X} {d : Nat} {Q : qz_Q} {g0 : qz_G} {D : qDt} (hR : Rel g0) (hD : LwD g0 D) (g : qz_G) (hs : Same g0 g) (w land day t r : Int32) (hw : qR w (g0.1 12 2)) (hday : qI day 0 99999) (er : r = qFl (qLck g0 D land day t) (g0.1 94) 8 w)
    (h0 : ∀ g', Same g0 g' → ¬ r = -1 → g'.1 12 68 = r → g'.1 12 69 = (if qSrc g0 D land day t r < 12 then 0 else 1) → g'.1 12 70 = (if qSrc g0 D land day t r < 12 then nI (qSrc g0 D land day t r) else qOv g0 D land day t r) → Q g' 0 0) (h1 : ∀ g', Same g0 g' → r = -1 → Q g' 1 0) : qz_Call X (d + 7) 264 [.ref 12, .int w, .int land, .int day, .int t] g Q := c_X12_isEnoughB hR hD g (SamB.of hs) w land day t r hw hday er (fun g' s' => h0 g' s'.2) (fun g' s' => h1 g' s'.2)
theorem P_enough {X : qz_X} {d : Nat} {g : qz_G} (v1 v2 v3 v4 : Int32) (hR : Rel g) : qz_Pair X (d + 9) 169 265 [.int v1, .int v2, .int v3, .int v4] g := by
  obtain ⟨D, hD⟩ := LwD_of hR
  have e3 : g.1 3 12 = g.1 12 2 := rS_3_12 hR (Same.rf g)
  refine v_X11_enough (d := d + 5) g v1 v2 v3 v4 ?_
  rw [e3]
  refine ⟨fun hc => ?_, fun hc => ?_⟩
  · refine c_X7_lacks (d := d) hR hD g (Same.rf g) v1 v2 v3 v4 _ hc.1 hc.2.2.1 rfl (fun g2 s2 hr k1 k2 k3 => ⟨fun _ => ?_, fun z => absurd z (by decide)⟩) (fun g2 s2 hr => ⟨fun z => absurd rfl z, fun _ => ?_⟩)
    · exact v_X12_enough (d := d + 6) g2 v1 v2 v3 v4 ⟨fun _ => c_X12_isEnough (d := d + 1) hR hD g2 s2 v1 v2 v3 v4 _ hc.1 hc.2.2.1 rfl (fun g' s' _ _ _ _ => ⟨fun _ => ⟨rfl, rfl, Rel_same hR s'⟩, fun z => absurd rfl z⟩) (fun g' s' z => absurd z hr), fun z => absurd (by rw [rM_12_2 s2]; exact hc) z⟩
    · exact v_X12_enough (d := d + 6) g2 v1 v2 v3 v4 ⟨fun _ => c_X12_isEnough (d := d + 1) hR hD g2 s2 v1 v2 v3 v4 _ hc.1 hc.2.2.1 rfl (fun g' s' z _ _ _ => absurd hr z) (fun g' s' _ => ⟨fun z => absurd z (by decide), fun _ => ⟨rfl, rfl, Rel_same hR s'⟩⟩), fun z => absurd (by rw [rM_12_2 s2]; exact hc) z⟩
  · exact v_X12_enough (d := d + 6) g v1 v2 v3 v4 ⟨fun z => absurd z hc, fun _ => ⟨rfl, rfl, hR⟩⟩
theorem P_why {X : qz_X} {d : Nat} {g : qz_G} (v1 v2 v3 v4 v5 : Int32) (hR : Rel g) : qz_Pair X (d + 9) 170 266 [.int v1, .int v2, .int v3, .int v4, .int v5] g := by
  obtain ⟨D, hD⟩ := LwD_of hR
  have e3 : g.1 3 12 = g.1 12 2 := rS_3_12 hR (Same.rf g)
  have hqi : qI v5 0 2 ↔ ¬ (v5.toInt < 0 ∨ 2 < v5.toInt) := by
    simp only [qI, qz_lt, qz_n0, qz_n2]
    omega
  refine v_X11_why (d := d + 5) g v1 v2 v3 v4 v5 ?_
  rw [e3]
  refine ⟨fun hc => ?_, fun hc => ?_⟩
  · refine c_X7_lacks (d := d) hR hD g (Same.rf g) v1 v2 v3 v4 _ hc.1 hc.2.2.1 rfl (fun g2 s2 hr k1 k2 k3 => ⟨fun z => absurd z (by decide), fun _ => ?_⟩) (fun g2 s2 hr => ⟨fun _ => ?_, fun z => absurd rfl z⟩)
    · generalize hrr : qFl (qLck g D v2 v3 v4) (g.1 94) 8 v1 = r at hr k1 k2 k3
      have out : (v5.toInt < 0 ∨ 2 < v5.toInt) → qz_Call X (d + 9) 266 [.ref 12, .int v1, .int v2, .int v3, .int v4, .int v5] g2 (fun g' w' l' => (-1 : Int32) = w' ∧ (0 : Int64) = l' ∧ Rel g') := fun z => v_X12_why (d := d + 6) g2 v1 v2 v3 v4 v5 ⟨fun _ => ⟨fun z2 => absurd z (hqi.mp z2), fun _ => ⟨rfl, rfl, Rel_same hR s2⟩⟩, fun z2 => absurd (by rw [rM_12_2 s2]; exact hc) z2⟩
      have inn : ∀ x : Int32, ¬ (v5.toInt < 0 ∨ 2 < v5.toInt) → (∀ g' : qz_G, g'.1 12 68 = r → g'.1 12 69 = (if qSrc g D v2 v3 v4 r < 12 then 0 else 1) → g'.1 12 70 = (if qSrc g D v2 v3 v4 r < 12 then nI (qSrc g D v2 v3 v4 r) else qOv g D v2 v3 v4 r) → (v5 = 0 → x = g'.1 12 68) ∧ (v5 = 1 → x = g'.1 12 69) ∧ (v5 = 2 → x = g'.1 12 70)) → qz_Call X (d + 9) 266 [.ref 12, .int v1, .int v2, .int v3, .int v4, .int v5] g2 (fun g' w' l' => x = w' ∧ (0 : Int64) = l' ∧ Rel g') := by
        intro x hz hx
        refine v_X12_why (d := d + 6) g2 v1 v2 v3 v4 v5 ⟨fun _ => ⟨fun _ => c_X12_isEnough (d := d + 1) hR hD g2 s2 v1 v2 v3 v4 r hc.1 hc.2.2.1 hrr.symm (fun g' s' _ m1 m2 m3 => ⟨fun _ => ⟨fun a0 => ⟨fun a1 => ⟨(hx g' m1 m2 m3).2.2 ?_, rfl, Rel_same hR s'⟩, fun a1 => ⟨(hx g' m1 m2 m3).2.1 a1, rfl, Rel_same hR s'⟩⟩, fun a0 => ⟨(hx g' m1 m2 m3).1 a0, rfl, Rel_same hR s'⟩⟩, fun z => absurd rfl z⟩) (fun g' s' z => absurd z hr), fun z2 => absurd (hqi.mpr hz) z2⟩, fun z2 => absurd (by rw [rM_12_2 s2]; exact hc) z2⟩
        rw [qz_eq, qz_n0] at a0
        rw [qz_eq, qz_n1] at a1
        rw [qz_eq, qz_n2]
        omega
      refine ⟨fun c => ⟨out, fun hz => ⟨fun a => ?_, fun a => ?_, fun a => ?_, trivial⟩⟩, fun c => ⟨out, fun hz => ⟨fun a => ?_, fun a => ?_, fun a => ?_, trivial⟩⟩⟩
      · exact inn _ hz (fun g' m1 m2 m3 => ⟨fun _ => by rw [k1, m1], fun z => by rw [a] at z; exact absurd z (by decide), fun z => by rw [a] at z; exact absurd z (by decide)⟩)
      · rw [k2] at c
        have hns := qSv_m.mp c
        exact inn _ hz (fun g' m1 m2 m3 => ⟨fun z => by rw [a] at z; exact absurd z (by decide), fun _ => by rw [m2, if_neg hns], fun z => by rw [a] at z; exact absurd z (by decide)⟩)
      · rw [k2] at c
        have hns := qSv_m.mp c
        exact inn _ hz (fun g' m1 m2 m3 => ⟨fun z => by rw [a] at z; exact absurd z (by decide), fun z => by rw [a] at z; exact absurd z (by decide), fun _ => by rw [k3, m3, if_neg hns]⟩)
      · exact inn _ hz (fun g' m1 m2 m3 => ⟨fun _ => by rw [k1, m1], fun z => by rw [a] at z; exact absurd z (by decide), fun z => by rw [a] at z; exact absurd z (by decide)⟩)
      · rw [k2] at c
        have hns : qSrc g D v2 v3 v4 r < 12 := Classical.byContradiction (fun z => c (qSv_m.mpr z))
        exact inn _ hz (fun g' m1 m2 m3 => ⟨fun z => by rw [a] at z; exact absurd z (by decide), fun _ => by rw [m2, if_pos hns], fun z => by rw [a] at z; exact absurd z (by decide)⟩)
      · rw [k2] at c
        have hns : qSrc g D v2 v3 v4 r < 12 := Classical.byContradiction (fun z => c (qSv_m.mpr z))
        exact inn _ hz (fun g' m1 m2 m3 => ⟨fun z => by rw [a] at z; exact absurd z (by decide), fun z => by rw [a] at z; exact absurd z (by decide), fun _ => by
          rw [k2, m3, if_pos hns]
          unfold qSv
          rw [if_pos hns]⟩)
    · refine v_X12_why (d := d + 6) g2 v1 v2 v3 v4 v5 ⟨fun _ => ⟨fun _ => c_X12_isEnough (d := d + 1) hR hD g2 s2 v1 v2 v3 v4 _ hc.1 hc.2.2.1 rfl (fun g' s' z _ _ _ => absurd hr z) (fun g' s' _ => ⟨fun z => absurd z (by decide), fun _ => ⟨rfl, rfl, Rel_same hR s'⟩⟩), fun _ => ⟨rfl, rfl, Rel_same hR s2⟩⟩, fun z => absurd (by rw [rM_12_2 s2]; exact hc) z⟩
  · exact v_X12_why (d := d + 6) g v1 v2 v3 v4 v5 ⟨fun z => absurd z hc, fun _ => ⟨rfl, rfl, hR⟩⟩
