/-! orders of sources: lists, what is expected of them -/
def qE (c h : Nat → Nat) : List Nat → Nat → Nat
  | [], _ => 0
  | s :: r, L => c s * L + qE c h r (L * (100 - h s) / 100)
theorem qz_left {L h : Nat} (hL : L ≤ 1000000) (hh : h ≤ 100) : (lN L * ((100 - nI h).toInt64)) / 100 = lN (L * (100 - h) / 100) ∧ L * (100 - h) / 100 ≤ 1000000 := by
  have e1 : (100 : Int32) - nI h = nI (100 - h) := by
    have e := qz_nI (n := h) (by omega)
    have e2 := qz_nI (n := 100 - h) (by omega)
    rw [qz_eq, qz_sb (by rw [qz_n100, e]; omega) (by rw [qz_n100, e]; omega), qz_n100, e, e2]
    omega
  have hm : L * (100 - h) ≤ 1000000 * 100 := Nat.mul_le_mul hL (by omega)
  refine ⟨?_, by omega⟩
  rw [e1, nI_l (by omega), lN_mul]
  exact pk_lDiv (by omega) (by decide) (by decide)
theorem qz_accum {A c L : Nat} (hc : c ≤ 10000) : lN A + ((nI c).toInt64 * lN L) = lN (A + c * L) := by
  rw [nI_l (by omega), lN_mul, lN_add]
theorem qAt_i {l : List Nat} {i : Nat} (h : i < l.length) : qAt l i = l[i] := by
  unfold qAt
  rw [List.getElem?_eq_getElem h]
  rfl
theorem qAt_drop {l : List Nat} {i : Nat} (h : i < l.length) : l.drop i = qAt l i :: l.drop (i + 1) := by
  rw [qAt_i h]
  exact List.drop_eq_getElem_cons h
theorem qAt_take {l : List Nat} {i : Nat} (h : i < l.length) : l.take (i + 1) = l.take i ++ [qAt l i] := by
  rw [qAt_i h]
  exact (List.take_append_getElem h).symm
/-- the sources as bits -/
def qWb (l : List Nat) : Int32 := l.foldl (fun a s => a ||| (1 <<< (nI s &&& 31))) 0
theorem qWb_app (l : List Nat) (s : Nat) : qWb (l ++ [s]) = qWb l ||| (1 <<< (nI s &&& 31)) := by
  unfold qWb
  rw [List.foldl_append]
  rfl
noncomputable def qGt (P : Nat → Prop) : Nat → List Nat
  | 0 => []
  | n + 1 => qIf (P n ∧ (qGt P n).length < 8) (qGt P n ++ [n]) (qGt P n)
theorem qGt_p {P : Nat → Prop} {n : Nat} (h : P n) (h8 : (qGt P n).length < 8) : qGt P (n + 1) = qGt P n ++ [n] := qIf_pos ⟨h, h8⟩
theorem qGt_n {P : Nat → Prop} {n : Nat} (h : ¬ P n) : qGt P (n + 1) = qGt P n := qIf_neg (fun z => h z.1)
theorem qGt_8 {P : Nat → Prop} {n : Nat} (h : ¬ (qGt P n).length < 8) : ∀ (m : Nat), qGt P (n + m) = qGt P n
  | 0 => rfl
  | m + 1 => by
    have ih := qGt_8 h m
    have e : qGt P (n + m + 1) = qGt P (n + m) := qIf_neg (fun z => h (by rw [← ih]; exact z.2))
    exact e.trans ih
theorem qGt_len (P : Nat → Prop) : ∀ n, (qGt P n).length ≤ 8
  | 0 => by show ([] : List Nat).length ≤ 8; decide
  | n + 1 => by
    have ih := qGt_len P n
    by_cases c : P n ∧ (qGt P n).length < 8
    · rw [qGt_p c.1 c.2, List.length_append, List.length_singleton]
      omega
    · have e : qGt P (n + 1) = qGt P n := qIf_neg c
      rw [e]
      exact ih
theorem qGt_lt (P : Nat → Prop) : ∀ n, ∀ s ∈ qGt P n, s < n
  | 0, s, h => by cases h
  | n + 1, s, h => by
    by_cases c : P n ∧ (qGt P n).length < 8
    · rw [qGt_p c.1 c.2] at h
      rcases List.mem_append.mp h with h | h
      · have := qGt_lt P n s h
        omega
      · rw [List.mem_singleton.mp h]
        omega
    · have e : qGt P (n + 1) = qGt P n := qIf_neg c
      rw [e] at h
      have := qGt_lt P n s h
      omega
theorem qGt_asc (P : Nat → Prop) : ∀ n, (qGt P n).Pairwise (fun a b => a < b)
  | 0 => List.Pairwise.nil
  | n + 1 => by
    by_cases c : P n ∧ (qGt P n).length < 8
    · rw [qGt_p c.1 c.2]
      refine List.pairwise_append.mpr ⟨qGt_asc P n, List.pairwise_singleton _ _, fun a ha b hb => ?_⟩
      rw [List.mem_singleton.mp hb]
      exact qGt_lt P n a ha
    · have e : qGt P (n + 1) = qGt P n := qIf_neg c
      rw [e]
      exact qGt_asc P n
theorem qAt_memi {l : List Nat} {i : Nat} (h : i < l.length) : qAt l i ∈ l := by
  rw [qAt_i h]
  exact List.getElem_mem h
/-- costs and chances of a kind -/
def qCo (fc fh : Nat → Int32) (kd : Nat) (c h : Nat → Nat) : Prop := ∀ s, s < 12 → fc s = nI (c s) ∧ c s ≤ 10000 ∧ fh (8 * s + kd) = nI (h s) ∧ h s ≤ 100
theorem qCo_of {g : qz_G} (hR : Rel g) (kd : Nat) : qCo (g.1 120) (g.1 121) kd (fun s => (g.1 120 s).toNatClampNeg) (fun s => (g.1 121 (8 * s + kd)).toNatClampNeg) := by
  have hC := hR.2.2.2.2.2.2.2.2.2.2.2.1
  intro s _
  have h1 := hC.1 s
  have h2 := hC.2 (8 * s + kd)
  have e1 := qz_self h1.1
  have e2 := qz_self h2.1
  have c1 := qz_cl (g.1 120 s)
  have c2 := qz_cl (g.1 121 (8 * s + kd))
  simp only [qI, qz_lt, qz_n0, qz_n100, qz_n10000] at h1 h2
  exact ⟨e1.symm, by show (g.1 120 s).toNatClampNeg ≤ 10000; omega, e2.symm, by show (g.1 121 (8 * s + kd)).toNatClampNeg ≤ 100; omega⟩
theorem c_X4_expectedOfRow {X : qz_X} {d : Nat} {Q : qz_Q} (g : qz_G) (l : List Nat) (kd : Nat) (c h : Nat → Nat) (hl : l.length ≤ 8) (h8 : g.1 9 9 = nI l.length) (hrow : ∀ i, i < l.length → g.1 65 i = nI (qAt l i)) (h12 : ∀ s ∈ l, s < 12) (hk : g.1 9 11 = nI kd) (hk8 : kd < 8) (hco : qCo (g.1 61) (g.1 62) kd c h) (hq : Q g 0 (lN (qE c h l 1000000))) : qz_Call X (d + 3) 44 [.ref 9] g Q := by
  have el := qz_nI (n := l.length) (by omega)
  refine v_X4_expectedOfRow g ?_
  refine qz_for (α := Int64 × Int64) (W := fun a v => qz_WP X (d + 3) 44 Q 9 [(0, .ref 9), (1, .long a.1), (3, .long a.2), (5, .int v)] [] g) (n := nI l.length) (fun i a => ∃ A L : Nat, a.1 = lN A ∧ a.2 = lN L ∧ L ≤ 1000000 ∧ qE c h l 1000000 = A + qE c h (l.drop i) L) (by omega) (by omega) (fun i a v hI ev cv hle cont => ?_) (0, 1000000) ⟨0, 1000000, rfl, rfl, by omega, by rw [List.drop_zero, Nat.zero_add]⟩
  obtain ⟨A, L, e1, e2, hL, hE⟩ := hI
  rw [el] at hle cont
  refine v_X4_expectedOfRow_9 g a.1 a.2 v ?_
  rw [h8, hk, nI_clamp (show kd < 2147483648 by omega), cv, e1, e2]
  refine ⟨fun z => ?_, fun z => ?_⟩
  · rw [qz_le, el, ev] at z
    have ei : l.drop i = [] := List.drop_eq_nil_of_le (by omega)
    rw [ei] at hE
    have : qE c h l 1000000 = A := hE
    rw [this] at hq
    exact hq
  · rw [qz_le, el, ev] at z
    have hi : i < l.length := by omega
    have hs := h12 _ (qAt_memi hi)
    obtain ⟨o1, o2, o3, o4⟩ := hco (qAt l i) hs
    have es := qz_nI (n := qAt l i) (by omega)
    rw [hrow i hi, nI_clamp (show qAt l i < 2147483648 by omega), o1, o3, qz_accum o2, (qz_left hL o4).1]
    refine ⟨qz_vi (by omega) (by omega), ⟨by rw [qz_lt, es, qz_n0]; omega, by rw [qz_le, es, qz_n12]; omega⟩, ⟨by rw [qz_lt, qz_nI (by omega), qz_n0]; omega, by rw [qz_le, qz_nI (by omega), qz_n8]; omega⟩, ?_⟩
    refine cont (lN (A + c (qAt l i) * L), lN (L * (100 - h (qAt l i)) / 100)) (by omega) ⟨_, _, rfl, rfl, (qz_left hL o4).2, ?_⟩
    rw [hE, qAt_drop hi]
    show A + (c (qAt l i) * L + _) = _
    rw [Nat.add_assoc]
theorem c_X12_expected {X : qz_X} {d : Nat} {Q : qz_Q} (g : qz_G) (l : List Nat) (kd : Nat) (c h : Nat → Nat) (hl : l.length ≤ 8) (h8 : g.1 12 87 = nI l.length) (hrow : ∀ i, i < l.length → g.1 144 i = nI (qAt l i)) (h12 : ∀ s ∈ l, s < 12) (hk8 : kd < 8) (hco : qCo (g.1 120) (g.1 121) kd c h) (hq : Q g 0 (lN (qE c h l 1000000))) : qz_Call X (d + 1) 278 [.ref 12, .int (nI kd)] g Q := by
  have el := qz_nI (n := l.length) (by omega)
  have ek := qz_nI (n := kd) (by omega)
  refine v_X12_expected g _ ?_
  refine qz_for (α := Int64 × Int64) (W := fun a v => qz_WP X (d + 1) 278 Q 10 [(0, .ref 12), (1, .int (nI kd)), (2, .long a.2), (4, .long a.1), (6, .int v)] [] g) (n := nI l.length) (fun i a => ∃ A L : Nat, a.1 = lN A ∧ a.2 = lN L ∧ L ≤ 1000000 ∧ qE c h l 1000000 = A + qE c h (l.drop i) L) (by omega) (by omega) (fun i a v hI ev cv hle cont => ?_) (0, 1000000) ⟨0, 1000000, rfl, rfl, by omega, by rw [List.drop_zero, Nat.zero_add]⟩
  obtain ⟨A, L, e1, e2, hL, hE⟩ := hI
  rw [el] at hle cont
  refine v_X12_expected_10 g _ a.2 a.1 v ?_
  rw [h8, cv, e1, e2]
  refine ⟨fun z => ?_, fun z => ?_⟩
  · rw [qz_le, el, ev] at z
    have ei : l.drop i = [] := List.drop_eq_nil_of_le (by omega)
    rw [ei] at hE
    have : qE c h l 1000000 = A := hE
    rw [this] at hq
    exact hq
  · rw [qz_le, el, ev] at z
    have hi : i < l.length := by omega
    have hs := h12 _ (qAt_memi hi)
    obtain ⟨o1, o2, o3, o4⟩ := hco (qAt l i) hs
    have es := qz_nI (n := qAt l i) (by omega)
    have e8 := qz_ix8 (s := nI (qAt l i)) (k := nI kd) ⟨by rw [qz_lt, es, qz_n0]; omega, by rw [qz_le, es, qz_n12]; omega⟩ ⟨by rw [qz_lt, ek, qz_n0]; omega, by rw [qz_le, ek, qz_n8]; omega⟩
    rw [nI_clamp (show qAt l i < 2147483648 by omega), nI_clamp (show kd < 2147483648 by omega)] at e8
    rw [hrow i hi, ← e8.2.2, e8.1, nI_clamp (show qAt l i < 2147483648 by omega), o1, o3, qz_accum o2, (qz_left hL o4).1]
    refine ⟨qz_vi (by omega) (by omega), qz_vi (by omega) (by omega), e8.2.1, ?_⟩
    refine v_X12_expected_67 g _ _ _ v (cont (lN (A + c (qAt l i) * L), lN (L * (100 - h (qAt l i)) / 100)) (by omega) ⟨_, _, rfl, rfl, (qz_left hL o4).2, ?_⟩)
    rw [hE, qAt_drop hi]
    show A + (c (qAt l i) * L + _) = _
    rw [Nat.add_assoc]
/-- the sources that are still to be looked through -/
noncomputable def qTd (g : qz_G) (D : qDt) (w land : Int32) : List Nat := qGt (fun s => bt (qBb g D w land (g.1 12 0) (g.1 12 0) 7) s = true ∧ ¬ qLoG g w (nI s) (g.1 12 0) (g.1 12 0) (qRs g D w land (g.1 12 0) (g.1 12 0) 0)) 12
theorem c_X4_gather {X : qz_X} {d : Nat} {Q : qz_Q} {g0 : qz_G} {D : qDt} (hR : Rel g0) (hD : LwD g0 D) (g : qz_G) (hs : Same g0 g) (w land : Int32) (hw : qR w (g0.1 12 2)) (hq : ∀ g', Same g0 g' → g'.1 9 11 = g0.1 89 w.toNatClampNeg → g'.1 9 9 = nI (qTd g0 D w land).length → (∀ i, i < (qTd g0 D w land).length → g'.1 63 i = nI (qAt (qTd g0 D w land) i)) → g'.1 9 10 = qWb (qTd g0 D w land) → Q g' 0 0) : qz_Call X (d + 9) 39 [.ref 9, .int w, .int land, .int (g0.1 12 0)] g Q := by
  unfold qTd at hq
  refine v_X4_gather (d := d + 6) g w land _ (v_X7_sourcesToDo (d := d + 7) g w land _ (c_X2_weigh (d := d + 1) hR hD g hs hw (fun g1 s1 h58 => c_X7_missingSources (d := d + 5) hR hD g1 s1 w land _ _ (rB_now hR) h58 (fun m hm => ?_))))
  have hm' : ∀ s, s < 12 → (bt m s = true ↔ (fun s => bt (qBb g0 D w land (g0.1 12 0) (g0.1 12 0) 7) s = true ∧ ¬ qLoG g0 w (nI s) (g0.1 12 0) (g0.1 12 0) (qRs g0 D w land (g0.1 12 0) (g0.1 12 0) 0)) s) := hm
  generalize (fun s => bt (qBb g0 D w land (g0.1 12 0) (g0.1 12 0) 7) s = true ∧ ¬ qLoG g0 w (nI s) (g0.1 12 0) (g0.1 12 0) (qRs g0 D w land (g0.1 12 0) (g0.1 12 0) 0)) = P at hq hm'
  refine v_X4_gather_12 (d := d + 6) g1 w m ?_
  rw [rS_3_12 hR s1, rE_22 hR s1]
  refine ⟨hw, rB_works hR, ?_⟩
  refine qz_for (W := fun a v => qz_WP X (d + 9) 39 Q 37 [(0, .ref 9), (4, .int m), (5, .int v)] [] a) (n := 12) (fun s a => Same g0 a ∧ a.1 9 11 = g0.1 89 w.toNatClampNeg ∧ a.1 9 9 = nI (qGt P s).length ∧ (∀ i, i < (qGt P s).length → a.1 63 i = nI (qAt (qGt P s) i)) ∧ a.1 9 10 = qWb (qGt P s)) (by decide) (by decide) (fun s a v hI ev cv hle cont => ?_) _ ⟨((s1.ui 9 11 _ (by decide) (by decide)).ui 9 9 _ (by decide) (by decide)).ui 9 10 _ (by decide) (by decide), ?_, ?_, fun i hi => (by cases hi), ?_⟩
  rotate_left
  · rw [qz_i1, if_pos rfl, qz_u1, if_neg (by decide), qz_i1, if_pos rfl, qz_u1, if_neg (by decide), qz_i1, if_pos rfl, qz_u1, if_pos rfl]
  · rw [qz_i1, if_pos rfl, qz_u1, if_neg (by decide), qz_i1, if_pos rfl, qz_u1, if_pos rfl]
    rfl
  · rw [qz_i1, if_pos rfl, qz_u1, if_pos rfl]
    rfl
  obtain ⟨sa, k11, k8, k63, k9⟩ := hI
  rw [qz_n12] at hle cont
  have hlen := qGt_len P s
  have elen := qz_nI (n := (qGt P s).length) (by omega)
  have evn : v = nI s := by
    rw [qz_eq, ev, qz_nI (by omega)]
  subst evn
  have fin : qGt P 12 = qGt P s → Q a 0 0 := fun e => hq a sa k11 (by rw [e]; exact k8) (by rw [e]; exact k63) (by rw [e]; exact k9)
  refine v_X4_gather_37 (d := d + 6) a m _ ⟨fun z => ?_, fun z => ⟨fun z2 => ?_, fun z2 => ⟨fun c => ?_, fun c => ⟨?_, ?_⟩⟩⟩⟩
  · rw [qz_le, qz_n12, ev] at z
    exact fin (by rw [show s = 12 from by omega])
  · rw [qz_le, qz_n12, ev] at z
    rw [k8, qz_le, elen, qz_n8] at z2
    refine fin ?_
    have := qGt_8 (P := P) (n := s) (by omega) (12 - s)
    rw [show s + (12 - s) = 12 from by omega] at this
    exact this
  · rw [qz_le, qz_n12, ev] at z
    rw [b_bit _ (by omega)] at c
    have hnp : ¬ P s := fun z3 => by
      rw [(hm' s (by omega)).mpr z3] at c
      cases c
    refine v_X4_gather_97 (d := d + 6) a m _ (cont a (by omega) ?_)
    rw [qGt_n hnp]
    exact ⟨sa, k11, k8, k63, k9⟩
  · rw [k8, qz_le, elen, qz_n8] at z2
    rw [k8]
    exact qz_vi (by omega) (by omega)
  · rw [qz_le, qz_n12, ev] at z
    rw [k8, qz_le, elen, qz_n8] at z2
    rw [b_bit _ (by omega)] at c
    have hp : P s := (hm' s (by omega)).mp (by simpa using c)
    rw [k8, k9, nI_clamp (by omega), nI_1]
    refine v_X4_gather_97 (d := d + 6) _ m _ (cont _ (by omega) ?_)
    rw [qGt_p hp (by omega), List.length_append, List.length_singleton, qWb_app]
    refine ⟨((sa.row 63 _ _ (by decide) (by decide)).ui 9 10 _ (by decide) (by decide)).ui 9 9 _ (by decide) (by decide), ?_, ?_, fun i hi => ?_, ?_⟩
    · rw [qz_i1, if_pos rfl, qz_u1, if_neg (by decide), qz_i1, if_pos rfl, qz_u1, if_neg (by decide), qz_i1, if_neg (by decide)]
      exact k11
    · rw [qz_i1, if_pos rfl, qz_u1, if_pos rfl]
    · rw [qz_i1, if_neg (by decide), qz_i1, if_neg (by decide), qz_i1, if_pos rfl, qz_u1]
      by_cases ci : i = (qGt P s).length
      · rw [if_pos ci, ci, qAt_e]
      · rw [if_neg ci, qAt_l (by omega)]
        exact k63 i (by omega)
    · rw [qz_i1, if_pos rfl, qz_u1, if_neg (by decide), qz_i1, if_pos rfl, qz_u1, if_pos rfl]
theorem c_X12_setsRow {X : qz_X} {d : Nat} {Q : qz_Q} {g0 gb : qz_G} {D : qDt} (hR : Rel g0) (hD : LwD g0 D) (g : qz_G) (hs : SamB g0 gb g) (hnow : gb.1 12 0 = g0.1 12 0) (w land : Int32) (hw : qR w (g0.1 12 2)) (hq : ∀ g', SamB g0 gb g' → g'.1 12 87 = nI (qTd g0 D w land).length → (∀ i, i < (qTd g0 D w land).length → g'.1 144 i = nI (qAt (qTd g0 D w land) i)) → Q g' 0 0) : qz_Call X (d + 6) 277 [.ref 12, .int w, .int land] g Q := by
  unfold qTd at hq
  have hn : ∀ g', SamB g0 gb g' → g'.1 12 0 = g0.1 12 0 := fun g' s' => (rM_12_0 s'.2).trans hnow
  have hr0 := qRs_rng (w := w) (land := land) (day := g0.1 12 0) (t := g0.1 12 0) (k := 0) hD (by omega) (by decide)
  refine v_X12_setsRow (d := d + 5) g w land ?_
  rw [hn g hs]
  refine c_X12_bitsByB (d := d + 1) hR hD g hs hw 7 (by omega) 115 rfl (fun g1 s1 => v_X12_setsRow_17 (d := d + 5) g1 w land _ ?_)
  rw [hn g1 s1]
  refine c_X12_orNothingB (d := d) hR hD g1 s1 hw 0 (by omega) 97 rfl (fun g2 s2 => ?_)
  rw [← qRs_o (k := 0) (by omega) (by decide)]
  refine v_X12_setsRow_35 (d := d + 5) g2 w _ _ ?_
  refine qz_for (W := fun a v => qz_WP X (d + 6) 277 Q 43 [(0, .ref 12), (1, .int w), (3, .int (qBb g0 D w land (g0.1 12 0) (g0.1 12 0) 7)), (4, .int (qRs g0 D w land (g0.1 12 0) (g0.1 12 0) 0)), (5, .int v)] [] a) (n := 12) (fun s a => SamB g0 gb a ∧ a.1 12 87 = nI (qGt (fun s => bt (qBb g0 D w land (g0.1 12 0) (g0.1 12 0) 7) s = true ∧ ¬ qLoG g0 w (nI s) (g0.1 12 0) (g0.1 12 0) (qRs g0 D w land (g0.1 12 0) (g0.1 12 0) 0)) s).length ∧ (∀ i, i < (qGt (fun s => bt (qBb g0 D w land (g0.1 12 0) (g0.1 12 0) 7) s = true ∧ ¬ qLoG g0 w (nI s) (g0.1 12 0) (g0.1 12 0) (qRs g0 D w land (g0.1 12 0) (g0.1 12 0) 0)) s).length → a.1 144 i = nI (qAt (qGt (fun s => bt (qBb g0 D w land (g0.1 12 0) (g0.1 12 0) 7) s = true ∧ ¬ qLoG g0 w (nI s) (g0.1 12 0) (g0.1 12 0) (qRs g0 D w land (g0.1 12 0) (g0.1 12 0) 0)) s) i))) (by decide) (by decide) (fun s a v hI ev cv hle cont => ?_) _ ⟨s2.ui 12 87 0 (by decide) (by decide), by rw [qz_i1, if_pos rfl, qz_u1, if_pos rfl]; rfl, fun i hi => (by cases hi)⟩
  obtain ⟨sa, k8, k63⟩ := hI
  have hPd : ∀ s, (bt (qBb g0 D w land (g0.1 12 0) (g0.1 12 0) 7) s = true ∧ ¬ qLoG g0 w (nI s) (g0.1 12 0) (g0.1 12 0) (qRs g0 D w land (g0.1 12 0) (g0.1 12 0) 0)) ↔ (fun s => bt (qBb g0 D w land (g0.1 12 0) (g0.1 12 0) 7) s = true ∧ ¬ qLoG g0 w (nI s) (g0.1 12 0) (g0.1 12 0) (qRs g0 D w land (g0.1 12 0) (g0.1 12 0) 0)) s := fun s => Iff.rfl
  generalize (fun s => bt (qBb g0 D w land (g0.1 12 0) (g0.1 12 0) 7) s = true ∧ ¬ qLoG g0 w (nI s) (g0.1 12 0) (g0.1 12 0) (qRs g0 D w land (g0.1 12 0) (g0.1 12 0) 0)) = P at hq cont k8 k63 hPd
  rw [qz_n12] at hle cont
  have hlen := qGt_len P s
  have elen := qz_nI (n := (qGt P s).length) (by omega)
  have evn : v = nI s := by
    rw [qz_eq, ev, qz_nI (by omega)]
  subst evn
  have fin : qGt P 12 = qGt P s → Q a 0 0 := fun e => hq a sa (by rw [e]; exact k8) (by rw [e]; exact k63)
  have stay : ¬ P s → s < 12 → qz_WP X (d + 6) 277 Q 112 [(0, .ref 12), (1, .int w), (3, .int (qBb g0 D w land (g0.1 12 0) (g0.1 12 0) 7)), (4, .int (qRs g0 D w land (g0.1 12 0) (g0.1 12 0) 0)), (5, .int (nI s))] [] a := by
    intro hnp hs12
    refine v_X12_setsRow_112 (d := d + 5) a w _ _ _ (cont a (by omega) ?_)
    rw [qGt_n hnp]
    exact ⟨sa, k8, k63⟩
  refine v_X12_setsRow_43 (d := d + 5) a w _ _ _ ?_
  rw [hn a sa]
  refine ⟨fun z => ?_, fun z => ⟨fun z2 => ?_, fun z2 => ⟨fun c => ?_, fun c => ?_⟩⟩⟩
  · rw [qz_le, qz_n12, ev] at z
    exact fin (by rw [show s = 12 from by omega])
  · rw [qz_le, qz_n12, ev] at z
    rw [k8, qz_le, elen, qz_n8] at z2
    refine fin ?_
    have := qGt_8 (P := P) (n := s) (by omega) (12 - s)
    rw [show s + (12 - s) = 12 from by omega] at this
    exact this
  · rw [qz_le, qz_n12, ev] at z
    rw [b_bit _ (by omega)] at c
    refine stay (fun z3 => ?_) (by omega)
    have := ((hPd s).mpr z3).1
    rw [c] at this
    cases this
  · rw [qz_le, qz_n12, ev] at z
    rw [k8, qz_le, elen, qz_n8] at z2
    rw [b_bit _ (by omega)] at c
    have c' : bt (qBb g0 D w land (g0.1 12 0) (g0.1 12 0) 7) s = true := by simpa using c
    refine c_X12_isLookedB (d := d + 4) hR a sa w (nI s) _ _ _ (rB_now hR) hr0.1 (fun hl => ⟨fun z3 => absurd z3 (by decide), fun _ => stay (fun z3 => ((hPd s).mpr z3).2 hl) (by omega)⟩) (fun hl => ⟨fun _ => ?_, fun z3 => absurd rfl z3⟩)
    have hp : P s := (hPd s).mp ⟨c', hl⟩
    rw [k8, nI_clamp (by omega), nI_1]
    refine ⟨qz_vi (by omega) (by omega), v_X12_setsRow_112 (d := d + 5) _ w _ _ _ (cont _ (by omega) ?_)⟩
    rw [qGt_p hp (by omega), List.length_append, List.length_singleton]
    refine ⟨(sa.row 144 _ _ (by decide) (by decide)).ui 12 87 _ (by decide) (by decide), ?_, fun i hi => ?_⟩
    · rw [qz_i1, if_pos rfl, qz_u1, if_pos rfl]
    · rw [qz_i1, if_neg (by decide), qz_i1, if_pos rfl, qz_u1]
      by_cases ci : i = (qGt P s).length
      · rw [if_pos ci, ci, qAt_e]
      · rw [if_neg ci, qAt_l (by omega)]
        exact k63 i (by omega)
