/-! audits: the leaves that are not free, in order; the draw -/
def qAt (l : List Nat) (i : Nat) : Nat := (l[i]?).getD 0
def qNf (f : Nat → Int32) : Nat → List Nat
  | 0 => []
  | n + 1 => if f n = 0 then qNf f n ++ [n] else qNf f n
theorem qAt_l {l t : List Nat} {i : Nat} (h : i < l.length) : qAt (l ++ t) i = qAt l i := by
  unfold qAt
  rw [List.getElem?_append_left h]
theorem qAt_e {l : List Nat} {x : Nat} : qAt (l ++ [x]) l.length = x := by
  unfold qAt
  rw [List.getElem?_append_right (Nat.le_refl _), Nat.sub_self]
  rfl
theorem qNf_len (f : Nat → Int32) : ∀ n, (qNf f n).length ≤ n
  | 0 => Nat.le_refl 0
  | n + 1 => by
    have h := qNf_len f n
    rw [qNf]
    by_cases e : f n = 0
    · rw [if_pos e, List.length_append]; exact Nat.succ_le_succ h
    · rw [if_neg e]; omega
theorem qNf_lt (f : Nat → Int32) : ∀ n i, i < (qNf f n).length → qAt (qNf f n) i < n
  | 0, i, h => by cases h
  | n + 1, i, h => by
    have ih := qNf_lt f n
    rw [qNf] at h ⊢
    by_cases e : f n = 0
    · rw [if_pos e] at h ⊢
      rw [List.length_append, List.length_singleton] at h
      by_cases hi : i < (qNf f n).length
      · rw [qAt_l hi]; have := ih i hi; omega
      · rw [show i = (qNf f n).length from by omega, qAt_e]; omega
    · rw [if_neg e] at h ⊢
      have := ih i h; omega
theorem qNf_mono (f : Nat → Int32) : ∀ n i j, i < j → j < (qNf f n).length → qAt (qNf f n) i < qAt (qNf f n) j
  | 0, i, j, _, h => by cases h
  | n + 1, i, j, hij, h => by
    have ih := qNf_mono f n
    rw [qNf] at h ⊢
    by_cases e : f n = 0
    · rw [if_pos e] at h ⊢
      rw [List.length_append, List.length_singleton] at h
      by_cases hj : j < (qNf f n).length
      · rw [qAt_l hj, qAt_l (by omega)]; exact ih i j hij hj
      · rw [show j = (qNf f n).length from by omega, qAt_e, qAt_l (by omega)]
        exact qNf_lt f n i (by omega)
    · rw [if_neg e] at h ⊢
      exact ih i j hij h
theorem qNf_inj {f : Nat → Int32} {n i j : Nat} (hi : i < (qNf f n).length) (hj : j < (qNf f n).length) (h : qAt (qNf f n) i = qAt (qNf f n) j) : i = j := by
  rcases Nat.lt_trichotomy i j with a | a | a
  · have := qNf_mono f n i j a hj; omega
  · exact a
  · have := qNf_mono f n j i a hi; omega
theorem qNf_pre (f : Nat → Int32) (k : Nat) : ∀ n, k ≤ n → ∃ t, qNf f n = qNf f k ++ t
  | 0, h => ⟨[], by rw [show k = 0 from by omega]; rfl⟩
  | n + 1, h => by
    by_cases hk : k = n + 1
    · exact ⟨[], by rw [hk, List.append_nil]⟩
    · obtain ⟨t, ht⟩ := qNf_pre f k n (by omega)
      rw [qNf]
      by_cases e : f n = 0
      · rw [if_pos e]; exact ⟨t ++ [n], by rw [ht, List.append_assoc]⟩
      · rw [if_neg e]; exact ⟨t, ht⟩
def qLc (x : Int32) : Int32 := ((x * 25173) + 13849) - ((x * 25173) + 13849) / 65536 * 65536
def qMo (x a : Int32) : Int32 := x - x / a * a
theorem qz_mo {x a : Int32} (hx : 0 ≤ x.toInt) (ha : 0 < a.toInt) : (qMo x a).toInt = x.toInt % a.toInt ∧ 0 ≤ (qMo x a).toInt ∧ (qMo x a).toInt < a.toInt := by
  have rx := qz_rg x
  have h1 : 0 ≤ x.toInt / a.toInt := Int.ediv_nonneg hx (by omega)
  have h2 : x.toInt / a.toInt ≤ x.toInt := Int.ediv_le_self _ hx
  have h3 : x.toInt / a.toInt * a.toInt ≤ x.toInt := Int.ediv_mul_le _ (by omega)
  have h4 : 0 ≤ x.toInt / a.toInt * a.toInt := Int.mul_nonneg h1 (by omega)
  have e1 : (x / a).toInt = x.toInt / a.toInt := by
    rw [Int32.toInt_div]
    rw [Int.tdiv_eq_ediv_of_nonneg hx]
    exact qz_bm (by omega) (by omega)
  have e2 : (x / a * a).toInt = x.toInt / a.toInt * a.toInt := by
    rw [qz_ml (by rw [e1]; omega) (by rw [e1]; omega), e1]
  have e3 : (qMo x a).toInt = x.toInt % a.toInt := by
    unfold qMo
    rw [qz_sb (by rw [e2]; omega) (by rw [e2]; omega), e2, Int.emod_def, Int.mul_comm]
  exact ⟨e3, by rw [e3]; exact Int.emod_nonneg _ (by omega), by rw [e3]; exact Int.emod_lt_of_pos _ ha⟩
theorem qz_lc {x : Int32} (h : 0 ≤ x.toInt ∧ x.toInt ≤ 65535) : 0 ≤ (qLc x).toInt ∧ (qLc x).toInt ≤ 65535 := by
  have n1 : (25173 : Int32).toInt = 25173 := by decide
  have n2 : (13849 : Int32).toInt = 13849 := by decide
  have e1 : (x * 25173).toInt = x.toInt * 25173 := by rw [qz_ml (by rw [n1]; omega) (by rw [n1]; omega), n1]
  have e2 : (x * 25173 + 13849).toInt = x.toInt * 25173 + 13849 := by rw [qz_ad (by rw [e1, n2]; omega) (by rw [e1, n2]; omega), e1, n2]
  have h2 := qz_mo (x := x * 25173 + 13849) (a := 65536) (by rw [e2]; omega) (by decide)
  rw [qz_n65536] at h2
  have h3 : (qLc x).toInt = (qMo (x * 25173 + 13849) 65536).toInt := rfl
  omega
def qDr (all n : Int32) : Nat → Int32 → List Nat → List Nat
  | 0, _, D => D
  | m + 1, x, D => if n.toInt ≤ D.length then D else if (qMo (qLc x) all).toNatClampNeg ∈ D then qDr all n m (qLc x) D else qDr all n m (qLc x) (D ++ [(qMo (qLc x) all).toNatClampNeg])
def qAn (all many bad : Int32) (row : Nat → Int32) (what : Int32) : Int32 := if what = 0 then many else if what = 1 then bad else if what = 2 then bad else if what = 3 then all - many + bad else if what = 4 then all else if 10 ≤ what.toInt ∧ what.toInt < 10 + many.toInt then row (what - 10).toNatClampNeg else -1
/-- how a draw stands -/
def Drw (L D : List Nat) (n : Nat) : Prop := D.length ≤ n ∧ ∀ j, j < D.length → qAt D j < L.length
theorem Drw_add {L D : List Nat} {n i : Nat} (h : Drw L D n) (h1 : D.length < n) (hi : i < L.length) : Drw L (D ++ [i]) n := by
  refine ⟨by rw [List.length_append, List.length_singleton]; omega, fun j hj => ?_⟩
  rw [List.length_append, List.length_singleton] at hj
  by_cases hj' : j < D.length
  · rw [qAt_l hj']; exact h.2 j hj'
  · rw [show j = D.length from by omega, qAt_e]; exact hi
theorem qAt_mem {l : List Nat} {x : Nat} (h : x ∈ l) : ∃ j, j < l.length ∧ qAt l j = x := by
  obtain ⟨j, hj, e⟩ := List.getElem_of_mem h
  refine ⟨j, hj, ?_⟩
  unfold qAt
  rw [List.getElem?_eq_getElem hj, e]
  rfl
theorem c_X0_gather {X : qz_X} {d : Nat} {Q : qz_Q} (g : qz_G) (n : Nat) (L : List Nat) (hn : qI (g.1 10 12) 0 100) (en : n = (g.1 10 12).toNatClampNeg) (hL : L = qNf (g.1 74) n)
    (hq : ∀ g', Same g g' → g'.1 11 4 = nI L.length → (∀ k, k < L.length → g'.1 76 k = nI (qAt L k) ∧ g'.1 78 k = 0) → Q g' 0 0) : qz_Call X (d + 3) 2 [.ref 11] g Q := by
  have hm := qI_0 hn qz_n100
  have hc := qz_cl (g.1 10 12)
  refine v_X0_gather g ?_
  refine qz_for (W := fun g' v => qz_WP X (d + 3) 2 Q 7 [(0, .ref 11), (1, .int v)] [] g') (n := g.1 10 12) (fun i g' => Same g g' ∧ g'.1 11 4 = nI (qNf (g.1 74) i).length ∧ ∀ k, k < (qNf (g.1 74) i).length → g'.1 76 k = nI (qAt (qNf (g.1 74) i) k) ∧ g'.1 78 k = 0) hm.1 (by omega) (fun i g' v hI e1 e2 hi hW => ?_) (qz_ui g 11 4 0) ⟨(Same.rf g).row 11 4 0 (by decide) (by decide), by rw [qz_i1, if_pos rfl, qz_u1, if_pos rfl]; rfl, fun k hk => by cases hk⟩
  obtain ⟨hS, h4, hk⟩ := hI
  have s1 : g'.1 10 12 = g.1 10 12 := hS.2.1 (10, 12) (by decide)
  have s2 : g'.1 74 = g.1 74 := hS.1 74 (by decide)
  have hl := qNf_len (g.1 74) i
  refine v_X0_gather_7 g' v ?_
  rw [s1, s2, h4, e2, nI_clamp (by omega), nI_1]
  have fin : ¬ (i : Int) < (g.1 10 12).toInt → Q g' 0 0 := fun c => by
    have ein : i = n := by omega
    rw [ein] at h4 hk
    rw [← hL] at h4 hk
    exact hq g' hS h4 hk
  refine ⟨fun c => fin (by rw [qz_le, e1] at c; omega), fun c => ⟨fun c2 => fin (by rw [qz_le, e1, qz_n100] at c2; omega), fun c2 => ⟨fun c3 => ?_, fun c3 => absurd ⟨by rw [qz_lt, e1, qz_n0]; omega, c⟩ c3⟩⟩⟩
  have hlt : (i : Int) < (g.1 10 12).toInt := by rw [qz_le, e1] at c; omega
  refine ⟨qz_vi (by omega) (by omega), fun e3 => ⟨?_, ?_⟩, fun e3 => ?_⟩
  · exact qz_vi (by rw [qz_nI (by omega)]; omega) (by rw [qz_nI (by omega)]; omega)
  · have eL : qNf (g.1 74) (i + 1) = qNf (g.1 74) i ++ [i] := by rw [qNf, if_pos e3]
    refine hW _ hlt ⟨((hS.row 76 _ _ (by decide) (by decide)).row 78 _ _ (by decide) (by decide)).row 11 _ _ (by decide) (by decide), ?_, fun k hk' => ?_⟩
    · rw [qz_i1, if_pos rfl, qz_u1, if_pos rfl, eL, List.length_append, List.length_singleton]
    · rw [eL, List.length_append, List.length_singleton] at hk'
      rw [eL]
      simp only [qz_i1, qz_u1, Nat.reduceEqDiff, reduceIte]
      by_cases ek : k = (qNf (g.1 74) i).length
      · rw [if_pos ek, if_pos ek, ek, qAt_e]
        refine ⟨?_, rfl⟩
        rw [← e2]
        exact (qz_self (by rw [qz_lt, e1, qz_n0]; omega)).symm
      · rw [if_neg ek, if_neg ek, qAt_l (by omega)]
        exact hk k (by omega)
  · have eL : qNf (g.1 74) (i + 1) = qNf (g.1 74) i := by rw [qNf, if_neg e3]
    refine hW g' hlt ?_
    rw [eL]
    exact ⟨hS, h4, hk⟩
theorem c_X0_draw {X : qz_X} {d : Nat} {Q : qz_Q} (g : qz_G) (v1 v2 : Int32) (n : Nat) (L : List Nat) (hn : qI (g.1 10 12) 0 100) (en : n = (g.1 10 12).toNatClampNeg) (hL : L = qNf (g.1 74) n) (hv1 : qI v1 1 100) (hv2 : qI v2 0 65535)
    (hq0 : L.length = 0 → ∀ g', Same g g' → Q g' 0 0)
    (hq : ¬ L.length = 0 → ∀ g', Same g g' → g'.1 11 4 = nI L.length → g'.1 11 5 = nI (qDr (nI L.length) v1 400 v2 []).length → Drw L (qDr (nI L.length) v1 400 v2 []) 100 → (∀ j, j < (qDr (nI L.length) v1 400 v2 []).length → g'.1 77 j = nI (qAt L (qAt (qDr (nI L.length) v1 400 v2 []) j))) → Q g' 1 0) : qz_Call X (d + 4) 1 [.ref 11, .int v1, .int v2] g Q := by
  have hm := qI_0 hn qz_n100
  have hc := qz_cl (g.1 10 12)
  have hLn : L.length ≤ n := by rw [hL]; exact qNf_len _ _
  have hLi := qz_nI (n := L.length) (by omega)
  have hv1' := hv1
  simp only [qI, qz_lt, qz_n1, qz_n100] at hv1'
  have hv2' := hv2
  simp only [qI, qz_lt, qz_n0, qz_n65535] at hv2'
  have key : ∀ (m : Nat) (x : Int32) (D : List Nat) (g' : qz_G), m ≤ 400 → ¬ L.length = 0 → (0 ≤ x.toInt ∧ x.toInt ≤ 65535) → Same g g' → Drw L D 100 → g'.1 11 4 = nI L.length → g'.1 11 5 = nI D.length → (∀ k, k < L.length → g'.1 76 k = nI (qAt L k)) → (∀ k, k < L.length → (¬ g'.1 78 k = 0 ↔ k ∈ D)) → (∀ j, j < D.length → g'.1 77 j = nI (qAt L (qAt D j))) →
      (∀ g', Same g g' → g'.1 11 4 = nI L.length → g'.1 11 5 = nI (qDr (nI L.length) v1 m x D).length → Drw L (qDr (nI L.length) v1 m x D) 100 → (∀ j, j < (qDr (nI L.length) v1 m x D).length → g'.1 77 j = nI (qAt L (qAt (qDr (nI L.length) v1 m x D) j))) → Q g' 1 0) → qz_WP X (d + 4) 1 Q 23 [(0, .ref 11), (1, .int v1), (3, .int x), (4, .int (nI (400 - m)))] [] g' := by
    intro m
    induction m with
    | zero =>
      intro x D g' _ hne hx hS hD h4 h5 h76 h78 h77 hfin
      refine v_X0_draw_23 (d := d + 2) g' v1 x (nI (400 - 0)) ⟨fun _ => hfin g' hS h4 h5 hD h77, fun z => absurd (by decide) z⟩
    | succ m ih =>
      intro x D g' hm4 hne hx hS hD h4 h5 h76 h78 h77 hfin
      have et := qz_nI (n := 400 - (m + 1)) (by omega)
      have hDl := hD.1
      have hDi := qz_nI (n := D.length) (by omega)
      have hxl := qz_lc hx
      have hxm := qz_mo (x := qLc x) (a := nI L.length) hxl.1 (by omega)
      have hci := qz_cl (qMo (qLc x) (nI L.length))
      have n400 : (400 : Int32).toInt = 400 := by decide
      refine v_X0_draw_23 (d := d + 2) g' v1 x (nI (400 - (m + 1))) ⟨fun z => ?_, fun _ => ⟨fun c => ?_, fun c => ⟨fun z => ?_, fun _ => ?_⟩⟩⟩
      · rw [qz_le, et, n400] at z
        omega
      · rw [h5, qz_le, hDi] at c
        rw [qDr, if_pos c] at hfin
        exact hfin g' hS h4 h5 hD h77
      · rw [h5, qz_le, hDi, qz_n100] at z
        rw [h5, qz_le, hDi] at c
        omega
      · rw [h5, qz_le, hDi] at c
        rw [h4, h5]
        show ¬ nI L.length = 0 ∧ (qR (qMo (qLc x) (nI L.length)) (nI L.length) → (vp_in (qMo (qLc x) (nI L.length)) 100 ∧ ((¬ (g'.1 78 (qMo (qLc x) (nI L.length)).toNatClampNeg) = 0 → qz_WP X (d + 4) 1 Q 23 [(0, .ref 11), (1, .int v1), (3, .int (qLc x)), (4, .int (nI (400 - (m + 1)) + 1))] [] g') ∧ ((g'.1 78 (qMo (qLc x) (nI L.length)).toNatClampNeg) = 0 → (vp_in (nI D.length) 100 ∧ (qz_WP X (d + 4) 1 Q 23 [(0, .ref 11), (1, .int v1), (3, .int (qLc x)), (4, .int (nI (400 - (m + 1)) + 1))] [] (qz_ui (qz_ui (qz_ui g' 78 (qMo (qLc x) (nI L.length)).toNatClampNeg (vp_nar .boolean 1)) 77 (nI D.length).toNatClampNeg (g'.1 76 (qMo (qLc x) (nI L.length)).toNatClampNeg)) 11 5 (nI D.length + 1)))))))) ∧ (¬ qR (qMo (qLc x) (nI L.length)) (nI L.length) → qz_WP X (d + 4) 1 Q 23 [(0, .ref 11), (1, .int v1), (3, .int (qLc x)), (4, .int (nI (400 - (m + 1)) + 1))] [] g')
        rw [nI_1, show 400 - (m + 1) + 1 = 400 - m from by omega, nI_clamp (show D.length < 2147483648 by omega), nI_1]
        have hiL : (qMo (qLc x) (nI L.length)).toNatClampNeg < L.length := by omega
        refine ⟨fun z => ?_, fun _ => ⟨qz_vi (by omega) (by omega), fun e3 => ?_, fun e3 => ⟨qz_vi (by omega) (by omega), ?_⟩⟩, fun z => absurd ⟨by rw [qz_lt, qz_n0]; omega, by rw [qz_le]; omega⟩ z⟩
        · rw [qz_eq, hLi, qz_n0] at z
          omega
        · have hmem := (h78 _ hiL).mp e3
          rw [qDr, if_neg c, if_pos hmem] at hfin
          exact ih (qLc x) D g' (by omega) hne hxl hS hD h4 h5 h76 h78 h77 hfin
        · have hmem : ¬ (qMo (qLc x) (nI L.length)).toNatClampNeg ∈ D := fun z => (h78 _ hiL).mpr z e3
          rw [qDr, if_neg c, if_neg hmem] at hfin
          refine ih (qLc x) (D ++ [(qMo (qLc x) (nI L.length)).toNatClampNeg]) _ (by omega) hne hxl (((hS.row 78 _ _ (by decide) (by decide)).row 77 _ _ (by decide) (by decide)).row 11 _ _ (by decide) (by decide)) (Drw_add hD (by omega) hiL) ?_ ?_ ?_ ?_ ?_ hfin
          · rw [qz_i1, if_pos rfl, qz_u1, if_neg (by decide), qz_i1, if_neg (by decide), qz_i1, if_neg (by decide)]
            exact h4
          · rw [qz_i1, if_pos rfl, qz_u1, if_pos rfl, List.length_append, List.length_singleton]
          · rw [qz_i1, if_neg (by decide), qz_i1, if_neg (by decide), qz_i1, if_neg (by decide)]
            exact h76
          · intro k hk
            rw [qz_i1, if_neg (by decide), qz_i1, if_neg (by decide), qz_i1, if_pos rfl, qz_u1, List.mem_append, List.mem_singleton]
            by_cases ek : k = (qMo (qLc x) (nI L.length)).toNatClampNeg
            · rw [if_pos ek]
              exact ⟨fun _ => Or.inr ek, fun _ => by decide⟩
            · rw [if_neg ek]
              exact (h78 k hk).trans ⟨Or.inl, fun z => z.resolve_right ek⟩
          · intro j hj
            rw [List.length_append, List.length_singleton] at hj
            rw [qz_i1, if_neg (by decide), qz_i1, if_pos rfl, qz_u1]
            by_cases ej : j = D.length
            · rw [if_pos ej, ej, qAt_e]
              exact h76 _ hiL
            · rw [if_neg ej, qz_i1, if_neg (by decide), qAt_l (by omega)]
              exact h77 j (by omega)
  refine v_X0_draw (d := d + 2) g v1 v2 ?_
  refine c_X0_gather (d := d) g n L hn en hL (fun g1 hS h4 hk => ⟨fun c => ?_, fun c => ?_⟩)
  · have hne : ¬ L.length = 0 := fun z => c (by rw [h4, z]; rfl)
    refine key 400 v2 [] (qz_ui g1 11 5 0) (by omega) hne (by omega) (hS.row 11 5 0 (by decide) (by decide)) ⟨by show 0 ≤ 100; omega, fun j hj => by cases hj⟩ ?_ ?_ ?_ ?_ (fun j hj => by cases hj) (hq hne)
    · rw [qz_i1, if_pos rfl, qz_u1, if_neg (by decide)]
      exact h4
    · rw [qz_i1, if_pos rfl, qz_u1, if_pos rfl]
      rfl
    · intro k hk'
      rw [qz_i1, if_neg (by decide)]
      exact (hk k hk').1
    · intro k hk'
      rw [qz_i1, if_neg (by decide), (hk k hk').2]
      exact ⟨fun z => absurd rfl z, fun z => by cases z⟩
  · have hne : L.length = 0 := by
      rw [h4, qz_eq, hLi, qz_n0] at c
      omega
    exact hq0 hne _ (hS.row 11 5 0 (by decide) (by decide))
theorem c_X0_wrongOnes {X : qz_X} {d : Nat} {Q : qz_Q} (g : qz_G) (v1 : Int32) (many : Nat) (row : Nat → Nat) (hm : many ≤ 100) (h5 : g.1 11 5 = nI many) (h77 : ∀ j, j < many → g.1 77 j = nI (row j)) (hr : ∀ j, j < many → qR (nI (row j)) (g.1 10 12) ∧ row j < 100 ∧ qR (g.1 68 (row j)) (g.1 3 12)) (hO : HO (g.1 3 12) (g.1 2 8) (g.1 15) (g.1 29) (g.1 30)) (h13 : qI (g.1 4 13) 0 300) (h14 : qI (g.1 4 14) 0 200) (h15 : qI (g.1 4 15) 0 200)
    (hq : Q g (qCt (fun j => qUn (g.1 46) (g.1 4 13) (g.1 37) (g.1 36) (g.1 38) (g.1 4 14) (g.1 39) (g.1 42) (g.1 4 15) (g.1 43) (g.1 44) (g.1 45) (g.1 29) (g.1 30) (g.1 15) (g.1 16) (g.1 17) (g.1 68 (row j)) (g.1 71 (row j)) v1) many) 0) : qz_Call X (d + 6) 4 [.ref 11, .int v1] g Q := by
  have hmi := qz_nI (n := many) (by omega)
  refine v_X0_wrongOnes g v1 ?_
  refine qz_for (W := fun a v => qz_WP X (d + 6) 4 Q 4 [(0, .ref 11), (1, .int v1), (2, .int a), (3, .int v)] [] g) (n := nI many) (fun i a => a = qCt (fun j => qUn (g.1 46) (g.1 4 13) (g.1 37) (g.1 36) (g.1 38) (g.1 4 14) (g.1 39) (g.1 42) (g.1 4 15) (g.1 43) (g.1 44) (g.1 45) (g.1 29) (g.1 30) (g.1 15) (g.1 16) (g.1 17) (g.1 68 (row j)) (g.1 71 (row j)) v1) i) (by omega) (by omega) (fun i a v hI e1 e2 hi hW => ?_) 0 rfl
  refine v_X0_wrongOnes_4 g v1 a v ?_
  rw [h5, qz_le, hmi, e1, e2]
  refine ⟨fun c => ?_, fun c => ⟨qz_vi (by omega) (by omega), ?_⟩⟩
  · rw [hI, show i = many from by omega]
    exact hq
  · have him : i < many := by omega
    obtain ⟨r1, r2, r3⟩ := hr i him
    have ec : (nI (row i)).toNatClampNeg = row i := nI_clamp (by omega)
    rw [h77 i him, ec]
    refine ⟨fun _ => ⟨qz_vi (by rw [qz_nI (by omega)]; omega) (by rw [qz_nI (by omega)]; omega), hO, r3, h13, h14, h15, fun e3 => ?_, fun e3 => ?_⟩, fun z => absurd r1 z⟩
    · refine hW _ (by omega) ?_
      rw [qCt_pos e3, hI]
    · refine hW _ (by omega) ?_
      rw [qCt_neg e3, hI]
theorem c_X12_leaveAt {X : qz_X} {d : Nat} {Q : qz_Q} (g : qz_G) (i0 n : Nat) (L : List Nat) (hn : qI (g.1 12 72) 0 100) (en : n = (g.1 12 72).toNatClampNeg) (hL : L = qNf (g.1 141) n) (hi0 : i0 < L.length) (hq : Q g (nI (qAt L i0)) 0) : qz_Call X (d + 1) 287 [.ref 12, .int (nI i0)] g Q := by
  have hm := qI_0 hn qz_n100
  have hc := qz_cl (g.1 12 72)
  have hLn : L.length ≤ n := by rw [hL]; exact qNf_len _ _
  have hii := qz_nI (n := i0) (by omega)
  refine v_X12_leaveAt g (nI i0) ?_
  refine qz_for (W := fun a v => qz_WP X (d + 1) 287 Q 4 [(0, .ref 12), (1, .int (nI i0)), (2, .int a), (3, .int v)] [] g) (n := g.1 12 72) (fun i a => a = nI (qNf (g.1 141) i).length ∧ (qNf (g.1 141) i).length ≤ i0) hm.1 (by omega) (fun i a v hI e1 e2 hi hW => ?_) 0 ⟨rfl, Nat.zero_le _⟩
  obtain ⟨ha, hle⟩ := hI
  refine v_X12_leaveAt_4 g (nI i0) a v ?_
  rw [qz_le, e1, e2, ha]
  have hli := qz_nI (n := (qNf (g.1 141) i).length) (by omega)
  refine ⟨fun c => ?_, fun c => ⟨qz_vi (by omega) (by omega), fun e3 => ⟨fun e4 => ?_, fun e4 => ?_⟩, fun e3 => ?_⟩⟩
  · rw [show i = n from by omega, ← hL] at hle
    omega
  · rw [qz_eq, hli, hii] at e4
    rw [nI_1]
    refine hW _ (by omega) ?_
    rw [qNf, if_pos e3, List.length_append, List.length_singleton]
    exact ⟨rfl, by omega⟩
  · rw [qz_eq, hli, hii] at e4
    obtain ⟨t, ht⟩ := qNf_pre (g.1 141) (i + 1) n (by omega)
    rw [qNf, if_pos e3] at ht
    have e5 : qAt L i0 = i := by
      rw [hL, ht, qAt_l (by rw [List.length_append, List.length_singleton]; omega), show i0 = (qNf (g.1 141) i).length from by omega, qAt_e]
    rw [e5] at hq
    have e6 : v = nI i := by rw [← e2]; exact (qz_self (by rw [qz_lt, e1, qz_n0]; omega)).symm
    rw [e6]
    exact hq
  · refine hW _ (by omega) ?_
    rw [qNf, if_neg e3]
    exact ⟨rfl, hle⟩
