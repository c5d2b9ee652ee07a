/-! the reference goes through all rows -/
theorem qAt_r {l t : List Nat} {i : Nat} (h : l.length ≤ i) : qAt (l ++ t) i = qAt t (i - l.length) := by
  unfold qAt
  rw [List.getElem?_append_right h]
theorem qAt_c0 (a : Nat) (l : List Nat) : qAt (a :: l) 0 = a := rfl
theorem qAt_cs (a : Nat) (l : List Nat) (i : Nat) : qAt (a :: l) (i + 1) = qAt l i := rfl
theorem qAt_rev {l : List Nat} {i : Nat} (h : i < l.length) : qAt l.reverse i = qAt l (l.length - 1 - i) := by
  unfold qAt
  rw [List.getElem?_reverse h]
def Rw (f : Nat → Int32) (l : List Nat) : Prop := ∀ i, i < l.length → f i = nI (qAt l i)
theorem qAt_xc {x r : List Nat} {v i : Nat} (h : x.length < i) : qAt (x ++ v :: r) i = qAt r (i - x.length - 1) := by
  rw [qAt_r (by omega)]
  obtain ⟨k, hk⟩ : ∃ k, i - x.length = k + 1 := ⟨i - x.length - 1, by omega⟩
  rw [hk, qAt_cs]
  rfl
theorem qAt_xm {x r : List Nat} {v : Nat} : qAt (x ++ v :: r) x.length = v := by
  rw [qAt_r (Nat.le_refl _), Nat.sub_self]
  rfl
theorem qCd_pre {r r' : List Nat} (hl : r.length = r'.length) : ∀ (x : List Nat), qCd (x ++ r) < qCd (x ++ r') ↔ qCd r < qCd r'
  | [] => Iff.rfl
  | a :: x => by
    have hl2 : (x ++ r).length = (x ++ r').length := by rw [List.length_append, List.length_append, hl]
    exact ((qCd_cons (a := a) hl2).2).trans (qCd_pre hl x)
theorem qz_splitL {l : List Nat} {j : Nat} (h : j < l.length) : l = l.take j ++ qAt l j :: l.drop (j + 1) := by
  rw [← qAt_drop h, List.take_append_drop]
theorem c_X12_nextRow {X : qz_X} {d : Nat} {Q : qz_Q} (g : qz_G) (l : List Nat) (hl8 : l.length ≤ 8) (h87 : g.1 12 87 = nI l.length) (hrow : Rw (g.1 144) l) (h12 : ∀ s ∈ l, s < 12) (hnd : l.Nodup)
    (h0 : (∀ p, l.Perm p → qCd p ≤ qCd l) → Q g 0 0)
    (h1 : ∀ g' b, Frm [144] g g' → l.Perm b → Rw (g'.1 144) b → qCd l < qCd b → (∀ p, l.Perm p → qCd p ≤ qCd l ∨ qCd b ≤ qCd p) → Q g' 1 0) : qz_Call X (d + 2) 280 [.ref 12] g Q := by
  have em := qz_nI (n := l.length) (by omega)
  have hs12 : ∀ i, i < l.length → qAt l i < 12 := fun i hi => h12 _ (qAt_memi hi)
  refine v_X12_nextRow g ?_
  rw [h87]
  -- behind the pivot
  have back : ∀ j, j + 1 < l.length → (l.drop (j + 1)).Pairwise (fun a b => b < a) → qAt l j < qAt l (j + 1) → qz_WP X (d + 2) 280 Q 35 [(0, .ref 12), (1, .int (nI j))] [] g := by
    intro j hj hdesc hlt
    have ej := qz_nI (n := j) (by omega)
    have cj : (nI j).toNatClampNeg = j := nI_clamp (by omega)
    refine v_X12_nextRow_35 g _ ⟨fun _ => ?_, fun z => absurd (by rw [qz_le, ej, qz_n0]; omega) z⟩
    rw [h87, Int32.sub_eq_add_neg]
    refine qz_down (α := Unit) (W := fun _ v => qz_WP X (d + 2) 280 Q 48 [(0, .ref 12), (1, .int (nI j)), (2, .int v)] [] g) (fun k _ => j + 2 ≤ k ∧ k ≤ l.length ∧ ∀ i, k ≤ i → i < l.length → qAt l i < qAt l j) 8 (by omega) ?_ ?_ _ () hl8 ⟨by omega, by omega, fun i h1 h2 => by omega⟩
    · rintro q _ hq8 ⟨k1, k2, k3⟩ cont
      have eq := qz_nI (n := q) (by omega)
      have cq : (nI q).toNatClampNeg = q := nI_clamp (by omega)
      refine v_X12_nextRow_48 g _ _ ⟨qz_vi (by omega) (by omega), qz_vi (by omega) (by omega), ?_⟩
      rw [cj, cq, hrow j (by omega), hrow q (by omega)]
      have sj := hs12 j (by omega)
      have sq := hs12 q (by omega)
      have e1 := qz_nI (n := qAt l j) (by omega)
      have e2 := qz_nI (n := qAt l q) (by omega)
      refine ⟨fun c => ?_, fun c => ?_⟩
      rotate_left
      · rw [qz_le, e1, e2] at c
        rw [Int32.sub_eq_add_neg]
        have hqj : ¬ q = j + 1 := fun z => by
          rw [z] at c
          omega
        refine cont () ⟨by omega, by omega, fun i h1 h2 => ?_⟩
        by_cases ci : i = q
        · rw [ci]; omega
        · exact k3 i (by omega) h2
      · rw [qz_le, e1, e2] at c
        have hne : ¬ qAt l j = qAt l q := fun z => by
          rw [qAt_i (by omega), qAt_i (by omega)] at z
          have := (List.getElem_inj hnd).mp z
          omega
        -- the row in five pieces
        have hx : (l.take j).length = j := by rw [List.length_take]; omega
        have hd1 := qz_splitL (l := l) (j := j) (by omega)
        have hyl : (l.drop (j + 1)).length = l.length - (j + 1) := List.length_drop
        have hd2 := qz_splitL (l := l.drop (j + 1)) (j := q - j - 1) (by omega)
        have hy1 : ((l.drop (j + 1)).take (q - j - 1)).length = q - j - 1 := by rw [List.length_take]; omega
        have hu : qAt (l.drop (j + 1)) (q - j - 1) = qAt l q := by
          unfold qAt
          rw [List.getElem?_drop, show j + 1 + (q - j - 1) = q from by omega]
        have hy2e : (l.drop (j + 1)).drop (q - j - 1 + 1) = l.drop (q + 1) := by
          rw [List.drop_drop, show j + 1 + (q - j - 1 + 1) = q + 1 from by omega]
        rw [hu, hy2e] at hd2
        have hy2 : ∀ s ∈ l.drop (q + 1), s < qAt l j := by
          refine qAt_all (fun i hi => ?_)
          rw [List.length_drop] at hi
          have : qAt (l.drop (q + 1)) i = qAt l (q + 1 + i) := by
            unfold qAt
            rw [List.getElem?_drop]
          rw [this]
          exact k3 _ (by omega) (by omega)
        have hy2l : (l.drop (q + 1)).length = l.length - (q + 1) := List.length_drop
        rw [hd2] at hdesc
        rw [hd2] at hd1
        generalize l.take j = x at hx hd1
        generalize hv : qAt l j = v at hd1 hlt c hne hy2 e1 sj k3
        generalize hu2 : qAt l q = u at hd1 hdesc c hne e2 sq
        generalize (l.drop (j + 1)).take (q - j - 1) = y1 at hd1 hdesc hy1
        generalize l.drop (q + 1) = y2 at hd1 hdesc hy2 hy2l
        have hvu : v < u := by omega
        -- the row with the two exchanged
        have hl1 : (x ++ u :: (y1 ++ v :: y2)).length = l.length := by
          rw [hd1]
          simp only [List.length_append, List.length_cons]
        have hlt1 : ∀ i, i < l.length → qAt (x ++ u :: (y1 ++ v :: y2)) i = if i = j then u else if i = q then v else qAt l i := by
          intro i hi
          rw [hd1]
          by_cases c1 : i < j
          · rw [if_neg (by omega), if_neg (by omega), qAt_l (by omega), qAt_l (by omega)]
          · by_cases c2 : i = j
            · rw [if_pos c2, c2, ← hx]
              exact qAt_xm
            · rw [if_neg c2, qAt_xc (x := x) (v := u) (by omega), qAt_xc (x := x) (v := v) (by omega), hx]
              by_cases c3 : i < q
              · rw [if_neg (by omega), qAt_l (l := y1) (by omega), qAt_l (l := y1) (by omega)]
              · by_cases c4 : i = q
                · rw [if_pos c4, c4, ← hy1]
                  exact qAt_xm
                · rw [if_neg c4, qAt_xc (x := y1) (v := v) (by omega), qAt_xc (x := y1) (v := u) (by omega)]
        have hmem : Rw ((qz_ui (qz_ui g 144 j (nI u)) 144 q (nI v)).1 144) (x ++ u :: (y1 ++ v :: y2)) := by
          intro i hi
          rw [hl1] at hi
          rw [qz_i1, if_pos rfl, qz_u1, qz_i1, if_pos rfl, qz_u1, hlt1 i hi]
          by_cases c2 : i = q
          · rw [if_pos c2, if_neg (by omega), if_pos c2]
          · rw [if_neg c2]
            by_cases c3 : i = j
            · rw [if_pos c3, if_pos c3]
            · rw [if_neg c3, if_neg c3, if_neg c2]
              exact hrow i hi
        have hfr : Frm [144] g (qz_ui (qz_ui g 144 j (nI u)) 144 q (nI v)) := ((Frm.rf _ g).ui 144 _ _ (by decide)).ui 144 _ _ (by decide)
        have hk87 : (qz_ui (qz_ui g 144 j (nI u)) 144 q (nI v)).1 12 87 = nI l.length := by rw [hfr.1 12 (by decide)]; exact h87
        generalize qz_ui (qz_ui g 144 j (nI u)) 144 q (nI v) = g1 at hmem hfr hk87 ⊢
        have hfin : ∀ g', Frm [144] g g' → Rw (g'.1 144) (x ++ u :: (y1 ++ v :: y2).reverse) → Q g' 1 0 := by
          intro g' hf' hr'
          have hp : l.Perm (x ++ u :: (y1 ++ v :: y2).reverse) := by
            rw [hd1]
            refine List.Perm.append_left x ?_
            refine List.Perm.trans ?_ (List.Perm.cons u (List.reverse_perm _).symm)
            refine (List.Perm.cons v List.perm_middle).trans ?_
            refine (List.Perm.swap u v (y1 ++ y2)).trans ?_
            exact List.Perm.cons u List.perm_middle.symm
          refine h1 g' _ hf' hp hr' ?_ (fun p hpp => ?_)
          · have hlen : (v :: (y1 ++ u :: y2)).length = (u :: (y1 ++ v :: y2).reverse).length := by
              simp only [List.length_append, List.length_cons, List.length_reverse]
            rw [hd1]
            refine (qCd_pre hlen x).mpr (qCd_lex hvu (by simpa using hlen) (fun s hs => h12 s ?_))
            rw [hd1]
            exact List.mem_append_right _ (List.mem_cons_of_mem _ hs)
          · have h12' := h12
            rw [hd1] at hpp h12' ⊢
            exact qCd_next hdesc hvu hy2 x p h12' hpp
        refine v_X12_nextRow_76 g1 _ ?_
        rw [hk87, nI_1]
        -- the rest is turned round
        have turn : ∀ (n t : Nat) (a : qz_G), l.length ≤ n + t → 2 * t + j + 1 ≤ l.length → Frm [144] g a → (∀ i, i < l.length → (i ≤ j → a.1 144 i = nI (qAt (x ++ u :: (y1 ++ v :: y2)) i)) ∧ (j < i → i < j + 1 + t ∨ l.length - 1 - t < i → a.1 144 i = nI (qAt (x ++ u :: (y1 ++ v :: y2)) (l.length + j - i))) ∧ (j + 1 + t ≤ i → i ≤ l.length - 1 - t → a.1 144 i = nI (qAt (x ++ u :: (y1 ++ v :: y2)) i))) → qz_WP X (d + 2) 280 Q 88 [(0, .ref 12), (3, .int (nI (j + 1 + t))), (4, .int (nI (l.length - 1 - t)))] [] a := by
          intro n
          induction n with
          | zero => intro t a ht1 ht2; omega
          | succ n ih =>
            intro t a ht1 ht2 hfa hta
            have ea := qz_nI (n := j + 1 + t) (by omega)
            have eb := qz_nI (n := l.length - 1 - t) (by omega)
            refine v_X12_nextRow_88 a _ _ ⟨fun z => ?_, fun z => ⟨qz_vi (by omega) (by omega), qz_vi (by omega) (by omega), ?_⟩⟩
            · rw [qz_le, ea, eb] at z
              refine hfin a hfa (fun i hi => ?_)
              have hlr : (x ++ u :: (y1 ++ v :: y2).reverse).length = l.length := by
                rw [hd1]
                simp only [List.length_append, List.length_cons, List.length_reverse]
              rw [hlr] at hi
              obtain ⟨t1, t2, t3⟩ := hta i hi
              by_cases c1 : i < j
              · rw [t1 (by omega), qAt_l (by omega), qAt_l (by omega)]
              · by_cases c2 : i = j
                · rw [t1 (by omega), c2, ← hx, qAt_xm, qAt_xm]
                · have hyv : (y1 ++ v :: y2).length = l.length - j - 1 := by
                    simp only [List.length_append, List.length_cons]
                    omega
                  have hval : a.1 144 i = nI (qAt (x ++ u :: (y1 ++ v :: y2)) (l.length + j - i)) := by
                    by_cases c3 : i < j + 1 + t ∨ l.length - 1 - t < i
                    · exact t2 (by omega) c3
                    · rw [t3 (by omega) (by omega), show l.length + j - i = i from by omega]
                  rw [hval, qAt_xc (x := x) (v := u) (r := y1 ++ v :: y2) (by omega), qAt_xc (x := x) (v := u) (r := (y1 ++ v :: y2).reverse) (by omega), hx, qAt_rev (by omega), hyv]
                  congr 2
                  omega
            · rw [qz_le, ea, eb] at z
              rw [nI_clamp (show j + 1 + t < 2147483648 by omega), nI_clamp (show l.length - 1 - t < 2147483648 by omega), nI_1]
              have e3 : nI (l.length - 1 - t) - 1 = nI (l.length - 1 - (t + 1)) := by
                obtain ⟨k, hk⟩ : ∃ k, l.length - 1 - t = k + 1 := ⟨l.length - 1 - t - 1, by omega⟩
                rw [hk, nI_pred, show l.length - 1 - (t + 1) = k from by omega]
              rw [e3, ((hta (l.length - 1 - t) (by omega)).2.2 (by omega) (by omega)), ((hta (j + 1 + t) (by omega)).2.2 (by omega) (by omega)), show j + 1 + t + 1 = j + 1 + (t + 1) from by omega]
              refine ih (t + 1) _ (by omega) (by omega) ((hfa.ui 144 _ _ (by decide)).ui 144 _ _ (by decide)) (fun i hi => ?_)
              obtain ⟨t1, t2, t3⟩ := hta i hi
              rw [qz_i1, if_pos rfl, qz_u1, qz_i1, if_pos rfl, qz_u1]
              by_cases c1 : i = l.length - 1 - t
              · rw [if_pos c1]
                refine ⟨fun z2 => by omega, fun z2 z3 => ?_, fun z2 z3 => by omega⟩
                rw [c1]
                congr 2
                omega
              · rw [if_neg c1]
                by_cases c2 : i = j + 1 + t
                · rw [if_pos c2]
                  refine ⟨fun z2 => by omega, fun z2 z3 => ?_, fun z2 z3 => by omega⟩
                  rw [c2]
                  congr 2
                  omega
                · rw [if_neg c2]
                  exact ⟨t1, fun z2 z3 => t2 z2 (by omega), fun z2 z3 => t3 (by omega) (by omega)⟩
        have e4 : nI l.length - 1 = nI (l.length - 1 - 0) := by
          obtain ⟨k, hk⟩ : ∃ k, l.length = k + 1 := ⟨l.length - 1, by omega⟩
          rw [hk, nI_pred, show k + 1 - 1 - 0 = k from by omega]
        rw [e4]
        exact turn l.length 0 g1 (by omega) (by omega) hfr (fun i hi => ⟨fun _ => hmem i (by omega), fun z2 z3 => by omega, fun _ _ => hmem i (by omega)⟩)
    · rintro _ ⟨k1, _⟩
      omega
  by_cases hm0 : l.length = 0
  · rw [hm0]
    refine v_X12_nextRow_7 g _ ⟨fun _ => v_X12_nextRow_35 g _ ⟨fun z => absurd z (by decide), fun _ => h0 (fun p hp => ?_)⟩, fun z => absurd (by decide) z⟩
    have e := List.eq_nil_of_length_eq_zero hm0
    rw [e] at hp ⊢
    rw [hp.nil_eq]
    exact Nat.le_refl _
  · have e2 : nI l.length - 2 = nI (l.length - 1) + (-1) := by
      have e1 := qz_nI (n := l.length - 1) (by omega)
      rw [qz_eq, qz_sb (by rw [em, qz_n2]; omega) (by rw [em, qz_n2]; omega), qz_ad (by rw [e1, qz_m1]; omega) (by rw [e1, qz_m1]; omega), em, e1, qz_n2, qz_m1]
      omega
    rw [e2]
    refine qz_down (α := Unit) (W := fun _ v => qz_WP X (d + 2) 280 Q 7 [(0, .ref 12), (1, .int v)] [] g) (fun k _ => k < l.length ∧ (l.drop k).Pairwise (fun a b => b < a)) 8 (by omega) ?_ ?_ _ () (by omega) ⟨by omega, ?_⟩
    · rintro j _ hj8 ⟨k1, k2⟩ cont
      have ej := qz_nI (n := j) (by omega)
      have ej1 := qz_nI (n := j + 1) (by omega)
      have sj := hs12 j (by omega)
      have sj1 := hs12 (j + 1) k1
      have e1 := qz_nI (n := qAt l j) (by omega)
      have e2 := qz_nI (n := qAt l (j + 1)) (by omega)
      have hne : ¬ qAt l j = qAt l (j + 1) := fun z => by
        rw [qAt_i (by omega), qAt_i (by omega)] at z
        have := (List.getElem_inj hnd).mp z
        omega
      refine v_X12_nextRow_7 g _ ⟨fun z => ?_, fun _ => ?_⟩
      · rw [qz_lt, ej, qz_n0] at z
        omega
      · rw [nI_1, nI_clamp (show j < 2147483648 by omega), nI_clamp (show j + 1 < 2147483648 by omega), hrow j (by omega), hrow (j + 1) k1, Int32.sub_eq_add_neg]
        refine ⟨qz_vi (by omega) (by omega), qz_vi (by omega) (by omega), fun c => ?_, fun c => ?_⟩
        · rw [qz_le, e1, e2] at c
          exact back j k1 k2 (by omega)
        · rw [qz_le, e1, e2] at c
          refine cont () ⟨by omega, ?_⟩
          rw [qAt_drop (by omega)]
          refine List.pairwise_cons.mpr ⟨fun s hs => ?_, k2⟩
          rw [qAt_drop k1] at hs k2
          rcases List.mem_cons.mp hs with hs | hs
          · rw [hs]; omega
          · have := (List.pairwise_cons.mp k2).1 s hs
            omega
    · rintro _ ⟨_, k2⟩
      refine v_X12_nextRow_7 g _ ⟨fun _ => v_X12_nextRow_35 g _ ⟨fun z => absurd z (by decide), fun _ => h0 (fun p hp => ?_)⟩, fun z => absurd (by decide) z⟩
      rw [List.drop_zero] at k2
      exact qCd_max l p k2 hp h12
    · rw [qAt_drop (by omega), show l.length - 1 + 1 = l.length from by omega, List.drop_length]
      exact List.pairwise_singleton _ _
