/-! the class ranks sources -/
def qBT (c h : Nat → Nat) (a b : Nat) : Prop := h b = 0 ∨ (¬ h a = 0 ∧ c a * h b ≤ c b * h a)
theorem qBT_R {c h : Nat → Nat} {a b : Nat} (t : qBT c h a b) : qBR c h a b := by
  unfold qBR
  rcases t with e | e
  · rw [e, Nat.mul_zero]
    exact Nat.zero_le _
  · exact e.2
theorem qBT_tr {c h : Nat → Nat} {a b e : Nat} (t1 : qBT c h a b) (t2 : qBT c h b e) : qBT c h a e := by
  rcases t2 with z | ⟨z1, z2⟩
  · exact Or.inl z
  · rcases t1 with y | ⟨y1, y2⟩
    · exact absurd y z1
    · refine Or.inr ⟨y1, ?_⟩
      have hb : 0 < h b := Nat.pos_of_ne_zero z1
      refine Nat.le_of_mul_le_mul_left (c := h b) ?_ hb
      have x1 : c a * h b * h e ≤ c b * h a * h e := Nat.mul_le_mul_right _ y2
      have x2 : c b * h e * h a ≤ c e * h b * h a := Nat.mul_le_mul_right _ z2
      have e1 : h b * (c a * h e) = c a * h b * h e := by rw [Nat.mul_left_comm, Nat.mul_assoc]
      have e2 : c b * h a * h e = c b * h e * h a := Nat.mul_right_comm _ _ _
      have e3 : h b * (c e * h a) = c e * h b * h a := by rw [Nat.mul_left_comm, Nat.mul_assoc]
      omega
def qBet (c h : Nat → Nat) (s r : Nat) : Prop := ¬ h s = 0 ∧ (h r = 0 ∨ c s * h r < c r * h s)
theorem qBet_T {c h : Nat → Nat} {s r : Nat} (b : qBet c h s r) : qBT c h s r := by
  rcases b with ⟨b1, b2 | b2⟩
  · exact Or.inl b2
  · exact Or.inr ⟨b1, Nat.le_of_lt b2⟩
theorem qBet_n {c h : Nat → Nat} {s r : Nat} (b : ¬ qBet c h s r) : qBT c h r s := by
  by_cases c1 : h s = 0
  · exact Or.inl c1
  · refine Or.inr ⟨fun z => b ⟨c1, Or.inl z⟩, ?_⟩
    exact Nat.le_of_not_lt (fun z => b ⟨c1, Or.inr z⟩)
/-- what stays in the object of orders while orders are sought -/
def qF9 (j : Nat) (g g' : qz_G) : Prop := ∀ k, ¬ k = j → g'.1 9 k = g.1 9 k
theorem c_X4_rank {X : qz_X} {d : Nat} {Q : qz_Q} (g : qz_G) (S : List Nat) (kd : Nat) (c h : Nat → Nat) (hS8 : S.length ≤ 8) (hS12 : ∀ s ∈ S, s < 12) (h8 : g.1 9 8 = nI S.length) (hrow : Rw (g.1 63) S) (hk : g.1 9 11 = nI kd) (hk8 : kd < 8) (hco : qCo (g.1 61) (g.1 62) kd c h)
    (hq : ∀ g' R, Frm [9, 64] g g' → qF9 10 g g' → S.Perm R → R.Pairwise (qBT c h) → Rw (g'.1 64) R → (∀ s, s < 32 → (bt (g'.1 9 10) s = true ↔ (s ∈ S ∧ ¬ h s % 100 = 0))) → Q g' 0 0) : qz_Call X (d + 3) 48 [.ref 9] g Q := by
  have eS := qz_nI (n := S.length) (by omega)
  have ekd := qz_nI (n := kd) (by omega)
  have ckd : (nI kd).toNatClampNeg = kd := nI_clamp (by omega)
  have hkR : qR (nI kd) 8 := ⟨by rw [qz_lt, ekd, qz_n0]; omega, by rw [qz_le, ekd, qz_n8]; omega⟩
  have sR : ∀ s, s < 12 → qR (nI s) 12 ∧ (nI s).toNatClampNeg = s := fun s hs => ⟨⟨by rw [qz_lt, qz_nI (by omega), qz_n0]; omega, by rw [qz_le, qz_nI (by omega), qz_n12]; omega⟩, nI_clamp (by omega)⟩
  have f0 : Frm [9, 64] g (qz_ui g 9 10 0) := (Frm.rf _ g).ui 9 10 0 (by decide)
  refine v_X4_rank g ?_
  refine qz_for (W := fun a v => qz_WP X (d + 3) 48 Q 7 [(0, .ref 9), (1, .int v)] [] a) (n := nI S.length) (fun i a => Frm [9, 64] g a ∧ qF9 10 g a ∧ ∃ R : List Nat, (S.take i).Perm R ∧ R.Pairwise (qBT c h) ∧ Rw (a.1 64) R ∧ ∀ s, s < 32 → (bt (a.1 9 10) s = true ↔ (s ∈ S.take i ∧ ¬ h s % 100 = 0))) (by omega) (by omega) (fun i a v hI ev cv hle cont => ?_) _ ⟨f0, fun k hk => by rw [qz_i1, if_pos rfl, qz_u1, if_neg hk], [], List.Perm.refl _, List.Pairwise.nil, fun j hj => (by cases hj), fun s hs => ?_⟩
  rotate_left
  · rw [qz_i1, if_pos rfl, qz_u1, if_pos rfl, b_0]
    exact ⟨fun z => (by cases z), fun z => (by cases z.1)⟩
  obtain ⟨fa, f9, R, hpR, hsR, hrR, hbR⟩ := hI
  rw [eS] at hle cont
  have a8 : a.1 9 8 = nI S.length := by rw [f9 8 (by decide)]; exact h8
  have a11 : a.1 9 11 = nI kd := by rw [f9 11 (by decide)]; exact hk
  have a63 : a.1 63 = g.1 63 := fa.1 63 (by decide)
  have a61 : a.1 61 = g.1 61 := fa.1 61 (by decide)
  have a62 : a.1 62 = g.1 62 := fa.1 62 (by decide)
  have evn : v = nI i := by
    rw [qz_eq, ev, qz_nI (by omega)]
  subst evn
  refine v_X4_rank_7 a _ ?_
  rw [a8, a11, ckd, cv, a63, a62]
  refine ⟨fun z => ?_, fun z => ?_⟩
  · rw [qz_le, eS, ev] at z
    rw [List.take_of_length_le (by omega)] at hpR hbR
    exact hq a R fa f9 hpR hsR hrR hbR
  rw [qz_le, eS, ev] at z
  have hi : i < S.length := by omega
  have hs := hS12 _ (qAt_memi hi)
  obtain ⟨o1, o2, o3, o4⟩ := hco (qAt S i) hs
  obtain ⟨sr, sc⟩ := sR _ hs
  have htk := qAt_take hi
  have hRl : R.length = i := by
    rw [← hpR.length_eq, List.length_take]
    omega
  have hR12 : ∀ j, j < R.length → qAt R j < 12 := fun j hj => hS12 _ (List.mem_of_mem_take (hpR.symm.subset (qAt_memi hj)))
  rw [hrow i hi, sc, o3]
  -- the place is sought
  have seek : ∀ (a1 : qz_G), Frm [9, 64] g a1 → qF9 10 g a1 → Rw (a1.1 64) R → (∀ s, s < 32 → (bt (a1.1 9 10) s = true ↔ (s ∈ S.take (i + 1) ∧ ¬ h s % 100 = 0))) → qz_WP X (d + 3) 48 Q 48 [(0, .ref 9), (1, .int (nI i))] [] a1 := by
    intro a1 g1 g9 gR gb
    refine v_X4_rank_48 a1 _ ?_
    have stop : ∀ (k : Nat) (b : qz_G), k ≤ i → Frm [9, 64] g b → qF9 10 g b → b.1 9 10 = a1.1 9 10 → (∀ j, j < k → b.1 64 j = nI (qAt R j)) → (∀ j, k < j → j ≤ i → b.1 64 j = nI (qAt R (j - 1))) → (∀ j, k ≤ j → j < i → qBet c h (qAt S i) (qAt R j)) → (k = 0 ∨ ¬ qBet c h (qAt S i) (qAt R (k - 1))) → qz_WP X (d + 3) 48 Q 95 [(0, .ref 9), (1, .int (nI i)), (2, .int (nI k))] [] b := by
      intro k b hk1 fb fb9 hb10 hlow hhigh hbet hend
      have ek := qz_nI (n := k) (by omega)
      refine v_X4_rank_95 b _ _ ⟨qz_vi (by omega) (by omega), qz_vi (by omega) (by omega), ?_⟩
      rw [cv, nI_clamp (show k < 2147483648 by omega), fb.1 63 (by decide), hrow i hi]
      have hlen : (R.take k ++ qAt S i :: R.drop k).length = i + 1 := by
        rw [List.length_append, List.length_cons, List.length_take, List.length_drop]
        omega
      have hkl : (R.take k).length = k := by rw [List.length_take]; omega
      refine v_X4_rank_107 _ _ (cont _ (by omega) ⟨fb.ui 64 _ _ (by decide), fun j hj => by rw [qz_i1, if_neg (by decide)]; exact fb9 j hj, R.take k ++ qAt S i :: R.drop k, ?_, ?_, fun j hj => ?_, fun s hs => ?_⟩)
      · rw [htk]
        refine List.Perm.trans ?_ List.perm_middle.symm
        refine (List.perm_append_comm).trans ?_
        refine List.Perm.cons _ ?_
        rw [List.take_append_drop]
        exact hpR
      · have hsplit : (R.take k ++ R.drop k).Pairwise (qBT c h) := by rw [List.take_append_drop]; exact hsR
        obtain ⟨p1, p2, p3⟩ := List.pairwise_append.mp hsplit
        have hfront : ∀ x ∈ R.take k, qBT c h x (qAt S i) := by
          rcases hend with hend | hend
          · intro x hx
            rw [hend, List.take_zero] at hx
            cases hx
          · by_cases k0 : k = 0
            · intro x hx
              rw [k0, List.take_zero] at hx
              cases hx
            · have hkk : k - 1 < R.length := by omega
              have e1 : R.take k = R.take (k - 1) ++ [qAt R (k - 1)] := by
                have := qAt_take hkk
                rw [show k - 1 + 1 = k from by omega] at this
                exact this
              intro x hx
              rw [e1] at hx p1
              rcases List.mem_append.mp hx with hx | hx
              · exact qBT_tr ((List.pairwise_append.mp p1).2.2 x hx _ (List.mem_singleton.mpr rfl)) (qBet_n hend)
              · rw [List.mem_singleton.mp hx]
                exact qBet_n hend
        have hback : ∀ x ∈ R.drop k, qBT c h (qAt S i) x := by
          refine qAt_all (fun j hj => ?_)
          rw [List.length_drop] at hj
          have : qAt (R.drop k) j = qAt R (k + j) := by
            unfold qAt
            rw [List.getElem?_drop]
          rw [this]
          exact qBet_T (hbet _ (by omega) (by omega))
        refine List.pairwise_append.mpr ⟨p1, List.pairwise_cons.mpr ⟨hback, p2⟩, fun x hx y hy => ?_⟩
        rcases List.mem_cons.mp hy with hy | hy
        · rw [hy]; exact hfront x hx
        · exact p3 x hx y hy
      · rw [hlen] at hj
        rw [qz_i1, if_pos rfl, qz_u1]
        by_cases c1 : j = k
        · rw [if_pos c1, c1]
          have : qAt (R.take k ++ qAt S i :: R.drop k) (R.take k).length = qAt S i := qAt_xm
          rw [hkl] at this
          rw [this]
        · rw [if_neg c1]
          by_cases c2 : j < k
          · rw [hlow j c2, qAt_l (by omega)]
            have e : qAt (R.take k) j = qAt R j := by
              unfold qAt
              rw [List.getElem?_take, if_pos c2]
            rw [e]
          · rw [hhigh j (by omega) (by omega), qAt_xc (by omega), hkl]
            have e : qAt (R.drop k) (j - k - 1) = qAt R (k + (j - k - 1)) := by
              unfold qAt
              rw [List.getElem?_drop]
            rw [e, show k + (j - k - 1) = j - 1 from by omega]
      · rw [qz_i1, if_neg (by decide), hb10]
        exact gb s hs
    have loop : ∀ (k : Nat) (b : qz_G), k ≤ i → Frm [9, 64] g b → qF9 10 g b → b.1 9 10 = a1.1 9 10 → (∀ j, j < k → b.1 64 j = nI (qAt R j)) → (∀ j, k < j → j ≤ i → b.1 64 j = nI (qAt R (j - 1))) → (∀ j, k ≤ j → j < i → qBet c h (qAt S i) (qAt R j)) → qz_WP X (d + 3) 48 Q 50 [(0, .ref 9), (1, .int (nI i)), (2, .int (nI k))] [] b := by
      intro k
      induction k with
      | zero =>
        intro b hk1 fb fb9 hb10 hlow hhigh hbet
        exact v_X4_rank_50 b _ _ ⟨fun _ => stop 0 b hk1 fb fb9 hb10 hlow hhigh hbet (Or.inl rfl), fun z2 => absurd (by decide) z2⟩
      | succ k ih =>
        intro b hk1 fb fb9 hb10 hlow hhigh hbet
        have ek := qz_nI (n := k + 1) (by omega)
        have ek0 := qz_nI (n := k) (by omega)
        have hr12 := hR12 k (by omega)
        obtain ⟨q1, q2, q3, q4⟩ := hco (qAt R k) hr12
        obtain ⟨rr, rc⟩ := sR _ hr12
        refine v_X4_rank_50 b _ _ ⟨fun z2 => ?_, fun _ => ?_⟩
        · rw [qz_le, ek, qz_n0] at z2
          omega
        rw [nI_pred, nI_clamp (show k < 2147483648 by omega), cv, fb.1 63 (by decide), hrow i hi, sc, fb9 11 (by decide), hk, ckd, fb.1 62 (by decide), fb.1 61 (by decide), o3, hlow k (by omega), rc, q3, q1, o1, nI_mul, nI_mul]
        have hm1 : c (qAt R k) * h (qAt S i) ≤ 10000 * 100 := Nat.mul_le_mul q2 o4
        have hm2 : c (qAt S i) * h (qAt R k) ≤ 10000 * 100 := Nat.mul_le_mul o2 q4
        have e0 : ∀ x, x ≤ 100 → (nI x = 0 ↔ x = 0) := fun x hx => ⟨fun z2 => nI_inj (b := 0) (by omega) (by omega) z2, fun z2 => by rw [z2]; rfl⟩
        rw [e0 _ o4, e0 _ q4, nI_leI (by omega) (by omega)]
        have more : qBet c h (qAt S i) (qAt R k) → qz_WP X (d + 3) 48 Q 75 [(0, .ref 9), (1, .int (nI i)), (2, .int (nI (k + 1)))] [] b := by
          intro hb2
          refine v_X4_rank_75 b _ _ ?_
          rw [nI_pred, nI_clamp (show k < 2147483648 by omega), nI_clamp (show k + 1 < 2147483648 by omega), hlow k (by omega)]
          refine ⟨qz_vi (by omega) (by omega), qz_vi (by omega) (by omega), v_X4_rank_89 _ _ _ ?_⟩
          rw [← Int32.sub_eq_add_neg, nI_pred]
          refine ih _ (by omega) (fb.ui 64 _ _ (by decide)) (fun j hj => by rw [qz_i1, if_neg (by decide)]; exact fb9 j hj) (by rw [qz_i1, if_neg (by decide)]; exact hb10) (fun j hj => ?_) (fun j hj1 hj2 => ?_) (fun j hj1 hj2 => ?_)
          · rw [qz_i1, if_pos rfl, qz_u1, if_neg (by omega)]
            exact hlow j (by omega)
          · rw [qz_i1, if_pos rfl, qz_u1]
            by_cases cj : j = k + 1
            · rw [if_pos cj, cj, show k + 1 - 1 = k from by omega]
            · rw [if_neg cj]
              exact hhigh j (by omega) hj2
          · by_cases cj : j = k
            · rw [cj]; exact hb2
            · exact hbet j (by omega) hj2
        have no : ¬ qBet c h (qAt S i) (qAt R k) → qz_WP X (d + 3) 48 Q 95 [(0, .ref 9), (1, .int (nI i)), (2, .int (nI (k + 1)))] [] b := fun hb2 => stop (k + 1) b hk1 fb fb9 hb10 hlow hhigh hbet (Or.inr hb2)
        exact ⟨qz_vi (by omega) (by omega), qz_vi (by omega) (by omega), sr, hkR, fun c1 => ⟨rr, fun c2 => more ⟨c1, Or.inl c2⟩, fun c2 => ⟨fun c3 => no (fun z2 => z2.2.elim c2 (fun z3 => by omega)), fun c3 => more ⟨c1, Or.inr (by omega)⟩⟩⟩, fun c1 => no (fun z2 => z2.1 c1)⟩
    exact loop i a1 (Nat.le_refl _) g1 g9 rfl (fun j hj => gR j (by omega)) (fun j h1 h2 => by omega) (fun j h1 h2 => by omega)
  have hdv := (qz_dv (n := h (qAt S i)) (a := 100) (by omega) (by omega) (by omega)).2
  have e0 : nI (h (qAt S i) % 100) = 0 ↔ h (qAt S i) % 100 = 0 := ⟨fun z2 => nI_inj (b := 0) (by omega) (by omega) z2, fun z2 => by rw [z2]; rfl⟩
  refine ⟨qz_vi (by omega) (by omega), sr, hkR, fun c1 => seek a fa f9 hrR (fun s hs => ?_), fun c1 => seek _ (fa.ui 9 _ _ (by decide)) (fun j hj => by rw [qz_i1, if_pos rfl, qz_u1, if_neg hj]; exact f9 j hj) (fun j hj => by rw [qz_i1, if_neg (by decide)]; exact hrR j hj) (fun s hs => ?_)⟩
  · have c1' : h (qAt S i) % 100 = 0 := e0.mp (by rw [← hdv]; exact c1)
    rw [hbR s hs, htk, List.mem_append, List.mem_singleton]
    constructor
    · rintro ⟨x1, x2⟩
      exact ⟨Or.inl x1, x2⟩
    · rintro ⟨x1 | x1, x2⟩
      · exact ⟨x1, x2⟩
      · rw [x1] at x2
        exact absurd c1' x2
  · have c1' : ¬ h (qAt S i) % 100 = 0 := fun z2 => c1 (by rw [← e0] at z2; rw [← hdv] at z2; exact z2)
    rw [qz_i1, if_pos rfl, qz_u1, if_pos rfl, b_or, b_one (by omega) hs, Bool.or_eq_true, hbR s hs, htk, List.mem_append, List.mem_singleton]
    constructor
    · rintro (⟨x1, x2⟩ | x1)
      · exact ⟨Or.inl x1, x2⟩
      · have e := of_decide_eq_true x1
        rw [e]
        exact ⟨Or.inr rfl, c1'⟩
    · rintro ⟨x1 | x1, x2⟩
      · exact Or.inl ⟨x1, x2⟩
      · exact Or.inr (decide_eq_true x1)
