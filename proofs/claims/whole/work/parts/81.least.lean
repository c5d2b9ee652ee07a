/-! the least that the others add, by sets -/
theorem c_X4_leastAdded {X : qz_X} {S : List Nat} {kd : Nat} {c h : Nat → Nat} : ∀ (rem d : Nat) (Q : qz_Q) (a : qz_G) (U L : Nat), qSrch a S kd c h → qMm c h S a → U < 2 ^ S.length → (qUd S U).length ≤ rem → L ≤ 1000000 → (∀ a' m, qFz a a' → qMm c h S a' → qMin c h (qUd S U) L m → Q a' 0 (lN m)) → qz_Call X (d + 2 * rem + 2) 49 [.ref 9, .int (nI U), .long (lN L)] a Q := by
  intro rem
  induction rem with
  | zero =>
    intro d Q a U L hse hmm hU hlen hL hq
    obtain ⟨hS8, hS12, k9, k63, k11, hk8, hco, hcA⟩ := id hse
    have h256 := qz_256 hS8
    have fin : ¬ U + 1 < 2 ^ S.length → Q a 0 0 := fun z => by
      have h1 := hq a 0 (qFz.rf a) hmm (by rw [qUd_end hU z]; exact qMin_nil c h L)
      exact h1
    have hno : ¬ U + 1 < 2 ^ S.length := fun z => by
      obtain ⟨j, hj, hu⟩ := qUd_ne z
      have := qUd_less hj hu
      omega
    refine v_X4_leastAdded (d := d + 1) a _ _ ⟨fun z => absurd z (nI_pos (by omega)), fun _ => ?_⟩
    rw [k9, qz_shl1 _ (by omega), nI_1, nI_ltI (by omega) (by omega)]
    exact ⟨fun z => absurd z hno, fun z => fin z⟩
  | succ rem ih =>
    intro d Q a U L hse hmm hU hlen hL hq
    obtain ⟨hS8, hS12, k9, k63, k11, hk8, hco, hcA⟩ := id hse
    have h256 := qz_256 hS8
    have eS := qz_nI (n := S.length) (by omega)
    have fin : ¬ U + 1 < 2 ^ S.length → Q a 0 0 := fun z => by
      have h1 := hq a 0 (qFz.rf a) hmm (by rw [qUd_end hU z]; exact qMin_nil c h L)
      exact h1
    show qz_Call X (d + 2 * rem + 3 + 1) 49 [.ref 9, .int (nI U), .long (lN L)] a Q
    refine v_X4_leastAdded (d := d + 2 * rem + 3) a _ _ ⟨fun z => absurd z (nI_pos (by omega)), fun _ => ?_⟩
    rw [k9, qz_shl1 _ (by omega), nI_1, nI_ltI (by omega) (by omega)]
    refine ⟨fun z0 => ?_, fun z => fin z⟩
    refine c_X4_knownAt (d := d + 2 * rem + 2) a S c h hS8 hmm U L hU hL ⟨fun _ => ?_, fun z => absurd rfl z⟩ (fun k m hk e1 hmin => ⟨fun z => ?_, fun _ => ?_⟩)
    rotate_left
    · rw [qz_eq, qz_nI (by omega), qz_m1] at z
      omega
    · have ek := qz_nI (n := k) (by omega)
      rw [nI_clamp (by omega), e1]
      exact ⟨qz_vi (by omega) (by omega), hq a m (qFz.rf a) hmm hmin⟩
    refine qz_for (α := qz_G × Int64) (W := fun b v => qz_WP X (d + 2 * rem + 3 + 1) 49 Q 48 [(0, .ref 9), (1, .int (nI U)), (2, .long (lN L)), (5, .long b.2), (7, .int v)] [] b.1) (n := nI S.length) (fun i b => qFz a b.1 ∧ qMm c h S b.1 ∧ ((b.2 = -1 ∧ ∀ j, j < i → U.testBit j = true) ∨ ∃ m, b.2 = lN m ∧ (∃ j, j < i ∧ U.testBit j = false ∧ qMw c h S U L j m) ∧ ∀ j, j < i → U.testBit j = false → ∀ x, qMw c h S U L j x → m ≤ x)) (by omega) (by omega) (fun i b v hI ev cv hle cont => ?_) (a, -1) ⟨qFz.rf a, hmm, Or.inl ⟨rfl, fun j hj => by omega⟩⟩
    obtain ⟨fb, mb, hI⟩ := hI
    rw [eS] at hle cont
    have evn : v = nI i := by
      rw [qz_eq, ev, qz_nI (by omega)]
    subst evn
    have hseb := hse.fz fb
    refine v_X4_leastAdded_48 (d := d + 2 * rem + 3) b.1 _ _ b.2 _ ?_
    rw [hseb.2.2.1]
    refine ⟨fun z => ?_, fun z => ⟨fun z2 => ?_, fun z2 => ?_⟩⟩
    · rw [qz_le, eS, ev] at z
      rcases hI with ⟨e, hall⟩ | ⟨m, e, ⟨j, hj, hu, hx⟩, hall⟩
      · obtain ⟨j, hj, hu⟩ := qUd_ne z0
        rw [hall j (by omega)] at hu
        cases hu
      · have hmin := qMin_of ⟨j, by omega, hu, hx⟩ (fun j' hj' => hall j' (by omega))
        rw [e]
        exact c_X4_keep (d := d + 2 * rem + 2) b.1 S c h hS8 mb U L m hU hL hmin (fun a' f' m' => hq a' m (fb.tr f') m' hmin)
    · rw [qz_le, eS, ev] at z
      rw [b_bit _ (by omega), b_nI _ (by omega)] at z2
      have hu : U.testBit i = true := by
        cases hb : U.testBit i with
        | true => rfl
        | false => exact absurd hb z2
      refine cont b (by omega) ⟨fb, mb, ?_⟩
      rcases hI with ⟨e, hall⟩ | ⟨m, e, ⟨j, hj, huj, hx⟩, hall⟩
      · refine Or.inl ⟨e, fun j hj => ?_⟩
        rcases Nat.lt_or_ge j i with y | y
        · exact hall j y
        · rw [show j = i from by omega]
          exact hu
      · refine Or.inr ⟨m, e, ⟨j, by omega, huj, hx⟩, fun j' hj' hu' => ?_⟩
        rcases Nat.lt_or_ge j' i with y | y
        · exact hall j' y hu'
        · rw [show j' = i from by omega, hu] at hu'
          cases hu'
    · rw [qz_le, eS, ev] at z
      rw [b_bit _ (by omega), b_nI _ (by omega)] at z2
      have hi : i < S.length := by omega
      have hs := hS12 _ (qAt_memi hi)
      have hL' : L * (100 - h (qAt S i)) / 100 ≤ 1000000 := (qz_left hL (hco _ hs).2.2.2).2
      refine w_X4_addedWith (d := d + 2 * rem) b.1 hseb U L i hi hL (fun Q' hQ' => ih d Q' b.1 (U ||| 2 ^ i) _ hseb mb (qUd_or hU hi) (by have := qUd_less hi z2; omega) hL' hQ') (fun a' x f' m' hx => ?_)
      have hx63 := qMw_63 hcA hS8 hL hi z2 hx
      rw [lg_cmp_eq]
      rcases hI with ⟨e, hall⟩ | ⟨m, e, ⟨j, hj, huj, hxj⟩, hall⟩
      · refine ⟨fun y => absurd e y, fun _ => cont (a', lN x) (by omega) ⟨fb.tr f', m', Or.inr ⟨x, rfl, ⟨i, by omega, z2, hx⟩, fun j' hj' hu' y hy => ?_⟩⟩⟩
        rcases Nat.lt_or_ge j' i with y2 | y2
        · rw [hall j' y2] at hu'
          cases hu'
        · have e2 : j' = i := by omega
          subst e2
          exact Nat.le_of_eq (qMw_one hx hy)
      · have hm63 := qMw_63 hcA hS8 hL (by omega) huj hxj
        refine ⟨fun _ => ?_, fun y => ?_⟩
        · refine v_J9_min_f86c9 (d := d + 2 * rem + 2) a' _ _ ?_
          rw [e, lg_cmp_gt, pk_lLT hx63 hm63]
          refine ⟨fun y => cont (a', lN x) (by omega) ⟨fb.tr f', m', Or.inr ⟨x, rfl, ⟨i, by omega, z2, hx⟩, fun j' hj' hu' y' hy => ?_⟩⟩, fun y => cont (a', lN m) (by omega) ⟨fb.tr f', m', Or.inr ⟨m, rfl, ⟨j, by omega, huj, hxj⟩, fun j' hj' hu' y' hy => ?_⟩⟩⟩
          · rcases Nat.lt_or_ge j' i with y2 | y2
            · have := hall j' y2 hu' y' hy
              omega
            · have e2 : j' = i := by omega
              subst e2
              exact Nat.le_of_eq (qMw_one hx hy)
          · rcases Nat.lt_or_ge j' i with y2 | y2
            · exact hall j' y2 hu' y' hy
            · have e2 : j' = i := by omega
              subst e2
              have := qMw_one hx hy
              omega
        · have h1 := pk_lT hm63
          rw [← e, y] at h1
          have h2 : (-1 : Int64).toInt = -1 := by decide
          omega
theorem c_X4_firstOfLeast {X : qz_X} {d : Nat} {Q : qz_Q} {S : List Nat} {kd : Nat} {c h : Nat → Nat} (a : qz_G) (hse : qSrch a S kd c h) (hmm : qMm c h S a) (U L : Nat) (hU : U < 2 ^ S.length) (hL : L ≤ 1000000) (hne : U + 1 < 2 ^ S.length) (hq : ∀ a' j m, qFz a a' → qMm c h S a' → j < S.length → U.testBit j = false → qMin c h (qUd S U) L m → qMw c h S U L j m → (∀ i, i < j → U.testBit i = false → ¬ qMw c h S U L i m) → Q a' (nI j) 0) : qz_Call X (d + 19) 48 [.ref 9, .int (nI U), .long (lN L)] a Q := by
  obtain ⟨hS8, hS12, k9, k63, k11, hk8, hco, hcA⟩ := id hse
  have eS := qz_nI (n := S.length) (by omega)
  have hlen := qUd_len S U
  refine v_X4_firstOfLeast (d := d + 18) a _ _ (c_X4_leastAdded 8 d _ a U L hse hmm hU (by omega) hL (fun b0 m fb0 mb0 hmin => ?_))
  have hm63 := qMin_63 hcA (by omega) hL hmin
  refine qz_for (W := fun b v => qz_WP X (d + 19) 48 Q 11 [(0, .ref 9), (1, .int (nI U)), (2, .long (lN L)), (4, .long (lN m)), (6, .int v)] [] b) (n := nI S.length) (fun i b => qFz a b ∧ qMm c h S b ∧ ∀ j, j < i → U.testBit j = false → ¬ qMw c h S U L j m) (by omega) (by omega) (fun i b v hI ev cv hle cont => ?_) b0 ⟨fb0, mb0, fun j hj => by omega⟩
  obtain ⟨fb, mb, hI⟩ := hI
  rw [eS] at hle cont
  have evn : v = nI i := by
    rw [qz_eq, ev, qz_nI (by omega)]
  subst evn
  have hseb := hse.fz fb
  refine v_X4_firstOfLeast_11 (d := d + 18) b _ _ _ _ ?_
  rw [hseb.2.2.1]
  refine ⟨fun z => ?_, fun z => ⟨fun z2 => ?_, fun z2 => ?_⟩⟩
  · rw [qz_le, eS, ev] at z
    obtain ⟨j, hj, hu, hx⟩ := qMin_has (qUd_ne hne) hmin
    exact absurd hx (hI j (by omega) hu)
  · rw [qz_le, eS, ev] at z
    rw [b_bit _ (by omega), b_nI _ (by omega)] at z2
    refine cont b (by omega) ⟨fb, mb, fun j hj hu => ?_⟩
    rcases Nat.lt_or_ge j i with y | y
    · exact hI j y hu
    · rw [show j = i from by omega] at hu
      exact absurd hu z2
  · rw [qz_le, eS, ev] at z
    rw [b_bit _ (by omega), b_nI _ (by omega)] at z2
    have hi : i < S.length := by omega
    have hs := hS12 _ (qAt_memi hi)
    have hL' : L * (100 - h (qAt S i)) / 100 ≤ 1000000 := (qz_left hL (hco _ hs).2.2.2).2
    refine w_X4_addedWith (d := d + 15) b hseb U L i hi hL (fun Q' hQ' => c_X4_leastAdded 7 (d + 1) Q' b (U ||| 2 ^ i) _ hseb mb (qUd_or hU hi) (by have := qUd_less hi z2; omega) hL' hQ') (fun a' x f' m' hx => ?_)
    have hx63 := qMw_63 hcA hS8 hL hi z2 hx
    rw [lg_cmp_eq]
    refine ⟨fun y => cont a' (by omega) ⟨fb.tr f', m', fun j hj hu hxj => ?_⟩, fun y => ?_⟩
    · rcases Nat.lt_or_ge j i with y2 | y2
      · exact hI j y2 hu hxj
      · have e2 : j = i := by omega
        subst e2
        exact y (by rw [qMw_one hx hxj])
    · have e2 : x = m := by
        have h1 := pk_lT hx63
        have h2 := pk_lT hm63
        rw [y] at h1
        omega
      subst e2
      exact hq a' i x (fb.tr f') m' hi z2 hmin hx hI
