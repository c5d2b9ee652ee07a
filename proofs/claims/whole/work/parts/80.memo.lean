/-! what the search by sets keeps: rests that were met, and what the others add then -/
theorem qz_shl1 : ∀ n, n < 9 → (1 : Int32) <<< (nI n &&& 31) = nI (2 ^ n) := by decide +kernel
theorem qz_or1 (U : Nat) {j : Nat} (hj : j < 32) : nI U ||| (1 <<< (nI j &&& 31)) = nI (U ||| 2 ^ j) := by
  refine b_ext (fun i hi => ?_)
  rw [b_or, b_nI _ hi, b_one hj hi, b_nI _ hi, Nat.testBit_or, Nat.testBit_two_pow]
  rw [show decide (i = j) = decide (j = i) from decide_eq_decide.mpr ⟨Eq.symm, Eq.symm⟩]
theorem qz_ix4n (U i : Nat) : nI U * 4 + nI i = nI (4 * U + i) := by
  rw [show (4 : Int32) = nI 4 from by decide, nI_mul, nI_add, Nat.mul_comm]
theorem qz_256 {S : List Nat} (hS8 : S.length ≤ 8) : 2 ^ S.length ≤ 256 := Nat.pow_le_pow_right (n := 2) (by decide) hS8
def qMm (c h : Nat → Nat) (S : List Nat) (a : qz_G) : Prop := ∀ u, u < 2 ^ S.length → ∃ n, n ≤ 4 ∧ a.1 64 u = nI n ∧ ∀ i, i < n → ∃ L m, L ≤ 1000000 ∧ a.2 66 (4 * u + i) = lN L ∧ a.2 150 (4 * u + i) = lN m ∧ qMin c h (qUd S u) L m
/-- all that the search reads and never writes -/
def qSrch (g : qz_G) (S : List Nat) (kd : Nat) (c h : Nat → Nat) : Prop := S.length ≤ 8 ∧ (∀ s ∈ S, s < 12) ∧ g.1 9 9 = nI S.length ∧ Rw (g.1 63) S ∧ g.1 9 11 = nI kd ∧ kd < 8 ∧ qCo (g.1 61) (g.1 62) kd c h ∧ (∀ s, c s ≤ 10000)
def qFz (g a : qz_G) : Prop := (∀ r, ¬ r = 64 → a.1 r = g.1 r) ∧ (∀ o, ¬ o = 66 → ¬ o = 150 → a.2 o = g.2 o)
theorem qFz.rf (g : qz_G) : qFz g g := ⟨fun _ _ => rfl, fun _ _ _ => rfl⟩
theorem qFz.tr {g a b : qz_G} (h1 : qFz g a) (h2 : qFz a b) : qFz g b := ⟨fun r hr => (h2.1 r hr).trans (h1.1 r hr), fun o e1 e2 => (h2.2 o e1 e2).trans (h1.2 o e1 e2)⟩
theorem qSrch.fz {g a : qz_G} {S : List Nat} {kd : Nat} {c h : Nat → Nat} (hs : qSrch g S kd c h) (hf : qFz g a) : qSrch a S kd c h := by
  unfold qSrch at hs ⊢
  rw [hf.1 9 (by decide), hf.1 63 (by decide), hf.1 61 (by decide), hf.1 62 (by decide)]
  exact hs
theorem c_X4_knownAt {X : qz_X} {d : Nat} {Q : qz_Q} (a : qz_G) (S : List Nat) (c h : Nat → Nat) (hS8 : S.length ≤ 8) (hm : qMm c h S a) (U L : Nat) (hU : U < 2 ^ S.length) (hL : L ≤ 1000000) (hno : Q a (-1) 0) (hyes : ∀ k m, k < 1024 → a.2 150 k = lN m → qMin c h (qUd S U) L m → Q a (nI k) 0) : qz_Call X (d + 1) 51 [.ref 9, .int (nI U), .long (lN L)] a Q := by
  have h256 := qz_256 hS8
  obtain ⟨n, hn, en, hall⟩ := hm U hU
  have enI := qz_nI (n := n) (by omega)
  have eU := qz_nI (n := U) (by omega)
  refine v_X4_knownAt a _ _ ?_
  refine qz_for (α := Nat) (W := fun _ v => qz_WP X (d + 1) 51 Q 3 [(0, .ref 9), (1, .int (nI U)), (2, .long (lN L)), (4, .int v)] [] a) (n := nI n) (fun _ _ => True) (by omega) (by omega) (fun i b v _ ev cv hle cont => ?_) 0 trivial
  rw [enI] at hle cont
  have evn : v = nI i := by
    rw [qz_eq, ev, qz_nI (by omega)]
  subst evn
  refine v_X4_knownAt_3 a _ _ _ ?_
  rw [nI_clamp (show U < 2147483648 by omega), en, qz_ix4n, nI_clamp (show 4 * U + i < 2147483648 by omega), lg_cmp_eq]
  refine ⟨qz_vi (by omega) (by omega), fun _ => hno, fun z => ?_⟩
  rw [qz_le, enI, ev] at z
  have hi : i < n := by omega
  obtain ⟨L', m, hL', e1, e2, hmin⟩ := hall i hi
  have e4 := qz_nI (n := 4 * U + i) (by omega)
  rw [e1]
  refine ⟨qz_vi (by omega) (by omega), fun _ => cont 0 (by omega) trivial, fun z2 => ?_⟩
  have eL : L' = L := (lN_eq (by omega) (by omega)).mp z2
  subst eL
  exact hyes _ m (by omega) e2 hmin
theorem c_X4_keep {X : qz_X} {d : Nat} {Q : qz_Q} (a : qz_G) (S : List Nat) (c h : Nat → Nat) (hS8 : S.length ≤ 8) (hm : qMm c h S a) (U L m : Nat) (hU : U < 2 ^ S.length) (hL : L ≤ 1000000) (hmin : qMin c h (qUd S U) L m) (hq : ∀ a', qFz a a' → qMm c h S a' → Q a' 0 0) : qz_Call X (d + 1) 52 [.ref 9, .int (nI U), .long (lN L), .long (lN m)] a Q := by
  have h256 := qz_256 hS8
  obtain ⟨n, hn, en, hall⟩ := hm U hU
  have enI := qz_nI (n := n) (by omega)
  have eU := qz_nI (n := U) (by omega)
  refine v_X4_keep a _ _ _ ?_
  rw [nI_clamp (show U < 2147483648 by omega), en, qz_ix4n, nI_clamp (show 4 * U + n < 2147483648 by omega), nI_1]
  refine ⟨qz_vi (by omega) (by omega), fun _ => hq a (qFz.rf a) hm, fun z => ?_⟩
  rw [qz_le, qz_n4, enI] at z
  have e4 := qz_nI (n := 4 * U + n) (by omega)
  refine ⟨qz_vi (by omega) (by omega), hq _ ⟨fun r hr => ?_, fun o h1 h2 => ?_⟩ (fun u hu => ?_)⟩
  · rw [qz_i1, if_neg hr, qz_l1, qz_l1]
  · rw [qz_i2, qz_l2, if_neg h2, qz_l2, if_neg h1]
  · by_cases cu : u = U
    · subst cu
      refine ⟨n + 1, by omega, ?_, fun i hi => ?_⟩
      · rw [qz_i1, if_pos rfl, qz_u1, if_pos rfl]
      · by_cases ci : i = n
        · subst ci
          refine ⟨L, m, hL, ?_, ?_, hmin⟩
          · rw [qz_i2, qz_l2, if_neg (by decide), qz_l2, if_pos rfl, qz_u2, if_pos rfl]
          · rw [qz_i2, qz_l2, if_pos rfl, qz_u2, if_pos rfl]
        · obtain ⟨L', m', x1, x2, x3, x4⟩ := hall i (by omega)
          refine ⟨L', m', x1, ?_, ?_, x4⟩
          · rw [qz_i2, qz_l2, if_neg (by decide), qz_l2, if_pos rfl, qz_u2, if_neg (by omega)]
            exact x2
          · rw [qz_i2, qz_l2, if_pos rfl, qz_u2, if_neg (by omega), qz_l2, if_neg (by decide)]
            exact x3
    · obtain ⟨n', hn', en', hall'⟩ := hm u hu
      refine ⟨n', hn', ?_, fun i hi => ?_⟩
      · rw [qz_i1, if_pos rfl, qz_u1, if_neg cu, qz_l1, qz_l1]
        exact en'
      · obtain ⟨L', m', x1, x2, x3, x4⟩ := hall' i hi
        refine ⟨L', m', x1, ?_, ?_, x4⟩
        · rw [qz_i2, qz_l2, if_neg (by decide), qz_l2, if_pos rfl, qz_u2, if_neg (by omega)]
          exact x2
        · rw [qz_i2, qz_l2, if_pos rfl, qz_u2, if_neg (by omega), qz_l2, if_neg (by decide)]
          exact x3
theorem w_X4_addedWith {X : qz_X} {d : Nat} {Q : qz_Q} {S : List Nat} {kd : Nat} {c h : Nat → Nat} (a : qz_G) (hse : qSrch a S kd c h) (U L j : Nat) (hj : j < S.length) (hL : L ≤ 1000000)
    (hla : ∀ Q' : qz_Q, (∀ a' m, qFz a a' → qMm c h S a' → qMin c h (qUd S (U ||| 2 ^ j)) (L * (100 - h (qAt S j)) / 100) m → Q' a' 0 (lN m)) → qz_Call X (d + 2) 49 [.ref 9, .int (nI (U ||| 2 ^ j)), .long (lN (L * (100 - h (qAt S j)) / 100))] a Q')
    (hq : ∀ a' x, qFz a a' → qMm c h S a' → qMw c h S U L j x → Q a' 0 (lN x)) : qz_Call X (d + 3) 50 [.ref 9, .int (nI j), .int (nI U), .long (lN L)] a Q := by
  obtain ⟨hS8, hS12, k9, k63, k11, hk8, hco, hcA⟩ := id hse
  have hs := hS12 _ (qAt_memi hj)
  obtain ⟨o1, o2, o3, o4⟩ := hco (qAt S j) hs
  have es := qz_nI (n := qAt S j) (by omega)
  have ej := qz_nI (n := j) (by omega)
  have ek := qz_nI (n := kd) (by omega)
  refine v_X4_addedWith (d := d) a _ _ _ ?_
  rw [nI_clamp (show j < 2147483648 by omega), k63 j hj, k11, nI_clamp (show qAt S j < 2147483648 by omega), nI_clamp (show kd < 2147483648 by omega), o1, o3, (qz_left hL o4).1, qz_or1 U (by omega)]
  refine ⟨qz_vi (by omega) (by omega), ⟨by rw [qz_lt, es, qz_n0]; omega, by rw [qz_le, es, qz_n12]; omega⟩, ⟨by rw [qz_lt, ek, qz_n0]; omega, by rw [qz_le, ek, qz_n8]; omega⟩, ?_⟩
  refine hla _ (fun a' m f' m' hmin => ?_)
  rw [nI_l (by omega), lN_mul, lN_add]
  exact hq a' _ f' m' ⟨m, hmin, rfl⟩
