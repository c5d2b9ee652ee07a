/-! what the rest adds at least -/
theorem qz_4095 (x : Int32) (h : ∀ s, 12 ≤ s → s < 32 → bt x s = false) : qI x 0 4095 := by
  have e : x &&& 4095 = x := by
    refine b_ext (fun i hi => ?_)
    rw [b_and]
    by_cases c : i < 12
    · rw [(by decide : ∀ i, i < 12 → bt 4095 i = true) i c, Bool.and_true]
    · rw [h i (by omega) hi, Bool.false_and]
  have h1 : (x &&& 4095).toBitVec.toNat < 4096 := by
    rw [Int32.toBitVec_and, BitVec.toNat_and]
    exact Nat.lt_of_le_of_lt Nat.and_le_right (by decide)
  have h2 : x &&& 4095 = nI (x &&& 4095).toBitVec.toNat := by
    refine Int32.toBitVec_inj.mp ?_
    show _ = BitVec.ofNat 32 _
    rw [BitVec.ofNat_toNat, BitVec.setWidth_eq]
  rw [e] at h2 h1
  have n4095 : (4095 : Int32).toInt = 4095 := by decide
  have e3 := qz_nI (n := x.toBitVec.toNat) (by omega)
  rw [← h2] at e3
  exact ⟨by rw [qz_lt, e3, qz_n0]; omega, by rw [qz_lt, e3, n4095]; omega⟩
def qCn (b : Nat → Bool) : Nat → Nat
  | 0 => 0
  | n + 1 => qCn b n + (if b n then 1 else 0)
theorem qCn_congr {b b' : Nat → Bool} : ∀ (n : Nat), (∀ s, s < n → b s = b' s) → qCn b n = qCn b' n
  | 0, _ => rfl
  | n + 1, h => by
    show qCn b n + (if b n then 1 else 0) = qCn b' n + (if b' n then 1 else 0)
    rw [qCn_congr n (fun s hs => h s (by omega)), h n (by omega)]
theorem qCn_le (b : Nat → Bool) : ∀ n, qCn b n ≤ n
  | 0 => Nat.le_refl _
  | n + 1 => by
    have := qCn_le b n
    show qCn b n + (if b n then 1 else 0) ≤ n + 1
    by_cases c : b n = true
    · rw [if_pos c]; omega
    · rw [if_neg c]; omega
theorem qCn_add {b : Nat → Bool} {a : Nat} (ha : b a = false) : ∀ (n : Nat), qCn (fun s => decide (s = a) || b s) n = qCn b n + (if a < n then 1 else 0)
  | 0 => by
    show 0 = 0 + (if a < 0 then 1 else 0)
    rw [if_neg (by omega)]
  | n + 1 => by
    show qCn (fun s => decide (s = a) || b s) n + (if (decide (n = a) || b n) = true then 1 else 0) = qCn b n + (if b n then 1 else 0) + (if a < n + 1 then 1 else 0)
    rw [qCn_add ha n]
    by_cases c : n = a
    · subst c
      simp [ha]
    · rw [decide_eq_false c, Bool.false_or]
      by_cases c2 : a < n
      · rw [if_pos c2, if_pos (show a < n + 1 by omega)]
        omega
      · rw [if_neg c2, if_neg (show ¬ a < n + 1 by omega)]
        omega
theorem qCn_rh {h : Nat → Nat} : ∀ (U : List Nat), U.Nodup → (∀ s ∈ U, s < 12) → qCn (fun s => decide (s ∈ U ∧ ¬ h s % 100 = 0)) 12 = qRh h U
  | [], _, _ => by
    show _ = 0
    rw [qCn_congr (b' := fun _ => false) 12 (fun s _ => decide_eq_false (fun z => by cases z.1))]
    decide
  | a :: r, hn, h12 => by
    have hn2 := List.nodup_cons.mp hn
    have ih := qCn_rh (h := h) r hn2.2 (fun s hs => h12 s (List.mem_cons_of_mem _ hs))
    show _ = (if h a % 100 = 0 then 0 else 1) + qRh h r
    by_cases c : h a % 100 = 0
    · rw [if_pos c, ← ih, Nat.zero_add]
      refine qCn_congr 12 (fun s _ => decide_eq_decide.mpr ⟨fun z => ⟨?_, z.2⟩, fun z => ⟨List.mem_cons_of_mem _ z.1, z.2⟩⟩)
      rcases List.mem_cons.mp z.1 with e | e
      · rw [e] at z
        exact absurd c z.2
      · exact e
    · have h2 := qCn_add (b := fun s => decide (s ∈ r ∧ ¬ h s % 100 = 0)) (a := a) (decide_eq_false (fun z => hn2.1 z.1)) 12
      rw [if_pos (h12 a List.mem_cons_self), ih] at h2
      rw [if_neg c, Nat.add_comm, ← h2]
      refine qCn_congr 12 (fun s _ => ?_)
      show decide (s ∈ a :: r ∧ ¬ h s % 100 = 0) = (decide (s = a) || decide (s ∈ r ∧ ¬ h s % 100 = 0))
      rw [← Bool.decide_or]
      refine decide_eq_decide.mpr ⟨fun z => ?_, fun z => ?_⟩
      · rcases List.mem_cons.mp z.1 with e | e
        · exact Or.inl e
        · exact Or.inr ⟨e, z.2⟩
      · rcases z with e | e
        · rw [e]
          exact ⟨List.mem_cons_self, c⟩
        · exact ⟨List.mem_cons_of_mem _ e.1, e.2⟩
theorem qz_pop_cn (x : Int32) : ∀ (n : Nat), n ≤ 32 → qz_pop x n = nI (qCn (fun s => bt x s) n)
  | 0, _ => rfl
  | n + 1, hn => by
    have ih := qz_pop_cn x n (by omega)
    show qz_pop x n + ((x >>> (nI n &&& 31)) &&& 1) = nI (qCn (fun s => bt x s) n + (if bt x n then 1 else 0))
    have h1 : (x >>> (nI n &&& 31)) &&& 1 = nI (if bt x n then 1 else 0) := by
      refine b_ext (fun i hi => ?_)
      rw [b_and, b_1]
      by_cases c : i = 0
      · rw [c, decide_eq_true rfl, Bool.and_true, b_sshr n (by omega) x (by omega), if_pos (by omega), Nat.add_zero]
        cases hb : bt x n <;> decide
      · rw [decide_eq_false c, Bool.and_false]
        cases hb : bt x n
        · rw [if_neg (by decide), show nI 0 = 0 from rfl, b_0]
        · rw [if_pos rfl, show nI 1 = 1 from rfl, b_1, decide_eq_false c]
    rw [ih, h1, nI_add]
theorem c_X4_hasTwin {X : qz_X} {d : Nat} {Q : qz_Q} (g : qz_G) (S : List Nat) (kd : Nat) (c h : Nat → Nat) (hS8 : S.length ≤ 8) (hS12 : ∀ s ∈ S, s < 12) (hrow : Rw (g.1 63) S) (hk : g.1 9 11 = nI kd) (hk8 : kd < 8) (hco : qCo (g.1 61) (g.1 62) kd c h) (i : Nat) (hi : i < S.length) (used : Int32)
    (h1 : (∃ j, j < i ∧ bt used (qAt S j) = false ∧ c (qAt S j) = c (qAt S i) ∧ h (qAt S j) = h (qAt S i)) → Q g 1 0) (h0 : ¬ (∃ j, j < i ∧ bt used (qAt S j) = false ∧ c (qAt S j) = c (qAt S i) ∧ h (qAt S j) = h (qAt S i)) → Q g 0 0) : qz_Call X (d + 2) 52 [.ref 9, .int (nI i), .int used] g Q := by
  have ei := qz_nI (n := i) (by omega)
  have ekd := qz_nI (n := kd) (by omega)
  have ckd : (nI kd).toNatClampNeg = kd := nI_clamp (by omega)
  have sR : ∀ s, s < 12 → qR (nI s) 12 ∧ (nI s).toNatClampNeg = s := fun s hs => ⟨⟨by rw [qz_lt, qz_nI (by omega), qz_n0]; omega, by rw [qz_le, qz_nI (by omega), qz_n12]; omega⟩, nI_clamp (by omega)⟩
  have hsi := hS12 _ (qAt_memi hi)
  obtain ⟨o1, o2, o3, o4⟩ := hco (qAt S i) hsi
  obtain ⟨sr, sc⟩ := sR _ hsi
  refine v_X4_hasTwin g _ used ⟨qz_vi (by omega) (by omega), ?_⟩
  rw [nI_clamp (show i < 2147483648 by omega), hrow i hi]
  refine qz_for (α := Unit) (W := fun _ v => qz_WP X (d + 2) 52 Q 10 [(0, .ref 9), (1, .int (nI i)), (2, .int used), (3, .int (nI (qAt S i))), (4, .int v)] [] g) (n := nI i) (fun j _ => ∀ j', j' < j → ¬ (bt used (qAt S j') = false ∧ c (qAt S j') = c (qAt S i) ∧ h (qAt S j') = h (qAt S i))) (by omega) (by omega) (fun j _ v hI ev cv hle cont => ?_) () (fun j' hj' => by omega)
  rw [ei] at hle cont
  refine v_X4_hasTwin_10 g _ used _ v ?_
  rw [cv]
  refine ⟨fun z => ?_, fun z => ?_⟩
  · rw [qz_le, ei, ev] at z
    exact h0 (fun ⟨j', x1, x2⟩ => hI j' (by omega) x2)
  rw [qz_le, ei, ev] at z
  have hj : j < S.length := by omega
  have hsj := hS12 _ (qAt_memi hj)
  obtain ⟨q1, q2, q3, q4⟩ := hco (qAt S j) hsj
  obtain ⟨rr, rc⟩ := sR _ hsj
  rw [hrow j hj]
  refine ⟨qz_vi (by omega) (by omega), ?_⟩
  have nx : ¬ (bt used (qAt S j) = false ∧ c (qAt S j) = c (qAt S i) ∧ h (qAt S j) = h (qAt S i)) → qz_WP X (d + 2) 52 Q 64 [(0, .ref 9), (1, .int (nI i)), (2, .int used), (3, .int (nI (qAt S i))), (4, .int v)] [] g := by
    intro hn
    refine v_X4_hasTwin_64 g _ used _ v (cont () (by omega) (fun j' hj' => ?_))
    by_cases cj : j' = j
    · rw [cj]; exact hn
    · exact hI j' (by omega)
  refine v_X4_hasTwin_25 g _ used _ v _ ?_
  rw [b_bit _ (by omega), sc, rc, hk, ckd, q1, o1, q3, o3]
  exact ⟨fun c1 => nx (fun z2 => c1 z2.1), fun c1 => ⟨rr, sr, fun c2 => nx (fun z2 => c2 (by rw [z2.2.1])), fun c2 => ⟨⟨by rw [qz_lt, ekd, qz_n0]; omega, by rw [qz_le, ekd, qz_n8]; omega⟩, fun c3 => nx (fun z2 => c3 (by rw [z2.2.2])), fun c3 => h1 ⟨j, by omega, c1, nI_inj (by omega) (by omega) c2, nI_inj (by omega) (by omega) c3⟩⟩⟩⟩
theorem lZ_add (a b : Int) : Int64.ofInt a + Int64.ofInt b = Int64.ofInt (a + b) := (Int64.ofInt_add a b).symm
theorem lZ_mul (a b : Int) : Int64.ofInt a * Int64.ofInt b = Int64.ofInt (a * b) := (Int64.ofInt_mul a b).symm
theorem lZ_sub (a b : Int) : Int64.ofInt a - Int64.ofInt b = Int64.ofInt (a - b) := (Int64.ofInt_sub a b).symm
theorem lZ_nat (n : Nat) : lN n = Int64.ofInt (n : Int) := rfl
theorem lZ_int {z : Int} (h1 : -9223372036854775808 ≤ z) (h2 : z < 9223372036854775808) : (Int64.ofInt z).toInt = z := by
  exact Int64.toInt_ofInt_of_le (by omega) (by omega)
theorem qCs_le (c : Nat → Nat) (hc : ∀ s, c s ≤ 10000) : ∀ (l : List Nat), qCs c l ≤ 10000 * l.length
  | [] => by show 0 ≤ _; omega
  | s :: r => by
    have ih := qCs_le c hc r
    have := hc s
    show c s + qCs c r ≤ 10000 * (r.length + 1)
    omega
theorem qRh_le (h : Nat → Nat) : ∀ (l : List Nat), qRh h l ≤ l.length
  | [] => by show 0 ≤ _; omega
  | s :: r => by
    have ih := qRh_le h r
    show (if h s % 100 = 0 then 0 else 1) + qRh h r ≤ r.length + 1
    by_cases z : h s % 100 = 0
    · rw [if_pos z]; omega
    · rw [if_neg z]; omega
/-- those that are not used yet -/
def qUs (used : Int32) (R : List Nat) : List Nat := R.filter (fun s => !(bt used s))
theorem c_X4_leastToAdd {X : qz_X} {d : Nat} {Q : qz_Q} (g : qz_G) (R : List Nat) (kd : Nat) (c h : Nat → Nat) (hR8 : R.length ≤ 8) (hR12 : ∀ s ∈ R, s < 12) (hRn : R.Nodup) (h8 : g.1 9 8 = nI R.length) (hrow : Rw (g.1 64) R) (hk : g.1 9 11 = nI kd) (hk8 : kd < 8) (hco : qCo (g.1 61) (g.1 62) kd c h) (hcA : ∀ s, c s ≤ 10000) (hrb : ∀ s, s < 32 → (bt (g.1 9 10) s = true ↔ (s ∈ R ∧ ¬ h s % 100 = 0))) (used : Int32) (L : Nat) (hL : L ≤ 1000000)
    (hq : Q g 0 (lN (qE c h (qUs used R) L - qRh h (qUs used R) * qCs c (qUs used R)))) : qz_Call X (d + 3) 51 [.ref 9, .int used, .long (lN L)] g Q := by
  have eR := qz_nI (n := R.length) (by omega)
  have ekd := qz_nI (n := kd) (by omega)
  have ckd : (nI kd).toNatClampNeg = kd := nI_clamp (by omega)
  have hUl : (qUs used R).length ≤ 8 := Nat.le_trans (List.length_filter_le _ _) hR8
  have hbits : ∀ s, s < 32 → bt (g.1 9 10 &&& (used ^^^ (-1))) s = decide (s ∈ qUs used R ∧ ¬ h s % 100 = 0) := by
    intro s hs
    rw [b_and, b_xor, b_m1 s hs]
    refine Bool.eq_iff_iff.mpr ?_
    rw [Bool.and_eq_true, hrb s hs, decide_eq_true_iff]
    unfold qUs
    rw [List.mem_filter]
    cases bt used s <;> simp
  have hpop : qz_pop (g.1 9 10 &&& (used ^^^ (-1))) 12 = nI (qRh h (qUs used R)) := by
    rw [qz_pop_cn _ 12 (by omega), ← qCn_rh (qUs used R) (hRn.sublist List.filter_sublist) (fun s hs => hR12 s ((List.mem_filter.mp hs).1))]
    exact congrArg nI (qCn_congr 12 (fun s hs => hbits s (by omega)))
  refine v_X4_leastToAdd g used _ ⟨qz_4095 _ (fun s h1 h2 => ?_), ?_⟩
  · rw [hbits s h2]
    exact decide_eq_false (fun z => by have := hR12 s ((List.mem_filter.mp z.1).1); omega)
  rw [hpop]
  have hrho := qRh_le h (qUs used R)
  have hEU := qE_le c h hcA (qUs used R) L hL
  have hCU := qCs_le c hcA (qUs used R)
  have hprod : qRh h (qUs used R) * qCs c (qUs used R) ≤ 8 * 80000 := Nat.mul_le_mul (by omega) (by omega)
  generalize hρ : qRh h (qUs used R) = ρ at hq hrho hprod ⊢
  refine v_X4_leastToAdd_13 g used _ _ ?_
  refine qz_for (α := Int64 × Int64) (W := fun a v => qz_WP X (d + 3) 51 Q 22 [(0, .ref 9), (1, .int used), (4, .int (nI ρ)), (5, .long a.1), (7, .long a.2), (9, .int v)] [] g) (n := nI R.length) (fun i a => ∃ (z : Int) (Li : Nat), a.1 = Int64.ofInt z ∧ a.2 = lN Li ∧ Li ≤ 1000000 ∧ z + (qE c h (qUs used (R.drop i)) Li : Nat) - (ρ : Int) * (qCs c (qUs used (R.drop i)) : Nat) = (qE c h (qUs used R) L : Nat) - (ρ : Int) * (qCs c (qUs used R) : Nat)) (by omega) (by omega) (fun i a v hI ev cv hle cont => ?_) (0, lN L) ⟨0, L, rfl, rfl, hL, by rw [List.drop_zero, Int.zero_add]⟩
  obtain ⟨z, Li, e1, e2, hLi, hz⟩ := hI
  rw [eR] at hle cont
  refine v_X4_leastToAdd_22 g used _ _ _ v ?_
  rw [h8, cv, e1, e2]
  refine ⟨fun y => ?_, fun y => ?_⟩
  · rw [qz_le, eR, ev] at y
    rw [List.drop_eq_nil_of_le (by omega)] at hz
    have hz2 : z = (qE c h (qUs used R) L : Nat) - (ρ : Int) * (qCs c (qUs used R) : Nat) := by
      have h1 : qE c h (qUs used []) Li = 0 := rfl
      have h2 : qCs c (qUs used []) = 0 := rfl
      rw [h1, h2] at hz
      simp only [Int.natCast_zero, Int.mul_zero, Int.add_zero, Int.sub_zero] at hz
      exact hz
    rw [← Int.natCast_mul] at hz2
    have hzi := lZ_int (z := z) (by omega) (by omega)
    refine v_J9_max_f86c9 (d := d + 1) g _ _ ?_
    rw [lg_cmp_lt, Int64.lt_iff_toInt_lt, hzi]
    have z0 : (0 : Int64).toInt = 0 := by decide
    rw [z0]
    refine ⟨fun y2 => ?_, fun y2 => ?_⟩
    · rw [show qE c h (qUs used R) L - ρ * qCs c (qUs used R) = 0 from by omega] at hq
      exact hq
    · have : lN (qE c h (qUs used R) L - ρ * qCs c (qUs used R)) = Int64.ofInt z := by
        rw [lZ_nat]
        congr 1
        omega
      rw [this] at hq
      exact hq
  · rw [qz_le, eR, ev] at y
    have hi : i < R.length := by omega
    have hs := hR12 _ (qAt_memi hi)
    obtain ⟨o1, o2, o3, o4⟩ := hco (qAt R i) hs
    have es := qz_nI (n := qAt R i) (by omega)
    rw [qAt_drop hi] at hz
    rw [hrow i hi, b_bit _ (by omega)]
    refine ⟨qz_vi (by omega) (by omega), fun c1 => ?_, fun c1 => ?_⟩
    · have c1' : bt used (qAt R i) = true := by simpa using c1
      refine v_X4_leastToAdd_78 g used _ _ _ v (cont (Int64.ofInt z, lN Li) (by omega) ⟨z, Li, rfl, rfl, hLi, ?_⟩)
      have e : qUs used (qAt R i :: R.drop (i + 1)) = qUs used (R.drop (i + 1)) := by
        unfold qUs
        rw [List.filter_cons, c1']
        rfl
      rw [e] at hz
      exact hz
    · refine v_X4_leastToAdd_49 g used _ _ _ v _ ?_
      rw [nI_clamp (show qAt R i < 2147483648 by omega), hk, ckd, o1, o3, (qz_left hLi o4).1]
      refine ⟨⟨by rw [qz_lt, es, qz_n0]; omega, by rw [qz_le, es, qz_n12]; omega⟩, ⟨by rw [qz_lt, ekd, qz_n0]; omega, by rw [qz_le, ekd, qz_n8]; omega⟩, ?_⟩
      have e : qUs used (qAt R i :: R.drop (i + 1)) = qAt R i :: qUs used (R.drop (i + 1)) := by
        unfold qUs
        rw [List.filter_cons, c1]
        rfl
      rw [e] at hz
      have e3 : Int64.ofInt z + ((nI (c (qAt R i))).toInt64 * (lN Li - (nI ρ).toInt64)) = Int64.ofInt (z + (c (qAt R i) : Nat) * ((Li : Int) - ρ)) := by
        rw [nI_l (by omega), nI_l (by omega), lZ_nat, lZ_nat, lZ_nat, lZ_sub, lZ_mul, lZ_add]
      rw [e3]
      refine v_X4_leastToAdd_78 g used _ _ _ v (cont (_, _) (by omega) ⟨_, _, rfl, rfl, (qz_left hLi o4).2, ?_⟩)
      rw [← hz]
      show z + (c (qAt R i) : Nat) * ((Li : Int) - ρ) + (qE c h (qUs used (R.drop (i + 1))) (Li * (100 - h (qAt R i)) / 100) : Nat) - (ρ : Int) * (qCs c (qUs used (R.drop (i + 1))) : Nat) = z + ((c (qAt R i) * Li + qE c h (qUs used (R.drop (i + 1))) (Li * (100 - h (qAt R i)) / 100) : Nat) : Int) - (ρ : Int) * ((c (qAt R i) + qCs c (qUs used (R.drop (i + 1))) : Nat) : Int)
      rw [Int.natCast_add, Int.natCast_add, Int.natCast_mul, Int.mul_sub, Int.mul_add, Int.mul_comm (ρ : Int) (c (qAt R i) : Nat)]
      omega
