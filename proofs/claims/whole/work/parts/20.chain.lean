theorem fb_holes : ∀ (m n : Nat) (f : Nat → Nat), (∀ i, i < n → f i < m) → (∀ i j, i < j → j < n → f i ≠ f j) → n ≤ m := by
  intro m
  induction m with
  | zero =>
    intro n f h1 _
    rcases Nat.eq_zero_or_pos n with h | h
    · omega
    · exact absurd (h1 0 h) (Nat.not_lt_zero _)
  | succ m ih =>
    intro n f h1 h2
    by_cases hx : ∃ i, i < n ∧ f i = m
    · obtain ⟨a, ha, hfa⟩ := hx
      have hg := ih (n - 1) (fun i => if i < a then f i else f (i + 1)) (by
        intro i hi
        by_cases q : i < a
        · simp only [if_pos q]
          have b1 := h1 i (by omega)
          have b2 := h2 i a q ha
          omega
        · simp only [if_neg q]
          have b1 := h1 (i + 1) (by omega)
          have b2 := h2 a (i + 1) (by omega) (by omega)
          omega) (by
        intro i j hij hj
        by_cases q : i < a
        · by_cases r : j < a
          · simp only [if_pos q, if_pos r]
            exact h2 i j hij (by omega)
          · simp only [if_pos q, if_neg r]
            exact h2 i (j + 1) (by omega) (by omega)
        · have r : ¬ j < a := by omega
          simp only [if_neg q, if_neg r]
          exact h2 (i + 1) (j + 1) (by omega) (by omega))
      omega
    · have hg := ih n f (fun i hi => by
        have b1 := h1 i hi
        have b2 : f i ≠ m := fun e => hx ⟨i, hi, e⟩
        omega) h2
      omega
/-! chains of firms -/
def qz_hold (part from_ told : Nat → Int32) (day t : Int32) : Nat → Int32 → Int32
  | 0, o => o
  | n + 1, o => if part o.toNatClampNeg = -1 ∨ day < from_ o.toNatClampNeg ∨ t < told o.toNatClampNeg then o else qz_hold part from_ told day t n (part o.toNatClampNeg)
def qLd (part : Nat → Int32) (a b : Int32) : Prop := ∃ n : Nat, n < 40 ∧ qz_up part n a = b
theorem qz_up_neg (part : Nat → Int32) : ∀ (n : Nat) {o : Int32}, o < 0 → qz_up part n o = o
  | 0, _, _ => rfl
  | n + 1, o, h => by simp only [qz_up, h, if_true]
theorem qz_up_add (part : Nat → Int32) : ∀ (a b : Nat) (o : Int32), qz_up part (a + b) o = qz_up part b (qz_up part a o)
  | 0, b, o => by rw [Nat.zero_add]; rfl
  | a + 1, b, o => by
    by_cases h : o < 0
    · rw [qz_up_neg part _ h, qz_up_neg part _ h, qz_up_neg part _ h]
    · rw [show a + 1 + b = (a + b) + 1 by omega]
      simp only [qz_up, h, if_false]
      exact qz_up_add part a b _
theorem qz_up_rng {owners : Int32} {part : Nat → Int32} (hP : RelP owners part) (ho : qI owners 0 40) : ∀ (n : Nat) {o : Int32}, qR o owners → qz_up part n o < 0 ∨ qR (qz_up part n o) owners
  | 0, o, h => Or.inr h
  | n + 1, o, h => by
    simp only [qz_up, h.1, if_false]
    have c := qz_cl o
    have h' := h
    simp only [qR, qI, qz_lt, qz_le, qz_n0, qz_n40] at h' ho
    rcases hP.1 o.toNatClampNeg (by omega) with e | e
    · rw [e, qz_up_neg part n (by decide)]
      exact Or.inl (by decide)
    · exact qz_up_rng hP (by simp only [qI, qz_lt, qz_n0, qz_n40]; omega) n e
theorem qz_least {P : Nat → Prop} : ∀ (n : Nat), P n → ∃ k, P k ∧ ∀ j, j < k → ¬ P j := by
  intro n h
  exact pk_least P ⟨n, h⟩
/-- a chain has at most 40 links -/
theorem qz_chain {owners : Int32} {part : Nat → Int32} (hP : RelP owners part) (ho : qI owners 0 40) {o : Int32} (h : qR o owners) : qz_up part 40 o < 0 := by
  obtain ⟨n, hn⟩ := hP.2.2 o h
  obtain ⟨k, hk, hl⟩ := qz_least (P := fun n => qz_up part n o < 0) n hn
  have hr : ∀ i, i < k → qR (qz_up part i o) owners := fun i hi => (qz_up_rng hP ho i h).resolve_left (hl i hi)
  have hk40 : k ≤ 40 := by
    refine fb_holes 40 k (fun i => (qz_up part i o).toNatClampNeg) (fun i hi => ?_) (fun i j hij hj e => ?_)
    · have h1 := hr i hi
      have c := qz_cl (qz_up part i o)
      simp only [qR, qI, qz_lt, qz_le, qz_n0, qz_n40] at h1 ho
      omega
    · have h1 := hr i (by omega)
      have h2 := hr j hj
      have c1 := qz_cl (qz_up part i o)
      have c2 := qz_cl (qz_up part j o)
      have e2 : qz_up part i o = qz_up part j o := by
        simp only [qR, qz_lt, qz_le, qz_n0] at h1 h2
        simp only [qz_eq]
        have e : (qz_up part i o).toNatClampNeg = (qz_up part j o).toNatClampNeg := e
        omega
      have e3 : qz_up part (i + (k - j)) o = qz_up part (j + (k - j)) o := by rw [qz_up_add, qz_up_add, e2]
      rw [show j + (k - j) = k by omega] at e3
      exact hl (i + (k - j)) (by omega) (by rw [e3]; exact hk)
  rw [show (40 : Nat) = k + (40 - k) by omega, qz_up_add, qz_up_neg part _ hk]
  exact hk
theorem qz_hold_rng {owners : Int32} {part from_ told : Nat → Int32} {day t : Int32} (hP : RelP owners part) (ho : qI owners 0 40) : ∀ (n : Nat) {o : Int32}, qR o owners → qR (qz_hold part from_ told day t n o) owners
  | 0, o, h => h
  | n + 1, o, h => by
    unfold qz_hold
    by_cases c : part o.toNatClampNeg = -1 ∨ day < from_ o.toNatClampNeg ∨ t < told o.toNatClampNeg
    · rw [if_pos c]; exact h
    · rw [if_neg c]
      have cl := qz_cl o
      have h' := h
      have ho' := ho
      simp only [qR, qI, qz_lt, qz_le, qz_n0, qz_n40] at h' ho'
      exact qz_hold_rng hP ho n ((hP.1 o.toNatClampNeg (by omega)).resolve_left (fun z => c (Or.inl z)))
theorem c_X5_holderFor {X : qz_X} {d : Nat} {Q : qz_Q} (g : qz_G) (v1 v2 v3 : Int32) (h : (RelP (g.1 2 8) (g.1 15)) ∧ (qI (g.1 2 8) 0 40) ∧ (qR v1 (g.1 2 8)) ∧ Q g (qz_hold (g.1 15) (g.1 16) (g.1 17) v2 v3 40 v1) 0) : qz_Call X (d + 1) 64 [.ref 2, .int v1, .int v2, .int v3] g Q := by
  obtain ⟨hP, ho, hv, hq⟩ := h
  have key : ∀ (n : Nat) (o : Int32), n ≤ 40 → qR o (g.1 2 8) → Q g (qz_hold (g.1 15) (g.1 16) (g.1 17) v2 v3 n o) 0 → qz_WP X (d + 1) 64 Q 6 [(0, .ref 2), (2, .int v2), (3, .int v3), (4, .int o), (5, .int (nI (40 - n)))] [] g := by
    intro n
    induction n with
    | zero =>
      intro o hn h1 h2
      exact v_X5_holderFor_6 g v2 v3 o _ ⟨fun _ => h2, fun c => absurd (by decide) c⟩
    | succ n ih =>
      intro o hn h1 h2
      have ei := qz_nI (n := 40 - (n + 1)) (by omega)
      have hin := qz_in40 h1 ho
      unfold qz_hold at h2
      refine v_X5_holderFor_6 g v2 v3 o _ ⟨fun c => ?_, fun c => ⟨fun z => absurd z h1.1, fun _ => ⟨fun z => absurd z h1.2, fun _ => ⟨hin, fun c1 => ?_, fun c1 => ⟨fun c2 => ?_, fun c2 => ⟨fun c3 => ?_, fun c3 => ?_⟩⟩⟩⟩⟩⟩
      · simp only [qz_le, ei, qz_n40] at c
        omega
      · rw [if_pos (Or.inl c1)] at h2; exact h2
      · rw [if_pos (Or.inr (Or.inl c2))] at h2; exact h2
      · have hc : ¬ (g.1 15 o.toNatClampNeg = -1 ∨ v2 < g.1 16 o.toNatClampNeg ∨ v3 < g.1 17 o.toNatClampNeg) := by
          rintro (z | z | z)
          · exact c1 z
          · exact c2 z
          · simp only [qz_lt, qz_le] at z c3
            omega
        rw [if_neg hc] at h2
        rw [nI_1, show 40 - (n + 1) + 1 = 40 - n by omega]
        have cl := qz_cl o
        have h1' := h1
        have ho' := ho
        simp only [qR, qI, qz_lt, qz_le, qz_n0, qz_n40] at h1' ho'
        exact ih _ (by omega) ((hP.1 o.toNatClampNeg (by omega)).resolve_left c1) h2
      · rw [if_pos (Or.inr (Or.inr (by simp only [qz_lt, qz_le] at c3 ⊢; omega)))] at h2; exact h2
  exact v_X5_holderFor g v1 v2 v3 (key 40 v1 (Nat.le_refl _) hv hq)
theorem c_X12_heldBy {X : qz_X} {d : Nat} {Q : qz_Q} (g : qz_G) (v1 v2 v3 : Int32) (h : (RelP (g.1 12 1) (g.1 81)) ∧ (qI (g.1 12 1) 0 40) ∧ (qR v1 (g.1 12 1)) ∧ Q g (qz_hold (g.1 81) (g.1 82) (g.1 83) v2 v3 40 v1) 0) : qz_Call X (d + 1) 207 [.ref 12, .int v1, .int v2, .int v3] g Q := by
  obtain ⟨hP, ho, hv, hq⟩ := h
  have key : ∀ (n : Nat) (o : Int32), qR o (g.1 12 1) → qz_up (g.1 81) n o < 0 → Q g (qz_hold (g.1 81) (g.1 82) (g.1 83) v2 v3 n o) 0 → qz_WP X (d + 1) 207 Q 3 [(0, .ref 12), (2, .int v2), (3, .int v3), (4, .int o)] [] g := by
    intro n
    induction n with
    | zero =>
      intro o h1 hu h2
      exact absurd hu h1.1
    | succ n ih =>
      intro o h1 hu h2
      have hin := qz_in40 h1 ho
      unfold qz_hold at h2
      refine v_X12_heldBy_3 g v2 v3 o ⟨hin, fun c1 => ?_, fun c1 => ⟨fun c2 => ?_, fun c2 => ⟨fun c3 => ?_, fun c3 => ?_⟩⟩⟩
      · rw [if_pos (Or.inl c1)] at h2; exact h2
      · rw [if_pos (Or.inr (Or.inl c2))] at h2; exact h2
      · rw [if_pos (Or.inr (Or.inr c3))] at h2; exact h2
      · rw [if_neg (fun z => z.elim c1 (fun z => z.elim c2 c3))] at h2
        simp only [qz_up, h1.1, if_false] at hu
        have cl := qz_cl o
        have h1' := h1
        have ho' := ho
        simp only [qR, qI, qz_lt, qz_le, qz_n0, qz_n40] at h1' ho'
        exact ih _ ((hP.1 o.toNatClampNeg (by omega)).resolve_left c1) hu h2
  exact v_X12_heldBy g v1 v2 v3 (key 40 v1 hv (qz_chain hP ho hv) hq)
theorem c_X5_leadsTo {X : qz_X} {d : Nat} {Q : qz_Q} (g : qz_G) (v1 v2 : Int32) (h : (RelP (g.1 2 8) (g.1 15)) ∧ (qI (g.1 2 8) 0 40) ∧ (qR v1 (g.1 2 8)) ∧ (qR v2 (g.1 2 8)) ∧ (qLd (g.1 15) v1 v2 → Q g 1 0) ∧ (¬ qLd (g.1 15) v1 v2 → Q g 0 0)) : qz_Call X (d + 2) 63 [.ref 2, .int v1, .int v2] g Q := by
  obtain ⟨hP, ho, hv, hv2, ht, hf⟩ := h
  have key : ∀ (n i : Nat), n + i = 40 → (∀ j : Nat, j < i → ¬ qz_up (g.1 15) j v1 = v2) → qz_WP X (d + 2) 63 Q 5 [(0, .ref 2), (2, .int v2), (3, .int (qz_up (g.1 15) i v1)), (4, .int (nI i))] [] g := by
    intro n
    induction n with
    | zero =>
      intro i hi h3
      have e : i = 40 := by omega
      subst e
      exact v_X5_leadsTo_5 g v2 _ _ ⟨fun _ => hf (fun ⟨j, hj, e⟩ => h3 j hj e), fun c => absurd (by decide) c⟩
    | succ n ih =>
      intro i hi h3
      have ei := qz_nI (n := i) (by omega)
      refine v_X5_leadsTo_5 g v2 _ _ ⟨fun c => ?_, fun c => ⟨fun c1 => ⟨fun c2 => ⟨qz_in40 c1 ho, ?_⟩, fun c2 => ht ⟨i, by omega, c2⟩⟩, fun c1 => ?_⟩⟩
      · simp only [qz_le, ei, qz_n40] at c
        omega
      · rw [nI_1]
        have e : g.1 15 (qz_up (g.1 15) i v1).toNatClampNeg = qz_up (g.1 15) (i + 1) v1 := by
          rw [qz_up_add]
          simp only [qz_up, c1.1, if_false]
        rw [e]
        refine ih (i + 1) (by omega) (fun j hj => ?_)
        by_cases hji : j = i
        · rw [hji]; exact c2
        · exact h3 j (by omega)
      · refine hf (fun ⟨j, hj, e⟩ => ?_)
        have hneg := (qz_up_rng hP ho i hv).resolve_right c1
        by_cases hji : j < i
        · exact h3 j hji e
        · rw [show j = i + (j - i) by omega, qz_up_add, qz_up_neg _ _ hneg] at e
          rw [e] at hneg
          exact hv2.1 hneg
  exact v_X5_leadsTo g v1 v2 (key 40 0 rfl (fun j hj => by omega))
