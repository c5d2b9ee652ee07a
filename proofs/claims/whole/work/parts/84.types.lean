/-! pieces of code and what they leave on the stack -/
theorem qOa_l {C t : List qOp} {k : Nat} (h : k < C.length) : qOa (C ++ t) k = qOa C k := by
  unfold qOa
  rw [List.getElem?_append_left h]
theorem qOa_e {C : List qOp} {q : qOp} : qOa (C ++ [q]) C.length = q := by
  unfold qOa
  rw [List.getElem?_append_right (Nat.le_refl _), Nat.sub_self]
  rfl
theorem qOa_set {C : List qOp} {j k : Nat} {q : qOp} (h : j < C.length) : qOa (C.set j q) k = if k = j then q else qOa C k := by
  unfold qOa
  rw [List.getElem?_set]
  by_cases c : j = k
  · rw [if_pos c, if_pos h, if_pos c.symm]
    rfl
  · rw [if_neg c, if_neg (fun z => c z.symm)]
theorem qT1_mono {asks : Int32} {b b' k : Nat} {p : qOp} {T T' : Nat → List Bool} (h : qT1 asks b k p T) (hb : b ≤ b') (h1 : T' k = T k) (h2 : T' (k + 1) = T (k + 1)) (h3 : 11 ≤ p.1 → k < p.2 → p.2 ≤ b → T' p.2 = T p.2) : qT1 asks b' k p T' := by
  obtain ⟨a0, a1, a2, a3, a4, a5⟩ := h
  refine ⟨a0, fun z => ?_, fun z => ?_, fun z z2 => ?_, fun z => ?_, fun z => ?_⟩
  · rw [h1, h2]; exact a1 z
  · rw [h1, h2]; exact a2 z
  · rw [h1, h2]; exact a3 z z2
  · rw [h1, h2]; exact a4 z
  · obtain ⟨x1, x2, s, x3, x4, x5⟩ := a5 z
    exact ⟨x1, by omega, s, by rw [h1]; exact x3, by rw [h2]; exact x4, by rw [h3 z x1 x2]; exact x5⟩
def qTg (asks : Int32) (C : List qOp) (a b hgt : Nat) (out : Bool) : Prop := a ≤ b ∧ b ≤ C.length ∧ ∀ τ : List Bool, τ.length + hgt ≤ 31 → ∃ T : Nat → List Bool, T a = τ ∧ T b = out :: τ ∧ ∀ k, a ≤ k → k < b → qT1 asks b k (qOa C k) T
theorem qTg_congr {asks : Int32} {C C' : List qOp} {a b hgt : Nat} {out : Bool} (h : qTg asks C a b hgt out) (hc : ∀ k, a ≤ k → k < b → qOa C' k = qOa C k) (hl : b ≤ C'.length) : qTg asks C' a b hgt out := by
  refine ⟨h.1, hl, fun τ hτ => ?_⟩
  obtain ⟨T, h1, h2, h3⟩ := h.2.2 τ hτ
  exact ⟨T, h1, h2, fun k k1 k2 => by rw [hc k k1 k2]; exact h3 k k1 k2⟩
theorem qTg_app {asks : Int32} {C t : List qOp} {a b hgt : Nat} {out : Bool} (h : qTg asks C a b hgt out) : qTg asks (C ++ t) a b hgt out :=
  qTg_congr h (fun k k1 k2 => qOa_l (by have := h.2.1; omega)) (by rw [List.length_append]; have := h.2.1; omega)
theorem qTg_up {asks : Int32} {C : List qOp} {a b hgt hgt' : Nat} {out : Bool} (h : qTg asks C a b hgt out) (hh : hgt ≤ hgt') : qTg asks C a b hgt' out := ⟨h.1, h.2.1, fun τ hτ => h.2.2 τ (by omega)⟩
theorem qTg_num {asks : Int32} {C : List qOp} {a v : Nat} (ha : a < C.length) (he : qOa C a = (0, v)) (hv : v < 1000000) : qTg asks C a (a + 1) 1 false := by
  refine ⟨by omega, by omega, fun τ hτ => ⟨fun k => if k = a then τ else false :: τ, if_pos rfl, if_neg (by omega), fun k k1 k2 => ?_⟩⟩
  have ek : k = a := by omega
  subst ek
  rw [he]
  refine ⟨by show 0 ≤ 12; omega, fun _ => ⟨hv, ?_, ?_⟩, fun z => absurd z (by show ¬ (0 : Nat) = 1; decide), fun z => absurd z (by show ¬ (2 : Nat) ≤ 0; decide), fun z => absurd z (by show ¬ (0 : Nat) = 10; decide), fun z => absurd z (by show ¬ (11 : Nat) ≤ 0; decide)⟩
  · show (if k = k then τ else false :: τ).length < 31
    rw [if_pos rfl]; omega
  · show (if k + 1 = k then τ else false :: τ) = false :: (if k = k then τ else false :: τ)
    rw [if_neg (by omega), if_pos rfl]
theorem qTg_let {asks : Int32} {C : List qOp} {a v : Nat} (ha : a < C.length) (he : qOa C a = (1, v)) (hv : v < 8) (h5 : v = 5 → ¬ asks = 0) : qTg asks C a (a + 1) 1 false := by
  refine ⟨by omega, by omega, fun τ hτ => ⟨fun k => if k = a then τ else false :: τ, if_pos rfl, if_neg (by omega), fun k k1 k2 => ?_⟩⟩
  have ek : k = a := by omega
  subst ek
  rw [he]
  refine ⟨by show 1 ≤ 12; omega, fun z => absurd z (by show ¬ (1 : Nat) = 0; decide), fun _ => ⟨hv, h5, ?_, ?_⟩, fun z => absurd z (by show ¬ (2 : Nat) ≤ 1; decide), fun z => absurd z (by show ¬ (1 : Nat) = 10; decide), fun z => absurd z (by show ¬ (11 : Nat) ≤ 1; decide)⟩
  · show (if k = k then τ else false :: τ).length < 31
    rw [if_pos rfl]; omega
  · show (if k + 1 = k then τ else false :: τ) = false :: (if k = k then τ else false :: τ)
    rw [if_neg (by omega), if_pos rfl]
theorem qTg_bin {asks : Int32} {C : List qOp} {a b c h1 h2 H op : Nat} (t1 : qTg asks C a b h1 false) (t2 : qTg asks C b c h2 false) (hc : c < C.length) (he : qOa C c = (op, 0)) (ho1 : 2 ≤ op) (ho2 : op ≤ 9) (hH1 : h1 ≤ H) (hH2 : h2 + 1 ≤ H) : qTg asks C a (c + 1) H (decide (7 ≤ op)) := by
  have hab := t1.1
  have hbc := t2.1
  refine ⟨by omega, by omega, fun τ hτ => ?_⟩
  obtain ⟨T1, x1, x2, x3⟩ := t1.2.2 τ (by omega)
  obtain ⟨T2, y1, y2, y3⟩ := t2.2.2 (false :: τ) (by rw [List.length_cons]; omega)
  have hne : ¬ b = c := fun z => by
    rw [← z, y1] at y2
    have := congrArg List.length y2
    simp at this
  refine ⟨fun k => if k ≤ b then T1 k else if k ≤ c then T2 k else decide (7 ≤ op) :: τ, ?_, ?_, fun k k1 k2 => ?_⟩
  · show (if a ≤ b then T1 a else _) = _
    rw [if_pos hab, x1]
  · show (if c + 1 ≤ b then T1 (c + 1) else if c + 1 ≤ c then T2 (c + 1) else _) = _
    rw [if_neg (by omega), if_neg (by omega)]
  · by_cases c1 : k < b
    · refine qT1_mono (x3 k k1 c1) (by omega) ?_ ?_ (fun z z2 z3 => ?_)
      · show (if k ≤ b then T1 k else _) = _
        rw [if_pos (by omega)]
      · show (if k + 1 ≤ b then T1 (k + 1) else _) = _
        rw [if_pos (by omega)]
      · show (if (qOa C k).2 ≤ b then T1 (qOa C k).2 else _) = _
        rw [if_pos z3]
    · by_cases c2 : k < c
      · refine qT1_mono (y3 k (by omega) c2) (by omega) ?_ ?_ (fun z z2 z3 => ?_)
        · show (if k ≤ b then T1 k else if k ≤ c then T2 k else _) = _
          by_cases c3 : k = b
          · rw [if_pos (by omega), c3, x2, y1]
          · rw [if_neg (by omega), if_pos (by omega)]
        · show (if k + 1 ≤ b then T1 (k + 1) else if k + 1 ≤ c then T2 (k + 1) else _) = _
          rw [if_neg (by omega), if_pos (by omega)]
        · show (if (qOa C k).2 ≤ b then T1 (qOa C k).2 else if (qOa C k).2 ≤ c then T2 (qOa C k).2 else _) = _
          rw [if_neg (by omega), if_pos z3]
      · have ek : k = c := by omega
        subst ek
        rw [he]
        refine ⟨by show op ≤ 12; omega, fun z => absurd z (by show ¬ op = 0; omega), fun z => absurd z (by show ¬ op = 1; omega), fun _ _ => ⟨rfl, false, false, τ, ?_, ?_⟩, fun z => absurd z (by show ¬ op = 10; omega), fun z => absurd z (by show ¬ 11 ≤ op; omega)⟩
        · show (if k ≤ b then T1 k else if k ≤ k then T2 k else _) = _
          rw [if_neg (by omega), if_pos (Nat.le_refl _), y2]
        · show (if k + 1 ≤ b then T1 (k + 1) else if k + 1 ≤ k then T2 (k + 1) else _) = _
          rw [if_neg (by omega), if_neg (by omega)]
theorem qTg_not {asks : Int32} {C : List qOp} {a b H : Nat} (t : qTg asks C a b H true) (hb : b < C.length) (he : qOa C b = (10, 0)) : qTg asks C a (b + 1) H true := by
  have hab := t.1
  refine ⟨by omega, by omega, fun τ hτ => ?_⟩
  obtain ⟨T, x1, x2, x3⟩ := t.2.2 τ hτ
  refine ⟨fun k => if k ≤ b then T k else true :: τ, ?_, ?_, fun k k1 k2 => ?_⟩
  · show (if a ≤ b then T a else _) = _
    rw [if_pos hab, x1]
  · show (if b + 1 ≤ b then T (b + 1) else _) = _
    rw [if_neg (by omega)]
  · by_cases c1 : k < b
    · refine qT1_mono (x3 k k1 c1) (by omega) ?_ ?_ (fun z z2 z3 => ?_)
      · show (if k ≤ b then T k else _) = _
        rw [if_pos (by omega)]
      · show (if k + 1 ≤ b then T (k + 1) else _) = _
        rw [if_pos (by omega)]
      · show (if (qOa C k).2 ≤ b then T (qOa C k).2 else _) = _
        rw [if_pos z3]
    · have ek : k = b := by omega
      subst ek
      rw [he]
      refine ⟨by show 10 ≤ 12; omega, fun z => absurd z (by show ¬ (10 : Nat) = 0; decide), fun z => absurd z (by show ¬ (10 : Nat) = 1; decide), fun _ z => absurd z (by show ¬ (10 : Nat) ≤ 9; decide), fun _ => ⟨rfl, τ, ?_, ?_⟩, fun z => absurd z (by show ¬ (11 : Nat) ≤ 10; decide)⟩
      · show (if k ≤ k then T k else _) = _
        rw [if_pos (Nat.le_refl _), x2]
      · show (if k + 1 ≤ k then T (k + 1) else _) = _
        rw [if_neg (by omega)]
theorem qTg_jmp {asks : Int32} {C : List qOp} {a j c H op : Nat} (t1 : qTg asks C a j H true) (t2 : qTg asks C (j + 1) c H true) (he : qOa C j = (op, c)) (ho1 : 11 ≤ op) (ho2 : op ≤ 12) : qTg asks C a c H true := by
  have haj := t1.1
  have hjc := t2.1
  refine ⟨by omega, t2.2.1, fun τ hτ => ?_⟩
  obtain ⟨T1, x1, x2, x3⟩ := t1.2.2 τ hτ
  obtain ⟨T2, y1, y2, y3⟩ := t2.2.2 τ hτ
  refine ⟨fun k => if k ≤ j then T1 k else T2 k, ?_, ?_, fun k k1 k2 => ?_⟩
  · show (if a ≤ j then T1 a else _) = _
    rw [if_pos haj, x1]
  · show (if c ≤ j then T1 c else T2 c) = _
    rw [if_neg (by omega), y2]
  · by_cases c1 : k < j
    · refine qT1_mono (x3 k k1 c1) (by omega) ?_ ?_ (fun z z2 z3 => ?_)
      · show (if k ≤ j then T1 k else _) = _
        rw [if_pos (by omega)]
      · show (if k + 1 ≤ j then T1 (k + 1) else _) = _
        rw [if_pos (by omega)]
      · show (if (qOa C k).2 ≤ j then T1 (qOa C k).2 else _) = _
        rw [if_pos z3]
    · by_cases c2 : k = j
      · subst c2
        rw [he]
        refine ⟨ho2, fun z => absurd z (by show ¬ op = 0; omega), fun z => absurd z (by show ¬ op = 1; omega), fun _ z => absurd z (by show ¬ op ≤ 9; omega), fun z => absurd z (by show ¬ op = 10; omega), fun _ => ⟨by show k < c; omega, Nat.le_refl _, τ, ?_, ?_, ?_⟩⟩
        · show (if k ≤ k then T1 k else _) = _
          rw [if_pos (Nat.le_refl _), x2]
        · show (if k + 1 ≤ k then T1 (k + 1) else T2 (k + 1)) = _
          rw [if_neg (by omega), y1]
        · show (if c ≤ k then T1 c else T2 c) = _
          rw [if_neg (by omega), y2]
      · refine qT1_mono (y3 k (by omega) k2) (Nat.le_refl _) ?_ ?_ (fun z z2 z3 => ?_)
        · show (if k ≤ j then T1 k else T2 k) = _
          rw [if_neg (by omega)]
        · show (if k + 1 ≤ j then T1 (k + 1) else T2 (k + 1)) = _
          rw [if_neg (by omega)]
        · show (if (qOa C k).2 ≤ j then T1 (qOa C k).2 else T2 (qOa C k).2) = _
          rw [if_neg (by omega)]
theorem qTg_ty {asks : Int32} {C : List qOp} {a b H : Nat} (t : qTg asks C a b H true) (hH : H ≤ 31) : qTy C asks a b := by
  obtain ⟨T, h1, h2, h3⟩ := t.2.2 [] (by simpa using hH)
  exact Or.inr ⟨T, h1, h2, h3⟩
