/-! clauses: what both sides read -/
def qLq (c : Nat) : Nat := if c = 97 then 0 else if c = 108 then 1 else if c = 116 then 2 else if c = 117 then 3 else if c = 102 then 4 else if c = 119 then 5 else if c = 101 then 6 else if c = 115 then 7 else if c = 112 then 8 else if c = 120 then 9 else 10
def qLm (k : Nat) : Nat := if k = 5 then 100 else if k = 7 then 11 else if k = 8 then 3 else if k = 9 then 19 else 999999
/-- behind a clause's first number -/
def ClB (sg : Nat → Nat) (C : List qOp) (k r q : Nat) (C' : List qOp) (v2 : Nat) : Prop :=
  (k = 9 ∧ sg r = 46 ∧ (qLim sg (r + 1) 11).1 = 0 ∧ v2 = (qLim sg (r + 1) 11).2.2 ∧ q = (qLim sg (r + 1) 11).2.1 ∧ C' = C) ∨
  (¬ k = 9 ∧ ¬ sg r = 40 ∧ v2 = 0 ∧ q = r ∧ C' = C) ∨
  (¬ k = 9 ∧ sg r = 40 ∧ v2 = 0 ∧ ∃ hw, Rch sg (0, 0, r + 1, 1, C, [(13, 0)], []) (5, hw, q, 0, C', [], []))
def ClE (sg : Nat → Nat) (C : List qOp) (k r kd at_ : Nat) : Prop :=
  (k = 9 ∧ ¬ sg r = 46 ∧ kd = 1 ∧ at_ = r) ∨
  (k = 9 ∧ sg r = 46 ∧ ¬ (qLim sg (r + 1) 11).1 = 0 ∧ kd = (qLim sg (r + 1) 11).1 ∧ at_ = (qLim sg (r + 1) 11).2.1) ∨
  (¬ k = 9 ∧ sg r = 40 ∧ Rch sg (0, 0, r + 1, 1, C, [(13, 0)], []) (qFt kd at_))
def ClG (sg : Nat → Nat) (i p : Nat) (C : List qOp) (q : Nat) (C' : List qOp) (k v1 v2 : Nat) : Prop :=
  k = qLq (sg p) ∧ k < 10 ∧ i < 12 ∧ (qLim sg (p + 1) (qLm k)).1 = 0 ∧ v1 = (qLim sg (p + 1) (qLm k)).2.2 ∧ ClB sg C k (qLim sg (p + 1) (qLm k)).2.1 q C' v2
def ClF (sg : Nat → Nat) (i p : Nat) (C : List qOp) (kd at_ : Nat) : Prop :=
  (¬ qLq (sg p) < 10 ∧ kd = 1 ∧ at_ = p) ∨
  (qLq (sg p) < 10 ∧ ¬ i < 12 ∧ kd = 4 ∧ at_ = p) ∨
  (qLq (sg p) < 10 ∧ i < 12 ∧ ¬ (qLim sg (p + 1) (qLm (qLq (sg p)))).1 = 0 ∧ kd = (qLim sg (p + 1) (qLm (qLq (sg p)))).1 ∧ at_ = (qLim sg (p + 1) (qLm (qLq (sg p)))).2.1) ∨
  (qLq (sg p) < 10 ∧ i < 12 ∧ (qLim sg (p + 1) (qLm (qLq (sg p)))).1 = 0 ∧ ClE sg C (qLq (sg p)) (qLim sg (p + 1) (qLm (qLq (sg p)))).2.1 kd at_)
theorem ClB_det {sg : Nat → Nat} {C : List qOp} {k r q q2 : Nat} {C' C2 : List qOp} {v2 w2 : Nat} (h : ClB sg C k r q C' v2) (h' : ClB sg C k r q2 C2 w2) : q = q2 ∧ C' = C2 ∧ v2 = w2 := by
  rcases h with ⟨a1, a2, a3, a4, a5, a6⟩ | ⟨a1, a2, a4, a5, a6⟩ | ⟨a1, a2, a3, hw, a4⟩
  · rcases h' with ⟨b1, b2, b3, b4, b5, b6⟩ | ⟨b1, b2, b4, b5, b6⟩ | ⟨b1, b2, b3, hw', b4⟩
    · exact ⟨a5.trans b5.symm, a6.trans b6.symm, a4.trans b4.symm⟩
    · exact absurd a1 b1
    · exact absurd a1 b1
  · rcases h' with ⟨b1, b2, b3, b4, b5, b6⟩ | ⟨b1, b2, b4, b5, b6⟩ | ⟨b1, b2, b3, hw', b4⟩
    · exact absurd b1 a1
    · exact ⟨a5.trans b5.symm, a6.trans b6.symm, a4.trans b4.symm⟩
    · exact absurd b2 a2
  · rcases h' with ⟨b1, b2, b3, b4, b5, b6⟩ | ⟨b1, b2, b4, b5, b6⟩ | ⟨b1, b2, b3, hw', b4⟩
    · exact absurd b1 a1
    · exact absurd a2 b2
    · have e := a4.det b4 (qEnd_fix _ _ _ _ _ _) (qEnd_fix _ _ _ _ _ _)
      simp only [Prod.mk.injEq] at e
      exact ⟨e.2.2.1, e.2.2.2.2.1, a3.trans b3.symm⟩
theorem ClB_E {sg : Nat → Nat} {C : List qOp} {k r q kd at_ : Nat} {C' : List qOp} {v2 : Nat} (h : ClB sg C k r q C' v2) (h' : ClE sg C k r kd at_) : False := by
  rcases h with ⟨a1, a2, a3, a4, a5, a6⟩ | ⟨a1, a2, a4, a5, a6⟩ | ⟨a1, a2, a3, hw, a4⟩
  · rcases h' with ⟨b1, b2, _⟩ | ⟨b1, b2, b3, _⟩ | ⟨b1, _⟩
    · exact b2 a2
    · exact b3 a3
    · exact b1 a1
  · rcases h' with ⟨b1, b2, _⟩ | ⟨b1, b2, b3, _⟩ | ⟨b1, b2, _⟩
    · exact a1 b1
    · exact a1 b1
    · exact a2 b2
  · rcases h' with ⟨b1, b2, _⟩ | ⟨b1, b2, b3, _⟩ | ⟨b1, b2, b3⟩
    · exact a1 b1
    · exact a1 b1
    · have e := a4.det b3 (qEnd_fix _ _ _ _ _ _) (qFt_fix _ _ _)
      have e0 : (5 : Nat) = 6 := congrArg Prod.fst e
      omega
theorem ClE_det {sg : Nat → Nat} {C : List qOp} {k r kd at_ kd' at' : Nat} (h : ClE sg C k r kd at_) (h' : ClE sg C k r kd' at') : kd = kd' ∧ at_ = at' := by
  rcases h with ⟨a1, a2, a3, a4⟩ | ⟨a1, a2, a3, a4, a5⟩ | ⟨a1, a2, a3⟩
  · rcases h' with ⟨b1, b2, b3, b4⟩ | ⟨b1, b2, b3, b4, b5⟩ | ⟨b1, b2, b3⟩
    · exact ⟨a3.trans b3.symm, a4.trans b4.symm⟩
    · exact absurd b2 a2
    · exact absurd a1 b1
  · rcases h' with ⟨b1, b2, b3, b4⟩ | ⟨b1, b2, b3, b4, b5⟩ | ⟨b1, b2, b3⟩
    · exact absurd a2 b2
    · exact ⟨a4.trans b4.symm, a5.trans b5.symm⟩
    · exact absurd a1 b1
  · rcases h' with ⟨b1, b2, b3, b4⟩ | ⟨b1, b2, b3, b4, b5⟩ | ⟨b1, b2, b3⟩
    · exact absurd b1 a1
    · exact absurd b1 a1
    · have e := a3.det b3 (qFt_fix _ _ _) (qFt_fix _ _ _)
      unfold qFt at e
      simp only [Prod.mk.injEq] at e
      exact ⟨e.2.1, e.2.2.1⟩
theorem ClG_det {sg : Nat → Nat} {i p : Nat} {C : List qOp} {q q2 : Nat} {C' C2 : List qOp} {k k2 v1 w1 v2 w2 : Nat} (h : ClG sg i p C q C' k v1 v2) (h' : ClG sg i p C q2 C2 k2 w1 w2) : q = q2 ∧ C' = C2 ∧ k = k2 ∧ v1 = w1 ∧ v2 = w2 := by
  obtain ⟨a1, a2, a3, a4, a5, a6⟩ := h
  obtain ⟨b1, b2, b3, b4, b5, b6⟩ := h'
  have ek : k = k2 := a1.trans b1.symm
  subst ek
  obtain ⟨c1, c2, c3⟩ := ClB_det a6 b6
  exact ⟨c1, c2, rfl, a5.trans b5.symm, c3⟩
theorem ClG_F {sg : Nat → Nat} {i p : Nat} {C : List qOp} {q : Nat} {C' : List qOp} {k v1 v2 kd at_ : Nat} (h : ClG sg i p C q C' k v1 v2) (h' : ClF sg i p C kd at_) : False := by
  obtain ⟨a1, a2, a3, a4, a5, a6⟩ := h
  subst a1
  rcases h' with ⟨b1, _⟩ | ⟨b1, b2, _⟩ | ⟨b1, b2, b3, _⟩ | ⟨b1, b2, b3, b4⟩
  · exact b1 a2
  · exact b2 a3
  · exact b3 a4
  · exact ClB_E a6 b4
theorem ClF_det {sg : Nat → Nat} {i p : Nat} {C : List qOp} {kd at_ kd' at' : Nat} (h : ClF sg i p C kd at_) (h' : ClF sg i p C kd' at') : kd = kd' ∧ at_ = at' := by
  rcases h with ⟨a1, a2, a3⟩ | ⟨a1, a2, a3, a4⟩ | ⟨a1, a2, a3, a4, a5⟩ | ⟨a1, a2, a3, a4⟩
  · rcases h' with ⟨b1, b2, b3⟩ | ⟨b1, b2, b3, b4⟩ | ⟨b1, b2, b3, b4, b5⟩ | ⟨b1, b2, b3, b4⟩
    · exact ⟨a2.trans b2.symm, a3.trans b3.symm⟩
    · exact absurd b1 a1
    · exact absurd b1 a1
    · exact absurd b1 a1
  · rcases h' with ⟨b1, b2, b3⟩ | ⟨b1, b2, b3, b4⟩ | ⟨b1, b2, b3, b4, b5⟩ | ⟨b1, b2, b3, b4⟩
    · exact absurd a1 b1
    · exact ⟨a3.trans b3.symm, a4.trans b4.symm⟩
    · exact absurd b2 a2
    · exact absurd b2 a2
  · rcases h' with ⟨b1, b2, b3⟩ | ⟨b1, b2, b3, b4⟩ | ⟨b1, b2, b3, b4, b5⟩ | ⟨b1, b2, b3, b4⟩
    · exact absurd a1 b1
    · exact absurd a2 b2
    · exact ⟨a4.trans b4.symm, a5.trans b5.symm⟩
    · exact absurd b3 a3
  · rcases h' with ⟨b1, b2, b3⟩ | ⟨b1, b2, b3, b4⟩ | ⟨b1, b2, b3, b4, b5⟩ | ⟨b1, b2, b3, b4⟩
    · exact absurd a1 b1
    · exact absurd a2 b2
    · exact absurd a3 b3
    · exact ClE_det a4 b4
/-- i clauses read, each with a ; behind it -/
abbrev qCl : Type := Nat × Nat × Nat × Nat × Nat
def LwP (sg : Nat → Nat) : Nat → Nat → List qOp → List qCl → Prop
  | 0, p, C, cl => p = 0 ∧ C = [] ∧ cl = []
  | i + 1, p, C, cl => ∃ (p0 : Nat) (C0 : List qOp) (cl0 : List qCl) (q k v1 v2 : Nat), LwP sg i p0 C0 cl0 ∧ ClG sg i p0 C0 q C k v1 v2 ∧ sg q = 59 ∧ p = q + 1 ∧ cl = cl0 ++ [(k, v1, v2, C0.length, C.length)]
theorem LwP_det {sg : Nat → Nat} : ∀ (i : Nat) {p p' : Nat} {C C' : List qOp} {cl cl' : List qCl}, LwP sg i p C cl → LwP sg i p' C' cl' → p = p' ∧ C = C' ∧ cl = cl'
  | 0, _, _, _, _, _, _, h, h' => ⟨h.1.trans h'.1.symm, h.2.1.trans h'.2.1.symm, h.2.2.trans h'.2.2.symm⟩
  | i + 1, _, _, _, _, _, _, h, h' => by
    obtain ⟨p0, C0, cl0, q, k, v1, v2, a1, a2, a3, a4, a5⟩ := h
    obtain ⟨p1, C1, cl1, q1, k1, w1, w2, b1, b2, b3, b4, b5⟩ := h'
    obtain ⟨rfl, rfl, rfl⟩ := LwP_det i a1 b1
    obtain ⟨rfl, rfl, rfl, rfl, rfl⟩ := ClG_det a2 b2
    exact ⟨a4.trans b4.symm, rfl, a5.trans b5.symm⟩
theorem LwP_lt {sg : Nat → Nat} {i : Nat} : ∀ (j : Nat) {p : Nat} {C : List qOp} {cl : List qCl}, LwP sg j p C cl → i < j → ∃ (p0 : Nat) (C0 : List qOp) (cl0 : List qCl) (q : Nat) (C1 : List qOp) (k v1 v2 : Nat), LwP sg i p0 C0 cl0 ∧ ClG sg i p0 C0 q C1 k v1 v2 ∧ sg q = 59
  | 0, _, _, _, _, h => absurd h (Nat.not_lt_zero _)
  | j + 1, _, _, _, h, hij => by
    obtain ⟨p0, C0, cl0, q, k, v1, v2, a1, a2, a3, a4, a5⟩ := h
    by_cases c : i = j
    · subst c
      exact ⟨p0, C0, cl0, q, _, k, v1, v2, a1, a2, a3⟩
    · exact LwP_lt j a1 (by omega)
/-- the end of a text: all of it read, or a fault -/
def LwG (sg : Nat → Nat) (n i : Nat) (C : List qOp) (cl : List qCl) : Prop := ∃ (p0 : Nat) (C0 : List qOp) (cl0 : List qCl) (q k v1 v2 : Nat), LwP sg i p0 C0 cl0 ∧ ClG sg i p0 C0 q C k v1 v2 ∧ n ≤ q ∧ cl = cl0 ++ [(k, v1, v2, C0.length, C.length)]
def LwX (sg : Nat → Nat) (n kd at_ : Nat) : Prop := ∃ (i p0 : Nat) (C0 : List qOp) (cl0 : List qCl), LwP sg i p0 C0 cl0 ∧ (ClF sg i p0 C0 kd at_ ∨ ∃ (q : Nat) (C1 : List qOp) (k v1 v2 : Nat), ClG sg i p0 C0 q C1 k v1 v2 ∧ q < n ∧ ¬ sg q = 59 ∧ kd = 1 ∧ at_ = q)
theorem LwG_i {sg : Nat → Nat} {n i j : Nat} {C C' : List qOp} {cl cl' : List qCl} (hs : ∀ k, n ≤ k → sg k = 999) (h : LwG sg n i C cl) (h' : LwG sg n j C' cl') : ¬ i < j := by
  intro hij
  obtain ⟨p0, C0, cl0, q, k, v1, v2, a1, a2, a3, a4⟩ := h
  obtain ⟨p1, C1, cl1, q1, k1, w1, w2, b1, b2, b3, b4⟩ := h'
  obtain ⟨p2, C2, cl2, q2, C3, k2, x1, x2, c1, c2, c3⟩ := LwP_lt j b1 hij
  obtain ⟨rfl, rfl, rfl⟩ := LwP_det i a1 c1
  obtain ⟨rfl, rfl, rfl, rfl, rfl⟩ := ClG_det a2 c2
  have := hs _ a3
  omega
theorem LwG_det {sg : Nat → Nat} {n i j : Nat} {C C' : List qOp} {cl cl' : List qCl} (hs : ∀ k, n ≤ k → sg k = 999) (h : LwG sg n i C cl) (h' : LwG sg n j C' cl') : i = j ∧ C = C' ∧ cl = cl' := by
  have e : i = j := by
    have := LwG_i hs h h'
    have := LwG_i hs h' h
    omega
  subst e
  obtain ⟨p0, C0, cl0, q, k, v1, v2, a1, a2, a3, a4⟩ := h
  obtain ⟨p1, C1, cl1, q1, k1, w1, w2, b1, b2, b3, b4⟩ := h'
  obtain ⟨rfl, rfl, rfl⟩ := LwP_det i a1 b1
  obtain ⟨rfl, rfl, rfl, rfl, rfl⟩ := ClG_det a2 b2
  exact ⟨rfl, rfl, a4.trans b4.symm⟩
theorem LwG_X {sg : Nat → Nat} {n i kd at_ : Nat} {C : List qOp} {cl : List qCl} (hs : ∀ k, n ≤ k → sg k = 999) (h : LwG sg n i C cl) (h' : LwX sg n kd at_) : False := by
  obtain ⟨p0, C0, cl0, q, k, v1, v2, a1, a2, a3, a4⟩ := h
  obtain ⟨j, p1, C1, cl1, b1, b2⟩ := h'
  rcases Nat.lt_trichotomy i j with hij | hij | hij
  · obtain ⟨p2, C2, cl2, q2, C3, k2, x1, x2, c1, c2, c3⟩ := LwP_lt j b1 hij
    obtain ⟨rfl, rfl, rfl⟩ := LwP_det i a1 c1
    obtain ⟨rfl, rfl, rfl, rfl, rfl⟩ := ClG_det a2 c2
    have := hs _ a3
    omega
  · subst hij
    obtain ⟨rfl, rfl, rfl⟩ := LwP_det i a1 b1
    rcases b2 with b2 | ⟨q1, C2, k1, w1, w2, b2, b3, b4, _⟩
    · exact ClG_F a2 b2
    · obtain ⟨rfl, rfl, rfl, rfl, rfl⟩ := ClG_det a2 b2
      omega
  · obtain ⟨p2, C2, cl2, q2, C3, k2, x1, x2, c1, c2, c3⟩ := LwP_lt i a1 hij
    obtain ⟨rfl, rfl, rfl⟩ := LwP_det j b1 c1
    rcases b2 with b2 | ⟨q1, C4, k1, w1, w2, b2, b3, b4, _⟩
    · exact ClG_F c2 b2
    · obtain ⟨rfl, rfl, rfl, rfl, rfl⟩ := ClG_det c2 b2
      exact b4 c3
theorem LwX_i {sg : Nat → Nat} {n kd at_ i p0 : Nat} {C0 : List qOp} {cl0 : List qCl} (a1 : LwP sg i p0 C0 cl0) (a2 : ClF sg i p0 C0 kd at_ ∨ ∃ (q : Nat) (C1 : List qOp) (k v1 v2 : Nat), ClG sg i p0 C0 q C1 k v1 v2 ∧ q < n ∧ ¬ sg q = 59 ∧ kd = 1 ∧ at_ = q) {j p1 : Nat} {C1 : List qOp} {cl1 : List qCl} (b1 : LwP sg j p1 C1 cl1) : ¬ i < j := by
  intro hij
  obtain ⟨p2, C2, cl2, q2, C3, k2, x1, x2, c1, c2, c3⟩ := LwP_lt j b1 hij
  obtain ⟨rfl, rfl, rfl⟩ := LwP_det i a1 c1
  rcases a2 with a2 | ⟨q1, C4, k1, w1, w2, b2, b3, b4, _⟩
  · exact ClG_F c2 a2
  · obtain ⟨rfl, rfl, rfl, rfl, rfl⟩ := ClG_det c2 b2
    exact b4 c3
theorem LwX_det {sg : Nat → Nat} {n kd at_ kd' at' : Nat} (h : LwX sg n kd at_) (h' : LwX sg n kd' at') : kd = kd' ∧ at_ = at' := by
  obtain ⟨i, p0, C0, cl0, a1, a2⟩ := h
  obtain ⟨j, p1, C1, cl1, b1, b2⟩ := h'
  have e : i = j := by
    have := LwX_i a1 a2 b1
    have := LwX_i b1 b2 a1
    omega
  subst e
  obtain ⟨rfl, rfl, rfl⟩ := LwP_det i a1 b1
  rcases a2 with a2 | ⟨q, C2, k, v1, v2, a2, a3, a4, a5, a6⟩
  · rcases b2 with b2 | ⟨q1, C4, k1, w1, w2, b2, b3, b4, _⟩
    · exact ClF_det a2 b2
    · exact absurd a2 (fun z => ClG_F b2 z)
  · rcases b2 with b2 | ⟨q1, C4, k1, w1, w2, b2, b3, b4, b5, b6⟩
    · exact absurd b2 (fun z => ClG_F a2 z)
    · obtain ⟨rfl, rfl, rfl, rfl, rfl⟩ := ClG_det a2 b2
      exact ⟨a5.trans b5.symm, a6.trans b6.symm⟩
