/-! the reading of conditions: a pure machine; eager where the reference waits -/
abbrev qPs : Type := Nat × Nat × Nat × Nat × List qOp × List qOp × List qOp
/-- operators, letters, comparisons by their signs -/
def qSs (c : Nat) : Nat := if c = 43 then 2 else if c = 45 then 3 else if c = 42 then 4 else if c = 47 then 5 else if c = 37 then 6 else 0
def qFc (c : Nat) : Nat := if c = 107 then 0 else if c = 108 then 1 else if c = 121 then 2 else if c = 122 then 3 else if c = 111 then 4 else if c = 102 then 5 else if c = 106 then 6 else if c = 100 then 7 else 8
def qCp (c : Nat) : Nat := if c = 60 then 7 else if c = 62 then 8 else if c = 61 then 9 else 0
/-- how many digits stand from p on, at most n of them -/
def qDc (sg : Nat → Nat) (p : Nat) : Nat → Nat
  | 0 => 0
  | n + 1 => if 48 ≤ sg p ∧ sg p ≤ 57 then 1 + qDc sg (p + 1) n else 0
def qDv (sg : Nat → Nat) (p : Nat) : Nat → Nat
  | 0 => 0
  | n + 1 => 10 * qDv sg p n + (sg (p + n) - 48)
def qFt (k p : Nat) : qPs := (6, k, p, 0, [], [], [])
def qTop (K : List qOp) : Nat := match K with
  | [] => 99
  | q :: _ => q.1
def qTv2 (K : List qOp) : Nat := match K with
  | [] => 0
  | q :: _ => q.2
def qPt (sg : Nat → Nat) (s : qPs) : qPs := match s with
  | (ph, hw, p, o, C, K1, K2) =>
    if ph = 0 then
      (if sg p = 33 then (if o = 6 then qFt 5 p else (0, hw, p + 1, o + 1, C, (10, 0) :: K1, K2))
      else if sg p = 40 then (if o = 6 then qFt 5 p else (0, hw, p + 1, o + 1, C, (13, 0) :: K1, K2))
      else (1, hw, p, o, C, K1, K2))
    else if ph = 1 ∨ ph = 3 then
      (if sg p = 91 then (if o = 6 then qFt 5 p else (ph, hw, p + 1, o + 1, C, K1, (14, 0) :: K2))
      else if 48 ≤ sg p ∧ sg p ≤ 57 then (if qDc sg p 7 = 7 then qFt 2 (p + 6) else (ph + 1, hw, p + qDc sg p 7, o, C ++ [(0, qDv sg p (qDc sg p 7))], K1, K2))
      else if qFc (sg p) < 8 then (ph + 1, hw, p + 1, o, C ++ [(1, qFc (sg p))], K1, K2)
      else qFt 1 p)
    else if ph = 2 ∨ ph = 4 then
      (if 4 ≤ qTop K2 ∧ qTop K2 ≤ 6 then (ph, hw, p, o, C ++ [(qTop K2, 0)], K1, K2.tail)
      else if 4 ≤ qSs (sg p) then (ph - 1, hw, p + 1, o, C, K1, (qSs (sg p), 0) :: K2)
      else if 2 ≤ qTop K2 ∧ qTop K2 ≤ 3 then (ph, hw, p, o, C ++ [(qTop K2, 0)], K1, K2.tail)
      else if 2 ≤ qSs (sg p) then (ph - 1, hw, p + 1, o, C, K1, (qSs (sg p), 0) :: K2)
      else if qTop K2 = 14 then (if sg p = 93 then (ph, hw, p + 1, o - 1, C, K1, K2.tail) else qFt 1 p)
      else if ph = 2 then (if qCp (sg p) = 0 then qFt 1 p else (3, qCp (sg p), p + 1, o, C, K1, K2))
      else (5, hw, p, o, C ++ [(hw, 0)], K1, K2))
    else if ph = 5 then
      (if qTop K1 = 10 then (5, hw, p, o - 1, C ++ [(10, 0)], K1.tail, K2)
      else if qTop K1 = 11 then (5, hw, p, o, C.set (qTv2 K1) (11, C.length), K1.tail, K2)
      else if qTop K1 = 99 then s
      else if sg p = 38 then (0, hw, p + 1, o, C ++ [(11, 0)], (11, C.length) :: K1, K2)
      else if qTop K1 = 12 then (5, hw, p, o, C.set (qTv2 K1) (12, C.length), K1.tail, K2)
      else if sg p = 124 then (0, hw, p + 1, o, C ++ [(12, 0)], (12, C.length) :: K1, K2)
      else if sg p = 41 then (5, hw, p + 1, o - 1, C, K1.tail, K2) else qFt 1 p)
    else s
def qPn (sg : Nat → Nat) : Nat → qPs → qPs
  | 0, s => s
  | n + 1, s => qPn sg n (qPt sg s)
def Rch (sg : Nat → Nat) (s s' : qPs) : Prop := ∃ n, qPn sg n s = s'
theorem Rch.rf (sg : Nat → Nat) (s : qPs) : Rch sg s s := ⟨0, rfl⟩
theorem qPn_add (sg : Nat → Nat) : ∀ (a b : Nat) (s : qPs), qPn sg (a + b) s = qPn sg b (qPn sg a s)
  | 0, b, s => by rw [Nat.zero_add]; rfl
  | a + 1, b, s => by
    rw [show a + 1 + b = a + b + 1 from by omega]
    show qPn sg (a + b) (qPt sg s) = qPn sg b (qPn sg a (qPt sg s))
    exact qPn_add sg a b _
theorem Rch.tr {sg : Nat → Nat} {a b c : qPs} (h1 : Rch sg a b) (h2 : Rch sg b c) : Rch sg a c := by
  obtain ⟨n, e1⟩ := h1
  obtain ⟨m, e2⟩ := h2
  exact ⟨n + m, by rw [qPn_add, e1, e2]⟩
theorem Rch.st {sg : Nat → Nat} {a b c : qPs} (h1 : Rch sg a b) (h2 : qPt sg b = c) : Rch sg a c := h1.tr ⟨1, h2⟩
theorem qPn_fix {sg : Nat → Nat} {s : qPs} (h : qPt sg s = s) : ∀ n, qPn sg n s = s
  | 0 => rfl
  | n + 1 => by
    show qPn sg n (qPt sg s) = s
    rw [h]
    exact qPn_fix h n
/-- two ends are one -/
theorem Rch.det {sg : Nat → Nat} {s a b : qPs} (h1 : Rch sg s a) (h2 : Rch sg s b) (fa : qPt sg a = a) (fb : qPt sg b = b) : a = b := by
  obtain ⟨n, e1⟩ := h1
  obtain ⟨m, e2⟩ := h2
  have x1 : qPn sg (n + m) s = a := by rw [qPn_add, e1]; exact qPn_fix fa m
  have x2 : qPn sg (m + n) s = b := by rw [qPn_add, e2]; exact qPn_fix fb n
  rw [Nat.add_comm] at x2
  exact x1.symm.trans x2
theorem qFt_fix (sg : Nat → Nat) (k p : Nat) : qPt sg (qFt k p) = qFt k p := rfl
theorem qEnd_fix (sg : Nat → Nat) (hw p o : Nat) (C K2 : List qOp) : qPt sg (5, hw, p, o, C, [], K2) = (5, hw, p, o, C, [], K2) := rfl
theorem s0_not (sg : Nat → Nat) {hw p o : Nat} {C K1 K2 : List qOp} (h : sg p = 33) (ho : ¬ o = 6) : qPt sg (0, hw, p, o, C, K1, K2) = (0, hw, p + 1, o + 1, C, (10, 0) :: K1, K2) := by
  unfold qPt
  dsimp only
  rw [if_pos rfl, if_pos h, if_neg ho]
theorem s0_notF (sg : Nat → Nat) {hw p o : Nat} {C K1 K2 : List qOp} (h : sg p = 33) (ho : o = 6) : qPt sg (0, hw, p, o, C, K1, K2) = qFt 5 p := by
  unfold qPt
  dsimp only
  rw [if_pos rfl, if_pos h, if_pos ho]
theorem s0_par (sg : Nat → Nat) {hw p o : Nat} {C K1 K2 : List qOp} (h : sg p = 40) (ho : ¬ o = 6) : qPt sg (0, hw, p, o, C, K1, K2) = (0, hw, p + 1, o + 1, C, (13, 0) :: K1, K2) := by
  unfold qPt
  dsimp only
  rw [if_pos rfl, if_neg (by rw [h]; decide), if_pos h, if_neg ho]
theorem s0_parF (sg : Nat → Nat) {hw p o : Nat} {C K1 K2 : List qOp} (h : sg p = 40) (ho : o = 6) : qPt sg (0, hw, p, o, C, K1, K2) = qFt 5 p := by
  unfold qPt
  dsimp only
  rw [if_pos rfl, if_neg (by rw [h]; decide), if_pos h, if_pos ho]
theorem s0_sum (sg : Nat → Nat) {hw p o : Nat} {C K1 K2 : List qOp} (h1 : ¬ sg p = 33) (h2 : ¬ sg p = 40) : qPt sg (0, hw, p, o, C, K1, K2) = (1, hw, p, o, C, K1, K2) := by
  unfold qPt
  dsimp only
  rw [if_pos rfl, if_neg h1, if_neg h2]
theorem s1_open (sg : Nat → Nat) {ph hw p o : Nat} {C K1 K2 : List qOp}(hp : ph = 1 ∨ ph = 3) (h : sg p = 91) (ho : ¬ o = 6) : qPt sg (ph, hw, p, o, C, K1, K2) = (ph, hw, p + 1, o + 1, C, K1, (14, 0) :: K2) := by
  unfold qPt
  dsimp only
  rw [if_neg (show ¬ ph = 0 by omega), if_pos hp, if_pos h, if_neg ho]
theorem s1_openF (sg : Nat → Nat) {ph hw p o : Nat} {C K1 K2 : List qOp}(hp : ph = 1 ∨ ph = 3) (h : sg p = 91) (ho : o = 6) : qPt sg (ph, hw, p, o, C, K1, K2) = qFt 5 p := by
  unfold qPt
  dsimp only
  rw [if_neg (show ¬ ph = 0 by omega), if_pos hp, if_pos h, if_pos ho]
theorem s1_num (sg : Nat → Nat) {ph hw p o : Nat} {C K1 K2 : List qOp}(hp : ph = 1 ∨ ph = 3) (h : 48 ≤ sg p ∧ sg p ≤ 57) (h7 : ¬ qDc sg p 7 = 7) : qPt sg (ph, hw, p, o, C, K1, K2) = (ph + 1, hw, p + qDc sg p 7, o, C ++ [(0, qDv sg p (qDc sg p 7))], K1, K2) := by
  unfold qPt
  dsimp only
  rw [if_neg (show ¬ ph = 0 by omega), if_pos hp, if_neg (show ¬ sg p = 91 by omega), if_pos h, if_neg h7]
theorem s1_numF (sg : Nat → Nat) {ph hw p o : Nat} {C K1 K2 : List qOp}(hp : ph = 1 ∨ ph = 3) (h : 48 ≤ sg p ∧ sg p ≤ 57) (h7 : qDc sg p 7 = 7) : qPt sg (ph, hw, p, o, C, K1, K2) = qFt 2 (p + 6) := by
  unfold qPt
  dsimp only
  rw [if_neg (show ¬ ph = 0 by omega), if_pos hp, if_neg (show ¬ sg p = 91 by omega), if_pos h, if_pos h7]
theorem s1_let (sg : Nat → Nat) {ph hw p o : Nat} {C K1 K2 : List qOp}(hp : ph = 1 ∨ ph = 3) (h1 : ¬ sg p = 91) (h2 : ¬ (48 ≤ sg p ∧ sg p ≤ 57)) (h3 : qFc (sg p) < 8) : qPt sg (ph, hw, p, o, C, K1, K2) = (ph + 1, hw, p + 1, o, C ++ [(1, qFc (sg p))], K1, K2) := by
  unfold qPt
  dsimp only
  rw [if_neg (show ¬ ph = 0 by omega), if_pos hp, if_neg h1, if_neg h2, if_pos h3]
theorem s1_F (sg : Nat → Nat) {ph hw p o : Nat} {C K1 K2 : List qOp}(hp : ph = 1 ∨ ph = 3) (h1 : ¬ sg p = 91) (h2 : ¬ (48 ≤ sg p ∧ sg p ≤ 57)) (h3 : ¬ qFc (sg p) < 8) : qPt sg (ph, hw, p, o, C, K1, K2) = qFt 1 p := by
  unfold qPt
  dsimp only
  rw [if_neg (show ¬ ph = 0 by omega), if_pos hp, if_neg h1, if_neg h2, if_neg h3]
theorem s2_mul (sg : Nat → Nat) {ph hw p o : Nat} {C K1 K2 : List qOp} {x y : Nat}(hp : ph = 2 ∨ ph = 4) (h : 4 ≤ x ∧ x ≤ 6) : qPt sg (ph, hw, p, o, C, K1, (x, y) :: K2) = (ph, hw, p, o, C ++ [(x, 0)], K1, K2) := by
  unfold qPt
  dsimp only
  rw [if_neg (show ¬ ph = 0 by omega), if_neg (show ¬ (ph = 1 ∨ ph = 3) by omega), if_pos hp, if_pos (show 4 ≤ qTop ((x, y) :: K2) ∧ qTop ((x, y) :: K2) ≤ 6 from h)]
  rfl
theorem s2_rdm (sg : Nat → Nat) {ph hw p o : Nat} {C K1 K2 : List qOp}(hp : ph = 2 ∨ ph = 4) (h1 : ¬ (4 ≤ qTop K2 ∧ qTop K2 ≤ 6)) (h2 : 4 ≤ qSs (sg p)) : qPt sg (ph, hw, p, o, C, K1, K2) = (ph - 1, hw, p + 1, o, C, K1, (qSs (sg p), 0) :: K2) := by
  unfold qPt
  dsimp only
  rw [if_neg (show ¬ ph = 0 by omega), if_neg (show ¬ (ph = 1 ∨ ph = 3) by omega), if_pos hp, if_neg h1, if_pos h2]
theorem s2_add (sg : Nat → Nat) {ph hw p o : Nat} {C K1 K2 : List qOp} {x y : Nat}(hp : ph = 2 ∨ ph = 4) (h : 2 ≤ x ∧ x ≤ 3) (h2 : ¬ 4 ≤ qSs (sg p)) : qPt sg (ph, hw, p, o, C, K1, (x, y) :: K2) = (ph, hw, p, o, C ++ [(x, 0)], K1, K2) := by
  unfold qPt
  dsimp only
  rw [if_neg (show ¬ ph = 0 by omega), if_neg (show ¬ (ph = 1 ∨ ph = 3) by omega), if_pos hp, if_neg (show ¬ (4 ≤ qTop ((x, y) :: K2) ∧ qTop ((x, y) :: K2) ≤ 6) from fun z => by have z1 : 4 ≤ x := z.1; omega), if_neg h2, if_pos (show 2 ≤ qTop ((x, y) :: K2) ∧ qTop ((x, y) :: K2) ≤ 3 from h)]
  rfl
theorem s2_rda (sg : Nat → Nat) {ph hw p o : Nat} {C K1 K2 : List qOp}(hp : ph = 2 ∨ ph = 4) (h1 : ¬ (2 ≤ qTop K2 ∧ qTop K2 ≤ 6)) (h2 : ¬ 4 ≤ qSs (sg p)) (h3 : 2 ≤ qSs (sg p)) : qPt sg (ph, hw, p, o, C, K1, K2) = (ph - 1, hw, p + 1, o, C, K1, (qSs (sg p), 0) :: K2) := by
  unfold qPt
  dsimp only
  rw [if_neg (show ¬ ph = 0 by omega), if_neg (show ¬ (ph = 1 ∨ ph = 3) by omega), if_pos hp, if_neg (show ¬ (4 ≤ qTop K2 ∧ qTop K2 ≤ 6) by omega), if_neg h2, if_neg (show ¬ (2 ≤ qTop K2 ∧ qTop K2 ≤ 3) by omega), if_pos h3]
theorem s2_cls (sg : Nat → Nat) {ph hw p o : Nat} {C K1 K2 : List qOp} {y : Nat}(hp : ph = 2 ∨ ph = 4) (h2 : ¬ 2 ≤ qSs (sg p)) (h3 : sg p = 93) : qPt sg (ph, hw, p, o, C, K1, (14, y) :: K2) = (ph, hw, p + 1, o - 1, C, K1, K2) := by
  unfold qPt
  dsimp only
  rw [if_neg (show ¬ ph = 0 by omega), if_neg (show ¬ (ph = 1 ∨ ph = 3) by omega), if_pos hp, if_neg (show ¬ (4 ≤ qTop ((14, y) :: K2) ∧ qTop ((14, y) :: K2) ≤ 6) from fun z => absurd z.2 (by show ¬ 14 ≤ 6; decide)), if_neg (show ¬ 4 ≤ qSs (sg p) by omega), if_neg (show ¬ (2 ≤ qTop ((14, y) :: K2) ∧ qTop ((14, y) :: K2) ≤ 3) from fun z => absurd z.2 (by show ¬ 14 ≤ 3; decide)), if_neg h2, if_pos (show qTop ((14, y) :: K2) = 14 from rfl), if_pos h3]
  rfl
theorem s2_clsF (sg : Nat → Nat) {ph hw p o : Nat} {C K1 K2 : List qOp} {y : Nat}(hp : ph = 2 ∨ ph = 4) (h2 : ¬ 2 ≤ qSs (sg p)) (h3 : ¬ sg p = 93) : qPt sg (ph, hw, p, o, C, K1, (14, y) :: K2) = qFt 1 p := by
  unfold qPt
  dsimp only
  rw [if_neg (show ¬ ph = 0 by omega), if_neg (show ¬ (ph = 1 ∨ ph = 3) by omega), if_pos hp, if_neg (show ¬ (4 ≤ qTop ((14, y) :: K2) ∧ qTop ((14, y) :: K2) ≤ 6) from fun z => absurd z.2 (by show ¬ 14 ≤ 6; decide)), if_neg (show ¬ 4 ≤ qSs (sg p) by omega), if_neg (show ¬ (2 ≤ qTop ((14, y) :: K2) ∧ qTop ((14, y) :: K2) ≤ 3) from fun z => absurd z.2 (by show ¬ 14 ≤ 3; decide)), if_neg h2, if_pos (show qTop ((14, y) :: K2) = 14 from rfl), if_neg h3]
theorem s2_cmp (sg : Nat → Nat) {hw p o : Nat} {C K1 : List qOp} (h2 : ¬ 2 ≤ qSs (sg p)) (h3 : ¬ qCp (sg p) = 0) : qPt sg (2, hw, p, o, C, K1, []) = (3, qCp (sg p), p + 1, o, C, K1, []) := by
  unfold qPt
  dsimp only
  rw [if_neg (show ¬ 2 = 0 by decide), if_neg (show ¬ (2 = 1 ∨ 2 = 3) by decide), if_pos (show 2 = 2 ∨ 2 = 4 from Or.inl rfl), if_neg (show ¬ (4 ≤ qTop [] ∧ qTop [] ≤ 6) from fun z => absurd z.2 (by show ¬ 99 ≤ 6; decide)), if_neg (show ¬ 4 ≤ qSs (sg p) by omega), if_neg (show ¬ (2 ≤ qTop [] ∧ qTop [] ≤ 3) from fun z => absurd z.2 (by show ¬ 99 ≤ 3; decide)), if_neg h2, if_neg (show ¬ qTop [] = 14 from by show ¬ 99 = 14; decide), if_pos rfl, if_neg h3]
theorem s2_cmpF (sg : Nat → Nat) {hw p o : Nat} {C K1 : List qOp} (h2 : ¬ 2 ≤ qSs (sg p)) (h3 : qCp (sg p) = 0) : qPt sg (2, hw, p, o, C, K1, []) = qFt 1 p := by
  unfold qPt
  dsimp only
  rw [if_neg (show ¬ 2 = 0 by decide), if_neg (show ¬ (2 = 1 ∨ 2 = 3) by decide), if_pos (show 2 = 2 ∨ 2 = 4 from Or.inl rfl), if_neg (show ¬ (4 ≤ qTop [] ∧ qTop [] ≤ 6) from fun z => absurd z.2 (by show ¬ 99 ≤ 6; decide)), if_neg (show ¬ 4 ≤ qSs (sg p) by omega), if_neg (show ¬ (2 ≤ qTop [] ∧ qTop [] ≤ 3) from fun z => absurd z.2 (by show ¬ 99 ≤ 3; decide)), if_neg h2, if_neg (show ¬ qTop [] = 14 from by show ¬ 99 = 14; decide), if_pos rfl, if_pos h3]
theorem s4_cmp (sg : Nat → Nat) {hw p o : Nat} {C K1 : List qOp} (h2 : ¬ 2 ≤ qSs (sg p)) : qPt sg (4, hw, p, o, C, K1, []) = (5, hw, p, o, C ++ [(hw, 0)], K1, []) := by
  unfold qPt
  dsimp only
  rw [if_neg (show ¬ 4 = 0 by decide), if_neg (show ¬ (4 = 1 ∨ 4 = 3) by decide), if_pos (show 4 = 2 ∨ 4 = 4 from Or.inr rfl), if_neg (show ¬ (4 ≤ qTop [] ∧ qTop [] ≤ 6) from fun z => absurd z.2 (by show ¬ 99 ≤ 6; decide)), if_neg (show ¬ 4 ≤ qSs (sg p) by omega), if_neg (show ¬ (2 ≤ qTop [] ∧ qTop [] ≤ 3) from fun z => absurd z.2 (by show ¬ 99 ≤ 3; decide)), if_neg h2, if_neg (show ¬ qTop [] = 14 from by show ¬ 99 = 14; decide), if_neg (show ¬ 4 = 2 by decide)]
theorem s5_not (sg : Nat → Nat) {hw p o : Nat} {C K1 K2 : List qOp} {y : Nat} : qPt sg (5, hw, p, o, C, (10, y) :: K1, K2) = (5, hw, p, o - 1, C ++ [(10, 0)], K1, K2) := by
  rfl
theorem s5_ifn (sg : Nat → Nat) {hw p o : Nat} {C K1 K2 : List qOp} {j : Nat} : qPt sg (5, hw, p, o, C, (11, j) :: K1, K2) = (5, hw, p, o, C.set j (11, C.length), K1, K2) := by
  rfl
theorem s5_and (sg : Nat → Nat) {hw p o : Nat} {C K1 K2 : List qOp} (h : qTop K1 = 12 ∨ qTop K1 = 13) (h2 : sg p = 38) : qPt sg (5, hw, p, o, C, K1, K2) = (0, hw, p + 1, o, C ++ [(11, 0)], (11, C.length) :: K1, K2) := by
  unfold qPt
  dsimp only
  rw [if_neg (show ¬ 5 = 0 by decide), if_neg (show ¬ (5 = 1 ∨ 5 = 3) by decide), if_neg (show ¬ (5 = 2 ∨ 5 = 4) by decide), if_pos rfl, if_neg (by omega), if_neg (by omega), if_neg (by omega), if_pos h2]
theorem s5_ifl (sg : Nat → Nat) {hw p o : Nat} {C K1 K2 : List qOp} {j : Nat} (h2 : ¬ sg p = 38) : qPt sg (5, hw, p, o, C, (12, j) :: K1, K2) = (5, hw, p, o, C.set j (12, C.length), K1, K2) := by
  unfold qPt
  dsimp only
  rw [if_neg (show ¬ 5 = 0 by decide), if_neg (show ¬ (5 = 1 ∨ 5 = 3) by decide), if_neg (show ¬ (5 = 2 ∨ 5 = 4) by decide), if_pos rfl, if_neg (show ¬ qTop ((12, j) :: K1) = 10 from by show ¬ 12 = 10; decide), if_neg (show ¬ qTop ((12, j) :: K1) = 11 from by show ¬ 12 = 11; decide), if_neg (show ¬ qTop ((12, j) :: K1) = 99 from by show ¬ 12 = 99; decide), if_neg h2, if_pos (show qTop ((12, j) :: K1) = 12 from rfl)]
  rfl
theorem s5_or (sg : Nat → Nat) {hw p o : Nat} {C K1 K2 : List qOp} {y : Nat} (h2 : sg p = 124) : qPt sg (5, hw, p, o, C, (13, y) :: K1, K2) = (0, hw, p + 1, o, C ++ [(12, 0)], (12, C.length) :: (13, y) :: K1, K2) := by
  unfold qPt
  dsimp only
  rw [if_neg (show ¬ 5 = 0 by decide), if_neg (show ¬ (5 = 1 ∨ 5 = 3) by decide), if_neg (show ¬ (5 = 2 ∨ 5 = 4) by decide), if_pos rfl, if_neg (show ¬ qTop ((13, y) :: K1) = 10 from by show ¬ 13 = 10; decide), if_neg (show ¬ qTop ((13, y) :: K1) = 11 from by show ¬ 13 = 11; decide), if_neg (show ¬ qTop ((13, y) :: K1) = 99 from by show ¬ 13 = 99; decide), if_neg (by rw [h2]; decide), if_neg (show ¬ qTop ((13, y) :: K1) = 12 from by show ¬ 13 = 12; decide), if_pos h2]
theorem s5_par (sg : Nat → Nat) {hw p o : Nat} {C K1 K2 : List qOp} {y : Nat} (h2 : sg p = 41) : qPt sg (5, hw, p, o, C, (13, y) :: K1, K2) = (5, hw, p + 1, o - 1, C, K1, K2) := by
  unfold qPt
  dsimp only
  rw [if_neg (show ¬ 5 = 0 by decide), if_neg (show ¬ (5 = 1 ∨ 5 = 3) by decide), if_neg (show ¬ (5 = 2 ∨ 5 = 4) by decide), if_pos rfl, if_neg (show ¬ qTop ((13, y) :: K1) = 10 from by show ¬ 13 = 10; decide), if_neg (show ¬ qTop ((13, y) :: K1) = 11 from by show ¬ 13 = 11; decide), if_neg (show ¬ qTop ((13, y) :: K1) = 99 from by show ¬ 13 = 99; decide), if_neg (by rw [h2]; decide), if_neg (show ¬ qTop ((13, y) :: K1) = 12 from by show ¬ 13 = 12; decide), if_neg (by rw [h2]; decide), if_pos h2]
  rfl
theorem s5_parF (sg : Nat → Nat) {hw p o : Nat} {C K1 K2 : List qOp} {y : Nat} (h1 : ¬ sg p = 38) (h2 : ¬ sg p = 124) (h3 : ¬ sg p = 41) : qPt sg (5, hw, p, o, C, (13, y) :: K1, K2) = qFt 1 p := by
  unfold qPt
  dsimp only
  rw [if_neg (show ¬ 5 = 0 by decide), if_neg (show ¬ (5 = 1 ∨ 5 = 3) by decide), if_neg (show ¬ (5 = 2 ∨ 5 = 4) by decide), if_pos rfl, if_neg (show ¬ qTop ((13, y) :: K1) = 10 from by show ¬ 13 = 10; decide), if_neg (show ¬ qTop ((13, y) :: K1) = 11 from by show ¬ 13 = 11; decide), if_neg (show ¬ qTop ((13, y) :: K1) = 99 from by show ¬ 13 = 99; decide), if_neg h1, if_neg (show ¬ qTop ((13, y) :: K1) = 12 from by show ¬ 13 = 12; decide), if_neg h2, if_neg h3]
