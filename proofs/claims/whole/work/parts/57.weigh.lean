/-! what the laws say: a picture of both sides -/
theorem qz_down {α : Type} {W : α → Int32 → Prop} (I : Nat → α → Prop) (B : Nat) (hB : B < 2000000000) (hs : ∀ (j : Nat) (a : α), j < B → I (j + 1) a → (∀ a', I j a' → W a' (nI j + (-1))) → W a (nI j)) (h0 : ∀ a, I 0 a → W a (-1)) : ∀ (m : Nat) (a : α), m ≤ B → I m a → W a (nI m + (-1))
  | 0, a, _, h => by
    have e : nI 0 + (-1) = -1 := by decide
    rw [e]
    exact h0 a h
  | m + 1, a, hm, h => by
    have e : nI (m + 1) + (-1) = nI m := by
      rw [← Int32.sub_eq_add_neg]
      exact nI_pred m
    rw [e]
    exact hs m a (by omega) h (fun a' h' => qz_down I B hB hs h0 m a' (by omega) h')
abbrev qDt : Type := (Nat → List qOp) × (Nat → Nat) × (Nat → Nat) × (Nat → Nat)
def LwC (g : qz_G) (i j : Nat) (C : List qOp) (a b kd : Nat) : Prop := kd < 10 ∧ a ≤ b ∧ b ≤ C.length ∧ C.length ≤ 200 ∧ (∀ k, k < C.length → g.1 59 (200 * i + k) = qWx k (qOa C k) ∧ g.1 107 (220 * i + k) = qWm (qOa C k)) ∧ g.1 52 (12 * i + j) = nI kd ∧ g.1 112 (12 * i + j) = qz_letters kd ∧ g.1 53 (12 * i + j) = g.1 115 (12 * i + j) ∧ qI (g.1 115 (12 * i + j)) 0 (qz_limits kd) ∧ (kd = 9 → g.1 54 (12 * i + j) = g.1 116 (12 * i + j) ∧ qI (g.1 116 (12 * i + j)) 0 11) ∧ g.1 55 (12 * i + j) = nI (200 * i + a) ∧ g.1 56 (12 * i + j) = nI (200 * i + b) ∧ g.1 113 (12 * i + j) = nI (220 * i + a) ∧ g.1 114 (12 * i + j) = nI (220 * i + b) ∧ qTy C (g.1 6 16) a b
def LwD (g : qz_G) (D : qDt) : Prop := ∀ i : Nat, (i : Int) < (g.1 12 41).toInt → qI (g.1 111 i) 0 12 ∧ ∀ j : Nat, (j : Int) < (g.1 111 i).toInt → LwC g i j (D.1 (12 * i + j)) (D.2.1 (12 * i + j)) (D.2.2.1 (12 * i + j)) (D.2.2.2 (12 * i + j))
theorem LwD_of {g : qz_G} (hR : Rel g) : ∃ D, LwD g D := by
  obtain ⟨-, -, -, -, -, -, -, -, -, -, -, -, -, -, -, hL⟩ := hR
  have hc : ∀ i : Nat, (i : Int) < (g.1 12 41).toInt → qI (g.1 111 i) 0 12 := by
    intro i hi
    obtain ⟨C, _, _, h, _⟩ := hL i hi
    exact h
  have hj12 : ∀ i j : Nat, (i : Int) < (g.1 12 41).toInt → (j : Int) < (g.1 111 i).toInt → j < 12 := by
    intro i j hi hj
    have := hc i hi
    simp only [qI, qz_lt, qz_n0, qz_n12] at this
    omega
  have ex : ∀ p : Nat, ∃ q : List qOp × Nat × Nat × Nat, ∀ i j : Nat, p = 12 * i + j → (i : Int) < (g.1 12 41).toInt → (j : Int) < (g.1 111 i).toInt → LwC g i j q.1 q.2.1 q.2.2.1 q.2.2.2 := by
    intro p
    by_cases h : ((p / 12 : Nat) : Int) < (g.1 12 41).toInt ∧ ((p % 12 : Nat) : Int) < (g.1 111 (p / 12)).toInt
    · obtain ⟨C, h1, h2, _, h3⟩ := hL (p / 12) h.1
      obtain ⟨kd, a, b, k1, k2, k3, k4, k5, k6, k7, k8, k9, k10, k11, k12, k13⟩ := h3 (p % 12) h.2
      refine ⟨(C, a, b, kd), fun i j e hi hj => ?_⟩
      have := hj12 i j hi hj
      have e1 : p / 12 = i := by omega
      have e2 : p % 12 = j := by omega
      rw [e1, e2] at k4 k5 k6 k7 k8 k9 k10 k11 k12
      rw [e1] at h2
      exact ⟨k1, k2, k3, h1, h2, k4, k5, k6, k7, k8, k9, k10, k11, k12, k13⟩
    · refine ⟨([], 0, 0, 0), fun i j e hi hj => absurd ?_ h⟩
      have := hj12 i j hi hj
      have e1 : p / 12 = i := by omega
      have e2 : p % 12 = j := by omega
      rw [e1, e2]
      exact ⟨hi, hj⟩
  obtain ⟨f, hf⟩ := Classical.axiomOfChoice ex
  exact ⟨(fun p => (f p).1, fun p => (f p).2.1, fun p => (f p).2.2.1, fun p => (f p).2.2.2), fun i hi => ⟨hc i hi, fun j hj => hf (12 * i + j) i j rfl hi hj⟩⟩
/-- the facts of a case -/
noncomputable def qFa (g : qz_G) (w day t : Int32) : Nat → Int32 := fun v => match v with
  | 0 => g.1 89 w.toNatClampNeg
  | 1 => g.1 90 w.toNatClampNeg
  | 2 => g.1 91 w.toNatClampNeg / 365
  | 3 => g.1 92 w.toNatClampNeg / 365
  | 4 => g.1 96 w.toNatClampNeg
  | 5 => qCt (fun k => qFd (g.1 84) (g.1 12 55) (g.1 125) (g.1 124) (g.1 126) (g.1 12 56) (g.1 127) (g.1 130) (qHn (g.1 97) (g.1 81) (g.1 82) (g.1 83) w k day t) day t) (g.1 96 w.toNatClampNeg).toNatClampNeg
  | 6 => if g.1 94 w.toNatClampNeg = -1 then 0 else 1
  | _ => day
/-- a law is in force -/
def qFg (g : qz_G) (land day : Int32) (i : Nat) : Prop := g.1 108 i = land ∧ ¬ day < g.1 109 i ∧ ¬ g.1 110 i < day
def qSk (n : Int) (c : Nat → Int32) (fo : Nat → Prop) (kd : Nat → Nat) (N J : Nat → Int32) : Nat → Nat → Nat → Prop
  | 0, _, _ => False
  | f + 1, a, b => ∃ i j : Nat, a < i ∧ (i : Int) < n ∧ (j : Int) < (c i).toInt ∧ fo i ∧ fo a ∧ kd (12 * i + j) = 9 ∧ N (12 * i + j) = nI a ∧ J (12 * i + j) = nI b ∧ ¬ qSk n c fo kd N J f i j
theorem qSk_fuel {n : Int} {c : Nat → Int32} {fo : Nat → Prop} {kd : Nat → Nat} {N J : Nat → Int32} : ∀ (f f' a b : Nat), n ≤ f + a → n ≤ f' + a → (qSk n c fo kd N J f a b ↔ qSk n c fo kd N J f' a b)
  | 0, 0, _, _, _, _ => Iff.rfl
  | 0, f' + 1, a, b, h1, _ => ⟨fun z => z.elim, fun ⟨i, j, x1, x2, _⟩ => absurd x2 (by omega)⟩
  | f + 1, 0, a, b, _, h2 => ⟨fun ⟨i, j, x1, x2, _⟩ => absurd x2 (by omega), fun z => z.elim⟩
  | f + 1, f' + 1, a, b, h1, h2 => ⟨fun ⟨i, j, x1, x2, x3, x4, x5, x6, x7, x8, x9⟩ => ⟨i, j, x1, x2, x3, x4, x5, x6, x7, x8, fun z => x9 ((qSk_fuel f f' i j (by omega) (by omega)).mpr z)⟩, fun ⟨i, j, x1, x2, x3, x4, x5, x6, x7, x8, x9⟩ => ⟨i, j, x1, x2, x3, x4, x5, x6, x7, x8, fun z => x9 ((qSk_fuel f f' i j (by omega) (by omega)).mp z)⟩⟩
/-- a clause is struck -/
def qSkG (g : qz_G) (D : qDt) (land day : Int32) (a b : Nat) : Prop := qSk (g.1 12 41).toInt (g.1 111) (qFg g land day) D.2.2.2 (g.1 115) (g.1 116) (19 + 1) a b
/-- a clause strikes another -/
def qSe (g : qz_G) (D : qDt) (land day : Int32) (i j a b : Nat) : Prop := a < i ∧ (i : Int) < (g.1 12 41).toInt ∧ (j : Int) < (g.1 111 i).toInt ∧ qFg g land day i ∧ qFg g land day a ∧ D.2.2.2 (12 * i + j) = 9 ∧ g.1 115 (12 * i + j) = nI a ∧ g.1 116 (12 * i + j) = nI b ∧ ¬ qSkG g D land day i j
theorem qSkG_iff {g : qz_G} {D : qDt} {land day : Int32} {a b : Nat} (hn : (g.1 12 41).toInt ≤ 20) : qSkG g D land day a b ↔ ∃ i j, qSe g D land day i j a b := by
  unfold qSkG
  rw [qSk]
  constructor
  · rintro ⟨i, j, x1, x2, x3, x4, x5, x6, x7, x8, x9⟩
    exact ⟨i, j, x1, x2, x3, x4, x5, x6, x7, x8, fun z => x9 ((qSk_fuel 19 (19 + 1) i j (by omega) (by omega)).mpr z)⟩
  · rintro ⟨i, j, x1, x2, x3, x4, x5, x6, x7, x8, x9⟩
    exact ⟨i, j, x1, x2, x3, x4, x5, x6, x7, x8, fun z => x9 ((qSk_fuel 19 (19 + 1) i j (by omega) (by omega)).mp z)⟩
def qSr (g : qz_G) (D : qDt) (land day : Int32) (R : Nat → Nat → Prop) (a b : Nat) : Prop := ∃ i j, R i j ∧ qSe g D land day i j a b
theorem qSr_full {g : qz_G} {D : qDt} {land day : Int32} {R : Nat → Nat → Prop} {a b : Nat} (hn : (g.1 12 41).toInt ≤ 20) (hall : ∀ i j, a < i → R i j) : qSr g D land day R a b ↔ qSkG g D land day a b := by
  rw [qSkG_iff hn]
  exact ⟨fun ⟨i, j, _, h⟩ => ⟨i, j, h⟩, fun ⟨i, j, h⟩ => ⟨i, j, hall i j h.1, h⟩⟩
def qTv (D : qDt) (F : Nat → Int32) (p : Nat) : Bool := qEv (D.1 p) F (D.2.2.1 p) (D.2.2.1 p - D.2.1 p + 1) (D.2.1 p) []
/-- a clause of kind k counts and holds -/
def qBk (g : qz_G) (D : qDt) (w land day t : Int32) (k p : Nat) : Prop := ((p / 12 : Nat) : Int) < (g.1 12 41).toInt ∧ ((p % 12 : Nat) : Int) < (g.1 111 (p / 12)).toInt ∧ qFg g land day (p / 12) ∧ D.2.2.2 p = k ∧ ¬ qSkG g D land day (p / 12) (p % 12) ∧ qTv D (qFa g w day t) p = true
noncomputable def qLa (B : Nat → Prop) (N : Nat → Int32) : Nat → Int32
  | 0 => -1
  | p + 1 => qIf (B p) (N p) (qLa B N p)
noncomputable def qOr (B : Nat → Prop) (N : Nat → Int32) : Nat → Int32
  | 0 => 0
  | p + 1 => qIf (B p) (qOr B N p ||| (1 <<< (N p &&& 31))) (qOr B N p)
theorem qLa_p {B : Nat → Prop} {N : Nat → Int32} {p : Nat} (h : B p) : qLa B N (p + 1) = N p := qIf_pos h
theorem qLa_n {B : Nat → Prop} {N : Nat → Int32} {p : Nat} (h : ¬ B p) : qLa B N (p + 1) = qLa B N p := qIf_neg h
theorem qOr_p {B : Nat → Prop} {N : Nat → Int32} {p : Nat} (h : B p) : qOr B N (p + 1) = qOr B N p ||| (1 <<< (N p &&& 31)) := qIf_pos h
theorem qOr_n {B : Nat → Prop} {N : Nat → Int32} {p : Nat} (h : ¬ B p) : qOr B N (p + 1) = qOr B N p := qIf_neg h
theorem qLa_skip {B : Nat → Prop} {N : Nat → Int32} {a : Nat} : ∀ (m : Nat), (∀ q, a ≤ q → q < a + m → ¬ B q) → qLa B N (a + m) = qLa B N a
  | 0, _ => rfl
  | m + 1, h => by
    rw [← Nat.add_assoc, qLa_n (h (a + m) (by omega) (by omega))]
    exact qLa_skip m (fun q h1 h2 => h q h1 (by omega))
theorem qOr_skip {B : Nat → Prop} {N : Nat → Int32} {a : Nat} : ∀ (m : Nat), (∀ q, a ≤ q → q < a + m → ¬ B q) → qOr B N (a + m) = qOr B N a
  | 0, _ => rfl
  | m + 1, h => by
    rw [← Nat.add_assoc, qOr_n (h (a + m) (by omega) (by omega))]
    exact qOr_skip m (fun q h1 h2 => h q h1 (by omega))
noncomputable def qNb (g : qz_G) (D : qDt) (w land day t : Int32) (k : Nat) : Int32 := qLa (qBk g D w land day t k) (g.1 115) (12 * (g.1 12 41).toNatClampNeg)
noncomputable def qBb (g : qz_G) (D : qDt) (w land day t : Int32) (k : Nat) : Int32 := qOr (qBk g D w land day t k) (g.1 115) (12 * (g.1 12 41).toNatClampNeg)
def qDf (k : Nat) : Int32 := if k = 2 ∨ k = 3 ∨ k = 6 then -1 else 0
noncomputable def qRs (g : qz_G) (D : qDt) (w land day t : Int32) (k : Nat) : Int32 := if k = 7 ∨ k = 8 then qBb g D w land day t k else if qNb g D w land day t k = -1 then qDf k else qNb g D w land day t k
theorem LwD_12 {g : qz_G} {D : qDt} (hD : LwD g D) {i j : Nat} (hi : (i : Int) < (g.1 12 41).toInt) (hj : (j : Int) < (g.1 111 i).toInt) : j < 12 := by
  have := (hD i hi).1
  simp only [qI, qz_lt, qz_n0, qz_n12] at this
  omega
theorem Rel_20 {g : qz_G} (hR : Rel g) : 0 ≤ (g.1 12 41).toInt ∧ (g.1 12 41).toInt ≤ 20 ∧ g.1 12 41 = nI (g.1 12 41).toNatClampNeg ∧ ((g.1 12 41).toNatClampNeg : Int) = (g.1 12 41).toInt := by
  have h := rB_laws hR
  have h2 := qz_self h.1
  simp only [qI, qz_lt, qz_n0, qz_n20] at h
  have := qz_cl (g.1 12 41)
  exact ⟨by omega, by omega, h2.symm, by omega⟩
theorem nI_inj {a b : Nat} (ha : a < 2147483648) (hb : b < 2147483648) (h : nI a = nI b) : a = b := by
  have e1 := qz_nI ha
  have e2 := qz_nI hb
  rw [h, e2] at e1
  omega
def qRw : List Nat := [6, 7, 51, 57, 58, 60]
theorem Frm.wk {R R' : List Nat} {g g' : qz_G} (h : Frm R g g') (hR : ∀ r ∈ R, r ∈ R') : Frm R' g g' := ⟨fun a ha => h.1 a (fun z => ha (hR a z)), h.2⟩
/-- the class's memory while it weighs: all clauses from place p on are weighed -/
def qWI (g0 gs : qz_G) (D : qDt) (w land day t : Int32) (p : Nat) (g : qz_G) : Prop := (Same g0 g ∧ Frm qRw gs g) ∧ (∀ v, v < 8 → (v = 5 → ¬ g0.1 6 16 = 0) → g.1 57 v = qFa g0 w day t v) ∧ (∀ a b : Nat, a < 20 → b < 12 → (bt (g.1 51 a) b = true ↔ qSr g0 D land day (fun i j => p ≤ 12 * i + j) a b)) ∧
  (∀ k, k < 7 → (bt (g.1 6 15) k = true ∧ g.1 58 k = qNb g0 D w land day t k ∧ ¬ qNb g0 D w land day t k = -1) ∨ (bt (g.1 6 15) k = false ∧ g.1 58 k = qDf k ∧ qNb g0 D w land day t k = qLa (qBk g0 D w land day t k) (g0.1 115) p)) ∧
  (∀ k, k = 7 ∨ k = 8 → bt (g.1 6 15) k = false ∧ g.1 58 k ||| qOr (qBk g0 D w land day t k) (g0.1 115) p = qBb g0 D w land day t k)
theorem qWI_end {g0 gs : qz_G} {D : qDt} {w land day t : Int32} {g : qz_G} (h : qWI g0 gs D w land day t 0 g) : ∀ k, k < 9 → g.1 58 k = qRs g0 D w land day t k := by
  intro k hk
  unfold qRs
  by_cases c : k = 7 ∨ k = 8
  · rw [if_pos c, ← (h.2.2.2.2 k c).2]
    exact Int32.or_zero.symm
  · rw [if_neg c]
    rcases h.2.2.2.1 k (by omega) with ⟨_, h2, h3⟩ | ⟨_, h2, h3⟩
    · rw [if_neg h3]; exact h2
    · rw [if_pos (show qNb g0 D w land day t k = -1 from h3)]; exact h2
theorem qSr_p {g : qz_G} {D : qDt} {land day : Int32} (hD : LwD g D) {i j a b : Nat} (hj : j < 12) : qSr g D land day (fun i' j' => 12 * i + j ≤ 12 * i' + j') a b ↔ (qSr g D land day (fun i' j' => 12 * i + j + 1 ≤ 12 * i' + j') a b ∨ qSe g D land day i j a b) := by
  constructor
  · rintro ⟨i', j', h1, h2⟩
    have := LwD_12 hD h2.2.1 h2.2.2.1
    by_cases c : 12 * i + j + 1 ≤ 12 * i' + j'
    · exact Or.inl ⟨i', j', c, h2⟩
    · have e1 : i' = i := by omega
      have e2 : j' = j := by omega
      rw [e1, e2] at h2
      exact Or.inr h2
  · rintro (⟨i', j', h1, h2⟩ | h)
    · exact ⟨i', j', Nat.le_of_succ_le h1, h2⟩
    · exact ⟨i, j, Nat.le_refl _, h⟩
/-- places that say nothing are passed over -/
theorem qWI_skip {g0 gs : qz_G} {D : qDt} {w land day t : Int32} {g : qz_G} (hD : LwD g0 D) {q p : Nat} (hqp : q ≤ p) (hd : ∀ i j : Nat, q ≤ 12 * i + j → 12 * i + j < p → (i : Int) < (g0.1 12 41).toInt → (j : Int) < (g0.1 111 i).toInt → ¬ qFg g0 land day i) (hI : qWI g0 gs D w land day t p g) : qWI g0 gs D w land day t q g := by
  obtain ⟨h1, h2, h3, h4, h5⟩ := hI
  have hdead : ∀ k r, q ≤ r → r < q + (p - q) → ¬ qBk g0 D w land day t k r := by
    intro k r hr1 hr2 hB
    exact hd (r / 12) (r % 12) (by omega) (by omega) hB.1 hB.2.1 hB.2.2.1
  have ep : q + (p - q) = p := by omega
  refine ⟨h1, h2, fun a b ha hb => (h3 a b ha hb).trans ?_, fun k hk => ?_, fun k hk => ?_⟩
  · constructor
    · rintro ⟨i, j, x1, x2⟩
      exact ⟨i, j, Nat.le_trans hqp x1, x2⟩
    · rintro ⟨i, j, x1, x2⟩
      refine ⟨i, j, ?_, x2⟩
      rcases Nat.lt_or_ge (12 * i + j) p with c | c
      · exact absurd x2.2.2.2.1 (hd i j x1 c x2.2.1 x2.2.2.1)
      · exact c
  · have := qLa_skip (N := g0.1 115) (p - q) (hdead k)
    rw [ep] at this
    rw [← this]
    exact h4 k hk
  · have := qOr_skip (N := g0.1 115) (p - q) (hdead k)
    rw [ep] at this
    rw [← this]
    exact h5 k hk
theorem qBk_kd {g0 : qz_G} {D : qDt} {w land day t : Int32} {p k kd : Nat} (e : D.2.2.2 p = kd) (h : ¬ k = kd) : ¬ qBk g0 D w land day t k p := fun z => h (z.2.2.2.1.symm.trans e)
/-- a clause that strikes nothing: what is between the memory ahead of it and behind it -/
theorem qWI_upd {g0 gs : qz_G} {D : qDt} {w land day t : Int32} {g g' : qz_G} (hD : LwD g0 D) {i j kd : Nat} (hj : j < 12) (ek : D.2.2.2 (12 * i + j) = kd) (hI : qWI g0 gs D w land day t (12 * i + j + 1) g) (hs : Same g0 g' ∧ Frm qRw gs g') (h57 : g'.1 57 = g.1 57) (h51 : g'.1 51 = g.1 51) (hev : ∀ a b, ¬ qSe g0 D land day i j a b)
    (hres : ∀ k, k < 9 → ¬ k = kd → bt (g'.1 6 15) k = bt (g.1 6 15) k ∧ g'.1 58 k = g.1 58 k)
    (h7 : kd < 7 → (bt (g'.1 6 15) kd = true ∧ g'.1 58 kd = qNb g0 D w land day t kd ∧ ¬ qNb g0 D w land day t kd = -1) ∨ (bt (g'.1 6 15) kd = false ∧ g'.1 58 kd = qDf kd ∧ qNb g0 D w land day t kd = qLa (qBk g0 D w land day t kd) (g0.1 115) (12 * i + j)))
    (h8 : kd = 7 ∨ kd = 8 → bt (g'.1 6 15) kd = false ∧ g'.1 58 kd ||| qOr (qBk g0 D w land day t kd) (g0.1 115) (12 * i + j) = qBb g0 D w land day t kd) : qWI g0 gs D w land day t (12 * i + j) g' := by
  obtain ⟨i1, i2, i3, i4, i5⟩ := hI
  refine ⟨hs, fun v hv h5 => by rw [h57]; exact i2 v hv h5, fun a b ha hb => ?_, fun k hk => ?_, fun k hk => ?_⟩
  · rw [h51, i3 a b ha hb, qSr_p hD hj]
    exact ⟨Or.inl, fun z => z.elim id (fun z => absurd z (hev a b))⟩
  · by_cases c : k = kd
    · rw [c]
      exact h7 (by omega)
    · have e := hres k (by omega) c
      have := i4 k hk
      rw [qLa_n (qBk_kd ek c)] at this
      rw [e.1, e.2]
      exact this
  · by_cases c : k = kd
    · rw [c]
      exact h8 (by omega)
    · have e := hres k (by omega) c
      have := i5 k hk
      rw [qOr_n (qBk_kd ek c)] at this
      rw [e.1, e.2]
      exact this
theorem c_X2_weighClause {X : qz_X} {d : Nat} {Q : qz_Q} {g0 gs : qz_G} {D : qDt} {w land day t : Int32} (hR : Rel g0) (hD : LwD g0 D) (g : qz_G) (i j : Nat) (hi : (i : Int) < (g0.1 12 41).toInt) (hj : (j : Int) < (g0.1 111 i).toInt) (hfo : qFg g0 land day i) (hk9 : ¬ D.2.2.2 (12 * i + j) = 9) (hsk : ¬ qSkG g0 D land day i j) (hI : qWI g0 gs D w land day t (12 * i + j + 1) g) (hq : ∀ g', qWI g0 gs D w land day t (12 * i + j) g' → Q g' 0 0) : qz_Call X (d + 3) 22 [.ref 6, .int (nI (12 * i + j))] g Q := by
  have h20 := Rel_20 hR
  have hj12 := LwD_12 hD hi hj
  obtain ⟨l1, l2, l3, l4, l5, l6, l7, l8, l9, l10, l11, l12, l13, l14, l15⟩ := (hD i hi).2 j hj
  have ek : D.2.2.2 (12 * i + j) = D.2.2.2 (12 * i + j) := rfl
  generalize hkd : D.2.2.2 (12 * i + j) = kd at l1 l6 l7 l9 l10 hk9 ek
  have hs := hI.1.1
  have cp : (nI (12 * i + j)).toNatClampNeg = 12 * i + j := nI_clamp (by omega)
  have ep := qz_nI (n := 12 * i + j) (by omega)
  have e52 : g.1 52 (12 * i + j) = nI kd := by rw [rM_52 hs]; exact l6
  have e55 : g.1 55 (12 * i + j) = nI (200 * i + D.2.1 (12 * i + j)) := by rw [rM_55 hs]; exact l11
  have e56 : g.1 56 (12 * i + j) = nI (200 * i + D.2.2.1 (12 * i + j)) := by rw [rM_56 hs]; exact l12
  have ekd := qz_nI (n := kd) (by omega)
  have ckd : (nI kd).toNatClampNeg = kd := nI_clamp (by omega)
  have hv9 : vp_in (nI kd) 9 := qz_vi (by omega) (by omega)
  have hev : ∀ a b, ¬ qSe g0 D land day i j a b := fun a b z => hk9 (hkd.symm.trans z.2.2.2.2.2.1)
  have e12 : (12 * i + j) / 12 = i := by omega
  have e13 : (12 * i + j) % 12 = j := by omega
  have hB : qTv D (qFa g0 w day t) (12 * i + j) = true → qBk g0 D w land day t kd (12 * i + j) := fun z => ⟨by rw [e12]; exact hi, by rw [e12, e13]; exact hj, by rw [e12]; exact hfo, hkd, by rw [e12, e13]; exact hsk, z⟩
  have hnB : qTv D (qFa g0 w day t) (12 * i + j) = false → ¬ qBk g0 D w land day t kd (12 * i + j) := fun z z2 => by
    rw [z2.2.2.2.2.2] at z
    cases z
  refine v_X2_weighClause (d := d + 1) g _ ?_
  rw [cp, e52, ckd, e55, e56]
  refine ⟨qz_vi (by omega) (by omega), fun _ => ⟨fun c => ?_, fun c => ?_⟩, fun z => absurd ⟨by rw [qz_lt, ekd, qz_n0]; omega, by rw [qz_le, ekd, qz_n9]; omega⟩ z⟩
  · rw [b_bit _ (by omega)] at c
    have c' : bt (g.1 6 15) kd = true := by simpa using c
    refine hq g (qWI_upd hD hj12 hkd hI hI.1 rfl rfl hev (fun _ _ _ => ⟨rfl, rfl⟩) (fun z => ?_) (fun z => ?_))
    · rcases hI.2.2.2.1 kd z with h | h
      · exact Or.inl h
      · rw [h.1] at c'
        cases c'
    · have h := (hI.2.2.2.2 kd z).1
      rw [h] at c'
      cases c'
  · rw [b_bit _ (by omega)] at c
    refine c_X6_isMet (d := d) g i (D.2.1 (12 * i + j)) (D.2.2.1 (12 * i + j)) (D.1 (12 * i + j)) (g0.1 6 16) (qFa g0 w day t) (by omega) l2 l3 l4 (fun k hk => by rw [rM_59 hs]; exact (l5 k hk).1) l15 hI.2.1 (fun g3 hf3 => ?_)
    have hs3 : Same g0 g3 := hs.tr (hf3.same (by decide))
    have hk3 : Frm qRw gs g3 := hI.1.2.tr (hf3.wk (by decide))
    have r51 : g3.1 51 = g.1 51 := hf3.1 51 (by decide)
    have r57 : g3.1 57 = g.1 57 := hf3.1 57 (by decide)
    have r58 : g3.1 58 = g.1 58 := hf3.1 58 (by decide)
    have r6 : g3.1 6 = g.1 6 := hf3.1 6 (by decide)
    have e53 : g3.1 53 (12 * i + j) = g0.1 115 (12 * i + j) := by rw [rM_53 hs3]; exact l8
    rw [e53]
    show (¬ (if qTv D (qFa g0 w day t) (12 * i + j) then (1 : Int32) else 0) = 0 → _) ∧ ((if qTv D (qFa g0 w day t) (12 * i + j) then (1 : Int32) else 0) = 0 → _)
    cases htv : qTv D (qFa g0 w day t) (12 * i + j) with
    | false =>
      refine ⟨fun z => absurd rfl z, fun _ => hq g3 (qWI_upd hD hj12 hkd hI ⟨hs3, hk3⟩ r57 r51 hev (fun k _ _ => ⟨by rw [r6], by rw [r58]⟩) (fun z => ?_) (fun z => ?_))⟩
      · rcases hI.2.2.2.1 kd z with h | h
        · rw [h.1] at c
          cases c
        · rw [qLa_n (hnB htv)] at h
          rw [r6, r58]
          exact Or.inr h
      · have h := hI.2.2.2.2 kd z
        rw [qOr_n (hnB htv)] at h
        rw [r6, r58]
        exact h
    | true =>
      have hBt := hB htv
      have bits : kd = 7 ∨ kd = 8 → Q (qz_ui g3 58 kd ((g3.1 58 kd) ||| (1 <<< ((g0.1 115 (12 * i + j)) &&& 31)))) 0 0 := by
        intro h78
        refine hq _ (qWI_upd hD hj12 hkd hI ⟨hs3.row 58 _ _ (by decide) (by decide), hk3.ui 58 _ _ (by decide)⟩ ?_ ?_ hev (fun k _ hk => ⟨?_, ?_⟩) (fun z => by omega) (fun z => ?_))
        · rw [qz_i1, if_neg (by decide), r57]
        · rw [qz_i1, if_neg (by decide), r51]
        · rw [qz_i1, if_neg (by decide), r6]
        · rw [qz_i1, if_pos rfl, qz_u1, if_neg hk, r58]
        · have h := hI.2.2.2.2 kd z
          rw [qOr_p hBt] at h
          rw [qz_i1, if_neg (by decide), qz_i1, if_pos rfl, qz_u1, if_pos rfl, r6, r58]
          refine ⟨h.1, ?_⟩
          rw [← h.2, Int32.or_assoc, Int32.or_comm ((1 : Int32) <<< _)]
      refine ⟨fun _ => ⟨fun z => ⟨hv9, bits (Or.inl ?_)⟩, fun z7 => ⟨fun z8 => ⟨hv9, ?_⟩, fun z => ⟨hv9, bits (Or.inr ?_)⟩⟩⟩, fun z => absurd z (by decide)⟩
      · exact nI_inj (by omega) (by omega) z
      · have hk7 : kd < 7 := by
          have h7 : ¬ kd = 7 := fun e => z7 (by rw [e]; rfl)
          have h8 : ¬ kd = 8 := fun e => z8 (by rw [e]; rfl)
          omega
        have hnew : ∀ k, k < 32 → bt ((g3.1 6 15) ||| (1 <<< (nI kd &&& 31))) k = (bt (g.1 6 15) k || decide (k = kd)) := by
          intro k hk
          rw [b_or, b_one (by omega) hk, r6]
        refine hq _ (qWI_upd hD hj12 hkd hI ⟨(hs3.row 58 _ _ (by decide) (by decide)).ui 6 15 _ (by decide) (by decide), (hk3.ui 58 _ _ (by decide)).ui 6 _ _ (by decide)⟩ ?_ ?_ hev (fun k hk9 hk => ⟨?_, ?_⟩) (fun _ => Or.inl ⟨?_, ?_, ?_⟩) (fun z => by omega))
        · rw [qz_i1, if_neg (by decide), qz_i1, if_neg (by decide), r57]
        · rw [qz_i1, if_neg (by decide), qz_i1, if_neg (by decide), r51]
        · rw [qz_i1, if_pos rfl, qz_u1, if_pos rfl, hnew k (by omega), decide_eq_false hk, Bool.or_false]
        · rw [qz_i1, if_neg (by decide), qz_i1, if_pos rfl, qz_u1, if_neg hk, r58]
        · rw [qz_i1, if_pos rfl, qz_u1, if_pos rfl, hnew kd (by omega), decide_eq_true rfl, Bool.or_true]
        · rw [qz_i1, if_neg (by decide), qz_i1, if_pos rfl, qz_u1, if_pos rfl]
          rcases hI.2.2.2.1 kd hk7 with h | h
          · rw [h.1] at c
            cases c
          · rw [h.2.2, qLa_p hBt]
        · rcases hI.2.2.2.1 kd hk7 with h | h
          · rw [h.1] at c
            cases c
          · rw [h.2.2, qLa_p hBt]
            intro z
            have := l9.1
            rw [z] at this
            exact this (by decide)
      · exact nI_inj (by omega) (by omega) z
