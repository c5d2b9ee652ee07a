/-! conditions are reckoned alike -/
def Frm (R : List Nat) (g g' : qz_G) : Prop := (∀ a, ¬ a ∈ R → g'.1 a = g.1 a) ∧ g'.2 = g.2
theorem Frm.rf (R : List Nat) (g : qz_G) : Frm R g g := ⟨fun _ _ => rfl, rfl⟩
theorem Frm.tr {R : List Nat} {g g1 g2 : qz_G} (h1 : Frm R g g1) (h2 : Frm R g1 g2) : Frm R g g2 := ⟨fun a ha => (h2.1 a ha).trans (h1.1 a ha), h2.2.trans h1.2⟩
theorem Frm.ui {R : List Nat} {g g' : qz_G} (h : Frm R g g') (o j : Nat) (v : Int32) (ho : o ∈ R) : Frm R g (qz_ui g' o j v) := ⟨fun a ha => by rw [qz_i1, if_neg (fun z => ha (by rw [z]; exact ho))]; exact h.1 a ha, h.2⟩
theorem Frm.same {R : List Nat} {g g' : qz_G} (h : Frm R g g') (h1 : (R.all (fun r => !(qz_kr.elem r) && qz_ks.all (fun q => !(Nat.beq q.1 r)))) = true) : Same g g' := by
  have key : ∀ r, r ∈ R → qz_kr.elem r = false ∧ ∀ q ∈ qz_ks, ¬ q.1 = r := by
    intro r hr
    have h2 := List.all_eq_true.mp h1 r hr
    rw [Bool.and_eq_true] at h2
    refine ⟨by simpa using h2.1, fun q hq e => ?_⟩
    have h3 := List.all_eq_true.mp h2.2 q hq
    rw [e] at h3
    simp at h3
  refine ⟨fun r hr => h.1 r (fun z => ?_), fun q hq => ?_, by rw [h.2], by rw [h.2]⟩
  · have h2 := (key r z).1
    rw [List.elem_eq_true_of_mem hr] at h2
    cases h2
  · exact congrFun (h.1 q.1 (fun z => (key q.1 z).2 q hq rfl)) q.2
def qAi (l : List Int32) (i : Nat) : Int32 := (l[i]?).getD 0
theorem qAi_l {l t : List Int32} {i : Nat} (h : i < l.length) : qAi (l ++ t) i = qAi l i := by
  unfold qAi
  rw [List.getElem?_append_left h]
theorem qAi_e {l : List Int32} {x : Int32} : qAi (l ++ [x]) l.length = x := by
  unfold qAi
  rw [List.getElem?_append_right (Nat.le_refl _), Nat.sub_self]
  rfl
/-- a row that holds a stack (top first in the list) -/
def Stk (f : Nat → Int32) (s : List Int32) : Prop := ∀ i, i < s.length → f i = qAi s.reverse i
theorem Stk.push {f : Nat → Int32} {s : List Int32} (h : Stk f s) (x : Int32) : Stk (upd f s.length x) (x :: s) := by
  intro i hi
  rw [List.length_cons] at hi
  rw [List.reverse_cons, qz_u1]
  by_cases e : i = s.length
  · rw [if_pos e, e]
    have := qAi_e (l := s.reverse) (x := x)
    rw [List.length_reverse] at this
    exact this.symm
  · rw [if_neg e, qAi_l (by rw [List.length_reverse]; omega)]
    exact h i (by omega)
theorem Stk.top {f : Nat → Int32} {s : List Int32} {x : Int32} (h : Stk f (x :: s)) : f s.length = x := by
  rw [h s.length (by rw [List.length_cons]; omega), List.reverse_cons]
  have := qAi_e (l := s.reverse) (x := x)
  rw [List.length_reverse] at this
  exact this
theorem Stk.pop {f : Nat → Int32} {s : List Int32} {x : Int32} (h : Stk f (x :: s)) : Stk f s := by
  intro i hi
  have := h i (by rw [List.length_cons]; omega)
  rw [List.reverse_cons, qAi_l (by rw [List.length_reverse]; omega)] at this
  exact this
def qSt : List Bool → List Int32 → Prop
  | [], [] => True
  | t :: τ, x :: s => (t = true → x = 0 ∨ x = 1) ∧ qSt τ s
  | _, _ => False
theorem qSt_len : ∀ {τ : List Bool} {s : List Int32}, qSt τ s → s.length = τ.length
  | [], [], _ => rfl
  | t :: τ, x :: s, h => by rw [List.length_cons, List.length_cons, qSt_len h.2]
  | [], x :: s, h => h.elim
  | t :: τ, [], h => h.elim
theorem qSt_cons {t : Bool} {τ : List Bool} {s : List Int32} (h : qSt (t :: τ) s) : ∃ x r, s = x :: r ∧ (t = true → x = 0 ∨ x = 1) ∧ qSt τ r := by
  cases s with
  | nil => exact h.elim
  | cons x r => exact ⟨x, r, rfl, h.1, h.2⟩
theorem qSt_nil {s : List Int32} (h : qSt [] s) : s = [] := by
  cases s with
  | nil => rfl
  | cons x r => exact h.elim
def qRk (o : Nat) (x y : Int32) : Int32 := if o = 2 then x + y else if o = 3 then x - y else if o = 4 then x * y else if o = 5 then x / y else if o = 6 then x - x / y * y else if o = 7 then (if y ≤ x then 0 else 1) else if o = 8 then (if x ≤ y then 0 else 1) else (if x = y then 1 else 0)
theorem qRk_b {o : Nat} {x y : Int32} (h : 7 ≤ o) : qRk o x y = 0 ∨ qRk o x y = 1 := by
  unfold qRk
  rw [if_neg (by omega), if_neg (by omega), if_neg (by omega), if_neg (by omega), if_neg (by omega)]
  by_cases h7 : o = 7
  · rw [if_pos h7]
    by_cases c : y ≤ x
    · rw [if_pos c]; exact Or.inl rfl
    · rw [if_neg c]; exact Or.inr rfl
  · rw [if_neg h7]
    by_cases h8 : o = 8
    · rw [if_pos h8]
      by_cases c : x ≤ y
      · rw [if_pos c]; exact Or.inl rfl
      · rw [if_neg c]; exact Or.inr rfl
    · rw [if_neg h8]
      by_cases c : x = y
      · rw [if_pos c]; exact Or.inr rfl
      · rw [if_neg c]; exact Or.inl rfl
/-- what a condition comes to -/
def qEv (C : List qOp) (F : Nat → Int32) (b : Nat) : Nat → Nat → List Int32 → Bool
  | 0, _, _ => false
  | m + 1, k, s => if b ≤ k then (match s with
      | [] => true
      | x :: _ => decide (x = 1))
    else if (qOa C k).1 = 0 then qEv C F b m (k + 1) (nI (qOa C k).2 :: s)
    else if (qOa C k).1 = 1 then qEv C F b m (k + 1) (F (qOa C k).2 :: s)
    else if (qOa C k).1 = 10 then (match s with
      | x :: r => qEv C F b m (k + 1) ((1 - x) :: r)
      | [] => false)
    else if 11 ≤ (qOa C k).1 then (match s with
      | x :: r => if x = (if (qOa C k).1 = 12 then 1 else 0) then qEv C F b m (qOa C k).2 (x :: r) else qEv C F b m (k + 1) r
      | [] => false)
    else (match s with
      | y :: x :: r => if ((qOa C k).1 = 5 ∨ (qOa C k).1 = 6) ∧ y = 0 then false else qEv C F b m (k + 1) (qRk (qOa C k).1 x y :: r)
      | _ => false)
theorem b_nI (n : Nat) {i : Nat} (hi : i < 32) : bt (nI n) i = n.testBit i := by
  show (BitVec.ofNat 32 n).getLsbD i = _
  rw [BitVec.getLsbD_ofNat]
  simp [hi]
theorem qz_w255 {u s : Nat} (hs : s < 256) : nI (256 * u + s) &&& 255 = nI s := by
  refine b_ext (fun i hi => ?_)
  rw [b_and, b_255, b_nI _ hi, b_nI _ hi, show 256 * u + s = 2 ^ 8 * u + s from rfl, Nat.testBit_two_pow_mul_add u (by omega) i]
  by_cases h : i < 8
  · rw [if_pos h, decide_eq_true h, Bool.and_true]
  · rw [if_neg h, decide_eq_false h, Bool.and_false]
    exact (Nat.testBit_lt_two_pow (Nat.lt_of_lt_of_le hs (Nat.pow_le_pow_right (by decide : 0 < 2) (by omega : 8 ≤ i)))).symm
theorem qz_w8 {u s : Nat} (hs : s < 256) (hu : u < 8388608) : nI (256 * u + s) >>> (8 &&& 31) = nI u := by
  refine b_ext (fun i hi => ?_)
  have hb : ∀ j, j < 32 → bt (nI (256 * u + s)) j = if j < 8 then s.testBit j else u.testBit (j - 8) := by
    intro j hj
    rw [b_nI _ hj, show 256 * u + s = 2 ^ 8 * u + s from rfl, Nat.testBit_two_pow_mul_add u (by omega) j]
  have hz : ∀ j, 23 ≤ j → u.testBit j = false := fun j hj => Nat.testBit_lt_two_pow (Nat.lt_of_lt_of_le hu (Nat.pow_le_pow_right (by decide : 0 < 2) hj))
  rw [b_sshr8 _ hi, b_nI _ hi]
  by_cases h : 8 + i < 32
  · rw [if_pos h, hb _ h, if_neg (by omega), show 8 + i - 8 = i from by omega]
  · rw [if_neg h, hb 31 (by omega), if_neg (by omega), hz _ (by omega), hz i (by omega)]
theorem qz_dv {n a : Nat} (hn : n < 2147483648) (ha : 0 < a) (ha2 : a < 2147483648) : nI n / nI a = nI (n / a) ∧ nI n - nI n / nI a * nI a = nI (n % a) := by
  have e1 := qz_nI hn
  have e2 := qz_nI ha2
  have h1 : n / a ≤ n := Nat.div_le_self _ _
  have h2 : n % a ≤ n := Nat.mod_le _ _
  have e3 := qz_nI (n := n / a) (by omega)
  have e4 := qz_nI (n := n % a) (by omega)
  constructor
  · rw [qz_eq, e3, Int32.toInt_div, e1, e2, Int.tdiv_eq_ediv_of_nonneg (by omega)]
    rw [show ((n : Int) / (a : Int)) = ((n / a : Nat) : Int) from rfl]
    have h4 : (0 : Int) ≤ ((n / a : Nat) : Int) := Int.natCast_nonneg _
    exact qz_bm (by omega) (by omega)
  · have h3 := (qz_mo (x := nI n) (a := nI a) (by omega) (by omega)).1
    rw [qz_eq, e4]
    rw [e1, e2] at h3
    exact h3
theorem c_X6_push {X : qz_X} {d : Nat} {Q : qz_Q} (g : qz_G) (x : Int32) (s : List Int32) (h4 : g.1 7 4 = nI s.length) (hl : s.length < 32) (hS : Stk (g.1 60) s) (hq : ∀ g', Frm [60, 7] g g' → g'.1 7 4 = nI (s.length + 1) → Stk (g'.1 60) (x :: s) → Q g' 0 0) : qz_Call X (d + 1) 92 [.ref 7, .int x] g Q := by
  have e := qz_nI (n := s.length) (by omega)
  refine v_X6_push g x ?_
  rw [h4, qz_lt, qz_le, qz_n0, qz_n32, e, nI_clamp (by omega), nI_1]
  refine ⟨fun z => by omega, fun _ => ⟨fun z => by omega, fun _ => ⟨qz_vi (by omega) (by omega), ?_⟩⟩⟩
  refine hq _ (((Frm.rf _ g).ui 60 _ _ (by decide)).ui 7 _ _ (by decide)) ?_ ?_
  · rw [qz_i1, if_pos rfl, qz_u1, if_pos rfl]
  · rw [qz_i1, if_neg (by decide), qz_i1, if_pos rfl]
    exact hS.push x
theorem c_X6_pop {X : qz_X} {d : Nat} {Q : qz_Q} (g : qz_G) (x : Int32) (s : List Int32) (h4 : g.1 7 4 = nI (s.length + 1)) (hl : s.length < 32) (hS : Stk (g.1 60) (x :: s)) (hq : ∀ g', Frm [60, 7] g g' → g'.1 7 4 = nI s.length → Stk (g'.1 60) s → Q g' x 0) : qz_Call X (d + 1) 93 [.ref 7] g Q := by
  have e := qz_nI (n := s.length + 1) (by omega)
  have e2 : nI (s.length + 1) - 1 = nI s.length := by
    rw [← nI_1, qz_eq]
    have := qz_nI (n := s.length) (by omega)
    have h1 : (nI s.length + 1).toInt = s.length + 1 := by rw [nI_1]; exact e
    rw [qz_sb (by rw [h1, qz_n1]; omega) (by rw [h1, qz_n1]; omega), h1, qz_n1, this]
    omega
  refine v_X6_pop g ?_
  rw [h4, qz_lt, qz_le, qz_n1, qz_n32, e, e2, nI_clamp (by omega), hS.top]
  refine ⟨fun z => by omega, fun _ => ⟨fun _ => ⟨qz_vi (by rw [qz_nI (by omega)]; omega) (by rw [qz_nI (by omega)]; omega), ?_⟩, fun z => by omega⟩⟩
  refine hq _ ((Frm.rf _ g).ui 7 _ _ (by decide)) ?_ ?_
  · rw [qz_i1, if_pos rfl, qz_u1, if_pos rfl]
  · rw [qz_i1, if_neg (by decide)]
    exact hS.pop
theorem c_X6_reckoned {X : qz_X} {d : Nat} {Q : qz_Q} (g : qz_G) (x y : Int32) (o : Nat) (h2 : 2 ≤ o) (h9 : o ≤ 9) (hz : o = 5 ∨ o = 6 → ¬ y = 0) (hq : Q g (qRk o x y) 0) : qz_Call X (d + 1) 94 [.int x, .int (nI (qSg o)), .int y] g Q := by
  have ho : o = 2 ∨ o = 3 ∨ o = 4 ∨ o = 5 ∨ o = 6 ∨ o = 7 ∨ o = 8 ∨ o = 9 := by omega
  refine v_X6_reckoned g x _ y ?_
  rcases ho with e | e | e | e | e | e | e | e <;> subst e
  · exact ⟨fun z => absurd z (by decide), fun _ => ⟨fun z => absurd z (by decide), fun _ => ⟨fun _ => hq, fun z => absurd (by decide) z⟩⟩⟩
  · exact ⟨fun z => absurd z (by decide), fun _ => ⟨fun z => absurd z (by decide), fun _ => ⟨fun z => absurd z (by decide), fun _ => ⟨fun _ => hq, fun z => absurd (by decide) z⟩⟩⟩⟩
  · exact ⟨fun z => absurd z (by decide), fun _ => ⟨fun _ => hq, fun z => absurd (by decide) z⟩⟩
  · exact ⟨fun z => absurd z (by decide), fun _ => ⟨fun z => absurd z (by decide), fun _ => ⟨fun z => absurd z (by decide), fun _ => ⟨fun z => absurd z (by decide), fun _ => ⟨fun _ => ⟨fun c => ⟨c, hq⟩, fun c => absurd c (hz (Or.inl rfl))⟩, fun z => absurd (by decide) z⟩⟩⟩⟩⟩
  · exact ⟨fun _ => ⟨fun c => ⟨c, hq⟩, fun c => absurd c (hz (Or.inr rfl))⟩, fun z => absurd (by decide) z⟩
  · refine ⟨fun z => absurd z (by decide), fun _ => ⟨fun z => absurd z (by decide), fun _ => ⟨fun z => absurd z (by decide), fun _ => ⟨fun z => absurd z (by decide), fun _ => ⟨fun z => absurd z (by decide), fun _ => ⟨fun _ => ⟨fun c => ?_, fun c => ?_⟩, fun z => absurd (by decide) z⟩⟩⟩⟩⟩⟩
    · have e : qRk 7 x y = 0 := by unfold qRk; simp only [Nat.reduceEqDiff, reduceIte]; rw [if_pos c]
      rw [e] at hq; exact hq
    · have e : qRk 7 x y = 1 := by unfold qRk; simp only [Nat.reduceEqDiff, reduceIte]; rw [if_neg c]
      rw [e] at hq; exact hq
  · refine ⟨fun z => absurd z (by decide), fun _ => ⟨fun z => absurd z (by decide), fun _ => ⟨fun z => absurd z (by decide), fun _ => ⟨fun z => absurd z (by decide), fun _ => ⟨fun z => absurd z (by decide), fun _ => ⟨fun z => absurd z (by decide), fun _ => ⟨fun _ => ⟨fun c => ?_, fun c => ?_⟩, fun z => absurd (by decide) z⟩⟩⟩⟩⟩⟩⟩
    · have e : qRk 8 x y = 0 := by unfold qRk; simp only [Nat.reduceEqDiff, reduceIte]; rw [if_pos c]
      rw [e] at hq; exact hq
    · have e : qRk 8 x y = 1 := by unfold qRk; simp only [Nat.reduceEqDiff, reduceIte]; rw [if_neg c]
      rw [e] at hq; exact hq
  · refine ⟨fun z => absurd z (by decide), fun _ => ⟨fun z => absurd z (by decide), fun _ => ⟨fun z => absurd z (by decide), fun _ => ⟨fun z => absurd z (by decide), fun _ => ⟨fun z => absurd z (by decide), fun _ => ⟨fun z => absurd z (by decide), fun _ => ⟨fun z => absurd z (by decide), fun _ => ⟨fun c => ?_, fun c => ?_⟩⟩⟩⟩⟩⟩⟩⟩
    · have e : qRk 9 x y = 0 := by unfold qRk; simp only [Nat.reduceEqDiff, reduceIte]; rw [if_neg c]
      rw [e] at hq; exact hq
    · have e : qRk 9 x y = 1 := by unfold qRk; simp only [Nat.reduceEqDiff, reduceIte]; rw [if_pos c]
      rw [e] at hq; exact hq
theorem c_X12_reckon {X : qz_X} {d : Nat} {Q : qz_Q} (g : qz_G) (x y : Int32) (o : Nat) (h2 : 2 ≤ o) (h9 : o ≤ 9) (hz : o = 5 ∨ o = 6 → ¬ y = 0) (hq : Q g (qRk o x y) 0) : qz_Call X (d + 1) 240 [.int (nI o), .int x, .int y] g Q := by
  have ho : o = 2 ∨ o = 3 ∨ o = 4 ∨ o = 5 ∨ o = 6 ∨ o = 7 ∨ o = 8 ∨ o = 9 := by omega
  refine v_X12_reckon g _ x y ?_
  rcases ho with e | e | e | e | e | e | e | e <;> subst e
  · exact ⟨fun z => absurd z (by decide), fun _ => ⟨fun _ => hq, fun z => absurd z (by decide), fun z => absurd z (by decide), fun z => absurd z (by decide), fun z => absurd z (by decide), fun z => absurd z (by decide), fun z => absurd z (by decide), trivial⟩⟩
  · exact ⟨fun z => absurd z (by decide), fun _ => ⟨fun z => absurd z (by decide), fun _ => hq, fun z => absurd z (by decide), fun z => absurd z (by decide), fun z => absurd z (by decide), fun z => absurd z (by decide), fun z => absurd z (by decide), trivial⟩⟩
  · exact ⟨fun z => absurd z (by decide), fun _ => ⟨fun z => absurd z (by decide), fun z => absurd z (by decide), fun _ => hq, fun z => absurd z (by decide), fun z => absurd z (by decide), fun z => absurd z (by decide), fun z => absurd z (by decide), trivial⟩⟩
  · exact ⟨fun z => absurd z (by decide), fun _ => ⟨fun z => absurd z (by decide), fun z => absurd z (by decide), fun z => absurd z (by decide), fun _ => ⟨hz (Or.inl rfl), hq⟩, fun z => absurd z (by decide), fun z => absurd z (by decide), fun z => absurd z (by decide), trivial⟩⟩
  · exact ⟨fun z => absurd z (by decide), fun _ => ⟨fun z => absurd z (by decide), fun z => absurd z (by decide), fun z => absurd z (by decide), fun z => absurd z (by decide), fun _ => ⟨hz (Or.inr rfl), hq⟩, fun z => absurd z (by decide), fun z => absurd z (by decide), trivial⟩⟩
  · refine ⟨fun z => absurd z (by decide), fun _ => ⟨fun z => absurd z (by decide), fun z => absurd z (by decide), fun z => absurd z (by decide), fun z => absurd z (by decide), fun z => absurd z (by decide), fun _ => ⟨fun c => ?_, fun c => ?_⟩, fun z => absurd z (by decide), trivial⟩⟩
    · have e : qRk 7 x y = 0 := by unfold qRk; simp only [Nat.reduceEqDiff, reduceIte]; rw [if_pos c]
      rw [e] at hq; exact hq
    · have e : qRk 7 x y = 1 := by unfold qRk; simp only [Nat.reduceEqDiff, reduceIte]; rw [if_neg c]
      rw [e] at hq; exact hq
  · refine ⟨fun z => absurd z (by decide), fun _ => ⟨fun z => absurd z (by decide), fun z => absurd z (by decide), fun z => absurd z (by decide), fun z => absurd z (by decide), fun z => absurd z (by decide), fun z => absurd z (by decide), fun _ => ⟨fun c => ?_, fun c => ?_⟩, trivial⟩⟩
    · have e : qRk 8 x y = 0 := by unfold qRk; simp only [Nat.reduceEqDiff, reduceIte]; rw [if_pos c]
      rw [e] at hq; exact hq
    · have e : qRk 8 x y = 1 := by unfold qRk; simp only [Nat.reduceEqDiff, reduceIte]; rw [if_neg c]
      rw [e] at hq; exact hq
  · refine ⟨fun _ => ⟨fun c => ?_, fun c => ?_⟩, fun z => absurd (by decide) z⟩
    · have e : qRk 9 x y = 0 := by unfold qRk; simp only [Nat.reduceEqDiff, reduceIte]; rw [if_neg c]
      rw [e] at hq; exact hq
    · have e : qRk 9 x y = 1 := by unfold qRk; simp only [Nat.reduceEqDiff, reduceIte]; rw [if_pos c]
      rw [e] at hq; exact hq
