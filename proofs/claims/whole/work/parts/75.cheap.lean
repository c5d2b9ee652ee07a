/-! the cheapest order: what is pure -/
def qG (c h : Nat → Nat) : List Nat → Nat
  | [] => 0
  | s :: r => c s * 100 ^ (r.length + 1) + (100 - h s) * qG c h r
def qCs (c : Nat → Nat) : List Nat → Nat
  | [] => 0
  | s :: r => c s + qCs c r
def qRh (h : Nat → Nat) : List Nat → Nat
  | [] => 0
  | s :: r => (if h s % 100 = 0 then 0 else 1) + qRh h r
theorem qE_up (c h : Nat → Nat) : ∀ (l : List Nat) (L : Nat), 100 ^ l.length * qE c h l L ≤ L * qG c h l
  | [], L => by
    show 100 ^ 0 * 0 ≤ L * 0
    omega
  | s :: r, L => by
    have ih := qE_up c h r (L * (100 - h s) / 100)
    have h1 : 100 * (L * (100 - h s) / 100) ≤ L * (100 - h s) := Nat.mul_div_le _ _
    have h2 : 100 * (100 ^ r.length * qE c h r (L * (100 - h s) / 100)) ≤ L * (100 - h s) * qG c h r := by
      refine Nat.le_trans (Nat.mul_le_mul_left 100 ih) ?_
      rw [← Nat.mul_assoc]
      exact Nat.mul_le_mul_right _ h1
    show 100 ^ (r.length + 1) * (c s * L + qE c h r (L * (100 - h s) / 100)) ≤ L * (c s * 100 ^ (r.length + 1) + (100 - h s) * qG c h r)
    generalize qE c h r (L * (100 - h s) / 100) = E at h2 ⊢
    generalize qG c h r = G at h2 ⊢
    rw [Nat.pow_succ]
    generalize 100 ^ r.length = P at h2 ⊢
    rw [Nat.mul_add, Nat.mul_add]
    have e1 : P * 100 * (c s * L) = L * (c s * (P * 100)) := by
      rw [Nat.mul_comm (P * 100), Nat.mul_comm (c s) L, Nat.mul_assoc]
    have e2 : P * 100 * E = 100 * (P * E) := by
      rw [Nat.mul_comm P 100, Nat.mul_assoc]
    have e3 : L * ((100 - h s) * G) = L * (100 - h s) * G := (Nat.mul_assoc _ _ _).symm
    rw [e1, e2, e3]
    exact Nat.add_le_add_left h2 _
theorem qG_le (c h : Nat → Nat) : ∀ (l : List Nat), qG c h l ≤ 100 ^ l.length * qCs c l
  | [] => by
    show 0 ≤ _
    exact Nat.zero_le _
  | s :: r => by
    have ih := qG_le c h r
    show c s * 100 ^ (r.length + 1) + (100 - h s) * qG c h r ≤ 100 ^ (r.length + 1) * (c s + qCs c r)
    have h1 : (100 - h s) * qG c h r ≤ 100 * (100 ^ r.length * qCs c r) := Nat.mul_le_mul (Nat.sub_le _ _) ih
    have e1 : 100 * (100 ^ r.length * qCs c r) = 100 ^ (r.length + 1) * qCs c r := by rw [Nat.pow_succ, Nat.mul_comm _ 100, Nat.mul_assoc]
    rw [Nat.mul_add, Nat.mul_comm (c s)]
    omega
theorem qE_low (c h : Nat → Nat) (hh : ∀ s, h s ≤ 100) : ∀ (l : List Nat) (L : Nat), L * qG c h l ≤ 100 ^ l.length * qE c h l L + 100 ^ l.length * (qRh h l * qCs c l)
  | [], L => by
    show L * 0 ≤ _
    omega
  | s :: r, L => by
    have ih := qE_low c h hh r (L * (100 - h s) / 100)
    have hg := qG_le c h r
    have hx := hh s
    show L * (c s * 100 ^ (r.length + 1) + (100 - h s) * qG c h r) ≤ 100 ^ (r.length + 1) * (c s * L + qE c h r (L * (100 - h s) / 100)) + 100 ^ (r.length + 1) * (((if h s % 100 = 0 then 0 else 1) + qRh h r) * (c s + qCs c r))
    have h1 : L * (100 - h s) ≤ 100 * (L * (100 - h s) / 100) + 100 * (if h s % 100 = 0 then 0 else 1) := by
      by_cases cz : h s % 100 = 0
      · rw [if_pos cz]
        have hc : h s = 0 ∨ h s = 100 := by omega
        rcases hc with e | e
        · rw [e]; omega
        · rw [e]; omega
      · rw [if_neg cz]
        omega
    generalize qE c h r (L * (100 - h s) / 100) = E at ih ⊢
    generalize (if h s % 100 = 0 then 0 else 1) = b at h1 ⊢
    generalize L * (100 - h s) / 100 = L' at ih h1
    generalize qRh h r = ρ at ih ⊢
    generalize qCs c r = C at ih hg ⊢
    rw [Nat.pow_succ]
    have e3 : L * ((100 - h s) * qG c h r) = L * (100 - h s) * qG c h r := (Nat.mul_assoc _ _ _).symm
    rw [Nat.mul_add, e3]
    generalize qG c h r = G at ih hg ⊢
    generalize 100 ^ r.length = P at ih hg ⊢
    have h2 : L * (100 - h s) * G ≤ (100 * L' + 100 * b) * G := Nat.mul_le_mul_right _ h1
    have h3 : (100 * L' + 100 * b) * G = 100 * (L' * G) + 100 * (b * G) := by rw [Nat.add_mul, Nat.mul_assoc, Nat.mul_assoc]
    have h4 : b * G ≤ b * (P * C) := Nat.mul_le_mul_left _ hg
    have e1 : P * 100 * (c s * L) = L * (c s * (P * 100)) := by
      rw [Nat.mul_comm (P * 100), Nat.mul_comm (c s) L, Nat.mul_assoc]
    have e4 : P * 100 * (c s * L + E) = P * 100 * (c s * L) + 100 * (P * E) := by rw [Nat.mul_add, Nat.mul_comm P 100, Nat.mul_assoc 100 P E]
    have e5 : P * 100 * ((b + ρ) * (c s + C)) = 100 * (P * (b * c s)) + 100 * (P * (ρ * c s)) + 100 * (P * (ρ * C)) + 100 * (b * (P * C)) := by
      have x : (b + ρ) * (c s + C) = b * c s + b * C + (ρ * c s + ρ * C) := by rw [Nat.add_mul, Nat.mul_add, Nat.mul_add]
      rw [x, Nat.mul_comm P 100, Nat.mul_assoc, Nat.mul_add P, Nat.mul_add P, Nat.mul_add P, Nat.mul_left_comm P b C]
      omega
    rw [e4, e5, e1]
    omega
def qBR (c h : Nat → Nat) (a b : Nat) : Prop := c a * h b ≤ c b * h a
theorem qG_swap {c h : Nat → Nat} (hh : ∀ s, h s ≤ 100) {a b : Nat} (r : List Nat) (hab : qBR c h a b) : qG c h (a :: b :: r) ≤ qG c h (b :: a :: r) := by
  show c a * 100 ^ (r.length + 1 + 1) + (100 - h a) * (c b * 100 ^ (r.length + 1) + (100 - h b) * qG c h r) ≤ c b * 100 ^ (r.length + 1 + 1) + (100 - h b) * (c a * 100 ^ (r.length + 1) + (100 - h a) * qG c h r)
  have ha := hh a
  have hb := hh b
  rw [Nat.pow_succ _ (r.length + 1), Nat.mul_add, Nat.mul_add]
  generalize 100 ^ (r.length + 1) = P
  have e1 : (100 - h a) * ((100 - h b) * qG c h r) = (100 - h b) * ((100 - h a) * qG c h r) := Nat.mul_left_comm _ _ _
  rw [e1]
  generalize (100 - h b) * ((100 - h a) * qG c h r) = Z
  have e2 : c a * (P * 100) = P * (c a * 100) := by rw [Nat.mul_left_comm]
  have e3 : c b * (P * 100) = P * (c b * 100) := by rw [Nat.mul_left_comm]
  have e4 : (100 - h a) * (c b * P) = P * (c b * (100 - h a)) := by rw [Nat.mul_comm (100 - h a), Nat.mul_comm (c b) P, Nat.mul_assoc]
  have e5 : (100 - h b) * (c a * P) = P * (c a * (100 - h b)) := by rw [Nat.mul_comm (100 - h b), Nat.mul_comm (c a) P, Nat.mul_assoc]
  rw [e2, e3, e4, e5]
  have key : c a * 100 + c b * (100 - h a) ≤ c b * 100 + c a * (100 - h b) := by
    unfold qBR at hab
    rw [Nat.mul_sub, Nat.mul_sub]
    have x1 : c b * h a ≤ c b * 100 := Nat.mul_le_mul_left _ ha
    have x2 : c a * h b ≤ c a * 100 := Nat.mul_le_mul_left _ hb
    omega
  have := Nat.mul_le_mul_left P key
  rw [Nat.mul_add, Nat.mul_add] at this
  omega
theorem qG_tail {c h : Nat → Nat} (s : Nat) {r r' : List Nat} (hl : r.length = r'.length) (hg : qG c h r ≤ qG c h r') : qG c h (s :: r) ≤ qG c h (s :: r') := by
  show c s * 100 ^ (r.length + 1) + (100 - h s) * qG c h r ≤ c s * 100 ^ (r'.length + 1) + (100 - h s) * qG c h r'
  rw [hl]
  exact Nat.add_le_add_left (Nat.mul_le_mul_left _ hg) _
theorem qG_front {c h : Nat → Nat} (hh : ∀ s, h s ≤ 100) (a : Nat) (y : List Nat) : ∀ (x : List Nat), (∀ e ∈ x, qBR c h a e) → qG c h (a :: (x ++ y)) ≤ qG c h (x ++ a :: y)
  | [], _ => Nat.le_refl _
  | e :: x, hx => by
    have ih := qG_front hh a y x (fun z hz => hx z (List.mem_cons_of_mem _ hz))
    have h1 := qG_swap hh (x ++ y) (hx e List.mem_cons_self)
    have hl : (a :: (x ++ y)).length = (x ++ a :: y).length := by
      simp only [List.length_cons, List.length_append]
      omega
    exact Nat.le_trans h1 (qG_tail e hl ih)
theorem qG_min {c h : Nat → Nat} (hh : ∀ s, h s ≤ 100) : ∀ (l p : List Nat), l.Pairwise (qBR c h) → l.Perm p → qG c h l ≤ qG c h p
  | [], p, _, hp => by
    show 0 ≤ _
    exact Nat.zero_le _
  | a :: r, p, hl, hp => by
    have ha : a ∈ p := hp.subset List.mem_cons_self
    obtain ⟨x, y, e⟩ := List.append_of_mem ha
    subst e
    have hp2 : r.Perm (x ++ y) := (hp.trans List.perm_middle).cons_inv
    have hl2 := List.pairwise_cons.mp hl
    have ih := qG_min hh r (x ++ y) hl2.2 hp2
    refine Nat.le_trans (qG_tail a hp2.length_eq ih) (qG_front hh a y x (fun e he => hl2.1 e (hp2.symm.subset (List.mem_append_left _ he))))
theorem qCs_perm {c : Nat → Nat} {l p : List Nat} (hp : l.Perm p) : qCs c l = qCs c p := by
  induction hp with
  | nil => rfl
  | cons x _ ih => show c x + _ = c x + _; rw [ih]
  | swap x y l => show c y + (c x + _) = c x + (c y + _); omega
  | trans _ _ ih1 ih2 => exact ih1.trans ih2
theorem qRh_perm {h : Nat → Nat} {l p : List Nat} (hp : l.Perm p) : qRh h l = qRh h p := by
  induction hp with
  | nil => rfl
  | cons x _ ih => show _ + qRh h _ = _ + qRh h _; rw [ih]
  | swap x y l => show (if h y % 100 = 0 then 0 else 1) + ((if h x % 100 = 0 then 0 else 1) + _) = (if h x % 100 = 0 then 0 else 1) + ((if h y % 100 = 0 then 0 else 1) + _); omega
  | trans _ _ ih1 ih2 => exact ih1.trans ih2
/-- no order of the rest is cheaper than this -/
theorem qE_bound {c h : Nat → Nat} (hh : ∀ s, h s ≤ 100) {l p : List Nat} (hl : l.Pairwise (qBR c h)) (hp : l.Perm p) (L : Nat) : qE c h l L ≤ qE c h p L + qRh h l * qCs c l := by
  have h1 := qE_up c h l L
  have h2 := qG_min hh l p hl hp
  have h3 := qE_low c h hh p L
  rw [← qRh_perm hp, ← qCs_perm hp, ← hp.length_eq] at h3
  have h4 : L * qG c h l ≤ L * qG c h p := Nat.mul_le_mul_left _ h2
  have h5 : 100 ^ l.length * qE c h l L ≤ 100 ^ l.length * (qE c h p L + qRh h l * qCs c l) := by
    rw [Nat.mul_add]
    omega
  exact Nat.le_of_mul_le_mul_left h5 (Nat.pow_pos (by decide))
/-- a row as a number: rows of one length are in the order of their numbers -/
def qCd : List Nat → Nat
  | [] => 0
  | s :: r => s * 12 ^ r.length + qCd r
theorem qCd_lt : ∀ (l : List Nat), (∀ s ∈ l, s < 12) → qCd l < 12 ^ l.length
  | [], _ => by show 0 < 12 ^ 0; decide
  | s :: r, h => by
    have ih := qCd_lt r (fun x hx => h x (List.mem_cons_of_mem _ hx))
    have hs := h s List.mem_cons_self
    show s * 12 ^ r.length + qCd r < 12 ^ (r.length + 1)
    have h1 : s * 12 ^ r.length ≤ 11 * 12 ^ r.length := Nat.mul_le_mul_right _ (by omega)
    rw [Nat.pow_succ]
    omega
theorem qCd_lex {a b : Nat} {r r' : List Nat} (hab : a < b) (hl : r.length = r'.length) (h : ∀ s ∈ r, s < 12) : qCd (a :: r) < qCd (b :: r') := by
  have h1 := qCd_lt r h
  show a * 12 ^ r.length + qCd r < b * 12 ^ r'.length + qCd r'
  rw [← hl]
  have h2 : (a + 1) * 12 ^ r.length ≤ b * 12 ^ r.length := Nat.mul_le_mul_right _ hab
  rw [Nat.add_mul] at h2
  omega
theorem qCd_cons {a : Nat} {r r' : List Nat} (hl : r.length = r'.length) : (qCd (a :: r) ≤ qCd (a :: r') ↔ qCd r ≤ qCd r') ∧ (qCd (a :: r) < qCd (a :: r') ↔ qCd r < qCd r') := by
  show (a * 12 ^ r.length + qCd r ≤ a * 12 ^ r'.length + qCd r' ↔ _) ∧ (a * 12 ^ r.length + qCd r < a * 12 ^ r'.length + qCd r' ↔ _)
  rw [hl]
  omega
theorem qCd_inj : ∀ (l p : List Nat), l.length = p.length → (∀ s ∈ l, s < 12) → (∀ s ∈ p, s < 12) → qCd l = qCd p → l = p
  | [], [], _, _, _, _ => rfl
  | [], b :: p, h, _, _, _ => by cases h
  | a :: l, [], h, _, _, _ => by cases h
  | a :: l, b :: p, hl, h1, h2, he => by
    have hl2 : l.length = p.length := by simpa using hl
    rcases Nat.lt_trichotomy a b with c | c | c
    · have := qCd_lex c hl2 (fun s hs => h1 s (List.mem_cons_of_mem _ hs))
      omega
    · subst c
      have e1 := (qCd_cons (a := a) hl2).1.mp (Nat.le_of_eq he)
      have e2 := (qCd_cons (a := a) hl2.symm).1.mp (Nat.le_of_eq he.symm)
      rw [qCd_inj l p hl2 (fun s hs => h1 s (List.mem_cons_of_mem _ hs)) (fun s hs => h2 s (List.mem_cons_of_mem _ hs)) (by omega)]
    · have := qCd_lex c hl2.symm (fun s hs => h2 s (List.mem_cons_of_mem _ hs))
      omega
theorem qCd_max : ∀ (l p : List Nat), l.Pairwise (fun a b => b < a) → l.Perm p → (∀ s ∈ l, s < 12) → qCd p ≤ qCd l
  | [], p, _, hp, _ => by rw [hp.nil_eq]; exact Nat.le_refl _
  | a :: r, [], _, hp, _ => by
    have := hp.length_eq
    simp at this
  | a :: r, e :: p, hl, hp, h12 => by
    have hl2 := List.pairwise_cons.mp hl
    have hlen : r.length = p.length := by simpa using hp.length_eq
    have hp12 : ∀ s ∈ e :: p, s < 12 := fun s hs => h12 s (hp.symm.subset hs)
    by_cases ce : e = a
    · subst ce
      exact (qCd_cons hlen.symm).1.mpr (qCd_max r p hl2.2 hp.cons_inv (fun s hs => h12 s (List.mem_cons_of_mem _ hs)))
    · have he : e ∈ a :: r := hp.symm.subset List.mem_cons_self
      rcases List.mem_cons.mp he with he | he
      · exact absurd he ce
      · exact Nat.le_of_lt (qCd_lex (hl2.1 e he) hlen.symm (fun s hs => hp12 s (List.mem_cons_of_mem _ hs)))
theorem qCd_min : ∀ (l p : List Nat), l.Pairwise (fun a b => a < b) → l.Perm p → (∀ s ∈ l, s < 12) → qCd l ≤ qCd p
  | [], p, _, hp, _ => by rw [hp.nil_eq]; exact Nat.le_refl _
  | a :: r, [], _, hp, _ => by
    have := hp.length_eq
    simp at this
  | a :: r, e :: p, hl, hp, h12 => by
    have hl2 := List.pairwise_cons.mp hl
    have hlen : r.length = p.length := by simpa using hp.length_eq
    by_cases ce : e = a
    · subst ce
      exact (qCd_cons hlen).1.mpr (qCd_min r p hl2.2 hp.cons_inv (fun s hs => h12 s (List.mem_cons_of_mem _ hs)))
    · have he : e ∈ a :: r := hp.symm.subset List.mem_cons_self
      rcases List.mem_cons.mp he with he | he
      · exact absurd he ce
      · exact Nat.le_of_lt (qCd_lex (hl2.1 e he) hlen (fun s hs => h12 s (List.mem_cons_of_mem _ hs)))
/-- the row behind: nothing lies between -/
theorem qCd_next {v u : Nat} {y1 y2 : List Nat} (hd : (y1 ++ u :: y2).Pairwise (fun a b => b < a)) (hvu : v < u) (hy2 : ∀ s ∈ y2, s < v) : ∀ (x p : List Nat), (∀ s ∈ x ++ v :: (y1 ++ u :: y2), s < 12) → (x ++ v :: (y1 ++ u :: y2)).Perm p → qCd p ≤ qCd (x ++ v :: (y1 ++ u :: y2)) ∨ qCd (x ++ u :: (y1 ++ v :: y2).reverse) ≤ qCd p
  | [], [], _, hp => by
    have := hp.length_eq
    simp at this
  | [], e :: p, h12, hp => by
    have hp12 : ∀ s ∈ e :: p, s < 12 := fun s hs => h12 s (hp.symm.subset hs)
    have hlen : (y1 ++ u :: y2).length = p.length := by simpa using hp.length_eq
    have hlen2 : (y1 ++ v :: y2).reverse.length = p.length := by
      rw [← hlen, List.length_reverse, List.length_append, List.length_append, List.length_cons, List.length_cons]
    have hd1 := List.pairwise_append.mp hd
    have hd2 := List.pairwise_cons.mp hd1.2.1
    rcases Nat.lt_trichotomy e v with c | c | c
    · exact Or.inl (Nat.le_of_lt (qCd_lex c hlen.symm (fun s hs => hp12 s (List.mem_cons_of_mem _ hs))))
    · subst c
      exact Or.inl ((qCd_cons hlen.symm).1.mpr (qCd_max _ _ hd hp.cons_inv (fun s hs => h12 s (List.mem_cons_of_mem _ hs))))
    · have hrev : ∀ s ∈ (y1 ++ v :: y2).reverse, s < 12 := by
        intro s hs
        rw [List.mem_reverse] at hs
        refine h12 s ?_
        rcases List.mem_append.mp hs with hs | hs
        · exact List.mem_cons_of_mem _ (List.mem_append_left _ hs)
        · rcases List.mem_cons.mp hs with hs | hs
          · rw [hs]; exact List.mem_cons_self
          · exact List.mem_cons_of_mem _ (List.mem_append_right _ (List.mem_cons_of_mem _ hs))
      have he : e ∈ v :: (y1 ++ u :: y2) := hp.symm.subset List.mem_cons_self
      rcases List.mem_cons.mp he with he | he
      · omega
      rcases List.mem_append.mp he with he | he
      · have hue : u < e := hd1.2.2 e he u List.mem_cons_self
        exact Or.inr (Nat.le_of_lt (qCd_lex hue hlen2 hrev))
      rcases List.mem_cons.mp he with he | he
      · subst he
        refine Or.inr ((qCd_cons hlen2).1.mpr (qCd_min _ _ ?_ ?_ hrev))
        · rw [List.pairwise_reverse]
          refine List.pairwise_append.mpr ⟨hd1.1, List.pairwise_cons.mpr ⟨hy2, hd2.2⟩, fun a ha b hb => ?_⟩
          have hae : e < a := hd1.2.2 a ha e List.mem_cons_self
          rcases List.mem_cons.mp hb with hb | hb
          · rw [hb]; omega
          · have := hy2 b hb
            omega
        · have q1 : (e :: (y1 ++ v :: y2)).Perm (e :: p) := by
            refine List.Perm.trans ?_ hp
            refine (List.Perm.cons e List.perm_middle).trans ?_
            refine (List.Perm.swap v e (y1 ++ y2)).trans ?_
            exact List.Perm.cons v List.perm_middle.symm
          exact (List.reverse_perm _).trans q1.cons_inv
      · have := hy2 e he
        omega
  | a :: x, [], _, hp => by
    have := hp.length_eq
    simp at this
  | a :: x, e :: p, h12, hp => by
    have hp12 : ∀ s ∈ e :: p, s < 12 := fun s hs => h12 s (hp.symm.subset hs)
    have hlen : (x ++ v :: (y1 ++ u :: y2)).length = p.length := by simpa using hp.length_eq
    have hlen2 : (x ++ u :: (y1 ++ v :: y2).reverse).length = p.length := by
      rw [← hlen]
      simp only [List.length_append, List.length_cons, List.length_reverse]
    rcases Nat.lt_trichotomy e a with c | c | c
    · exact Or.inl (Nat.le_of_lt (qCd_lex c hlen.symm (fun s hs => hp12 s (List.mem_cons_of_mem _ hs))))
    · subst c
      rcases qCd_next hd hvu hy2 x p (fun s hs => h12 s (List.mem_cons_of_mem _ hs)) hp.cons_inv with h | h
      · exact Or.inl ((qCd_cons hlen.symm).1.mpr h)
      · exact Or.inr ((qCd_cons hlen2).1.mpr h)
    · refine Or.inr (Nat.le_of_lt (qCd_lex c hlen2 (fun s hs => ?_)))
      refine h12 s ?_
      rcases List.mem_append.mp hs with hs | hs
      · exact List.mem_cons_of_mem _ (List.mem_append_left _ hs)
      · refine List.mem_cons_of_mem _ (List.mem_append_right _ ?_)
        rcases List.mem_cons.mp hs with hs | hs
        · rw [hs]
          exact List.mem_cons_of_mem _ (List.mem_append_right _ List.mem_cons_self)
        · rw [List.mem_reverse] at hs
          rcases List.mem_append.mp hs with hs | hs
          · exact List.mem_cons_of_mem _ (List.mem_append_left _ hs)
          · rcases List.mem_cons.mp hs with hs | hs
            · rw [hs]; exact List.mem_cons_self
            · exact List.mem_cons_of_mem _ (List.mem_append_right _ (List.mem_cons_of_mem _ hs))
/-- the order that is sought -/
def qBest (c h : Nat → Nat) (S r : List Nat) : Prop := S.Perm r ∧ ∀ p, S.Perm p → qE c h r 1000000 < qE c h p 1000000 ∨ (qE c h r 1000000 = qE c h p 1000000 ∧ qCd r ≤ qCd p)
theorem qBest_one {c h : Nat → Nat} {S r r' : List Nat} (h12 : ∀ s ∈ S, s < 12) (h1 : qBest c h S r) (h2 : qBest c h S r') : r = r' := by
  have a := h1.2 r' h2.1
  have b := h2.2 r h1.1
  exact qCd_inj r r' (h1.1.length_eq.symm.trans h2.1.length_eq) (fun s hs => h12 s (h1.1.symm.subset hs)) (fun s hs => h12 s (h2.1.symm.subset hs)) (by omega)
theorem qE_le (c h : Nat → Nat) (hc : ∀ s, c s ≤ 10000) : ∀ (l : List Nat) (L : Nat), L ≤ 1000000 → qE c h l L ≤ 10000000000 * l.length
  | [], L, _ => by show 0 ≤ _; omega
  | s :: r, L, hL => by
    have h1 : L * (100 - h s) / 100 ≤ 1000000 := by
      have : L * (100 - h s) ≤ 1000000 * 100 := Nat.mul_le_mul hL (Nat.sub_le _ _)
      omega
    have ih := qE_le c h hc r _ h1
    have h2 : c s * L ≤ 10000 * 1000000 := Nat.mul_le_mul (hc s) hL
    show c s * L + qE c h r (L * (100 - h s) / 100) ≤ 10000000000 * (r.length + 1)
    omega
