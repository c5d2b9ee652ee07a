/-! the cheapest order: what is pure -/
/-- a row as a number: rows of one length are in the order of their numbers -/
def qCd : List Nat → Nat
  | [] => 0
  | s :: r => s * 12 ^ r.length + qCd r
theorem qCd_lt : ∀ (l : List Nat), (∀ s ∈ l, s < 12) → qCd l < 12 ^ l.length
  | [], _ => by show 0 < 12 ^ 0; decide
  | s :: r, h => by
    have ih := qCd_lt r (fun x hx => h x (List.mem_cons_of_mem _ hx))
    have hs := h s List.mem_cons_self
    show s * 12 ^ r.length + qCd r < 12 ^ (r.length + 1)
    have h1 : s * 12 ^ r.length ≤ 11 * 12 ^ r.length := Nat.mul_le_mul_right _ (by omega)
    rw [Nat.pow_succ]
    omega
theorem qCd_lex {a b : Nat} {r r' : List Nat} (hab : a < b) (hl : r.length = r'.length) (h : ∀ s ∈ r, s < 12) : qCd (a :: r) < qCd (b :: r') := by
  have h1 := qCd_lt r h
  show a * 12 ^ r.length + qCd r < b * 12 ^ r'.length + qCd r'
  rw [← hl]
  have h2 : (a + 1) * 12 ^ r.length ≤ b * 12 ^ r.length := Nat.mul_le_mul_right _ hab
  rw [Nat.add_mul] at h2
  omega
theorem qCd_cons {a : Nat} {r r' : List Nat} (hl : r.length = r'.length) : (qCd (a :: r) ≤ qCd (a :: r') ↔ qCd r ≤ qCd r') ∧ (qCd (a :: r) < qCd (a :: r') ↔ qCd r < qCd r') := by
  show (a * 12 ^ r.length + qCd r ≤ a * 12 ^ r'.length + qCd r' ↔ _) ∧ (a * 12 ^ r.length + qCd r < a * 12 ^ r'.length + qCd r' ↔ _)
  rw [hl]
  omega
theorem qCd_inj : ∀ (l p : List Nat), l.length = p.length → (∀ s ∈ l, s < 12) → (∀ s ∈ p, s < 12) → qCd l = qCd p → l = p
  | [], [], _, _, _, _ => rfl
  | [], b :: p, h, _, _, _ => by cases h
  | a :: l, [], h, _, _, _ => by cases h
  | a :: l, b :: p, hl, h1, h2, he => by
    have hl2 : l.length = p.length := by simpa using hl
    rcases Nat.lt_trichotomy a b with c | c | c
    · have := qCd_lex c hl2 (fun s hs => h1 s (List.mem_cons_of_mem _ hs))
      omega
    · subst c
      have e1 := (qCd_cons (a := a) hl2).1.mp (Nat.le_of_eq he)
      have e2 := (qCd_cons (a := a) hl2.symm).1.mp (Nat.le_of_eq he.symm)
      rw [qCd_inj l p hl2 (fun s hs => h1 s (List.mem_cons_of_mem _ hs)) (fun s hs => h2 s (List.mem_cons_of_mem _ hs)) (by omega)]
    · have := qCd_lex c hl2.symm (fun s hs => h2 s (List.mem_cons_of_mem _ hs))
      omega
theorem qCd_max : ∀ (l p : List Nat), l.Pairwise (fun a b => b < a) → l.Perm p → (∀ s ∈ l, s < 12) → qCd p ≤ qCd l
  | [], p, _, hp, _ => by rw [hp.nil_eq]; exact Nat.le_refl _
  | a :: r, [], _, hp, _ => by
    have := hp.length_eq
    simp at this
  | a :: r, e :: p, hl, hp, h12 => by
    have hl2 := List.pairwise_cons.mp hl
    have hlen : r.length = p.length := by simpa using hp.length_eq
    have hp12 : ∀ s ∈ e :: p, s < 12 := fun s hs => h12 s (hp.symm.subset hs)
    by_cases ce : e = a
    · subst ce
      exact (qCd_cons hlen.symm).1.mpr (qCd_max r p hl2.2 hp.cons_inv (fun s hs => h12 s (List.mem_cons_of_mem _ hs)))
    · have he : e ∈ a :: r := hp.symm.subset List.mem_cons_self
      rcases List.mem_cons.mp he with he | he
      · exact absurd he ce
      · exact Nat.le_of_lt (qCd_lex (hl2.1 e he) hlen.symm (fun s hs => hp12 s (List.mem_cons_of_mem _ hs)))
theorem qCd_min : ∀ (l p : List Nat), l.Pairwise (fun a b => a < b) → l.Perm p → (∀ s ∈ l, s < 12) → qCd l ≤ qCd p
  | [], p, _, hp, _ => by rw [hp.nil_eq]; exact Nat.le_refl _
  | a :: r, [], _, hp, _ => by
    have := hp.length_eq
    simp at this
  | a :: r, e :: p, hl, hp, h12 => by
    have hl2 := List.pairwise_cons.mp hl
    have hlen : r.length = p.length := by simpa using hp.length_eq
    by_cases ce : e = a
    · subst ce
      exact (qCd_cons hlen).1.mpr (qCd_min r p hl2.2 hp.cons_inv (fun s hs => h12 s (List.mem_cons_of_mem _ hs)))
    · have he : e ∈ a :: r := hp.symm.subset List.mem_cons_self
      rcases List.mem_cons.mp he with he | he
      · exact absurd he ce
      · exact Nat.le_of_lt (qCd_lex (hl2.1 e he) hlen (fun s hs => h12 s (List.mem_cons_of_mem _ hs)))
/-- the row behind: nothing lies between -/
theorem qCd_next {v u : Nat} {y1 y2 : List Nat} (hd : (y1 ++ u :: y2).Pairwise (fun a b => b < a)) (hvu : v < u) (hy2 : ∀ s ∈ y2, s < v) : ∀ (x p : List Nat), (∀ s ∈ x ++ v :: (y1 ++ u :: y2), s < 12) → (x ++ v :: (y1 ++ u :: y2)).Perm p → qCd p ≤ qCd (x ++ v :: (y1 ++ u :: y2)) ∨ qCd (x ++ u :: (y1 ++ v :: y2).reverse) ≤ qCd p
  | [], [], _, hp => by
    have := hp.length_eq
    simp at this
  | [], e :: p, h12, hp => by
    have hp12 : ∀ s ∈ e :: p, s < 12 := fun s hs => h12 s (hp.symm.subset hs)
    have hlen : (y1 ++ u :: y2).length = p.length := by simpa using hp.length_eq
    have hlen2 : (y1 ++ v :: y2).reverse.length = p.length := by
      rw [← hlen, List.length_reverse, List.length_append, List.length_append, List.length_cons, List.length_cons]
    have hd1 := List.pairwise_append.mp hd
    have hd2 := List.pairwise_cons.mp hd1.2.1
    rcases Nat.lt_trichotomy e v with c | c | c
    · exact Or.inl (Nat.le_of_lt (qCd_lex c hlen.symm (fun s hs => hp12 s (List.mem_cons_of_mem _ hs))))
    · subst c
      exact Or.inl ((qCd_cons hlen.symm).1.mpr (qCd_max _ _ hd hp.cons_inv (fun s hs => h12 s (List.mem_cons_of_mem _ hs))))
    · have hrev : ∀ s ∈ (y1 ++ v :: y2).reverse, s < 12 := by
        intro s hs
        rw [List.mem_reverse] at hs
        refine h12 s ?_
        rcases List.mem_append.mp hs with hs | hs
        · exact List.mem_cons_of_mem _ (List.mem_append_left _ hs)
        · rcases List.mem_cons.mp hs with hs | hs
          · rw [hs]; exact List.mem_cons_self
          · exact List.mem_cons_of_mem _ (List.mem_append_right _ (List.mem_cons_of_mem _ hs))
      have he : e ∈ v :: (y1 ++ u :: y2) := hp.symm.subset List.mem_cons_self
      rcases List.mem_cons.mp he with he | he
      · omega
      rcases List.mem_append.mp he with he | he
      · have hue : u < e := hd1.2.2 e he u List.mem_cons_self
        exact Or.inr (Nat.le_of_lt (qCd_lex hue hlen2 hrev))
      rcases List.mem_cons.mp he with he | he
      · subst he
        refine Or.inr ((qCd_cons hlen2).1.mpr (qCd_min _ _ ?_ ?_ hrev))
        · rw [List.pairwise_reverse]
          refine List.pairwise_append.mpr ⟨hd1.1, List.pairwise_cons.mpr ⟨hy2, hd2.2⟩, fun a ha b hb => ?_⟩
          have hae : e < a := hd1.2.2 a ha e List.mem_cons_self
          rcases List.mem_cons.mp hb with hb | hb
          · rw [hb]; omega
          · have := hy2 b hb
            omega
        · have q1 : (e :: (y1 ++ v :: y2)).Perm (e :: p) := by
            refine List.Perm.trans ?_ hp
            refine (List.Perm.cons e List.perm_middle).trans ?_
            refine (List.Perm.swap v e (y1 ++ y2)).trans ?_
            exact List.Perm.cons v List.perm_middle.symm
          exact (List.reverse_perm _).trans q1.cons_inv
      · have := hy2 e he
        omega
  | a :: x, [], _, hp => by
    have := hp.length_eq
    simp at this
  | a :: x, e :: p, h12, hp => by
    have hp12 : ∀ s ∈ e :: p, s < 12 := fun s hs => h12 s (hp.symm.subset hs)
    have hlen : (x ++ v :: (y1 ++ u :: y2)).length = p.length := by simpa using hp.length_eq
    have hlen2 : (x ++ u :: (y1 ++ v :: y2).reverse).length = p.length := by
      rw [← hlen]
      simp only [List.length_append, List.length_cons, List.length_reverse]
    rcases Nat.lt_trichotomy e a with c | c | c
    · exact Or.inl (Nat.le_of_lt (qCd_lex c hlen.symm (fun s hs => hp12 s (List.mem_cons_of_mem _ hs))))
    · subst c
      rcases qCd_next hd hvu hy2 x p (fun s hs => h12 s (List.mem_cons_of_mem _ hs)) hp.cons_inv with h | h
      · exact Or.inl ((qCd_cons hlen.symm).1.mpr h)
      · exact Or.inr ((qCd_cons hlen2).1.mpr h)
    · refine Or.inr (Nat.le_of_lt (qCd_lex c hlen2 (fun s hs => ?_)))
      refine h12 s ?_
      rcases List.mem_append.mp hs with hs | hs
      · exact List.mem_cons_of_mem _ (List.mem_append_left _ hs)
      · refine List.mem_cons_of_mem _ (List.mem_append_right _ ?_)
        rcases List.mem_cons.mp hs with hs | hs
        · rw [hs]
          exact List.mem_cons_of_mem _ (List.mem_append_right _ List.mem_cons_self)
        · rw [List.mem_reverse] at hs
          rcases List.mem_append.mp hs with hs | hs
          · exact List.mem_cons_of_mem _ (List.mem_append_left _ hs)
          · rcases List.mem_cons.mp hs with hs | hs
            · rw [hs]; exact List.mem_cons_self
            · exact List.mem_cons_of_mem _ (List.mem_append_right _ (List.mem_cons_of_mem _ hs))
/-- the order that is sought -/
def qBest (c h : Nat → Nat) (S r : List Nat) : Prop := S.Perm r ∧ ∀ p, S.Perm p → qE c h r 1000000 < qE c h p 1000000 ∨ (qE c h r 1000000 = qE c h p 1000000 ∧ qCd r ≤ qCd p)
theorem qBest_one {c h : Nat → Nat} {S r r' : List Nat} (h12 : ∀ s ∈ S, s < 12) (h1 : qBest c h S r) (h2 : qBest c h S r') : r = r' := by
  have a := h1.2 r' h2.1
  have b := h2.2 r h1.1
  exact qCd_inj r r' (h1.1.length_eq.symm.trans h2.1.length_eq) (fun s hs => h12 s (h1.1.symm.subset hs)) (fun s hs => h12 s (h2.1.symm.subset hs)) (by omega)
theorem qE_le (c h : Nat → Nat) (hc : ∀ s, c s ≤ 10000) : ∀ (l : List Nat) (L : Nat), L ≤ 1000000 → qE c h l L ≤ 10000000000 * l.length
  | [], L, _ => by show 0 ≤ _; omega
  | s :: r, L, hL => by
    have h1 : L * (100 - h s) / 100 ≤ 1000000 := by
      have : L * (100 - h s) ≤ 1000000 * 100 := Nat.mul_le_mul hL (Nat.sub_le _ _)
      omega
    have ih := qE_le c h hc r _ h1
    have h2 : c s * L ≤ 10000 * 1000000 := Nat.mul_le_mul (hc s) hL
    show c s * L + qE c h r (L * (100 - h s) / 100) ≤ 10000000000 * (r.length + 1)
    omega
