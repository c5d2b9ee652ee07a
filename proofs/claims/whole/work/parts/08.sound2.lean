section QS
variable {X : qz_X} {d y : Nat} {Q : qz_Q} {pc : Nat} {lv : qz_L} {st : List Value} {g : qz_G} {k : qz_K} {Sg : qz_S} {len : Nat} {a : Nat} {b : Int}
theorem qz_mem_drop {lv : qz_L} {i : Nat} {b : Bool} {q : Nat × Value} (h : q ∈ qz_drop lv i b) : q ∈ lv ∧ ¬ (q.1 + 1 = i ∧ qz_cat q.2 = 2) ∧ ¬ (b = true ∧ q.1 = i + 1) := by
  induction lv with
  | nil => cases h
  | cons w t ih =>
    unfold qz_drop at h
    cases hc : ((Nat.beq (w.1 + 1) i && Nat.beq (qz_cat w.2) 2) || (b && Nat.beq w.1 (i + 1))) with
    | true =>
      rw [hc] at h
      obtain ⟨h1, h2⟩ := ih h
      exact ⟨List.mem_cons_of_mem _ h1, h2⟩
    | false =>
      rw [hc] at h
      rcases List.mem_cons.mp h with h | h
      · subst h
        simp only [Bool.or_eq_false_iff, Bool.and_eq_false_iff] at hc
        refine ⟨List.mem_cons_self, fun z => ?_, fun z => ?_⟩
        · rcases hc.1 with e | e
          · rw [z.1] at e
            simp at e
          · rw [z.2] at e
            simp at e
        · rcases hc.2 with e | e
          · rw [z.1] at e
            cases e
          · rw [z.2] at e
            simp at e
      · obtain ⟨h1, h2⟩ := ih h
        exact ⟨List.mem_cons_of_mem _ h1, h2⟩
theorem qz_mem_repl {lv : qz_L} {i : Nat} {v : Value} {q : Nat × Value} (h : q ∈ qz_repl lv i v) : q = (i, v) ∨ (q ∈ lv ∧ q.1 ≠ i) := by
  induction lv with
  | nil => cases h
  | cons w t ih =>
    unfold qz_repl at h
    rcases List.mem_cons.mp h with h | h
    · cases hc : Nat.beq w.1 i with
      | true => rw [hc] at h; exact Or.inl h
      | false =>
        rw [hc] at h
        right
        rw [h]
        refine ⟨List.mem_cons_self, fun z => ?_⟩
        have z : w.1 = i := z
        rw [z] at hc
        simp at hc
    · rcases ih h with h | h
      · exact Or.inl h
      · exact Or.inr ⟨List.mem_cons_of_mem _ h.1, h.2⟩
theorem qz_has_no {lv : qz_L} {i : Nat} (h : qz_has lv i = false) : ∀ q ∈ lv, q.1 ≠ i := by
  induction lv with
  | nil => intro q hq; cases hq
  | cons w t ih =>
    unfold qz_has at h
    cases hc : Nat.beq w.1 i with
    | true => rw [hc] at h; cases h
    | false =>
      rw [hc] at h
      intro q hq
      rcases List.mem_cons.mp hq with e | e
      · intro z
        rw [← e, z] at hc
        simp at hc
      · exact ih h q e
theorem qz_mem_put {lv : qz_L} {i : Nat} {v : Value} {q : Nat × Value} (h : q ∈ qz_put lv i v) : q = (i, v) ∨ (q ∈ lv ∧ q.1 ≠ i ∧ ¬ (q.1 + 1 = i ∧ qz_cat q.2 = 2) ∧ ¬ (qz_cat v = 2 ∧ q.1 = i + 1)) := by
  unfold qz_put qz_set at h
  have key : ∀ q, q ∈ qz_drop lv i (Nat.beq (qz_cat v) 2) → q ∈ lv ∧ ¬ (q.1 + 1 = i ∧ qz_cat q.2 = 2) ∧ ¬ (qz_cat v = 2 ∧ q.1 = i + 1) := by
    intro q hq
    obtain ⟨h1, h2, h3⟩ := qz_mem_drop hq
    exact ⟨h1, h2, fun z => h3 ⟨by rw [z.1]; rfl, z.2⟩⟩
  cases hc : qz_has (qz_drop lv i (Nat.beq (qz_cat v) 2)) i with
  | true =>
    rw [hc] at h
    rcases qz_mem_repl h with h | h
    · exact Or.inl h
    · obtain ⟨h1, h2, h3⟩ := key q h.1
      exact Or.inr ⟨h1, h.2, h2, h3⟩
  | false =>
    rw [hc] at h
    rcases List.mem_append.mp h with h | h
    · obtain ⟨h1, h2, h3⟩ := key q h
      exact Or.inr ⟨h1, qz_has_no hc q h, h2, h3⟩
    · exact Or.inl (List.mem_singleton.mp h)
theorem qz_put1 {lv : qz_L} {i n : Nat} {v : Value} {ad : Nat → Nat} {ls : Array Slot} (h : lv_has ls n ((i, qz_tr ad v) :: (qz_mp ad lv).filter (fun q => !(q.1 == i) && !(q.1 + 1 == i && q.2.category == 2)))) : lv_has ls n (qz_mp ad (qz_put lv i v)) := by
  refine ⟨h.1, h.2.1, fun q hq => h.2.2 q ?_⟩
  obtain ⟨w, h1, h2⟩ := List.mem_map.mp hq
  rcases qz_mem_put h1 with e | ⟨e1, e2, e3, -⟩
  · rw [← h2, e]; exact List.mem_cons_self
  · refine List.mem_cons_of_mem _ (List.mem_filter.mpr ⟨List.mem_map.mpr ⟨w, e1, h2⟩, ?_⟩)
    rw [← h2]
    simp only [Bool.and_eq_true, Bool.not_eq_true', beq_eq_false_iff_ne, ne_eq, Bool.and_eq_false_iff, qz_cat_tr]
    exact ⟨e2, Decidable.not_and_iff_not_or_not.mp e3⟩
theorem qz_put2 {lv : qz_L} {i n : Nat} {v : Value} {ad : Nat → Nat} {ls : Array Slot} (hv : qz_cat v = 2) (h : lv_has ls n ((i, qz_tr ad v) :: (qz_mp ad lv).filter (fun q => !(q.1 == i) && (!(q.1 == i + 1) && !(q.1 + 1 == i && q.2.category == 2))))) : lv_has ls n (qz_mp ad (qz_put lv i v)) := by
  refine ⟨h.1, h.2.1, fun q hq => h.2.2 q ?_⟩
  obtain ⟨w, h1, h2⟩ := List.mem_map.mp hq
  rcases qz_mem_put h1 with e | ⟨e1, e2, e3, e4⟩
  · rw [← h2, e]; exact List.mem_cons_self
  · refine List.mem_cons_of_mem _ (List.mem_filter.mpr ⟨List.mem_map.mpr ⟨w, e1, h2⟩, ?_⟩)
    rw [← h2]
    simp only [Bool.and_eq_true, Bool.not_eq_true', beq_eq_false_iff_ne, ne_eq, Bool.and_eq_false_iff, qz_cat_tr]
    exact ⟨e2, fun z => e4 ⟨hv, z⟩, Decidable.not_and_iff_not_or_not.mp e3⟩
theorem qs_istore {i : Nat} (hi : i < qz_mx y) (hd : decode (qz_by y) pc = .ok (.istore i, 2)) (h : qz_step X Sg (.istore i, len, a, b) pc lv st g k Q) (hk : qz_hk X d y Q k) : qz_WP X d y Q pc lv st g := by
  intro l dC dI ad cA p e R s m args below meth c cells slots Z C H locs ls hW hl
  obtain ⟨hx, hb, hml, hown, hts, hK, hNW, hst, hR, hret⟩ := id C
  simp only [qz_step] at h
  split at h
  · exact lv_istore hx hb hd hl hi rfl (fun ls hl => hk _ _ _ _ h l dC dI ad cA p e R s m args below meth c cells slots Z C H locs ls hW (qz_put1 hl))
  · exact h.elim
theorem qs_istore_n {i : Fin 4} (hi : i < qz_mx y) (hd : decode (qz_by y) pc = .ok (.istore_n i, 1)) (h : qz_step X Sg (.istore_n i, len, a, b) pc lv st g k Q) (hk : qz_hk X d y Q k) : qz_WP X d y Q pc lv st g := by
  intro l dC dI ad cA p e R s m args below meth c cells slots Z C H locs ls hW hl
  obtain ⟨hx, hb, hml, hown, hts, hK, hNW, hst, hR, hret⟩ := id C
  simp only [qz_step] at h
  split at h
  · exact lv_istore_n hx hb hd rfl hl hi rfl (fun ls hl => hk _ _ _ _ h l dC dI ad cA p e R s m args below meth c cells slots Z C H locs ls hW (qz_put1 hl))
  · exact h.elim
theorem qs_lstore {i : Nat} (hi : i + 1 < qz_mx y) (hd : decode (qz_by y) pc = .ok (.lstore i, 2)) (h : qz_step X Sg (.lstore i, len, a, b) pc lv st g k Q) (hk : qz_hk X d y Q k) : qz_WP X d y Q pc lv st g := by
  intro l dC dI ad cA p e R s m args below meth c cells slots Z C H locs ls hW hl
  obtain ⟨hx, hb, hml, hown, hts, hK, hNW, hst, hR, hret⟩ := id C
  simp only [qz_step] at h
  split at h
  · exact lv_lstore hx hb hd hl hi rfl (fun ls hl => hk _ _ _ _ h l dC dI ad cA p e R s m args below meth c cells slots Z C H locs ls hW (qz_put2 rfl hl))
  · exact h.elim
theorem qs_lstore_n {i : Fin 4} (hi : (i : Nat) + 1 < qz_mx y) (hd : decode (qz_by y) pc = .ok (.lstore_n i, 1)) (h : qz_step X Sg (.lstore_n i, len, a, b) pc lv st g k Q) (hk : qz_hk X d y Q k) : qz_WP X d y Q pc lv st g := by
  intro l dC dI ad cA p e R s m args below meth c cells slots Z C H locs ls hW hl
  obtain ⟨hx, hb, hml, hown, hts, hK, hNW, hst, hR, hret⟩ := id C
  simp only [qz_step] at h
  split at h
  · exact lv_lstore_n hx hb hd rfl hl hi rfl (fun ls hl => hk _ _ _ _ h l dC dI ad cA p e R s m args below meth c cells slots Z C H locs ls hW (qz_put2 rfl hl))
  · exact h.elim
theorem qs_iinc {i : Nat} {n : Int} (hi : i < qz_mx y) (hd : decode (qz_by y) pc = .ok (.iinc i n, 3)) (h : qz_step X Sg (.iinc i n, len, a, b) pc lv st g k Q) (hk : qz_hk X d y Q k) : qz_WP X d y Q pc lv st g := by
  intro l dC dI ad cA p e R s m args below meth c cells slots Z C H locs ls hW hl
  obtain ⟨hx, hb, hml, hown, hts, hK, hNW, hst, hR, hret⟩ := id C
  simp only [qz_step] at h
  split at h
  · rename_i v heq
    obtain ⟨j, hj⟩ := List.getElem?_of_mem (List.mem_map.mpr ⟨(i, Value.int v), qz_look_mem heq, rfl⟩ : (i, qz_tr ad (.int v)) ∈ qz_mp ad lv)
    exact lv_iinc hx hb hd hl hj rfl hi rfl (fun ls hl => hk _ _ _ _ h l dC dI ad cA p e R s m args below meth c cells slots Z C H locs ls hW (qz_put1 hl))
  · exact h.elim
theorem qs_ldc {i : Nat} (hc : Cond.constant (qz_ow y) i (Int32.ofInt b) ∈ qz_T) (hd : decode (qz_by y) pc = .ok (.ldc i, 2)) (h : qz_step X Sg (.ldc i, len, a, b) pc lv st g k Q) (hk : qz_hk X d y Q k) : qz_WP X d y Q pc lv st g := by
  intro l dC dI ad cA p e R s m args below meth c cells slots Z C H locs ls hW hl
  obtain ⟨hx, hb, hml, hown, hts, hK, hNW, hst, hR, hret⟩ := id C
  simp only [qz_step] at h
  exact lv_ldc hx hb hown (hts _ hc) hd (hk _ _ _ _ h l dC dI ad cA p e R s m args below meth c cells slots Z C H locs ls hW hl)
theorem qs_ldc_w {i : Nat} (hc : Cond.constant (qz_ow y) i (Int32.ofInt b) ∈ qz_T) (hd : decode (qz_by y) pc = .ok (.ldc_w i, 3)) (h : qz_step X Sg (.ldc_w i, len, a, b) pc lv st g k Q) (hk : qz_hk X d y Q k) : qz_WP X d y Q pc lv st g := by
  intro l dC dI ad cA p e R s m args below meth c cells slots Z C H locs ls hW hl
  obtain ⟨hx, hb, hml, hown, hts, hK, hNW, hst, hR, hret⟩ := id C
  simp only [qz_step] at h
  exact lv_ldcw hx hb hown (hts _ hc) hd (hk _ _ _ _ h l dC dI ad cA p e R s m args below meth c cells slots Z C H locs ls hW hl)
theorem qs_ldc2_w {i : Nat} (hc : Cond.constantLong (qz_ow y) i (Int64.ofInt b) ∈ qz_T) (hd : decode (qz_by y) pc = .ok (.ldc2_w i, 3)) (h : qz_step X Sg (.ldc2_w i, len, a, b) pc lv st g k Q) (hk : qz_hk X d y Q k) : qz_WP X d y Q pc lv st g := by
  intro l dC dI ad cA p e R s m args below meth c cells slots Z C H locs ls hW hl
  obtain ⟨hx, hb, hml, hown, hts, hK, hNW, hst, hR, hret⟩ := id C
  simp only [qz_step] at h
  exact lv_ldc2 hx hb hown (hts _ hc) hd (hk _ _ _ _ h l dC dI ad cA p e R s m args below meth c cells slots Z C H locs ls hW hl)
theorem qz_flds_at {ad : Nat → Nat} {g : qz_G} {o j : Nat} {fs : List (Nat ⊕ Nat)} {f : Nat ⊕ Nat} (h : fs[j]? = some f) : (qz_flds ad g o fs)[j]? = some (qz_tr ad (qz_fv g o j f)) := by
  unfold qz_flds
  rw [List.getElem?_mapIdx, h]
  rfl
def qz_lnk (y i ci j : Nat) : Prop := ∃ q : vw_C, qz_cls[ci]? = some q ∧ j < q.2.2 ∧ Cond.fieldLink (qz_ow y) i (q.2.1 j).1 (q.2.1 j).2.1 (q.2.1 j).2.2.1 ∈ qz_T
theorem qs_getfield {i : Nat} (hlk : qz_lnk y i a b.toNat) (hd : decode (qz_by y) pc = .ok (.getfield i, 3)) (h : qz_step X Sg (.getfield i, len, a, b) pc lv st g k Q) (hk : qz_hk X d y Q k) : qz_WP X d y Q pc lv st g := by
  intro l dC dI ad cA p e R s m args below meth c cells slots Z C H locs ls hW hl
  obtain ⟨hx, hb, hml, hown, hts, hK, hNW, hst, hR, hret⟩ := id C
  simp only [qz_step] at h
  split at h
  · rename_i o r
    split at h
    · rename_i q hq
      split at h
      · rename_i f hf
        obtain ⟨h0, h⟩ := qz_bif h
        have eq1 := Nat.eq_of_beq_eq_true h0
        obtain ⟨⟨C0, T0, N0⟩, h1, h2, h3⟩ := hlk
        obtain ⟨hw1, -⟩ := qz_cls_ok _ (List.mem_of_getElem? h1)
        refine va_get (D := (dC, dI)) (ci := a) hx hb hts hw1 hown hK hW.1 o (fs := qz_flds ad g o q.2) (by rw [qz_ws_at hq]; simp only [qz_ent, eq1]) h1 b.toNat h2 (hts _ h3) (fun _ h9 => h9) (qz_flds_at hf) hd (hk _ _ _ _ h l dC dI ad cA p e R s m args below meth c cells slots Z C H locs ls hW hl)
      · exact h.elim
    · exact h.elim
  · exact h.elim
end QS
