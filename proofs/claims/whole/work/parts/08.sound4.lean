section QS
variable {X : qz_X} {d y : Nat} {Q : qz_Q} {pc : Nat} {lv : qz_L} {st : List Value} {g : qz_G} {k : qz_K} {Sg : qz_S} {len : Nat} {a : Nat} {b : Int}
theorem qz_cases_at {v : Int32} {pc : Nat} {k : Nat → Prop} : ∀ {offs : List Int} {lo : Int} {j : Nat} {off : Int}, qz_cases v lo pc k offs → offs[j]? = some off → v.toInt = lo + j → k (qz_tgt pc off)
  | [], lo, j, off, _, h, _ => by cases h
  | o :: t, lo, 0, off, hc, h, hv => by
    cases h
    refine hc.1 ?_
    rw [show lo = v.toInt by omega]
    exact (Int32.ofInt_toInt v).symm
  | o :: t, lo, j + 1, off, hc, h, hv => qz_cases_at (j := j) hc.2 h (by rw [hv]; omega)
theorem qs_tableswitch {dflt lo hi : Int} {offs : Array Int} {n : Nat} (hsz : hi + 1 - lo = offs.size) (hd0 : 0 ≤ (pc : Int) + dflt) (ht : ∀ t ∈ offs.toList, 0 ≤ (pc : Int) + t) (hd : decode (qz_by y) pc = .ok (.tableswitch dflt lo hi offs, n)) (h : qz_step X Sg (.tableswitch dflt lo hi offs, len, a, b) pc lv st g k Q) (hk : qz_hk X d y Q k) : qz_WP X d y Q pc lv st g := by
  intro l dC dI ad cA p e R s m args below meth c cells slots Z C H locs ls hW hl
  obtain ⟨hx, hb, hml, hown, hts, hK, hNW, hst, hR, hret⟩ := id C
  simp only [qz_step] at h
  split at h
  · rename_i v r
    by_cases hc : v.toInt < lo ∨ hi < v.toInt
    · exact lv_tableOut hx hb hd hc (qz_tgt_eq hd0) (hk _ _ _ _ (h.1 hc) l dC dI ad cA p e R s m args below meth c cells slots Z C H locs ls hW hl)
    · have hc1 : ¬ v.toInt < lo := fun z => hc (Or.inl z)
      have hc2 : ¬ hi < v.toInt := fun z => hc (Or.inr z)
      have hj : (v.toInt - lo).toNat < offs.size := by omega
      have ho : offs[(v.toInt - lo).toNat]? = some (offs[(v.toInt - lo).toNat]'hj) := Array.getElem?_eq_getElem hj
      have ho2 : offs.toList[(v.toInt - lo).toNat]? = some (offs[(v.toInt - lo).toNat]'hj) := by rw [Array.getElem?_toList]; exact ho
      have hq := qz_cases_at (h.2 hc) ho2 (by omega)
      exact lv_tableIn hx hb hd hc1 hc2 ho (qz_tgt_eq (ht _ (List.mem_of_getElem? ho2))) (hk _ _ _ _ hq l dC dI ad cA p e R s m args below meth c cells slots Z C H locs ls hW hl)
  · exact h.elim
theorem qz_pairs_at {v : Int32} {pc : Nat} {k : Nat → Prop} {d : Int} : ∀ {ps : List (Int × Int)}, qz_pairs v pc k d ps → (∀ t ∈ ps, -2147483648 ≤ t.1 ∧ t.1 < 2147483648) → k (qz_tgt pc (Op.lookupswitch.offset ps d v.toInt))
  | [], h, _ => h
  | q :: t, h, hr => by
    obtain ⟨h1, h2⟩ := h
    obtain ⟨q1, q2⟩ := q
    by_cases hq : q1 = v.toInt
    · have e : v = Int32.ofInt q1 := by rw [hq]; exact (Int32.ofInt_toInt v).symm
      have h4 := h1 e
      simp only [Op.lookupswitch.offset, hq, if_true]
      exact h4
    · have e : ¬ v = Int32.ofInt q1 := by
        intro z
        apply hq
        have h3 := hr (q1, q2) List.mem_cons_self
        rw [z, Int32.toInt_ofInt_of_le (by omega) (by omega)]
      have h4 := qz_pairs_at (h2 e) (fun t ht => hr t (List.mem_cons_of_mem _ ht))
      simp only [Op.lookupswitch.offset, hq, if_false]
      exact h4
theorem qz_off_in : ∀ (ps : List (Int × Int)) (d v : Int), Op.lookupswitch.offset ps d v = d ∨ ∃ q ∈ ps, Op.lookupswitch.offset ps d v = q.2
  | [], d, v => Or.inl rfl
  | (q1, q2) :: t, d, v => by
    by_cases hq : q1 = v
    · exact Or.inr ⟨(q1, q2), List.mem_cons_self, by simp only [Op.lookupswitch.offset, hq, if_true]⟩
    · simp only [Op.lookupswitch.offset, hq, if_false]
      rcases qz_off_in t d v with h | ⟨q, h1, h2⟩
      · exact Or.inl h
      · exact Or.inr ⟨q, List.mem_cons_of_mem _ h1, h2⟩
theorem qs_lookupswitch {dflt : Int} {ps : Array (Int × Int)} {n : Nat} (hd0 : 0 ≤ (pc : Int) + dflt) (ht : ∀ t ∈ ps.toList, 0 ≤ (pc : Int) + t.2 ∧ -2147483648 ≤ t.1 ∧ t.1 < 2147483648) (hs : (ps.toList.zip (ps.toList.drop 1)).all (fun (a, next) => a.1 < next.1) = true) (hd : decode (qz_by y) pc = .ok (.lookupswitch dflt ps, n)) (h : qz_step X Sg (.lookupswitch dflt ps, len, a, b) pc lv st g k Q) (hk : qz_hk X d y Q k) : qz_WP X d y Q pc lv st g := by
  intro l dC dI ad cA p e R s m args below meth c cells slots Z C H locs ls hW hl
  obtain ⟨hx, hb, hml, hown, hts, hK, hNW, hst, hR, hret⟩ := id C
  simp only [qz_step] at h
  split at h
  · rename_i v r
    have hq := qz_pairs_at h (fun t h9 => (ht t h9).2)
    have hpos : 0 ≤ (pc : Int) + Op.lookupswitch.offset ps.toList dflt v.toInt := by
      rcases qz_off_in ps.toList dflt v.toInt with z | ⟨q, z1, z2⟩
      · rw [z]; exact hd0
      · rw [z2]; exact (ht q z1).1
    exact lv_lookup hx hb hd hs rfl (qz_tgt_eq hpos) (hk _ _ _ _ hq l dC dI ad cA p e R s m args below meth c cells slots Z C H locs ls hW hl)
  · exact h.elim
theorem qs_ireturn (hr : (qz_rt y = some .int ∧ a = 0) ∨ (qz_rt y = some .boolean ∧ a = 1)) (hd : decode (qz_by y) pc = .ok (.ireturn, 1)) (h : qz_step X Sg (.ireturn, len, a, b) pc lv st g k Q) (hk : qz_hk X d y Q k) : qz_WP X d y Q pc lv st g := by
  intro l dC dI ad cA p e R s m args below meth c cells slots Z C H locs ls hW hl
  obtain ⟨hx, hb, hml, hown, hts, hK, hNW, hst, hR, hret⟩ := id C
  simp only [qz_step] at h
  split at h
  · rename_i v
    have hrv : qz_rv y v 0 = some (.int v) := by unfold qz_rv; rcases hr with ⟨h1, -⟩ | ⟨h1, -⟩ <;> rw [h1]
    have h2 : qz_isret y .ireturn (qz_rv y v 0) ∧ Q g v 0 := by
      rw [hrv]
      rcases hr with ⟨h1, h3⟩ | ⟨h1, h3⟩
      · subst h3
        exact ⟨Or.inl h1, h⟩
      · subst h3
        exact ⟨Or.inr ⟨h1, h.1⟩, h.2⟩
    have h4 := hret H locs ls pc g v 0 _ hd h2.1 h2.2 hW
    rw [hrv] at h4
    exact h4
  · exact h.elim
theorem qs_lreturn (hr : qz_rt y = some .long) (hd : decode (qz_by y) pc = .ok (.lreturn, 1)) (h : qz_step X Sg (.lreturn, len, a, b) pc lv st g k Q) (hk : qz_hk X d y Q k) : qz_WP X d y Q pc lv st g := by
  intro l dC dI ad cA p e R s m args below meth c cells slots Z C H locs ls hW hl
  obtain ⟨hx, hb, hml, hown, hts, hK, hNW, hst, hR, hret⟩ := id C
  simp only [qz_step] at h
  split at h
  · rename_i v
    have hrv : qz_rv y 0 v = some (.long v) := by unfold qz_rv; rw [hr]
    have h4 := hret H locs ls pc g 0 v _ hd (by rw [hrv]; exact hr) h hW
    rw [hrv] at h4
    exact h4
  · exact h.elim
theorem qs_return (hr : qz_rt y = none) (hd : decode (qz_by y) pc = .ok (.return_, 1)) (h : qz_step X Sg (.return_, len, a, b) pc lv st g k Q) (hk : qz_hk X d y Q k) : qz_WP X d y Q pc lv st g := by
  intro l dC dI ad cA p e R s m args below meth c cells slots Z C H locs ls hW hl
  obtain ⟨hx, hb, hml, hown, hts, hK, hNW, hst, hR, hret⟩ := id C
  simp only [qz_step] at h
  split at h
  · have hrv : qz_rv y 0 0 = none := by unfold qz_rv; rw [hr]
    have h4 := hret H locs ls pc g 0 0 _ hd (by rw [hrv]; exact hr) h hW
    rw [hrv] at h4
    exact h4
  · exact h.elim
end QS
