/-! the least that some sources add: over all their orders -/
def qMin (c h : Nat → Nat) (T : List Nat) (L m : Nat) : Prop := (∃ p, T.Perm p ∧ qE c h p L = m) ∧ ∀ p, T.Perm p → m ≤ qE c h p L
theorem qz_wo {P : Nat → Prop} : ∀ (n k : Nat), k ≤ n → P k → ∃ m, P m ∧ ∀ j, P j → m ≤ j
  | 0, k, hk, h => ⟨k, h, fun j _ => by omega⟩
  | n + 1, k, hk, h => by
    by_cases c : ∃ j, j < k ∧ P j
    · obtain ⟨j, hj, hp⟩ := c
      exact qz_wo n j (by omega) hp
    · refine ⟨k, h, fun j hj => ?_⟩
      rcases Nat.lt_or_ge j k with z | z
      · exact absurd ⟨j, z, hj⟩ c
      · exact z
theorem qMin_ex (c h : Nat → Nat) (T : List Nat) (L : Nat) : ∃ m, qMin c h T L m := by
  obtain ⟨m, h1, h2⟩ := qz_wo (P := fun m => ∃ p, T.Perm p ∧ qE c h p L = m) (qE c h T L) (qE c h T L) (Nat.le_refl _) ⟨T, List.Perm.refl T, rfl⟩
  exact ⟨m, h1, fun p hp => h2 _ ⟨p, hp, rfl⟩⟩
theorem qMin_one {c h : Nat → Nat} {T : List Nat} {L m m' : Nat} (h1 : qMin c h T L m) (h2 : qMin c h T L m') : m = m' := by
  obtain ⟨⟨p, hp, ep⟩, hm⟩ := h1
  obtain ⟨⟨q, hq, eq⟩, hm'⟩ := h2
  have a := hm q hq
  have b := hm' p hp
  omega
theorem qMin_nil (c h : Nat → Nat) (L : Nat) : qMin c h [] L 0 := ⟨⟨[], List.Perm.refl _, rfl⟩, fun _ _ => Nat.zero_le _⟩
theorem qMin_le {c h : Nat → Nat} (hc : ∀ s, c s ≤ 10000) {T : List Nat} {L m : Nat} (hL : L ≤ 1000000) (hm : qMin c h T L m) : m ≤ 10000000000 * T.length := by
  obtain ⟨⟨p, hp, ep⟩, _⟩ := hm
  have h1 := qE_le c h hc p L hL
  rw [ep, ← hp.length_eq] at h1
  exact h1
theorem qMin_63 {c h : Nat → Nat} (hc : ∀ s, c s ≤ 10000) {T : List Nat} {L m : Nat} (hT : T.length ≤ 8) (hL : L ≤ 1000000) (hm : qMin c h T L m) : m < 2 ^ 63 := by
  have h1 := qMin_le hc hL hm
  omega
/-- the sources of S whose places aren't among the bits of U -/
def qUd (S : List Nat) (U : Nat) : List Nat := ((List.range S.length).filter (fun i => !(U.testBit i))).map (qAt S)
theorem qUd_0 (S : List Nat) : qUd S 0 = S := by
  unfold qUd
  rw [List.filter_eq_self.mpr (fun i _ => by show (!(Nat.testBit 0 i)) = true; rw [Nat.zero_testBit]; rfl)]
  refine List.ext_getElem (by rw [List.length_map, List.length_range]) (fun i h1 h2 => ?_)
  rw [List.getElem_map, List.getElem_range, qAt_i h2]
theorem qUd_mem {S : List Nat} {U e : Nat} (h : e ∈ qUd S U) : ∃ k, k < S.length ∧ U.testBit k = false ∧ e = qAt S k := by
  obtain ⟨k, hk, ek⟩ := List.mem_map.mp h
  have h1 := List.mem_filter.mp hk
  refine ⟨k, List.mem_range.mp h1.1, ?_, ek.symm⟩
  have h2 : (!(U.testBit k)) = true := h1.2
  cases hb : U.testBit k with
  | false => rfl
  | true => rw [hb] at h2; cases h2
theorem qUd_sub {S : List Nat} {U e : Nat} (h : e ∈ qUd S U) : e ∈ S := by
  obtain ⟨k, hk, _, ek⟩ := qUd_mem h
  rw [ek]
  exact qAt_memi hk
theorem qUd_len (S : List Nat) (U : Nat) : (qUd S U).length ≤ S.length := by
  unfold qUd
  rw [List.length_map]
  have h1 := List.length_filter_le (fun i => !(U.testBit i)) (List.range S.length)
  rw [List.length_range] at h1
  exact h1
theorem qUd_step {S : List Nat} {U j : Nat} (hj : j < S.length) (hu : U.testBit j = false) : (qUd S U).Perm (qAt S j :: qUd S (U ||| 2 ^ j)) := by
  have hm : j ∈ (List.range S.length).filter (fun i => !(U.testBit i)) := List.mem_filter.mpr ⟨List.mem_range.mpr hj, by show (!(U.testBit j)) = true; rw [hu]; rfl⟩
  have hn : ((List.range S.length).filter (fun i => !(U.testBit i))).Nodup := List.Nodup.sublist List.filter_sublist List.nodup_range
  have he : ((List.range S.length).filter (fun i => !(U.testBit i))).erase j = (List.range S.length).filter (fun i => !((U ||| 2 ^ j).testBit i)) := by
    rw [hn.erase_eq_filter j, List.filter_filter]
    refine List.filter_congr (fun i _ => ?_)
    show ((i != j) && !(U.testBit i)) = !((U ||| 2 ^ j).testBit i)
    rw [Nat.testBit_or, Nat.testBit_two_pow]
    by_cases c : j = i
    · subst c
      simp
    · have e1 : (i != j) = true := bne_iff_ne.mpr (fun z => c z.symm)
      rw [e1, decide_eq_false c, Bool.or_false, Bool.true_and]
  have hp := List.perm_cons_erase hm
  rw [he] at hp
  exact hp.map (qAt S)
theorem qUd_less {S : List Nat} {U j : Nat} (hj : j < S.length) (hu : U.testBit j = false) : (qUd S U).length = (qUd S (U ||| 2 ^ j)).length + 1 := (qUd_step hj hu).length_eq
theorem qUd_full {S : List Nat} {U : Nat} (h : ∀ j, j < S.length → U.testBit j = true) : qUd S U = [] := by
  unfold qUd
  rw [List.filter_eq_nil_iff.mpr (fun i hi => by show ¬ (!(U.testBit i)) = true; rw [h i (List.mem_range.mp hi)]; decide)]
  rfl
theorem qUd_ne {S : List Nat} {U : Nat} (h : U + 1 < 2 ^ S.length) : ∃ j, j < S.length ∧ U.testBit j = false := by
  refine Classical.byContradiction (fun hn => ?_)
  have hall : ∀ j, j < S.length → U.testBit j = true := fun j hj => by
    cases hb : U.testBit j with
    | true => rfl
    | false => exact absurd ⟨j, hj, hb⟩ hn
  have hU : U < 2 ^ S.length := by omega
  have e : U = 2 ^ S.length - 1 := by
    refine Nat.eq_of_testBit_eq (fun i => ?_)
    rw [Nat.testBit_two_pow_sub_one]
    rcases Nat.lt_or_ge i S.length with z | z
    · rw [hall i z, decide_eq_true z]
    · rw [Nat.testBit_lt_two_pow (Nat.lt_of_lt_of_le hU (Nat.pow_le_pow_right (by decide) z)), decide_eq_false (by omega)]
  omega
theorem qUd_end {S : List Nat} {U : Nat} (hU : U < 2 ^ S.length) (h : ¬ U + 1 < 2 ^ S.length) : qUd S U = [] := by
  refine qUd_full (fun j hj => ?_)
  have e : U = 2 ^ S.length - 1 := by omega
  rw [e, Nat.testBit_two_pow_sub_one, decide_eq_true hj]
theorem qUd_or {S : List Nat} {U j : Nat} (hU : U < 2 ^ S.length) (hj : j < S.length) : U ||| 2 ^ j < 2 ^ S.length := Nat.or_lt_two_pow hU (Nat.pow_lt_pow_right (by decide) hj)
/-- what is added with the one at place j first -/
def qMw (c h : Nat → Nat) (S : List Nat) (U L j x : Nat) : Prop := ∃ m, qMin c h (qUd S (U ||| 2 ^ j)) (L * (100 - h (qAt S j)) / 100) m ∧ x = c (qAt S j) * L + m
theorem qMw_one {c h : Nat → Nat} {S : List Nat} {U L j x y : Nat} (h1 : qMw c h S U L j x) (h2 : qMw c h S U L j y) : x = y := by
  obtain ⟨m, a1, a2⟩ := h1
  obtain ⟨m', b1, b2⟩ := h2
  rw [a2, b2, qMin_one a1 b1]
theorem qMw_row {c h : Nat → Nat} {S : List Nat} {U L j x : Nat} (hj : j < S.length) (hu : U.testBit j = false) (hx : qMw c h S U L j x) : ∃ p, (qUd S U).Perm p ∧ qE c h p L = x := by
  obtain ⟨k, ⟨⟨p, hp, ep⟩, _⟩, e⟩ := hx
  refine ⟨qAt S j :: p, (qUd_step hj hu).trans (List.Perm.cons _ hp), ?_⟩
  show c (qAt S j) * L + qE c h p (L * (100 - h (qAt S j)) / 100) = x
  rw [ep, e]
theorem qMw_ge {c h : Nat → Nat} {S : List Nat} {U L j m x : Nat} (hj : j < S.length) (hu : U.testBit j = false) (hm : qMin c h (qUd S U) L m) (hx : qMw c h S U L j x) : m ≤ x := by
  obtain ⟨p, hp, ep⟩ := qMw_row hj hu hx
  have h1 := hm.2 p hp
  omega
theorem qMw_63 {c h : Nat → Nat} (hc : ∀ s, c s ≤ 10000) {S : List Nat} {U L j x : Nat} (hS : S.length ≤ 8) (hL : L ≤ 1000000) (hj : j < S.length) (hu : U.testBit j = false) (hx : qMw c h S U L j x) : x < 2 ^ 63 := by
  obtain ⟨p, hp, ep⟩ := qMw_row hj hu hx
  have h1 := qE_le c h hc p L hL
  have h2 := qUd_len S U
  rw [ep, ← hp.length_eq] at h1
  omega
theorem qMw_of {c h : Nat → Nat} {S : List Nat} {U L i m : Nat} {q : List Nat} (hi : i < S.length) (hu : U.testBit i = false) (hm : qMin c h (qUd S U) L m) (hp : (qUd S U).Perm (qAt S i :: q)) (z : m = qE c h (qAt S i :: q) L) : qMw c h S U L i m := by
  have hq : (qUd S (U ||| 2 ^ i)).Perm q := ((qUd_step hi hu).symm.trans hp).cons_inv
  obtain ⟨mi, hmi⟩ := qMin_ex c h (qUd S (U ||| 2 ^ i)) (L * (100 - h (qAt S i)) / 100)
  have h1 := qMw_ge hi hu hm ⟨mi, hmi, rfl⟩
  have h2 := hmi.2 q hq
  have z2 : m = c (qAt S i) * L + qE c h q (L * (100 - h (qAt S i)) / 100) := z
  refine ⟨mi, hmi, ?_⟩
  omega
/-- an order of what is unused begins with one that is unused -/
theorem qUd_first {S : List Nat} {U : Nat} {p : List Nat} (hne : ∃ j, j < S.length ∧ U.testBit j = false) (hp : (qUd S U).Perm p) : ∃ i q, i < S.length ∧ U.testBit i = false ∧ p = qAt S i :: q := by
  obtain ⟨j, hj, hu⟩ := hne
  cases p with
  | nil =>
    have := qUd_less hj hu
    have h2 := hp.length_eq
    rw [List.length_nil] at h2
    omega
  | cons s q =>
    obtain ⟨i, hi, hui, ei⟩ := qUd_mem (hp.symm.subset List.mem_cons_self)
    exact ⟨i, q, hi, hui, by rw [ei]⟩
theorem qMin_of {c h : Nat → Nat} {S : List Nat} {U L m : Nat} (hex : ∃ j, j < S.length ∧ U.testBit j = false ∧ qMw c h S U L j m) (hall : ∀ j, j < S.length → U.testBit j = false → ∀ x, qMw c h S U L j x → m ≤ x) : qMin c h (qUd S U) L m := by
  obtain ⟨j, hj, hu, hx⟩ := hex
  refine ⟨qMw_row hj hu hx, fun q hq => ?_⟩
  obtain ⟨i, r, hi, hui, eq⟩ := qUd_first ⟨j, hj, hu⟩ hq
  subst eq
  have hr : (qUd S (U ||| 2 ^ i)).Perm r := ((qUd_step hi hui).symm.trans hq).cons_inv
  obtain ⟨mi, hmi⟩ := qMin_ex c h (qUd S (U ||| 2 ^ i)) (L * (100 - h (qAt S i)) / 100)
  have h1 := hall i hi hui _ ⟨mi, hmi, rfl⟩
  have h2 := hmi.2 r hr
  show m ≤ c (qAt S i) * L + qE c h r (L * (100 - h (qAt S i)) / 100)
  exact Nat.le_trans h1 (Nat.add_le_add_left h2 _)
theorem qMin_has {c h : Nat → Nat} {S : List Nat} {U L m : Nat} (hne : ∃ j, j < S.length ∧ U.testBit j = false) (hm : qMin c h (qUd S U) L m) : ∃ i, i < S.length ∧ U.testBit i = false ∧ qMw c h S U L i m := by
  obtain ⟨p, hp, ep⟩ := hm.1
  obtain ⟨i, q, hi, hui, eq⟩ := qUd_first hne hp
  subst eq
  exact ⟨i, hi, hui, qMw_of hi hui hm hp ep.symm⟩
/-- the order that is sought, of what is unused -/
def qBst (c h : Nat → Nat) (T : List Nat) (L : Nat) (r : List Nat) : Prop := T.Perm r ∧ ∀ p, T.Perm p → qE c h r L < qE c h p L ∨ (qE c h r L = qE c h p L ∧ qCd r ≤ qCd p)
theorem qBst_nil (c h : Nat → Nat) (L : Nat) : qBst c h [] L [] := ⟨List.Perm.refl _, fun p hp => by rw [← hp.nil_eq]; exact Or.inr ⟨rfl, Nat.le_refl _⟩⟩
theorem qBst_min {c h : Nat → Nat} {T r : List Nat} {L m : Nat} (hb : qBst c h T L r) (hm : qMin c h T L m) : qE c h r L = m := by
  obtain ⟨⟨p, hp, ep⟩, ha⟩ := hm
  have h1 := ha r hb.1
  have h2 := hb.2 p hp
  omega
theorem qBst_step {c h : Nat → Nat} {S : List Nat} {U L j m : Nat} {r : List Nat} (hS12 : ∀ s ∈ S, s < 12) (hasc : S.Pairwise (fun a b => a < b)) (hj : j < S.length) (hu : U.testBit j = false) (hm : qMin c h (qUd S U) L m) (hjm : qMw c h S U L j m) (hf : ∀ i, i < j → U.testBit i = false → ¬ qMw c h S U L i m) (hr : qBst c h (qUd S (U ||| 2 ^ j)) (L * (100 - h (qAt S j)) / 100) r) : qBst c h (qUd S U) L (qAt S j :: r) := by
  obtain ⟨k, hk, ek⟩ := hjm
  have er := qBst_min hr hk
  have eE : qE c h (qAt S j :: r) L = m := by
    show c (qAt S j) * L + qE c h r (L * (100 - h (qAt S j)) / 100) = m
    rw [er, ek]
  have hperm := (qUd_step hj hu).trans (List.Perm.cons _ hr.1)
  refine ⟨hperm, fun p hp => ?_⟩
  rw [eE]
  have hge := hm.2 p hp
  rcases Nat.lt_or_eq_of_le hge with z | z
  · exact Or.inl z
  refine Or.inr ⟨z, ?_⟩
  obtain ⟨i, q, hi, hui, eq⟩ := qUd_first ⟨j, hj, hu⟩ hp
  subst eq
  have hlen : r.length = q.length := by
    have h1 := hperm.length_eq
    have h2 := hp.length_eq
    rw [List.length_cons] at h1 h2
    omega
  have hmw := qMw_of hi hui hm hp z
  rcases Nat.lt_trichotomy i j with y | y | y
  · exact absurd hmw (hf i y hui)
  · subst y
    have hq : (qUd S (U ||| 2 ^ i)).Perm q := ((qUd_step hi hui).symm.trans hp).cons_inv
    have h3 := hr.2 q hq
    have z2 : m = c (qAt S i) * L + qE c h q (L * (100 - h (qAt S i)) / 100) := z
    refine (qCd_cons hlen).1.mpr ?_
    rw [er] at h3
    omega
  · refine Nat.le_of_lt (qCd_lex ?_ hlen (fun s hs => hS12 s (qUd_sub (hr.1.symm.subset hs))))
    have h4 := List.pairwise_iff_getElem.mp hasc j i hj hi y
    rw [qAt_i hj, qAt_i hi]
    exact h4
