/-! the start: from the law's entry to its loop -/
def ks_X12 : List Nat := [12, 81, 84, 79, 80, 82, 83, 85, 86, 87, 88, 89, 90, 91, 92, 93, 94, 95, 96, 97, 98, 99, 100, 101, 102, 103, 104, 105, 106, 107, 108, 109, 110, 111, 112, 113, 114, 115, 116, 117, 118, 119, 120, 121, 122, 123, 124, 125, 126, 127, 128, 129, 130, 131, 132, 133, 134, 135, 136, 137, 138, 139, 140, 141, 142, 143, 144, 145, 146, 147, 148, 149]
def uu_X12 (h0 : Nat) (u : Nat → Nat) : Nat → Nat := fun k => if k = 12 then h0 else u (k - 79)
def f_12 : List (Nat ⊕ Nat) := match qz_kd 12 with
  | .inl o => o.2
  | .inr _ => []
def ck_12 (k : Nat) : Bool := match f_12[k]?, cz_find st_X12 k 0 with
  | some (.inl c), some j => decide (79 + j = c)
  | some (.inr 1), none => decide (tyX12 k = .long)
  | some (.inr 0), none => decide (tyX12 k = .int)
  | some (.inr 2), none => decide (tyX12 k = .boolean)
  | _, _ => false
theorem ck_12_all : ∀ k, k < 94 → ck_12 k = true := by decide +kernel
theorem f_12_len : f_12.length = 94 := by decide +kernel
theorem fs_X12_len (u : Nat → Nat) : (fs_X12 u).length = 94 := by
  unfold fs_X12
  rw [cz_fs_len, cz_df_len]
theorem qz_flds_get (ad : Nat → Nat) (g : qz_G) (o : Nat) (fs : List (Nat ⊕ Nat)) (k : Nat) : (qz_flds ad g o fs)[k]? = (fs[k]?).map (fun f => qz_tr ad (qz_fv g o k f)) := by
  unfold qz_flds
  rw [List.getElem?_mapIdx]
theorem fs_X12_eq (h0 : Nat) (u : Nat → Nat) : fs_X12 u = qz_flds (uu_X12 h0 u) qz_g0 12 f_12 := by
  apply List.ext_getElem?
  intro k
  rw [qz_flds_get]
  by_cases hk : k < 94
  · rw [fs_X12_get u k hk]
    have h := ck_12_all k hk
    unfold ck_12 at h
    cases hf : f_12[k]? with
    | none =>
      rw [hf] at h
      exact absurd (show false = true from h) (by decide)
    | some f =>
      rw [hf] at h
      cases hc : cz_find st_X12 k 0 with
      | none =>
        rw [hc] at h
        match f, h with
        | .inr 1, h =>
          have h : tyX12 k = .long := of_decide_eq_true h
          rw [h]; rfl
        | .inr 0, h =>
          have h : tyX12 k = .int := of_decide_eq_true h
          rw [h]; rfl
        | .inr 2, h =>
          have h : tyX12 k = .boolean := of_decide_eq_true h
          rw [h]; rfl
        | .inl c, h => exact absurd (show false = true from h) (by decide)
        | .inr (n + 3), h => exact absurd (show false = true from h) (by decide)
      | some j =>
        rw [hc] at h
        match f, h with
        | .inl c, h =>
          have h : 79 + j = c := of_decide_eq_true h
          subst h
          show (if k < 94 then some (Value.ref (u j)) else none) = some (Value.ref (if 79 + j = 12 then h0 else u (79 + j - 79)))
          rw [if_pos hk, if_neg (by omega), Nat.add_sub_cancel_left]
        | .inr 0, h => exact absurd (show false = true from h) (by decide)
        | .inr 1, h => exact absurd (show false = true from h) (by decide)
        | .inr 2, h => exact absurd (show false = true from h) (by decide)
        | .inr (n + 3), h => exact absurd (show false = true from h) (by decide)
  · rw [List.getElem?_eq_none (by rw [fs_X12_len]; omega), List.getElem?_eq_none (by rw [f_12_len]; omega)]
    rfl
theorem qz_e_12 (cA : FieldType → ClassId) (h0 : Nat) (u : Nat → Nat) : qz_e cA (uu_X12 h0 u) 12 = (h0, .inr (12, fs_X12 u)) := by
  rw [fs_X12_eq h0 u]
  rfl
set_option maxRecDepth 100000 in
set_option maxHeartbeats 8000000 in
theorem rs_X12_eq (cA : FieldType → ClassId) (h0 : Nat) (u : Nat → Nat) : (((u 2, .inl (cA .int, 40, .inl (fun _ => -1))) :: (u 5, .inl (cA .int, 40, .inl (fun _ => -1))) :: rs_X12 cA u) : va_W) = ([81, 84, 79, 80, 82, 83, 85, 86, 87, 88, 89, 90, 91, 92, 93, 94, 95, 96, 97, 98, 99, 100, 101, 102, 103, 104, 105, 106, 107, 108, 109, 110, 111, 112, 113, 114, 115, 116, 117, 118, 119, 120, 121, 122, 123, 124, 125, 126, 127, 128, 129, 130, 131, 132, 133, 134, 135, 136, 137, 138, 139, 140, 141, 142, 143, 144, 145, 146, 147, 148, 149] : List Nat).map (qz_e cA (uu_X12 h0 u)) := rfl
theorem wk_X12_eq (cA : FieldType → ClassId) (h0 : Nat) (u : Nat → Nat) : wk_X12 cA h0 u = ks_X12.map (qz_e cA (uu_X12 h0 u)) := by
  unfold wk_X12
  rw [rs_X12_eq cA h0 u, ← qz_e_12 cA h0 u]
  rfl
def qz_rf (q : qz_kind) : List Nat := match q with
  | .inl o => o.2.filterMap (fun f => match f with
    | .inl c => some c
    | .inr _ => none)
  | .inr _ => []
theorem qz_e_congr {cA : FieldType → ClassId} {u u' : Nat → Nat} {k : Nat} (h : u k = u' k) (hr : ∀ c ∈ qz_rf (qz_kd k), u c = u' c) : qz_e cA u k = qz_e cA u' k := by
  unfold qz_e qz_ent
  rw [h]
  cases hk : qz_kd k with
  | inr a => rfl
  | inl o =>
    rw [hk] at hr
    have e : qz_flds u qz_g0 k o.2 = qz_flds u' qz_g0 k o.2 := by
      apply List.ext_getElem?
      intro j
      rw [qz_flds_get, qz_flds_get]
      cases hf : o.2[j]? with
      | none => rfl
      | some f =>
        cases f with
        | inl c =>
          have hc := hr c (List.mem_filterMap.mpr ⟨.inl c, List.mem_of_getElem? hf, rfl⟩)
          show some (Value.ref (u c)) = some (Value.ref (u' c))
          rw [hc]
        | inr n =>
          match n with
          | 0 => rfl
          | 1 => rfl
          | n + 2 => rfl
    show (u' k, Sum.inr (o.1, qz_flds u qz_g0 k o.2)) = (u' k, Sum.inr (o.1, qz_flds u' qz_g0 k o.2))
    rw [e]
theorem ks_11_side : ∀ k ∈ ks_X11, ((k < 79 ∧ ¬ k = 12) ∨ k = 150) ∧ ∀ c ∈ qz_rf (qz_kd k), (c < 79 ∧ ¬ c = 12) ∨ c = 150 := by decide +kernel
theorem ks_12_side : ∀ k ∈ ks_X12, (k < 150 ∧ (k = 12 ∨ 79 ≤ k)) ∧ ∀ c ∈ qz_rf (qz_kd k), c < 150 ∧ 79 ≤ c := by decide +kernel
theorem ks_all : ∀ k, k < 151 → k ∈ ks_X11 ++ ks_X12 := by decide +kernel
theorem qz_La_len : qz_La.length = 151 := by decide +kernel
def qz_adr (t0 t1 t2 b q12 : Nat) (u u12 : Nat → Nat) : Nat → Nat := fun k => if k = 12 ∨ (79 ≤ k ∧ k < 150) then uu_X12 q12 u12 k else if k = 1000 then t0 else if k = 1001 then t1 else if k = 1002 then t2 else if k = 1003 then b else u k
theorem qz_ws_e {ad : Nat → Nat} {cA : FieldType → ClassId} {k : Nat} {x : Nat × va_E} (h : (qz_ws ad cA qz_g0)[k]? = some x) : k < 151 ∧ x = qz_e cA ad k := by
  have hk : k < 151 := by
    have := (List.getElem?_eq_some_iff.mp h).1
    rw [qz_ws_len, qz_La_len] at this
    exact this
  refine ⟨hk, ?_⟩
  have h1 : qz_La[k]? = some (qz_kd k) := by
    unfold qz_kd
    rw [List.getElem?_eq_getElem (by rw [qz_La_len]; exact hk)]
    rfl
  rw [qz_ws_at h1] at h
  exact (Option.some.inj h).symm
theorem qz_world {dC : Nat → ClassId} {dI : Nat → Nat → Nat} {ad : Nat → Nat} {cA : FieldType → ClassId} {H : Heap} {A : Nat → Prop} (hP : va_P (dC, dI) qz_cls ((ks_X11 ++ ks_X12).map (qz_e cA ad)) H) (hD : va_D A ((ks_X11 ++ ks_X12).map (qz_e cA ad))) : va_P (dC, dI) qz_cls (qz_ws ad cA qz_g0) H ∧ va_D A (qz_ws ad cA qz_g0) ∧ ∀ k, k < 151 → A (ad k) := by
  have at_ : ∀ k, k < 151 → ∃ i, (ks_X11 ++ ks_X12)[i]? = some k ∧ ((ks_X11 ++ ks_X12).map (qz_e cA ad))[i]? = some (qz_e cA ad k) := fun k hk => by
    obtain ⟨i, hi⟩ := List.getElem?_of_mem (ks_all k hk)
    exact ⟨i, hi, by rw [List.getElem?_map, hi]; rfl⟩
  refine ⟨fun k x hx => ?_, ⟨fun i j x y hx hy he => ?_, fun k x hx => ?_⟩, fun k hk => ?_⟩
  · obtain ⟨hk, rfl⟩ := qz_ws_e hx
    obtain ⟨i, _, h2⟩ := at_ k hk
    exact hP i _ h2
  · obtain ⟨hi, rfl⟩ := qz_ws_e hx
    obtain ⟨hj, rfl⟩ := qz_ws_e hy
    obtain ⟨i1, a1, a2⟩ := at_ i hi
    obtain ⟨j1, b1, b2⟩ := at_ j hj
    have e := hD.1 i1 j1 _ _ a2 b2 he
    subst e
    exact Option.some.inj (a1.symm.trans b1)
  · obtain ⟨hk, rfl⟩ := qz_ws_e hx
    obtain ⟨i, _, h2⟩ := at_ k hk
    exact hD.2 i _ h2
  · obtain ⟨i, _, h2⟩ := at_ k hk
    have h3 := hD.2 i _ h2
    exact h3
theorem Rel_g0 : Rel qz_g0 := by
  have v0 : ∀ (k : Nat), ¬ (k : Int) < (0 : Int32).toInt := fun k h => by rw [qz_n0] at h; omega
  refine ⟨?_, ?_, ?_, ⟨fun i _ => Or.inl rfl, fun i _ _ => rfl, fun o h => ?_⟩, fun k h => absurd h (v0 k), fun w h => absurd h (v0 w), fun w _ => rfl, fun k h => absurd h (v0 k), fun k h => absurd h (v0 k), fun k h => absurd h (v0 k), fun k h => absurd h (v0 k), ⟨fun k => (⟨by decide, by decide⟩ : qI 0 0 10000), fun k => (⟨by decide, by decide⟩ : qI 0 0 100)⟩, fun k _ => (show (0 : Int32) = 0 &&& 255 from by decide), fun w l _ hl => ?_, ⟨fun k _ => ?_, fun i h => absurd h (v0 i)⟩, fun i h => absurd h (v0 i)⟩
  · unfold RelE
    repeat' apply And.intro
    all_goals rfl
  · unfold RelS
    repeat' apply And.intro
    all_goals rfl
  · exact ⟨⟨by decide, by decide⟩, ⟨by decide, by decide⟩, ⟨by decide, by decide⟩, ⟨by decide, by decide⟩, ⟨by decide, by decide⟩, ⟨by decide, by decide⟩, ⟨by decide, by decide⟩, ⟨by decide, by decide⟩, ⟨by decide, by decide⟩, ⟨by decide, by decide⟩, ⟨by decide, by decide⟩⟩
  · have h1 := h.1
    have h2 := h.2
    exact absurd (Int32.not_lt.mp h1) h2
  · have e : ∀ l, l < 4 → ((0 : Int32) >>> (nI l &&& 31)) &&& 1 = 0 := by decide
    exact ⟨fun _ => rfl, fun _ => e l hl⟩
  · show (0 : Int64) = qz_earn (qz_g0.1 142) (qz_g0.2 143) (nI k) (0 : Int32).toNatClampNeg
    rw [show (0 : Int32).toNatClampNeg = 0 from by decide]
    rfl
