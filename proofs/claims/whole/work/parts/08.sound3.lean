section QS
variable {X : qz_X} {d y : Nat} {Q : qz_Q} {pc : Nat} {lv : qz_L} {st : List Value} {g : qz_G} {k : qz_K} {Sg : qz_S} {len : Nat} {a : Nat} {b : Int}
/-- the cells' pictures and the classes' fields are of one kind -/
def qz_kchk (q : qz_kind) : Bool := match q with
  | .inl o => match qz_cls[o.1]? with
    | some c => decide (o.2.length = c.2.2) && (List.range o.2.length).all (fun j => match o.2[j]? with
      | some (.inr 0) => decide (parseFieldDescriptor (c.2.1 j).2.2.1 = some .int) && !(c.2.1 j).2.2.2
      | some (.inr 1) => decide (parseFieldDescriptor (c.2.1 j).2.2.1 = some .long) && !(c.2.1 j).2.2.2
      | some (.inr 2) => decide (parseFieldDescriptor (c.2.1 j).2.2.1 = some .boolean) && !(c.2.1 j).2.2.2
      | _ => true)
    | none => false
  | .inr _ => true
theorem qz_La_chk : qz_La.all qz_kchk = true := by decide +kernel
def qz_fty (n : Nat) : FieldType := match n with
  | 0 => .int
  | 1 => .long
  | _ => .boolean
theorem qz_La_fld {o : Nat} {q : Nat × List (Nat ⊕ Nat)} {c : vw_C} {j n : Nat} (h : qz_La[o]? = some (.inl q)) (hc : qz_cls[q.1]? = some c) (hj : q.2[j]? = some (.inr n)) (hn : n < 3) : parseFieldDescriptor (c.2.1 j).2.2.1 = some (qz_fty n) ∧ (c.2.1 j).2.2.2 = false := by
  have h1 := List.all_eq_true.mp qz_La_chk _ (List.mem_of_getElem? h)
  simp only [qz_kchk, hc, Bool.and_eq_true] at h1
  have h2 := List.all_eq_true.mp h1.2 j (List.mem_range.mpr (List.getElem?_eq_some_iff.mp hj).1)
  rw [hj] at h2
  match n, hn, h2 with
  | 0, _, h2 => simp only [Bool.and_eq_true, decide_eq_true_eq, Bool.not_eq_true'] at h2; exact h2
  | 1, _, h2 => simp only [Bool.and_eq_true, decide_eq_true_eq, Bool.not_eq_true'] at h2; exact h2
  | 2, _, h2 => simp only [Bool.and_eq_true, decide_eq_true_eq, Bool.not_eq_true'] at h2; exact h2
theorem qz_flds_set {ad : Nat → Nat} {g g' : qz_G} {o j : Nat} {fs : List (Nat ⊕ Nat)} {f : Nat ⊕ Nat} (h : fs[j]? = some f) (h1 : ∀ i, i ≠ j → g'.1 o i = g.1 o i) (h2 : ∀ i, i ≠ j → g'.2 o i = g.2 o i) : (qz_flds ad g o fs).set j (qz_tr ad (qz_fv g' o j f)) = qz_flds ad g' o fs := by
  apply List.ext_getElem?
  intro i
  have hl : j < (qz_flds ad g o fs).length := by unfold qz_flds; rw [List.length_mapIdx]; exact (List.getElem?_eq_some_iff.mp h).1
  by_cases hi : i = j
  · subst hi
    rw [List.getElem?_set_self hl, qz_flds_at h]
  · rw [List.getElem?_set_ne (fun z => hi z.symm)]
    unfold qz_flds
    rw [List.getElem?_mapIdx, List.getElem?_mapIdx]
    cases fs[i]? with
    | none => rfl
    | some f2 =>
      simp only [Option.map_some, Option.some.injEq]
      unfold qz_fv
      rw [h1 i hi, h2 i hi]
theorem qz_Wd_set {dC : Nat → ClassId} {dI : Nat → Nat → Nat} {ad : Nat → Nat} {cA : FieldType → ClassId} {s : State} {g g' : qz_G} {H1 : Heap} {locs1 : List Loc} {o : Nat} {q : qz_kind} {w : Nat × va_E} (h : qz_La[o]? = some q) (hw : w = qz_ent ad cA g' o q) (h1 : ∀ a, a ≠ o → g'.1 a = g.1 a) (h2 : ∀ a, a ≠ o → g'.2 a = g.2 a)
    (hP : va_P (dC, dI) qz_cls ((qz_ws ad cA g).set o w) H1) (hD : va_D (qz_A ad s.heap.size) ((qz_ws ad cA g).set o w)) (hS : va_S (qz_A ad s.heap.size) s.heap H1 locs1) : qz_Wd dC dI ad cA s g' H1 locs1 := by
  rw [hw, qz_ws_set h h1 h2] at hP hD
  exact ⟨hP, hD, hS⟩
theorem qz_ul_n1 (g : qz_G) (o j : Nat) (v : Int64) : ∀ a, a ≠ o → (qz_ul g o j v).1 a = g.1 a := fun _ _ => rfl
theorem qz_ui_n2 (g : qz_G) (o j : Nat) (v : Int32) : ∀ a, a ≠ o → (qz_ui g o j v).2 a = g.2 a := fun _ _ => rfl
theorem qz_nb {v : Int32} (h : qz_bit v) : narrow .boolean (.int v) = .int v ∧ fits .boolean (.int v) = true := by
  rcases h with rfl | rfl <;> exact ⟨rfl, rfl⟩
theorem qs_putfield {i : Nat} (hlk : qz_lnk y i a b.toNat) (hd : decode (qz_by y) pc = .ok (.putfield i, 3)) (h : qz_step X Sg (.putfield i, len, a, b) pc lv st g k Q) (hk : qz_hk X d y Q k) : qz_WP X d y Q pc lv st g := by
  intro l dC dI ad cA p e R s m args below meth c cells slots Z C H locs ls hW hl
  obtain ⟨hx, hb, hml, hown, hts, hK, hNW, hst, hR, hret⟩ := id C
  simp only [qz_step] at h
  split at h
  · rename_i v o r
    split at h
    · rename_i q hq
      split at h
      · rename_i hf
        obtain ⟨h0, h⟩ := qz_bif h
        have eq1 := Nat.eq_of_beq_eq_true h0
        obtain ⟨⟨C0, T0, N0⟩, h1, h2, h3⟩ := hlk
        obtain ⟨hw1, ty0, hty, hnm⟩ := qz_cls_ok _ (List.mem_of_getElem? h1)
        have hk0 := qz_La_fld hq (c := (C0, T0, N0)) (by rw [eq1]; exact h1) hf (by decide)
        refine va_put (D := (dC, dI)) (ci := a) (v := .int v) (ty := .int) hx hb hts hw1 ty0 hty hnm hown hK hW.1 hW.2.1 hW.2.2 o (fs := qz_flds ad g o q.2) (by rw [qz_ws_at hq]; simp only [qz_ent, eq1]) h1 b.toNat h2 (hts _ h3) (fun _ h9 => h9) hk0.2 hk0.1 rfl rfl (by unfold qz_flds; rw [List.length_mapIdx]; exact (List.getElem?_eq_some_iff.mp hf).1) hd (fun H1 locs1 hP hD hS => ?_)
        refine hk _ _ _ _ h l dC dI ad cA p e R s m args below meth c cells slots Z C H1 locs1 ls (qz_Wd_set (g := g) (g' := qz_ui g o b.toNat v) hq ?_ (qz_ui_ne g o _ v) (qz_ui_n2 g o _ v) hP hD hS) hl
        simp only [qz_ent, eq1]
        rw [← qz_flds_set (g := g) (g' := qz_ui g o b.toNat v) hf (fun i hi => by simp [qz_ui, qz_ul, hi]) (fun i hi => by simp [qz_ui, qz_ul, hi])]
        simp [qz_fv, qz_tr, qz_ui, qz_ul]
      · rename_i hf
        obtain ⟨h0, hbit, h⟩ := qz_bif h
        have eq1 := Nat.eq_of_beq_eq_true h0
        obtain ⟨⟨C0, T0, N0⟩, h1, h2, h3⟩ := hlk
        obtain ⟨hw1, ty0, hty, hnm⟩ := qz_cls_ok _ (List.mem_of_getElem? h1)
        have hk0 := qz_La_fld hq (c := (C0, T0, N0)) (by rw [eq1]; exact h1) hf (by decide)
        refine va_put (D := (dC, dI)) (ci := a) (v := .int v) (ty := .boolean) hx hb hts hw1 ty0 hty hnm hown hK hW.1 hW.2.1 hW.2.2 o (fs := qz_flds ad g o q.2) (by rw [qz_ws_at hq]; simp only [qz_ent, eq1]) h1 b.toNat h2 (hts _ h3) (fun _ h9 => h9) hk0.2 hk0.1 (qz_nb hbit).1 (qz_nb hbit).2 (by unfold qz_flds; rw [List.length_mapIdx]; exact (List.getElem?_eq_some_iff.mp hf).1) hd (fun H1 locs1 hP hD hS => ?_)
        refine hk _ _ _ _ h l dC dI ad cA p e R s m args below meth c cells slots Z C H1 locs1 ls (qz_Wd_set (g := g) (g' := qz_ui g o b.toNat v) hq ?_ (qz_ui_ne g o _ v) (qz_ui_n2 g o _ v) hP hD hS) hl
        simp only [qz_ent, eq1]
        rw [← qz_flds_set (g := g) (g' := qz_ui g o b.toNat v) hf (fun i hi => by simp [qz_ui, qz_ul, hi]) (fun i hi => by simp [qz_ui, qz_ul, hi])]
        simp [qz_fv, qz_tr, qz_ui, qz_ul]
      · exact h.elim
    · exact h.elim
  · rename_i v o r
    split at h
    · rename_i q hq
      split at h
      · rename_i hf
        obtain ⟨h0, h⟩ := qz_bif h
        have eq1 := Nat.eq_of_beq_eq_true h0
        obtain ⟨⟨C0, T0, N0⟩, h1, h2, h3⟩ := hlk
        obtain ⟨hw1, ty0, hty, hnm⟩ := qz_cls_ok _ (List.mem_of_getElem? h1)
        have hk0 := qz_La_fld hq (c := (C0, T0, N0)) (by rw [eq1]; exact h1) hf (by decide)
        refine va_put (D := (dC, dI)) (ci := a) (v := .long v) (ty := .long) hx hb hts hw1 ty0 hty hnm hown hK hW.1 hW.2.1 hW.2.2 o (fs := qz_flds ad g o q.2) (by rw [qz_ws_at hq]; simp only [qz_ent, eq1]) h1 b.toNat h2 (hts _ h3) (fun _ h9 => h9) hk0.2 hk0.1 rfl rfl (by unfold qz_flds; rw [List.length_mapIdx]; exact (List.getElem?_eq_some_iff.mp hf).1) hd (fun H1 locs1 hP hD hS => ?_)
        refine hk _ _ _ _ h l dC dI ad cA p e R s m args below meth c cells slots Z C H1 locs1 ls (qz_Wd_set (g := g) (g' := qz_ul g o b.toNat v) hq ?_ (qz_ul_n1 g o _ v) (qz_ul_ne g o _ v) hP hD hS) hl
        simp only [qz_ent, eq1]
        rw [← qz_flds_set (g := g) (g' := qz_ul g o b.toNat v) hf (fun i hi => by simp [qz_ui, qz_ul, hi]) (fun i hi => by simp [qz_ui, qz_ul, hi])]
        simp [qz_fv, qz_tr, qz_ui, qz_ul]
      · exact h.elim
    · exact h.elim
  · exact h.elim
theorem qz_arr_at {ad : Nat → Nat} {cA : FieldType → ClassId} {g : qz_G} {o n : Nat} {ty : FieldType} (h : qz_La[o]? = some (.inr (ty, n))) : (qz_ws ad cA g)[o]? = some (ad o, .inl (cA ty, n, qz_row g o ty)) := by
  rw [qz_ws_at h]
  rfl
theorem qs_iaload (hd : decode (qz_by y) pc = .ok (.iaload, 1)) (h : qz_step X Sg (.iaload, len, a, b) pc lv st g k Q) (hk : qz_hk X d y Q k) : qz_WP X d y Q pc lv st g := by
  intro l dC dI ad cA p e R s m args below meth c cells slots Z C H locs ls hW hl
  obtain ⟨hx, hb, hml, hown, hts, hK, hNW, hst, hR, hret⟩ := id C
  simp only [qz_step] at h
  split at h
  · rename_i i o r
    unfold qz_aload at h
    split at h
    · rename_i q hq
      obtain ⟨ty, n⟩ := q
      obtain ⟨h0, hin, h9⟩ := qz_bif h
      clear h
      simp only [decide_eq_true_eq] at h0
      subst h0
      have h := h9
      exact va_iald hx hb hK hW.1 o 0 (qz_arr_at hq) rfl hin hd (hk _ _ _ _ h l dC dI ad cA p e R s m args below meth c cells slots Z C H locs ls hW hl)
    · exact h.elim
    · split at h
      · rename_i q hq
        obtain ⟨h0, hin, h⟩ := qz_bif h
        have hT := hst.1 o q hq
        simp only [decide_eq_true_eq] at h0
        rw [h0] at hT
        exact va_ti hx hb hT hW.2.2 hin rfl hd (hk _ _ _ _ h l dC dI ad cA p e R s m args below meth c cells slots Z C H locs ls hW hl)
      · exact h.elim
  · exact h.elim
theorem qz_La_nochar : qz_La.all (fun q => match q with
  | .inr a => !decide (a.1 = .char)
  | _ => true) = true := by decide +kernel
theorem qs_caload (hd : decode (qz_by y) pc = .ok (.caload, 1)) (h : qz_step X Sg (.caload, len, a, b) pc lv st g k Q) (hk : qz_hk X d y Q k) : qz_WP X d y Q pc lv st g := by
  intro l dC dI ad cA p e R s m args below meth c cells slots Z C H locs ls hW hl
  obtain ⟨hx, hb, hml, hown, hts, hK, hNW, hst, hR, hret⟩ := id C
  simp only [qz_step] at h
  split at h
  · rename_i i o r
    unfold qz_aload at h
    split at h
    · rename_i q hq
      obtain ⟨h0, hin, h⟩ := qz_bif h
      exfalso
      simp only [decide_eq_true_eq] at h0
      have h1 := List.all_eq_true.mp qz_La_nochar _ (List.mem_of_getElem? hq)
      simp [h0] at h1
    · exact h.elim
    · split at h
      · rename_i q hq
        obtain ⟨h0, hin, h⟩ := qz_bif h
        have hT := hst.1 o q hq
        simp only [decide_eq_true_eq] at h0
        rw [h0] at hT
        exact va_tc hx hb hT hW.2.2 hin rfl hd (hk _ _ _ _ h l dC dI ad cA p e R s m args below meth c cells slots Z C H locs ls hW hl)
      · exact h.elim
  · exact h.elim
theorem qs_baload (hd : decode (qz_by y) pc = .ok (.baload, 1)) (h : qz_step X Sg (.baload, len, a, b) pc lv st g k Q) (hk : qz_hk X d y Q k) : qz_WP X d y Q pc lv st g := by
  intro l dC dI ad cA p e R s m args below meth c cells slots Z C H locs ls hW hl
  obtain ⟨hx, hb, hml, hown, hts, hK, hNW, hst, hR, hret⟩ := id C
  simp only [qz_step] at h
  split at h
  · rename_i i o r
    split at h
    · rename_i n hq
      obtain ⟨hin, h⟩ := h
      exact va_zald hx hb hK hW.1 o 1 (qz_arr_at hq) rfl hin hd (hk _ _ _ _ h l dC dI ad cA p e R s m args below meth c cells slots Z C H locs ls hW hl)
    · rename_i n hq
      obtain ⟨hin, h⟩ := h
      exact va_bald hx hb hK hW.1 o 2 (qz_arr_at hq) rfl hin hd (hk _ _ _ _ h l dC dI ad cA p e R s m args below meth c cells slots Z C H locs ls hW hl)
    · exact h.elim
  · exact h.elim
theorem qs_laload (hd : decode (qz_by y) pc = .ok (.laload, 1)) (h : qz_step X Sg (.laload, len, a, b) pc lv st g k Q) (hk : qz_hk X d y Q k) : qz_WP X d y Q pc lv st g := by
  intro l dC dI ad cA p e R s m args below meth c cells slots Z C H locs ls hW hl
  obtain ⟨hx, hb, hml, hown, hts, hK, hNW, hst, hR, hret⟩ := id C
  simp only [qz_step] at h
  split at h
  · rename_i i o r
    split at h
    · rename_i n hq
      obtain ⟨hin, h⟩ := h
      exact va_lald hx hb hK hW.1 o 3 (qz_arr_at hq) rfl hin hd (hk _ _ _ _ h l dC dI ad cA p e R s m args below meth c cells slots Z C H locs ls hW hl)
    · exact h.elim
  · exact h.elim
theorem qs_iastore (hd : decode (qz_by y) pc = .ok (.iastore, 1)) (h : qz_step X Sg (.iastore, len, a, b) pc lv st g k Q) (hk : qz_hk X d y Q k) : qz_WP X d y Q pc lv st g := by
  intro l dC dI ad cA p e R s m args below meth c cells slots Z C H locs ls hW hl
  obtain ⟨hx, hb, hml, hown, hts, hK, hNW, hst, hR, hret⟩ := id C
  simp only [qz_step] at h
  split at h
  · rename_i v i o r
    split at h
    · rename_i n hq
      obtain ⟨hin, h⟩ := h
      refine va_iast hx hb hK hW.1 hW.2.1 hW.2.2 o 0 (qz_arr_at hq) rfl hin hd (fun H1 locs1 hP hD hS => ?_)
      refine hk _ _ _ _ h l dC dI ad cA p e R s m args below meth c cells slots Z C H1 locs1 ls (qz_Wd_set (g := g) (g' := qz_ui g o i.toNatClampNeg v) hq ?_ (qz_ui_ne g o _ _) (qz_ui_n2 g o _ _) hP hD hS) hl
      simp only [qz_ent, qz_row, qz_ui_at]
    · exact h.elim
  · exact h.elim
theorem qs_bastore (hd : decode (qz_by y) pc = .ok (.bastore, 1)) (h : qz_step X Sg (.bastore, len, a, b) pc lv st g k Q) (hk : qz_hk X d y Q k) : qz_WP X d y Q pc lv st g := by
  intro l dC dI ad cA p e R s m args below meth c cells slots Z C H locs ls hW hl
  obtain ⟨hx, hb, hml, hown, hts, hK, hNW, hst, hR, hret⟩ := id C
  simp only [qz_step] at h
  split at h
  · rename_i v i o r
    split at h
    · rename_i n hq
      obtain ⟨hin, h⟩ := h
      refine va_zast hx hb hK hW.1 hW.2.1 hW.2.2 o 1 (qz_arr_at hq) rfl hin hd (fun H1 locs1 hP hD hS => ?_)
      refine hk _ _ _ _ h l dC dI ad cA p e R s m args below meth c cells slots Z C H1 locs1 ls (qz_Wd_set (g := g) (g' := qz_ui g o i.toNatClampNeg (vp_nar .boolean v)) hq ?_ (qz_ui_ne g o _ _) (qz_ui_n2 g o _ _) hP hD hS) hl
      simp only [qz_ent, qz_row, qz_ui_at]
    · rename_i n hq
      obtain ⟨hin, h⟩ := h
      refine va_bast hx hb hK hW.1 hW.2.1 hW.2.2 o 2 (qz_arr_at hq) rfl hin hd (fun H1 locs1 hP hD hS => ?_)
      refine hk _ _ _ _ h l dC dI ad cA p e R s m args below meth c cells slots Z C H1 locs1 ls (qz_Wd_set (g := g) (g' := qz_ui g o i.toNatClampNeg (vp_nar .byte v)) hq ?_ (qz_ui_ne g o _ _) (qz_ui_n2 g o _ _) hP hD hS) hl
      simp only [qz_ent, qz_row, qz_ui_at]
    · exact h.elim
  · exact h.elim
theorem qs_lastore (hd : decode (qz_by y) pc = .ok (.lastore, 1)) (h : qz_step X Sg (.lastore, len, a, b) pc lv st g k Q) (hk : qz_hk X d y Q k) : qz_WP X d y Q pc lv st g := by
  intro l dC dI ad cA p e R s m args below meth c cells slots Z C H locs ls hW hl
  obtain ⟨hx, hb, hml, hown, hts, hK, hNW, hst, hR, hret⟩ := id C
  simp only [qz_step] at h
  split at h
  · rename_i v i o r
    split at h
    · rename_i n hq
      obtain ⟨hin, h⟩ := h
      refine va_last hx hb hK hW.1 hW.2.1 hW.2.2 o 3 (qz_arr_at hq) rfl hin hd (fun H1 locs1 hP hD hS => ?_)
      refine hk _ _ _ _ h l dC dI ad cA p e R s m args below meth c cells slots Z C H1 locs1 ls (qz_Wd_set (g := g) (g' := qz_ul g o i.toNatClampNeg v) hq ?_ (qz_ul_n1 g o _ _) (qz_ul_ne g o _ _) hP hD hS) hl
      simp only [qz_ent, qz_row, qz_ul_at]
    · exact h.elim
  · exact h.elim
theorem qz_La_tys : qz_La.all (fun q => match q with
  | .inr a => decide (a.1 = .int) || decide (a.1 = .boolean) || decide (a.1 = .byte) || decide (a.1 = .long)
  | _ => true) = true := by decide +kernel
theorem qz_ty_at (cA : FieldType → ClassId) {ty : FieldType} {n : Nat} (h : (.inr (ty, n) : qz_kind) ∈ qz_La) : ∃ t0 : Nat, (qz_tys cA)[t0]? = some (cA ty, ty) := by
  have h1 := List.all_eq_true.mp qz_La_tys _ h
  simp only [Bool.or_eq_true, decide_eq_true_eq] at h1
  rcases h1 with ((h1 | h1) | h1) | h1
  · exact ⟨0, by rw [h1]; rfl⟩
  · exact ⟨1, by rw [h1]; rfl⟩
  · exact ⟨2, by rw [h1]; rfl⟩
  · exact ⟨3, by rw [h1]; rfl⟩
theorem qs_arraylength (hd : decode (qz_by y) pc = .ok (.arraylength, 1)) (h : qz_step X Sg (.arraylength, len, a, b) pc lv st g k Q) (hk : qz_hk X d y Q k) : qz_WP X d y Q pc lv st g := by
  intro l dC dI ad cA p e R s m args below meth c cells slots Z C H locs ls hW hl
  obtain ⟨hx, hb, hml, hown, hts, hK, hNW, hst, hR, hret⟩ := id C
  simp only [qz_step] at h
  split at h
  · rename_i o r
    unfold qz_alen at h
    split at h
    · rename_i q hq
      obtain ⟨ty, n⟩ := q
      obtain ⟨t0, ht⟩ := qz_ty_at cA (List.mem_of_getElem? hq)
      exact va_alen hx hb hK hW.1 o t0 (qz_arr_at hq) ht rfl hd (hk _ _ _ _ h l dC dI ad cA p e R s m args below meth c cells slots Z C H locs ls hW hl)
    · exact h.elim
    · split at h
      · rename_i q hq
        exact va_tlen hx hb (hst.1 o q hq) hW.2.2 rfl hd (hk _ _ _ _ h l dC dI ad cA p e R s m args below meth c cells slots Z C H locs ls hW hl)
      · exact h.elim
  · exact h.elim
theorem qs_getstatic {i : Nat} (hs : (a = 1000 ∧ Cond.fieldLink (qz_ow y) i RX6 "LETTERS" "[C" ∈ qz_T) ∨ (a = 1001 ∧ Cond.fieldLink (qz_ow y) i RX6 "LIMITS" "[I" ∈ qz_T) ∨ (a = 1002 ∧ Cond.fieldLink (qz_ow y) i RX6 "FACTS" "[C" ∈ qz_T)) (hd : decode (qz_by y) pc = .ok (.getstatic i, 3)) (h : qz_step X Sg (.getstatic i, len, a, b) pc lv st g k Q) (hk : qz_hk X d y Q k) : qz_WP X d y Q pc lv st g := by
  intro l dC dI ad cA p e R s m args below meth c cells slots Z C H locs ls hW hl
  obtain ⟨hx, hb, hml, hown, hts, hK, hNW, hst, hR, hret⟩ := id C
  simp only [qz_step] at h
  rcases hs with ⟨ha, hs⟩ | ⟨ha, hs⟩ | ⟨ha, hs⟩
  · subst ha
    exact va_gets hx hb hst.2.1 hW.2.2 hown (hts _ hs) (fun _ h9 => h9) hd (hk _ _ _ _ h l dC dI ad cA p e R s m args below meth c cells slots Z C H locs ls hW hl)
  · subst ha
    exact va_gets hx hb hst.2.2.1 hW.2.2 hown (hts _ hs) (fun _ h9 => h9) hd (hk _ _ _ _ h l dC dI ad cA p e R s m args below meth c cells slots Z C H locs ls hW hl)
  · subst ha
    exact va_gets hx hb hst.2.2.2 hW.2.2 hown (hts _ hs) (fun _ h9 => h9) hd (hk _ _ _ _ h l dC dI ad cA p e R s m args below meth c cells slots Z C H locs ls hW hl)
end QS
