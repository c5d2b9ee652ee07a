/-! The pure machine's memory as a world of the kit; contracts (qz_Call) and goals at a place of a method (qz_WP). -/
def qz_tr (ad : Nat → Nat) (v : Value) : Value := match v with
  | .ref k => .ref (ad k)
  | w => w
def qz_row (g : qz_G) (k : Nat) (ty : FieldType) : (Nat → Int32) ⊕ (Nat → Int64) ⊕ (Nat → UInt32) ⊕ (Nat → UInt64) ⊕ (Nat → Option Nat) := match ty with
  | .long => .inr (.inl (g.2 k))
  | _ => .inl (g.1 k)
def qz_flds (ad : Nat → Nat) (g : qz_G) (k : Nat) (fs : List (Nat ⊕ Nat)) : List Value := fs.mapIdx (fun j f => qz_tr ad (qz_fv g k j f))
def qz_ent (ad : Nat → Nat) (cA : FieldType → ClassId) (g : qz_G) (k : Nat) (q : qz_kind) : Nat × va_E := (ad k, match q with
  | .inl o => .inr (o.1, qz_flds ad g k o.2)
  | .inr a => .inl (cA a.1, a.2, qz_row g k a.1))
def qz_ws (ad : Nat → Nat) (cA : FieldType → ClassId) (g : qz_G) : va_W := qz_La.mapIdx (qz_ent ad cA g)
def qz_tys (cA : FieldType → ClassId) : List (ClassId × FieldType) := [(cA .int, .int), (cA .boolean, .boolean), (cA .byte, .byte), (cA .long, .long)]
def qz_A (ad : Nat → Nat) (sz : Nat) : Nat → Prop := fun q => (∃ k, k < qz_La.length ∧ q = ad k) ∨ sz ≤ q
def qz_A0 (ad : Nat → Nat) : Nat → Prop := fun q => ∃ k, k < qz_La.length ∧ q = ad k
def qz_T : List Cond := lw_tbl.filter goodWord
def qz_NT : List Cond := qz_NL.map (fun q => Cond.methodLinkNest (qz_on1 q.1) q.2.1 (qz_nm q.2.2.1) "OrphanShelf")
def qz_st (X : qz_X) (ad : Nat → Nat) (A : Nat → Prop) (U : State) (H : Heap) : Prop :=
  (∀ (i : Nat) (q : FieldType × Nat × (Nat → Int32)), qz_SE X i = some q → va_T q.1 (ad i) q.2.1 (fun j => .int (q.2.2 j)) A U H) ∧ va_Z RX6 "LETTERS" "[C" (.ref (ad 1000)) A U H ∧ va_Z RX6 "LIMITS" "[I" (.ref (ad 1001)) A U H ∧ va_Z RX6 "FACTS" "[C" (.ref (ad 1002)) A U H
def qz_pre (X : qz_X) (dC : Nat → ClassId) (dI : Nat → Nat → Nat) (ad : Nat → Nat) (cA : FieldType → ClassId) (g : qz_G) (U : State) : Prop :=
  va_P (dC, dI) qz_cls (qz_ws ad cA g) U.heap ∧ va_K (dC, dI) qz_cls (qz_tys cA) U ∧ (∀ w ∈ qz_NT, va_Nw w U) ∧ va_D (fun _ => True) (qz_ws ad cA g) ∧ qz_st X ad (qz_A0 ad) U U.heap
def qz_room (d : Nat) : Room := { frames := d, cells := 0, slots := 0, locals := 32 * d }
def qz_wd (z : Nat) : List Cond := Cond.code (qz_nm z) (qz_by z) (qz_mx z) (qz_rt z) :: qz_T
def qz_post (X : qz_X) (dC : Nat → ClassId) (dI : Nat → Nat → Nat) (ad : Nat → Nat) (cA : FieldType → ClassId) (sz z : Nat) (Q : qz_Q) : State → Outcome → State → Prop := fun s oc t => ∃ (g' : qz_G) (v : Int32) (l : Int64), Q g' v l ∧ oc = .returned (qz_rv z v l) ∧ qz_pre X dC dI ad cA g' t ∧ va_F (qz_A ad sz) s t
/-- a contract: from any heap that holds g the method z, with these arguments, returns with Q; nothing but its cells has changed, and nothing is made -/
def qz_Call (X : qz_X) (d z : Nat) (av : List Value) (g : qz_G) (Q : qz_Q) : Prop :=
  ∀ (l : Launch) (dC : Nat → ClassId) (dI : Nat → Nat → Nat) (ad : Nat → Nat) (cA : FieldType → ClassId) (sz : Nat), Met l (qz_nm z) (qz_wd z) (qz_room d) (va_Pc (av.map (qz_tr ad)) (fun U => U.heap.size = sz ∧ qz_pre X dC dI ad cA g U)) (fun _ s oc t => qz_post X dC dI ad cA sz z Q s oc t) 0 0 (qz_A ad sz)
/-- the world in the middle of a method that began at s -/
def qz_Wd (dC : Nat → ClassId) (dI : Nat → Nat → Nat) (ad : Nat → Nat) (cA : FieldType → ClassId) (s : State) (g : qz_G) (H : Heap) (locs : List Loc) : Prop :=
  va_P (dC, dI) qz_cls (qz_ws ad cA g) H ∧ va_D (qz_A ad s.heap.size) (qz_ws ad cA g) ∧ va_S (qz_A ad s.heap.size) s.heap H locs
def qz_isret (y : Nat) (i : Instr) (r : Option Value) : Prop := match i, r with
  | .ireturn, some (.int v) => qz_rt y = some .int ∨ (qz_rt y = some .boolean ∧ qz_bit v)
  | .lreturn, some (.long _) => qz_rt y = some .long
  | .return_, none => qz_rt y = none
  | _, _ => False
def qz_C (X : qz_X) (d y : Nat) (Q : qz_Q) (l : Launch) (dC : Nat → ClassId) (dI : Nat → Nat → Nat) (ad : Nat → Nat) (cA : FieldType → ClassId) (p : Program) (e : Env) (R : Room) (s : State) (m : MethodId) (args : Array Value) (below : List Frame) (meth : Method) (c : Code) (cells slots : Nat) (Z : State → Prop) : Prop :=
  p.tables.exec = Jvm.exec ∧ c.code = qz_by y ∧ c.maxLocals = qz_mx y ∧ s.vm.findClass (qz_ow y) = some m.cls ∧ (∀ w ∈ qz_T, w.before args s = true) ∧ va_K (dC, dI) qz_cls (qz_tys cA) s ∧ (∀ w ∈ qz_NT, va_Nw w s) ∧ qz_st X ad (qz_A ad s.heap.size) s s.heap ∧ (d ≤ R.frames ∧ 32 * d ≤ R.locals ∧ cells ≤ R.cells ∧ slots ≤ R.slots) ∧
  ∀ (H : Heap) (locs : List Loc) (ls : Array Slot) (pc : Nat) (g : qz_G) (v : Int32) (l2 : Int64) (i : Instr), decode (qz_by y) pc = .ok (i, 1) → qz_isret y i (qz_rv y v l2) → Q g v l2 → qz_Wd dC dI ad cA s g H locs → W p l e R s m args below meth c H locs cells slots Z (F0 m pc ls (qz_rv y v l2).toList)
def qz_mp (ad : Nat → Nat) (lv : qz_L) : qz_L := lv.map (fun q => (q.1, qz_tr ad q.2))
/-- at this place of method y, with these locals, operands and memory, the method comes to a return with Q -/
def qz_WP (X : qz_X) (d y : Nat) (Q : qz_Q) (pc : Nat) (lv : qz_L) (st : List Value) (g : qz_G) : Prop :=
  ∀ (l : Launch) (dC : Nat → ClassId) (dI : Nat → Nat → Nat) (ad : Nat → Nat) (cA : FieldType → ClassId) (p : Program) (e : Env) (R : Room) (s : State) (m : MethodId) (args : Array Value) (below : List Frame) (meth : Method) (c : Code) (cells slots : Nat) (Z : State → Prop), qz_C X d y Q l dC dI ad cA p e R s m args below meth c cells slots Z →
  ∀ (H : Heap) (locs : List Loc) (ls : Array Slot), qz_Wd dC dI ad cA s g H locs → lv_has ls (qz_mx y) (qz_mp ad lv) → W p l e R s m args below meth c H locs cells slots Z (F0 m pc ls (st.map (qz_tr ad)))
-- ===== facts of the pictures =====
theorem qz_cat_tr (ad : Nat → Nat) (v : Value) : (qz_tr ad v).category = qz_cat v := by cases v <;> rfl
theorem qz_cat_eq (v : Value) : v.category = qz_cat v := by cases v <;> rfl
theorem qz_sum_tr (ad : Nat → Nat) (l : List Value) : ((l.map (qz_tr ad)).map fun v => v.category).sum = qz_sum l := by
  induction l with
  | nil => rfl
  | cons v t ih => simp only [List.map_cons, List.sum_cons, qz_cat_tr, ih, qz_sum]
theorem qz_look_mem {lv : qz_L} {i : Nat} {v : Value} (h : qz_look lv i = some v) : (i, v) ∈ lv := by
  induction lv with
  | nil => cases h
  | cons q t ih =>
    unfold qz_look at h
    cases hq : Nat.beq q.1 i with
    | true =>
      rw [hq] at h
      have e := Nat.eq_of_beq_eq_true hq
      simp only [cond_true, Option.some.injEq] at h
      rw [← e, ← h]
      exact List.mem_cons_self
    | false =>
      rw [hq] at h
      exact List.mem_cons_of_mem _ (ih h)
theorem qz_look_at {lv : qz_L} {i n : Nat} {v : Value} {ad : Nat → Nat} {ls : Array Slot} (hl : lv_has ls n (qz_mp ad lv)) (h : qz_look lv i = some v) : ls[i]? = some (.val (qz_tr ad v)) :=
  hl.2.2 (i, qz_tr ad v) (List.mem_map.mpr ⟨(i, v), qz_look_mem h, rfl⟩)
theorem qz_sub {lv lv' : qz_L} {n : Nat} {ad : Nat → Nat} {ls : Array Slot} (hl : lv_has ls n (qz_mp ad lv)) (h : ∀ q ∈ lv', q ∈ lv) : lv_has ls n (qz_mp ad lv') := by
  refine ⟨hl.1, hl.2.1, fun q hq => ?_⟩
  obtain ⟨w, h1, h2⟩ := List.mem_map.mp hq
  exact hl.2.2 q (List.mem_map.mpr ⟨w, h w h1, h2⟩)
theorem qz_keep_sub (lv : qz_L) : ∀ (ks : List Nat), ∀ q ∈ qz_keep lv ks, q ∈ lv
  | [], q, h => by cases h
  | i :: t, q, h => by
    unfold qz_keep at h
    cases hl : qz_look lv i with
    | none => rw [hl] at h; exact qz_keep_sub lv t q h
    | some v =>
      rw [hl] at h
      rcases List.mem_cons.mp h with h | h
      · rw [h]; exact qz_look_mem hl
      · exact qz_keep_sub lv t q h
theorem qz_ws_at {ad : Nat → Nat} {cA : FieldType → ClassId} {g : qz_G} {o : Nat} {q : qz_kind} (h : qz_La[o]? = some q) : (qz_ws ad cA g)[o]? = some (qz_ent ad cA g o q) := by
  unfold qz_ws
  rw [List.getElem?_mapIdx, h]
  rfl
theorem qz_ws_len (ad : Nat → Nat) (cA : FieldType → ClassId) (g : qz_G) : (qz_ws ad cA g).length = qz_La.length := by unfold qz_ws; rw [List.length_mapIdx]
/-- memory that differs at one cell alone -/
theorem qz_ws_set {ad : Nat → Nat} {cA : FieldType → ClassId} {g g' : qz_G} {o : Nat} {q : qz_kind} (h : qz_La[o]? = some q) (h1 : ∀ a, a ≠ o → g'.1 a = g.1 a) (h2 : ∀ a, a ≠ o → g'.2 a = g.2 a) : (qz_ws ad cA g).set o (qz_ent ad cA g' o q) = qz_ws ad cA g' := by
  apply List.ext_getElem?
  intro k
  have hlo : o < (qz_ws ad cA g).length := by rw [qz_ws_len]; exact (List.getElem?_eq_some_iff.mp h).1
  by_cases hk : k = o
  · subst hk
    rw [List.getElem?_set_self hlo, qz_ws_at h]
  · rw [List.getElem?_set_ne (fun z => hk z.symm)]
    unfold qz_ws
    rw [List.getElem?_mapIdx, List.getElem?_mapIdx]
    cases qz_La[k]? with
    | none => rfl
    | some r =>
      simp only [Option.map_some, Option.some.injEq]
      have e1 := h1 k hk
      have e2 := h2 k hk
      cases r with
      | inl r =>
        simp only [qz_ent, Prod.mk.injEq, true_and, Sum.inr.injEq]
        unfold qz_flds
        apply List.ext_getElem?
        intro j
        rw [List.getElem?_mapIdx, List.getElem?_mapIdx]
        congr 1
        funext f
        unfold qz_fv
        rw [e1, e2]
      | inr r =>
        simp only [qz_ent, Prod.mk.injEq, true_and, Sum.inl.injEq]
        unfold qz_row
        rw [e1, e2]
theorem qz_ui_ne (g : qz_G) (o j : Nat) (v : Int32) : ∀ a, a ≠ o → (qz_ui g o j v).1 a = g.1 a := by
  intro a ha
  funext b
  simp [qz_ui, ha]
theorem qz_uc_ne (g : qz_G) (o : Nat) (f : Nat → Int32) : ∀ a, a ≠ o → (qz_uc g o f).1 a = g.1 a := by
  intro a ha
  funext b
  simp [qz_uc, ha]
theorem qz_ul_ne (g : qz_G) (o j : Nat) (v : Int64) : ∀ a, a ≠ o → (qz_ul g o j v).2 a = g.2 a := by
  intro a ha
  funext b
  simp [qz_ul, ha]
theorem qz_ui_at (g : qz_G) (o j : Nat) (v : Int32) : (qz_ui g o j v).1 o = upd (g.1 o) j v := by
  funext b
  simp [qz_ui, upd]
theorem qz_uc_at (g : qz_G) (o : Nat) (f : Nat → Int32) : (qz_uc g o f).1 o = f := by
  funext b
  simp [qz_uc]
theorem qz_ul_at (g : qz_G) (o j : Nat) (v : Int64) : (qz_ul g o j v).2 o = vp_updL (g.2 o) j v := by
  funext b
  simp [qz_ul, vp_updL]
theorem qz_in_T {w : Cond} (h : w ∈ lw_tbl) (hg : goodWord w = true) : w ∈ qz_T := List.mem_filter.mpr ⟨h, hg⟩
theorem qz_goodT {big : List Cond} (hb : ∀ w ∈ qz_T, w ∈ big) {ws : List Cond} (h : ∀ w ∈ ws, w ∈ qz_T) : GoodIn big ws := fun w hw => ⟨hb w (h w hw), good_of_word (List.mem_filter.mp (h w hw)).2⟩
