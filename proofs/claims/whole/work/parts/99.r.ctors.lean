/-! constructors: what they have in common -/
theorem cz_d {b : ByteArray} {L : List (Nat × Instr × Nat)} (h : L.all (fun q => decide (decode b q.1 = .ok (q.2.1, q.2.2))) = true) (i : Nat) {pc : Nat} {ins : Instr} {len : Nat} (hq : L[i]? = some (pc, ins, len)) : decode b pc = .ok (ins, len) := by
  have h1 := List.all_eq_true.mp h _ (List.mem_of_getElem? hq)
  simp only [decide_eq_true_eq] at h1
  exact h1
def cz_wd (y : MethodName) (b : ByteArray) (n : Nat) : List Cond := Cond.code y b n none :: qz_T
def cz_row (ty : FieldType) : (Nat → Int32) ⊕ (Nat → Int64) ⊕ (Nat → UInt32) ⊕ (Nat → UInt64) ⊕ (Nat → Option Nat) := match ty with
  | .long => .inr (.inl (fun _ => 0))
  | _ => .inl (fun _ => 0)
def cz_at (a : ArrayType) : Bool := match a with
  | .int => true
  | .boolean => true
  | .byte => true
  | .long => true
  | _ => false
/-- length of the push, how many, of what, the field's link, its slot, the link's place -/
abbrev cz_St : Type := Nat × Nat × ArrayType × Nat × Nat × Nat
def cz_ok (b : ByteArray) (C : String) (T : u_T) (N : Nat) : Nat → List cz_St → Bool
  | _, [] => true
  | pc, t :: r => decide (decode b pc = .ok (.aload_n 0, 1)) && ((Nat.beq t.1 2 && decide (decode b (pc + 1) = .ok (.bipush t.2.1, 2)) && decide ((Int8.ofInt t.2.1).toInt32 = nI t.2.1)) || (Nat.beq t.1 3 && decide (decode b (pc + 1) = .ok (.sipush t.2.1, 3)) && decide ((Int16.ofInt t.2.1).toInt32 = nI t.2.1))) && Nat.blt t.2.1 32768 && cz_at t.2.2.1 && decide (decode b (pc + 1 + t.1) = .ok (.newarray t.2.2.1, 2)) && decide (decode b (pc + 1 + t.1 + 2) = .ok (.putfield t.2.2.2.1, 3)) && Nat.blt t.2.2.2.2.1 N && decide (lw_tbl[t.2.2.2.2.2]? = some (Cond.fieldLink C t.2.2.2.1 C (T t.2.2.2.2.1).2.1 (T t.2.2.2.2.1).2.2.1)) && decide ((T t.2.2.2.2.1).1 = C) && (T t.2.2.2.2.1).2.2.2 && decide (parseFieldDescriptor (T t.2.2.2.2.1).2.2.1 = some (.array (newarray.typeOf t.2.2.1))) && cz_ok b C T N (pc + 1 + t.1 + 2 + 3) r
def cz_end : Nat → List cz_St → Nat
  | pc, [] => pc
  | pc, t :: r => cz_end (pc + 1 + t.1 + 2 + 3) r
def cz_sum : List cz_St → Nat
  | [] => 0
  | t :: r => t.2.1 + cz_sum r
def cz_fs (fs : List Value) : List cz_St → List Nat → List Value
  | t :: r, q :: qs => cz_fs (fs.set t.2.2.2.2.1 (.ref q)) r qs
  | _, _ => fs
def cz_as (cA : FieldType → ClassId) : List cz_St → List Nat → va_W
  | t :: r, q :: qs => (q, .inl (cA (newarray.typeOf t.2.2.1), t.2.1, cz_row (newarray.typeOf t.2.2.1))) :: cz_as cA r qs
  | _, _ => []
theorem cz_fun {n : Nat} {qs : List Nat} (h : qs.length = n) : ∃ u : Nat → Nat, qs = (List.range n).map u := by
  refine ⟨fun i => qs.getD i 0, ?_⟩
  apply List.ext_getElem
  · rw [List.length_map, List.length_range]; exact h
  · intro i h1 h2
    rw [List.getElem_map, List.getElem_range]
    simp [h1]
def cz_F (p : Program) (s : State) (m : MethodId) (args : Array Value) (meth : Method) (c : Code) (cc : ByteArray) (dC : Nat → ClassId) (dI : Nat → Nat → Nat) (cA : FieldType → ClassId) (A : Nat → Prop) (C : String) (T : u_T) (N ci : Nat) : Prop :=
  p.tables.exec = Jvm.exec ∧ c.code = cc ∧ (∀ w ∈ qz_T, w.before args s = true) ∧ s.vm.findClass C = some m.cls ∧ meth.name = "<init>" ∧ va_K (dC, dI) qz_cls (qz_tys cA) s ∧ (∀ q, s.heap.size ≤ q → A q) ∧ qz_cls[ci]? = some (C, T, N)
theorem cz_aw : ∀ a : ArrayType, cz_at a = true → Cond.arrayClass (newarray.typeOf a) ∈ qz_T := by
  have h : ∀ ty ∈ ([.int, .boolean, .byte, .long] : List FieldType), Cond.arrayClass ty ∈ lw_tbl := by decide +kernel
  intro a ha
  refine qz_in_T (h _ ?_) rfl
  cases a <;> first | exact absurd ha (by decide) | decide
section CZ
variable {p : Program} {l : Launch} {e : Env} {R : Room} {s : State} {m : MethodId} {args : Array Value} {below : List Frame} {meth : Method} {c : Code} {Q : State → Prop} {cc : ByteArray} {ls : Array Slot} {dC : Nat → ClassId} {dI : Nat → Nat → Nat} {cA : FieldType → ClassId} {A : Nat → Prop} {C : String} {T : u_T} {N ci h0 : Nat}
theorem cz_cA {c' : ClassId} {a : ArrayType} (hK : va_K (dC, dI) qz_cls (qz_tys cA) s) (hK1 : va_K (dC, dI) qz_cls (qz_tys cA ++ [(c', newarray.typeOf a)]) s) (ha : cz_at a = true) : c' = cA (newarray.typeOf a) := by
  have h1 := (hK1.2 4 _ rfl).2
  cases a with
  | int => exact Option.some.inj (h1.symm.trans (hK.2 0 _ rfl).2)
  | boolean => exact Option.some.inj (h1.symm.trans (hK.2 1 _ rfl).2)
  | byte => exact Option.some.inj (h1.symm.trans (hK.2 2 _ rfl).2)
  | long => exact Option.some.inj (h1.symm.trans (hK.2 3 _ rfl).2)
  | char => cases ha
  | float => cases ha
  | double => cases ha
  | short => cases ha
theorem cz_put {H : Heap} {locs : List Loc} {cells slots pc : Nat} {rest : List Value} {fs : List Value} {rs : va_W} (F : cz_F p s m args meth c cc dC dI cA A C T N ci) (hP : va_P (dC, dI) qz_cls ((h0, .inr (ci, fs)) :: rs) H) (hD : va_D A ((h0, .inr (ci, fs)) :: rs)) (hS : va_S A s.heap H locs) (k index : Nat) {v : Nat} (hk : k < N) (hlink : Cond.fieldLink C index C (T k).2.1 (T k).2.2.1 ∈ lw_tbl) (hdecl : (T k).1 = C) (hfin : (T k).2.2.2 = true) {ty : FieldType} (hd : parseFieldDescriptor (T k).2.2.1 = some ty) (hn : narrow ty (.ref v) = .ref v) (hfit : fits ty (.ref v) = true) (hl : k < fs.length) (hdg : decode cc pc = .ok (.putfield index, 3))
    (kk : ∀ (H1 : Heap) (locs1 : List Loc), va_P (dC, dI) qz_cls ((h0, .inr (ci, fs.set k (.ref v))) :: rs) H1 → va_D A ((h0, .inr (ci, fs.set k (.ref v))) :: rs) → va_S A s.heap H1 locs1 → W p l e R s m args below meth c H1 locs1 cells slots Q (F0 m (pc + 3) ls rest)) : W p l e R s m args below meth c H locs cells slots Q (F0 m pc ls (.ref v :: .ref h0 :: rest)) := by
  obtain ⟨hx, hb, hts, hown, hin, hK, hA, hc⟩ := F
  obtain ⟨hw, t0, ht0, hnm⟩ := qz_cls_ok _ (List.mem_of_getElem? hc)
  exact va_putF (D := (dC, dI)) (ci := ci) (v := .ref v) (ty := ty) (C := C) (T := T) (N := N) hx hb hts hw t0 ht0 hnm hown hK hP hD hS 0 rfl hc k hk (hts _ (qz_in_T hlink rfl)) (fun x hx9 => by rw [hdecl] at hx9; exact hx9) hfin hin hdecl hd hn hfit hl hdg (fun H1 locs1 hP1 hD1 hS1 => kk H1 locs1 hP1 hD1 hS1)
theorem cz_rowok (a : ArrayType) (ha : cz_at a = true) (n : Nat) (c' : ClassId) : vp_cell c' (n, cz_row (newarray.typeOf a)) = arrV c' n (fun _ => defaultValue (newarray.typeOf a)) := by
  cases a <;> first | rfl | cases ha
theorem cz_bytes (a : ArrayType) {n : Nat} (h : n < 32768) : n * componentBytes (newarray.typeOf a) ≤ 536870912 := by
  have h8 : componentBytes (newarray.typeOf a) ≤ 8 := by cases a <;> decide
  have := Nat.mul_le_mul (Nat.le_of_lt h) h8
  omega
/-- a row of fields that are new arrays -/
theorem cz_steps (F : cz_F p s m args meth c cc dC dI cA A C T N ci) (h0l : ls[0]? = some (.val (.ref h0))) : ∀ (L : List cz_St) (pc : Nat) (fs : List Value) (rs : va_W) (H : Heap) (locs : List Loc) (cells slots : Nat), cz_ok cc C T N pc L = true → fs.length = N → va_P (dC, dI) qz_cls ((h0, .inr (ci, fs)) :: rs) H → va_D A ((h0, .inr (ci, fs)) :: rs) → va_S A s.heap H locs → cells + L.length ≤ R.cells → slots + cz_sum L ≤ R.slots →
    (∀ (qs : List Nat) (H1 : Heap) (locs1 : List Loc), qs.length = L.length → va_P (dC, dI) qz_cls ((h0, .inr (ci, cz_fs fs L qs)) :: (rs ++ cz_as cA L qs)) H1 → va_D A ((h0, .inr (ci, cz_fs fs L qs)) :: (rs ++ cz_as cA L qs)) → va_S A s.heap H1 locs1 → W p l e R s m args below meth c H1 locs1 (cells + L.length) (slots + cz_sum L) Q (F0 m (cz_end pc L) ls [])) →
    W p l e R s m args below meth c H locs cells slots Q (F0 m pc ls [])
  | [], pc, fs, rs, H, locs, cells, slots, _, _, hP, hD, hS, _, _, kk => kk [] H locs rfl (by rw [show cz_as cA [] [] = [] from rfl, List.append_nil]; exact hP) (by rw [show cz_as cA [] [] = [] from rfl, List.append_nil]; exact hD) hS
  | t :: r, pc, fs, rs, H, locs, cells, slots, hok, hfl, hP, hD, hS, hcells, hslots, kk => by
    unfold cz_ok at hok
    simp only [Bool.and_eq_true, Bool.or_eq_true, decide_eq_true_eq] at hok
    obtain ⟨⟨⟨⟨⟨⟨⟨⟨⟨⟨⟨d0, d1⟩, hn⟩, hat⟩, d2⟩, d3⟩, hk⟩, hlk⟩, hdecl⟩, hfin⟩, hpd⟩, hrest⟩ := hok
    have hn := Nat.le_of_ble_eq_true hn
    have hk := Nat.le_of_ble_eq_true hk
    obtain ⟨hx, hb, hts, hown, hin, hK, hA, hc⟩ := id F
    rw [List.length_cons] at hcells
    have hslots : slots + (t.2.1 + cz_sum r) ≤ R.slots := hslots
    refine lv_aload_n hx hb d0 rfl h0l ?_
    have go : W p l e R s m args below meth c H locs cells slots Q (F0 m (pc + 1 + t.1) ls [.int (nI t.2.1), .ref h0]) := by
      refine va_newa hx hb (hts _ (cz_aw _ hat)) rfl hK hP hD hS hA (a0 := (t.2.1, cz_row (newarray.typeOf t.2.2.1))) (fun c' => cz_rowok _ hat _ _) (by rw [qz_lt, nI_toInt (by omega), qz_n0]; omega) (nI_clamp (by omega)) (cz_bytes _ (by omega)) (by omega) (by omega) d2 (fun q c' H1 hK1 hP1 hD1 hS1 => ?_)
      have ec := cz_cA hK hK1 hat
      subst ec
      have hP1 : va_P (dC, dI) qz_cls ((h0, .inr (ci, fs)) :: (rs ++ [(q, .inl (cA (newarray.typeOf t.2.2.1), t.2.1, cz_row (newarray.typeOf t.2.2.1)))])) H1 := hP1
      have hD1 : va_D A ((h0, .inr (ci, fs)) :: (rs ++ [(q, .inl (cA (newarray.typeOf t.2.2.1), t.2.1, cz_row (newarray.typeOf t.2.2.1)))])) := hD1
      refine cz_put (fs := fs) (rs := rs ++ [(q, .inl (cA (newarray.typeOf t.2.2.1), t.2.1, cz_row (newarray.typeOf t.2.2.1)))]) F hP1 hD1 hS1 t.2.2.2.2.1 t.2.2.2.1 hk (List.mem_of_getElem? hlk) hdecl hfin hpd rfl rfl (by omega) d3 (fun H2 locs2 hP2 hD2 hS2 => ?_)
      refine cz_steps F h0l r (pc + 1 + t.1 + 2 + 3) (fs.set t.2.2.2.2.1 (.ref q)) (rs ++ [(q, .inl (cA (newarray.typeOf t.2.2.1), t.2.1, cz_row (newarray.typeOf t.2.2.1)))]) H2 locs2 (cells + 1) (slots + t.2.1) hrest (by rw [List.length_set]; exact hfl) hP2 hD2 hS2 (by omega) (by omega) (fun qs H3 locs3 hl3 hP3 hD3 hS3 => ?_)
      have k3 := kk (q :: qs) H3 locs3 (by rw [List.length_cons, List.length_cons, hl3]) (by rw [List.append_assoc] at hP3; exact hP3) (by rw [List.append_assoc] at hD3; exact hD3) hS3
      have e1 : cells + (t :: r).length = cells + 1 + r.length := by rw [List.length_cons]; omega
      have e2 : slots + cz_sum (t :: r) = slots + t.2.1 + cz_sum r := by show slots + (t.2.1 + cz_sum r) = _; omega
      rw [e1, e2] at k3
      exact k3
    rcases d1 with ⟨⟨e1, d1⟩, hv⟩ | ⟨⟨e1, d1⟩, hv⟩
    · refine lv_bipush hx hb d1 hv ?_
      rw [Nat.eq_of_beq_eq_true e1] at go
      exact go
    · refine lv_sipush hx hb d1 hv ?_
      rw [Nat.eq_of_beq_eq_true e1] at go
      exact go
end CZ
theorem cz_range_nd : ∀ n : Nat, va_nd (List.range n) = true := by
  intro n
  have h : ∀ l : List Nat, l.Nodup → va_nd l = true := by
    intro l
    induction l with
    | nil => intro _; rfl
    | cons a t ih =>
      intro hnd
      obtain ⟨h1, h2⟩ := List.nodup_cons.mp hnd
      show (decide (a ∉ t) && va_nd t) = true
      rw [ih h2, Bool.and_true]
      exact decide_eq_true h1
  exact h _ List.nodup_range
/-- behind a call that had one cell of the world, the last -/
theorem cz_join {A0 : Nat → Prop} {D : va_G} {cl : List vw_C} {wr w1 : va_W} {x : Nat × va_E} {H H1 : Heap} (hP : va_P D cl (wr ++ [x]) H) (hD : va_D A0 (wr ++ [x])) (hk : ∀ q : Nat, q < H.size → ¬ va_A [x] H.size q → H1[q]? = H[q]?) (hF : ∀ q, va_A [x] H.size q → A0 q) (hP1 : va_P D cl w1 H1) (hD1 : va_D (va_A [x] H.size) w1) : va_P D cl (wr ++ w1) H1 ∧ va_D A0 (wr ++ w1) := by
  refine va_join hP hD [wr.length] (List.range wr.length) ?_ ?_ (cz_range_nd _) (fun i hi => ?_) hk hF hP1 hD1
  · simp
  · apply List.ext_getElem?
    intro i
    rw [List.getElem?_map, List.getElem?_map]
    by_cases c : i < wr.length
    · rw [List.getElem?_eq_getElem (by rw [List.length_range]; exact c), List.getElem_range, List.getElem?_eq_getElem c]
      simp only [Option.map_some]
      rw [List.getElem?_append_left c, List.getElem?_eq_getElem c]
    · rw [List.getElem?_eq_none (by rw [List.length_range]; omega), List.getElem?_eq_none (by omega)]
      rfl
  · rw [List.mem_range] at hi
    simp only [List.mem_singleton]
    omega
theorem cz_last {D : va_G} {cl : List vw_C} {wr : va_W} {x : Nat × va_E} {H : Heap} (hP : va_P D cl (wr ++ [x]) H) : va_P D cl [x] H := hP.sub [wr.length] (by simp)
theorem cz_lastD {A0 : Nat → Prop} {wr : va_W} {x : Nat × va_E} (hD : va_D A0 (wr ++ [x])) : va_D A0 [x] := hD.sub [wr.length] (by simp [va_nd]) (by simp)
theorem cz_lastF {A0 : Nat → Prop} {wr : va_W} {x : Nat × va_E} {H0 H : Heap} {locs : List Loc} (hD : va_D A0 (wr ++ [x])) (hS : va_S A0 H0 H locs) (hA : ∀ q, H0.size ≤ q → A0 q) : ∀ q, va_A [x] H.size q → A0 q := va_free hD hS hA [wr.length] (by simp)
