/-! constructors: contracts, calls -/
def cz_Pc (dC : Nat → ClassId) (dI : Nat → Nat → Nat) (cA : FieldType → ClassId) (av : List Value) (x : Nat × va_E) (sz : Nat) : Array Value → State → Prop := va_Pc av (fun U => U.heap.size = sz ∧ va_P (dC, dI) qz_cls [x] U.heap ∧ va_K (dC, dI) qz_cls (qz_tys cA) U ∧ va_D (fun _ => True) [x] ∧ ∀ w ∈ qz_NT, va_Nw w U)
def cz_Qc (dC : Nat → ClassId) (dI : Nat → Nat → Nat) (cA : FieldType → ClassId) (wk : (Nat → Nat) → va_W) (A : Nat → Prop) : Array Value → State → Outcome → State → Prop := va_Qv (fun _ : Nat → Nat => True) (fun u t => va_P (dC, dI) qz_cls (wk u) t.heap ∧ va_K (dC, dI) qz_cls (qz_tys cA) t ∧ va_D A (wk u)) A
def cz_Met (l : Launch) (y : MethodName) (b : ByteArray) (n : Nat) (rm : Room) (dC : Nat → ClassId) (dI : Nat → Nat → Nat) (cA : FieldType → ClassId) (av : List Value) (x : Nat × va_E) (sz : Nat) (wk : (Nat → Nat) → va_W) : Prop := Met l y (cz_wd y b n) rm (cz_Pc dC dI cA av x sz) (cz_Qc dC dI cA wk (va_A [x] sz)) rm.cells rm.slots (va_A [x] sz)
theorem cz_blind (dC : Nat → ClassId) (dI : Nat → Nat → Nat) (cA : FieldType → ClassId) (av : List Value) (x : Nat × va_E) (sz : Nat) : FrameBlind (cz_Pc dC dI cA av x sz) := by
  intro a U fr mk hq
  obtain ⟨q0, q1, qP, qK, qD, qN⟩ := hq
  refine ⟨q0, q1, qP, va_K.moved (u := U) (U := U.calling fr mk a) (Vm.Alike.refl U.vm) qK, qD, fun w hw => ?_⟩
  obtain ⟨x1, x2, x3, rfl⟩ := qz_NT_mem hw
  exact va_Nw.same rfl (rfl : U.vm = (U.calling fr mk a).vm) (qN _ hw)
theorem cz_goodwd {y : MethodName} {b : ByteArray} {n : Nat} (h : Cond.code y b n none ∈ lw_tbl) : GoodIn qz_T (cz_wd y b n) := by
  refine qz_goodT (fun _ h => h) (fun w hw => ?_)
  rcases List.mem_cons.mp hw with e | e
  · rw [e]
    exact qz_in_T h rfl
  · exact e
/-- the start of a constructor, behind the call of Object's -/
theorem cz_enter {l : Launch} {y : MethodName} {b : ByteArray} {n : Nat} {rm : Room} {dC : Nat → ClassId} {dI : Nat → Nat → Nat} {cA : FieldType → ClassId} {av : List Value} {h0 ci : Nat} {fs : List Value} {sz : Nat} {wk : (Nat → Nat) → va_W} {C : String} {T : u_T} {N i0 : Nat} (hy : plainName y.cls = true) (hyc : y.cls = C) (hyn : y.name = "<init>") (hc : qz_cls[ci]? = some (C, T, N)) (hw : (lg_sl (.ref h0 :: av)).length ≤ n) (d0 : decode b 0 = .ok (.aload_n 0, 1)) (d1 : decode b 1 = .ok (.invokespecial i0, 3)) (lk : Cond.methodLink C i0 objectInit ∈ lw_tbl) (oi1 : Cond.instanceMethod objectInit ∈ lw_tbl) (oi2 : Cond.code objectInit ⟨#[0xb1]⟩ 1 none ∈ lw_tbl) (hfr : 1 ≤ rm.frames) (hlo : 12 ≤ rm.locals)
    (body : ∀ (p : Program) (e : Env) (s : State) (m : MethodId) (args : Array Value) (below : List Frame) (meth : Method) (c : Code) (ls : Array Slot) (Z : State → Prop), cz_F p s m args meth c b dC dI cA (va_A [(h0, .inr (ci, fs))] s.heap.size) C T N ci → (∀ w ∈ qz_NT, va_Nw w s) → c.maxLocals = n → lv_has ls n (lv_args 0 (.ref h0 :: av)) → va_P (dC, dI) qz_cls [(h0, .inr (ci, fs))] s.heap → va_D (va_A [(h0, .inr (ci, fs))] s.heap.size) [(h0, .inr (ci, fs))] → va_S (va_A [(h0, .inr (ci, fs))] s.heap.size) s.heap s.heap [] →
      (∀ (H : Heap) (locs : List Loc) (pc : Nat) (ls2 : Array Slot) (cells slots : Nat) (u : Nat → Nat), cells ≤ rm.cells → slots ≤ rm.slots → decode b pc = .ok (.return_, 1) → va_P (dC, dI) qz_cls (wk u) H → va_D (va_A [(h0, .inr (ci, fs))] s.heap.size) (wk u) → va_S (va_A [(h0, .inr (ci, fs))] s.heap.size) s.heap H locs → W p l e rm s m args below meth c H locs cells slots Z (F0 m pc ls2 [])) →
      W p l e rm s m args below meth c s.heap [] 0 0 Z (F0 m 4 ls [])) : cz_Met l y b n rm dC dI cA (.ref h0 :: av) (h0, .inr (ci, fs)) sz wk := by
  refine Met.ofW (cc := b) (maxL := n) (ret := none) hy rfl ?_
  intro p e s m args below meth c s₁ B hml hv
  obtain ⟨rfl, hsz, hP, hK, hD0, hN⟩ := hv
  have hx := B.exec
  have hb := B.bytes
  have hr := B.returns
  have hts0 := atoms_spec (ws := cz_wd y b n) B.pre
  have hts : ∀ w ∈ qz_T, w.before _ s = true := fun w hw => hts0 w (List.mem_cons_of_mem _ hw)
  have hown : s.vm.findClass C = some m.cls := by rw [← hyc]; exact findClass_of_methodNamed B.named
  have hlocks := B.notSynchronized
  have hin : meth.name = "<init>" := by rw [← hyn]; exact (name_of_methodNamed B.named B.method).1
  subst hsz
  have hl := lv_entry (.ref h0 :: av) (n := n) hw
  rw [lg_entry_eq]
  generalize (lg_sl (.ref h0 :: av) ++ List.replicate (n - (lg_sl (.ref h0 :: av)).length) Slot.unset).toArray = ls at hl ⊢
  refine lv_aload_n hx hb d0 rfl (lv_at hl 0 rfl) ?_
  refine W.objInit hx hb hown (hts _ (qz_in_T lk rfl)) (hts _ (qz_in_T oi1 rfl)) (hts _ (qz_in_T oi2 rfl)) rfl (by rw [hml]; exact hl.1) rfl d1 hfr hlo ?_
  refine W.eq (g2 := F0 m 4 ls []) rfl ?_
  refine body p e s m _ below meth c ls _ ⟨hx, hb, hts, hown, hin, hK, fun q h => Or.inr h, hc⟩ hN hml hl hP hD0.self va_S.rf (fun H locs pc ls2 cells slots u h1 h2 hdg hP9 hD9 hS9 => ?_)
  refine W.widen (k := rm.cells) (n := rm.slots) h1 h2 ?_
  exact W.vret hx hb hr (fun t ht hW => ⟨⟨u, rfl, trivial, by rw [ht]; exact hP9, va_K.moved hW.alike hK, hD9⟩, hS9.F ht⟩) hS9.2.2 hdg
/-- a call of a constructor over the world's last cell -/
theorem cz_call {p : Program} {l : Launch} {e : Env} {R : Room} {s : State} {m : MethodId} {args : Array Value} {below : List Frame} {meth : Method} {c : Code} {Q : State → Prop} {cc : ByteArray} {ls : Array Slot} {dC : Nat → ClassId} {dI : Nat → Nat → Nat} {cA : FieldType → ClassId} {A : Nat → Prop} {own : String} {H : Heap} {locs : List Loc} {cells slots pc nL index n : Nat} {rest As : List Value} {wr : va_W} {q : Nat} {x : va_E} {y : MethodName} {b : ByteArray} {n' : Nat} {rm : Room} {wk : (Nat → Nat) → va_W}
    (hx : p.tables.exec = Jvm.exec) (hb : c.code = cc) (hml : c.maxLocals = nL) (hown : s.vm.findClass own = some m.cls) (hts : ∀ w ∈ qz_T, w.before args s = true) (hK : va_K (dC, dI) qz_cls (qz_tys cA) s) (hN : ∀ w ∈ qz_NT, va_Nw w s) (hA : ∀ q, s.heap.size ≤ q → A q) (hls : ls.size = nL)
    (hM : cz_Met l y b n' rm dC dI cA (.ref q :: As) (q, x) H.size wk) (hcode : Cond.code y b n' none ∈ lw_tbl) (hini : Cond.initialized y.cls ∈ lw_tbl) (hinst : Cond.instanceMethod y ∈ lw_tbl) (hlk : Cond.methodLink own index y ∈ lw_tbl ∨ Cond.methodLinkNest own index y "OrphanShelf" ∈ qz_NT) (hyn : y.name = "<init>") (hd : y.cls ≠ "java/lang/invoke/MethodHandle" ∧ y.cls ≠ "java/lang/invoke/VarHandle" ∧ (parseMethodDescriptor y.desc).map (fun d => d.parameters.length) = some n) (hn : As.length = n) (hR : rm.frames + 1 ≤ R.frames ∧ 8 + (n' + 11) + rm.locals ≤ R.locals) (hcs : cells + rm.cells ≤ R.cells ∧ slots + rm.slots ≤ R.slots) (hsum : (rest.map fun v => v.category).sum ≤ 8)
    (hdg : decode cc pc = .ok (.invokespecial index, 3)) (hP : va_P (dC, dI) qz_cls (wr ++ [(q, x)]) H) (hD : va_D A (wr ++ [(q, x)])) (hS : va_S A s.heap H locs)
    (kk : ∀ (u : Nat → Nat) (H1 : Heap) (locs1 : List Loc), va_P (dC, dI) qz_cls (wr ++ wk u) H1 → va_D A (wr ++ wk u) → va_S A s.heap H1 locs1 → W p l e R s m args below meth c H1 locs1 (cells + rm.cells) (slots + rm.slots) Q (F0 m (pc + 3) ls rest)) : W p l e R s m args below meth c H locs cells slots Q (F0 m pc ls (As.reverse ++ .ref q :: rest)) := by
  have hFc := cz_lastF hD hS hA
  have hp : PreS s H (cz_Pc dC dI cA (.ref q :: As) (q, x) H.size) (.ref q :: As) := by
    refine ⟨cz_blind _ _ _ _ _ _, fun U hU hW => ⟨rfl, by rw [hU], by rw [hU]; exact cz_last hP, va_K.moved hW.alike hK, (cz_lastD hD).weaken (fun _ _ _ _ => trivial), fun w hw => ?_⟩⟩
    obtain ⟨x1, x2, x3, rfl⟩ := qz_NT_mem hw
    exact va_Nw.warmM hW (hN _ hw)
  have hrun : va_Run p l e R s m args below meth c H locs cells slots rm.cells rm.slots (F0 m pc ls (As.reverse ++ .ref q :: rest)) rest (cz_Qc dC dI cA wk (va_A [(q, x)] H.size) (Value.ref q :: As).toArray) (va_A [(q, x)] H.size) := by
    rcases hlk with hlk | hlk
    · exact va_runI (p := p) (l := l) (e := e) (R := R) (below := below) (meth := meth) (locs := locs) (cells := cells) (slots := slots) (As := As) (rest := rest) (g := F0 m pc ls (As.reverse ++ .ref q :: rest)) ⟨hx, hb, hml, hown, hts⟩ hM (cwI n hts (cz_goodwd hcode) rfl rfl rfl (hts _ (qz_in_T hini rfl)) (hts _ (qz_in_T hlk rfl)) (hts _ (qz_in_T hinst rfl)) hyn hd hR) hp rfl hn hls rfl (lv_room hsum) hdg hcs
    · exact va_runIN (p := p) (l := l) (e := e) (R := R) (below := below) (meth := meth) (locs := locs) (cells := cells) (slots := slots) (As := As) (rest := rest) (g := F0 m pc ls (As.reverse ++ .ref q :: rest)) ⟨hx, hb, hml, hown, hts⟩ hM ⟨va_cnB n hts (cz_goodwd hcode) rfl rfl rfl (hN _ hlk) (hts _ (qz_in_T hini rfl)) hd hR, hyn, hts _ (qz_in_T hinst rfl)⟩ hp rfl hn hls rfl (lv_room hsum) hdg hcs
  refine va_callv hrun hS (fun q _ h => hFc q h) hFc (fun u t H1 locs1 ht hvm hw hB hz1 hk1 hS1 => ?_)
  obtain ⟨hP1, hK1, hD1⟩ := hB
  rw [ht] at hP1
  obtain ⟨hP2, hD2⟩ := cz_join hP hD hk1 hFc hP1 hD1
  exact kk u H1 locs1 hP2 hD2 hS1
def cz_df (N : Nat) (ty : Nat → FieldType) : List Value := (List.range N).map (fun j => defaultValue (ty j))
theorem cz_df_at {N j : Nat} {ty : Nat → FieldType} (h : j < N) : defaultValue (ty j) = vp_V (cz_df N ty) j := by
  unfold vp_V cz_df
  simp [h]
theorem cz_df_len (N : Nat) (ty : Nat → FieldType) : (cz_df N ty).length = N := by
  unfold cz_df
  rw [List.length_map, List.length_range]
/-- a new object -/
theorem cz_new {p : Program} {l : Launch} {e : Env} {R : Room} {s : State} {m : MethodId} {args : Array Value} {below : List Frame} {meth : Method} {c : Code} {Q : State → Prop} {cc : ByteArray} {ls : Array Slot} {dC : Nat → ClassId} {dI : Nat → Nat → Nat} {cA : FieldType → ClassId} {A : Nat → Prop} {own : String} {H : Heap} {locs : List Loc} {cells slots pc index : Nat} {rest : List Value} {wr : va_W} {C : String} {T : u_T} {N ci : Nat} {ty : Nat → FieldType}
    (hx : p.tables.exec = Jvm.exec) (hb : c.code = cc) (hown : s.vm.findClass own = some m.cls) (hts : ∀ w ∈ qz_T, w.before args s = true) (hK : va_K (dC, dI) qz_cls (qz_tys cA) s) (hA : ∀ q, s.heap.size ≤ q → A q) (hc : qz_cls[ci]? = some (C, T, N)) (hty : ∀ k, k < N → parseFieldDescriptor (T k).2.2.1 = some (ty k)) (w1 : Cond.classLink own index C ∈ lw_tbl) (w2 : Cond.instantiable C N ∈ lw_tbl) (w3 : Cond.initialized C ∈ lw_tbl) (hcs : cells + 1 ≤ R.cells ∧ slots + N ≤ R.slots) (hdg : decode cc pc = .ok (.new index, 3)) (hP : va_P (dC, dI) qz_cls wr H) (hD : va_D A wr) (hS : va_S A s.heap H locs)
    (kk : ∀ (q : Nat) (H1 : Heap), va_P (dC, dI) qz_cls (wr ++ [(q, .inr (ci, cz_df N ty))]) H1 → va_D A (wr ++ [(q, .inr (ci, cz_df N ty))]) → va_S A s.heap H1 locs → W p l e R s m args below meth c H1 locs (cells + 1) (slots + N) Q (F0 m (pc + 3) ls (.ref q :: rest))) : W p l e R s m args below meth c H locs cells slots Q (F0 m pc ls rest) := by
  obtain ⟨hw, -⟩ := qz_cls_ok _ (List.mem_of_getElem? hc)
  exact va_new (ci := ci) (fs := cz_df N ty) (C := C) (T := T) (N := N) hx hb hts hw ty hty hown (hts _ (qz_in_T w1 rfl)) (hts _ (qz_in_T w2 rfl)) (hts _ (qz_in_T w3 rfl)) hK hP hD hS hA hc (fun j hj => cz_df_at hj) hcs.1 hcs.2 hdg kk
/-- a field of the object under way is read -/
theorem cz_get {p : Program} {l : Launch} {e : Env} {R : Room} {s : State} {m : MethodId} {args : Array Value} {below : List Frame} {meth : Method} {c : Code} {Q : State → Prop} {cc : ByteArray} {ls : Array Slot} {dC : Nat → ClassId} {dI : Nat → Nat → Nat} {cA : FieldType → ClassId} {A : Nat → Prop} {C : String} {T : u_T} {N ci h0 : Nat} {H : Heap} {locs : List Loc} {cells slots pc : Nat} {rest : List Value} {fs : List Value} {rs : va_W} (F : cz_F p s m args meth c cc dC dI cA A C T N ci) (hP : va_P (dC, dI) qz_cls ((h0, .inr (ci, fs)) :: rs) H) (k index : Nat) {v : Value} (hk : k < N) (hlink : Cond.fieldLink C index C (T k).2.1 (T k).2.2.1 ∈ lw_tbl) (hdecl : (T k).1 = C) (hv : fs[k]? = some v) (hdg : decode cc pc = .ok (.getfield index, 3))
    (kk : W p l e R s m args below meth c H locs cells slots Q (F0 m (pc + 3) ls (v :: rest))) : W p l e R s m args below meth c H locs cells slots Q (F0 m pc ls (.ref h0 :: rest)) := by
  obtain ⟨hx, hb, hts, hown, hin, hK, hA, hc⟩ := F
  obtain ⟨hw, -⟩ := qz_cls_ok _ (List.mem_of_getElem? hc)
  exact va_get (D := (dC, dI)) (ci := ci) (C := C) (T := T) (N := N) hx hb hts hw hown hK hP 0 rfl hc k hk (hts _ (qz_in_T hlink rfl)) (fun x hx9 => by rw [hdecl] at hx9; exact hx9) hv hdg kk
theorem cz_arrV {c : ClassId} {n : Nat} {f f' : Nat → Value} (h : ∀ j, j < n → f j = f' j) : arrV c n f = arrV c n f' := by
  unfold arrV
  congr 1
  apply Array.ext
  · simp
  · intro i h1 h2
    simp at h1
    simp [h i h1]
theorem cz_arrP {dC : Nat → ClassId} {dI : Nat → Nat → Nat} {c : ClassId} {q n : Nat} {f f' : Nat → Int32} {H : Heap} (hP : va_P (dC, dI) qz_cls [(q, .inl (c, n, .inl f))] H) (h : ∀ j, j < n → f j = f' j) : va_P (dC, dI) qz_cls [(q, .inl (c, n, .inl f'))] H := by
  intro k x hx
  have hk : k < 1 := (List.getElem?_eq_some_iff.mp hx).1
  rw [show k = 0 by omega] at hx
  cases hx
  have h1 : H[q]? = some (vp_cell c (n, .inl f)) := hP 0 _ rfl
  show H[q]? = some (vp_cell c (n, .inl f'))
  rw [h1]
  show some (arrV c n (fun j => .int (f j))) = some (arrV c n (fun j => .int (f' j)))
  rw [cz_arrV (fun j hj => by rw [h j hj])]
