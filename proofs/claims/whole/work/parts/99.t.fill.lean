/-! constructors: words of the tables; Arrays.fill -/
theorem cz_w {L : List (Nat × Cond)} (h : L.all (fun t => decide (lw_tbl[t.1]? = some t.2)) = true) (i : Nat) {p : Nat} {w : Cond} (hq : L[i]? = some (p, w)) : w ∈ lw_tbl := by
  have h1 := List.all_eq_true.mp h _ (List.mem_of_getElem? hq)
  simp only [decide_eq_true_eq] at h1
  exact List.mem_of_getElem? h1
theorem cz_oi1 : Cond.instanceMethod objectInit ∈ lw_tbl := List.mem_of_getElem? (i := 123) (by decide +kernel)
set_option maxRecDepth 20000 in
theorem cz_oi2 : Cond.code objectInit ⟨#[0xb1]⟩ 1 none ∈ lw_tbl := qz_tb_1 (List.mem_of_getElem? (i := 24) rfl)
theorem cz_fi1 : Cond.initialized yJ7_fill_53178.cls ∈ lw_tbl := List.mem_of_getElem? (i := 104) (by decide +kernel)
theorem cz_fi2 : Cond.static yJ7_fill_53178 ∈ lw_tbl := List.mem_of_getElem? (i := 146) (by decide +kernel)
theorem cz_fi3 : Cond.code yJ7_fill_53178 cJ7_fill_53178 4 none ∈ lw_tbl := qk_J7_fill_53178
def dl_fill : List (Nat × Instr × Nat) := [(0, .iconst 0, 1), (1, .istore_n 2, 1), (2, .aload_n 0, 1), (3, .arraylength, 1), (4, .istore_n 3, 1), (5, .iload_n 2, 1), (6, .iload_n 3, 1), (7, .if_icmp .ge 13, 3), (20, .return_, 1), (10, .aload_n 0, 1), (11, .iload_n 2, 1), (12, .iload_n 1, 1), (13, .iastore, 1), (14, .iinc 2 1, 3), (17, .goto (-12), 3)]
theorem dc_fill : dl_fill.all (fun q => decide (decode cJ7_fill_53178 q.1 = .ok (q.2.1, q.2.2))) = true := by decide +kernel
theorem cz_fs_len : ∀ (L : List cz_St) (qs : List Nat) (fs : List Value), (cz_fs fs L qs).length = fs.length
  | [], _, _ => rfl
  | _ :: _, [], _ => rfl
  | t :: r, q :: qs, fs => by
    show (cz_fs (fs.set t.2.2.2.2.1 (.ref q)) r qs).length = _
    rw [cz_fs_len r qs, List.length_set]
theorem cz_setP {dC : Nat → ClassId} {dI : Nat → Nat → Nat} {ws : va_W} {c : ClassId} {k q n : Nat} {f f' : Nat → Int32} {H : Heap} (hP : va_P (dC, dI) qz_cls ws H) (hk : ws[k]? = some (q, .inl (c, n, .inl f))) (h : ∀ j, j < n → f j = f' j) : va_P (dC, dI) qz_cls (ws.set k (q, .inl (c, n, .inl f'))) H := by
  intro i x hx
  by_cases e : k = i
  · subst e
    have hl : k < ws.length := (List.getElem?_eq_some_iff.mp hk).1
    rw [List.getElem?_set_self hl] at hx
    cases hx
    have h1 : H[q]? = some (vp_cell c (n, .inl f)) := hP k _ hk
    show H[q]? = some (vp_cell c (n, .inl f'))
    rw [h1]
    show some (arrV c n (fun j => .int (f j))) = some (arrV c n (fun j => .int (f' j)))
    rw [cz_arrV (fun j hj => by rw [h j hj])]
  · rw [List.getElem?_set_ne e] at hx
    exact hP i x hx
theorem k_fill (l : Launch) (dC : Nat → ClassId) (dI : Nat → Nat → Nat) (cA : FieldType → ClassId) (q n sz : Nat) (v : Int32) (f : Nat → Int32) (hn : n < 1000000) : cz_Met l yJ7_fill_53178 cJ7_fill_53178 4 { frames := 0, cells := 0, slots := 0, locals := 0 } dC dI cA [.ref q, .int v] (q, .inl (cA .int, n, .inl f)) sz (fun _ => [(q, .inl (cA .int, n, .inl (fun _ => v)))]) := by
  refine Met.ofW (cc := cJ7_fill_53178) (maxL := 4) (ret := none) (by decide) rfl ?_
  intro p e s m args below meth c s₁ B hml hv
  obtain ⟨rfl, hsz, hP, hK, hD0, hN⟩ := hv
  have hx := B.exec
  have hb := B.bytes
  have hr := B.returns
  have hlocks := B.notSynchronized
  subst hsz
  have hD := hD0.self (sz := s.heap.size)
  generalize hAe : va_A [(q, .inl (cA .int, n, .inl f))] s.heap.size = A at hD ⊢
  have hl := lv_entry ([.ref q, .int v]) (n := 4) (Nat.le_of_ble_eq_true rfl)
  rw [lg_entry_eq]
  generalize (lg_sl ([.ref q, .int v]) ++ List.replicate (4 - (lg_sl ([.ref q, .int v])).length) Slot.unset).toArray = ls at hl ⊢
  have hl : lv_has ls 4 [(0, .ref q), (1, .int v)] := hl
  refine lv_iconst (v := 0) hx hb (cz_d dc_fill 0 rfl) (by decide) ?_
  refine lv_istore_n (lv' := [(2, .int 0), (0, .ref q), (1, .int v)]) hx hb (cz_d dc_fill 1 rfl) rfl hl (by decide) rfl (fun ls hl => ?_)
  refine lv_aload_n hx hb (cz_d dc_fill 2 rfl) rfl (lv_at hl 1 rfl) ?_
  refine va_alen (ty := .int) hx hb hK hP 0 0 rfl rfl (v := nI n) rfl (cz_d dc_fill 3 rfl) ?_
  refine lv_istore_n (lv' := [(3, .int (nI n)), (2, .int 0), (0, .ref q), (1, .int v)]) hx hb (cz_d dc_fill 4 rfl) rfl hl (by decide) rfl (fun ls hl => ?_)
  have loop : ∀ (fu k : Nat) (g : Nat → Int32) (H : Heap) (locs : List Loc) (ls : Array Slot), k + fu = n → (∀ j, j < k → g j = v) → va_P (dC, dI) qz_cls [(q, .inl (cA .int, n, .inl g))] H → va_D A [(q, .inl (cA .int, n, .inl g))] → va_S A s.heap H locs → lv_has ls 4 [(3, .int (nI n)), (2, .int (nI k)), (0, .ref q), (1, .int v)] → W p l e { frames := 0, cells := 0, slots := 0, locals := 0 } s m ([Value.ref q, .int v] : List Value).toArray below meth c H locs 0 0 (MQ below (cz_Qc dC dI cA (fun _ => [(q, .inl (cA .int, n, .inl (fun _ => v)))]) A) ([Value.ref q, .int v] : List Value).toArray s 0 0 A) (F0 m 5 ls []) := by
    intro fu
    induction fu with
    | zero =>
      intro k g H locs ls hk hg hP hD hS hl
      have ek : k = n := by omega
      subst ek
      refine lv_iload_n hx hb (cz_d dc_fill 5 rfl) rfl (lv_at hl 1 rfl) ?_
      refine lv_iload_n hx hb (cz_d dc_fill 6 rfl) rfl (lv_at hl 0 rfl) ?_
      refine lv_icmp_ge (tgt := 20) hx hb (cz_d dc_fill 7 rfl) (by decide) (fun _ => ?_) (fun z => absurd (Int32.le_refl _) z)
      have hP9 : va_P (dC, dI) qz_cls [(q, .inl (cA .int, k, .inl (fun _ => v)))] H := cz_setP (k := 0) hP rfl hg
      have hD9 : va_D A [(q, .inl (cA .int, k, .inl (fun _ => v)))] := hD.set (p := 0) rfl
      exact W.vret hx hb hr (fun t ht hW => ⟨⟨fun _ => 0, rfl, trivial, by rw [ht]; exact hP9, va_K.moved hW.alike hK, hD9⟩, hS.F ht⟩) hS.2.2 (cz_d dc_fill 8 rfl)
    | succ fu ih =>
      intro k g H locs ls hk hg hP hD hS hl
      refine lv_iload_n hx hb (cz_d dc_fill 5 rfl) rfl (lv_at hl 1 rfl) ?_
      refine lv_iload_n hx hb (cz_d dc_fill 6 rfl) rfl (lv_at hl 0 rfl) ?_
      refine lv_icmp_ge (tgt := 20) hx hb (cz_d dc_fill 7 rfl) (by decide) (fun z => ?_) (fun _ => ?_)
      · rw [nI_leI (by omega) (by omega)] at z
        omega
      refine lv_aload_n hx hb (cz_d dc_fill 9 rfl) rfl (lv_at hl 2 rfl) ?_
      refine lv_iload_n hx hb (cz_d dc_fill 10 rfl) rfl (lv_at hl 1 rfl) ?_
      refine lv_iload_n hx hb (cz_d dc_fill 11 rfl) rfl (lv_at hl 3 rfl) ?_
      refine va_iast hx hb hK hP hD hS 0 0 rfl rfl (qz_vi (by rw [nI_toInt (by omega)]; omega) (by rw [nI_toInt (by omega)]; omega)) (cz_d dc_fill 12 rfl) (fun H1 locs1 hP1 hD1 hS1 => ?_)
      refine lv_iinc (v := nI (k + 1)) (lv' := [(2, .int (nI (k + 1))), (3, .int (nI n)), (0, .ref q), (1, .int v)]) hx hb (cz_d dc_fill 13 rfl) hl (k := 1) rfl (nI_1 k) (by decide) rfl (fun ls hl => ?_)
      refine lv_goto (tgt := 5) hx hb (cz_d dc_fill 14 rfl) (by decide) ?_
      refine ih (k + 1) (upd g (nI k).toNatClampNeg v) H1 locs1 ls (by omega) (fun j hj => ?_) hP1 hD1 hS1 (lv_sub hl [1, 0, 2, 3] rfl)
      rw [nI_clamp (by omega)]
      show (if j = k then v else g j) = v
      by_cases c1 : j = k
      · rw [if_pos c1]
      · rw [if_neg c1]; exact hg j (by omega)
  exact loop n 0 f s.heap [] ls (by omega) (fun j hj => absurd hj (Nat.not_lt_zero _)) hP hD va_S.rf hl
/-- a call of a static method over the world's last cell -/
theorem cz_scall {p : Program} {l : Launch} {e : Env} {R : Room} {s : State} {m : MethodId} {args : Array Value} {below : List Frame} {meth : Method} {c : Code} {Q : State → Prop} {cc : ByteArray} {ls : Array Slot} {dC : Nat → ClassId} {dI : Nat → Nat → Nat} {cA : FieldType → ClassId} {A : Nat → Prop} {own : String} {H : Heap} {locs : List Loc} {cells slots pc nL index n : Nat} {rest As : List Value} {wr : va_W} {q : Nat} {x : va_E} {y : MethodName} {b : ByteArray} {n' : Nat} {rm : Room} {wk : (Nat → Nat) → va_W}
    (hx : p.tables.exec = Jvm.exec) (hb : c.code = cc) (hml : c.maxLocals = nL) (hown : s.vm.findClass own = some m.cls) (hts : ∀ w ∈ qz_T, w.before args s = true) (hK : va_K (dC, dI) qz_cls (qz_tys cA) s) (hN : ∀ w ∈ qz_NT, va_Nw w s) (hA : ∀ q, s.heap.size ≤ q → A q) (hls : ls.size = nL)
    (hM : cz_Met l y b n' rm dC dI cA As (q, x) H.size wk) (hcode : Cond.code y b n' none ∈ lw_tbl) (hini : Cond.initialized y.cls ∈ lw_tbl) (hstat : Cond.static y ∈ lw_tbl) (hlk : Cond.methodLink own index y ∈ lw_tbl) (hd : y.cls ≠ "java/lang/invoke/MethodHandle" ∧ y.cls ≠ "java/lang/invoke/VarHandle" ∧ (parseMethodDescriptor y.desc).map (fun d => d.parameters.length) = some n) (hn : As.length = n) (hR : rm.frames + 1 ≤ R.frames ∧ 8 + (n' + 11) + rm.locals ≤ R.locals) (hcs : cells + rm.cells ≤ R.cells ∧ slots + rm.slots ≤ R.slots) (hsum : (rest.map fun v => v.category).sum ≤ 8)
    (hdg : decode cc pc = .ok (.invokestatic index, 3)) (hP : va_P (dC, dI) qz_cls (wr ++ [(q, x)]) H) (hD : va_D A (wr ++ [(q, x)])) (hS : va_S A s.heap H locs)
    (kk : ∀ (u : Nat → Nat) (H1 : Heap) (locs1 : List Loc), va_P (dC, dI) qz_cls (wr ++ wk u) H1 → va_D A (wr ++ wk u) → va_S A s.heap H1 locs1 → W p l e R s m args below meth c H1 locs1 (cells + rm.cells) (slots + rm.slots) Q (F0 m (pc + 3) ls rest)) : W p l e R s m args below meth c H locs cells slots Q (F0 m pc ls (As.reverse ++ rest)) := by
  have hFc := cz_lastF hD hS hA
  have hp : PreS s H (cz_Pc dC dI cA As (q, x) H.size) As := by
    refine ⟨cz_blind _ _ _ _ _ _, fun U hU hW => ⟨rfl, by rw [hU], by rw [hU]; exact cz_last hP, va_K.moved hW.alike hK, (cz_lastD hD).weaken (fun _ _ _ _ => trivial), fun w hw => ?_⟩⟩
    obtain ⟨x1, x2, x3, rfl⟩ := qz_NT_mem hw
    exact va_Nw.warmM hW (hN _ hw)
  have hG : GoodIn qz_T (va_wsS own index y (cz_wd y b n')) := by
    refine qz_goodT (fun _ h => h) (fun w hw => ?_)
    unfold va_wsS at hw
    rcases List.mem_append.mp hw with hw | hw
    · simp only [List.mem_cons, List.not_mem_nil, or_false] at hw
      rcases hw with rfl | rfl | rfl
      · exact qz_in_T hlk rfl
      · exact qz_in_T hstat rfl
      · exact qz_in_T hini rfl
    · rcases List.mem_cons.mp hw with e | e
      · rw [e]
        exact qz_in_T hcode rfl
      · exact e
  have hrun : va_Run p l e R s m args below meth c H locs cells slots rm.cells rm.slots (F0 m pc ls (As.reverse ++ rest)) rest (cz_Qc dC dI cA wk (va_A [(q, x)] H.size) As.toArray) (va_A [(q, x)] H.size) := va_runS (p := p) (l := l) (e := e) (R := R) (below := below) (meth := meth) (locs := locs) (cells := cells) (slots := slots) (As := As) (rest := rest) (g := F0 m pc ls (As.reverse ++ rest)) ⟨hx, hb, hml, hown, hts⟩ hM (va_cwS n hts hG rfl rfl rfl hd hR) hp rfl hn hls rfl (lv_room hsum) hdg hcs
  refine va_callv hrun hS (fun q _ h => hFc q h) hFc (fun u t H1 locs1 ht hvm hw hB hz1 hk1 hS1 => ?_)
  obtain ⟨hP1, hK1, hD1⟩ := hB
  rw [ht] at hP1
  obtain ⟨hP2, hD2⟩ := cz_join hP hD hk1 hFc hP1 hD1
  exact kk u H1 locs1 hP2 hD2 hS1
