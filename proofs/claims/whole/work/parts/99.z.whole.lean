/-! THE CLAIM OUT OF ONE WALK OF THE LAW'S BODY. Your part is whole_start (and what it stands on); all else here is the same for every law, but numbers. -/
def R_law : String := "OrphanShelfLaw"
def lw_P (b : Addr) (xs : List Int32) (args : Array Value) (s : State) : Prop := args = #[.ref b] ∧ s.IntsAt b xs ∧ xs.length ≤ 3584 ∧ (Jvm.Cond.and given_1 narrow_1).before args s = true
def lw_Q (_ : Array Value) (s : State) (o : Outcome) (t : State) : Prop := o = .returned (some (.int 1)) ∧ Framed s o t [] 600000 7302250
def lw_Z (below : List Frame) (a : Array Value) (s : State) : State → Prop := fun t => ∃ o, t.status = .running ∧ Ended t below o ∧ lw_Q a s o t
/-- the law's own end, with 1 on the stack, nothing written that was there before, its room as the claim has it -/
theorem lw_ret {p : Program} {l : Launch} {e : Env} {s : State} {m : MethodId} {below : List Frame} {meth : Method} {c : Code} {b : Nat} (hx : p.tables.exec = Jvm.exec) (hb : c.code = code) (hr : meth.sig.returnType = ret) (hlocks : meth.locks = false) {pc : Nat} {H : Heap} {ls : Array Slot} (hdg : decode code pc = .ok (.ireturn, 1)) : W p l e room_1 s m #[Value.ref b] below meth c H [] 600000 7302250 (lw_Z below #[Value.ref b] s) (F0 m pc ls [.int 1]) := by
  intro T hT X
  obtain ⟨fs, hret, hrun, hended, hW, hframe⟩ := X.leave (v := some (.int 1)) (hlocks := hlocks) (fun h => by rw [hr] at h; cases h)
  have hmeth' : T.vm.method? m = some meth := X.method'
  refine ⟨T.setFrames fs, ?_, .returned (some (.int 1)), hrun, hended, rfl, ⟨_, rfl⟩, hW, hframe⟩
  jvm_step X.here [X.here.top, hx, hb, hdg, hmeth', hr, ret, narrow_b1]
  (try refine ⟨rfl, ?_⟩); (try refine ⟨rfl, ?_⟩)
  first | (intro acts; rw [hret _ acts rfl rfl rfl]) | rw [hret _ _ rfl rfl rfl]
  exact Steps.refl _
/-- what holds at the law's entry: the machine, the code, the tables' words (any of lw_tbl by 'hts w (by decide +kernel)'), the script of L ints xs at the cell b, what the Statement gives of the start (any of its parts by flat_of_before) -/
def lw_At (p : Program) (s : State) (m : MethodId) (meth : Method) (c : Code) (b L : Nat) (xs : Nat → Int32) : Prop :=
  p.tables.exec = Jvm.exec ∧ c.code = code ∧ meth.sig.returnType = ret ∧ c.maxLocals = 4 ∧ s.vm.findClass R_law = some m.cls ∧ (∀ w ∈ lw_tbl, w.before #[Value.ref b] s = true) ∧ va_X b L xs s s.heap ∧ b < s.heap.size ∧ meth.locks = false ∧ (Jvm.Cond.and given_1 narrow_1).before #[Value.ref b] s = true

-- ===== YOUR PART BEGINS =====
def dl_law : List (Nat × Instr × Nat) := [(0, .new 7, 3), (3, .dup, 1), (4, .invokespecial 9, 3), (7, .astore_n 1, 1), (8, .new 10, 3), (11, .dup, 1), (12, .invokespecial 12, 3), (15, .astore_n 2, 1), (16, .iconst 0, 1), (17, .istore_n 3, 1)]
theorem dc_law : dl_law.all (fun q => decide (decode code q.1 = .ok (q.2.1, q.2.2))) = true := by decide +kernel
def ww_law : List (Nat × Cond) := [(117, Cond.classLink RL 7 RX11), (118, Cond.instantiable RX11 11), (101, Cond.initialized RX11), (101, Cond.initialized yX11_init.cls), (120, Cond.instanceMethod yX11_init), (119, Cond.methodLink RL 9 yX11_init), (1394, Cond.classLink RL 10 RX12), (1395, Cond.instantiable RX12 94), (114, Cond.initialized RX12), (114, Cond.initialized yX12_init.cls), (1397, Cond.instanceMethod yX12_init), (1396, Cond.methodLink RL 12 yX12_init), (756, Cond.laysStatic RX6 "LETTERS" "[C"), (773, Cond.laysStatic RX6 "LIMITS" "[I"), (818, Cond.laysStatic RX6 "FACTS" "[C"), (109, Cond.initialized RX6)]
theorem wc_law : ww_law.all (fun t => decide (lw_tbl[t.1]? = some t.2)) = true := by decide +kernel
theorem lz_LETTERS_a : Cond.arrayOf (Jvm.Term.static RX6 "LETTERS" "[C") .char ∈ flatC (Jvm.Cond.and given_1 narrow_1) := by decide +kernel
theorem lz_LETTERS_l : Cond.eq (.length (Jvm.Term.static RX6 "LETTERS" "[C")) (.int 10) ∈ flatC (Jvm.Cond.and given_1 narrow_1) := by decide +kernel
theorem lz_LETTERS_e : ∀ j, j < 10 → Cond.eq (.elem (Jvm.Term.static RX6 "LETTERS" "[C") (.int (Int32.ofNat j))) (.int (qz_letters j)) ∈ flatC (Jvm.Cond.and given_1 narrow_1) := by decide +kernel
theorem lz_LETTERS {args : Array Value} {s : State} {A : Nat → Prop} (hgv : (Jvm.Cond.and given_1 narrow_1).before args s = true) (hts : ∀ w ∈ lw_tbl, w.before args s = true) (hA : ∀ a : Nat, a < s.heap.size → ¬ A a) : ∃ t : Nat, va_Z RX6 "LETTERS" "[C" (.ref t) A s s.heap ∧ va_T .char t 10 (fun j => .int (qz_letters j)) A s s.heap := by
  have hs := flat_of_before _ hgv
  obtain ⟨t, h1, h2⟩ := va_Tof (tm := (Jvm.Term.static RX6 "LETTERS" "[C")) (ty := .char) (N := 10) (f := fun j => .int (qz_letters j)) (A := A) (by decide) (hs _ lz_LETTERS_a) (va_eqt (hs _ lz_LETTERS_l)) (fun j hj => va_eqt (hs _ (lz_LETTERS_e j hj))) hA
  exact ⟨t, va_Zof (hts _ (cz_w wc_law 12 rfl)) (hts _ (cz_w wc_law 15 rfl)) h1 hA, h2⟩
theorem lz_LIMITS_a : Cond.arrayOf (Jvm.Term.static RX6 "LIMITS" "[I") .int ∈ flatC (Jvm.Cond.and given_1 narrow_1) := by decide +kernel
theorem lz_LIMITS_l : Cond.eq (.length (Jvm.Term.static RX6 "LIMITS" "[I")) (.int 10) ∈ flatC (Jvm.Cond.and given_1 narrow_1) := by decide +kernel
theorem lz_LIMITS_e : ∀ j, j < 10 → Cond.eq (.elem (Jvm.Term.static RX6 "LIMITS" "[I") (.int (Int32.ofNat j))) (.int (qz_limits j)) ∈ flatC (Jvm.Cond.and given_1 narrow_1) := by decide +kernel
theorem lz_LIMITS {args : Array Value} {s : State} {A : Nat → Prop} (hgv : (Jvm.Cond.and given_1 narrow_1).before args s = true) (hts : ∀ w ∈ lw_tbl, w.before args s = true) (hA : ∀ a : Nat, a < s.heap.size → ¬ A a) : ∃ t : Nat, va_Z RX6 "LIMITS" "[I" (.ref t) A s s.heap ∧ va_T .int t 10 (fun j => .int (qz_limits j)) A s s.heap := by
  have hs := flat_of_before _ hgv
  obtain ⟨t, h1, h2⟩ := va_Tof (tm := (Jvm.Term.static RX6 "LIMITS" "[I")) (ty := .int) (N := 10) (f := fun j => .int (qz_limits j)) (A := A) (by decide) (hs _ lz_LIMITS_a) (va_eqt (hs _ lz_LIMITS_l)) (fun j hj => va_eqt (hs _ (lz_LIMITS_e j hj))) hA
  exact ⟨t, va_Zof (hts _ (cz_w wc_law 13 rfl)) (hts _ (cz_w wc_law 15 rfl)) h1 hA, h2⟩
theorem lz_FACTS_a : Cond.arrayOf (Jvm.Term.static RX6 "FACTS" "[C") .char ∈ flatC (Jvm.Cond.and given_1 narrow_1) := by decide +kernel
theorem lz_FACTS_l : Cond.eq (.length (Jvm.Term.static RX6 "FACTS" "[C")) (.int 8) ∈ flatC (Jvm.Cond.and given_1 narrow_1) := by decide +kernel
theorem lz_FACTS_e : ∀ j, j < 8 → Cond.eq (.elem (Jvm.Term.static RX6 "FACTS" "[C") (.int (Int32.ofNat j))) (.int (qz_factsC j)) ∈ flatC (Jvm.Cond.and given_1 narrow_1) := by decide +kernel
theorem lz_FACTS {args : Array Value} {s : State} {A : Nat → Prop} (hgv : (Jvm.Cond.and given_1 narrow_1).before args s = true) (hts : ∀ w ∈ lw_tbl, w.before args s = true) (hA : ∀ a : Nat, a < s.heap.size → ¬ A a) : ∃ t : Nat, va_Z RX6 "FACTS" "[C" (.ref t) A s s.heap ∧ va_T .char t 8 (fun j => .int (qz_factsC j)) A s s.heap := by
  have hs := flat_of_before _ hgv
  obtain ⟨t, h1, h2⟩ := va_Tof (tm := (Jvm.Term.static RX6 "FACTS" "[C")) (ty := .char) (N := 8) (f := fun j => .int (qz_factsC j)) (A := A) (by decide) (hs _ lz_FACTS_a) (va_eqt (hs _ lz_FACTS_l)) (fun j hj => va_eqt (hs _ (lz_FACTS_e j hj))) hA
  exact ⟨t, va_Zof (hts _ (cz_w wc_law 14 rfl)) (hts _ (cz_w wc_law 15 rfl)) h1 hA, h2⟩
theorem lz_inst : ∀ q ∈ qz_cls, Cond.instantiable q.1 q.2.2 ∈ lw_tbl := by
  show ∀ q ∈ ([(RX0, TX0, 6), (RX1, TX1, 3), (RX2, TX2, 18), (RX3, TX3, 14), (RX4, TX4, 13), (RX5, TX5, 10), (RX6, TX6, 13), (RX7, TX7, 8), (RX8, TX8, 2), (RX9, TX9, 16), (RX10, TX10, 13), (RX11, TX11, 11), (RX12, TX12, 94)] : List vw_C), Cond.instantiable q.1 q.2.2 ∈ lw_tbl
  intro q hq
  simp only [List.mem_cons, List.not_mem_nil, or_false] at hq
  rcases hq with rfl | rfl | rfl | rfl | rfl | rfl | rfl | rfl | rfl | rfl | rfl | rfl | rfl
  all_goals decide +kernel
theorem lz_K {args : Array Value} {s : State} (hts : ∀ w ∈ lw_tbl, w.before args s = true) : ∃ (dC : Nat → ClassId) (dI : Nat → Nat → Nat) (cA : FieldType → ClassId), va_K (dC, dI) qz_cls (qz_tys cA) s := by
  have hT : ∀ w ∈ qz_T, w.before args s = true := fun w hw => hts w (List.mem_filter.mp hw).1
  have ex : ∀ k : Nat, ∃ d : ClassId × (Nat → Nat), ∀ q : vw_C, qz_cls[k]? = some q → u_Kn s q.1 q.2.1 q.2.2 d.1 d.2 := by
    intro k
    cases hk : qz_cls[k]? with
    | none => exact ⟨(0, fun _ => 0), fun q hq => by cases hq⟩
    | some q =>
      have hm := List.mem_of_getElem? hk
      obtain ⟨hw, -⟩ := qz_cls_ok q hm
      obtain ⟨cC, iS, h⟩ := u_known (C := q.1) (T := q.2.1) (N := q.2.2) (n := q.2.2) hT hw (hts _ (lz_inst q hm))
      exact ⟨(cC, iS), fun q' hq => by cases hq; exact h⟩
  obtain ⟨f, hf⟩ := Classical.axiomOfChoice ex
  have ea : ∀ ty : FieldType, ∃ c : ClassId, ∀ a : ArrayType, cz_at a = true → newarray.typeOf a = ty → ArrOfT s c ty ∧ s.vm.findClass ("[" ++ ty.toString) = some c := by
    intro ty
    by_cases h : ∃ a : ArrayType, cz_at a = true ∧ newarray.typeOf a = ty
    · obtain ⟨a, ha, he⟩ := h
      subst he
      obtain ⟨c, k, comp, h1, h2, h3⟩ := Cond.arrayClass_spec (hT _ (cz_aw a ha))
      exact ⟨c, fun a' _ _ => ⟨fun n z => ⟨fun k h => (by cases h), k, h2, comp, h3⟩, h1⟩⟩
    · exact ⟨0, fun a' h1 h2 => absurd ⟨a', h1, h2⟩ h⟩
  obtain ⟨cA, hcA⟩ := Classical.axiomOfChoice ea
  refine ⟨fun k => (f k).1, fun k => (f k).2, cA, fun k q hq => hf k q hq, fun k q hk => ?_⟩
  have hk4 : k < 4 := (List.getElem?_eq_some_iff.mp hk).1
  have hc : k = 0 ∨ k = 1 ∨ k = 2 ∨ k = 3 := by omega
  rcases hc with rfl | rfl | rfl | rfl
  · cases hk; exact hcA .int .int rfl rfl
  · cases hk; exact hcA .boolean .boolean rfl rfl
  · cases hk; exact hcA .byte .byte rfl rfl
  · cases hk; exact hcA .long .long rfl rfl
theorem lz_N {args : Array Value} {s : State} (hts : ∀ w ∈ lw_tbl, w.before args s = true) : ∀ w ∈ qz_NT, va_Nw w s := by
  intro w hw
  obtain ⟨q, hq, rfl⟩ := List.mem_map.mp hw
  have h1 := List.all_eq_true.mp qz_NL_chk q hq
  unfold qz_chkN at h1
  simp only [decide_eq_true_eq] at h1
  exact va_Nw.of rfl (hts _ (List.mem_of_getElem? h1))
theorem lz_X {b L : Nat} {xs : Nat → Int32} {s : State} {A : Nat → Prop} (h : va_X b L xs s s.heap) (hA : ¬ A b) : va_T .int b L (fun j => .int (xs j)) A s s.heap := by
  obtain ⟨scr, h1, h2, h3, h4, h5⟩ := h
  exact ⟨scr, h1, h2, h3, by omega, by rw [h4], h5, hA⟩
set_option maxRecDepth 100000 in
set_option maxHeartbeats 8000000 in
/-- from the entry, for every script of at most 3584 ints, the law comes to its end with true -/
theorem whole_start {p : Program} {e : Env} {s : State} {m : MethodId} {below : List Frame} {meth : Method} {c : Code} (l : Launch) {b L : Nat} {xs : Nat → Int32} (hL : L ≤ 3584) (C0 : lw_At p s m meth c b L xs) : W p l e room_1 s m #[Value.ref b] below meth c s.heap [] 0 0 (lw_Z below #[Value.ref b] s) (entryFrame m ([Value.ref b] : List Value).toArray 4) := by
  obtain ⟨hx, hb, hr, hml, hown, hts0, hX, hbl, hlocks, hgv⟩ := id C0
  have hts : ∀ w ∈ qz_T, w.before #[Value.ref b] s = true := fun w hw => hts0 w (List.mem_filter.mp hw).1
  have hA : ∀ q : Nat, s.heap.size ≤ q → (fun q : Nat => s.heap.size ≤ q) q := fun _ h => h
  have hA0 : ∀ a : Nat, a < s.heap.size → ¬ (fun q : Nat => s.heap.size ≤ q) a := fun a h => Nat.not_le.mpr h
  obtain ⟨dC, dI, cA, hK⟩ := lz_K hts0
  have hN := lz_N hts0
  obtain ⟨t0, z0, y0⟩ := lz_LETTERS hgv hts0 hA0
  obtain ⟨t1, z1, y1⟩ := lz_LIMITS hgv hts0 hA0
  obtain ⟨t2, z2, y2⟩ := lz_FACTS hgv hts0 hA0
  have y3 := lz_X (A := fun q : Nat => s.heap.size ≤ q) hX (hA0 b hbl)
  have hown : s.vm.findClass RL = some m.cls := hown
  have hS : va_S (fun q : Nat => s.heap.size ≤ q) s.heap s.heap [] := va_S.rf
  have hP : va_P (dC, dI) qz_cls [] s.heap := fun k q h => by simp at h
  have hD : va_D (fun q : Nat => s.heap.size ≤ q) [] := ⟨fun i j p q h => by simp at h, fun k q h => by simp at h⟩
  have hl := lv_entry ([.ref b]) (n := 4) (Nat.le_of_ble_eq_true rfl)
  rw [lg_entry_eq]
  generalize (lg_sl ([.ref b]) ++ List.replicate (4 - (lg_sl ([.ref b])).length) Slot.unset).toArray = ls at hl ⊢
  have hl : lv_has ls 4 [(0, .ref b)] := hl
  refine cz_new (ci := 11) (T := TX11) (N := 11) (ty := tyX11) (wr := []) hx hb hown hts hK hA rfl tyX11_ok (cz_w wc_law 0 rfl) (cz_w wc_law 1 rfl) (cz_w wc_law 2 rfl) ⟨(Nat.le_of_ble_eq_true rfl), (Nat.le_of_ble_eq_true rfl)⟩ (cz_d dc_law 0 rfl) hP hD hS (fun q0 H hP hD hS => ?_)
  refine lv_dup hx hb (cz_d dc_law 1 rfl) rfl ?_
  refine cz_call (n := 0) (As := []) (rest := [.ref q0]) (wr := []) hx hb hml hown hts hK hN hA hl.1 (k_X11 l dC dI cA q0 H.size) qk_X11_init (cz_w wc_law 3 rfl) (cz_w wc_law 4 rfl) (Or.inl (cz_w wc_law 5 rfl)) rfl (by decide +kernel) rfl ⟨(Nat.le_of_ble_eq_true rfl), (Nat.le_of_ble_eq_true rfl)⟩ ⟨(Nat.le_of_ble_eq_true rfl), (Nat.le_of_ble_eq_true rfl)⟩ (Nat.le_of_ble_eq_true rfl) (cz_d dc_law 2 rfl) hP hD hS (fun u H locs hP hD hS => ?_)
  refine lv_astore_n (lv' := [(1, .ref q0), (0, .ref b)]) hx hb (cz_d dc_law 3 rfl) rfl hl (by decide) rfl (fun ls hl => ?_)
  generalize hu : (fun k => if k = 0 then q0 else u k) = u11 at hP hD
  have eu0 : u11 0 = q0 := by rw [← hu]; rfl
  refine cz_new (ci := 12) (T := TX12) (N := 94) (ty := tyX12) (wr := ([] ++ wk_X11 cA u11)) hx hb hown hts hK hA rfl tyX12_ok (cz_w wc_law 6 rfl) (cz_w wc_law 7 rfl) (cz_w wc_law 8 rfl) ⟨(Nat.le_of_ble_eq_true rfl), (Nat.le_of_ble_eq_true rfl)⟩ (cz_d dc_law 4 rfl) hP hD hS (fun q12 H hP hD hS => ?_)
  refine lv_dup hx hb (cz_d dc_law 5 rfl) rfl ?_
  refine cz_call (n := 0) (As := []) (rest := [.ref q12]) (wr := ([] ++ wk_X11 cA u11)) hx hb hml hown hts hK hN hA hl.1 (k_X12 l dC dI cA q12 H.size) qk_X12_init (cz_w wc_law 9 rfl) (cz_w wc_law 10 rfl) (Or.inl (cz_w wc_law 11 rfl)) rfl (by decide +kernel) rfl ⟨(Nat.le_of_ble_eq_true rfl), (Nat.le_of_ble_eq_true rfl)⟩ ⟨(Nat.le_of_ble_eq_true rfl), (Nat.le_of_ble_eq_true rfl)⟩ (Nat.le_of_ble_eq_true rfl) (cz_d dc_law 6 rfl) hP hD hS (fun u12 H locs hP hD hS => ?_)
  refine lv_astore_n (lv' := [(2, .ref q12), (1, .ref q0), (0, .ref b)]) hx hb (cz_d dc_law 7 rfl) rfl hl (by decide) rfl (fun ls hl => ?_)
  refine lv_iconst (v := 0) hx hb (cz_d dc_law 8 rfl) (by decide) ?_
  refine lv_istore_n (lv' := [(3, .int 0), (2, .ref q12), (1, .ref q0), (0, .ref b)]) hx hb (cz_d dc_law 9 rfl) rfl hl (by decide) rfl (fun ls hl => ?_)
  -- the world by the cells' numbers
  have e11 : ∀ k ∈ ks_X11, qz_e cA u11 k = qz_e cA (qz_adr t0 t1 t2 b q12 u11 u12) k := fun k hk => by
    obtain ⟨h1, h2⟩ := ks_11_side k hk
    have ev : ∀ c, ((c < 79 ∧ ¬ c = 12) ∨ c = 150) → u11 c = qz_adr t0 t1 t2 b q12 u11 u12 c := fun c hc => by
      unfold qz_adr
      rw [if_neg (by omega), if_neg (by omega), if_neg (by omega), if_neg (by omega), if_neg (by omega)]
    exact qz_e_congr (ev k h1) (fun c hc => ev c (h2 c hc))
  have e12 : ∀ k ∈ ks_X12, qz_e cA (uu_X12 q12 u12) k = qz_e cA (qz_adr t0 t1 t2 b q12 u11 u12) k := fun k hk => by
    obtain ⟨h1, h2⟩ := ks_12_side k hk
    have ev : ∀ c, (c = 12 ∨ (79 ≤ c ∧ c < 150)) → uu_X12 q12 u12 c = qz_adr t0 t1 t2 b q12 u11 u12 c := fun c hc => by
      unfold qz_adr
      rw [if_pos hc]
    exact qz_e_congr (ev k (by omega)) (fun c hc => ev c (by have := h2 c hc; omega))
  have ew : (([] ++ wk_X11 cA u11) ++ wk_X12 cA q12 u12 : va_W) = (ks_X11 ++ ks_X12).map (qz_e cA (qz_adr t0 t1 t2 b q12 u11 u12)) := by
    rw [List.nil_append, wk_X12_eq, List.map_append]
    unfold wk_X11
    rw [List.map_congr_left e11, List.map_congr_left e12]
  rw [ew] at hP hD
  have ad0 : qz_adr t0 t1 t2 b q12 u11 u12 0 = q0 := eu0
  have ad12 : qz_adr t0 t1 t2 b q12 u11 u12 12 = q12 := rfl
  have adA : qz_adr t0 t1 t2 b q12 u11 u12 1000 = t0 := rfl
  have adB : qz_adr t0 t1 t2 b q12 u11 u12 1001 = t1 := rfl
  have adC : qz_adr t0 t1 t2 b q12 u11 u12 1002 = t2 := rfl
  have adD : qz_adr t0 t1 t2 b q12 u11 u12 1003 = b := rfl
  generalize qz_adr t0 t1 t2 b q12 u11 u12 = ad at hP hD ad0 ad12 adA adB adC adD
  obtain ⟨hP, hD, hge⟩ := qz_world hP hD
  have hqA : ∀ q, qz_A ad s.heap.size q ↔ s.heap.size ≤ q := fun q => by
    refine ⟨fun h => h.elim (fun ⟨k, hk, e⟩ => ?_) id, Or.inr⟩
    rw [e]
    rw [qz_La_len] at hk
    exact hge k hk
  have hW : qz_Wd dC dI ad cA s qz_g0 H locs := ⟨hP, hD.weaken (fun _ _ _ h => (hqA _).mpr h), hS.1, fun q h1 h2 => hS.2.1 q h1 (fun z => h2 ((hqA q).mpr z)), fun q hq => (hqA _).mpr (hS.2.2 q hq)⟩
  have hna : ∀ q, qz_A ad s.heap.size q → (fun q : Nat => s.heap.size ≤ q) q := fun q h => (hqA q).mp h
  have hst : qz_st (L, xs) ad (qz_A ad s.heap.size) s s.heap := by
    refine ⟨fun i q hq => ?_, by rw [adA]; exact z0.narrow hna, by rw [adB]; exact z1.narrow hna, by rw [adC]; exact z2.narrow hna⟩
    by_cases c0 : i = 1000
    · subst c0
      cases hq
      rw [adA]
      exact y0.narrow hna
    by_cases c1 : i = 1001
    · subst c1
      cases hq
      rw [adB]
      exact y1.narrow hna
    by_cases c2 : i = 1002
    · subst c2
      cases hq
      rw [adC]
      exact y2.narrow hna
    by_cases c3 : i = 1003
    · subst c3
      cases hq
      rw [adD]
      exact y3.narrow hna
    · exfalso
      unfold qz_SE at hq
      split at hq
      · exact c0 rfl
      · exact c1 rfl
      · exact c2 rfl
      · exact c3 rfl
      · cases hq
  have hl2 : lv_has ls 4 (qz_mp ad [(0, .ref 1003), (1, .ref 0), (2, .ref 12), (3, .int 0)]) := by
    show lv_has ls 4 [(0, .ref (ad 1003)), (1, .ref (ad 0)), (2, .ref (ad 12)), (3, .int 0)]
    rw [adD, ad0, ad12]
    exact lv_sub hl [3, 2, 1, 0] rfl
  refine lw_loop (X := (L, xs)) hL (Q := fun _ v _ => v = 1) (fun _ => rfl) 4000 0 qz_g0 (by omega) (Nat.zero_le _) Rel_g0 l dC dI ad cA p e room_1 s m #[Value.ref b] below meth c _ _ (lw_Z below #[Value.ref b] s) ⟨hx, hb, hml, hown, hts, hK, hN, hst, ⟨Nat.le_of_ble_eq_true rfl, Nat.le_of_ble_eq_true rfl, Nat.le_of_ble_eq_true rfl, Nat.le_of_ble_eq_true rfl⟩, ?_⟩ H locs ls hW hl2
  intro H locs ls pc g v l2 i hdec hret hv hW
  have hv : v = 1 := hv
  subst hv
  have hi : i = .ireturn := by
    have hret : qz_isret 299 i (some (.int 1)) := hret
    unfold qz_isret at hret
    split at hret
    · rfl
    · rename_i h; cases h
    · rename_i h; cases h
    · exact hret.elim
  subst hi
  have hdec : decode code pc = .ok (.ireturn, 1) := hdec
  show W p l e room_1 s m #[Value.ref b] below meth c H locs _ _ (lw_Z below #[Value.ref b] s) (F0 m pc ls [.int 1])
  refine va_forget (fun q hq => (hqA _).mp (hW.2.2.2.2 q hq)) ?_
  refine W.widen (k := 600000) (n := 7302250) (Nat.le_of_ble_eq_true rfl) (Nat.le_of_ble_eq_true rfl) ?_
  exact lw_ret hx hb hr hlocks hdec
-- ===== YOUR PART ENDS =====
set_option maxHeartbeats 4000000 in
theorem lw_walk (l : Launch) (b : Addr) (xs : List Int32) : MetFree l x (headSpec (Jvm.Cond.code x code maxLocals ret :: tables_1) room_1) (lw_P b xs) (fun _ _ _ _ _ => True) lw_Q := by
  refine MetFree.of_bodyS (code := code) (maxLocals := maxLocals) (ret := ret) (by decide) ?_ ?_
  · intro args s m h hn
    obtain ⟨meth, c, h1, h2, h3, h4, h5, h6, -, -⟩ := Cond.code_spec hn (atoms_spec (ws := Jvm.Cond.code x code maxLocals ret :: tables_1) h _ List.mem_cons_self)
    exact ⟨meth, c, h1, h2, h3, h4, h5, h6⟩
  · intro p e s m args below meth c s₁ B hml0 hP _
    obtain ⟨rfl, hx, hbd, hgv⟩ := hP
    obtain ⟨scr, harrAt, hlist, hof, hsmall⟩ := hx
    obtain ⟨hcb, hkn, -, -⟩ := State.arrayAt?_spec harrAt
    have hown : s.vm.findClass R_law = some m.cls := findClass_of_methodNamed B.named
    have hts0 : ∀ c ∈ (Jvm.Cond.code x code maxLocals ret :: tables_1), c.before #[Value.ref b] s = true := atoms_spec (ws := Jvm.Cond.code x code maxLocals ret :: tables_1) B.pre
    have hts : ∀ w ∈ lw_tbl, w.before #[Value.ref b] s = true := k2_hts_sels lw_privs (fun w hw => hts0 w (List.mem_cons_of_mem _ hw)) lw_privs_ok
    have hml : c.maxLocals = 4 := B.maxLocals_eq (hts0 _ List.mem_cons_self)
    have X₀ : Stand p l e room_1 s m #[Value.ref b] below meth c s₁ [] 0 0 := Stand.of_body B
    have hh0 : s₁.heap = s.heap := by rw [B.state]; rfl
    have hsz : scr.slots.size = xs.length := by rw [← Array.length_toList, hlist, List.length_map]
    have hval : ∀ j : Nat, j < xs.length → scr.slots[j]? = some (.int (xs.getD j 0)) := fun j hj => by
      rw [← Array.getElem?_toList, hlist]
      simp [hj]
    have hbl : b < s.heap.size := (Array.getElem?_eq_some_iff.mp hcb).1
    have hX : va_X b xs.length (fun j => xs.getD j 0) s s.heap := ⟨scr, hcb, hof, hkn, hsz, hval⟩
    have K : W p l e room_1 s m #[Value.ref b] below meth c s₁.heap [] 0 0 (lw_Z below #[Value.ref b] s) (entryFrame m ([Value.ref b] : List Value).toArray 4) := by
      rw [hh0]
      exact whole_start l hbd ⟨B.exec, B.bytes, B.returns, hml, hown, hts, hX, hbl, B.notSynchronized, hgv⟩
    obtain ⟨t, a1, o, b1, b2, b3⟩ := K s₁ rfl X₀
    exact ⟨t, o, a1, b1, b2, b3⟩
theorem lw_pre_spec {args : Array Value} {s : State} (h : (Jvm.Cond.and given_1 narrow_1).before args s = true) (hr : rest_1_c.before args s = true) : ∃ (b : Addr) (xs : List Int32), lw_P b xs args s := by
  have hs := flat_of_before _ h
  have hq := flat_of_before _ hr
  have hc : (Cond.count 1).before args s = true := hs _ (by decide +kernel)
  have harr : (Cond.arrayOf (.arg 0) .int).before args s = true := hs _ (by decide +kernel)
  have hle : (Cond.le (.length (.arg 0)) (.int 3584)).before args s = true := hs _ (by decide +kernel)
  have hlen : (Cond.isInt (.length (.arg 0))).before args s = true := hq _ (by decide +kernel)
  have hall : (Cond.all (.arg 0) (.isInt (.elem (.arg 0) (.index 0)))).before args s = true := hq _ (by decide +kernel)
  obtain ⟨b, xs, hb, hx⟩ := State.ints_of_pre rfl harr hlen hall
  have hsm : xs.length < 2 ^ 31 := hx.choose_spec.2.2.2
  have hev : (Term.length (.arg 0)).eval args s none [] s = some (.int xs.length.toInt32) := hx.length_eval hb
  have hv := Cond.le_ints hev (show (Term.int 3584).eval args s none [] s = some (.int 3584) from rfl)
  have hd : xs.length.toInt32 ≤ 3584 := by
    simpa [Cond.before, Cond.holds, hv] using hle
  have hN : xs.length ≤ 3584 := (Int32.ofNat_le_ofNat hsm (by decide)).mp (show Int32.ofNat xs.length ≤ Int32.ofNat 3584 from hd)
  exact ⟨b, xs, Cond.one_arg hc (show args[0]? = some (.ref b) from hb), hx, hN, h⟩
theorem lw_comes (l : Launch) : Comes l x (Jvm.Cond.code x code maxLocals ret :: tables_1) room_1 (fun tb e args s => Calls_1 tb e args s ∧ rest_1 tb e args s ∧ Pre_1 tb e args s)
    (fun _ _ args s o t => lw_Q args s o t) := by
  intro p e ha hc hk s m args below hf hfit hheap happ hpre
  obtain ⟨b, xs, hP⟩ := lw_pre_spec hpre.2.2 hpre.2.1
  obtain ⟨k, o, h1, h2, h3, hQ⟩ := lw_walk l b xs p e ha hc hk s m args below hf ((Spec.applies_iff_loose hf).mp happ).1 hP trivial
  exact ⟨k, o, h1, h2, h3, hQ⟩
theorem lw_frame {s t : State} {o : Outcome} {args : Array Value} (h : Framed s o t [] 600000 7302250) :
    Framed s o t (fieldLocs frame_1_writes args s ++ arrayLocs frame_1_arrays args s ++ staticLocs frame_1_statics s) 600000 7302250 := h
theorem lw_limb (L : Cond) (hL : ∀ (args : Array Value) (s t : State), L.after args s (.returned (some (.int 1))) t = true) :
    ArmFor flags0 classFile x code maxLocals ret World_1 tables_1 room_1 Calls_1 rest_1 Pre_1
      (fun tb e a s o t => postC L tb e a s o t ∧ Framed s o t (fieldLocs frame_1_writes a s ++ arrayLocs frame_1_arrays a s ++ staticLocs frame_1_statics s) 600000 7302250) := by
  intro l _ _ _ p e ha hc hk s m args below hf hfit hheap happ hpre
  obtain ⟨k, o, h1, h2, h3, rfl, hF⟩ := lw_comes l p e ha hc hk s m args below hf hfit hheap happ hpre
  exact ⟨k, _, h1, h2, h3, hL args s _, lw_frame hF⟩
theorem i_vc : Claimed_1_1 ∧ Claimed_1_2 := ⟨lw_limb limb_1_1 (fun args s t => by simp [limb_1_1, Cond.after, Cond.holds, Cond.value]), lw_limb limb_1_2 (fun args s t => Cond.after_iff.mpr (by
  first | (rw [show limb_1_2 = Cond.eq .result (.int 1) from rfl, Cond.eq_ints (x := 1) (y := 1) rfl rfl]; simp; done) | (simp [limb_1_2, Cond.value, Term.eval]; done)))⟩

