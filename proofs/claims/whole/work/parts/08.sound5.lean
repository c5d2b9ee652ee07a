/-! calls -/
theorem qz_rv_tr (ad : Nat → Nat) (z : Nat) (v : Int32) (l : Int64) : (qz_rv z v l).toList.map (qz_tr ad) = (qz_rv z v l).toList := by
  unfold qz_rv
  split <;> rfl
theorem qz_chk_at {z : Nat} (h : z ∈ qz_ms) : Cond.initialized (qz_nm z).cls ∈ qz_T ∧ (qz_sk z = 1 → Cond.static (qz_nm z) ∈ qz_T) ∧ (¬ qz_sk z = 1 → Cond.instanceMethod (qz_nm z) ∈ qz_T ∧ Cond.selects (qz_nm z).cls (qz_nm z) (qz_nm z) ∈ qz_T) ∧ (qz_nm z).cls ≠ "java/lang/invoke/MethodHandle" ∧ (qz_nm z).cls ≠ "java/lang/invoke/VarHandle" ∧ (parseMethodDescriptor (qz_nm z).desc).map (fun d => d.parameters.length) = some (qz_np z) ∧ (qz_nm z).cls = qz_ow z ∧ qz_mx z ≤ 12 := by
  have h1 := List.all_eq_true.mp qz_ms_chk z h
  unfold qz_chkM at h1
  split at h1
  · simp only [Bool.and_eq_true, decide_eq_true_eq] at h1
    obtain ⟨⟨⟨⟨⟨⟨h1, h2⟩, h3⟩, h4⟩, h5⟩, h6⟩, h7⟩ := h1
    refine ⟨qz_in_T (List.mem_of_getElem? h1) rfl, fun hs => ?_, fun hs => ?_, h3, h4, h5, h6, Nat.le_of_ble_eq_true h7⟩
    · rw [hs] at h2
      have h2 : decide _ = true := h2
      simp only [decide_eq_true_eq] at h2
      exact qz_in_T (List.mem_of_getElem? h2) rfl
    · have hf : Nat.beq (qz_sk z) 1 = false := by
        cases hb : Nat.beq (qz_sk z) 1 with
        | false => rfl
        | true => exact absurd (Nat.eq_of_beq_eq_true hb) hs
      rw [hf] at h2
      have h2 : (decide _ && decide _) = true := h2
      simp only [Bool.and_eq_true, decide_eq_true_eq] at h2
      exact ⟨qz_in_T (List.mem_of_getElem? h2.1) rfl, qz_in_T (List.mem_of_getElem? h2.2) rfl⟩
  · cases h1
theorem qz_wd_T {z : Nat} (h : z ∈ qz_ms) : ∀ w ∈ qz_wd z, w ∈ qz_T := by
  intro w hw
  rcases List.mem_cons.mp hw with e | e
  · rw [e]
    exact qz_in_T (qz_mb z h) rfl
  · exact e
theorem qz_NT_mem {w : Cond} (h : w ∈ qz_NT) : ∃ a i x, w = Cond.methodLinkNest a i x "OrphanShelf" := by
  obtain ⟨q, -, rfl⟩ := List.mem_map.mp h
  exact ⟨_, _, _, rfl⟩
theorem qz_st_moved {X : qz_X} {ad : Nat → Nat} {A : Nat → Prop} {u U : State} {H : Heap} (hvm : u.vm.Alike U.vm) (h : qz_st X ad A u H) : qz_st X ad A U H :=
  ⟨fun i q hq => (h.1 i q hq).moved hvm, h.2.1.moved hvm, h.2.2.1.moved hvm, h.2.2.2.moved hvm⟩
theorem qz_T_to {ty : FieldType} {t N : Nat} {f : Nat → Value} {A B : Nat → Prop} {U : State} {H H1 : Heap} (h : va_T ty t N f A U H) (hk : t < H.size → ¬ A t → H1[t]? = H[t]? ∧ ¬ B t) : va_T ty t N f B U H1 := by
  obtain ⟨cell, h1, h2, h3, h4, h5, h6, h7⟩ := h
  have hl := (Array.getElem?_eq_some_iff.mp h1).1
  exact ⟨cell, by rw [(hk hl h7).1]; exact h1, h2, h3, h4, h5, h6, (hk hl h7).2⟩
theorem qz_Z_to {C n d : String} {v : Value} {A B : Nat → Prop} {U : State} {H H1 : Heap} (h : va_Z C n d v A U H) (hk : ∀ t, t < H.size → ¬ A t → H1[t]? = H[t]? ∧ ¬ B t) : va_Z C n d v B U H1 := by
  obtain ⟨cf, kf, fi, f, a, cell, h1, h2, h3, h4, h5, h6, h7, h8⟩ := h
  have hl := (Array.getElem?_eq_some_iff.mp h5).1
  exact ⟨cf, kf, fi, f, a, cell, h1, h2, h3, h4, by rw [(hk a hl h8).1]; exact h5, h6, h7, (hk a hl h8).2⟩
theorem qz_st_to {X : qz_X} {ad : Nat → Nat} {A B : Nat → Prop} {U : State} {H H1 : Heap} (h : qz_st X ad A U H) (hk : ∀ t, t < H.size → ¬ A t → H1[t]? = H[t]? ∧ ¬ B t) : qz_st X ad B U H1 :=
  ⟨fun i q hq => qz_T_to (h.1 i q hq) (hk _), qz_Z_to h.2.1 hk, qz_Z_to h.2.2.1 hk, qz_Z_to h.2.2.2 hk⟩
theorem qz_blind (X : qz_X) (dC : Nat → ClassId) (dI : Nat → Nat → Nat) (ad : Nat → Nat) (cA : FieldType → ClassId) (g : qz_G) (sz : Nat) (av : List Value) : FrameBlind (va_Pc av (fun U => U.heap.size = sz ∧ qz_pre X dC dI ad cA g U)) := by
  intro a U fr mk hq
  obtain ⟨q0, q1, qP, qK, qN, qD, qS⟩ := hq
  refine ⟨q0, q1, qP, va_K.moved (u := U) (U := U.calling fr mk a) (Vm.Alike.refl U.vm) qK, fun w hw => ?_, qD, qz_st_moved (u := U) (U := U.calling fr mk a) (Vm.Alike.refl U.vm) qS⟩
  obtain ⟨x1, x2, x3, rfl⟩ := qz_NT_mem hw
  exact va_Nw.same rfl (rfl : U.vm = (U.calling fr mk a).vm) (qN _ hw)
section QC
variable {X : qz_X} {l : Launch} {dC : Nat → ClassId} {dI : Nat → Nat → Nat} {ad : Nat → Nat} {cA : FieldType → ClassId} {p : Program} {e : Env} {R : Room} {s : State} {m : MethodId} {args : Array Value} {below : List Frame} {meth : Method} {c : Code} {H : Heap} {locs : List Loc} {cells slots : Nat} {Z : State → Prop} {g : qz_G}
/-- the callee's start -/
theorem qz_start (hK : va_K (dC, dI) qz_cls (qz_tys cA) s) (hNW : ∀ w ∈ qz_NT, va_Nw w s) (hst : qz_st X ad (qz_A ad s.heap.size) s s.heap) (hW : qz_Wd dC dI ad cA s g H locs) : ∀ U : State, U.heap = H → s.WarmedH U.vm → U.heap.size = H.size ∧ qz_pre X dC dI ad cA g U := by
  intro U hU hWm
  refine ⟨by rw [hU], by rw [hU]; exact hW.1, va_K.moved hWm.alike hK, fun w hw => ?_, hW.2.1.weaken (fun _ _ _ _ => trivial), ?_⟩
  · obtain ⟨x1, x2, x3, rfl⟩ := qz_NT_mem hw
    exact va_Nw.warmM hWm (hNW _ hw)
  · rw [hU]
    refine qz_st_moved hWm.alike (qz_st_to hst (fun t ht hA => ⟨hW.2.2.2.1 t ht hA, fun z => hA (Or.inl z)⟩))
theorem qz_after {sz z : Nat} {Q : qz_Q} {pc : Nat} {ls : Array Slot} {st0 rest : List Value} (hsz : H.size = sz) (hr : va_Run p l e R s m args below meth c H locs cells slots 0 0 (F0 m pc ls st0) rest (qz_post X dC dI ad cA sz z Q) (qz_A ad sz)) (hS : va_S (qz_A ad s.heap.size) s.heap H locs)
    (kk : ∀ (g' : qz_G) (v : Int32) (l2 : Int64) (H1 : Heap) (locs1 : List Loc), Q g' v l2 → qz_Wd dC dI ad cA s g' H1 locs1 → W p l e R s m args below meth c H1 locs1 cells slots Z (F0 m (pc + 3) ls ((qz_rv z v l2).toList ++ rest))) : W p l e R s m args below meth c H locs cells slots Z (F0 m pc ls st0) := by
  intro T hT X0
  obtain ⟨v, st₀, t, T', L, h0, X', hL, e1, e2, ⟨g', v2, l2, hQ, hv, hpre, hz, hk⟩, st⟩ := hr T hT X0
  cases hv
  rw [h0] at hz hk
  have hsub : ∀ q, qz_A ad sz q → qz_A ad s.heap.size q := fun q h => h.elim Or.inl (fun h => Or.inr (Nat.le_trans hS.1 (by omega)))
  have hS1 : va_S (qz_A ad s.heap.size) s.heap T'.heap (locs ++ L) := ⟨Nat.le_trans hS.1 (by rw [e1]; exact hz), fun q h1 h2 => by rw [e1, hk q (Nat.lt_of_lt_of_le h1 hS.1) (fun z => h2 (hsub q z))]; exact hS.2.1 q h1 h2, fun q hq => by
      rcases List.mem_append.mp hq with h | h
      · exact hS.2.2 q h
      · exact hsub _ (hL q h)⟩
  have hP1 : va_P (dC, dI) qz_cls (qz_ws ad cA g') T'.heap := by rw [e1]; exact hpre.1
  have hD1 : va_D (qz_A ad s.heap.size) (qz_ws ad cA g') := by
    refine hpre.2.2.2.1.weaken (fun k q hkq _ => Or.inl ⟨k, ?_, ?_⟩)
    · rw [← qz_ws_len ad cA g']; exact (List.getElem?_eq_some_iff.mp hkq).1
    · have hl := (List.getElem?_eq_some_iff.mp hkq).1
      rw [qz_ws_len] at hl
      have h5 := qz_ws_at (ad := ad) (cA := cA) (g := g') (List.getElem?_eq_getElem hl)
      rw [h5] at hkq
      rw [← Option.some.inj hkq]
      rfl
  obtain ⟨t2, a1, b1⟩ := kk g' v2 l2 T'.heap (locs ++ L) hQ ⟨hP1, hD1, hS1⟩ T' rfl X'
  exact ⟨t2, st t2 a1, b1⟩
end QC
theorem qz_split {st : List Value} {n : Nat} {o : Nat} {t : List Value} (hn : n ≤ st.length) (h : (st.take n).reverse = .ref o :: t) : st = t.reverse ++ .ref o :: st.drop n ∧ t.length + 1 = n := by
  have h1 : st.take n = t.reverse ++ [.ref o] := by
    have h2 := congrArg List.reverse h
    rw [List.reverse_reverse] at h2
    rw [h2, List.reverse_cons]
  refine ⟨?_, ?_⟩
  · have h3 := (List.take_append_drop n st).symm
    rw [h1, List.append_assoc] at h3
    exact h3
  · have h4 := congrArg List.length h
    simp only [List.length_reverse, List.length_take, List.length_cons] at h4
    omega
theorem qz_obj_at {ci o : Nat} (h : qz_obj ci o = true) : ∃ fs, qz_La[o]? = some (.inl (ci, fs)) := by
  unfold qz_obj at h
  split at h
  · rename_i q hq
    have h1 := Nat.eq_of_beq_eq_true h
    exact ⟨q.2, by rw [hq, ← h1]⟩
  · cases h
theorem qz_cls_on : ∀ i, i < 13 → (qz_cls[i]?).map (fun q => q.1) = some (qz_on1 i) := by decide +kernel
theorem qz_La_cls {o ci : Nat} {fs : List (Nat ⊕ Nat)} (h : qz_La[o]? = some (.inl (ci, fs))) : ∃ q : vw_C, qz_cls[ci]? = some q ∧ q.1 = qz_on1 ci := by
  have h1 := List.all_eq_true.mp qz_La_chk _ (List.mem_of_getElem? h)
  simp only [qz_kchk] at h1
  split at h1
  · rename_i c hc
    have hl := (List.getElem?_eq_some_iff.mp hc).1
    have h2 := qz_cls_on ci hl
    rw [hc] at h2
    exact ⟨c, hc, Option.some.inj h2⟩
  · cases h1
