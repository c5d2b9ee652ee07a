section QS
variable {X : qz_X} {d y : Nat} {Q : qz_Q} {pc : Nat} {lv : qz_L} {st : List Value} {g : qz_G} {k : qz_K} {Sg : qz_S} {len : Nat} {a : Nat} {b : Int}
theorem qs_invokevirtual {i z : Nat} (hz : z ∈ qz_ms) (hsk : qz_sk z = 0) (hlk : Cond.methodLink (qz_ow y) i (qz_nm z) ∈ qz_T) (hd : decode (qz_by y) pc = .ok (.invokevirtual i, 3)) (h : qz_step X (qz_Call X d) (.invokevirtual i, len, z, b) pc lv st g k Q) (hk : qz_hk X (d + 1) y Q k) : qz_WP X (d + 1) y Q pc lv st g := by
  intro l dC dI ad cA p e R s m args below meth c cells slots Z C H locs ls hW hl
  obtain ⟨hx, hb, hml, hown, hts, hK, hNW, hst, hR, hret⟩ := id C
  simp only [qz_step] at h
  split at h
  · rename_i o t ho
    obtain ⟨h0, h⟩ := qz_bif h
    unfold qz_inv at h
    obtain ⟨h1, h⟩ := qz_bif h
    simp only [Bool.and_eq_true] at h1
    have hn := Nat.le_of_ble_eq_true h1.1
    have hsum := Nat.le_of_ble_eq_true h1.2
    obtain ⟨hst2, htl⟩ := qz_split hn ho
    rw [ho] at h
    obtain ⟨c1, -, c3, c4, c5, c6, c7, c8⟩ := qz_chk_at hz
    obtain ⟨c9, c10⟩ := c3 (by rw [hsk]; decide)
    obtain ⟨fs, hLa⟩ := qz_obj_at h0
    obtain ⟨q, hq1, hq2⟩ := qz_La_cls hLa
    have hM := h l dC dI ad cA H.size
    have hG : GoodIn qz_T (wsV (qz_ow y) i (qz_nm z).cls (qz_nm z) (qz_wd z)) := by
      refine qz_goodT (fun _ h => h) (fun w hw => ?_)
      unfold wsV at hw
      rcases List.mem_append.mp hw with hw | hw
      · simp only [List.mem_cons, List.not_mem_nil, or_false] at hw
        rcases hw with rfl | rfl | rfl | rfl
        · exact hlk
        · exact c9
        · exact c10
        · exact c1
      · exact qz_wd_T hz w hw
    have hrec := va_recv hK hW.1 hq1 (q0 := o) (a := ad o) (fs := qz_flds ad g o fs) (by rw [qz_ws_at hLa]; rfl)
    have hstack : st.map (qz_tr ad) = (t.map (qz_tr ad)).reverse ++ .ref (ad o) :: (st.drop (qz_np z + 1)).map (qz_tr ad) := by
      conv => lhs; rw [hst2]
      rw [List.map_append, List.map_reverse]
      rfl
    have hrun := va_runV (p := p) (l := l) (e := e) (R := R) (below := below) (meth := meth) (locs := locs) (cells := cells) (slots := slots) (As := t.map (qz_tr ad)) (rest := (st.drop (qz_np z + 1)).map (qz_tr ad)) (g := F0 m pc ls (st.map (qz_tr ad))) ⟨hx, hb, hml, hown, hts⟩ hM (cwV (qz_np z) hts hG rfl rfl rfl ⟨rfl, c4, c5, c6⟩ ⟨by show d + 1 ≤ R.frames; exact hR.1, by show 8 + (qz_mx z + 11) + 32 * d ≤ R.locals; have := hR.2.1; omega⟩)
      ⟨qz_blind X dC dI ad cA g H.size _, by rw [c7]; show ∃ cellB : Cell, H[ad o]? = some cellB ∧ cellB.vm.isStatics = false ∧ s.vm.findClass (qz_on1 (qz_oi z)) = some cellB.cls; rw [← hq2]; exact hrec, fun U hU hWm => ⟨rfl, qz_start hK hNW hst hW U hU hWm⟩⟩
      rfl (by rw [List.length_map]; omega) hl.1 hstack (lv_room (by rw [qz_sum_tr]; exact hsum)) hd ⟨hR.2.2.1, hR.2.2.2⟩
    refine qz_after rfl hrun hW.2.2 (fun g' v l2 H1 locs1 hQ hW1 => ?_)
    have h5 := hk _ _ _ _ hQ l dC dI ad cA p e R s m args below meth c cells slots Z C H1 locs1 ls hW1 hl
    rw [List.map_append, qz_rv_tr] at h5
    exact h5
  · exact h.elim
theorem qs_invokestatic {i z : Nat} (h9 : ¬ z = 9999) (hz : z ∈ qz_ms) (hsk : qz_sk z = 1) (hlk : Cond.methodLink (qz_ow y) i (qz_nm z) ∈ qz_T ∨ Cond.methodLinkNest (qz_ow y) i (qz_nm z) "OrphanShelf" ∈ qz_NT) (hd : decode (qz_by y) pc = .ok (.invokestatic i, 3)) (h : qz_step X (qz_Call X d) (.invokestatic i, len, z, b) pc lv st g k Q) (hk : qz_hk X (d + 1) y Q k) : qz_WP X (d + 1) y Q pc lv st g := by
  intro l dC dI ad cA p e R s m args below meth c cells slots Z C H locs ls hW hl
  obtain ⟨hx, hb, hml, hown, hts, hK, hNW, hst, hR, hret⟩ := id C
  simp only [qz_step] at h
  have hz9 : Nat.beq z 9999 = false := by
    cases hb9 : Nat.beq z 9999 with
    | false => rfl
    | true => exact absurd (Nat.eq_of_beq_eq_true hb9) h9
  rw [hz9, cond_false] at h
  unfold qz_inv at h
  obtain ⟨h1, h⟩ := qz_bif h
  simp only [Bool.and_eq_true] at h1
  have hn := Nat.le_of_ble_eq_true h1.1
  have hsum := Nat.le_of_ble_eq_true h1.2
  obtain ⟨c1, c2, -, c4, c5, c6, c7, c8⟩ := qz_chk_at hz
  have c2 := c2 hsk
  have hM := h l dC dI ad cA H.size
  have hstack : st.map (qz_tr ad) = ((st.take (qz_np z)).reverse.map (qz_tr ad)).reverse ++ (st.drop (qz_np z)).map (qz_tr ad) := by
    rw [List.map_reverse, List.reverse_reverse, ← List.map_append, List.take_append_drop]
  have hlen : ((st.take (qz_np z)).reverse.map (qz_tr ad)).length = qz_np z := by
    rw [List.length_map, List.length_reverse, List.length_take]
    omega
  have hroom : (qz_room d).frames + 1 ≤ R.frames ∧ 8 + (qz_mx z + 11) + (qz_room d).locals ≤ R.locals := ⟨by show d + 1 ≤ R.frames; exact hR.1, by show 8 + (qz_mx z + 11) + 32 * d ≤ R.locals; have := hR.2.1; omega⟩
  have hrun : va_Run p l e R s m args below meth c H locs cells slots 0 0 (F0 m pc ls (st.map (qz_tr ad))) ((st.drop (qz_np z)).map (qz_tr ad)) (qz_post X dC dI ad cA H.size z (fun g' v l => k (pc + 3) lv ((qz_rv z v l).toList ++ st.drop (qz_np z)) g')) (qz_A ad H.size) := by
    rcases hlk with hlk | hlk
    · have hG : GoodIn qz_T (va_wsS (qz_ow y) i (qz_nm z) (qz_wd z)) := by
        refine qz_goodT (fun _ h => h) (fun w hw => ?_)
        unfold va_wsS at hw
        rcases List.mem_append.mp hw with hw | hw
        · simp only [List.mem_cons, List.not_mem_nil, or_false] at hw
          rcases hw with rfl | rfl | rfl
          · exact hlk
          · exact c2
          · exact c1
        · exact qz_wd_T hz w hw
      exact va_runS (p := p) (l := l) (e := e) (R := R) (below := below) (meth := meth) (locs := locs) (cells := cells) (slots := slots) (As := (st.take (qz_np z)).reverse.map (qz_tr ad)) (rest := (st.drop (qz_np z)).map (qz_tr ad)) (g := F0 m pc ls (st.map (qz_tr ad))) ⟨hx, hb, hml, hown, hts⟩ hM (va_cwS (qz_np z) hts hG rfl rfl rfl ⟨c4, c5, c6⟩ hroom)
        ⟨qz_blind X dC dI ad cA g H.size _, fun U hU hWm => ⟨rfl, qz_start hK hNW hst hW U hU hWm⟩⟩ rfl hlen hl.1 hstack (lv_room (by rw [qz_sum_tr]; exact hsum)) hd ⟨hR.2.2.1, hR.2.2.2⟩
    · exact va_runSN (p := p) (l := l) (e := e) (R := R) (below := below) (meth := meth) (locs := locs) (cells := cells) (slots := slots) (As := (st.take (qz_np z)).reverse.map (qz_tr ad)) (rest := (st.drop (qz_np z)).map (qz_tr ad)) (g := F0 m pc ls (st.map (qz_tr ad))) ⟨hx, hb, hml, hown, hts⟩ hM ⟨va_cnB (qz_np z) hts (qz_goodT (fun _ h => h) (qz_wd_T hz)) rfl rfl rfl (hNW _ hlk) (hts _ c1) ⟨c4, c5, c6⟩ hroom, hts _ c2, trivial⟩
        ⟨qz_blind X dC dI ad cA g H.size _, fun U hU hWm => ⟨rfl, qz_start hK hNW hst hW U hU hWm⟩⟩ rfl hlen hl.1 hstack (lv_room (by rw [qz_sum_tr]; exact hsum)) hd ⟨hR.2.2.1, hR.2.2.2⟩
  refine qz_after rfl hrun hW.2.2 (fun g' v l2 H1 locs1 hQ hW1 => ?_)
  have h5 := hk _ _ _ _ hQ l dC dI ad cA p e R s m args below meth c cells slots Z C H1 locs1 ls hW1 hl
  rw [List.map_append, qz_rv_tr] at h5
  exact h5
theorem qs_arraycopy {i : Nat} (w1 : Cond.methodLink (qz_ow y) i arraycopyName ∈ qz_T) (w2 : Cond.native arraycopyName ∈ qz_T) (w3 : Cond.static arraycopyName ∈ qz_T) (w4 : Cond.initialized "java/lang/System" ∈ qz_T) (hd : decode (qz_by y) pc = .ok (.invokestatic i, 3)) (h : qz_step X Sg (.invokestatic i, len, 9999, b) pc lv st g k Q) (hk : qz_hk X (d + 1) y Q k) : qz_WP X (d + 1) y Q pc lv st g := by
  intro l dC dI ad cA p e R s m args below meth c cells slots Z C H locs ls hW hl
  obtain ⟨hx, hb, hml, hown, hts, hK, hNW, hst, hR, hret⟩ := id C
  simp only [qz_step] at h
  rw [show Nat.beq 9999 9999 = true from rfl, cond_true] at h
  split at h
  · rename_i n dp o1 sp o0 r
    split at h
    · rename_i n0 n1 hq0 hq1
      obtain ⟨hs, ⟨h1, h2, h3, h4, h5⟩, h⟩ := qz_bif h
      have hs := Nat.le_of_ble_eq_true hs
      refine va_copyi hx hb (hml.trans hl.1.symm) hown (hts _ w1) (hts _ w2) (hts _ w3) (hts _ w4) hK hW.1 hW.2.1 hW.2.2 o0 o1 0 0 (qz_arr_at hq0) (qz_arr_at hq1) rfl rfl rfl h1 h2 h3 h4 h5 (fun _ _ => rfl) (Nat.le_trans (Nat.le_add_left 1 d) hR.1) ?_ hd (fun H1 locs1 hP hD hS => ?_)
      · rw [qz_sum_tr]
        have := hR.2.1
        have e9 : nativeFrameWords "java/lang/System" "arraycopy" 5 + 11 ≤ 24 := by decide
        omega
      · refine hk _ _ _ _ h l dC dI ad cA p e R s m args below meth c cells slots Z C H1 locs1 ls (qz_Wd_set (g := g) (g' := qz_uc g o1 (va_cpy (g.1 o0) (g.1 o1) sp.toNatClampNeg dp.toNatClampNeg n.toNatClampNeg)) hq1 ?_ (qz_uc_ne g o1 _) (fun _ _ => rfl) hP hD hS) hl
        simp only [qz_ent, qz_row, qz_uc_at]
    · exact h.elim
  · exact h.elim
end QS
