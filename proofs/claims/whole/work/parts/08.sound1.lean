/-! One instruction of the pure machine is one row of the kit. -/
section QS
variable {X : qz_X} {d y : Nat} {Q : qz_Q} {pc : Nat} {lv : qz_L} {st : List Value} {g : qz_G} {k : qz_K} {Sg : qz_S} {len : Nat} {a : Nat} {b : Int}
def qz_hk (X : qz_X) (d y : Nat) (Q : qz_Q) (k : qz_K) : Prop := ∀ (pc : Nat) (lv : qz_L) (st : List Value) (g : qz_G), k pc lv st g → qz_WP X d y Q pc lv st g
theorem qs_iload {i : Nat} (hd : decode (qz_by y) pc = .ok (.iload i, 2)) (h : qz_step X Sg (.iload i, len, a, b) pc lv st g k Q) (hk : qz_hk X d y Q k) : qz_WP X d y Q pc lv st g := by
  intro l dC dI ad cA p e R s m args below meth c cells slots Z C H locs ls hW hl
  obtain ⟨hx, hb, hml, hown, hts, hK, hNW, hst, hR, hret⟩ := id C
  simp only [qz_step] at h
  split at h
  · rename_i v heq
    exact lv_iload hx hb hd (qz_look_at hl heq) (hk _ _ _ _ h l dC dI ad cA p e R s m args below meth c cells slots Z C H locs ls hW hl)
  · exact h.elim
theorem qs_iload_n {i : Fin 4} (hd : decode (qz_by y) pc = .ok (.iload_n i, 1)) (h : qz_step X Sg (.iload_n i, len, a, b) pc lv st g k Q) (hk : qz_hk X d y Q k) : qz_WP X d y Q pc lv st g := by
  intro l dC dI ad cA p e R s m args below meth c cells slots Z C H locs ls hW hl
  obtain ⟨hx, hb, hml, hown, hts, hK, hNW, hst, hR, hret⟩ := id C
  simp only [qz_step] at h
  split at h
  · rename_i v heq
    exact lv_iload_n hx hb hd rfl (qz_look_at hl heq) (hk _ _ _ _ h l dC dI ad cA p e R s m args below meth c cells slots Z C H locs ls hW hl)
  · exact h.elim
theorem qs_aload {i : Nat} (hd : decode (qz_by y) pc = .ok (.aload i, 2)) (h : qz_step X Sg (.aload i, len, a, b) pc lv st g k Q) (hk : qz_hk X d y Q k) : qz_WP X d y Q pc lv st g := by
  intro l dC dI ad cA p e R s m args below meth c cells slots Z C H locs ls hW hl
  obtain ⟨hx, hb, hml, hown, hts, hK, hNW, hst, hR, hret⟩ := id C
  simp only [qz_step] at h
  split at h
  · rename_i v heq
    exact lv_aload hx hb hd (qz_look_at hl heq) (hk _ _ _ _ h l dC dI ad cA p e R s m args below meth c cells slots Z C H locs ls hW hl)
  · exact h.elim
theorem qs_aload_n {i : Fin 4} (hd : decode (qz_by y) pc = .ok (.aload_n i, 1)) (h : qz_step X Sg (.aload_n i, len, a, b) pc lv st g k Q) (hk : qz_hk X d y Q k) : qz_WP X d y Q pc lv st g := by
  intro l dC dI ad cA p e R s m args below meth c cells slots Z C H locs ls hW hl
  obtain ⟨hx, hb, hml, hown, hts, hK, hNW, hst, hR, hret⟩ := id C
  simp only [qz_step] at h
  split at h
  · rename_i v heq
    exact lv_aload_n hx hb hd rfl (qz_look_at hl heq) (hk _ _ _ _ h l dC dI ad cA p e R s m args below meth c cells slots Z C H locs ls hW hl)
  · exact h.elim
theorem qs_lload {i : Nat} (hd : decode (qz_by y) pc = .ok (.lload i, 2)) (h : qz_step X Sg (.lload i, len, a, b) pc lv st g k Q) (hk : qz_hk X d y Q k) : qz_WP X d y Q pc lv st g := by
  intro l dC dI ad cA p e R s m args below meth c cells slots Z C H locs ls hW hl
  obtain ⟨hx, hb, hml, hown, hts, hK, hNW, hst, hR, hret⟩ := id C
  simp only [qz_step] at h
  split at h
  · rename_i v heq
    exact lv_lload hx hb hd (qz_look_at hl heq) (hk _ _ _ _ h l dC dI ad cA p e R s m args below meth c cells slots Z C H locs ls hW hl)
  · exact h.elim
theorem qs_lload_n {i : Fin 4} (hd : decode (qz_by y) pc = .ok (.lload_n i, 1)) (h : qz_step X Sg (.lload_n i, len, a, b) pc lv st g k Q) (hk : qz_hk X d y Q k) : qz_WP X d y Q pc lv st g := by
  intro l dC dI ad cA p e R s m args below meth c cells slots Z C H locs ls hW hl
  obtain ⟨hx, hb, hml, hown, hts, hK, hNW, hst, hR, hret⟩ := id C
  simp only [qz_step] at h
  split at h
  · rename_i v heq
    exact lv_lload_n hx hb hd rfl (qz_look_at hl heq) (hk _ _ _ _ h l dC dI ad cA p e R s m args below meth c cells slots Z C H locs ls hW hl)
  · exact h.elim
theorem qs_iconst {n : Int} (hd : decode (qz_by y) pc = .ok (.iconst n, 1)) (h : qz_step X Sg (.iconst n, len, a, b) pc lv st g k Q) (hk : qz_hk X d y Q k) : qz_WP X d y Q pc lv st g := by
  intro l dC dI ad cA p e R s m args below meth c cells slots Z C H locs ls hW hl
  obtain ⟨hx, hb, hml, hown, hts, hK, hNW, hst, hR, hret⟩ := id C
  simp only [qz_step] at h
  exact lv_iconst hx hb hd rfl (hk _ _ _ _ h l dC dI ad cA p e R s m args below meth c cells slots Z C H locs ls hW hl)
theorem qs_bipush {n : Int} (hd : decode (qz_by y) pc = .ok (.bipush n, 2)) (h : qz_step X Sg (.bipush n, len, a, b) pc lv st g k Q) (hk : qz_hk X d y Q k) : qz_WP X d y Q pc lv st g := by
  intro l dC dI ad cA p e R s m args below meth c cells slots Z C H locs ls hW hl
  obtain ⟨hx, hb, hml, hown, hts, hK, hNW, hst, hR, hret⟩ := id C
  simp only [qz_step] at h
  exact lv_bipush hx hb hd rfl (hk _ _ _ _ h l dC dI ad cA p e R s m args below meth c cells slots Z C H locs ls hW hl)
theorem qs_sipush {n : Int} (hd : decode (qz_by y) pc = .ok (.sipush n, 3)) (h : qz_step X Sg (.sipush n, len, a, b) pc lv st g k Q) (hk : qz_hk X d y Q k) : qz_WP X d y Q pc lv st g := by
  intro l dC dI ad cA p e R s m args below meth c cells slots Z C H locs ls hW hl
  obtain ⟨hx, hb, hml, hown, hts, hK, hNW, hst, hR, hret⟩ := id C
  simp only [qz_step] at h
  exact lv_sipush hx hb hd rfl (hk _ _ _ _ h l dC dI ad cA p e R s m args below meth c cells slots Z C H locs ls hW hl)
theorem qs_lconst {n : Fin 2} (hd : decode (qz_by y) pc = .ok (.lconst n, 1)) (h : qz_step X Sg (.lconst n, len, a, b) pc lv st g k Q) (hk : qz_hk X d y Q k) : qz_WP X d y Q pc lv st g := by
  intro l dC dI ad cA p e R s m args below meth c cells slots Z C H locs ls hW hl
  obtain ⟨hx, hb, hml, hown, hts, hK, hNW, hst, hR, hret⟩ := id C
  simp only [qz_step] at h
  exact lv_lconst hx hb hd rfl (hk _ _ _ _ h l dC dI ad cA p e R s m args below meth c cells slots Z C H locs ls hW hl)
theorem qs_iadd (hd : decode (qz_by y) pc = .ok (.iadd, 1)) (h : qz_step X Sg (.iadd, len, a, b) pc lv st g k Q) (hk : qz_hk X d y Q k) : qz_WP X d y Q pc lv st g := by
  intro l dC dI ad cA p e R s m args below meth c cells slots Z C H locs ls hW hl
  obtain ⟨hx, hb, hml, hown, hts, hK, hNW, hst, hR, hret⟩ := id C
  simp only [qz_step] at h
  split at h
  · exact lv_iadd hx hb hd (hk _ _ _ _ h l dC dI ad cA p e R s m args below meth c cells slots Z C H locs ls hW hl)
  · exact h.elim
theorem qs_isub (hd : decode (qz_by y) pc = .ok (.isub, 1)) (h : qz_step X Sg (.isub, len, a, b) pc lv st g k Q) (hk : qz_hk X d y Q k) : qz_WP X d y Q pc lv st g := by
  intro l dC dI ad cA p e R s m args below meth c cells slots Z C H locs ls hW hl
  obtain ⟨hx, hb, hml, hown, hts, hK, hNW, hst, hR, hret⟩ := id C
  simp only [qz_step] at h
  split at h
  · exact lv_isub hx hb hd (hk _ _ _ _ h l dC dI ad cA p e R s m args below meth c cells slots Z C H locs ls hW hl)
  · exact h.elim
theorem qs_imul (hd : decode (qz_by y) pc = .ok (.imul, 1)) (h : qz_step X Sg (.imul, len, a, b) pc lv st g k Q) (hk : qz_hk X d y Q k) : qz_WP X d y Q pc lv st g := by
  intro l dC dI ad cA p e R s m args below meth c cells slots Z C H locs ls hW hl
  obtain ⟨hx, hb, hml, hown, hts, hK, hNW, hst, hR, hret⟩ := id C
  simp only [qz_step] at h
  split at h
  · exact lv_imul hx hb hd (hk _ _ _ _ h l dC dI ad cA p e R s m args below meth c cells slots Z C H locs ls hW hl)
  · exact h.elim
theorem qs_iand (hd : decode (qz_by y) pc = .ok (.iand, 1)) (h : qz_step X Sg (.iand, len, a, b) pc lv st g k Q) (hk : qz_hk X d y Q k) : qz_WP X d y Q pc lv st g := by
  intro l dC dI ad cA p e R s m args below meth c cells slots Z C H locs ls hW hl
  obtain ⟨hx, hb, hml, hown, hts, hK, hNW, hst, hR, hret⟩ := id C
  simp only [qz_step] at h
  split at h
  · exact lv_iand hx hb hd (hk _ _ _ _ h l dC dI ad cA p e R s m args below meth c cells slots Z C H locs ls hW hl)
  · exact h.elim
theorem qs_ior (hd : decode (qz_by y) pc = .ok (.ior, 1)) (h : qz_step X Sg (.ior, len, a, b) pc lv st g k Q) (hk : qz_hk X d y Q k) : qz_WP X d y Q pc lv st g := by
  intro l dC dI ad cA p e R s m args below meth c cells slots Z C H locs ls hW hl
  obtain ⟨hx, hb, hml, hown, hts, hK, hNW, hst, hR, hret⟩ := id C
  simp only [qz_step] at h
  split at h
  · exact lv_ior hx hb hd (hk _ _ _ _ h l dC dI ad cA p e R s m args below meth c cells slots Z C H locs ls hW hl)
  · exact h.elim
theorem qs_ixor (hd : decode (qz_by y) pc = .ok (.ixor, 1)) (h : qz_step X Sg (.ixor, len, a, b) pc lv st g k Q) (hk : qz_hk X d y Q k) : qz_WP X d y Q pc lv st g := by
  intro l dC dI ad cA p e R s m args below meth c cells slots Z C H locs ls hW hl
  obtain ⟨hx, hb, hml, hown, hts, hK, hNW, hst, hR, hret⟩ := id C
  simp only [qz_step] at h
  split at h
  · exact lv_ixor hx hb hd (hk _ _ _ _ h l dC dI ad cA p e R s m args below meth c cells slots Z C H locs ls hW hl)
  · exact h.elim
theorem qs_ishl (hd : decode (qz_by y) pc = .ok (.ishl, 1)) (h : qz_step X Sg (.ishl, len, a, b) pc lv st g k Q) (hk : qz_hk X d y Q k) : qz_WP X d y Q pc lv st g := by
  intro l dC dI ad cA p e R s m args below meth c cells slots Z C H locs ls hW hl
  obtain ⟨hx, hb, hml, hown, hts, hK, hNW, hst, hR, hret⟩ := id C
  simp only [qz_step] at h
  split at h
  · exact lv_ishl hx hb hd (hk _ _ _ _ h l dC dI ad cA p e R s m args below meth c cells slots Z C H locs ls hW hl)
  · exact h.elim
theorem qs_ishr (hd : decode (qz_by y) pc = .ok (.ishr, 1)) (h : qz_step X Sg (.ishr, len, a, b) pc lv st g k Q) (hk : qz_hk X d y Q k) : qz_WP X d y Q pc lv st g := by
  intro l dC dI ad cA p e R s m args below meth c cells slots Z C H locs ls hW hl
  obtain ⟨hx, hb, hml, hown, hts, hK, hNW, hst, hR, hret⟩ := id C
  simp only [qz_step] at h
  split at h
  · exact lv_ishr hx hb hd (hk _ _ _ _ h l dC dI ad cA p e R s m args below meth c cells slots Z C H locs ls hW hl)
  · exact h.elim
theorem qs_iushr (hd : decode (qz_by y) pc = .ok (.iushr, 1)) (h : qz_step X Sg (.iushr, len, a, b) pc lv st g k Q) (hk : qz_hk X d y Q k) : qz_WP X d y Q pc lv st g := by
  intro l dC dI ad cA p e R s m args below meth c cells slots Z C H locs ls hW hl
  obtain ⟨hx, hb, hml, hown, hts, hK, hNW, hst, hR, hret⟩ := id C
  simp only [qz_step] at h
  split at h
  · exact lv_iushr hx hb hd rfl (hk _ _ _ _ h l dC dI ad cA p e R s m args below meth c cells slots Z C H locs ls hW hl)
  · exact h.elim
theorem qs_ladd (hd : decode (qz_by y) pc = .ok (.ladd, 1)) (h : qz_step X Sg (.ladd, len, a, b) pc lv st g k Q) (hk : qz_hk X d y Q k) : qz_WP X d y Q pc lv st g := by
  intro l dC dI ad cA p e R s m args below meth c cells slots Z C H locs ls hW hl
  obtain ⟨hx, hb, hml, hown, hts, hK, hNW, hst, hR, hret⟩ := id C
  simp only [qz_step] at h
  split at h
  · exact lv_ladd hx hb hd (hk _ _ _ _ h l dC dI ad cA p e R s m args below meth c cells slots Z C H locs ls hW hl)
  · exact h.elim
theorem qs_lsub (hd : decode (qz_by y) pc = .ok (.lsub, 1)) (h : qz_step X Sg (.lsub, len, a, b) pc lv st g k Q) (hk : qz_hk X d y Q k) : qz_WP X d y Q pc lv st g := by
  intro l dC dI ad cA p e R s m args below meth c cells slots Z C H locs ls hW hl
  obtain ⟨hx, hb, hml, hown, hts, hK, hNW, hst, hR, hret⟩ := id C
  simp only [qz_step] at h
  split at h
  · exact lv_lsub hx hb hd (hk _ _ _ _ h l dC dI ad cA p e R s m args below meth c cells slots Z C H locs ls hW hl)
  · exact h.elim
theorem qs_lmul (hd : decode (qz_by y) pc = .ok (.lmul, 1)) (h : qz_step X Sg (.lmul, len, a, b) pc lv st g k Q) (hk : qz_hk X d y Q k) : qz_WP X d y Q pc lv st g := by
  intro l dC dI ad cA p e R s m args below meth c cells slots Z C H locs ls hW hl
  obtain ⟨hx, hb, hml, hown, hts, hK, hNW, hst, hR, hret⟩ := id C
  simp only [qz_step] at h
  split at h
  · exact lv_lmul hx hb hd (hk _ _ _ _ h l dC dI ad cA p e R s m args below meth c cells slots Z C H locs ls hW hl)
  · exact h.elim
theorem qs_lcmp (hd : decode (qz_by y) pc = .ok (.lcmp, 1)) (h : qz_step X Sg (.lcmp, len, a, b) pc lv st g k Q) (hk : qz_hk X d y Q k) : qz_WP X d y Q pc lv st g := by
  intro l dC dI ad cA p e R s m args below meth c cells slots Z C H locs ls hW hl
  obtain ⟨hx, hb, hml, hown, hts, hK, hNW, hst, hR, hret⟩ := id C
  simp only [qz_step] at h
  split at h
  · exact W.lcmp hx hb hd (hk _ _ _ _ h l dC dI ad cA p e R s m args below meth c cells slots Z C H locs ls hW hl)
  · exact h.elim
theorem qs_idiv (hd : decode (qz_by y) pc = .ok (.idiv, 1)) (h : qz_step X Sg (.idiv, len, a, b) pc lv st g k Q) (hk : qz_hk X d y Q k) : qz_WP X d y Q pc lv st g := by
  intro l dC dI ad cA p e R s m args below meth c cells slots Z C H locs ls hW hl
  obtain ⟨hx, hb, hml, hown, hts, hK, hNW, hst, hR, hret⟩ := id C
  simp only [qz_step] at h
  split at h
  · obtain ⟨h0, h⟩ := h
    exact lv_idiv hx hb hd h0 (hk _ _ _ _ h l dC dI ad cA p e R s m args below meth c cells slots Z C H locs ls hW hl)
  · exact h.elim
theorem qs_irem (hd : decode (qz_by y) pc = .ok (.irem, 1)) (h : qz_step X Sg (.irem, len, a, b) pc lv st g k Q) (hk : qz_hk X d y Q k) : qz_WP X d y Q pc lv st g := by
  intro l dC dI ad cA p e R s m args below meth c cells slots Z C H locs ls hW hl
  obtain ⟨hx, hb, hml, hown, hts, hK, hNW, hst, hR, hret⟩ := id C
  simp only [qz_step] at h
  split at h
  · obtain ⟨h0, h⟩ := h
    exact lv_irem hx hb hd h0 (hk _ _ _ _ h l dC dI ad cA p e R s m args below meth c cells slots Z C H locs ls hW hl)
  · exact h.elim
theorem qs_ldiv (hd : decode (qz_by y) pc = .ok (.ldiv, 1)) (h : qz_step X Sg (.ldiv, len, a, b) pc lv st g k Q) (hk : qz_hk X d y Q k) : qz_WP X d y Q pc lv st g := by
  intro l dC dI ad cA p e R s m args below meth c cells slots Z C H locs ls hW hl
  obtain ⟨hx, hb, hml, hown, hts, hK, hNW, hst, hR, hret⟩ := id C
  simp only [qz_step] at h
  split at h
  · obtain ⟨h0, h⟩ := h
    exact lv_ldiv hx hb hd h0 (hk _ _ _ _ h l dC dI ad cA p e R s m args below meth c cells slots Z C H locs ls hW hl)
  · exact h.elim
theorem qs_i2l (hd : decode (qz_by y) pc = .ok (.i2l, 1)) (h : qz_step X Sg (.i2l, len, a, b) pc lv st g k Q) (hk : qz_hk X d y Q k) : qz_WP X d y Q pc lv st g := by
  intro l dC dI ad cA p e R s m args below meth c cells slots Z C H locs ls hW hl
  obtain ⟨hx, hb, hml, hown, hts, hK, hNW, hst, hR, hret⟩ := id C
  simp only [qz_step] at h
  split at h
  · exact lv_i2l hx hb hd rfl (hk _ _ _ _ h l dC dI ad cA p e R s m args below meth c cells slots Z C H locs ls hW hl)
  · exact h.elim
theorem qs_i2b (hd : decode (qz_by y) pc = .ok (.i2b, 1)) (h : qz_step X Sg (.i2b, len, a, b) pc lv st g k Q) (hk : qz_hk X d y Q k) : qz_WP X d y Q pc lv st g := by
  intro l dC dI ad cA p e R s m args below meth c cells slots Z C H locs ls hW hl
  obtain ⟨hx, hb, hml, hown, hts, hK, hNW, hst, hR, hret⟩ := id C
  simp only [qz_step] at h
  split at h
  · exact lv_i2b hx hb hd rfl (hk _ _ _ _ h l dC dI ad cA p e R s m args below meth c cells slots Z C H locs ls hW hl)
  · exact h.elim
theorem qz_bif {c : Bool} {P : Prop} (h : bif c then P else False) : c = true ∧ P := by
  cases c with
  | true => exact ⟨rfl, h⟩
  | false => exact h.elim
theorem qs_dup (hd : decode (qz_by y) pc = .ok (.dup, 1)) (h : qz_step X Sg (.dup, len, a, b) pc lv st g k Q) (hk : qz_hk X d y Q k) : qz_WP X d y Q pc lv st g := by
  intro l dC dI ad cA p e R s m args below meth c cells slots Z C H locs ls hW hl
  obtain ⟨hx, hb, hml, hown, hts, hK, hNW, hst, hR, hret⟩ := id C
  simp only [qz_step] at h
  split at h
  · rename_i v r
    obtain ⟨h0, h⟩ := qz_bif h
    exact lv_dup hx hb hd (by rw [qz_cat_tr]; exact Nat.eq_of_beq_eq_true h0) (hk _ _ _ _ h l dC dI ad cA p e R s m args below meth c cells slots Z C H locs ls hW hl)
  · exact h.elim
theorem qs_pop (hd : decode (qz_by y) pc = .ok (.pop, 1)) (h : qz_step X Sg (.pop, len, a, b) pc lv st g k Q) (hk : qz_hk X d y Q k) : qz_WP X d y Q pc lv st g := by
  intro l dC dI ad cA p e R s m args below meth c cells slots Z C H locs ls hW hl
  obtain ⟨hx, hb, hml, hown, hts, hK, hNW, hst, hR, hret⟩ := id C
  simp only [qz_step] at h
  split at h
  · rename_i v r
    obtain ⟨h0, h⟩ := qz_bif h
    exact lv_pop hx hb hd (by rw [qz_cat_tr]; exact Nat.eq_of_beq_eq_true h0) (hk _ _ _ _ h l dC dI ad cA p e R s m args below meth c cells slots Z C H locs ls hW hl)
  · exact h.elim
theorem qs_dup2 (hd : decode (qz_by y) pc = .ok (.dup2, 1)) (h : qz_step X Sg (.dup2, len, a, b) pc lv st g k Q) (hk : qz_hk X d y Q k) : qz_WP X d y Q pc lv st g := by
  intro l dC dI ad cA p e R s m args below meth c cells slots Z C H locs ls hW hl
  obtain ⟨hx, hb, hml, hown, hts, hK, hNW, hst, hR, hret⟩ := id C
  simp only [qz_step] at h
  split at h
  · rename_i v w r
    obtain ⟨h0, h⟩ := qz_bif h
    simp only [Bool.and_eq_true] at h0
    exact lv_dup2_11 hx hb hd (by rw [qz_cat_tr]; exact Nat.eq_of_beq_eq_true h0.1) (by rw [qz_cat_tr]; exact Nat.eq_of_beq_eq_true h0.2) (hk _ _ _ _ h l dC dI ad cA p e R s m args below meth c cells slots Z C H locs ls hW hl)
  · exact h.elim
theorem qz_tgt_eq {pc : Nat} {off : Int} (h : 0 ≤ (pc : Int) + off) : (pc : Int) + off = ((qz_tgt pc off : Nat) : Int) := by
  unfold qz_tgt
  omega
theorem qs_goto {off : Int} (ht : 0 ≤ (pc : Int) + off) (hd : decode (qz_by y) pc = .ok (.goto off, 3)) (h : qz_step X Sg (.goto off, len, a, b) pc lv st g k Q) (hk : qz_hk X d y Q k) : qz_WP X d y Q pc lv st g := by
  intro l dC dI ad cA p e R s m args below meth c cells slots Z C H locs ls hW hl
  obtain ⟨hx, hb, hml, hown, hts, hK, hNW, hst, hR, hret⟩ := id C
  simp only [qz_step] at h
  exact lv_goto hx hb hd (qz_tgt_eq ht) (hk _ _ _ _ h l dC dI ad cA p e R s m args below meth c cells slots Z C H locs ls hW hl)
abbrev qz_go (X : qz_X) (d y : Nat) (Q : qz_Q) (pc : Nat) (lv : qz_L) (st : List Value) (g : qz_G) : Prop := qz_WP X d y Q pc lv st g
theorem qs_if {cd : ClassFile.Cond} {off : Int} (ht : 0 ≤ (pc : Int) + off) (hd : decode (qz_by y) pc = .ok (.ifCond cd off, 3)) (h : qz_step X Sg (.ifCond cd off, len, a, b) pc lv st g k Q) (hk : qz_hk X d y Q k) : qz_WP X d y Q pc lv st g := by
  intro l dC dI ad cA p e R s m args below meth c cells slots Z C H locs ls hW hl
  obtain ⟨hx, hb, hml, hown, hts, hK, hNW, hst, hR, hret⟩ := id C
  simp only [qz_step] at h
  split at h
  · cases cd with
    | eq => exact lv_if_eq hx hb hd (qz_tgt_eq ht) (fun hc => hk _ _ _ _ (h.1 hc) l dC dI ad cA p e R s m args below meth c cells slots Z C H locs ls hW hl) (fun hc => hk _ _ _ _ (h.2 hc) l dC dI ad cA p e R s m args below meth c cells slots Z C H locs ls hW hl)
    | ne => exact lv_if_ne hx hb hd (qz_tgt_eq ht) (fun hc => hk _ _ _ _ (h.1 hc) l dC dI ad cA p e R s m args below meth c cells slots Z C H locs ls hW hl) (fun hc => hk _ _ _ _ (h.2 hc) l dC dI ad cA p e R s m args below meth c cells slots Z C H locs ls hW hl)
    | lt => exact lv_if_lt hx hb hd (qz_tgt_eq ht) (fun hc => hk _ _ _ _ (h.1 hc) l dC dI ad cA p e R s m args below meth c cells slots Z C H locs ls hW hl) (fun hc => hk _ _ _ _ (h.2 hc) l dC dI ad cA p e R s m args below meth c cells slots Z C H locs ls hW hl)
    | ge => exact lv_if_ge hx hb hd (qz_tgt_eq ht) (fun hc => hk _ _ _ _ (h.1 hc) l dC dI ad cA p e R s m args below meth c cells slots Z C H locs ls hW hl) (fun hc => hk _ _ _ _ (h.2 hc) l dC dI ad cA p e R s m args below meth c cells slots Z C H locs ls hW hl)
    | gt => exact lv_if_gt hx hb hd (qz_tgt_eq ht) (fun hc => hk _ _ _ _ (h.1 hc) l dC dI ad cA p e R s m args below meth c cells slots Z C H locs ls hW hl) (fun hc => hk _ _ _ _ (h.2 hc) l dC dI ad cA p e R s m args below meth c cells slots Z C H locs ls hW hl)
    | le => exact lv_if_le hx hb hd (qz_tgt_eq ht) (fun hc => hk _ _ _ _ (h.1 hc) l dC dI ad cA p e R s m args below meth c cells slots Z C H locs ls hW hl) (fun hc => hk _ _ _ _ (h.2 hc) l dC dI ad cA p e R s m args below meth c cells slots Z C H locs ls hW hl)
  · exact h.elim
theorem qs_icmp {cd : ClassFile.Cond} {off : Int} (ht : 0 ≤ (pc : Int) + off) (hd : decode (qz_by y) pc = .ok (.if_icmp cd off, 3)) (h : qz_step X Sg (.if_icmp cd off, len, a, b) pc lv st g k Q) (hk : qz_hk X d y Q k) : qz_WP X d y Q pc lv st g := by
  intro l dC dI ad cA p e R s m args below meth c cells slots Z C H locs ls hW hl
  obtain ⟨hx, hb, hml, hown, hts, hK, hNW, hst, hR, hret⟩ := id C
  simp only [qz_step] at h
  split at h
  · cases cd with
    | eq => exact lv_icmp_eq hx hb hd (qz_tgt_eq ht) (fun hc => hk _ _ _ _ (h.1 hc) l dC dI ad cA p e R s m args below meth c cells slots Z C H locs ls hW hl) (fun hc => hk _ _ _ _ (h.2 hc) l dC dI ad cA p e R s m args below meth c cells slots Z C H locs ls hW hl)
    | ne => exact lv_icmp_ne hx hb hd (qz_tgt_eq ht) (fun hc => hk _ _ _ _ (h.1 hc) l dC dI ad cA p e R s m args below meth c cells slots Z C H locs ls hW hl) (fun hc => hk _ _ _ _ (h.2 hc) l dC dI ad cA p e R s m args below meth c cells slots Z C H locs ls hW hl)
    | lt => exact lv_icmp_lt hx hb hd (qz_tgt_eq ht) (fun hc => hk _ _ _ _ (h.1 hc) l dC dI ad cA p e R s m args below meth c cells slots Z C H locs ls hW hl) (fun hc => hk _ _ _ _ (h.2 hc) l dC dI ad cA p e R s m args below meth c cells slots Z C H locs ls hW hl)
    | ge => exact lv_icmp_ge hx hb hd (qz_tgt_eq ht) (fun hc => hk _ _ _ _ (h.1 hc) l dC dI ad cA p e R s m args below meth c cells slots Z C H locs ls hW hl) (fun hc => hk _ _ _ _ (h.2 hc) l dC dI ad cA p e R s m args below meth c cells slots Z C H locs ls hW hl)
    | gt => exact lv_icmp_gt hx hb hd (qz_tgt_eq ht) (fun hc => hk _ _ _ _ (h.1 hc) l dC dI ad cA p e R s m args below meth c cells slots Z C H locs ls hW hl) (fun hc => hk _ _ _ _ (h.2 hc) l dC dI ad cA p e R s m args below meth c cells slots Z C H locs ls hW hl)
    | le => exact lv_icmp_le hx hb hd (qz_tgt_eq ht) (fun hc => hk _ _ _ _ (h.1 hc) l dC dI ad cA p e R s m args below meth c cells slots Z C H locs ls hW hl) (fun hc => hk _ _ _ _ (h.2 hc) l dC dI ad cA p e R s m args below meth c cells slots Z C H locs ls hW hl)
  · exact h.elim
end QS
