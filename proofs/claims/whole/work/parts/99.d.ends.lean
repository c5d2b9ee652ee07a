/-! the reference: ends of pieces, landings -/
def WfK : List qOp → Prop
  | [] => True
  | q :: r => WfK r ∧ (q.1 = 11 → qTop r = 12 ∨ qTop r = 13) ∧ (q.1 = 12 → qTop r = 13) ∧ (r = [] → q.1 = 13)
def EndF (X : qz_X) (d : Nat) (Q : qz_Q) (g : qz_G) : Prop := (qI (g.1 12 32) 0 220) ∧ ((¬ (qTp g) = 10 → (Q g 0 0)) ∧ ((qTp g) = 10 → (vp_in (g.1 12 31) 220 ∧ (qz_WP X (d + 2) 228 Q 0 [(0, .ref 12)] [] (qz_ui (qz_ui (qz_ui (qz_ui g 100 ((g.1 12 31).toNatClampNeg) 10485760) 12 31 ((g.1 12 31) + 1)) 12 32 ((g.1 12 32) - 1)) 12 30 ((g.1 12 30) - 1))))))
theorem EndF_c {X : qz_X} {d : Nat} {Q : qz_Q} {g : qz_G} (h : EndF X d Q g) : qz_Call X (d + 2) 228 [.ref 12] g Q := v_X12_endsPiece g h
theorem EndF_w {X : qz_X} {d : Nat} {Q : qz_Q} {g : qz_G} (h : EndF X d Q g) : qz_WP X (d + 2) 228 Q 0 [(0, .ref 12)] [] g := v_X12_endsPiece_0 g h
theorem nI_dec {o : Nat} (h : 1 ≤ o) : nI o - 1 = nI (o - 1) := by
  have := nI_pred (o - 1)
  rw [show o - 1 + 1 = o from by omega] at this
  exact this
theorem end_main {X : qz_X} {d : Nat} {Q : qz_Q} {n : Nat} {sg : Nat → Nat} {g0 : qz_G} (hn : n ≤ 200) (p : Nat) : ∀ (K1 C : List qOp) (o : Nat) (g : qz_G), RmM n g0 g p o C K1 → PIv p o C K1 [] 0 → ¬ K1 = [] → WfK K1 → (∀ g' o' C' K1', RmM n g0 g' p o' C' K1' → PIv p o' C' K1' [] 0 → ¬ K1' = [] → WfK K1' → ¬ qTop K1' = 10 → (∀ hw, Rch sg (5, hw, p, o, C, K1, []) (5, hw, p, o', C', K1', [])) → Q g' 0 0) → EndF X d Q g := by
  intro K1
  induction K1 with
  | nil => intro C o g _ _ h; exact absurd rfl h
  | cons q r ih =>
    intro C o g h hI _ hw hq
    obtain ⟨x, y⟩ := q
    have hl := hI.len
    have hp := h.2.2.2.2.2.2.2
    have ht := hI.2.2.2.2.2 (x, y) List.mem_cons_self
    have t1 : 10 ≤ x := ht.1
    have t2 : x ≤ 13 := ht.2.1
    have t3 : y < 1000 := ht.2.2.1
    have hl2 := hl.2
    rw [List.length_nil, List.length_cons] at hl2
    have etp : qTp g = nI x := h.tp (by omega) (by show x ≤ 14; omega) (by show y < 1048576; omega)
    have e31 := h.2.2.2.1
    refine ⟨h.w (by rw [List.length_cons]; omega), fun z => ?_, fun z => ?_⟩
    · refine hq g o C ((x, y) :: r) h hI (fun z => by cases z) hw (fun w => z ?_) (fun hw => Rch.rf _ _)
      have w : x = 10 := w
      rw [etp, w]; rfl
    · have hx : x = 10 := by
        rw [etp] at z
        exact nI_inj (by omega) (by omega) (z.trans (by decide : (10 : Int32) = nI 10))
      subst hx
      have hN := piv_not hI
      have hr : ¬ r = [] := fun w => absurd (hw.2.2.2 w) (by show ¬ 10 = 13; decide)
      refine ⟨by rw [e31]; exact qz_vi (by rw [nI_toInt (by omega)]; omega) (by rw [nI_toInt (by omega)]; omega), EndF_w (ih (C ++ [(10, 0)]) (o - 1) _ ?_ hN.1 hr hw.1 ?_)⟩
      · exact ((h.say (q := (10, 0)) (by rw [e31, nI_clamp (by omega)]) (by decide) (by rw [e31, nI_1])).pop (by rw [h.2.2.2.2.1, List.length_cons]; exact nI_pred _)).op (by rw [h.2.2.1]; exact nI_dec hN.2)
      · intro g' o' C' K1' b1 b2 b3 b4 b5 b6
        exact hq g' o' C' K1' b1 b2 b3 b4 b5 (fun hw => ((Rch.rf _ _).st (s5_not _)).tr (b6 hw))
def LanP (X : qz_X) (d : Nat) (Q : qz_Q) (v1 : Int32) (g : qz_G) : Prop := (vp_in ((g.1 12 32) - 1) 220 ∧ (vp_in ((g.1 101 (((g.1 12 32) - 1).toNatClampNeg)) - (g.1 101 (((g.1 12 32) - 1).toNatClampNeg)) / 1048576 * 1048576) 220 ∧ (qz_WP X (d + 2) 229 Q 0 [(0, .ref 12), (1, .int v1)] [] (qz_ui (qz_ui g 100 (((g.1 101 (((g.1 12 32) - 1).toNatClampNeg)) - (g.1 101 (((g.1 12 32) - 1).toNatClampNeg)) / 1048576 * 1048576).toNatClampNeg) ((1048576 * ((g.1 100 (((g.1 101 (((g.1 12 32) - 1).toNatClampNeg)) - (g.1 101 (((g.1 12 32) - 1).toNatClampNeg)) / 1048576 * 1048576).toNatClampNeg)) / 1048576)) + (g.1 12 31))) 12 32 ((g.1 12 32) - 1)))))
def LanF (X : qz_X) (d : Nat) (Q : qz_Q) (v1 : Int32) (g : qz_G) : Prop := (qI (g.1 12 32) 0 220) ∧ (((qTp g) = 11 → LanP X d Q v1 g) ∧ (¬ (qTp g) = 11 → ((v1 = 0 → (Q g 0 0)) ∧ (¬ v1 = 0 → ((¬ (qTp g) = 12 → (Q g 0 0)) ∧ ((qTp g) = 12 → LanP X d Q v1 g))))))
theorem LanF_c {X : qz_X} {d : Nat} {Q : qz_Q} {v1 : Int32} {g : qz_G} (h : LanF X d Q v1 g) : qz_Call X (d + 2) 229 [.ref 12, .int v1] g Q := v_X12_lands g v1 h
theorem LanF_w {X : qz_X} {d : Nat} {Q : qz_Q} {v1 : Int32} {g : qz_G} (h : LanF X d Q v1 g) : qz_WP X (d + 2) 229 Q 0 [(0, .ref 12), (1, .int v1)] [] g := v_X12_lands_0 g v1 h
theorem lan_main {X : qz_X} {d : Nat} {Q : qz_Q} {n : Nat} {sg : Nat → Nat} {g0 : qz_G} (hn : n ≤ 200) (p o : Nat) (v1 : Int32) (hv : v1 = 0 ∨ ¬ sg p = 38) : ∀ (K1 C : List qOp) (g : qz_G), RmM n g0 g p o C K1 → PIv p o C K1 [] 0 → ¬ K1 = [] → WfK K1 → ¬ qTop K1 = 10 → (∀ g' C' K1', RmM n g0 g' p o C' K1' → PIv p o C' K1' [] 0 → ¬ K1' = [] → WfK K1' → (qTop K1' = 12 ∨ qTop K1' = 13) → (¬ v1 = 0 → qTop K1' = 13) → (∀ hw, Rch sg (5, hw, p, o, C, K1, []) (5, hw, p, o, C', K1', [])) → Q g' 0 0) → LanF X d Q v1 g := by
  intro K1
  induction K1 with
  | nil => intro C g _ _ h; exact absurd rfl h
  | cons q r ih =>
    intro C g h hI _ hw h10 hq
    obtain ⟨x, y⟩ := q
    have hl := hI.len
    have hp := h.2.2.2.2.2.2.2
    have ht := hI.2.2.2.2.2 (x, y) List.mem_cons_self
    have t1 : 10 ≤ x := ht.1
    have t2 : x ≤ 13 := ht.2.1
    have t3 : y < 1000 := ht.2.2.1
    have n10 : ¬ x = 10 := h10
    have hl2 := hl.2
    rw [List.length_nil, List.length_cons] at hl2
    have etp : qTp g = nI x := h.tp (by omega) (by show x ≤ 14; omega) (by show y < 1048576; omega)
    have e31 := h.2.2.2.1
    have e32 := h.2.2.2.2.1
    rw [List.length_cons] at e32
    have tx : ∀ k : Nat, k < 100 → (qTp g = nI k ↔ x = k) := fun k hk => by
      rw [etp]
      exact ⟨fun z => nI_inj (by omega) (by omega) z, fun z => by rw [z]⟩
    have t11 : qTp g = 11 ↔ x = 11 := tx 11 (by decide)
    have t12 : qTp g = 12 ↔ x = 12 := tx 12 (by decide)
    have pop : (x = 11 ∨ x = 12 ∧ ¬ v1 = 0) → LanP X d Q v1 g := by
      intro hx
      have hx' : x = 11 ∨ x = 12 := by omega
      obtain ⟨hP1, hj, hC1, hC2⟩ := piv_land hI hx' (by omega)
      have e101 : g.1 101 (g.1 12 32 - 1).toNatClampNeg = qWm (x, y) := by
        rw [e32, nI_pred, nI_clamp (by omega)]
        exact h.2.2.2.2.2.2.1.1
      have dv := qWm_dv (q := (x, y)) (by show x ≤ 14; omega) (by show y < 1048576; omega)
      have dv2 : qWm (x, y) - qWm (x, y) / 1048576 * 1048576 = nI y := dv.2
      unfold LanP
      rw [e101, dv2, nI_clamp (show y < 2147483648 by omega), h.2.2.2.2.2.1 y hj, (qWm_dv (q := qOa C y) (by omega) hC2).1, hC1, e31, e32, nI_pred]
      refine ⟨qz_vi (by rw [nI_toInt (by omega)]; omega) (by rw [nI_toInt (by omega)]; omega), qz_vi (by rw [nI_toInt (by omega)]; omega) (by rw [nI_toInt (by omega)]; omega), LanF_w (ih (C.set y (x, C.length)) _ ?_ hP1 ?_ hw.1 ?_ ?_)⟩
      · refine (h.set (q := (x, C.length)) hj ?_).pop rfl
        rw [show (1048576 : Int32) = nI 1048576 from by decide, nI_mul, nI_add]
        rfl
      · intro w
        have := hw.2.2.2 w
        have this : x = 13 := this
        omega
      · intro w
        rcases hx' with rfl | rfl
        · have := hw.2.1 rfl
          omega
        · have := hw.2.2.1 rfl
          omega
      · intro g' C' K1' b1 b2 b3 b4 b5 b6 b7
        refine hq g' C' K1' b1 b2 b3 b4 b5 b6 (fun hw2 => Rch.tr ((Rch.rf _ _).st ?_) (b7 hw2))
        rcases hx with rfl | ⟨rfl, hv2⟩
        · exact s5_ifn _
        · refine s5_ifl _ ?_
          rcases hv with hv | hv
          · exact absurd hv hv2
          · exact hv
    refine ⟨h.w (by rw [List.length_cons]; omega), fun z => pop (Or.inl (t11.mp z)), fun z => ⟨fun v0 => ?_, fun v0 => ⟨fun z2 => ?_, fun z2 => pop (Or.inr ⟨t12.mp z2, v0⟩)⟩⟩⟩
    · refine hq g C ((x, y) :: r) h hI (fun z => by cases z) hw ?_ (fun w => absurd v0 w) (fun hw => Rch.rf _ _)
      have : ¬ x = 11 := fun w => z (t11.mpr w)
      show x = 12 ∨ x = 13
      omega
    · have n11 : ¬ x = 11 := fun w => z (t11.mpr w)
      have n12 : ¬ x = 12 := fun w => z2 (t12.mpr w)
      refine hq g C ((x, y) :: r) h hI (fun z => by cases z) hw ?_ (fun w => ?_) (fun hw => Rch.rf _ _)
      · show x = 12 ∨ x = 13
        omega
      · show x = 13
        omega
theorem c_jumps {X : qz_X} {d : Nat} {Q : qz_Q} {n : Nat} {g0 : qz_G} (hn : n ≤ 200) (g : qz_G) {p o : Nat} {C K1 : List qOp} (h : RmM n g0 g p o C K1) (hI : PIv p o C K1 [] 0) (hp : p < n) (x : Nat) (hx : x = 11 ∨ x = 12) {c : Int32} (ec : c = nI x) (hq : ∀ g', RmM n g0 g' (p + 1) o (C ++ [(x, 0)]) ((x, C.length) :: K1) → PIv (p + 1) o (C ++ [(x, 0)]) ((x, C.length) :: K1) [] 0 → Q g' 0 0) : qz_Call X (d + 2) 230 [.ref 12, .int c] g Q := by
  have hl := hI.len
  have hl2 := hl.2
  rw [List.length_nil] at hl2
  have e31 := h.2.2.2.1
  have e32 := h.2.2.2.2.1
  refine v_X12_jumps g c ⟨by rw [e32]; exact qz_vi (by rw [nI_toInt (by omega)]; omega) (by rw [nI_toInt (by omega)]; omega), by rw [e31]; exact qz_vi (by rw [nI_toInt (by omega)]; omega) (by rw [nI_toInt (by omega)]; omega), hq _ ?_ (piv_jump hI hx (by omega))⟩
  have a1 := h.push (q := (x, C.length)) (j := (g.1 12 32).toNatClampNeg) (x := 1048576 * c + g.1 12 31) (v := g.1 12 32 + 1) (by rw [e32, nI_clamp (by omega)]) (by rw [ec, e31, show (1048576 : Int32) = nI 1048576 from by decide, nI_mul, nI_add]; rfl) (by rw [e32, nI_1])
  refine (a1.say (q := (x, 0)) (by rw [e31, nI_clamp (by omega)]) ?_ (by rw [e31, nI_1])).pl (by rw [h.2.1, nI_1]) (by omega)
  rw [ec, show (1048576 : Int32) = nI 1048576 from by decide, nI_mul, show (0 : Int32) = nI 0 from by decide, nI_add]
  rfl
