/-! memory that is the same but for what is only used within a call -/
def qz_kr : List Nat := [13, 14, 15, 16, 17, 18, 19, 20, 21, 22, 23, 24, 25, 26, 27, 28, 29, 30, 31, 32, 34, 35, 36, 37, 38, 39, 40, 41, 42, 43, 44, 45, 46, 47, 48, 49, 50, 52, 53, 54, 55, 56, 59, 61, 62, 67, 68, 69, 70, 71, 72, 73, 74, 79, 81, 82, 83, 84, 85, 86, 87, 88, 89, 90, 91, 92, 93, 94, 95, 96, 97, 98, 99, 107, 108, 109, 110, 111, 112, 113, 114, 115, 116, 120, 121, 122, 123, 124, 125, 126, 127, 128, 129, 130, 131, 132, 133, 134, 135, 136, 137, 138, 139, 140, 141, 142, 146]
def qz_ks : List (Nat × Nat) := [(0, 10), (2, 8), (3, 12), (2, 9), (1, 1), (6, 17), (4, 13), (4, 14), (4, 15), (10, 12), (10, 13), (12, 0), (12, 1), (12, 2), (12, 3), (12, 25), (12, 41), (12, 55), (12, 56), (12, 71), (12, 72), (12, 73), (6, 16)]
def Same (g g' : qz_G) : Prop := (∀ r ∈ qz_kr, g'.1 r = g.1 r) ∧ (∀ q ∈ qz_ks, g'.1 q.1 q.2 = g.1 q.1 q.2) ∧ g'.2 75 = g.2 75 ∧ g'.2 143 = g.2 143
theorem Same.rf (g : qz_G) : Same g g := ⟨fun _ _ => rfl, fun _ _ => rfl, rfl, rfl⟩
theorem Same.tr {g g1 g2 : qz_G} (h1 : Same g g1) (h2 : Same g1 g2) : Same g g2 := ⟨fun r hr => (h2.1 r hr).trans (h1.1 r hr), fun q hq => (h2.2.1 q hq).trans (h1.2.1 q hq), h2.2.2.1.trans h1.2.2.1, h2.2.2.2.trans h1.2.2.2⟩
theorem Same.ui {g g' : qz_G} (h : Same g g') (o j : Nat) (v : Int32) (ho : qz_kr.elem o = false) (hj : qz_ks.elem (o, j) = false) : Same g (qz_ui g' o j v) := by
  refine h.tr ⟨fun r hr => ?_, fun q hq => ?_, rfl, rfl⟩
  · have hne : r ≠ o := fun e => by
      rw [e] at hr
      rw [List.elem_eq_true_of_mem hr] at ho
      cases ho
    exact qz_ui_ne g' o j v r hne
  · have hne : ¬ (q.1 = o ∧ q.2 = j) := fun e => by
      have e2 : q = (o, j) := Prod.ext e.1 e.2
      rw [e2] at hq
      rw [List.elem_eq_true_of_mem hq] at hj
      cases hj
    show (if q.1 = o ∧ q.2 = j then v else g'.1 q.1 q.2) = _
    rw [if_neg hne]
theorem Same.row {g g' : qz_G} (h : Same g g') (o j : Nat) (v : Int32) (ho : qz_kr.elem o = false) (hs : (qz_ks.all (fun q => !(Nat.beq q.1 o))) = true) : Same g (qz_ui g' o j v) := by
  refine h.ui o j v ho ?_
  cases hj : qz_ks.elem (o, j) with
  | false => rfl
  | true =>
    have h1 := List.all_eq_true.mp hs _ (List.mem_of_elem_eq_true hj)
    simp at h1
theorem Same.uc {g g' : qz_G} (h : Same g g') (o : Nat) (f : Nat → Int32) (ho : qz_kr.elem o = false) (hs : (qz_ks.all (fun q => !(Nat.beq q.1 o))) = true) : Same g (qz_uc g' o f) := by
  refine h.tr ⟨fun r hr => ?_, fun q hq => ?_, rfl, rfl⟩
  · have hne : r ≠ o := fun e => by
      rw [e] at hr
      rw [List.elem_eq_true_of_mem hr] at ho
      cases ho
    exact qz_uc_ne g' o f r hne
  · have hne : ¬ q.1 = o := fun e => by
      have h1 := List.all_eq_true.mp hs _ hq
      rw [e] at h1
      simp at h1
    show (if q.1 = o then f q.2 else g'.1 q.1 q.2) = _
    rw [if_neg hne]
theorem Same.ul {g g' : qz_G} (h : Same g g') (o j : Nat) (v : Int64) (ho : ¬ o = 75 ∧ ¬ o = 143) : Same g (qz_ul g' o j v) := h.tr ⟨fun _ _ => rfl, fun _ _ => rfl, qz_ul_ne g' o j v 75 (fun e => ho.1 e.symm), qz_ul_ne g' o j v 143 (fun e => ho.2 e.symm)⟩
theorem Rel_same {g g' : qz_G} (hR : Rel g) (h : Same g g') : Rel g' := by
  have h13 := h.1 13 (by decide)
  have h14 := h.1 14 (by decide)
  have h15 := h.1 15 (by decide)
  have h16 := h.1 16 (by decide)
  have h17 := h.1 17 (by decide)
  have h18 := h.1 18 (by decide)
  have h19 := h.1 19 (by decide)
  have h20 := h.1 20 (by decide)
  have h21 := h.1 21 (by decide)
  have h22 := h.1 22 (by decide)
  have h23 := h.1 23 (by decide)
  have h24 := h.1 24 (by decide)
  have h25 := h.1 25 (by decide)
  have h26 := h.1 26 (by decide)
  have h27 := h.1 27 (by decide)
  have h28 := h.1 28 (by decide)
  have h29 := h.1 29 (by decide)
  have h30 := h.1 30 (by decide)
  have h31 := h.1 31 (by decide)
  have h32 := h.1 32 (by decide)
  have h34 := h.1 34 (by decide)
  have h35 := h.1 35 (by decide)
  have h36 := h.1 36 (by decide)
  have h37 := h.1 37 (by decide)
  have h38 := h.1 38 (by decide)
  have h39 := h.1 39 (by decide)
  have h40 := h.1 40 (by decide)
  have h41 := h.1 41 (by decide)
  have h42 := h.1 42 (by decide)
  have h43 := h.1 43 (by decide)
  have h44 := h.1 44 (by decide)
  have h45 := h.1 45 (by decide)
  have h46 := h.1 46 (by decide)
  have h47 := h.1 47 (by decide)
  have h48 := h.1 48 (by decide)
  have h49 := h.1 49 (by decide)
  have h50 := h.1 50 (by decide)
  have h52 := h.1 52 (by decide)
  have h53 := h.1 53 (by decide)
  have h54 := h.1 54 (by decide)
  have h55 := h.1 55 (by decide)
  have h56 := h.1 56 (by decide)
  have h59 := h.1 59 (by decide)
  have h61 := h.1 61 (by decide)
  have h62 := h.1 62 (by decide)
  have h67 := h.1 67 (by decide)
  have h68 := h.1 68 (by decide)
  have h69 := h.1 69 (by decide)
  have h70 := h.1 70 (by decide)
  have h71 := h.1 71 (by decide)
  have h72 := h.1 72 (by decide)
  have h73 := h.1 73 (by decide)
  have h74 := h.1 74 (by decide)
  have h79 := h.1 79 (by decide)
  have h81 := h.1 81 (by decide)
  have h82 := h.1 82 (by decide)
  have h83 := h.1 83 (by decide)
  have h84 := h.1 84 (by decide)
  have h85 := h.1 85 (by decide)
  have h86 := h.1 86 (by decide)
  have h87 := h.1 87 (by decide)
  have h88 := h.1 88 (by decide)
  have h89 := h.1 89 (by decide)
  have h90 := h.1 90 (by decide)
  have h91 := h.1 91 (by decide)
  have h92 := h.1 92 (by decide)
  have h93 := h.1 93 (by decide)
  have h94 := h.1 94 (by decide)
  have h95 := h.1 95 (by decide)
  have h96 := h.1 96 (by decide)
  have h97 := h.1 97 (by decide)
  have h98 := h.1 98 (by decide)
  have h99 := h.1 99 (by decide)
  have h107 := h.1 107 (by decide)
  have h108 := h.1 108 (by decide)
  have h109 := h.1 109 (by decide)
  have h110 := h.1 110 (by decide)
  have h111 := h.1 111 (by decide)
  have h112 := h.1 112 (by decide)
  have h113 := h.1 113 (by decide)
  have h114 := h.1 114 (by decide)
  have h115 := h.1 115 (by decide)
  have h116 := h.1 116 (by decide)
  have h120 := h.1 120 (by decide)
  have h121 := h.1 121 (by decide)
  have h122 := h.1 122 (by decide)
  have h123 := h.1 123 (by decide)
  have h124 := h.1 124 (by decide)
  have h125 := h.1 125 (by decide)
  have h126 := h.1 126 (by decide)
  have h127 := h.1 127 (by decide)
  have h128 := h.1 128 (by decide)
  have h129 := h.1 129 (by decide)
  have h130 := h.1 130 (by decide)
  have h131 := h.1 131 (by decide)
  have h132 := h.1 132 (by decide)
  have h133 := h.1 133 (by decide)
  have h134 := h.1 134 (by decide)
  have h135 := h.1 135 (by decide)
  have h136 := h.1 136 (by decide)
  have h137 := h.1 137 (by decide)
  have h138 := h.1 138 (by decide)
  have h139 := h.1 139 (by decide)
  have h140 := h.1 140 (by decide)
  have h141 := h.1 141 (by decide)
  have h142 := h.1 142 (by decide)
  have h146 := h.1 146 (by decide)
  have s0_10 : g'.1 0 10 = g.1 0 10 := h.2.1 (0, 10) (by decide)
  have s2_8 : g'.1 2 8 = g.1 2 8 := h.2.1 (2, 8) (by decide)
  have s3_12 : g'.1 3 12 = g.1 3 12 := h.2.1 (3, 12) (by decide)
  have s2_9 : g'.1 2 9 = g.1 2 9 := h.2.1 (2, 9) (by decide)
  have s1_1 : g'.1 1 1 = g.1 1 1 := h.2.1 (1, 1) (by decide)
  have s6_17 : g'.1 6 17 = g.1 6 17 := h.2.1 (6, 17) (by decide)
  have s4_13 : g'.1 4 13 = g.1 4 13 := h.2.1 (4, 13) (by decide)
  have s4_14 : g'.1 4 14 = g.1 4 14 := h.2.1 (4, 14) (by decide)
  have s4_15 : g'.1 4 15 = g.1 4 15 := h.2.1 (4, 15) (by decide)
  have s10_12 : g'.1 10 12 = g.1 10 12 := h.2.1 (10, 12) (by decide)
  have s10_13 : g'.1 10 13 = g.1 10 13 := h.2.1 (10, 13) (by decide)
  have s12_0 : g'.1 12 0 = g.1 12 0 := h.2.1 (12, 0) (by decide)
  have s12_1 : g'.1 12 1 = g.1 12 1 := h.2.1 (12, 1) (by decide)
  have s12_2 : g'.1 12 2 = g.1 12 2 := h.2.1 (12, 2) (by decide)
  have s12_3 : g'.1 12 3 = g.1 12 3 := h.2.1 (12, 3) (by decide)
  have s12_25 : g'.1 12 25 = g.1 12 25 := h.2.1 (12, 25) (by decide)
  have s12_41 : g'.1 12 41 = g.1 12 41 := h.2.1 (12, 41) (by decide)
  have s12_55 : g'.1 12 55 = g.1 12 55 := h.2.1 (12, 55) (by decide)
  have s12_56 : g'.1 12 56 = g.1 12 56 := h.2.1 (12, 56) (by decide)
  have s12_71 : g'.1 12 71 = g.1 12 71 := h.2.1 (12, 71) (by decide)
  have s12_72 : g'.1 12 72 = g.1 12 72 := h.2.1 (12, 72) (by decide)
  have s12_73 : g'.1 12 73 = g.1 12 73 := h.2.1 (12, 73) (by decide)
  have s6_16 : g'.1 6 16 = g.1 6 16 := h.2.1 (6, 16) (by decide)
  have l1 := h.2.2.1
  have l2 := h.2.2.2
  unfold Rel RelE RelS at hR ⊢
  simp only [h13, h14, h15, h16, h17, h18, h19, h20, h21, h22, h23, h24, h25, h26, h27, h28, h29, h30, h31, h32, h34, h35, h36, h37, h38, h39, h40, h41, h42, h43, h44, h45, h46, h47, h48, h49, h50, h52, h53, h54, h55, h56, h59, h61, h62, h67, h68, h69, h70, h71, h72, h73, h74, h79, h81, h82, h83, h84, h85, h86, h87, h88, h89, h90, h91, h92, h93, h94, h95, h96, h97, h98, h99, h107, h108, h109, h110, h111, h112, h113, h114, h115, h116, h120, h121, h122, h123, h124, h125, h126, h127, h128, h129, h130, h131, h132, h133, h134, h135, h136, h137, h138, h139, h140, h141, h142, h146, s0_10, s2_8, s3_12, s2_9, s1_1, s6_17, s4_13, s4_14, s4_15, s10_12, s10_13, s12_0, s12_1, s12_2, s12_3, s12_25, s12_41, s12_55, s12_56, s12_71, s12_72, s12_73, s6_16, l1, l2]
  exact hR
