/-! the first that fits; lists of two lands joined -/
theorem qz_fst {W : Int32 → Prop} {n : Int32} {B : Nat} {P : Nat → Prop} {T : Nat → Prop} {F : Prop} (hn0 : 0 ≤ n.toInt) (hnB : n.toInt ≤ B) (hB : B < 2000000000)
    (hs : ∀ v : Int32, (n ≤ v → F) → (¬ n ≤ v → qR v n) → (n ≤ v → v = n) → (¬ n ≤ v → P v.toNatClampNeg → T v.toNatClampNeg) → (¬ n ≤ v → ¬ P v.toNatClampNeg → W (v + 1)) → W v) (ht : ∀ i : Nat, (i : Int) < n.toInt → P i → (∀ j : Nat, j < i → ¬ P j) → T i) (hf : (∀ j : Nat, (j : Int) < n.toInt → ¬ P j) → F) : W 0 := by
  have key : ∀ (m i : Nat), n.toInt + 1 ≤ m + i → (i : Int) ≤ n.toInt → (∀ j : Nat, j < i → ¬ P j) → W (nI i) := by
    intro m
    induction m with
    | zero => intro i h1 h2; omega
    | succ m ih =>
      intro i h1 h2 h3
      have ei := qz_nI (n := i) (by omega)
      have x2 : (nI i).toNatClampNeg = i := nI_clamp (by omega)
      refine hs (nI i) (fun c => ?_) (fun c => ?_) (fun c => ?_) (fun c hp => ?_) (fun c hp => ?_)
      · simp only [qz_le, ei] at c
        exact hf (fun j hj => h3 j (by omega))
      · refine ⟨?_, c⟩
        simp only [qz_lt, qz_n0, ei]
        omega
      · simp only [qz_le, ei] at c
        rw [qz_eq, ei]
        omega
      · simp only [qz_le, ei] at c
        rw [x2] at hp ⊢
        exact ht i (by omega) hp h3
      · simp only [qz_le, ei] at c
        rw [x2] at hp
        rw [nI_1]
        refine ih (i + 1) (by omega) (by omega) (fun j hj => ?_)
        by_cases hji : j = i
        · rw [hji]; exact hp
        · exact h3 j (by omega)
  exact key (n.toInt.toNat + 1) 0 (by omega) (by omega) (fun j hj => by omega)
noncomputable def qFs (P : Nat → Prop) (n : Nat) : Nat := @dite _ (∃ i, i < n ∧ P i ∧ ∀ j, j < i → ¬ P j) (Classical.propDecidable _) (fun h => h.choose) (fun _ => n)
theorem qFs_pos {P : Nat → Prop} {n i : Nat} (h1 : i < n) (h2 : P i) (h3 : ∀ j, j < i → ¬ P j) : qFs P n = i := by
  have h : ∃ i, i < n ∧ P i ∧ ∀ j, j < i → ¬ P j := ⟨i, h1, h2, h3⟩
  unfold qFs
  rw [dif_pos h]
  have hc := h.choose_spec
  rcases Nat.lt_trichotomy h.choose i with a | a | a
  · exact absurd hc.2.1 (h3 _ a)
  · exact a
  · exact absurd h2 (hc.2.2 _ a)
theorem qFs_neg {P : Nat → Prop} {n : Nat} (h1 : ∀ j, j < n → ¬ P j) : qFs P n = n := by
  unfold qFs
  rw [dif_neg]
  intro ⟨i, a, b, _⟩
  exact h1 i a b
noncomputable def qIf {α : Type} (P : Prop) (a b : α) : α := @ite α P (Classical.propDecidable _) a b
theorem qIf_pos {α : Type} {P : Prop} {a b : α} (h : P) : qIf P a b = a := by unfold qIf; rw [if_pos h]
theorem qIf_neg {α : Type} {P : Prop} {a b : α} (h : ¬ P) : qIf P a b = b := by unfold qIf; rw [if_neg h]
noncomputable def qJn (n : Nat) (A B : Nat → Prop) (K : Nat → Nat → Prop) (i what : Int32) : Nat → Nat → Int32 → (Nat → Prop) → Int32
  | 0, _, _, _ => -1
  | m + 1, w, p, t => qIf (A w) (if qFs (fun v => ¬ v = w ∧ B v ∧ ¬ t v ∧ K w v) n = n then qJn n A B K i what m (w + 1) p t
      else if p = i then (if what = 0 then nI w else nI (qFs (fun v => ¬ v = w ∧ B v ∧ ¬ t v ∧ K w v) n))
      else qJn n A B K i what m (w + 1) (p + 1) (fun v => v = qFs (fun v => ¬ v = w ∧ B v ∧ ¬ t v ∧ K w v) n ∨ t v)) (qJn n A B K i what m (w + 1) p t)
theorem c_X10_clearTaken {X : qz_X} {d : Nat} {Q : qz_Q} (g : qz_G) (hn : qI (g.1 3 12) 0 80) (hq : ∀ g', Same g g' → (∀ v : Nat, (v : Int) < (g.1 3 12).toInt → g'.1 33 v = 0) → Q g' 0 0) : qz_Call X (d + 1) 148 [.ref 3] g Q := by
  have hm := qI_0 hn qz_n80
  have key : ∀ (m i : Nat) (g' : qz_G), (g.1 3 12).toInt + 1 ≤ m + i → (i : Int) ≤ (g.1 3 12).toInt → Same g g' → (∀ v : Nat, v < i → g'.1 33 v = 0) → qz_WP X (d + 1) 148 Q 2 [(0, .ref 3), (1, .int (nI i))] [] g' := by
    intro m
    induction m with
    | zero => intro i g' h1 h2; omega
    | succ m ih =>
      intro i g' h1 h2 h3 h4
      have ei := qz_nI (n := i) (by omega)
      have x2 : (nI i).toNatClampNeg = i := nI_clamp (by omega)
      have e1 : g'.1 3 12 = g.1 3 12 := h3.2.1 (3, 12) (by decide)
      refine v_X10_clearTaken_2 g' (nI i) ?_
      simp only [e1, qz_le, ei, x2]
      refine ⟨fun c => hq g' h3 (fun v hv => h4 v (by omega)), fun c => ⟨qz_vi (by omega) (by omega), ?_⟩⟩
      rw [nI_1]
      refine ih (i + 1) _ (by omega) (by omega) (h3.row 33 i _ (by decide) (by decide)) (fun v hv => ?_)
      rw [qz_i1, if_pos rfl, qz_u1]
      by_cases hvi : v = i
      · rw [if_pos hvi]; rfl
      · rw [if_neg hvi]; exact h4 v (by omega)
  exact v_X10_clearTaken g (key (g.1 3 12).toNatClampNeg.succ 0 g (by have := qz_cl (g.1 3 12); omega) (by omega) (Same.rf g) (fun v hv => by omega))
theorem c_X10_partnerOf {X : qz_X} {d : Nat} {Q : qz_Q} (g : qz_G) (v1 v2 v3 : Int32) (n : Nat) (B t : Nat → Prop) (K : Nat → Nat → Prop) (hn : qI (g.1 3 12) 0 80) (en : n = (g.1 3 12).toNatClampNeg) (h1 : qR v1 (g.1 3 12))
    (hM : ∀ v : Int32, qR v (g.1 3 12) → qI (g.1 26 v.toNatClampNeg) 0 255) (hB : ∀ v : Nat, v < n → (¬ ((g.1 32 v) >>> (v2 &&& 31)) &&& 1 = 0 ↔ B v)) (ht : ∀ v : Nat, v < n → (¬ g.1 33 v = 0 ↔ t v)) (hK : ∀ v : Int32, qR v (g.1 3 12) → (qLk (g.1 22) (g.1 26) (g.1 24) (g.1 25) v1 v v3 ↔ K v1.toNatClampNeg v.toNatClampNeg))
    (hF : qFs (fun v => ¬ v = v1.toNatClampNeg ∧ B v ∧ ¬ t v ∧ K v1.toNatClampNeg v) n = n → Q g (-1) 0) (hT : qFs (fun v => ¬ v = v1.toNatClampNeg ∧ B v ∧ ¬ t v ∧ K v1.toNatClampNeg v) n < n → Q g (nI (qFs (fun v => ¬ v = v1.toNatClampNeg ∧ B v ∧ ¬ t v ∧ K v1.toNatClampNeg v) n)) 0) : qz_Call X (d + 3) 149 [.ref 3, .int v1, .int v2, .int v3] g Q := by
  have hm := qI_0 hn qz_n80
  have hc := qz_cl (g.1 3 12)
  refine v_X10_partnerOf g v1 v2 v3 ?_
  refine qz_fst (W := fun v => qz_WP X (d + 3) 149 Q 3 [(0, .ref 3), (1, .int v1), (2, .int v2), (3, .int v3), (4, .int v)] [] g) (n := g.1 3 12) (B := 80) (P := fun v => ¬ v = v1.toNatClampNeg ∧ B v ∧ ¬ t v ∧ K v1.toNatClampNeg v) (T := fun i => Q g (nI i) 0) (F := Q g (-1) 0) hm.1 hm.2 (by decide) (fun v hF hr he hT hW => ?_) (fun i hi hP hj => ?_) (fun hj => ?_)
  · refine v_X10_partnerOf_3 g v1 v2 v3 v ⟨hF, fun c => ?_⟩
    have hv := hr c
    have hvn : v.toNatClampNeg < n := by
      have h2 := qz_cl v
      have h3 := hv
      simp only [qR, qz_lt, qz_le, qz_n0] at h3
      omega
    refine ⟨fun e => hW c (fun z => z.1 (by rw [e])), fun e => ⟨qz_in80 hv hn, fun e2 => hW c (fun z => z.2.2.1 ((ht _ hvn).mp e2)), fun e2 => ⟨fun _ => ⟨fun e3 => hW c (fun z => (hB _ hvn).mpr z.2.1 e3), fun e3 => ⟨h1, hn, hM v1 h1, hM v hv, fun e4 => ?_, fun e4 => hW c (fun z => e4 ((hK v hv).mpr z.2.2.2))⟩⟩, fun z => absurd hv z⟩⟩⟩
    have hT' := hT c ⟨fun z => e (by rw [← qz_self hv.1, ← qz_self h1.1, z]), (hB _ hvn).mp e3, fun z => (ht _ hvn).mpr z e2, (hK v hv).mp e4⟩
    rw [qz_self hv.1] at hT'
    exact hT'
  · have e := qFs_pos (P := fun v => ¬ v = v1.toNatClampNeg ∧ B v ∧ ¬ t v ∧ K v1.toNatClampNeg v) (n := n) (i := i) (by omega) hP hj
    show Q g (nI i) 0
    rw [e] at hT
    exact hT (by omega)
  · exact hF (qFs_neg (fun j hj' => hj j (by omega)))
theorem c_X10_pairAt {X : qz_X} {d : Nat} {Q : qz_Q} (g : qz_G) (v1 v2 v3 v4 v5 : Int32) (n : Nat) (A B : Nat → Prop) (K : Nat → Nat → Prop) (hn : qI (g.1 3 12) 0 80) (en : n = (g.1 3 12).toNatClampNeg)
    (hM : ∀ v : Int32, qR v (g.1 3 12) → qI (g.1 26 v.toNatClampNeg) 0 255) (hA : ∀ v : Nat, v < n → (¬ ((g.1 32 v) >>> (v1 &&& 31)) &&& 1 = 0 ↔ A v)) (hB : ∀ v : Nat, v < n → (¬ ((g.1 32 v) >>> (v2 &&& 31)) &&& 1 = 0 ↔ B v)) (hK : ∀ u v : Int32, qR u (g.1 3 12) → qR v (g.1 3 12) → (qLk (g.1 22) (g.1 26) (g.1 24) (g.1 25) u v v3 ↔ K u.toNatClampNeg v.toNatClampNeg))
    (hq : ∀ g', Same g g' → Q g' (qJn n A B K v4 v5 n 0 0 (fun _ => False)) 0) : qz_Call X (d + 4) 147 [.ref 3, .int v1, .int v2, .int v3, .int v4, .int v5] g Q := by
  have hm := qI_0 hn qz_n80
  have hc := qz_cl (g.1 3 12)
  have key : ∀ (m w : Nat) (p : Int32) (t : Nat → Prop) (g' : qz_G), m + w = n → Same g g' → (∀ v : Nat, v < n → (¬ g'.1 33 v = 0 ↔ t v)) → (∀ g', Same g g' → Q g' (qJn n A B K v4 v5 m w p t) 0) → qz_WP X (d + 4) 147 Q 10 [(0, .ref 3), (1, .int v1), (2, .int v2), (3, .int v3), (4, .int v4), (5, .int v5), (6, .int p), (7, .int (nI w))] [] g' := by
    intro m
    induction m with
    | zero =>
      intro w p t g' h1 h2 h3 h4
      have ei := qz_nI (n := w) (by omega)
      have e1 : g'.1 3 12 = g.1 3 12 := h2.2.1 (3, 12) (by decide)
      refine v_X10_pairAt_10 (d := d + 1) g' v1 v2 v3 v4 v5 p (nI w) ⟨fun _ => h4 g' h2, fun c => ?_⟩
      rw [e1, qz_le, ei] at c
      omega
    | succ m ih =>
      intro w p t g' h1 h2 h3 h4
      have ei := qz_nI (n := w) (by omega)
      have x2 : (nI w).toNatClampNeg = w := nI_clamp (by omega)
      have e1 : g'.1 3 12 = g.1 3 12 := h2.2.1 (3, 12) (by decide)
      have e22 : g'.1 22 = g.1 22 := h2.1 22 (by decide)
      have e24 : g'.1 24 = g.1 24 := h2.1 24 (by decide)
      have e25 : g'.1 25 = g.1 25 := h2.1 25 (by decide)
      have e26 : g'.1 26 = g.1 26 := h2.1 26 (by decide)
      have e32 : g'.1 32 = g.1 32 := h2.1 32 (by decide)
      have hr : qR (nI w) (g.1 3 12) := by
        simp only [qR, qz_lt, qz_le, qz_n0, ei]
        omega
      have hm1 : ¬ qR (-1) (g'.1 3 12) := fun z => z.1 (by decide)
      refine v_X10_pairAt_10 (d := d + 1) g' v1 v2 v3 v4 v5 p (nI w) ⟨fun c => ?_, fun c => ⟨fun _ => ?_, fun z => ?_⟩⟩
      · rw [e1, qz_le, ei] at c
        omega
      · rw [e32, x2]
        refine ⟨qz_in80 hr hn, fun e => ?_, fun e => ?_⟩
        · refine v_X10_pairAt_43 (d := d + 1) g' v1 v2 v3 v4 v5 p (nI w) (-1) ⟨fun z => absurd z hm1, fun _ => ?_⟩
          rw [nI_1]
          refine ih (w + 1) p t g' (by omega) h2 h3 (fun g2 hg2 => ?_)
          have h5 := h4 g2 hg2
          unfold qJn at h5
          rw [qIf_neg (fun z => (hA w (by omega)).mpr z e)] at h5
          exact h5
        · have hAw := (hA w (by omega)).mp e
          refine c_X10_partnerOf g' (nI w) v2 v3 n B t K (by rw [e1]; exact hn) (by rw [e1]; exact en) (by rw [e1]; exact hr) (by rw [e1, e26]; exact hM) (by rw [e32]; exact hB) h3 (by rw [e1, e22, e24, e25, e26]; exact fun v hv => hK _ v hr hv) (fun hF => ?_) (fun hT => ?_)
          · rw [x2] at hF
            refine v_X10_pairAt_43 (d := d + 1) g' v1 v2 v3 v4 v5 p (nI w) (-1) ⟨fun z => absurd z hm1, fun _ => ?_⟩
            rw [nI_1]
            refine ih (w + 1) p t g' (by omega) h2 h3 (fun g2 hg2 => ?_)
            have h5 := h4 g2 hg2
            unfold qJn at h5
            rw [qIf_pos hAw, if_pos hF] at h5
            exact h5
          · rw [x2] at hT ⊢
            have hlt : qFs (fun v => ¬ v = w ∧ B v ∧ ¬ t v ∧ K w v) n < 80 := by omega
            have ej := qz_nI (n := qFs (fun v => ¬ v = w ∧ B v ∧ ¬ t v ∧ K w v) n) (by omega)
            have y2 : (nI (qFs (fun v => ¬ v = w ∧ B v ∧ ¬ t v ∧ K w v) n)).toNatClampNeg = qFs (fun v => ¬ v = w ∧ B v ∧ ¬ t v ∧ K w v) n := nI_clamp (by omega)
            have hne : ¬ qFs (fun v => ¬ v = w ∧ B v ∧ ¬ t v ∧ K w v) n = n := by omega
            refine v_X10_pairAt_43 (d := d + 1) g' v1 v2 v3 v4 v5 p (nI w) _ ⟨fun _ => ⟨fun e5 => ⟨qz_vi (by omega) (by omega), ?_⟩, fun e5 => ⟨fun e6 => ?_, fun e6 => ?_⟩⟩, fun z => ?_⟩
            · rw [y2, nI_1]
              refine ih (w + 1) (p + 1) (fun v => v = qFs (fun v => ¬ v = w ∧ B v ∧ ¬ t v ∧ K w v) n ∨ t v) _ (by omega) (h2.row 33 _ _ (by decide) (by decide)) (fun v hv => ?_) (fun g2 hg2 => ?_)
              · rw [qz_i1, if_pos rfl, qz_u1]
                by_cases hvi : v = qFs (fun v => ¬ v = w ∧ B v ∧ ¬ t v ∧ K w v) n
                · rw [if_pos hvi]
                  exact ⟨fun _ => Or.inl hvi, fun _ => by decide⟩
                · rw [if_neg hvi]
                  exact (h3 v hv).trans ⟨Or.inr, fun z => z.resolve_left hvi⟩
              · have h5 := h4 g2 hg2
                unfold qJn at h5
                rw [qIf_pos hAw, if_neg hne, if_neg e5] at h5
                exact h5
            · have h5 := h4 g' h2
              unfold qJn at h5
              rw [qIf_pos hAw, if_neg hne, if_pos e5, if_pos e6] at h5
              exact h5
            · have h5 := h4 g' h2
              unfold qJn at h5
              rw [qIf_pos hAw, if_neg hne, if_pos e5, if_neg e6] at h5
              exact h5
            · refine absurd ?_ z
              rw [e1]
              simp only [qR, qz_lt, qz_le, qz_n0, ej]
              omega
      · rw [e1] at z
        exact absurd hr z
  refine v_X10_pairAt (d := d + 1) g v1 v2 v3 v4 v5 ?_
  refine c_X10_clearTaken (d := d + 2) g hn (fun g' hS hz => ?_)
  refine key n 0 0 (fun _ => False) g' (by omega) hS (fun v hv => ?_) hq
  have := hz v (by omega)
  exact ⟨fun z => z this, fun z => z.elim⟩
theorem w_X12_joined {X : qz_X} {d : Nat} {Q : qz_Q} (g : qz_G) (v1 v2 v3 v4 v5 : Int32) (n : Nat) (A B : Nat → Prop) (K : Nat → Nat → Prop) (hn : qI (g.1 12 2) 0 80) (en : n = (g.1 12 2).toNatClampNeg) (hl1 : qR v1 4) (hl2 : qR v2 4)
    (hA : ∀ v : Nat, v < n → (¬ g.1 146 (80 * v1.toNatClampNeg + v) = 0 ↔ A v)) (hB : ∀ v : Nat, v < n → (¬ g.1 146 (80 * v2.toNatClampNeg + v) = 0 ↔ B v)) (hK : ∀ u v : Int32, qR u (g.1 12 2) → qR v (g.1 12 2) → (qLk (g.1 89) (g.1 93) (g.1 91) (g.1 92) u v v3 ↔ K u.toNatClampNeg v.toNatClampNeg))
    (hq : ∀ g', Same g g' → Q g' (qJn n A B K v4 v5 n 0 0 (fun _ => False)) 0) : qz_WP X (d + 2) 286 Q 49 [(0, .ref 12), (1, .int v1), (2, .int v2), (3, .int v3), (4, .int v4), (5, .int v5), (6, .int 0)] [] g := by
  have hm := qI_0 hn qz_n80
  have hc := qz_cl (g.1 12 2)
  have key : ∀ (m w : Nat) (p : Int32) (t : Nat → Prop) (g' : qz_G), m + w = n → Same g g' → (∀ v : Nat, v < n → (¬ g'.1 147 v = 0 ↔ t v)) → (∀ g', Same g g' → Q g' (qJn n A B K v4 v5 m w p t) 0) → qz_WP X (d + 2) 286 Q 78 [(0, .ref 12), (1, .int v1), (2, .int v2), (3, .int v3), (4, .int v4), (5, .int v5), (6, .int p), (7, .int (nI w))] [] g' := by
    intro m
    induction m with
    | zero =>
      intro w p t g' h1 h2 h3 h4
      have ei := qz_nI (n := w) (by omega)
      have e1 : g'.1 12 2 = g.1 12 2 := h2.2.1 (12, 2) (by decide)
      refine v_X12_joined_78 g' v1 v2 v3 v4 v5 p (nI w) ⟨fun _ => h4 g' h2, fun c => ?_⟩
      rw [e1, qz_le, ei] at c
      omega
    | succ m ih =>
      intro w p t g' h1 h2 h3 h4
      have ei := qz_nI (n := w) (by omega)
      have x2 : (nI w).toNatClampNeg = w := nI_clamp (by omega)
      have e1 : g'.1 12 2 = g.1 12 2 := h2.2.1 (12, 2) (by decide)
      have e89 : g'.1 89 = g.1 89 := h2.1 89 (by decide)
      have e91 : g'.1 91 = g.1 91 := h2.1 91 (by decide)
      have e92 : g'.1 92 = g.1 92 := h2.1 92 (by decide)
      have e93 : g'.1 93 = g.1 93 := h2.1 93 (by decide)
      have e146 : g'.1 146 = g.1 146 := h2.1 146 (by decide)
      have hr : qR (nI w) (g.1 12 2) := by
        simp only [qR, qz_lt, qz_le, qz_n0, ei]
        omega
      refine v_X12_joined_78 g' v1 v2 v3 v4 v5 p (nI w) ⟨fun c => ?_, fun c => ?_⟩
      · rw [e1, qz_le, ei] at c
        omega
      · obtain ⟨i1, i2, -, -⟩ := qz_ix80 hr hn hl1
        rw [i1, x2, e146, nI_1]
        refine ⟨i2, fun e => ?_, fun e => ?_⟩
        · have hAw := (hA w (by omega)).mp e
          refine qz_fst (W := fun v => qz_WP X (d + 2) 286 Q 108 [(0, .ref 12), (1, .int v1), (2, .int v2), (3, .int v3), (4, .int v4), (5, .int v5), (6, .int p), (7, .int (nI w)), (8, .int v)] [] g') (n := g.1 12 2) (B := 80) (P := fun v => ¬ v = w ∧ B v ∧ ¬ t v ∧ K w v)
            (T := fun v => (¬ p = v4 → (qz_WP X (d + 2) 286 Q 78 [(0, .ref 12), (1, .int v1), (2, .int v2), (3, .int v3), (4, .int v4), (5, .int v5), (6, .int (p + 1)), (7, .int (nI w + 1))] [] (qz_ui g' 147 v (vp_nar .boolean 1)))) ∧ (p = v4 → ((¬ v5 = 0 → (Q (qz_ui g' 147 v (vp_nar .boolean 1)) (nI v) 0)) ∧ (v5 = 0 → (Q (qz_ui g' 147 v (vp_nar .boolean 1)) (nI w) 0)))))
            (F := qz_WP X (d + 2) 286 Q 78 [(0, .ref 12), (1, .int v1), (2, .int v2), (3, .int v3), (4, .int v4), (5, .int v5), (6, .int p), (7, .int (nI w + 1))] [] g') hm.1 hm.2 (by decide) (fun v hF hr' he hT hW => ?_) (fun i hi hP hj => ?_) (fun hj => ?_)
          · refine v_X12_joined_108 g' v1 v2 v3 v4 v5 p (nI w) v ?_
            rw [e1, e146, e89, e91, e92, e93]
            refine ⟨fun c => ⟨fun z => absurd (he c) z, fun _ => hF c⟩, fun c => ?_⟩
            have hv := hr' c
            have hvn : v.toNatClampNeg < n := by
              have h2 := qz_cl v
              have h3 := hv
              simp only [qR, qz_lt, qz_le, qz_n0] at h3
              omega
            obtain ⟨j1, j2, -, -⟩ := qz_ix80 hv hn hl2
            rw [j1]
            refine ⟨fun e => hW c (fun z => z.1 (by rw [e, x2])), fun e => ⟨j2, fun e2 => hW c (fun z => (hB _ hvn).mpr z.2.1 e2), fun e2 => ⟨qz_in80 hv hn, fun e3 => hW c (fun z => z.2.2.1 ((h3 _ hvn).mp e3)), fun e3 => ⟨hr, hv, hn, fun e4 => ?_, fun e4 => hW c (fun z => e4 ((hK _ v hr hv).mpr (by rw [x2]; exact z.2.2.2)))⟩⟩⟩⟩
            have hKv := (hK _ v hr hv).mp e4
            rw [x2] at hKv
            have hT' := hT c ⟨fun z => e (by rw [← qz_self hv.1, z]), (hB _ hvn).mp e2, fun z => (h3 _ hvn).mpr z e3, hKv⟩
            rw [qz_self hv.1] at hT'
            exact ⟨fun _ => hT', fun z => absurd (by rw [← z]; exact Int32.le_refl v) hv.2⟩
          · have ef := qFs_pos (P := fun v => ¬ v = w ∧ B v ∧ ¬ t v ∧ K w v) (n := n) (i := i) (by omega) hP hj
            have hne : ¬ qFs (fun v => ¬ v = w ∧ B v ∧ ¬ t v ∧ K w v) n = n := by omega
            refine ⟨fun e5 => ?_, fun e5 => ⟨fun e6 => ?_, fun e6 => ?_⟩⟩
            · rw [nI_1]
              refine ih (w + 1) (p + 1) (fun v => v = i ∨ t v) _ (by omega) (h2.row 147 _ _ (by decide) (by decide)) (fun v hv => ?_) (fun g2 hg2 => ?_)
              · rw [qz_i1, if_pos rfl, qz_u1]
                by_cases hvi : v = i
                · rw [if_pos hvi]
                  exact ⟨fun _ => Or.inl hvi, fun _ => by decide⟩
                · rw [if_neg hvi]
                  exact (h3 v hv).trans ⟨Or.inr, fun z => z.resolve_left hvi⟩
              · have h5 := h4 g2 hg2
                unfold qJn at h5
                rw [qIf_pos hAw, if_neg hne, if_neg e5, ef] at h5
                exact h5
            · have h5 := h4 _ (h2.row 147 i (vp_nar .boolean 1) (by decide) (by decide))
              unfold qJn at h5
              rw [qIf_pos hAw, if_neg hne, if_pos e5, if_neg e6, ef] at h5
              exact h5
            · have h5 := h4 _ (h2.row 147 i (vp_nar .boolean 1) (by decide) (by decide))
              unfold qJn at h5
              rw [qIf_pos hAw, if_neg hne, if_pos e5, if_pos e6] at h5
              exact h5
          · rw [nI_1]
            refine ih (w + 1) p t g' (by omega) h2 h3 (fun g2 hg2 => ?_)
            have h5 := h4 g2 hg2
            unfold qJn at h5
            rw [qIf_pos hAw, if_pos (qFs_neg (fun j hj' => hj j (by omega)))] at h5
            exact h5
        · refine ih (w + 1) p t g' (by omega) h2 h3 (fun g2 hg2 => ?_)
          have h5 := h4 g2 hg2
          unfold qJn at h5
          rw [qIf_neg (fun z => (hA w (by omega)).mpr z e)] at h5
          exact h5
  have clr : ∀ (m i : Nat) (g' : qz_G), (g.1 12 2).toInt + 1 ≤ m + i → (i : Int) ≤ (g.1 12 2).toInt → Same g g' → (∀ v : Nat, v < i → g'.1 147 v = 0) → qz_WP X (d + 2) 286 Q 49 [(0, .ref 12), (1, .int v1), (2, .int v2), (3, .int v3), (4, .int v4), (5, .int v5), (6, .int (nI i))] [] g' := by
    intro m
    induction m with
    | zero => intro i g' h1 h2; omega
    | succ m ih =>
      intro i g' h1 h2 h3 h4
      have ei := qz_nI (n := i) (by omega)
      have x2 : (nI i).toNatClampNeg = i := nI_clamp (by omega)
      have e1 : g'.1 12 2 = g.1 12 2 := h3.2.1 (12, 2) (by decide)
      refine v_X12_joined_49 g' v1 v2 v3 v4 v5 (nI i) ?_
      simp only [e1, qz_le, ei, x2]
      refine ⟨fun c => ?_, fun c => ⟨qz_vi (by omega) (by omega), ?_⟩⟩
      · refine key n 0 0 (fun _ => False) g' (by omega) h3 (fun v hv => ?_) hq
        have := h4 v (by omega)
        exact ⟨fun z => z this, fun z => z.elim⟩
      · rw [nI_1]
        refine ih (i + 1) _ (by omega) (by omega) (h3.row 147 i _ (by decide) (by decide)) (fun v hv => ?_)
        rw [qz_i1, if_pos rfl, qz_u1]
        by_cases hvi : v = i
        · rw [if_pos hvi]; rfl
        · rw [if_neg hvi]; exact h4 v (by omega)
  exact clr (g.1 12 2).toNatClampNeg.succ 0 g (by omega) (by omega) (Same.rf g) (fun v hv => by omega)
