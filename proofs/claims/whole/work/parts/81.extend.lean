/-! the class's search -/
def qFx (g a : qz_G) : Prop := (∀ r, ¬ r = 65 → ¬ r = 66 → a.1 r = g.1 r) ∧ (∀ o, ¬ o = 9 → a.2 o = g.2 o)
theorem qFx.rf (g : qz_G) : qFx g g := ⟨fun _ _ _ => rfl, fun _ _ => rfl⟩
theorem qFx.ui {g a : qz_G} (h : qFx g a) (j : Nat) (v : Int32) : qFx g (qz_ui a 65 j v) := ⟨fun r h1 h2 => by rw [qz_i1, if_neg h1]; exact h.1 r h1 h2, h.2⟩
theorem qE_congr {c h : Nat → Nat} : ∀ (l l' : List Nat), l.map c = l'.map c → l.map h = l'.map h → ∀ L, qE c h l L = qE c h l' L
  | [], [], _, _, _ => rfl
  | [], b :: l', h1, _, _ => by simp at h1
  | a :: l, [], h1, _, _ => by simp at h1
  | a :: l, b :: l', h1, h2, L => by
    simp only [List.map_cons, List.cons.injEq] at h1 h2
    show c a * L + qE c h l (L * (100 - h a) / 100) = c b * L + qE c h l' (L * (100 - h b) / 100)
    rw [h1.1, h2.1, qE_congr l l' h1.2 h2.2]
/-- all that a search knows and keeps -/
def qSc (g : qz_G) (S R : List Nat) (kd : Nat) (c h : Nat → Nat) : Prop := S.length ≤ 8 ∧ (∀ s ∈ S, s < 12) ∧ S.Pairwise (fun a b => a < b) ∧ S.Perm R ∧ R.Pairwise (qBT c h) ∧ g.1 9 8 = nI S.length ∧ Rw (g.1 63) S ∧ Rw (g.1 64) R ∧ g.1 9 11 = nI kd ∧ kd < 8 ∧ qCo (g.1 61) (g.1 62) kd c h ∧ (∀ s, c s ≤ 10000) ∧ (∀ s, h s ≤ 100) ∧ (∀ s, s < 32 → (bt (g.1 9 10) s = true ↔ (s ∈ R ∧ ¬ h s % 100 = 0)))
theorem qSc.fx {g a : qz_G} {S R : List Nat} {kd : Nat} {c h : Nat → Nat} (hs : qSc g S R kd c h) (hf : qFx g a) : qSc a S R kd c h := by
  unfold qSc at hs ⊢
  rw [hf.1 9 (by decide) (by decide), hf.1 63 (by decide) (by decide), hf.1 64 (by decide) (by decide), hf.1 61 (by decide) (by decide), hf.1 62 (by decide) (by decide)]
  exact hs
/-- what has been found: the least sum, and the row -/
def qFb (S : List Nat) (c h : Nat → Nat) (a : qz_G) (lst : Nat) (fb : Option (List Nat)) : Prop := a.2 9 12 = lN lst ∧ lst < 2 ^ 62 ∧ ∀ b, fb = some b → Rw (a.1 66) b ∧ S.Perm b ∧ qE c h b 1000000 = lst
theorem c_X4_extend {X : qz_X} {g : qz_G} {S R : List Nat} {kd : Nat} {c h : Nat → Nat} (hsc : qSc g S R kd c h) : ∀ (rem d : Nat) (Q : qz_Q) (P : List Nat) (a : qz_G) (used : Int32) (A L lst : Nat) (fb : Option (List Nat)), P.length + rem = S.length → (∃ t, S.Perm (P ++ t)) → (∀ s, s < 12 → (bt used s = true ↔ s ∈ P)) → L ≤ 1000000 → (∀ t, qE c h (P ++ t) 1000000 = A + qE c h t L) → qFx g a → (∀ i, i < P.length → a.1 65 i = nI (qAt P i)) → qFb S c h a lst fb → (∀ b, fb = some b → ∀ p, S.Perm p → P <+: p → qCd b ≤ qCd p) →
    (∀ a' lst' fb', qFx g a' → (∀ i, i < P.length → a'.1 65 i = nI (qAt P i)) → qFb S c h a' lst' fb' → ((lst' = lst ∧ fb' = fb) ∨ (lst' < lst ∧ ∃ b, fb' = some b ∧ P <+: b)) → (∀ p, S.Perm p → P <+: p → lst' ≤ qE c h p 1000000 ∧ (lst' = qE c h p 1000000 → ∀ b, fb' = some b → qCd b ≤ qCd p)) → Q a' 0 0) → qz_Call X (d + rem + 4) 50 [.ref 9, .int (nI P.length), .int used, .long (lN A), .long (lN L)] a Q := by
  obtain ⟨hS8, hS12, hasc, hpR, hsR, k8, k63, k64, k11, hk8, hco, hcA, hhA, hrb⟩ := id hsc
  have hRl : R.length = S.length := hpR.length_eq.symm
  have hR12 : ∀ s ∈ R, s < 12 := fun s hs => hS12 s (hpR.symm.subset hs)
  have hSn := qz_nodup hasc
  have hRn : R.Nodup := hpR.nodup_iff.mp hSn
  have eS := qz_nI (n := S.length) (by omega)
  intro rem
  induction rem with
  | zero =>
    intro d Q P a used A L lst fb hlen hex hus hL hA hfa hrow hfb hH hq
    obtain ⟨t0, ht0⟩ := hex
    have ht0n : t0 = [] := by
      have := ht0.length_eq
      rw [List.length_append] at this
      exact List.eq_nil_of_length_eq_zero (by omega)
    rw [ht0n, List.append_nil] at ht0
    have hPE : qE c h P 1000000 = A := by
      have := hA []
      rw [List.append_nil] at this
      exact this
    have hsa := hsc.fx hfa
    obtain ⟨_, _, _, _, _, a8, a63, a64, a11, _, aco, _, _, arb⟩ := hsa
    have hU : qUs used R = [] := by
      unfold qUs
      refine List.filter_eq_nil_iff.mpr (fun s hs => ?_)
      have h1 : s ∈ P := ht0.subset (hpR.symm.subset hs)
      rw [(hus s (hR12 s hs)).mpr h1]
      decide
    have hEA := qE_63 (h := h) hcA (l := P) (by omega)
    rw [hPE] at hEA
    refine v_X4_extend (d := d + 1) a _ used _ _ (c_X4_leastToAdd (d := d) a R kd c h (by omega) hR12 hRn (by rw [a8, hRl]) a64 a11 hk8 aco hcA arb used L hL ?_)
    rw [hU]
    show ((lg_cmp (lN A + lN 0) (a.2 9 12)) < 0 → _) ∧ (¬ (lg_cmp (lN A + lN 0) (a.2 9 12)) < 0 → _)
    rw [lN_add, Nat.add_zero, hfb.1, lg_cmp_lt, pk_lLT hEA (by have := hfb.2.1; omega)]
    have honly : ∀ p, S.Perm p → P <+: p → p = P := by
      rintro p hp ⟨t, ht⟩
      have := hp.length_eq
      rw [← ht, List.length_append] at this
      have e : t = [] := List.eq_nil_of_length_eq_zero (by omega)
      rw [← ht, e, List.append_nil]
    refine ⟨fun z => ?_, fun z => ?_⟩
    · refine v_X4_extend_18 (d := d + 1) a _ used _ _ ?_
      rw [a8]
      refine ⟨fun z2 => ?_, fun _ => ⟨⟨by decide, by decide, by rw [qz_lt, eS, qz_n0]; omega, ?_, ?_⟩, ?_⟩⟩
      · rw [qz_lt, qz_nI (by omega), eS] at z2
        omega
      · show Int32.toNatClampNeg 0 + Int32.toNatClampNeg (nI S.length) ≤ 8
        rw [qz_k0, nI_clamp (by omega)]
        omega
      · show Int32.toNatClampNeg 0 + Int32.toNatClampNeg (nI S.length) ≤ 8
        rw [qz_k0, nI_clamp (by omega)]
        omega
      · show Q (qz_uc (qz_ul a 9 12 (lN A)) 66 (va_cpy ((qz_ul a 9 12 (lN A)).1 65) ((qz_ul a 9 12 (lN A)).1 66) (Int32.toNatClampNeg 0) (Int32.toNatClampNeg 0) (Int32.toNatClampNeg (nI S.length)))) 0 0
        rw [qz_k0, nI_clamp (by omega)]
        refine hq _ A (some P) ⟨fun r h1 h2 => ?_, fun o ho => ?_⟩ (fun i hi => ?_) ⟨?_, ?_, fun b hb => ?_⟩ (Or.inr ⟨z, P, rfl, List.prefix_refl P⟩) (fun p hp hpre => ?_)
        · rw [qz_c1, if_neg h2, qz_l1]
          exact hfa.1 r h1 h2
        · rw [qz_c2, qz_l2, if_neg ho]
          exact hfa.2 o ho
        · rw [qz_c1, if_neg (by decide), qz_l1]
          exact hrow i hi
        · rw [qz_c2, qz_l2, if_pos rfl, qz_u2, if_pos rfl]
        · have := hfb.2.1
          omega
        · have e : P = b := Option.some.inj hb
          rw [← e]
          refine ⟨fun i hi => ?_, ht0, hPE⟩
          rw [qz_c1, if_pos rfl, qz_l1]
          show (if 0 ≤ i ∧ i < 0 + S.length then a.1 65 (0 + (i - 0)) else _) = _
          rw [if_pos ⟨Nat.zero_le _, by omega⟩, Nat.sub_zero, Nat.zero_add]
          exact hrow i hi
        · rw [honly p hp hpre, hPE]
          refine ⟨Nat.le_refl _, fun _ b hb => ?_⟩
          rw [← Option.some.inj hb]
          exact Nat.le_refl _
    · refine hq a lst fb hfa hrow hfb (Or.inl ⟨rfl, rfl⟩) (fun p hp hpre => ⟨?_, fun _ b hb => hH b hb p hp hpre⟩)
      rw [honly p hp hpre, hPE]
      omega
  | succ rem ih =>
    intro d Q P a used A L lst fb hlen hex hus hL hA hfa hrow hfb hH hq
    have hsa := hsc.fx hfa
    obtain ⟨_, _, _, _, _, a8, a63, a64, a11, _, aco, _, _, arb⟩ := hsa
    obtain ⟨t0, ht0⟩ := hex
    -- rests are orders of what is unused
    have hrest : ∀ t, S.Perm (P ++ t) → (qUs used R).Perm t := by
      intro t ht
      have hn : (P ++ t).Nodup := ht.nodup_iff.mp hSn
      have hn2 := List.nodup_append.mp hn
      have h1 : (qUs used R).Perm (qUs used (P ++ t)) := (hpR.symm.trans ht).filter _
      refine h1.trans ?_
      unfold qUs
      rw [List.filter_append]
      have e1 : P.filter (fun s => !(bt used s)) = [] := by
        refine List.filter_eq_nil_iff.mpr (fun s hs => ?_)
        have h12 : s < 12 := hS12 s (ht.symm.subset (List.mem_append_left _ hs))
        rw [(hus s h12).mpr hs]
        decide
      have e2 : t.filter (fun s => !(bt used s)) = t := by
        refine List.filter_eq_self.mpr (fun s hs => ?_)
        have h12 : s < 12 := hS12 s (ht.symm.subset (List.mem_append_right _ hs))
        cases hb : bt used s with
        | false => rfl
        | true => exact absurd rfl (hn2.2.2 s ((hus s h12).mp hb) s hs)
      rw [e1, e2, List.nil_append]
    have hbound : ∀ p, S.Perm p → P <+: p → A + (qE c h (qUs used R) L - qRh h (qUs used R) * qCs c (qUs used R)) ≤ qE c h p 1000000 := by
      rintro p hp ⟨t, ht⟩
      rw [← ht] at hp ⊢
      rw [hA t]
      have hs : (qUs used R).Pairwise (qBR c h) := (hsR.imp (fun z => qBT_R z)).sublist List.filter_sublist
      have := qE_bound hhA hs (hrest t hp) L
      omega
    have hE0 := qE_63 (h := h) hcA (l := P ++ t0) (by rw [← ht0.length_eq]; exact hS8)
    have hb0 := hbound (P ++ t0) ht0 ⟨t0, rfl⟩
    refine v_X4_extend (d := d + rem + 2) a _ used _ _ (c_X4_leastToAdd (d := d + rem + 1) a R kd c h (by omega) hR12 hRn (by rw [a8, hRl]) a64 a11 hk8 aco hcA arb used L hL ?_)
    rw [lN_add, hfb.1, lg_cmp_lt, pk_lLT (by omega) (by have := hfb.2.1; omega)]
    refine ⟨fun z => ?_, fun z => hq a lst fb hfa hrow hfb (Or.inl ⟨rfl, rfl⟩) (fun p hp hpre => ⟨by have := hbound p hp hpre; omega, fun _ b hb => hH b hb p hp hpre⟩)⟩
    refine v_X4_extend_18 (d := d + rem + 2) a _ used _ _ ?_
    rw [a8]
    refine ⟨fun _ => ?_, fun z2 => absurd (by rw [qz_lt, qz_nI (by omega), eS]; omega) z2⟩
    -- one after another
    refine qz_for (W := fun b v => qz_WP X (d + rem + 5) 50 Q 52 [(0, .ref 9), (1, .int (nI P.length)), (2, .int used), (3, .long (lN A)), (5, .long (lN L)), (7, .int v)] [] b) (n := nI S.length) (fun i b => qFx g b ∧ (∀ j, j < P.length → b.1 65 j = nI (qAt P j)) ∧ ∃ lst' fb', qFb S c h b lst' fb' ∧ ((lst' = lst ∧ fb' = fb) ∨ (lst' < lst ∧ ∃ bb, fb' = some bb ∧ ∃ j, j < i ∧ (P ++ [qAt S j]) <+: bb)) ∧ ∀ j, j < i → ∀ p, S.Perm p → (P ++ [qAt S j]) <+: p → lst' ≤ qE c h p 1000000 ∧ (lst' = qE c h p 1000000 → ∀ bb, fb' = some bb → qCd bb ≤ qCd p)) (by omega) (by omega) (fun i b v hI ev cv hle cont => ?_) a ⟨hfa, hrow, lst, fb, hfb, Or.inl ⟨rfl, rfl⟩, fun j hj => by omega⟩
    obtain ⟨fb1, fb2, lst', fb', fb3, fb4, fb5⟩ := hI
    rw [eS] at hle cont
    have hsb := hsc.fx fb1
    obtain ⟨_, _, _, _, _, b8, b63, b64, b11, _, bco, _, _, brb⟩ := hsb
    have evn : v = nI i := by
      rw [qz_eq, ev, qz_nI (by omega)]
    subst evn
    refine v_X4_extend_52 (d := d + rem + 2) b _ used _ _ _ ?_
    rw [b8, cv]
    refine ⟨fun y => ?_, fun y => ?_⟩
    · rw [qz_le, eS, ev] at y
      refine hq b lst' fb' fb1 fb2 fb3 ?_ (fun p hp hpre => ?_)
      · rcases fb4 with e | ⟨e1, bb, e2, j, _, t, e3⟩
        · exact Or.inl e
        · exact Or.inr ⟨e1, bb, e2, [qAt S j] ++ t, by rw [← e3, List.append_assoc]⟩
      · obtain ⟨t, ht⟩ := hpre
        cases t with
        | nil =>
          have := hp.length_eq
          rw [← ht, List.append_nil] at this
          omega
        | cons s t =>
          have hsS : s ∈ S := hp.symm.subset (by rw [← ht]; exact List.mem_append_right _ List.mem_cons_self)
          obtain ⟨j, hj1, hj2⟩ := qAt_mem hsS
          refine fb5 j (by omega) p hp ⟨t, ?_⟩
          rw [← ht, hj2, List.append_assoc]
          rfl
    rw [qz_le, eS, ev] at y
    have hi : i < S.length := by omega
    have hsm := qAt_memi hi
    have hs12 := hS12 _ hsm
    -- the next one, with what holds for those with this one ahead
    have nx : ∀ (b' : qz_G) (l2 : Nat) (f2 : Option (List Nat)), qFx g b' → (∀ j, j < P.length → b'.1 65 j = nI (qAt P j)) → qFb S c h b' l2 f2 → ((l2 = lst' ∧ f2 = fb') ∨ (l2 < lst' ∧ ∃ bb, f2 = some bb ∧ (P ++ [qAt S i]) <+: bb)) → (∀ p, S.Perm p → (P ++ [qAt S i]) <+: p → l2 ≤ qE c h p 1000000 ∧ (l2 = qE c h p 1000000 → ∀ bb, f2 = some bb → qCd bb ≤ qCd p)) → qz_WP X (d + rem + 5) 50 Q 130 [(0, .ref 9), (1, .int (nI P.length)), (2, .int used), (3, .long (lN A)), (5, .long (lN L)), (7, .int (nI i))] [] b' := by
      intro b' l2 f2 x1 x2 x3 x4 x5
      refine v_X4_extend_130 (d := d + rem + 2) b' _ used _ _ _ (cont b' (by omega) ⟨x1, x2, l2, f2, x3, ?_, fun j hj p hp hpre => ?_⟩)
      · rcases x4 with ⟨e1, e2⟩ | ⟨e1, bb, e2, e3⟩
        · rw [e1, e2]
          rcases fb4 with e | ⟨e4, bb, e5, j, e6, e7⟩
          · exact Or.inl e
          · exact Or.inr ⟨e4, bb, e5, j, by omega, e7⟩
        · refine Or.inr ⟨?_, bb, e2, i, by omega, e3⟩
          rcases fb4 with e | e
          · omega
          · omega
      · by_cases cj : j = i
        · rw [cj] at hpre
          exact x5 p hp hpre
        · have old := fb5 j (by omega) p hp hpre
          rcases x4 with ⟨e1, e2⟩ | ⟨e1, bb, e2, e3⟩
          · rw [e1, e2]
            exact old
          · exact ⟨by omega, fun e4 => by omega⟩
    rw [b63 i hi, b_bit _ (by omega)]
    refine ⟨qz_vi (by omega) (by omega), fun c1 => ?_, fun c1 => ?_⟩
    · have c1' : bt used (qAt S i) = true := by simpa using c1
      have hin := (hus _ hs12).mp c1'
      refine nx b lst' fb' fb1 fb2 fb3 (Or.inl ⟨rfl, rfl⟩) (fun p hp hpre => ?_)
      obtain ⟨t, ht⟩ := hpre
      have hn : (P ++ [qAt S i] ++ t).Nodup := by rw [ht]; exact hp.nodup_iff.mp hSn
      have hn2 := (List.nodup_append.mp (List.nodup_append.mp hn).1).2.2
      exact absurd rfl (hn2 _ hin _ (List.mem_singleton.mpr rfl))
    have hnin : ¬ qAt S i ∈ P := fun z2 => by
      rw [(hus _ hs12).mpr z2] at c1
      cases c1
    refine c_X4_hasTwin (d := d + rem + 2) b S kd c h hS8 hS12 b63 b11 hk8 bco i hi used (fun htw => ⟨fun _ => ?_, fun z2 => absurd z2 (by decide)⟩) (fun _ => ⟨fun z2 => absurd rfl z2, fun _ => ?_⟩)
    · -- one that is like it stands ahead
      obtain ⟨j, hj, hju, hjc, hjh⟩ := htw
      have hjm := qAt_memi (show j < S.length by omega)
      have hjlt : qAt S j < qAt S i := by
        rw [qAt_i (by omega), qAt_i hi]
        exact List.pairwise_iff_getElem.mp hasc j i _ _ hj
      have hjn : ¬ qAt S j ∈ P := fun z2 => by
        rw [(hus _ (hS12 _ hjm)).mpr z2] at hju
        cases hju
      refine nx b lst' fb' fb1 fb2 fb3 (Or.inl ⟨rfl, rfl⟩) (fun p hp hpre => ?_)
      obtain ⟨t, ht⟩ := hpre
      have hjt : qAt S j ∈ t := by
        have h1 : qAt S j ∈ p := hp.subset hjm
        rw [← ht] at h1
        rcases List.mem_append.mp h1 with h1 | h1
        · rcases List.mem_append.mp h1 with h1 | h1
          · exact absurd h1 hjn
          · rw [List.mem_singleton] at h1
            omega
        · exact h1
      obtain ⟨t1, t2, et⟩ := List.append_of_mem hjt
      have ep : p = P ++ qAt S i :: (t1 ++ qAt S j :: t2) := by rw [← ht, et, List.append_assoc]; rfl
      have hp' : S.Perm (P ++ qAt S j :: (t1 ++ qAt S i :: t2)) := by
        rw [ep] at hp
        refine hp.trans (List.Perm.append_left P ?_)
        refine (List.Perm.cons _ List.perm_middle).trans ?_
        refine (List.Perm.swap _ _ _).trans ?_
        exact List.Perm.cons _ List.perm_middle.symm
      have hE : qE c h p 1000000 = qE c h (P ++ qAt S j :: (t1 ++ qAt S i :: t2)) 1000000 := by
        rw [ep]
        refine qE_congr _ _ ?_ ?_ _
        · simp only [List.map_append, List.map_cons, hjc]
        · simp only [List.map_append, List.map_cons, hjh]
      have hcd : qCd (P ++ qAt S j :: (t1 ++ qAt S i :: t2)) < qCd p := by
        rw [ep]
        have hl2 : (t1 ++ qAt S i :: t2).length = (t1 ++ qAt S j :: t2).length := by simp only [List.length_append, List.length_cons]
        refine (qCd_pre (by simp only [List.length_append, List.length_cons]) P).mpr (qCd_lex hjlt hl2 (fun s hs => hS12 s (hp'.symm.subset (List.mem_append_right _ (List.mem_cons_of_mem _ hs)))))
      have old := fb5 j hj _ hp' ⟨t1 ++ qAt S i :: t2, by rw [List.append_assoc]; rfl⟩
      rw [hE]
      refine ⟨old.1, fun e bb hbb => ?_⟩
      have := old.2 e bb hbb
      omega
    · -- it comes next
      obtain ⟨o1, o2, o3, o4⟩ := bco (qAt S i) hs12
      have es := qz_nI (n := qAt S i) (by omega)
      have ekd := qz_nI (n := kd) (by omega)
      refine v_X4_extend_89 (d := d + rem + 2) b _ used _ _ _ _ ?_
      rw [b11, nI_clamp (show kd < 2147483648 by omega), nI_clamp (show qAt S i < 2147483648 by omega), nI_clamp (show P.length < 2147483648 by omega), o1, o3, qz_accum o2, (qz_left hL o4).1, nI_1]
      refine ⟨qz_vi (by rw [qz_nI (by omega)]; omega) (by rw [qz_nI (by omega)]; omega), ⟨by rw [qz_lt, es, qz_n0]; omega, by rw [qz_le, es, qz_n12]; omega⟩, ⟨by rw [qz_lt, ekd, qz_n0]; omega, by rw [qz_le, ekd, qz_n8]; omega⟩, ?_⟩
      have hPl : (P ++ [qAt S i]).length = P.length + 1 := by rw [List.length_append, List.length_singleton]
      have hrec := ih d (fun g1 _ _ => qz_WP X (d + rem + 5) 50 Q 130 [(0, .ref 9), (1, .int (nI P.length)), (2, .int used), (3, .long (lN A)), (5, .long (lN L)), (7, .int (nI i))] [] g1) (P ++ [qAt S i]) (qz_ui b 65 P.length (nI (qAt S i))) (used ||| (1 <<< (nI (qAt S i) &&& 31))) (A + c (qAt S i) * L) (L * (100 - h (qAt S i)) / 100) lst' fb' (by omega) ?_ (fun s hs => ?_) (qz_left hL o4).2 (fun t => ?_) (fb1.ui _ _) (fun j hj => ?_) ⟨fb3.1, fb3.2.1, fun bb hbb => ?_⟩ (fun bb hbb p hp hpre => ?_) (fun a' l2 f2 x1 x2 x3 x4 x5 => nx a' l2 f2 x1 (fun j hj => ?_) x3 x4 x5)
      · rw [hPl] at hrec
        exact hrec
      · have h1 : qAt S i ∈ t0 := by
          rcases List.mem_append.mp (ht0.subset hsm) with h1 | h1
          · exact absurd h1 hnin
          · exact h1
        obtain ⟨t1, t2, et⟩ := List.append_of_mem h1
        refine ⟨t1 ++ t2, ht0.trans ?_⟩
        rw [et, List.append_assoc]
        exact List.Perm.append_left P List.perm_middle
      · rw [b_or, b_one (by omega) (by omega), Bool.or_eq_true, hus s hs, List.mem_append, List.mem_singleton, decide_eq_true_iff]
      · rw [List.append_assoc, hA ([qAt S i] ++ t), Nat.add_assoc]
        rfl
      · rw [hPl] at hj
        rw [qz_i1, if_pos rfl, qz_u1]
        by_cases cj : j = P.length
        · rw [if_pos cj, cj]
          have : qAt (P ++ [qAt S i]) P.length = qAt S i := qAt_e
          rw [this]
        · rw [if_neg cj, qAt_l (by omega)]
          exact fb2 j (by omega)
      · have := fb3.2.2 bb hbb
        rw [qz_i1, if_neg (by decide)]
        exact this
      · obtain ⟨t, ht⟩ := hpre
        rcases fb4 with ⟨e1, e2⟩ | ⟨e1, b2, e2, j, e3, t', e4⟩
        · rw [e2] at hbb
          exact hH bb hbb p hp ⟨[qAt S i] ++ t, by rw [← ht, List.append_assoc]⟩
        · rw [e2] at hbb
          have e5 := Option.some.inj hbb
          subst e5
          have hbp := (fb3.2.2 b2 e2).2.1
          have hjlt : qAt S j < qAt S i := by
            rw [qAt_i (by omega), qAt_i hi]
            exact List.pairwise_iff_getElem.mp hasc j i _ _ e3
          have hl2 : t'.length = t.length := by
            have h1 := hbp.length_eq
            have h2 := hp.length_eq
            rw [← e4, List.length_append] at h1
            rw [← ht, List.length_append] at h2
            rw [List.length_append, List.length_singleton] at h1 h2
            omega
          rw [← ht, ← e4, List.append_assoc, List.append_assoc]
          refine Nat.le_of_lt ((qCd_pre (r := [qAt S j] ++ t') (r' := [qAt S i] ++ t) (by simp only [List.length_append, List.length_cons, List.length_nil]; omega) P).mpr (qCd_lex hjlt hl2 (fun s hs => hS12 s (hbp.symm.subset (by rw [← e4]; exact List.mem_append_right _ hs)))))
      · have := x2 j (by rw [hPl]; omega)
        rw [qAt_l hj] at this
        exact this
