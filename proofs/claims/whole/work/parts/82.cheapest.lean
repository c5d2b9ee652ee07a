/-! the cheapest search, both sides -/
def qFw (g a : qz_G) : Prop := (∀ r, ¬ r = 64 → ¬ r = 65 → a.1 r = g.1 r) ∧ (∀ o, ¬ o = 9 → ¬ o = 66 → ¬ o = 150 → a.2 o = g.2 o)
theorem qFw.same {g a : qz_G} (h : qFw g a) : Same g a :=
  ⟨fun r hr => h.1 r (fun z => by rw [z] at hr; exact absurd hr (by decide)) (fun z => by rw [z] at hr; exact absurd hr (by decide)), fun q hq => congrFun (h.1 q.1 ((by decide : ∀ q ∈ qz_ks, ¬ q.1 = 64) q hq) ((by decide : ∀ q ∈ qz_ks, ¬ q.1 = 65) q hq)) q.2, h.2 75 (by decide) (by decide) (by decide), h.2 143 (by decide) (by decide) (by decide)⟩
theorem qFw.fz {g a b : qz_G} (h : qFw g a) (hf : qFz a b) : qFw g b := ⟨fun r h1 h2 => (hf.1 r h1).trans (h.1 r h1 h2), fun o h1 h2 h3 => (hf.2 o h2 h3).trans (h.2 o h1 h2 h3)⟩
theorem qSrch.fw {g a : qz_G} {S : List Nat} {kd : Nat} {c h : Nat → Nat} (hs : qSrch g S kd c h) (hf : qFw g a) : qSrch a S kd c h := by
  unfold qSrch at hs ⊢
  rw [hf.1 9 (by decide) (by decide), hf.1 63 (by decide) (by decide), hf.1 61 (by decide) (by decide), hf.1 62 (by decide) (by decide)]
  exact hs
theorem qMm.row {c h : Nat → Nat} {S : List Nat} {a : qz_G} (hm : qMm c h S a) (j : Nat) (v : Int32) : qMm c h S (qz_ui a 65 j v) := by
  unfold qMm at hm ⊢
  rw [qz_i1, if_neg (by decide), qz_i2]
  exact hm
theorem qMm.ul {c h : Nat → Nat} {S : List Nat} {a : qz_G} (hm : qMm c h S a) (j : Nat) (v : Int64) : qMm c h S (qz_ul a 9 j v) := by
  unfold qMm at hm ⊢
  rw [qz_l1, qz_l2, if_neg (by decide), qz_l2, if_neg (by decide)]
  exact hm
theorem c_fill64 {X : qz_X} {d : Nat} {Q : qz_Q} (g : qz_G) (x : Int32) (hq : ∀ g', Frm [64] g g' → (∀ j, j < 256 → g'.1 64 j = x) → Q g' 0 0) : qz_Call X (d + 1) 298 [.ref 64, .int x] g Q := by
  have n256 : (256 : Int32).toInt = 256 := by decide
  refine v_J7_fill_53178_64 g x ?_
  refine qz_for (W := fun a v => qz_WP X (d + 1) 298 Q 5 [(0, .ref 64), (1, .int x), (2, .int v), (3, .int 256)] [] a) (n := 256) (fun i a => Frm [64] g a ∧ ∀ j, j < i → a.1 64 j = x) (by decide) (by decide) (fun i a v hI ev cv hle cont => ?_) g ⟨Frm.rf _ g, fun j hj => by omega⟩
  rw [n256] at hle
  refine v_J7_fill_53178_64_5 a x v 256 ⟨fun z => hq a hI.1 (fun j hj => ?_), fun z => ⟨qz_vi (by omega) ?_, cont _ ?_ ⟨hI.1.ui 64 _ _ (by decide), fun j hj => ?_⟩⟩⟩
  · rw [qz_le, n256, ev] at z
    exact hI.2 j (by omega)
  · rw [qz_le, n256, ev] at z
    omega
  · rw [qz_le, n256, ev] at z
    rw [n256]
    omega
  · rw [qz_i1, if_pos rfl, qz_u1, cv]
    by_cases c : j = i
    · rw [if_pos c]
    · rw [if_neg c]
      exact hI.2 j (by omega)
theorem c_X4_findCheapest {X : qz_X} {d : Nat} {Q : qz_Q} (g : qz_G) (S : List Nat) (kd : Nat) (c h : Nat → Nat) (hS8 : S.length ≤ 8) (hS12 : ∀ s ∈ S, s < 12) (hasc : S.Pairwise (fun a b => a < b)) (h8 : g.1 9 9 = nI S.length) (hrow : Rw (g.1 63) S) (hk : g.1 9 11 = nI kd) (hk8 : kd < 8) (hco : qCo (g.1 61) (g.1 62) kd c h) (hcA : ∀ s, c s ≤ 10000)
    (hq : ∀ g' b, Same g g' → qBest c h S b → g'.2 9 12 = lN (qE c h b 1000000) → Rw (g'.1 65) b → g'.1 9 9 = nI S.length → Q g' 0 0) : qz_Call X (d + 20) 41 [.ref 9] g Q := by
  have hse : qSrch g S kd c h := ⟨hS8, hS12, h8, hrow, hk, hk8, hco, hcA⟩
  have h256 := qz_256 hS8
  have eS := qz_nI (n := S.length) (by omega)
  have hpos : 0 < 2 ^ S.length := Nat.pow_pos (by decide)
  refine v_X4_findCheapest (d := d + 17) g (c_fill64 (d := d + 18) g 0 (fun g1 f1 k64 => ?_))
  have fz1 : qFz g g1 := ⟨fun r hr => f1.1 r (fun z => hr (List.mem_singleton.mp z)), fun o _ _ => by rw [f1.2]⟩
  have mm1 : qMm c h S g1 := fun u hu => ⟨0, by omega, k64 u (by omega), fun i hi => by omega⟩
  have hla := c_X4_leastAdded (X := X) (S := S) (kd := kd) (c := c) (h := h) 8 (d + 1) (fun g3 _ r4 => qz_WP X (d + 20) 41 Q 29 [(0, .ref 9), (1, .int 0), (2, .long 1000000), (4, .int 0)] [] (qz_ul g3 9 12 r4)) g1 0 1000000 (hse.fz fz1) mm1 hpos (by rw [qUd_0]; exact hS8) (Nat.le_refl _) (fun g3 m0 f3 mm3 hmin => ?_)
  · exact hla
  rw [qUd_0] at hmin
  have fw3 : qFw g (qz_ul g3 9 12 (lN m0)) := ⟨fun r h1 _ => by rw [qz_l1]; exact (f3.1 r h1).trans (fz1.1 r h1), fun o h1 h2 h3 => by rw [qz_l2, if_neg h1]; exact (f3.2 o h2 h3).trans (fz1.2 o h2 h3)⟩
  refine qz_for (α := qz_G × Int32 × Int64) (W := fun a v => qz_WP X (d + 20) 41 Q 29 [(0, .ref 9), (1, .int a.2.1), (2, .long a.2.2), (4, .int v)] [] a.1) (n := nI S.length) (fun i a => ∃ U L P, a.2.1 = nI U ∧ a.2.2 = lN L ∧ L ≤ 1000000 ∧ U < 2 ^ S.length ∧ (qUd S U).length + i = S.length ∧ P.length = i ∧ qFw g a.1 ∧ qMm c h S a.1 ∧ Rw (a.1.1 65) P ∧ a.1.2 9 12 = lN m0 ∧ ∀ r, qBst c h (qUd S U) L r → qBst c h S 1000000 (P ++ r)) (by omega) (by omega) (fun i a v hI ev cv hle cont => ?_) (qz_ul g3 9 12 (lN m0), 0, 1000000) ⟨0, 1000000, [], rfl, rfl, Nat.le_refl _, hpos, by rw [qUd_0]; rfl, rfl, fw3, mm3.ul 12 _, fun j hj => (by cases hj), by rw [qz_l2, if_pos rfl, qz_u2, if_pos rfl], fun r hr => by rw [qUd_0] at hr; exact hr⟩
  obtain ⟨U, L, P, eU, eL, hL, hU, hlen, hPl, fa, ma, hP, h12, hbst⟩ := hI
  rw [eS] at hle cont
  have evn : v = nI i := by
    rw [qz_eq, ev, qz_nI (by omega)]
  subst evn
  have hsea := hse.fw fa
  refine v_X4_findCheapest_29 (d := d + 17) a.1 _ _ _ ?_
  rw [hsea.2.2.1, eU, eL]
  refine ⟨fun z => ?_, fun z => ?_⟩
  · rw [qz_le, eS, ev] at z
    have hnil : qUd S U = [] := List.eq_nil_of_length_eq_zero (by omega)
    have hb := hbst [] (by rw [hnil]; exact qBst_nil c h L)
    rw [List.append_nil] at hb
    exact hq a.1 P fa.same hb (by rw [h12, qBst_min hb hmin]) hP hsea.2.2.1
  · rw [qz_le, eS, ev] at z
    have hne : U + 1 < 2 ^ S.length := by
      refine Classical.byContradiction (fun hn => ?_)
      rw [qUd_end hU hn, List.length_nil] at hlen
      omega
    refine c_X4_firstOfLeast (d := d) a.1 hsea ma U L hU hL hne (fun b j m fb mb hj hu hm hx hf => ?_)
    have hseb := hsea.fz fb
    obtain ⟨_, _, b9, b63, b11, _, bco, _⟩ := id hseb
    have hs := hS12 _ (qAt_memi hj)
    obtain ⟨o1, o2, o3, o4⟩ := bco (qAt S j) hs
    have es := qz_nI (n := qAt S j) (by omega)
    have ej := qz_nI (n := j) (by omega)
    have ek := qz_nI (n := kd) (by omega)
    have ei := qz_nI (n := i) (by omega)
    rw [nI_clamp (show j < 2147483648 by omega), b63 j hj, nI_clamp (show i < 2147483648 by omega), qz_i1, if_pos rfl, qz_u1, if_pos rfl, b11, nI_clamp (show qAt S j < 2147483648 by omega), nI_clamp (show kd < 2147483648 by omega), o3, (qz_left hL o4).1, qz_or1 U (by omega)]
    refine ⟨qz_vi (by omega) (by omega), qz_vi (by omega) (by omega), ⟨by rw [qz_lt, es, qz_n0]; omega, by rw [qz_le, es, qz_n12]; omega⟩, ⟨by rw [qz_lt, ek, qz_n0]; omega, by rw [qz_le, ek, qz_n8]; omega⟩, ?_⟩
    have hless := qUd_less hj hu
    refine cont (qz_ui b 65 i (nI (qAt S j)), nI (U ||| 2 ^ j), lN (L * (100 - h (qAt S j)) / 100)) (by omega) ⟨U ||| 2 ^ j, _, P ++ [qAt S j], rfl, rfl, (qz_left hL o4).2, qUd_or hU hj, by omega, by rw [List.length_append, List.length_singleton, hPl], ?_, mb.row _ _, fun k hk3 => ?_, ?_, fun r hr => ?_⟩
    · have fw := fa.fz fb
      exact ⟨fun r h1 h2 => by rw [qz_i1, if_neg h2]; exact fw.1 r h1 h2, fun o h1 h2 h3 => by rw [qz_i2]; exact fw.2 o h1 h2 h3⟩
    · rw [List.length_append, List.length_singleton] at hk3
      show (qz_ui b 65 i (nI (qAt S j))).1 65 k = _
      rw [qz_i1, if_pos rfl, qz_u1]
      by_cases ck : k = i
      · rw [if_pos ck, ck, ← hPl, qAt_e]
      · rw [if_neg ck, qAt_l (by omega), fb.1 65 (by decide)]
        exact hP k (by omega)
    · show (qz_ui b 65 i (nI (qAt S j))).2 9 12 = _
      rw [qz_i2, fb.2 9 (by decide) (by decide)]
      exact h12
    · rw [List.append_assoc]
      exact hbst _ (qBst_step hS12 hasc hj hu hm hx hf hr)
theorem P_cheapest {X : qz_X} {d : Nat} {g : qz_G} (v1 v2 v3 : Int32) (hR : Rel g) : qz_Pair X (d + 21) 177 281 [.int v1, .int v2, .int v3] g := by
  obtain ⟨D, hD⟩ := LwD_of hR
  have s0 := Same.rf g
  refine v_X11_cheapest (d := d + 18) g v1 v2 v3 ?_
  rw [rS_3_12 hR s0, rS_0_10 hR s0]
  have refNo : (¬ qR v1 (g.1 12 2) ∨ ¬ qR v2 4 ∨ ¬ (-1 : Int32) ≤ v3) → qz_Call X (d + 21) 281 [.ref 12, .int v1, .int v2, .int v3] g (fun g2 w l2 => (0 : Int32) = w ∧ (-1 : Int64) = l2 ∧ Rel g2) := by
    intro hn
    refine v_X12_cheapest (d := d + 19) g v1 v2 v3 ⟨fun h1 => ⟨fun h2 => ⟨fun h3 => ?_, fun _ => ⟨rfl, rfl, hR⟩⟩, fun _ => ⟨rfl, rfl, hR⟩⟩, fun _ => ⟨rfl, rfl, hR⟩⟩
    rcases hn with hn | hn | hn
    · exact absurd h1 hn
    · exact absurd h2 hn
    · exact absurd h3 hn
  refine ⟨fun h1 => ⟨fun h2 => ⟨fun h3 => ?_, fun h3 => refNo (Or.inr (Or.inr h3))⟩, fun h2 => refNo (Or.inr (Or.inl h2))⟩, fun h1 => refNo (Or.inl h1)⟩
  have hkd := (RelW_at hR h1).1
  obtain ⟨kd, hk1, hk2⟩ := qz_nat (x := g.1 89 v1.toNatClampNeg) (b := 7) (by
    have := hkd.1
    rw [qz_lt, qz_n0] at this
    omega) (by
    have := hkd.2
    rw [qz_le, qz_n8] at this
    omega)
  have hco := qCo_of hR kd
  have hC := hR.2.2.2.2.2.2.2.2.2.2.2.1
  have hcA : ∀ s, (fun s => (g.1 120 s).toNatClampNeg) s ≤ 10000 := fun s => by
    have h4 := hC.1 s
    have c1 := qz_cl (g.1 120 s)
    simp only [qI, qz_lt, qz_n0, qz_n10000] at h4
    show (g.1 120 s).toNatClampNeg ≤ 10000
    omega
  generalize (fun s => (g.1 120 s).toNatClampNeg) = c at hco hcA
  generalize (fun s => (g.1 121 (8 * s + kd)).toNatClampNeg) = h at hco
  have hS8 : (qTd g D v1 v2).length ≤ 8 := qGt_len _ 12
  have hS12 : ∀ s ∈ qTd g D v1 v2, s < 12 := qGt_lt _ 12
  have hasc : (qTd g D v1 v2).Pairwise (fun a b => a < b) := qGt_asc _ 12
  have eS := qz_nI (n := (qTd g D v1 v2).length) (by omega)
  refine c_X4_gather (d := d + 11) hR hD g s0 v1 v2 h1 (fun g4 s4 k11 k8 k63 k9 => ?_)
  refine c_X4_findCheapest (d := d) g4 (qTd g D v1 v2) kd c h hS8 hS12 hasc k8 k63 (by rw [k11]; exact hk2) (by omega) (by rw [rE_61 hR s4, rE_62 hR s4]; exact hco) hcA (fun g6 b s46 hB k12 k65 k68 => ?_)
  have s6 : Same g g6 := s4.tr s46
  have hbl : b.length = (qTd g D v1 v2).length := hB.1.length_eq.symm
  rw [k68, k12]
  -- the reference
  have ref : ∀ (x : Int64), (¬ v3 < nI (qTd g D v1 v2).length → x = -1) → (v3 = -1 → x = lN (qE c h b 1000000)) → (∀ k, k < (qTd g D v1 v2).length → v3 = nI k → x = (nI (qAt b k)).toInt64) → qz_Call X (d + 21) 281 [.ref 12, .int v1, .int v2, .int v3] g6 (fun g2 w l2 => (0 : Int32) = w ∧ x = l2 ∧ Rel g2) := by
    intro x y1 y2 y3
    refine v_X12_cheapest (d := d + 19) g6 v1 v2 v3 ?_
    rw [rM_12_2 s6]
    refine ⟨fun _ => ⟨fun _ => ⟨fun _ => ?_, fun z => absurd h3 z⟩, fun z => absurd h2 z⟩, fun z => absurd h1 z⟩
    refine c_X12_setsRow (d := d + 14) hR hD g6 (SamB.of s6) rfl v1 v2 h1 (fun g7 s7 m87 m144 => ?_)
    rw [m87]
    refine ⟨fun z => ?_, fun z => ⟨rfl, y1 z, Rel_same hR s7.2⟩⟩
    refine w_X12_cheapest (d := d + 17) hR g7 s7.2 v1 v3 h1 (qTd g D v1 v2) kd c h hk2 (by omega) hco hcA hS8 hS12 hasc m87 m144 z h3 (fun g' b' s' hB' => ?_)
    rw [qBest_one hS12 hB' hB]
    exact ⟨fun z2 => ⟨rfl, y2 z2, Rel_same hR s'⟩, fun k hk3 hk4 => ⟨rfl, y3 k hk3 hk4, Rel_same hR s'⟩⟩
  refine ⟨fun c1 => ⟨fun c2 => ⟨?_, ?_⟩, fun c2 => ?_⟩, fun c1 => ?_⟩
  · have h5 := c2.1
    have h6 := c2.2
    rw [qz_lt, qz_n0] at h5
    rw [qz_le, eS] at h6
    exact qz_vi (by omega) (by omega)
  · have h5 := c2.1
    have h6 := c2.2
    rw [qz_lt, qz_n0] at h5
    rw [qz_le, eS] at h6
    refine ref _ (fun z => ?_) (fun z => absurd z c1) (fun k hk3 hk4 => ?_)
    · rw [qz_lt, eS] at z
      omega
    · rw [hk4, nI_clamp (by omega), k65 k (by omega)]
  · refine ref _ (fun z => by decide) (fun z => absurd z c1) (fun k hk3 hk4 => absurd ?_ c2)
    have ek := qz_nI (n := k) (by omega)
    rw [hk4]
    exact ⟨by rw [qz_lt, ek, qz_n0]; omega, by rw [qz_le, ek, eS]; omega⟩
  · refine ref _ (fun z => ?_) (fun _ => rfl) (fun k hk3 hk4 => ?_)
    · rw [c1, qz_lt, eS, qz_m1] at z
      omega
    · have ek := qz_nI (n := k) (by omega)
      rw [c1, qz_eq, ek, qz_m1] at hk4
      omega
