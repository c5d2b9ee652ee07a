/-! the law's loop: every case is a pair -/
theorem lg_cmp_self (a : Int64) : lg_cmp a a = 0 := by
  unfold lg_cmp
  simp
theorem lw_loop {X : qz_X} (hX : X.1 ≤ 3584) {Q : qz_Q} (hQ : ∀ g, Q g 1 0) : ∀ (f i : Nat) (g : qz_G), i + f = 4000 → i ≤ X.1 → Rel g → qz_WP X 51 299 Q 18 [(0, .ref 1003), (1, .ref 0), (2, .ref 12), (3, .int (nI i))] [] g := by
  intro f
  induction f using Nat.strongRecOn with
  | _ f ih =>
    intro i g hf hi hR
    have e7 : (Int32.ofNat X.1 - 7).toInt = (X.1 : Int) - 7 := by
      have e1 : (Int32.ofNat X.1).toInt = X.1 := nI_toInt (n := X.1) (by omega)
      rw [qz_sb (by rw [e1, qz_n7]; omega) (by rw [e1, qz_n7]; omega), e1, qz_n7]
    refine v_L_law_18 (d := 50) g (nI i) ⟨fun _ => hQ g, fun c0 => ?_⟩
    rw [qz_lt, e7, nI_toInt (by omega)] at c0
    have vi : ∀ k : Nat, k < 7 → vp_in (nI i + nI k) X.1 := fun k hk => by
      rw [nI_add]
      exact qz_vi (by rw [nI_toInt (by omega)]; omega) (by rw [nI_toInt (by omega)]; omega)
    have nx : ∀ g', Rel g' → qz_WP X 51 299 Q 1744 [(0, .ref 1003), (1, .ref 0), (2, .ref 12), (3, .int (nI i))] [] g' := by
      intro g' hR'
      refine v_L_law_1744 (d := 50) g' (nI i) ?_
      rw [show nI i + 7 = nI (i + 7) from nI_add i 7]
      exact ih (f - 7) (by omega) (i + 7) g' (by omega) (by omega) hR'
    have pr : ∀ {zx zm : Nat} {av : List Value}, qz_Pair X 50 zx zm av g → qz_Call X 50 zx (.ref 0 :: av) g (fun g1 r _ => qz_Call X 50 zm (.ref 12 :: av) g1 (fun g3 r4 _ => (r = r4 → qz_WP X 51 299 Q 1744 [(0, .ref 1003), (1, .ref 0), (2, .ref 12), (3, .int (nI i))] [] g3) ∧ (¬ r = r4 → Q g3 0 0))) := fun hp => qz_Call_mono (fun g1 v l h => qz_Call_mono (fun g2 w l2 h2 => ⟨fun _ => nx g2 h2.2.2, fun z => absurd h2.1 z⟩) h) hp
    have pl : ∀ {zx zm : Nat} {av : List Value}, qz_Pair X 50 zx zm av g → qz_Call X 50 zx (.ref 0 :: av) g (fun g1 _ r => qz_Call X 50 zm (.ref 12 :: av) g1 (fun g3 _ r4 => (lg_cmp r r4 = 0 → qz_WP X 51 299 Q 1744 [(0, .ref 1003), (1, .ref 0), (2, .ref 12), (3, .int (nI i))] [] g3) ∧ (¬ lg_cmp r r4 = 0 → Q g3 0 0))) := fun hp => qz_Call_mono (fun g1 v l h => qz_Call_mono (fun g2 w l2 h2 => ⟨fun _ => nx g2 h2.2.2, fun z => absurd (by rw [h2.2.1]; exact lg_cmp_self l2) z⟩) h) hp
    refine ⟨qz_vi (by rw [nI_toInt (by omega)]; omega) (by rw [nI_toInt (by omega)]; omega), fun _ => nx g hR, fun _ => ⟨fun _ => ?_, fun _ => ?_, fun _ => ?_, fun _ => ?_, fun _ => ?_, fun _ => ?_, fun _ => ?_, fun _ => ?_, fun _ => ?_, fun _ => ?_, fun _ => ?_, fun _ => ?_, fun _ => ?_, fun _ => ?_, fun _ => ?_, fun _ => ?_, fun _ => ?_, fun _ => ?_, fun _ => ?_, fun _ => ?_, fun _ => ?_, fun _ => ?_, fun _ => ?_, fun _ => ?_, fun _ => ?_, fun _ => ?_, fun _ => ?_, fun _ => ?_, fun _ => ?_, fun _ => ?_, fun _ => ?_, fun _ => ?_, fun _ => ?_, fun _ => ?_, fun _ => ?_, trivial⟩⟩
    · exact v_L_law_188 (d := 50) g (nI i) ⟨vi 1 (by omega), pr (P_now (d := 48) _ hR)⟩
    · exact v_L_law_211 (d := 50) g (nI i) ⟨vi 1 (by omega), fun z => ⟨vi 2 (by omega), qz_Call_mono (fun g1 v l h => ⟨fun _ => qz_Call_mono (fun g2 w l2 h2 => ⟨fun _ => nx g2 h2.2.2, fun z => absurd h2.1 z⟩) h, fun y => absurd z y⟩) (P_owner (d := 47) 0 _ hR)⟩, fun z => ⟨vi 2 (by omega), qz_Call_mono (fun g1 v l h => ⟨fun y => absurd y z, fun _ => qz_Call_mono (fun g2 w l2 h2 => ⟨fun _ => nx g2 h2.2.2, fun z => absurd h2.1 z⟩) h⟩) (P_owner (d := 47) 1 _ hR)⟩⟩
    · exact v_L_law_260 (d := 50) g (nI i) ⟨vi 1 (by omega), vi 2 (by omega), vi 3 (by omega), pr (P_died (d := 47) _ _ _ hR)⟩
    · exact v_L_law_303 (d := 50) g (nI i) ⟨vi 1 (by omega), vi 2 (by omega), vi 3 (by omega), pr (P_merge (d := 46) _ _ _ hR)⟩
    · exact v_L_law_346 (d := 50) g (nI i) ⟨vi 1 (by omega), vi 2 (by omega), vi 3 (by omega), vi 4 (by omega), vi 5 (by omega), vi 6 (by omega), pr (P_work (d := 47) _ _ _ _ _ _ hR)⟩
    · exact v_L_law_421 (d := 50) g (nI i) ⟨vi 1 (by omega), vi 2 (by omega), vi 3 (by omega), pr (P_share (d := 45) _ _ _ hR)⟩
    · exact v_L_law_464 (d := 50) g (nI i) ⟨vi 1 (by omega), vi 2 (by omega), vi 3 (by omega), vi 4 (by omega), pr (P_holds (d := 46) _ _ _ _ hR)⟩
    · exact v_L_law_517 (d := 50) g (nI i) ⟨vi 1 (by omega), vi 2 (by omega), vi 3 (by omega), vi 4 (by omega), vi 5 (by omega), pr (P_feed (d := 48) _ _ _ _ _ hR)⟩
    · exact v_L_law_580 (d := 50) g (nI i) ⟨vi 1 (by omega), vi 2 (by omega), vi 3 (by omega), vi 4 (by omega), pr (P_law (d := 23) _ _ _ _ hR)⟩
    · exact v_L_law_633 (d := 50) g (nI i) ⟨vi 1 (by omega), vi 2 (by omega), vi 3 (by omega), vi 4 (by omega), vi 5 (by omega), pr (P_number (d := 43) _ _ _ _ _ hR)⟩
    · exact v_L_law_696 (d := 50) g (nI i) ⟨vi 1 (by omega), vi 2 (by omega), vi 3 (by omega), vi 4 (by omega), vi 5 (by omega), pr (P_term (d := 42) _ _ _ _ _ hR)⟩
    · exact v_L_law_759 (d := 50) g (nI i) ⟨vi 1 (by omega), vi 2 (by omega), vi 3 (by omega), vi 4 (by omega), pr (P_free (d := 41) _ _ _ _ hR)⟩
    · exact v_L_law_812 (d := 50) g (nI i) ⟨vi 1 (by omega), vi 2 (by omega), pr (P_source (d := 46) _ _ hR)⟩
    · exact v_L_law_845 (d := 50) g (nI i) ⟨vi 1 (by omega), vi 2 (by omega), vi 3 (by omega), pr (P_chance (d := 46) _ _ _ hR)⟩
    · exact v_L_law_888 (d := 50) g (nI i) ⟨vi 1 (by omega), vi 2 (by omega), vi 3 (by omega), vi 4 (by omega), pr (P_look (d := 46) _ _ _ _ hR)⟩
    · exact v_L_law_941 (d := 50) g (nI i) ⟨vi 1 (by omega), vi 2 (by omega), pr (P_letter (d := 48) _ _ hR)⟩
    · exact v_L_law_974 (d := 50) g (nI i) ⟨vi 1 (by omega), pr (P_answer (d := 47) _ hR)⟩
    · exact v_L_law_997 (d := 50) g (nI i) ⟨vi 1 (by omega), vi 2 (by omega), vi 3 (by omega), pr (P_found (d := 47) _ _ _ hR)⟩
    · exact v_L_law_1040 (d := 50) g (nI i) ⟨vi 1 (by omega), vi 2 (by omega), vi 3 (by omega), vi 4 (by omega), pr (P_enough (d := 41) _ _ _ _ hR)⟩
    · exact v_L_law_1093 (d := 50) g (nI i) ⟨vi 1 (by omega), vi 2 (by omega), vi 3 (by omega), vi 4 (by omega), vi 5 (by omega), pr (P_why (d := 41) _ _ _ _ _ hR)⟩
    · exact v_L_law_1156 (d := 50) g (nI i) ⟨vi 1 (by omega), vi 2 (by omega), vi 3 (by omega), pr (P_nobody (d := 45) _ _ _ hR)⟩
    · exact v_L_law_1199 (d := 50) g (nI i) ⟨vi 1 (by omega), vi 2 (by omega), pr (P_agree (d := 47) _ _ hR)⟩
    · exact v_L_law_1232 (d := 50) g (nI i) ⟨vi 1 (by omega), vi 2 (by omega), vi 3 (by omega), vi 4 (by omega), pr (P_ask (d := 38) _ _ _ _ hR)⟩
    · exact v_L_law_1285 (d := 50) g (nI i) ⟨vi 1 (by omega), vi 2 (by omega), vi 3 (by omega), vi 4 (by omega), pr (P_uses (d := 47) _ _ _ _ hR)⟩
    · exact v_L_law_1338 (d := 50) g (nI i) ⟨vi 1 (by omega), pr (P_comes (d := 44) _ hR)⟩
    · exact v_L_law_1361 (d := 50) g (nI i) ⟨vi 1 (by omega), vi 2 (by omega), pl (P_paid (d := 41) _ _ hR)⟩
    · exact v_L_law_1395 (d := 50) g (nI i) ⟨vi 1 (by omega), vi 2 (by omega), vi 3 (by omega), pl (P_cheapest (d := 29) _ _ _ hR)⟩
    · exact v_L_law_1439 (d := 50) g (nI i) ⟨vi 1 (by omega), vi 2 (by omega), vi 3 (by omega), pl (P_judge (d := 39) _ _ _ hR)⟩
    · exact v_L_law_1483 (d := 50) g (nI i) ⟨vi 1 (by omega), vi 2 (by omega), vi 3 (by omega), pr (P_like (d := 47) _ _ _ hR)⟩
    · exact v_L_law_1526 (d := 50) g (nI i) ⟨vi 1 (by omega), vi 2 (by omega), pr (P_list (d := 46) _ _ hR)⟩
    · exact v_L_law_1559 (d := 50) g (nI i) ⟨vi 1 (by omega), vi 2 (by omega), vi 3 (by omega), vi 4 (by omega), vi 5 (by omega), pr (P_joined (d := 45) _ _ _ _ _ hR)⟩
    · exact v_L_law_1622 (d := 50) g (nI i) ⟨vi 1 (by omega), vi 2 (by omega), vi 3 (by omega), pr (P_audit (d := 42) _ _ _ hR)⟩
    · exact v_L_law_1665 (d := 50) g (nI i) ⟨vi 1 (by omega), pr (P_shown (d := 38) _ hR)⟩
    · exact v_L_law_1688 (d := 50) g (nI i) ⟨vi 1 (by omega), vi 2 (by omega), pr (P_leave (d := 47) _ _ hR)⟩
    · exact v_L_law_1721 (d := 50) g (nI i) ⟨vi 1 (by omega), pr (P_count (d := 46) _ hR)⟩
