theorem qz_min {a d t : Int32} : (¬ a = -1 ∧ ¬ (if t < d then t else d) < a) ↔ qBy a d t := by
  unfold qBy
  by_cases h : t < d
  · rw [if_pos h]
    simp only [qz_lt] at h ⊢
    constructor
    · intro z; exact ⟨z.1, by omega, z.2⟩
    · intro z; exact ⟨z.1, z.2.2⟩
  · rw [if_neg h]
    simp only [qz_lt] at h ⊢
    constructor
    · intro z; exact ⟨z.1, z.2, by omega⟩
    · intro z; exact ⟨z.1, z.2.1⟩
theorem qEx_congr {n : Int32} {P P' : Nat → Prop} (h : ∀ k, P k ↔ P' k) : qEx n P ↔ qEx n P' := ⟨fun ⟨i, h1, h2⟩ => ⟨i, h1, (h i).mp h2⟩, fun ⟨i, h1, h2⟩ => ⟨i, h1, (h i).mpr h2⟩⟩
theorem c_X9_isFound {X : qz_X} {d : Nat} {Q : qz_Q} (g : qz_G) (v1 v2 v3 : Int32) (h : (qR v1 40) ∧ (qI (g.1 4 13) 0 300) ∧ (qI (g.1 4 14) 0 200) ∧ (qFd (g.1 46) (g.1 4 13) (g.1 37) (g.1 36) (g.1 38) (g.1 4 14) (g.1 39) (g.1 42) v1 v2 v3 → Q g 1 0) ∧ (¬ (qFd (g.1 46) (g.1 4 13) (g.1 37) (g.1 36) (g.1 38) (g.1 4 14) (g.1 39) (g.1 42) v1 v2 v3) → Q g 0 0)) : qz_Call X (d + 2) 123 [.ref 4, .int v1, .int v2, .int v3] g Q := by
  obtain ⟨h1, h2, h3, ht, hf⟩ := h
  have hA : qEx (g.1 4 14) (fun k => g.1 39 k = v1 ∧ ¬ g.1 42 k = -1 ∧ ¬ (if v3 < v2 then v3 else v2) < g.1 42 k) ↔ qEx (g.1 4 14) (fun k => g.1 39 k = v1 ∧ qBy (g.1 42 k) v2 v3) := qEx_congr (fun k => and_congr_right (fun _ => qz_min))
  have tail : ¬ qBy (g.1 46 v1.toNatClampNeg) v2 v3 → ((qI (g.1 4 14) 0 200) ∧ (qEx (g.1 4 14) (fun k => g.1 39 k = v1 ∧ ¬ g.1 42 k = -1 ∧ ¬ (if v3 < v2 then v3 else v2) < g.1 42 k) → (Q g 1 0)) ∧ (¬ (qEx (g.1 4 14) (fun k => g.1 39 k = v1 ∧ ¬ g.1 42 k = -1 ∧ ¬ (if v3 < v2 then v3 else v2) < g.1 42 k)) → ((qI (g.1 4 13) 0 300) ∧ (qEx (g.1 4 13) (fun k => g.1 37 k = v1 ∧ ¬ v2 < g.1 36 k ∧ ¬ v3 < g.1 38 k) → (Q g 1 0)) ∧ (¬ (qEx (g.1 4 13) (fun k => g.1 37 k = v1 ∧ ¬ v2 < g.1 36 k ∧ ¬ v3 < g.1 38 k)) → (Q g 0 0))))) := by
    intro hn
    refine ⟨h3, fun z => ht (Or.inr (Or.inr (hA.mp z))), fun z => ⟨h2, fun y => ht (Or.inr (Or.inl y)), fun y => hf (fun x => x.elim hn (fun x => x.elim y (fun x => z (hA.mpr x))))⟩⟩
  refine v_X9_isFound g v1 v2 v3 ⟨fun a => absurd a h1.1, fun _ => ⟨fun a => absurd a h1.2, fun _ => ⟨qz_in40' h1, fun a => tail (fun z => z.1 a), fun a => ⟨fun b => ht (Or.inl (qz_min.mp ⟨a, ?_⟩)), fun b => tail (fun z => b ?_)⟩⟩⟩⟩
  · simp only [qz_le, qz_lt] at b ⊢
    omega
  · have z2 := (qz_min.mpr z).2
    simp only [qz_le, qz_lt] at z2 ⊢
    omega
def qHn (who part from_ told : Nat → Int32) (w : Int32) (k : Nat) (day t : Int32) : Int32 := qz_hold part from_ told day t 40 (who (4 * w.toNatClampNeg + k))
noncomputable def qCt (P : Nat → Prop) : Nat → Int32
  | 0 => 0
  | n + 1 => qCt P n + @ite _ (P n) (Classical.propDecidable _) 1 0
theorem qCt_pos {P : Nat → Prop} {n : Nat} (h : P n) : qCt P (n + 1) = qCt P n + 1 := by simp only [qCt, h, if_true]
theorem qCt_neg {P : Nat → Prop} {n : Nat} (h : ¬ P n) : qCt P (n + 1) = qCt P n := by simp only [qCt, h, if_false]; exact Int32.add_zero _
theorem qz_cntl {W : Int32 → Int32 → Prop} {n : Int32} {P : Nat → Prop} {F : Int32 → Prop} (hn0 : 0 ≤ n.toInt) (hnB : n.toInt < 2000000000)
    (hs : ∀ (a v : Int32), (n ≤ v → F a) → (¬ n ≤ v → qR v n) → (¬ n ≤ v → P v.toNatClampNeg → W (a + 1) (v + 1)) → (¬ n ≤ v → ¬ P v.toNatClampNeg → W a (v + 1)) → W a v) (hF : F (qCt P n.toNatClampNeg)) : W 0 0 := by
  have cn := qz_cl n
  have key : ∀ (m i : Nat), n.toInt + 1 ≤ m + i → (i : Int) ≤ n.toInt → W (qCt P i) (nI i) := by
    intro m
    induction m with
    | zero => intro i h1 h2; omega
    | succ m ih =>
      intro i h1 h2
      have ei := qz_nI (n := i) (by omega)
      have x2 : (nI i).toNatClampNeg = i := nI_clamp (by omega)
      refine hs _ (nI i) (fun c => ?_) (fun c => ⟨?_, c⟩) (fun c hp => ?_) (fun c hp => ?_)
      · simp only [qz_le, ei] at c
        rw [show i = n.toNatClampNeg by omega]
        exact hF
      · simp only [qz_lt, ei, qz_n0]
        omega
      · simp only [qz_le, ei] at c
        rw [x2] at hp
        rw [nI_1, ← qCt_pos hp]
        exact ih (i + 1) (by omega) (by omega)
      · simp only [qz_le, ei] at c
        rw [x2] at hp
        have h5 := ih (i + 1) (by omega) (by omega)
        rw [qCt_neg hp] at h5
        rw [nI_1]
        exact h5
  exact key (n.toInt.toNat + 1) 0 (by omega) (by omega)
theorem qCt_rng (P : Nat → Prop) : ∀ (n : Nat), n < 1000 → 0 ≤ (qCt P n).toInt ∧ (qCt P n).toInt ≤ n ∧ ((qCt P n).toInt = 0 ↔ ¬ ∃ k, k < n ∧ P k)
  | 0, _ => ⟨by simp only [qCt, qz_n0]; omega, by simp only [qCt, qz_n0]; omega, ⟨fun _ ⟨k, hk, _⟩ => by omega, fun _ => qz_n0⟩⟩
  | n + 1, hn => by
    obtain ⟨h1, h2, h3⟩ := qCt_rng P n (by omega)
    by_cases hp : P n
    · rw [qCt_pos hp]
      have e := qz_ad (a := qCt P n) (b := 1) (by rw [qz_n1]; omega) (by rw [qz_n1]; omega)
      rw [qz_n1] at e
      exact ⟨by omega, by omega, ⟨fun z => by omega, fun z => absurd ⟨n, by omega, hp⟩ z⟩⟩
    · rw [qCt_neg hp]
      refine ⟨h1, by omega, ⟨fun z => ?_, fun z => ?_⟩⟩
      · rintro ⟨k, hk, hpk⟩
        by_cases e : k = n
        · rw [e] at hpk; exact hp hpk
        · exact h3.mp z ⟨k, by omega, hpk⟩
      · exact h3.mpr (fun ⟨k, hk, hpk⟩ => z ⟨k, by omega, hpk⟩)
theorem qR_40 {v n : Int32} (h : qR v n) (hn : qI n 0 40) : qR v 40 := by
  simp only [qR, qI, qz_lt, qz_le, qz_n0, qz_n40] at h hn ⊢
  omega
