/-! bits that differ; bytes that are fed -/
def qz_pop (x : Int32) : Nat → Int32
  | 0 => 0
  | n + 1 => qz_pop x n + ((x >>> (nI n &&& 31)) &&& 1)
def qz_bcE (v0 : Int32) : Int32 := ((((((((v0 - (((v0.toUInt32 >>> (Int32.toUInt32 1 &&& Int32.toUInt32 31)).toInt32) &&& 1431655765)) &&& 858993459) + ((((v0 - (((v0.toUInt32 >>> (Int32.toUInt32 1 &&& Int32.toUInt32 31)).toInt32) &&& 1431655765)).toUInt32 >>> (Int32.toUInt32 2 &&& Int32.toUInt32 31)).toInt32) &&& 858993459)) + (((((v0 - (((v0.toUInt32 >>> (Int32.toUInt32 1 &&& Int32.toUInt32 31)).toInt32) &&& 1431655765)) &&& 858993459) + ((((v0 - (((v0.toUInt32 >>> (Int32.toUInt32 1 &&& Int32.toUInt32 31)).toInt32) &&& 1431655765)).toUInt32 >>> (Int32.toUInt32 2 &&& Int32.toUInt32 31)).toInt32) &&& 858993459)).toUInt32 >>> (Int32.toUInt32 4 &&& Int32.toUInt32 31)).toInt32)) &&& 252645135) + (((((((v0 - (((v0.toUInt32 >>> (Int32.toUInt32 1 &&& Int32.toUInt32 31)).toInt32) &&& 1431655765)) &&& 858993459) + ((((v0 - (((v0.toUInt32 >>> (Int32.toUInt32 1 &&& Int32.toUInt32 31)).toInt32) &&& 1431655765)).toUInt32 >>> (Int32.toUInt32 2 &&& Int32.toUInt32 31)).toInt32) &&& 858993459)) + (((((v0 - (((v0.toUInt32 >>> (Int32.toUInt32 1 &&& Int32.toUInt32 31)).toInt32) &&& 1431655765)) &&& 858993459) + ((((v0 - (((v0.toUInt32 >>> (Int32.toUInt32 1 &&& Int32.toUInt32 31)).toInt32) &&& 1431655765)).toUInt32 >>> (Int32.toUInt32 2 &&& Int32.toUInt32 31)).toInt32) &&& 858993459)).toUInt32 >>> (Int32.toUInt32 4 &&& Int32.toUInt32 31)).toInt32)) &&& 252645135).toUInt32 >>> (Int32.toUInt32 8 &&& Int32.toUInt32 31)).toInt32)) + ((((((((v0 - (((v0.toUInt32 >>> (Int32.toUInt32 1 &&& Int32.toUInt32 31)).toInt32) &&& 1431655765)) &&& 858993459) + ((((v0 - (((v0.toUInt32 >>> (Int32.toUInt32 1 &&& Int32.toUInt32 31)).toInt32) &&& 1431655765)).toUInt32 >>> (Int32.toUInt32 2 &&& Int32.toUInt32 31)).toInt32) &&& 858993459)) + (((((v0 - (((v0.toUInt32 >>> (Int32.toUInt32 1 &&& Int32.toUInt32 31)).toInt32) &&& 1431655765)) &&& 858993459) + ((((v0 - (((v0.toUInt32 >>> (Int32.toUInt32 1 &&& Int32.toUInt32 31)).toInt32) &&& 1431655765)).toUInt32 >>> (Int32.toUInt32 2 &&& Int32.toUInt32 31)).toInt32) &&& 858993459)).toUInt32 >>> (Int32.toUInt32 4 &&& Int32.toUInt32 31)).toInt32)) &&& 252645135) + (((((((v0 - (((v0.toUInt32 >>> (Int32.toUInt32 1 &&& Int32.toUInt32 31)).toInt32) &&& 1431655765)) &&& 858993459) + ((((v0 - (((v0.toUInt32 >>> (Int32.toUInt32 1 &&& Int32.toUInt32 31)).toInt32) &&& 1431655765)).toUInt32 >>> (Int32.toUInt32 2 &&& Int32.toUInt32 31)).toInt32) &&& 858993459)) + (((((v0 - (((v0.toUInt32 >>> (Int32.toUInt32 1 &&& Int32.toUInt32 31)).toInt32) &&& 1431655765)) &&& 858993459) + ((((v0 - (((v0.toUInt32 >>> (Int32.toUInt32 1 &&& Int32.toUInt32 31)).toInt32) &&& 1431655765)).toUInt32 >>> (Int32.toUInt32 2 &&& Int32.toUInt32 31)).toInt32) &&& 858993459)).toUInt32 >>> (Int32.toUInt32 4 &&& Int32.toUInt32 31)).toInt32)) &&& 252645135).toUInt32 >>> (Int32.toUInt32 8 &&& Int32.toUInt32 31)).toInt32)).toUInt32 >>> (Int32.toUInt32 16 &&& Int32.toUInt32 31)).toInt32)) &&& 63)
theorem qz_bc : ∀ k : Nat, k < 256 → qz_bcE (nI k) = qz_pop (nI k) 8 := by decide +kernel
theorem qz_bcI {v : Int32} (h : qI v 0 255) : qz_bcE v = qz_pop v 8 := by
  have h1 := qz_self h.1
  have c := qz_cl v
  have h2 := h
  simp only [qI, qz_lt, qz_n0, qz_n255] at h2
  have h3 := qz_bc v.toNatClampNeg (by omega)
  rw [h1] at h3
  exact h3
theorem qz_xorI {a b : Int32} (ha : qI a 0 255) (hb : qI b 0 255) : qI (a ^^^ b) 0 255 := by
  have ea := qz_self ha.1
  have eb := qz_self hb.1
  have ca := qz_cl a
  have cb := qz_cl b
  simp only [qI, qz_lt, qz_n0, qz_n255] at ha hb
  have hx : a.toNatClampNeg ^^^ b.toNatClampNeg < 2 ^ 8 := Nat.xor_lt_two_pow (by omega) (by omega)
  have e : a ^^^ b = nI (a.toNatClampNeg ^^^ b.toNatClampNeg) := by
    conv => lhs; rw [← ea, ← eb]
    apply Int32.toBitVec_inj.1
    show BitVec.ofNat 32 _ ^^^ BitVec.ofNat 32 _ = BitVec.ofNat 32 _
    apply BitVec.eq_of_getLsbD_eq
    intro i hi
    simp [hi]
  rw [e]
  simp only [qI, qz_lt, qz_n0, qz_n255, qz_nI (n := a.toNatClampNeg ^^^ b.toNatClampNeg) (by omega)]
  omega
theorem c_J6_bitCount_0f7a4 {X : qz_X} {d : Nat} {Q : qz_Q} (g : qz_G) (v0 : Int32) (h : (qI v0 0 255) ∧ Q g (qz_pop v0 8) 0) : qz_Call X (d + 1) 294 [.int v0] g Q := by
  refine v_J6_bitCount_0f7a4 g v0 ?_
  have h2 := h.2
  rw [← qz_bcI h.1] at h2
  exact h2
/-- LIKE -/
def qLk (kind marks from_ to_ : Nat → Int32) (a b bits : Int32) : Prop := kind a.toNatClampNeg = kind b.toNatClampNeg ∧ ¬ bits < qz_pop (marks a.toNatClampNeg ^^^ marks b.toNatClampNeg) 8 ∧ ¬ to_ b.toNatClampNeg < from_ a.toNatClampNeg ∧ ¬ to_ a.toNatClampNeg < from_ b.toNatClampNeg
theorem c_X12_isLike {X : qz_X} {d : Nat} {Q : qz_Q} (g : qz_G) (v1 v2 v3 : Int32) (h : (qR v1 (g.1 12 2)) ∧ (qR v2 (g.1 12 2)) ∧ (qI (g.1 12 2) 0 80) ∧ (qLk (g.1 89) (g.1 93) (g.1 91) (g.1 92) v1 v2 v3 → Q g 1 0) ∧ (¬ (qLk (g.1 89) (g.1 93) (g.1 91) (g.1 92) v1 v2 v3) → Q g 0 0)) : qz_Call X (d + 1) 283 [.ref 12, .int v1, .int v2, .int v3] g Q := by
  obtain ⟨h1, h2, hn, ht, hf⟩ := h
  have key : ∀ (n i : Nat), n + i = 8 → qz_WP X (d + 1) 283 Q 6 [(0, .ref 12), (1, .int v1), (2, .int v2), (3, .int v3), (4, .int (qz_pop (g.1 93 v1.toNatClampNeg ^^^ g.1 93 v2.toNatClampNeg) i)), (5, .int (nI i))] [] g := by
    intro n
    induction n with
    | zero =>
      intro i hi
      have e : i = 8 := by omega
      subst e
      exact v_X12_isLike_6 g v1 v2 v3 _ _ ⟨fun _ => ⟨qz_in80 h1 hn, qz_in80 h2 hn, fun a => hf (fun z => a z.1), fun a => ⟨fun b => hf (fun z => z.2.1 b), fun b => ⟨fun c => hf (fun z => z.2.2.1 c), fun c => ⟨fun e => hf (fun z => z.2.2.2 e), fun e => ht ⟨a, b, c, e⟩⟩⟩⟩⟩, fun c => absurd (by decide) c⟩
    | succ n ih =>
      intro i hi
      have ei := qz_nI (n := i) (by omega)
      refine v_X12_isLike_6 g v1 v2 v3 _ _ ⟨fun c => ?_, fun c => ⟨qz_in80 h1 hn, qz_in80 h2 hn, ?_⟩⟩
      · simp only [qz_le, ei, qz_n8] at c
        omega
      · rw [nI_1]
        exact ih (i + 1) (by omega)
  exact v_X12_isLike g v1 v2 v3 (key 8 0 rfl)
