/-! A small pure machine: cells are numbered by qz_La; memory is two functions (int and long contents by cell and place); references are cell numbers. qz_step: one instruction, goal first, with the goal behind it as 'k' and the goal at a return as 'Q'; calls go by the predicate transformers Sg. -/
abbrev qz_G : Type := (Nat → Nat → Int32) × (Nat → Nat → Int64)
abbrev qz_L : Type := List (Nat × Value)
abbrev qz_K : Type := Nat → qz_L → List Value → qz_G → Prop
/-- a goal at a return: the memory, the int answered (0 if none), the long answered (0 if none) -/
abbrev qz_Q : Type := qz_G → Int32 → Int64 → Prop
abbrev qz_S : Type := Nat → List Value → qz_G → qz_Q → Prop
/-- arrays that nobody writes: the class's constants and the law's script -/
abbrev qz_X : Type := Nat × (Nat → Int32)
def qz_ui (g : qz_G) (o j : Nat) (v : Int32) : qz_G := (fun a b => if a = o ∧ b = j then v else g.1 a b, g.2)
def qz_ul (g : qz_G) (o j : Nat) (v : Int64) : qz_G := (g.1, fun a b => if a = o ∧ b = j then v else g.2 a b)
def qz_uc (g : qz_G) (o : Nat) (f : Nat → Int32) : qz_G := (fun a b => if a = o then f b else g.1 a b, g.2)
def qz_letters : Nat → Int32 := fun j => match j with
  | 0 => 97 | 1 => 108 | 2 => 116 | 3 => 117 | 4 => 102 | 5 => 119 | 6 => 101 | 7 => 115 | 8 => 112 | _ => 120
def qz_limits : Nat → Int32 := fun j => match j with
  | 5 => 100 | 7 => 11 | 8 => 3 | 9 => 19 | _ => 999999
def qz_factsC : Nat → Int32 := fun j => match j with
  | 0 => 107 | 1 => 108 | 2 => 121 | 3 => 122 | 4 => 111 | 5 => 102 | 6 => 106 | _ => 100
def qz_SE (X : qz_X) (i : Nat) : Option (FieldType × Nat × (Nat → Int32)) := match i with
  | 1000 => some (.char, 10, qz_letters)
  | 1001 => some (.int, 10, qz_limits)
  | 1002 => some (.char, 8, qz_factsC)
  | 1003 => some (.int, X.1, X.2)
  | _ => none
def qz_look : qz_L → Nat → Option Value
  | [], _ => none
  | q :: t, i => bif Nat.beq q.1 i then some q.2 else qz_look t i
def qz_cat (v : Value) : Nat := match v with
  | .long _ => 2
  | .double _ => 2
  | _ => 1
def qz_has : qz_L → Nat → Bool
  | [], _ => false
  | q :: t, i => bif Nat.beq q.1 i then true else qz_has t i
def qz_repl : qz_L → Nat → Value → qz_L
  | [], _, _ => []
  | q :: t, i, v => (bif Nat.beq q.1 i then (i, v) else q) :: qz_repl t i v
def qz_drop : qz_L → Nat → Bool → qz_L
  | [], _, _ => []
  | q :: t, i, b => bif (Nat.beq (q.1 + 1) i && Nat.beq (qz_cat q.2) 2) || (b && Nat.beq q.1 (i + 1)) then qz_drop t i b else q :: qz_drop t i b
def qz_set (lv : qz_L) (i : Nat) (v : Value) : qz_L := bif qz_has lv i then qz_repl lv i v else lv ++ [(i, v)]
def qz_put (lv : qz_L) (i : Nat) (v : Value) : qz_L := qz_set (qz_drop lv i (Nat.beq (qz_cat v) 2)) i v
def qz_fv (g : qz_G) (o j : Nat) (f : Nat ⊕ Nat) : Value := match f with
  | .inl k => .ref k
  | .inr 1 => .long (g.2 o j)
  | .inr _ => .int (g.1 o j)
def qz_bit (v : Int32) : Prop := v = 0 ∨ v = 1
def qz_sum : List Value → Nat
  | [] => 0
  | v :: t => qz_cat v + qz_sum t
def qz_at : List (Nat × qz_op) → Nat → Option qz_op
  | [], _ => none
  | q :: t, pc => bif Nat.beq q.1 pc then some q.2 else qz_at t pc
def qz_mx (y : Nat) : Nat := match qz_M[y]? with
  | some q => q.2.2.1
  | none => 0
def qz_tgt (pc : Nat) (off : Int) : Nat := ((pc : Int) + off).toNat
/-- the switch's places, one after another -/
def qz_cases (v : Int32) (lo : Int) (pc : Nat) (k : Nat → Prop) : List Int → Prop
  | [] => True
  | off :: t => (v = Int32.ofInt lo → k (qz_tgt pc off)) ∧ qz_cases v (lo + 1) pc k t
def qz_pairs (v : Int32) (pc : Nat) (k : Nat → Prop) (d : Int) : List (Int × Int) → Prop
  | [] => k (qz_tgt pc d)
  | q :: t => (v = Int32.ofInt q.1 → k (qz_tgt pc q.2)) ∧ (¬ v = Int32.ofInt q.1 → qz_pairs v pc k d t)
def qz_np (z : Nat) : Nat := match qz_M[z]? with
  | some q => q.2.2.2.2.2.2.1
  | none => 0
def qz_oi (z : Nat) : Nat := match qz_M[z]? with
  | some q => q.2.2.2.2.1
  | none => 99
def qz_rt (z : Nat) : Option FieldType := match qz_M[z]? with
  | some q => q.2.2.2.1
  | none => none
/-- what a method's answer puts on the stack -/
def qz_rv (z : Nat) (v : Int32) (l : Int64) : Option Value := match qz_rt z with
  | none => none
  | some .long => some (.long l)
  | some _ => some (.int v)
/-- an object of class ci -/
def qz_obj (ci o : Nat) : Bool := match qz_La[o]? with
  | some (.inl q) => Nat.beq q.1 ci
  | _ => false
/-- a call of a method with n arguments (the object among them) -/
def qz_inv (Sg : qz_S) (z n : Nat) (pc : Nat) (lv : qz_L) (st : List Value) (g : qz_G) (k : qz_K) : Prop :=
  bif Nat.ble n st.length && Nat.ble (qz_sum (st.drop n)) 8 then Sg z (st.take n).reverse g (fun g' v l => k (pc + 3) lv ((qz_rv z v l).toList ++ st.drop n) g') else False
def qz_aload (ty : FieldType) (X : qz_X) (o : Nat) (i : Int32) (g : qz_G) (k : Int32 → Prop) : Prop := match qz_La[o]? with
  | some (.inr q) => bif decide (q.1 = ty) then vp_in i q.2 ∧ k (g.1 o i.toNatClampNeg) else False
  | some _ => False
  | none => match qz_SE X o with
    | some q => bif decide (q.1 = ty) then vp_in i q.2.1 ∧ k (q.2.2 i.toNatClampNeg) else False
    | none => False
def qz_alen (X : qz_X) (o : Nat) (k : Int32 → Prop) : Prop := match qz_La[o]? with
  | some (.inr q) => k (Int32.ofNat q.2)
  | some _ => False
  | none => match qz_SE X o with
    | some q => k (Int32.ofNat q.2.1)
    | none => False
def qz_step (X : qz_X) (Sg : qz_S) (o : qz_op) (pc : Nat) (lv : qz_L) (st : List Value) (g : qz_G) (k : qz_K) (Q : qz_Q) : Prop :=
  match o with
  | (.iload i, _, _, _) => match qz_look lv i with
    | some (.int v) => k (pc + 2) lv (.int v :: st) g
    | _ => False
  | (.iload_n i, _, _, _) => match qz_look lv i with
    | some (.int v) => k (pc + 1) lv (.int v :: st) g
    | _ => False
  | (.aload i, _, _, _) => match qz_look lv i with
    | some (.ref v) => k (pc + 2) lv (.ref v :: st) g
    | _ => False
  | (.aload_n i, _, _, _) => match qz_look lv i with
    | some (.ref v) => k (pc + 1) lv (.ref v :: st) g
    | _ => False
  | (.lload i, _, _, _) => match qz_look lv i with
    | some (.long v) => k (pc + 2) lv (.long v :: st) g
    | _ => False
  | (.lload_n i, _, _, _) => match qz_look lv i with
    | some (.long v) => k (pc + 1) lv (.long v :: st) g
    | _ => False
  | (.istore i, _, _, _) => match st with
    | .int v :: r => k (pc + 2) (qz_put lv i (.int v)) r g
    | _ => False
  | (.istore_n i, _, _, _) => match st with
    | .int v :: r => k (pc + 1) (qz_put lv i (.int v)) r g
    | _ => False
  | (.lstore i, _, _, _) => match st with
    | .long v :: r => k (pc + 2) (qz_put lv i (.long v)) r g
    | _ => False
  | (.lstore_n i, _, _, _) => match st with
    | .long v :: r => k (pc + 1) (qz_put lv i (.long v)) r g
    | _ => False
  | (.iinc i n, _, _, _) => match qz_look lv i with
    | some (.int v) => k (pc + 3) (qz_put lv i (.int (v + Int32.ofInt n))) st g
    | _ => False
  | (.iconst n, _, _, _) => k (pc + 1) lv (.int (Int32.ofInt n) :: st) g
  | (.bipush n, _, _, _) => k (pc + 2) lv (.int (Int8.ofInt n).toInt32 :: st) g
  | (.sipush n, _, _, _) => k (pc + 3) lv (.int (Int16.ofInt n).toInt32 :: st) g
  | (.lconst n, _, _, _) => k (pc + 1) lv (.long (Int64.ofNat (n : Nat)) :: st) g
  | (.ldc _, _, _, b) => k (pc + 2) lv (.int (Int32.ofInt b) :: st) g
  | (.ldc_w _, _, _, b) => k (pc + 3) lv (.int (Int32.ofInt b) :: st) g
  | (.ldc2_w _, _, _, b) => k (pc + 3) lv (.long (Int64.ofInt b) :: st) g
  | (.iadd, _, _, _) => match st with
    | .int b :: .int a :: r => k (pc + 1) lv (.int (a + b) :: r) g
    | _ => False
  | (.isub, _, _, _) => match st with
    | .int b :: .int a :: r => k (pc + 1) lv (.int (a - b) :: r) g
    | _ => False
  | (.imul, _, _, _) => match st with
    | .int b :: .int a :: r => k (pc + 1) lv (.int (a * b) :: r) g
    | _ => False
  | (.iand, _, _, _) => match st with
    | .int b :: .int a :: r => k (pc + 1) lv (.int (a &&& b) :: r) g
    | _ => False
  | (.ior, _, _, _) => match st with
    | .int b :: .int a :: r => k (pc + 1) lv (.int (a ||| b) :: r) g
    | _ => False
  | (.ixor, _, _, _) => match st with
    | .int b :: .int a :: r => k (pc + 1) lv (.int (a ^^^ b) :: r) g
    | _ => False
  | (.ishl, _, _, _) => match st with
    | .int b :: .int a :: r => k (pc + 1) lv (.int (a <<< (b &&& 31)) :: r) g
    | _ => False
  | (.ishr, _, _, _) => match st with
    | .int b :: .int a :: r => k (pc + 1) lv (.int (a >>> (b &&& 31)) :: r) g
    | _ => False
  | (.iushr, _, _, _) => match st with
    | .int b :: .int a :: r => k (pc + 1) lv (.int (a.toUInt32 >>> (b.toUInt32 &&& Int32.toUInt32 31)).toInt32 :: r) g
    | _ => False
  | (.idiv, _, _, _) => match st with
    | .int b :: .int a :: r => ¬ b = 0 ∧ k (pc + 1) lv (.int (a / b) :: r) g
    | _ => False
  | (.irem, _, _, _) => match st with
    | .int b :: .int a :: r => ¬ b = 0 ∧ k (pc + 1) lv (.int (a - a / b * b) :: r) g
    | _ => False
  | (.ladd, _, _, _) => match st with
    | .long b :: .long a :: r => k (pc + 1) lv (.long (a + b) :: r) g
    | _ => False
  | (.lsub, _, _, _) => match st with
    | .long b :: .long a :: r => k (pc + 1) lv (.long (a - b) :: r) g
    | _ => False
  | (.lmul, _, _, _) => match st with
    | .long b :: .long a :: r => k (pc + 1) lv (.long (a * b) :: r) g
    | _ => False
  | (.ldiv, _, _, _) => match st with
    | .long b :: .long a :: r => ¬ b = 0 ∧ k (pc + 1) lv (.long (a / b) :: r) g
    | _ => False
  | (.lcmp, _, _, _) => match st with
    | .long b :: .long a :: r => k (pc + 1) lv (.int (lg_cmp a b) :: r) g
    | _ => False
  | (.i2l, _, _, _) => match st with
    | .int a :: r => k (pc + 1) lv (.long a.toInt64 :: r) g
    | _ => False
  | (.i2b, _, _, _) => match st with
    | .int a :: r => k (pc + 1) lv (.int a.toInt8.toInt32 :: r) g
    | _ => False
  | (.dup, _, _, _) => match st with
    | v :: r => bif Nat.beq (qz_cat v) 1 then k (pc + 1) lv (v :: v :: r) g else False
    | _ => False
  | (.dup2, _, _, _) => match st with
    | v :: w :: r => bif Nat.beq (qz_cat v) 1 && Nat.beq (qz_cat w) 1 then k (pc + 1) lv (v :: w :: v :: w :: r) g else False
    | _ => False
  | (.pop, _, _, _) => match st with
    | v :: r => bif Nat.beq (qz_cat v) 1 then k (pc + 1) lv r g else False
    | _ => False
  | (.goto off, _, _, _) => k (qz_tgt pc off) lv st g
  | (.ifCond c off, _, _, _) => match st with
    | .int a :: r => match c with
      | .eq => (a = 0 → k (qz_tgt pc off) lv r g) ∧ (¬ a = 0 → k (pc + 3) lv r g)
      | .ne => (¬ a = 0 → k (qz_tgt pc off) lv r g) ∧ (a = 0 → k (pc + 3) lv r g)
      | .lt => (a < 0 → k (qz_tgt pc off) lv r g) ∧ (¬ a < 0 → k (pc + 3) lv r g)
      | .ge => (0 ≤ a → k (qz_tgt pc off) lv r g) ∧ (¬ 0 ≤ a → k (pc + 3) lv r g)
      | .gt => (0 < a → k (qz_tgt pc off) lv r g) ∧ (¬ 0 < a → k (pc + 3) lv r g)
      | .le => (a ≤ 0 → k (qz_tgt pc off) lv r g) ∧ (¬ a ≤ 0 → k (pc + 3) lv r g)
    | _ => False
  | (.if_icmp c off, _, _, _) => match st with
    | .int b :: .int a :: r => match c with
      | .eq => (a = b → k (qz_tgt pc off) lv r g) ∧ (¬ a = b → k (pc + 3) lv r g)
      | .ne => (¬ a = b → k (qz_tgt pc off) lv r g) ∧ (a = b → k (pc + 3) lv r g)
      | .lt => (a < b → k (qz_tgt pc off) lv r g) ∧ (¬ a < b → k (pc + 3) lv r g)
      | .ge => (b ≤ a → k (qz_tgt pc off) lv r g) ∧ (¬ b ≤ a → k (pc + 3) lv r g)
      | .gt => (b < a → k (qz_tgt pc off) lv r g) ∧ (¬ b < a → k (pc + 3) lv r g)
      | .le => (a ≤ b → k (qz_tgt pc off) lv r g) ∧ (¬ a ≤ b → k (pc + 3) lv r g)
    | _ => False
  | (.tableswitch d lo hi offs, _, _, _) => match st with
    | .int a :: r => (a.toInt < lo ∨ hi < a.toInt → k (qz_tgt pc d) lv r g) ∧ (¬ (a.toInt < lo ∨ hi < a.toInt) → qz_cases a lo pc (fun t => k t lv r g) offs.toList)
    | _ => False
  | (.lookupswitch d ps, _, _, _) => match st with
    | .int a :: r => qz_pairs a pc (fun t => k t lv r g) d ps.toList
    | _ => False
  | (.getfield _, _, ci, b) => match st with
    | .ref o :: r => match qz_La[o]? with
      | some (.inl q) => match q.2[b.toNat]? with
        | some f => bif Nat.beq q.1 ci then k (pc + 3) lv (qz_fv g o b.toNat f :: r) g else False
        | none => False
      | _ => False
    | _ => False
  | (.putfield _, _, ci, b) => match st with
    | .int v :: .ref o :: r => match qz_La[o]? with
      | some (.inl q) => match q.2[b.toNat]? with
        | some (.inr 0) => bif Nat.beq q.1 ci then k (pc + 3) lv r (qz_ui g o b.toNat v) else False
        | some (.inr 2) => bif Nat.beq q.1 ci then qz_bit v ∧ k (pc + 3) lv r (qz_ui g o b.toNat v) else False
        | _ => False
      | _ => False
    | .long v :: .ref o :: r => match qz_La[o]? with
      | some (.inl q) => match q.2[b.toNat]? with
        | some (.inr 1) => bif Nat.beq q.1 ci then k (pc + 3) lv r (qz_ul g o b.toNat v) else False
        | _ => False
      | _ => False
    | _ => False
  | (.getstatic _, _, i, _) => k (pc + 3) lv (.ref i :: st) g
  | (.iaload, _, _, _) => match st with
    | .int i :: .ref o :: r => qz_aload .int X o i g (fun v => k (pc + 1) lv (.int v :: r) g)
    | _ => False
  | (.caload, _, _, _) => match st with
    | .int i :: .ref o :: r => qz_aload .char X o i g (fun v => k (pc + 1) lv (.int v :: r) g)
    | _ => False
  | (.baload, _, _, _) => match st with
    | .int i :: .ref o :: r => match qz_La[o]? with
      | some (.inr (.boolean, n)) => vp_in i n ∧ k (pc + 1) lv (.int (g.1 o i.toNatClampNeg) :: r) g
      | some (.inr (.byte, n)) => vp_in i n ∧ k (pc + 1) lv (.int (g.1 o i.toNatClampNeg) :: r) g
      | _ => False
    | _ => False
  | (.laload, _, _, _) => match st with
    | .int i :: .ref o :: r => match qz_La[o]? with
      | some (.inr (.long, n)) => vp_in i n ∧ k (pc + 1) lv (.long (g.2 o i.toNatClampNeg) :: r) g
      | _ => False
    | _ => False
  | (.iastore, _, _, _) => match st with
    | .int v :: .int i :: .ref o :: r => match qz_La[o]? with
      | some (.inr (.int, n)) => vp_in i n ∧ k (pc + 1) lv r (qz_ui g o i.toNatClampNeg v)
      | _ => False
    | _ => False
  | (.bastore, _, _, _) => match st with
    | .int v :: .int i :: .ref o :: r => match qz_La[o]? with
      | some (.inr (.boolean, n)) => vp_in i n ∧ k (pc + 1) lv r (qz_ui g o i.toNatClampNeg (vp_nar .boolean v))
      | some (.inr (.byte, n)) => vp_in i n ∧ k (pc + 1) lv r (qz_ui g o i.toNatClampNeg (vp_nar .byte v))
      | _ => False
    | _ => False
  | (.lastore, _, _, _) => match st with
    | .long v :: .int i :: .ref o :: r => match qz_La[o]? with
      | some (.inr (.long, n)) => vp_in i n ∧ k (pc + 1) lv r (qz_ul g o i.toNatClampNeg v)
      | _ => False
    | _ => False
  | (.arraylength, _, _, _) => match st with
    | .ref o :: r => qz_alen X o (fun v => k (pc + 1) lv (.int v :: r) g)
    | _ => False
  | (.invokevirtual _, _, z, _) => match (st.take (qz_np z + 1)).reverse with
    | .ref o :: _ => bif qz_obj (qz_oi z) o then qz_inv Sg z (qz_np z + 1) pc lv st g k else False
    | _ => False
  | (.invokestatic _, _, z, _) => bif Nat.beq z 9999 then match st with
      | .int n :: .int dp :: .ref o1 :: .int sp :: .ref o0 :: r => match qz_La[o0]?, qz_La[o1]? with
        | some (.inr (.int, n0)), some (.inr (.int, n1)) => bif Nat.ble (qz_sum r) 8 then (¬ sp < 0 ∧ ¬ dp < 0 ∧ ¬ n < 0 ∧ sp.toNatClampNeg + n.toNatClampNeg ≤ n0 ∧ dp.toNatClampNeg + n.toNatClampNeg ≤ n1) ∧ k (pc + 3) lv r (qz_uc g o1 (va_cpy (g.1 o0) (g.1 o1) sp.toNatClampNeg dp.toNatClampNeg n.toNatClampNeg)) else False
        | _, _ => False
      | _ => False
    else qz_inv Sg z (qz_np z) pc lv st g k
  | (.ireturn, _, a, _) => match st with
    | [.int v] => match a with
      | 0 => Q g v 0
      | _ => qz_bit v ∧ Q g v 0
    | _ => False
  | (.lreturn, _, _, _) => match st with
    | [.long v] => Q g 0 v
    | _ => False
  | (.return_, _, _, _) => match st with
    | [] => Q g 0 0
    | _ => False
  | _ => False
def qz_keep (lv : qz_L) : List Nat → qz_L
  | [] => []
  | i :: t => match qz_look lv i with
    | some v => (i, v) :: qz_keep lv t
    | none => qz_keep lv t
def qz_cut : List (Nat × List Nat) → Nat → Option (List Nat)
  | [], _ => none
  | q :: t, pc => bif Nat.beq q.1 pc then some q.2 else qz_cut t pc
/-- n instructions; at a place of 'cut' the goal is K of the locals that are kept there -/
def qw_vc (X : qz_X) (Sg : qz_S) (cd : List (Nat × qz_op)) (cut : List (Nat × List Nat)) (K : qz_K) (Q : qz_Q) : Nat → qz_K
  | 0 => K
  | n + 1 => fun pc lv st g => match qz_at cd pc with
    | some o => qz_step X Sg o pc lv st g (fun pc' lv' st' g' => match qz_cut cut pc' with
      | some ks => K pc' (qz_keep lv' ks) st' g'
      | none => qw_vc X Sg cd cut K Q n pc' lv' st' g') Q
    | none => False

def qz_ln (i : Instr) (len : Nat) : Nat := match i with
  | .iload _ => 2
  | .aload _ => 2
  | .lload _ => 2
  | .istore _ => 2
  | .lstore _ => 2
  | .iinc _ _ => 3
  | .bipush _ => 2
  | .sipush _ => 3
  | .ldc _ => 2
  | .ldc_w _ => 3
  | .ldc2_w _ => 3
  | .goto _ => 3
  | .ifCond _ _ => 3
  | .if_icmp _ _ => 3
  | .tableswitch _ _ _ _ => len
  | .lookupswitch _ _ => len
  | .getfield _ => 3
  | .putfield _ => 3
  | .getstatic _ => 3
  | .invokevirtual _ => 3
  | .invokestatic _ => 3
  | .invokespecial _ => 3
  | _ => 1
def qz_nm (z : Nat) : MethodName := match qz_M[z]? with
  | some q => q.1
  | none => ⟨"", "", ""⟩
def qz_by (z : Nat) : ByteArray := match qz_M[z]? with
  | some q => q.2.1
  | none => ⟨#[]⟩
def qz_sk (z : Nat) : Nat := match qz_M[z]? with
  | some q => q.2.2.2.2.2.1
  | none => 9
def qz_cd (z : Nat) : List (Nat × qz_op) := match qz_M[z]? with
  | some q => q.2.2.2.2.2.2.2
  | none => []
def qz_on1 (i : Nat) : String := match qz_on[i]? with
  | some q => q
  | none => ""
def qz_ow (z : Nat) : String := qz_on1 (qz_oi z)
/-- what a program checks of an instruction of method y -/
def qz_ok2 (y : Nat) (q : Nat × qz_op) : Bool := match q.2 with
  | (.istore i, _, _, _) => Nat.blt i (qz_mx y)
  | (.istore_n i, _, _, _) => Nat.blt i (qz_mx y)
  | (.lstore i, _, _, _) => Nat.blt (i + 1) (qz_mx y)
  | (.lstore_n i, _, _, _) => Nat.blt (i + 1) (qz_mx y)
  | (.iinc i _, _, _, _) => Nat.blt i (qz_mx y)
  | (.ldc i, _, _, b) => qz_CN.any (fun t => Nat.beq t.1 (qz_oi y) && Nat.beq t.2.1 i && decide (t.2.2.1 = b))
  | (.ldc_w i, _, _, b) => qz_CN.any (fun t => Nat.beq t.1 (qz_oi y) && Nat.beq t.2.1 i && decide (t.2.2.1 = b))
  | (.ldc2_w i, _, _, b) => qz_JL.any (fun t => Nat.beq t.1 (qz_oi y) && Nat.beq t.2.1 i && decide (t.2.2.1 = b))
  | (.getfield i, _, a, b) => qz_FL.any (fun t => Nat.beq t.1 (qz_oi y) && Nat.beq t.2.1 i && Nat.beq t.2.2.1 a && Nat.beq t.2.2.2.1 b.toNat)
  | (.putfield i, _, a, b) => qz_FL.any (fun t => Nat.beq t.1 (qz_oi y) && Nat.beq t.2.1 i && Nat.beq t.2.2.1 a && Nat.beq t.2.2.2.1 b.toNat)
  | (.getstatic i, _, a, _) => Nat.beq (qz_oi y) 6 && ((Nat.beq a 1000 && Nat.beq i 52) || (Nat.beq a 1001 && Nat.beq i 68) || (Nat.beq a 1002 && Nat.beq i 123))
  | (.invokevirtual i, _, a, _) => qz_ML.any (fun t => Nat.beq t.1 (qz_oi y) && Nat.beq t.2.1 i && Nat.beq t.2.2.1 a) && Nat.beq (qz_sk a) 0 && qz_ms.elem a
  | (.invokestatic i, _, a, _) => Nat.beq (qz_sk a) 1 && qz_ms.elem a && (qz_ML.any (fun t => Nat.beq t.1 (qz_oi y) && Nat.beq t.2.1 i && Nat.beq t.2.2.1 a) || qz_NL.any (fun t => Nat.beq t.1 (qz_oi y) && Nat.beq t.2.1 i && Nat.beq t.2.2.1 a))
  | (.ireturn, _, a, _) => match qz_rt y with
    | some .int => Nat.beq a 0
    | some .boolean => Nat.beq a 1
    | _ => false
  | (.lreturn, _, _, _) => decide (qz_rt y = some .long)
  | (.return_, _, _, _) => decide (qz_rt y = none)
  | (.tableswitch d lo hi offs, _, _, _) => decide (hi + 1 - lo = offs.size) && decide (0 ≤ (q.1 : Int) + d) && offs.toList.all (fun t => decide (0 ≤ (q.1 : Int) + t)) && decide (-2147483648 ≤ lo) && decide (hi < 2147483648)
  | (.lookupswitch d ps, _, _, _) => decide (0 ≤ (q.1 : Int) + d) && ps.toList.all (fun t => decide (0 ≤ (q.1 : Int) + t.2) && decide (-2147483648 ≤ t.1) && decide (t.1 < 2147483648)) && (ps.toList.zip (ps.toList.drop 1)).all (fun (a, next) => a.1 < next.1)
  | (.goto d, _, _, _) => decide (0 ≤ (q.1 : Int) + d)
  | (.ifCond _ d, _, _, _) => decide (0 ≤ (q.1 : Int) + d)
  | (.if_icmp _ d, _, _, _) => decide (0 ≤ (q.1 : Int) + d)
  | _ => true
def qz_ok1 (y : Nat) (q : Nat × qz_op) : Bool := decide (decode (qz_by y) q.1 = .ok (q.2.1, qz_ln q.2.1 q.2.2.1))
/-- the whole check of a method's table -/
def qz_ok (y : Nat) : Prop := ∀ q ∈ qz_cd y, decode (qz_by y) q.1 = .ok (q.2.1, qz_ln q.2.1 q.2.2.1) ∧ qz_ok2 y q = true
