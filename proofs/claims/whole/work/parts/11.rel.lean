/-! memory read behind stores; what is between the class and the reference -/
theorem qz_i1 (g : qz_G) (o j : Nat) (v : Int32) (a : Nat) : (qz_ui g o j v).1 a = if a = o then upd (g.1 o) j v else g.1 a := by
  by_cases h : a = o
  · subst h; rw [if_pos rfl, qz_ui_at]
  · rw [if_neg h, qz_ui_ne g o j v a h]
theorem qz_i2 (g : qz_G) (o j : Nat) (v : Int32) : (qz_ui g o j v).2 = g.2 := rfl
theorem qz_l1 (g : qz_G) (o j : Nat) (v : Int64) : (qz_ul g o j v).1 = g.1 := rfl
theorem qz_l2 (g : qz_G) (o j : Nat) (v : Int64) (a : Nat) : (qz_ul g o j v).2 a = if a = o then vp_updL (g.2 o) j v else g.2 a := by
  by_cases h : a = o
  · subst h; rw [if_pos rfl, qz_ul_at]
  · rw [if_neg h, qz_ul_ne g o j v a h]
theorem qz_c1 (g : qz_G) (o : Nat) (f : Nat → Int32) (a : Nat) : (qz_uc g o f).1 a = if a = o then f else g.1 a := by
  by_cases h : a = o
  · subst h; rw [if_pos rfl, qz_uc_at]
  · rw [if_neg h, qz_uc_ne g o f a h]
theorem qz_c2 (g : qz_G) (o : Nat) (f : Nat → Int32) : (qz_uc g o f).2 = g.2 := rfl
theorem qz_u1 (f : Nat → Int32) (k : Nat) (x : Int32) (j : Nat) : upd f k x j = if j = k then x else f j := rfl
theorem qz_u2 (f : Nat → Int64) (k : Nat) (x : Int64) (j : Nat) : vp_updL f k x j = if j = k then x else f j := rfl
theorem qz_lt (a b : Int32) : a < b ↔ a.toInt < b.toInt := Int32.lt_iff_toInt_lt
theorem qz_le (a b : Int32) : a ≤ b ↔ a.toInt ≤ b.toInt := Int32.le_iff_toInt_le
theorem qz_eq (a b : Int32) : a = b ↔ a.toInt = b.toInt := Int32.toInt_inj.symm
theorem qz_rg (x : Int32) : -2147483648 ≤ x.toInt ∧ x.toInt < 2147483648 := ⟨Int32.le_toInt x, Int32.toInt_lt x⟩
theorem qz_cl (x : Int32) : (x.toNatClampNeg : Int) = max x.toInt 0 := by
  show ((x.toInt.toNat : Nat) : Int) = _
  omega
theorem qz_bm {z : Int} (h1 : -2147483648 ≤ z) (h2 : z < 2147483648) : z.bmod 4294967296 = z := by
  rw [Int.bmod_def]
  split <;> omega
theorem qz_ad {a b : Int32} (h1 : -2147483648 ≤ a.toInt + b.toInt) (h2 : a.toInt + b.toInt < 2147483648) : (a + b).toInt = a.toInt + b.toInt := by rw [Int32.toInt_add]; exact qz_bm h1 h2
theorem qz_sb {a b : Int32} (h1 : -2147483648 ≤ a.toInt - b.toInt) (h2 : a.toInt - b.toInt < 2147483648) : (a - b).toInt = a.toInt - b.toInt := by rw [Int32.toInt_sub]; exact qz_bm h1 h2
theorem qz_ml {a b : Int32} (h1 : -2147483648 ≤ a.toInt * b.toInt) (h2 : a.toInt * b.toInt < 2147483648) : (a * b).toInt = a.toInt * b.toInt := by rw [Int32.toInt_mul]; exact qz_bm h1 h2
theorem qz_vi {i : Int32} {n : Nat} (h1 : 0 ≤ i.toInt) (h2 : i.toInt < n) : vp_in i n := vp_in_iff.mpr ⟨h1, h2⟩
theorem qz_m1 : (-1 : Int32).toInt = -1 := by decide
theorem qz_n0 : (0 : Int32).toInt = 0 := by decide
theorem qz_n1 : (1 : Int32).toInt = 1 := by decide
theorem qz_n2 : (2 : Int32).toInt = 2 := by decide
theorem qz_n3 : (3 : Int32).toInt = 3 := by decide
theorem qz_n4 : (4 : Int32).toInt = 4 := by decide
theorem qz_n5 : (5 : Int32).toInt = 5 := by decide
theorem qz_n6 : (6 : Int32).toInt = 6 := by decide
theorem qz_n7 : (7 : Int32).toInt = 7 := by decide
theorem qz_n8 : (8 : Int32).toInt = 8 := by decide
theorem qz_n9 : (9 : Int32).toInt = 9 := by decide
theorem qz_n10 : (10 : Int32).toInt = 10 := by decide
theorem qz_n11 : (11 : Int32).toInt = 11 := by decide
theorem qz_n12 : (12 : Int32).toInt = 12 := by decide
theorem qz_n13 : (13 : Int32).toInt = 13 := by decide
theorem qz_n19 : (19 : Int32).toInt = 19 := by decide
theorem qz_n20 : (20 : Int32).toInt = 20 := by decide
theorem qz_n32 : (32 : Int32).toInt = 32 := by decide
theorem qz_n39 : (39 : Int32).toInt = 39 := by decide
theorem qz_n40 : (40 : Int32).toInt = 40 := by decide
theorem qz_n48 : (48 : Int32).toInt = 48 := by decide
theorem qz_n57 : (57 : Int32).toInt = 57 := by decide
theorem qz_n79 : (79 : Int32).toInt = 79 := by decide
theorem qz_n80 : (80 : Int32).toInt = 80 := by decide
theorem qz_n96 : (96 : Int32).toInt = 96 := by decide
theorem qz_n99 : (99 : Int32).toInt = 99 := by decide
theorem qz_n100 : (100 : Int32).toInt = 100 := by decide
theorem qz_n200 : (200 : Int32).toInt = 200 := by decide
theorem qz_n220 : (220 : Int32).toInt = 220 := by decide
theorem qz_n240 : (240 : Int32).toInt = 240 := by decide
theorem qz_n255 : (255 : Int32).toInt = 255 := by decide
theorem qz_n300 : (300 : Int32).toInt = 300 := by decide
theorem qz_n320 : (320 : Int32).toInt = 320 := by decide
theorem qz_n365 : (365 : Int32).toInt = 365 := by decide
theorem qz_n1000 : (1000 : Int32).toInt = 1000 := by decide
theorem qz_n4000 : (4000 : Int32).toInt = 4000 := by decide
theorem qz_n4400 : (4400 : Int32).toInt = 4400 := by decide
theorem qz_n10000 : (10000 : Int32).toInt = 10000 := by decide
theorem qz_n99999 : (99999 : Int32).toInt = 99999 := by decide
theorem qz_n100000 : (100000 : Int32).toInt = 100000 := by decide
theorem qz_n999999 : (999999 : Int32).toInt = 999999 := by decide
theorem qz_n65535 : (65535 : Int32).toInt = 65535 := by decide
theorem qz_n65536 : (65536 : Int32).toInt = 65536 := by decide
theorem qz_n1048576 : (1048576 : Int32).toInt = 1048576 := by decide
/-- the same contents, cell by cell -/
def RelE (g : qz_G) : Prop := g.1 14 = g.1 79 ∧ g.1 15 = g.1 81 ∧ g.1 16 = g.1 82 ∧ g.1 17 = g.1 83 ∧ g.1 46 = g.1 84 ∧ g.1 18 = g.1 85 ∧ g.1 19 = g.1 86 ∧ g.1 20 = g.1 87 ∧ g.1 21 = g.1 88 ∧ g.1 22 = g.1 89 ∧ g.1 23 = g.1 90 ∧ g.1 24 = g.1 91 ∧ g.1 25 = g.1 92 ∧ g.1 26 = g.1 93 ∧ g.1 27 = g.1 94 ∧ g.1 28 = g.1 95 ∧ g.1 29 = g.1 96 ∧ g.1 30 = g.1 97 ∧ g.1 31 = g.1 98 ∧ g.1 34 = g.1 122 ∧ g.1 35 = g.1 123 ∧ g.1 36 = g.1 124 ∧ g.1 37 = g.1 125 ∧ g.1 38 = g.1 126 ∧ g.1 39 = g.1 127 ∧ g.1 40 = g.1 128 ∧ g.1 41 = g.1 129 ∧ g.1 42 = g.1 130 ∧ g.1 43 = g.1 131 ∧ g.1 44 = g.1 132 ∧ g.1 45 = g.1 133 ∧ g.1 47 = g.1 108 ∧ g.1 48 = g.1 109 ∧ g.1 49 = g.1 110 ∧ g.1 50 = g.1 111 ∧ g.1 61 = g.1 120 ∧ g.1 62 = g.1 121 ∧ g.1 67 = g.1 134 ∧ g.1 68 = g.1 135 ∧ g.1 69 = g.1 136 ∧ g.1 70 = g.1 137 ∧ g.1 71 = g.1 138 ∧ g.1 72 = g.1 139 ∧ g.1 73 = g.1 140 ∧ g.1 74 = g.1 141
def RelS (g : qz_G) : Prop := g.1 0 10 = g.1 12 0 ∧ g.1 2 8 = g.1 12 1 ∧ g.1 3 12 = g.1 12 2 ∧ g.1 2 9 = g.1 12 3 ∧ g.1 1 1 = g.1 12 25 ∧ g.1 6 17 = g.1 12 41 ∧ g.1 4 13 = g.1 12 55 ∧ g.1 4 14 = g.1 12 56 ∧ g.1 4 15 = g.1 12 71 ∧ g.1 10 12 = g.1 12 72 ∧ g.1 10 13 = g.1 12 73
/-- the counts' bounds -/
def RelB (now owners works deaths taped laws looks letters agreed leaves uses : Int32) : Prop := qI now 0 99999 ∧ qI owners 0 40 ∧ qI works 0 80 ∧ qI deaths 0 200 ∧ qI taped 0 200 ∧ qI laws 0 20 ∧ qI looks 0 300 ∧ qI letters 0 200 ∧ qI agreed 0 200 ∧ qI leaves 0 100 ∧ qI uses 0 300
/-- a chain of firms comes to an end -/
def qz_up (part : Nat → Int32) : Nat → Int32 → Int32
  | 0, o => o
  | n + 1, o => if o < 0 then o else qz_up part n (part o.toNatClampNeg)
def RelP (owners : Int32) (part : Nat → Int32) : Prop := (∀ i : Nat, i < 40 → part i = -1 ∨ qR (part i) owners) ∧ (∀ i : Nat, owners.toInt ≤ (i : Int) → i < 40 → part i = -1) ∧ ∀ o : Int32, qR o owners → ∃ n, qz_up part n o < 0
def RelD (deaths owners : Int32) (who from_ to_ told : Nat → Int32) : Prop := ∀ k : Nat, (k : Int) < deaths.toInt → qR (who k) owners ∧ qI (from_ k) 0 99999 ∧ qI (to_ k) (from_ k) 99999
def RelW (works owners : Int32) (kind land from_ to_ marks inn depth many who part : Nat → Int32) : Prop := ∀ w : Nat, (w : Int) < works.toInt → qR (kind w) 8 ∧ qR (land w) 4 ∧ qI (from_ w) 0 99999 ∧ qI (to_ w) (from_ w) 99999 ∧ qI (marks w) 0 255 ∧ (inn w = -1 ∨ (qR (inn w) works ∧ (inn w).toInt < w)) ∧ qI (depth w) 1 8 ∧ (inn w = -1 → depth w = 1) ∧ (¬ inn w = -1 → (depth w).toInt = (depth (inn w).toNatClampNeg).toInt + 1) ∧ qI (many w) 0 4 ∧ ∀ i : Nat, (i : Int) < (many w).toInt → qR (who (4 * w + i)) owners ∧ qI (part (4 * w + i)) 1 100
def RelZ (works : Int32) (many : Nat → Int32) : Prop := ∀ w : Nat, works.toInt ≤ (w : Int) → many w = 0
def RelK (looks works owners now : Int32) (work source day who told : Nat → Int32) : Prop := ∀ k : Nat, (k : Int) < looks.toInt → qR (work k) works ∧ qR (source k) 12 ∧ qI (day k) 0 99999 ∧ (who k = -1 ∨ qR (who k) owners)
def RelT (letters owners now : Int32) (who day told answered : Nat → Int32) : Prop := ∀ k : Nat, (k : Int) < letters.toInt → qR (who k) owners ∧ qI (day k) 0 99999 ∧ (answered k = -1 ∨ qI (answered k) 0 now)
def RelA (agreed now : Int32) (on : Nat → Int32) : Prop := ∀ k : Nat, (k : Int) < agreed.toInt → qI (on k) 0 now
def RelV (leaves works now : Int32) (work land day end_ : Nat → Int32) : Prop := ∀ k : Nat, (k : Int) < leaves.toInt → qR (work k) works ∧ qR (land k) 4 ∧ qI (day k) 0 now ∧ (end_ k = -1 ∨ ¬ end_ k < 0)
def RelC (cost chance : Nat → Int32) : Prop := (∀ k : Nat, qI (cost k) 0 10000) ∧ ∀ k : Nat, qI (chance k) 0 100
def RelY (bytes tape : Nat → Int32) : Prop := ∀ k : Nat, k < 200 → bytes k = tape k &&& 255
def RelJ (lists listed : Nat → Int32) : Prop := ∀ w l : Nat, w < 80 → l < 4 → (((lists w) >>> (nI l &&& 31)) &&& 1 = 0 ↔ listed (80 * l + w) = 0)
def qz_earn (who : Nat → Int32) (pence : Nat → Int64) (k : Int32) : Nat → Int64
  | 0 => 0
  | n + 1 => qz_earn who pence k n + (if who n = k then pence n else 0)
def RelU (uses : Int32) (earn : Nat → Int64) (who : Nat → Int32) (pence : Nat → Int64) (leaves : Int32) : Prop := (∀ k : Nat, k < 100 → earn k = qz_earn who pence (nI k) uses.toNatClampNeg) ∧ ∀ i : Nat, (i : Int) < uses.toInt → qR (who i) leaves
/-- laws -/
def RelL (laws asks : Int32) (clauses kind first second from_ to_ code letter cfrom cto nOf jOf codes : Nat → Int32) : Prop := ∀ i : Nat, (i : Int) < laws.toInt → ∃ C : List qOp, C.length ≤ 200 ∧ (∀ k, k < C.length → code (200 * i + k) = qWx k (qOa C k) ∧ codes (220 * i + k) = qWm (qOa C k)) ∧ qI (clauses i) 0 12 ∧ ∀ j : Nat, (j : Int) < (clauses i).toInt → ∃ kd a b : Nat, kd < 10 ∧ a ≤ b ∧ b ≤ C.length ∧ kind (12 * i + j) = nI kd ∧ letter (12 * i + j) = qz_letters kd ∧ first (12 * i + j) = nOf (12 * i + j) ∧ qI (nOf (12 * i + j)) 0 (qz_limits kd) ∧ (kd = 9 → second (12 * i + j) = jOf (12 * i + j) ∧ qI (jOf (12 * i + j)) 0 11) ∧ from_ (12 * i + j) = nI (200 * i + a) ∧ to_ (12 * i + j) = nI (200 * i + b) ∧ cfrom (12 * i + j) = nI (220 * i + a) ∧ cto (12 * i + j) = nI (220 * i + b) ∧ qTy C asks a b
def Rel (g : qz_G) : Prop := RelE g ∧ RelS g ∧ RelB (g.1 12 0) (g.1 12 1) (g.1 12 2) (g.1 12 3) (g.1 12 25) (g.1 12 41) (g.1 12 55) (g.1 12 56) (g.1 12 71) (g.1 12 72) (g.1 12 73) ∧ RelP (g.1 12 1) (g.1 81) ∧ RelD (g.1 12 3) (g.1 12 1) (g.1 85) (g.1 86) (g.1 87) (g.1 88) ∧ RelW (g.1 12 2) (g.1 12 1) (g.1 89) (g.1 90) (g.1 91) (g.1 92) (g.1 93) (g.1 94) (g.1 95) (g.1 96) (g.1 97) (g.1 98) ∧ RelZ (g.1 12 2) (g.1 96) ∧ RelK (g.1 12 55) (g.1 12 2) (g.1 12 1) (g.1 12 0) (g.1 122) (g.1 123) (g.1 124) (g.1 125) (g.1 126) ∧ RelT (g.1 12 56) (g.1 12 1) (g.1 12 0) (g.1 127) (g.1 128) (g.1 129) (g.1 130) ∧ RelA (g.1 12 71) (g.1 12 0) (g.1 133) ∧ RelV (g.1 12 72) (g.1 12 2) (g.1 12 0) (g.1 135) (g.1 136) (g.1 138) (g.1 140) ∧ RelC (g.1 120) (g.1 121) ∧ RelY (g.1 13) (g.1 99) ∧ RelJ (g.1 32) (g.1 146) ∧ RelU (g.1 12 73) (g.2 75) (g.1 142) (g.2 143) (g.1 12 72) ∧ RelL (g.1 12 41) (g.1 6 16) (g.1 111) (g.1 52) (g.1 53) (g.1 54) (g.1 55) (g.1 56) (g.1 59) (g.1 112) (g.1 113) (g.1 114) (g.1 115) (g.1 116) (g.1 107)
