/-! ===== bits: how many are set, sets of cells ===== -/
abbrev bN (x : Int64) : Nat := x.toUInt64.toNat
theorem bN_lt (x : Int64) : bN x < 2 ^ 64 := UInt64.toNat_lt _
/-- a shift to the right as the machine does it -/
def bsh (x : Int64) (s : Int32) : Int64 := (Int64.toUInt64 x >>> ((Int32.toInt64 s).toUInt64 &&& Int64.toUInt64 63)).toInt64
theorem bN_and (a b : Int64) : bN (a &&& b) = bN a &&& bN b := UInt64.toNat_and _ _
theorem bN_or (a b : Int64) : bN (a ||| b) = bN a ||| bN b := UInt64.toNat_or _ _
theorem bN_xor (a b : Int64) : bN (a ^^^ b) = bN a ^^^ bN b := UInt64.toNat_xor _ _
theorem bN_add {a b : Int64} (h : bN a + bN b < 2 ^ 64) : bN (a + b) = bN a + bN b := by
  have e : bN (a + b) = (bN a + bN b) % 2 ^ 64 := UInt64.toNat_add _ _
  rw [e, Nat.mod_eq_of_lt h]
theorem bN_sub {a b : Int64} (h : bN b ≤ bN a) : bN (a - b) = bN a - bN b := by
  have e : bN (a - b) = (2 ^ 64 - bN b + bN a) % 2 ^ 64 := UInt64.toNat_sub _ _
  have h1 := bN_lt a
  have h2 := bN_lt b
  rw [e]
  omega
theorem bN_sh {x : Int64} {s : Int32} {n : Nat} (h : ((Int32.toInt64 s).toUInt64 &&& Int64.toUInt64 63).toNat = n) (hn : n < 64) : bN (bsh x s) = bN x >>> n := by
  have e : bN (bsh x s) = (Int64.toUInt64 x >>> ((Int32.toInt64 s).toUInt64 &&& Int64.toUInt64 63)).toNat := rfl
  rw [e, UInt64.toNat_shiftRight, h, Nat.mod_eq_of_lt hn]
/-- how many of the low bits are set -/
def pcn : Nat → Nat → Nat
  | 0, _ => 0
  | k + 1, x => x % 2 + pcn k (x / 2)
theorem pcn_le : ∀ (k x : Nat), pcn k x ≤ k := by
  intro k
  induction k with
  | zero => exact fun _ => Nat.le_refl _
  | succ k ih =>
    intro x
    have h := ih (x / 2)
    show x % 2 + pcn k (x / 2) ≤ k + 1
    omega
theorem pcn_add : ∀ (j k b x : Nat), b < 2 ^ j → pcn (j + k) (b + 2 ^ j * x) = pcn j b + pcn k x := by
  intro j
  induction j with
  | zero =>
    intro k b x h
    have e : b = 0 := by omega
    subst e
    rw [Nat.zero_add, Nat.zero_add, Nat.pow_zero, Nat.one_mul]
    exact (Nat.zero_add _).symm
  | succ j ih =>
    intro k b x h
    have e : j + 1 + k = (j + k) + 1 := by omega
    have p : 2 ^ (j + 1) * x = 2 * (2 ^ j * x) := by rw [Nat.pow_succ]; rw [Nat.mul_comm (2 ^ j) 2, Nat.mul_assoc]
    rw [e, p]
    show (b + 2 * (2 ^ j * x)) % 2 + pcn (j + k) ((b + 2 * (2 ^ j * x)) / 2) = b % 2 + pcn j (b / 2) + pcn k x
    have e1 : (b + 2 * (2 ^ j * x)) % 2 = b % 2 := by omega
    have e2 : (b + 2 * (2 ^ j * x)) / 2 = b / 2 + 2 ^ j * x := by omega
    have hb : b / 2 < 2 ^ j := by rw [Nat.pow_succ] at h; omega
    rw [e1, e2, ih k (b / 2) x hb]
    omega
theorem and_by {d m x y : Nat} (hd : d < 256) (hm : m < 256) : (d + 256 * x) &&& (m + 256 * y) = (d &&& m) + 256 * (x &&& y) := by
  have hd2 : d < 2 ^ 8 := hd
  have hm2 : m < 2 ^ 8 := hm
  have hdm : d &&& m < 2 ^ 8 := Nat.lt_of_le_of_lt Nat.and_le_left hd2
  have c : ∀ u v : Nat, u + 256 * v = 2 ^ 8 * v + u := fun u v => Nat.add_comm _ _
  rw [c d x, c m y, c (d &&& m) (x &&& y)]
  refine Nat.eq_of_testBit_eq (fun i => ?_)
  rw [Nat.testBit_and, Nat.testBit_two_pow_mul_add _ hd2, Nat.testBit_two_pow_mul_add _ hm2, Nat.testBit_two_pow_mul_add _ hdm]
  split
  · rw [Nat.testBit_and]
  · rw [Nat.testBit_and]
theorem shr_by {d m x y s : Nat} (hs : s ≤ 8) (hd : d < 256) (hm : m < 2 ^ (8 - s)) : ((d + 256 * x) >>> s) &&& (m + 256 * y) = ((d >>> s) &&& m) + 256 * ((x >>> s) &&& y) := by
  have hd2 : d < 2 ^ 8 := hd
  have hm8 : m < 2 ^ 8 := Nat.lt_of_lt_of_le hm (Nat.pow_le_pow_right (by decide) (Nat.sub_le _ _))
  have hdm : (d >>> s) &&& m < 2 ^ 8 := Nat.lt_of_le_of_lt Nat.and_le_right hm8
  have c : ∀ u v : Nat, u + 256 * v = 2 ^ 8 * v + u := fun u v => Nat.add_comm _ _
  rw [c d x, c m y, c ((d >>> s) &&& m) ((x >>> s) &&& y)]
  refine Nat.eq_of_testBit_eq (fun i => ?_)
  rw [Nat.testBit_and, Nat.testBit_shiftRight, Nat.testBit_two_pow_mul_add _ hd2, Nat.testBit_two_pow_mul_add _ hm8, Nat.testBit_two_pow_mul_add _ hdm]
  by_cases h8 : i < 8
  · rw [if_pos h8, if_pos h8, Nat.testBit_and, Nat.testBit_shiftRight]
    by_cases hsi : s + i < 8
    · rw [if_pos hsi]
    · have hz : m.testBit i = false := Nat.testBit_lt_two_pow (Nat.lt_of_lt_of_le hm (Nat.pow_le_pow_right (by decide) (by omega)))
      rw [hz, Bool.and_false, Bool.and_false]
  · rw [if_neg h8, if_neg h8, if_neg (by omega), Nat.testBit_and, Nat.testBit_shiftRight]
    have e : s + i - 8 = s + (i - 8) := by omega
    rw [e]
/-- a mask made of like bytes -/
def bym (m : Nat) : Nat → Nat
  | 0 => 0
  | k + 1 => m + 256 * bym m k
/-- the three steps by bytes: pairs, fours, bytes -/
def bf1 (x m : Nat) : Nat := x - ((x >>> 1) &&& m)
def bf2 (x m : Nat) : Nat := (x &&& m) + ((x >>> 2) &&& m)
theorem bbyte : ∀ b : Nat, b < 256 → ((b >>> 1) &&& 85) ≤ b ∧ bf1 b 85 < 256 ∧ bf2 (bf1 b 85) 51 < 256 ∧ bf2 (bf1 b 85) 51 % 16 ≤ 4 ∧ bf2 (bf1 b 85) 51 / 16 ≤ 4 ∧ bf2 (bf1 b 85) 51 % 16 + bf2 (bf1 b 85) 51 / 16 = pcn 8 b := by decide +kernel
theorem bstep1 : ∀ (k x : Nat), x < 256 ^ k → ((x >>> 1) &&& bym 85 k) ≤ x ∧ ∀ b : Nat, b < 256 → bf1 (b + 256 * x) (bym 85 (k + 1)) = bf1 b 85 + 256 * bf1 x (bym 85 k) ∧ (((b + 256 * x) >>> 1) &&& bym 85 (k + 1)) ≤ b + 256 * x := by
  have key : ∀ (x y b : Nat), b < 256 → ((x >>> 1) &&& y) ≤ x → bf1 (b + 256 * x) (85 + 256 * y) = bf1 b 85 + 256 * bf1 x y ∧ (((b + 256 * x) >>> 1) &&& (85 + 256 * y)) ≤ b + 256 * x := by
    intro x y b hb hx
    have h1 := (bbyte b hb).1
    have e := shr_by (d := b) (m := 85) (x := x) (y := y) (s := 1) (by decide) hb (by decide)
    unfold bf1
    rw [e]
    omega
  intro k
  induction k with
  | zero =>
    intro x hx
    have e : x = 0 := by rw [Nat.pow_zero] at hx; omega
    subst e
    have h0 : ((0 >>> 1) &&& bym 85 0) ≤ 0 := by decide
    exact ⟨h0, fun b hb => key 0 (bym 85 0) b hb h0⟩
  | succ k ih =>
    intro x hx
    have hd : x = x % 256 + 256 * (x / 256) := (Nat.mod_add_div x 256).symm
    have hq : x / 256 < 256 ^ k := by rw [Nat.pow_succ] at hx; omega
    have h0 : ((x >>> 1) &&& bym 85 (k + 1)) ≤ x := by
      have h := ((ih (x / 256) hq).2 (x % 256) (Nat.mod_lt _ (by decide))).2
      rw [← hd] at h
      exact h
    exact ⟨h0, fun b hb => key x (bym 85 (k + 1)) b hb h0⟩
theorem bstep2 {b x y : Nat} (hb : b < 256) : bf2 (b + 256 * x) (51 + 256 * y) = bf2 b 51 + 256 * bf2 x y := by
  have e := shr_by (d := b) (m := 51) (x := x) (y := y) (s := 2) (by decide) hb (by decide)
  have e2 := and_by (d := b) (m := 51) (x := x) (y := y) hb (by decide)
  unfold bf2
  rw [e, e2]
  omega
theorem bstep3 {b x y : Nat} (h1 : b % 16 ≤ 4) (h2 : b / 16 ≤ 4) (h3 : x % 16 ≤ 4) : ((b + 256 * x) + ((b + 256 * x) >>> 4)) &&& (15 + 256 * y) = (b % 16 + b / 16) + 256 * ((x + (x >>> 4)) &&& y) := by
  have e4 : ∀ u : Nat, u >>> 4 = u / 16 := fun u => Nat.shiftRight_eq_div_pow u 4
  have e : (b + 256 * x) + ((b + 256 * x) >>> 4) = ((b % 16 + b / 16) + 16 * (b / 16 + x % 16)) + 256 * (x + (x >>> 4)) := by
    rw [e4, e4]
    omega
  rw [e, and_by (by omega) (by decide)]
  have e5 : ((b % 16 + b / 16) + 16 * (b / 16 + x % 16)) &&& 15 = b % 16 + b / 16 := by
    have h := Nat.and_two_pow_sub_one_eq_mod ((b % 16 + b / 16) + 16 * (b / 16 + x % 16)) 4
    have h9 : (2 ^ 4 - 1 : Nat) = 15 := by decide
    rw [h9] at h
    rw [h]
    omega
  rw [e5]
/-- the bytes' counts -/
def bct : Nat → Nat → Nat
  | 0, _ => 0
  | k + 1, x => pcn 8 (x % 256) + 256 * bct k (x / 256)
theorem bct_low {k x : Nat} (hx : x < 256 ^ k) : bf2 (bf1 x (bym 85 k)) (bym 51 k) % 16 ≤ 4 := by
  cases k with
  | zero =>
    have e : x = 0 := by rw [Nat.pow_zero] at hx; omega
    subst e
    decide
  | succ k =>
    have hd : x = x % 256 + 256 * (x / 256) := (Nat.mod_add_div x 256).symm
    have hq : x / 256 < 256 ^ k := by rw [Nat.pow_succ] at hx; omega
    have hb : x % 256 < 256 := Nat.mod_lt _ (by decide)
    have e1 := ((bstep1 k (x / 256) hq).2 (x % 256) hb).1
    rw [← hd] at e1
    obtain ⟨-, b2, b3, b4, b5, b6⟩ := bbyte (x % 256) hb
    rw [e1]
    have e2 := bstep2 (b := bf1 (x % 256) 85) (x := bf1 (x / 256) (bym 85 k)) (y := bym 51 k) b2
    have e3 : bym 51 (k + 1) = 51 + 256 * bym 51 k := rfl
    rw [e3, e2]
    omega
theorem bct_eq : ∀ (k x : Nat), x < 256 ^ k → ((bf2 (bf1 x (bym 85 k)) (bym 51 k)) + ((bf2 (bf1 x (bym 85 k)) (bym 51 k)) >>> 4)) &&& bym 15 k = bct k x := by
  intro k
  induction k with
  | zero =>
    intro x hx
    exact Nat.and_zero _
  | succ k ih =>
    intro x hx
    have hd : x = x % 256 + 256 * (x / 256) := (Nat.mod_add_div x 256).symm
    have hq : x / 256 < 256 ^ k := by rw [Nat.pow_succ] at hx; omega
    have hb : x % 256 < 256 := Nat.mod_lt _ (by decide)
    have e1 := ((bstep1 k (x / 256) hq).2 (x % 256) hb).1
    rw [← hd] at e1
    obtain ⟨-, b2, b3, b4, b5, b6⟩ := bbyte (x % 256) hb
    have e2 := bstep2 (b := bf1 (x % 256) 85) (x := bf1 (x / 256) (bym 85 k)) (y := bym 51 k) b2
    have e3 : bym 51 (k + 1) = 51 + 256 * bym 51 k := rfl
    have e4 : bym 15 (k + 1) = 15 + 256 * bym 15 k := rfl
    rw [e1, e3, e2, e4, bstep3 b4 b5 (bct_low hq), ih (x / 256) hq, b6]
    rfl
theorem bct_n {x : Nat} : pcn 64 x = pcn 8 (x % 256) + pcn 8 (x / 256 % 256) + pcn 8 (x / 256 / 256 % 256) + pcn 8 (x / 256 / 256 / 256 % 256) + pcn 8 (x / 256 / 256 / 256 / 256 % 256) + pcn 8 (x / 256 / 256 / 256 / 256 / 256 % 256) + pcn 8 (x / 256 / 256 / 256 / 256 / 256 / 256 % 256) + pcn 8 (x / 256 / 256 / 256 / 256 / 256 / 256 / 256 % 256) := by
  have h : ∀ k y : Nat, pcn (8 + k) y = pcn 8 (y % 256) + pcn k (y / 256) := fun k y => by
    have e := pcn_add 8 k (y % 256) (y / 256) (Nat.mod_lt _ (by decide))
    have d : y % 256 + 2 ^ 8 * (y / 256) = y := Nat.mod_add_div y 256
    rw [d] at e
    exact e
  rw [show (64 : Nat) = 8 + (8 + (8 + (8 + (8 + (8 + (8 + (8 + 0))))))) from rfl, h, h, h, h, h, h, h, h]
  show _ + (_ + (_ + (_ + (_ + (_ + (_ + (_ + 0))))))) = _
  omega
/-- the last three steps: the bytes' counts together -/
theorem bsum {c0 c1 c2 c3 c4 c5 c6 c7 j j1 j2 : Nat} (h0 : c0 ≤ 8) (h1 : c1 ≤ 8) (h2 : c2 ≤ 8) (h3 : c3 ≤ 8) (h4 : c4 ≤ 8) (h5 : c5 ≤ 8) (h6 : c6 ≤ 8) (h7 : c7 ≤ 8) (hj : j = c0 + 256 * (c1 + 256 * (c2 + 256 * (c3 + 256 * (c4 + 256 * (c5 + 256 * (c6 + 256 * (c7 + 256 * 0)))))))) (hj1 : j1 = j + j / 256) (hj2 : j2 = j1 + j1 / 65536) :
    j1 < 18446744073709551616 ∧ j2 < 18446744073709551616 ∧ j2 + j2 / 4294967296 < 18446744073709551616 ∧ (j2 + j2 / 4294967296) % 128 = c0 + c1 + c2 + c3 + c4 + c5 + c6 + c7 := by
  have e1 : j / 256 = c1 + 256 * (c2 + 256 * (c3 + 256 * (c4 + 256 * (c5 + 256 * (c6 + 256 * c7))))) := by omega
  have f1 : j1 = (c0 + c1) + 256 * ((c1 + c2) + 256 * ((c2 + c3) + 256 * ((c3 + c4) + 256 * ((c4 + c5) + 256 * ((c5 + c6) + 256 * ((c6 + c7) + 256 * c7)))))) := by omega
  clear e1 hj hj1
  have e2 : j1 / 65536 = (c2 + c3) + 256 * ((c3 + c4) + 256 * ((c4 + c5) + 256 * ((c5 + c6) + 256 * ((c6 + c7) + 256 * c7)))) := by omega
  have f2 : j2 = (c0 + c1 + c2 + c3) + 256 * ((c1 + c2 + c3 + c4) + 256 * ((c2 + c3 + c4 + c5) + 256 * ((c3 + c4 + c5 + c6) + 256 * ((c4 + c5 + c6 + c7) + 256 * ((c5 + c6 + c7) + 256 * ((c6 + c7) + 256 * c7)))))) := by omega
  have g1 : j1 < 18446744073709551616 := by omega
  clear e2 hj2 f1
  have e3 : j2 / 4294967296 = (c4 + c5 + c6 + c7) + 256 * ((c5 + c6 + c7) + 256 * ((c6 + c7) + 256 * c7)) := by omega
  rw [e3]
  omega
def bc1 (i : Int64) : Int64 := i - (bsh i 1 &&& 6148914691236517205)
def bc2 (j : Int64) : Int64 := (j &&& 3689348814741910323) + (bsh j 2 &&& 3689348814741910323)
def bc3 (j : Int64) : Int64 := (j + bsh j 4) &&& 1085102592571150095
def bc4 (j : Int64) : Int64 := j + bsh j 8
def bc5 (j : Int64) : Int64 := j + bsh j 16
def bc6 (j : Int64) : Int64 := j + bsh j 32
def bcA (i : Int64) : Int64 := bc6 (bc5 (bc4 (bc3 (bc2 (bc1 i)))))
def bcL (i : Int64) : Int32 := Int64.toInt32 (bcA i) &&& 127
theorem bA_eq (i : Int64) : bN (bcA i) % 128 = pcn 64 (bN i) := by
  have hi := bN_lt i
  have hi8 : bN i < 256 ^ 8 := by
    have e : (256 : Nat) ^ 8 = 2 ^ 64 := by decide
    rw [e]; exact hi
  have m85 : bN 6148914691236517205 = bym 85 8 := by decide +kernel
  have m51 : bN 3689348814741910323 = bym 51 8 := by decide +kernel
  have m15 : bN 1085102592571150095 = bym 15 8 := by decide +kernel
  have v51 : bym 51 8 = 3689348814741910323 := by decide +kernel
  have p64 : (2 : Nat) ^ 64 = 18446744073709551616 := by decide
  have s1 : ∀ x : Int64, bN (bsh x 1) = bN x >>> 1 := fun x => bN_sh (by decide +kernel) (by decide)
  have s2 : ∀ x : Int64, bN (bsh x 2) = bN x >>> 2 := fun x => bN_sh (by decide +kernel) (by decide)
  have s4 : ∀ x : Int64, bN (bsh x 4) = bN x >>> 4 := fun x => bN_sh (by decide +kernel) (by decide)
  have s8 : ∀ x : Int64, bN (bsh x 8) = bN x / 256 := fun x => (bN_sh (n := 8) (by decide +kernel) (by decide)).trans (Nat.shiftRight_eq_div_pow _ 8)
  have s16 : ∀ x : Int64, bN (bsh x 16) = bN x / 65536 := fun x => (bN_sh (n := 16) (by decide +kernel) (by decide)).trans (Nat.shiftRight_eq_div_pow _ 16)
  have s32 : ∀ x : Int64, bN (bsh x 32) = bN x / 4294967296 := fun x => (bN_sh (n := 32) (by decide +kernel) (by decide)).trans (Nat.shiftRight_eq_div_pow _ 32)
  have a1 : bN (bsh i 1 &&& 6148914691236517205) = (bN i >>> 1) &&& bym 85 8 := by rw [bN_and, s1, m85]
  have b1 : bN (bc1 i) = bf1 (bN i) (bym 85 8) := by
    unfold bc1
    rw [bN_sub (by rw [a1]; exact (bstep1 8 _ hi8).1), a1]
    rfl
  have a2 : bN (bc1 i &&& 3689348814741910323) = bN (bc1 i) &&& bym 51 8 := by rw [bN_and, m51]
  have a3 : bN (bsh (bc1 i) 2 &&& 3689348814741910323) = (bN (bc1 i) >>> 2) &&& bym 51 8 := by rw [bN_and, s2, m51]
  have l2 : bN (bc1 i) &&& bym 51 8 ≤ 3689348814741910323 := v51 ▸ Nat.and_le_right
  have l3 : (bN (bc1 i) >>> 2) &&& bym 51 8 ≤ 3689348814741910323 := v51 ▸ Nat.and_le_right
  have b2 : bN (bc2 (bc1 i)) = bf2 (bN (bc1 i)) (bym 51 8) := by
    show bN ((bc1 i &&& 3689348814741910323) + (bsh (bc1 i) 2 &&& 3689348814741910323)) = _
    rw [bN_add (by rw [a2, a3, p64]; omega), a2, a3]
    rfl
  have l4 : bN (bc2 (bc1 i)) ≤ 7378697629483820646 := by
    rw [b2]
    unfold bf2
    omega
  have b3 : bN (bc3 (bc2 (bc1 i))) = bct 8 (bN i) := by
    show bN ((bc2 (bc1 i) + bsh (bc2 (bc1 i)) 4) &&& 1085102592571150095) = _
    have l5 : bN (bc2 (bc1 i)) + bN (bsh (bc2 (bc1 i)) 4) < 2 ^ 64 := by
      rw [s4, Nat.shiftRight_eq_div_pow, p64]
      omega
    rw [bN_and, bN_add l5, s4, m15, b2, b1]
    exact bct_eq 8 _ hi8
  have h := bsum (j := bN (bc3 (bc2 (bc1 i)))) (pcn_le 8 _) (pcn_le 8 _) (pcn_le 8 _) (pcn_le 8 _) (pcn_le 8 _) (pcn_le 8 _) (pcn_le 8 _) (pcn_le 8 _) b3 rfl rfl
  have b4 : bN (bc4 (bc3 (bc2 (bc1 i)))) = bN (bc3 (bc2 (bc1 i))) + bN (bc3 (bc2 (bc1 i))) / 256 := by
    show bN (bc3 (bc2 (bc1 i)) + bsh (bc3 (bc2 (bc1 i))) 8) = _
    rw [bN_add (by rw [s8, p64]; exact h.1), s8]
  have b5 : bN (bc5 (bc4 (bc3 (bc2 (bc1 i))))) = bN (bc4 (bc3 (bc2 (bc1 i)))) + bN (bc4 (bc3 (bc2 (bc1 i)))) / 65536 := by
    show bN (bc4 (bc3 (bc2 (bc1 i))) + bsh (bc4 (bc3 (bc2 (bc1 i)))) 16) = _
    rw [bN_add (by rw [s16, p64, b4]; exact h.2.1), s16]
  have b6 : bN (bcA i) = bN (bc5 (bc4 (bc3 (bc2 (bc1 i))))) + bN (bc5 (bc4 (bc3 (bc2 (bc1 i))))) / 4294967296 := by
    show bN (bc5 (bc4 (bc3 (bc2 (bc1 i)))) + bsh (bc5 (bc4 (bc3 (bc2 (bc1 i))))) 32) = _
    rw [bN_add (by rw [s32, p64, b5, b4]; exact h.2.2.1), s32]
  rw [b6, b5, b4, h.2.2.2, bct_n]
theorem bL_low : ∀ m : Nat, m < 128 → Int64.toInt32 ((UInt64.ofNat m).toInt64) = Int32.ofNat m ∧ (UInt64.ofNat m).toNat = m := by decide +kernel
/-- what the machine's count of bits answers -/
theorem bL_eq (i : Int64) : bcL i = Int32.ofNat (pcn 64 (bN i)) := by
  have e1 : bcL i = Int64.toInt32 (bcA i &&& 127) := (Int64.toInt32_and (bcA i) 127).symm
  have e2 : bN (bcA i &&& 127) = pcn 64 (bN i) := by
    have m127 : bN 127 = 2 ^ 7 - 1 := by decide +kernel
    rw [bN_and, m127, Nat.and_two_pow_sub_one_eq_mod]
    exact bA_eq i
  have hm : pcn 64 (bN i) < 128 := Nat.lt_of_le_of_lt (pcn_le 64 _) (by decide)
  obtain ⟨k1, k2⟩ := bL_low _ hm
  have e3 : (bcA i &&& 127).toUInt64 = UInt64.ofNat (pcn 64 (bN i)) := UInt64.toNat.inj (e2.trans k2.symm)
  have e4 : (bcA i &&& 127) = (UInt64.ofNat (pcn 64 (bN i))).toInt64 := by
    rw [← e3]
    exact (Int64.toInt64_toUInt64 _).symm
  rw [e1, e4]
  exact k1
/-- the cell c is in the set -/
abbrev bt (x : Int64) (c : Nat) : Bool := (bN x).testBit c
/-- for how many numbers below n it holds -/
def cnt (p : Nat → Bool) : Nat → Nat
  | 0 => 0
  | n + 1 => cnt p n + (if p n then 1 else 0)
theorem cnt_sh (p : Nat → Bool) : ∀ n : Nat, cnt p (n + 1) = (if p 0 then 1 else 0) + cnt (fun j => p (j + 1)) n := by
  intro n
  induction n with
  | zero =>
    show 0 + (if p 0 then 1 else 0) = (if p 0 then 1 else 0) + 0
    omega
  | succ n ih =>
    show cnt p (n + 1) + (if p (n + 1) then 1 else 0) = _ + (cnt (fun j => p (j + 1)) n + (if p (n + 1) then 1 else 0))
    rw [ih]
    omega
theorem pcn_cnt : ∀ (k x : Nat), pcn k x = cnt (fun j => x.testBit j) k := by
  intro k
  induction k with
  | zero => exact fun _ => rfl
  | succ k ih =>
    intro x
    rw [cnt_sh]
    show x % 2 + pcn k (x / 2) = _
    rw [ih (x / 2), Nat.testBit_zero]
    have e : (fun j => x.testBit (j + 1)) = (fun j => (x / 2).testBit j) := funext (fun j => Nat.testBit_succ x j)
    rw [e]
    by_cases h : x % 2 = 1
    · rw [h]
      rfl
    · have h0 : x % 2 = 0 := by omega
      rw [h0]
      rfl
theorem cnt_cg {p q : Nat → Bool} : ∀ n : Nat, (∀ j, j < n → p j = q j) → cnt p n = cnt q n := by
  intro n
  induction n with
  | zero => exact fun _ => rfl
  | succ n ih =>
    intro h
    show cnt p n + _ = cnt q n + _
    rw [ih (fun j hj => h j (by omega)), h n (by omega)]
theorem cnt_up {p : Nat → Bool} {n : Nat} : ∀ m : Nat, n ≤ m → (∀ j, n ≤ j → j < m → p j = false) → cnt p m = cnt p n := by
  intro m
  induction m with
  | zero =>
    intro h _
    have e : n = 0 := by omega
    rw [e]
  | succ m ih =>
    intro h hp
    by_cases q : n = m + 1
    · rw [q]
    · show cnt p m + _ = _
      rw [ih (by omega) (fun j h1 h2 => hp j h1 (by omega)), hp m (by omega) (by omega)]
      rfl
theorem cnt_le (p : Nat → Bool) : ∀ n : Nat, cnt p n ≤ n := by
  intro n
  induction n with
  | zero => exact Nat.le_refl _
  | succ n ih =>
    show cnt p n + (if p n then 1 else 0) ≤ n + 1
    split <;> omega
/-- the set of one cell -/
def xset (c : Int32) : Int64 := if 0 ≤ c ∧ c < 64 then 1 <<< (Int32.toInt64 c &&& 63) else 0
theorem xset_k : ∀ k : Nat, k < 64 → bN ((1 : Int64) <<< (Int32.toInt64 (Int32.ofNat k) &&& 63)) = 2 ^ k := by decide +kernel
theorem bN_set {c : Int32} {k : Nat} (h : c.toInt = (k : Int)) (hk : k < 64) : bN (xset c) = 2 ^ k := by
  have e64 : (64 : Int32).toInt = 64 := by decide
  have e0 : (0 : Int32).toInt = 0 := by decide
  have ec : c = Int32.ofNat k := Int32.toInt_inj.mp (by rw [yofNat (by omega), h])
  have hc : 0 ≤ c ∧ c < 64 := ⟨by rw [yle, e0]; omega, by rw [ylt, e64]; omega⟩
  unfold xset
  rw [if_pos hc, ec]
  exact xset_k k hk
theorem bt_set {c : Int32} {k j : Nat} (h : c.toInt = (k : Int)) (hk : k < 64) : bt (xset c) j = decide (k = j) := by
  show (bN (xset c)).testBit j = _
  rw [bN_set h hk]
  exact Nat.testBit_two_pow
theorem bt_no (j : Nat) (hj : j < 64) (x : Int64) : bt (x ^^^ (-1)) j = !bt x j := by
  show (bN (x ^^^ (-1))).testBit j = _
  have m1 : bN (-1) = 2 ^ 64 - 1 := by decide +kernel
  rw [bN_xor, m1, Nat.testBit_xor, Nat.testBit_two_pow_sub_one, decide_eq_true hj]
  exact Bool.xor_true _
theorem bt_and (x y : Int64) (j : Nat) : bt (x &&& y) j = (bt x j && bt y j) := by
  show (bN (x &&& y)).testBit j = _
  rw [bN_and]
  exact Nat.testBit_and _ _ _
theorem bt_or (x y : Int64) (j : Nat) : bt (x ||| y) j = (bt x j || bt y j) := by
  show (bN (x ||| y)).testBit j = _
  rw [bN_or]
  exact Nat.testBit_or _ _ _
theorem bt_0 (j : Nat) : bt 0 j = false := Nat.zero_testBit j
theorem bN_inj {x y : Int64} (h : bN x = bN y) : x = y := by
  have e : x.toUInt64 = y.toUInt64 := UInt64.toNat.inj h
  have e2 := congrArg UInt64.toInt64 e
  exact e2
/-- whether a cell is in a set, as the class asks it -/
theorem bt_of {s : Int64} {c : Int32} {k : Nat} (h : c.toInt = (k : Int)) (hk : k < 64) : (s &&& xset c = 0) ↔ bt s k = false := by
  constructor
  · intro q
    have e := bt_and s (xset c) k
    rw [q, bt_0, bt_set h hk, decide_eq_true rfl, Bool.and_true] at e
    exact e.symm
  · intro q
    refine bN_inj ?_
    show bN (s &&& xset c) = 0
    refine Nat.eq_of_testBit_eq (fun j => ?_)
    rw [Nat.zero_testBit]
    have e := bt_and s (xset c) j
    rw [bt_set h hk] at e
    refine e.trans ?_
    by_cases z : k = j
    · rw [← z, q]; rfl
    · rw [decide_eq_false z]; exact Bool.and_false _
/-- the set of all cells below n -/
theorem bN_all : ∀ n : Nat, n < 64 → bN (((1 : Int64) <<< (Int32.toInt64 (Int32.ofNat n) &&& 63)) - 1) = 2 ^ n - 1 := by decide +kernel
/-! ===== the kinds of cells ===== -/
def xkd (d : Int32) : Int32 := if d = 0 ∨ d = 1 then 1 else if d = 2 then 2 else if d = 3 then 3 else 0
theorem xkd_0 {d : Int32} (h0 : ¬ d = 0) (h1 : ¬ d = 1) (h2 : ¬ d = 2) (h3 : ¬ d = 3) : xkd d = 0 := by
  unfold xkd
  rw [if_neg (fun q => q.elim h0 h1), if_neg h2, if_neg h3]
def xall (n : Int32) : Int64 := if 64 ≤ n then -1 else (1 <<< (Int32.toInt64 n &&& 63)) - 1
theorem bt_all {n : Int32} {N c : Nat} (h : n.toInt = (N : Int)) (hN : N ≤ 64) (hc : c < 64) : bt (xall n) c = decide (c < N) := by
  have e64 : (64 : Int32).toInt = 64 := by decide
  show (bN (xall n)).testBit c = _
  unfold xall
  by_cases q : 64 ≤ n
  · rw [if_pos q]
    rw [yle, e64] at q
    have m1 : bN (-1) = 2 ^ 64 - 1 := by decide +kernel
    have eN : N = 64 := by omega
    rw [m1, Nat.testBit_two_pow_sub_one, eN]
  · rw [if_neg q]
    rw [yle, e64] at q
    have en : n = Int32.ofNat N := Int32.toInt_inj.mp (by rw [yofNat (by omega), h])
    rw [en, bN_all N (by omega), Nat.testBit_two_pow_sub_one]
/-- the digit that tells a cell's kind; the kind that the seed gives a cell -/
def d10 (x : Int32) : Int32 := x - x / 10 * 10
def kd (seed : Int32) (c : Nat) : Int32 := if seed = 100 then 0 else xkd (d10 (yit (c + 1) seed))
abbrev kop (seed : Int32) (c : Nat) : Bool := decide (¬ kd seed c = 1)
/-- a cell's kind set -/
def xsk (σ σ1 : XS) (cell kind : Int32) : Prop := σ1.2.2.2.1 2 = (if kind = 1 then σ.2.2.2.1 2 ||| xset cell else σ.2.2.2.1 2 &&& (xset cell ^^^ (-1))) ∧ σ1.2.2.2.1 3 = (if kind = 2 then σ.2.2.2.1 3 ||| xset cell else σ.2.2.2.1 3 &&& (xset cell ^^^ (-1))) ∧ σ1.2.2.2.1 4 = (if kind = 3 then σ.2.2.2.1 4 ||| xset cell else σ.2.2.2.1 4 &&& (xset cell ^^^ (-1)))
theorem bt_sk {w : Int64} {c k a : Int32} {m j : Nat} (h : c.toInt = (m : Int)) (hm : m < 64) (hj : j < 64) : bt (if k = a then w ||| xset c else w &&& (xset c ^^^ (-1))) j = if j = m then decide (k = a) else bt w j := by
  by_cases q : k = a
  · rw [if_pos q, bt_or, bt_set h hm, decide_eq_true q]
    by_cases z : j = m
    · rw [if_pos z, z, decide_eq_true rfl, Bool.or_true]
    · rw [if_neg z, decide_eq_false (fun e : m = j => z e.symm), Bool.or_false]
  · rw [if_neg q, bt_and, bt_no j hj, bt_set h hm, decide_eq_false q]
    by_cases z : j = m
    · rw [if_pos z, z, decide_eq_true rfl]
      exact Bool.and_false _
    · rw [if_neg z, decide_eq_false (fun e : m = j => z e.symm)]
      exact Bool.and_true _
/-- the cells below n have the kinds that the seed gives them, no other has one -/
def xbf (n : Nat) (seed : Int32) (s : XS) : Prop := ∀ c : Nat, c < 64 → bt (s.2.2.2.1 2) c = (decide (c < n) && decide (kd seed c = 1)) ∧ bt (s.2.2.2.1 3) c = (decide (c < n) && decide (kd seed c = 2)) ∧ bt (s.2.2.2.1 4) c = (decide (c < n) && decide (kd seed c = 3))
theorem xbf.fr {m : List Nat} {σ σ1 : XS} {n : Nat} {seed : Int32} (h : xbf n seed σ) (hx : xfr m σ σ1) (h2 : ¬ 56 + 2 ∈ m := by decide) (h3 : ¬ 56 + 3 ∈ m := by decide) (h4 : ¬ 56 + 4 ∈ m := by decide) : xbf n seed σ1 := by
  intro c hc
  rw [hx.2.2.2.1 2 h2, hx.2.2.2.1 3 h3, hx.2.2.2.1 4 h4]
  exact h c hc
/-- where the making of a base stands -/
def xbd (N : Nat) (seed : Int32) (s : XS) (number cell : Int32) : Prop := 0 ≤ cell.toInt ∧ cell.toInt ≤ (N : Int) ∧ number = yit cell.toInt.toNat seed ∧ xbf cell.toInt.toNat seed s
theorem xbd.init {N : Nat} {seed : Int32} {s : XS} (h2 : s.2.2.2.1 2 = 0) (h3 : s.2.2.2.1 3 = 0) (h4 : s.2.2.2.1 4 = 0) : xbd N seed s seed 0 := by
  have e0 : (0 : Int32).toInt = 0 := by decide
  have ez : (0 : Int32).toInt.toNat = 0 := by decide
  refine ⟨by omega, by omega, ?_, fun c hc => ?_⟩
  · rw [ez]; rfl
  · rw [ez, h2, h3, h4, bt_0, decide_eq_false (Nat.not_lt_zero c)]
    exact ⟨rfl, rfl, rfl⟩
theorem xbf_one {w : Int64} {seed k a : Int32} {m j : Nat} (h : bt w j = (decide (j < m) && decide (kd seed j = a))) (hk : k = kd seed m) : (if j = m then decide (k = a) else bt w j) = (decide (j < m + 1) && decide (kd seed j = a)) := by
  by_cases q : j = m
  · rw [if_pos q, q, decide_eq_true (Nat.lt_add_one m), Bool.true_and, hk]
  · rw [if_neg q, h]
    have e : decide (j < m) = decide (j < m + 1) := decide_eq_decide.mpr (by omega)
    rw [e]
theorem xbd.step {N : Nat} {seed n c n1 k : Int32} {s s1 : XS} (h : xbd N seed s n c) (hs : xsk s s1 c k) (hN : N ≤ 64) (hc : c.toInt < (N : Int)) (hk : n1 = yaft n ∧ k = kd seed c.toInt.toNat) : xbd N seed s1 n1 (c + 1) := by
  have e1 : (1 : Int32).toInt = 1 := by decide
  obtain ⟨h0, hl, hn, hf⟩ := h
  have ec : (c + 1).toInt = c.toInt + 1 := by rw [yadd (by omega) (by omega), e1]
  have em : (c + 1).toInt.toNat = c.toInt.toNat + 1 := by omega
  have cm : c.toInt = ((c.toInt.toNat : Nat) : Int) := by omega
  have m64 : c.toInt.toNat < 64 := by omega
  refine ⟨by omega, by omega, ?_, fun j hj => ?_⟩
  · rw [em, hk.1, hn]
    rfl
  · rw [em, hs.1, hs.2.1, hs.2.2, bt_sk cm m64 hj, bt_sk cm m64 hj, bt_sk cm m64 hj]
    obtain ⟨f2, f3, f4⟩ := hf j hj
    exact ⟨xbf_one f2 hk.2, xbf_one f3 hk.2, xbf_one f4 hk.2⟩
theorem xbd.kA {N : Nat} {seed n c : Int32} {s : XS} (h : xbd N seed s n c) (hs : ¬ seed = 100) : xkd (yaft n - yaft n / 10 * 10) = kd seed c.toInt.toNat := by
  unfold kd
  rw [if_neg hs, h.2.2.1]
  rfl
theorem kB {seed : Int32} (h : seed = 100) {m : Nat} : 0 = kd seed m := (if_pos h).symm
theorem xbd.stop {N : Nat} {seed n c : Int32} {s : XS} (h : xbd N seed s n c) (hc : (N : Int) ≤ c.toInt) : xbf N seed s := by
  have e : c.toInt.toNat = N := by have := h.2.1; omega
  have h2 := h.2.2.2
  rw [e] at h2
  exact h2
theorem xlt {w h v a b : Int32} (e : a = w ∧ b = h) (hn : 0 ≤ (w * h).toInt ∧ (w * h).toInt ≤ 64) (c : ¬ a * b ≤ v) : v.toInt < (((w * h).toInt.toNat : Nat) : Int) := by
  obtain ⟨rfl, rfl⟩ := e
  rw [yle] at c
  omega
theorem xge {w h v a b : Int32} (e : a = w ∧ b = h) (hn : 0 ≤ (w * h).toInt ∧ (w * h).toInt ≤ 64) (c : a * b ≤ v) : (((w * h).toInt.toNat : Nat) : Int) ≤ v.toInt := by
  obtain ⟨rfl, rfl⟩ := e
  rw [yle] at c
  omega
theorem xwh {w h : Int32} (w1 : 0 ≤ w.toInt) (w2 : w.toInt ≤ 8) (h1 : 0 ≤ h.toInt) (h2 : h.toInt ≤ 8) : 0 ≤ (w * h).toInt ∧ (w * h).toInt ≤ 64 := by
  have a1 : 0 ≤ w.toInt * h.toInt := Int.mul_nonneg w1 h1
  have a2 : w.toInt * h.toInt ≤ 8 * 8 := Int.mul_le_mul w2 h2 h1 (by decide)
  have e : (w * h).toInt = w.toInt * h.toInt := ymul (by omega) (by omega)
  omega
/-- how many cells are open, as the class counts them -/
theorem xopen {σ : XS} {w h seed : Int32} (h0 : σ.2.2.1 0 = w) (h1 : σ.2.2.1 1 = h) (hb : xbf (w * h).toInt.toNat seed σ) (hn : 0 ≤ (w * h).toInt ∧ (w * h).toInt ≤ 64) : bcL (xall (σ.2.2.1 0 * σ.2.2.1 1) &&& (σ.2.2.2.1 2 ^^^ (-1))) = Int32.ofNat (cnt (kop seed) (w * h).toInt.toNat) := by
  rw [h0, h1, bL_eq, pcn_cnt]
  have hN : (w * h).toInt.toNat ≤ 64 := by omega
  have eN : (w * h).toInt = (((w * h).toInt.toNat : Nat) : Int) := by omega
  generalize (w * h).toInt.toNat = N at hb hN eN ⊢
  have key : ∀ j, j < 64 → (bN (xall (w * h) &&& (σ.2.2.2.1 2 ^^^ (-1)))).testBit j = (decide (j < N) && kop seed j) := by
    intro j hj
    have e := bt_and (xall (w * h)) (σ.2.2.2.1 2 ^^^ (-1)) j
    rw [bt_all eN hN hj, bt_no j hj, (hb j hj).1] at e
    refine e.trans ?_
    by_cases z : j < N
    · rw [decide_eq_true z, Bool.true_and, Bool.true_and, Bool.true_and]
      exact (decide_not (p := kd seed j = 1)).symm
    · rw [decide_eq_false z, Bool.false_and, Bool.false_and]
  refine congrArg Int32.ofNat ?_
  refine (cnt_up (p := fun j => (bN (xall (w * h) &&& (σ.2.2.2.1 2 ^^^ (-1)))).testBit j) 64 hN (fun j h2 h3 => (key j h3).trans ((congrArg (fun b : Bool => b && kop seed j) (decide_eq_false (Nat.not_lt.mpr h2))).trans (Bool.false_and _)))).trans ?_
  exact cnt_cg N (fun j hj => (key j (by omega)).trans ((congrArg (fun b : Bool => b && kop seed j) (decide_eq_true hj)).trans (Bool.true_and _)))
/-- the numbers of the row are small -/
theorem yaft_r {n : Int32} (h0 : 0 ≤ n.toInt) (h1 : n.toInt ≤ 100) : 0 ≤ (yaft n).toInt ∧ (yaft n).toInt ≤ 96 := by
  have e23 : (23 : Int32).toInt = 23 := by decide
  have e15 : (15 : Int32).toInt = 15 := by decide
  have e97 : (97 : Int32).toInt = 97 := by decide
  have a1 : (23 * n).toInt = 23 * n.toInt := by rw [ymul (by rw [e23]; omega) (by rw [e23]; omega), e23]
  have a2 : (23 * n + 15).toInt = 23 * n.toInt + 15 := by rw [yadd (by rw [a1, e15]; omega) (by rw [a1, e15]; omega), a1, e15]
  have a3 : ((23 * n + 15) / 97).toInt = (23 * n.toInt + 15) / 97 := by
    rw [Int32.toInt_div, e97, a2, Int.tdiv_eq_ediv_of_nonneg (by omega)]
    exact ybmod (by omega) (by omega)
  have a4 : ((23 * n + 15) / 97 * 97).toInt = (23 * n.toInt + 15) / 97 * 97 := by rw [ymul (by rw [a3, e97]; omega) (by rw [a3, e97]; omega), a3, e97]
  have a5 : (yaft n).toInt = (23 * n.toInt + 15) - (23 * n.toInt + 15) / 97 * 97 := by
    unfold yaft
    rw [ysub (by rw [a2, a4]; omega) (by rw [a2, a4]; omega), a2, a4]
  omega
theorem yit_r {n : Int32} (h0 : 0 ≤ n.toInt) (h1 : n.toInt ≤ 100) : ∀ k : Nat, 0 ≤ (yit k n).toInt ∧ (yit k n).toInt ≤ 100 := by
  intro k
  induction k with
  | zero => exact ⟨h0, h1⟩
  | succ k ih =>
    have h := yaft_r ih.1 ih.2
    exact ⟨h.1, Int.le_trans h.2 (by decide)⟩
theorem d10_r {x : Int32} (h0 : 0 ≤ x.toInt) : 0 ≤ (x - x / 10 * 10).toInt := by
  have e10 : (10 : Int32).toInt = 10 := by decide
  have hx := yrng x
  have a3 : (x / 10).toInt = x.toInt / 10 := by
    rw [Int32.toInt_div, e10, Int.tdiv_eq_ediv_of_nonneg h0]
    exact ybmod (by omega) (by omega)
  have a4 : (x / 10 * 10).toInt = x.toInt / 10 * 10 := by rw [ymul (by rw [a3, e10]; omega) (by rw [a3, e10]; omega), a3, e10]
  rw [ysub (by rw [a4]; omega) (by rw [a4]; omega), a4]
  omega
/-! ===== sets of cells by what is in them; what the class' parts write ===== -/
theorem yif0 (c : Prop) [Decidable c] : (if c then (1 : Int32) else 0) = 0 ↔ ¬ c := by
  by_cases h : c
  · rw [if_pos h]; exact ⟨fun q => absurd q (by decide), fun q => absurd h q⟩
  · rw [if_neg h]; exact ⟨fun _ => h, fun _ => rfl⟩
theorem lgc0 {x : Int64} : lg_cmp x 0 = 0 ↔ x = 0 := by
  unfold lg_cmp
  constructor
  · intro h
    by_cases q : x > 0
    · rw [if_pos q] at h
      exact absurd h (by decide)
    · rw [if_neg q] at h
      by_cases z : x = 0
      · exact z
      · rw [if_neg z] at h
        exact absurd h (by decide)
  · intro h
    subst h
    decide
/-- whether a cell is in a set, as the class asks it -/
abbrev xis (s : Int64) (c : Int32) : Prop := ¬ (s &&& xset c = 0)
theorem xis_bt {s : Int64} {c : Int32} {k : Nat} (h : c.toInt = (k : Int)) (hk : k < 64) : xis s c ↔ bt s k = true := by
  have e := bt_of (s := s) h hk
  constructor
  · intro q
    by_cases z : bt s k = true
    · exact z
    · exact absurd (e.mpr (Bool.eq_false_iff.mpr z)) q
  · intro q z
    rw [e.mp z] at q
    exact absurd q (by decide)
def xkf (σ : XS) (c : Int32) : Int32 := if xis (σ.2.2.2.1 2) c then 1 else if xis (σ.2.2.2.1 3) c then 2 else if xis (σ.2.2.2.1 4) c then 3 else 0
theorem bt_s1 {w : Int32} {c : Nat} (hc : c < 64) : bt (xset w) c = true ↔ w.toInt = (c : Int) := by
  have e64 : (64 : Int32).toInt = 64 := by decide
  have e0 : (0 : Int32).toInt = 0 := by decide
  by_cases q : 0 ≤ w.toInt ∧ w.toInt < 64
  · have hk : w.toInt = ((w.toInt.toNat : Nat) : Int) := by omega
    rw [bt_set hk (by omega), decide_eq_true_eq]
    omega
  · have hn : ¬ (0 ≤ w ∧ w < 64) := by
      rw [yle, ylt, e0, e64]
      exact q
    have e : xset w = 0 := if_neg hn
    rw [e, bt_0]
    constructor
    · intro h
      exact absurd h (by decide)
    · intro h
      omega
/-- the set v is that of the cells for which P holds -/
def xse (v : Int64) (P : Nat → Prop) : Prop := ∀ c : Nat, c < 64 → (bt v c = true ↔ P c)
theorem xse.z : xse 0 (fun _ => False) := fun c _ => by
  rw [bt_0]
  exact ⟨fun h => absurd h (by decide), fun h => h.elim⟩
theorem xse.or {u v : Int64} {P Q : Nat → Prop} (h1 : xse u P) (h2 : xse v Q) : xse (u ||| v) (fun c => P c ∨ Q c) := fun c hc => by
  rw [bt_or, Bool.or_eq_true, h1 c hc, h2 c hc]
theorem xse.or1 {u : Int64} {P : Nat → Prop} {w : Int32} (h1 : xse u P) : xse (u ||| xset w) (fun c => P c ∨ w.toInt = (c : Int)) := fun c hc => by
  rw [bt_or, Bool.or_eq_true, h1 c hc, bt_s1 hc]
theorem xse.cg {u : Int64} {P Q : Nat → Prop} (h1 : xse u P) (h : ∀ c : Nat, c < 64 → (P c ↔ Q c)) : xse u Q := fun c hc => (h1 c hc).trans (h c hc)
theorem exS {n : Nat} {Q : Nat → Prop} : (∃ p, p < n + 1 ∧ Q p) ↔ (∃ p, p < n ∧ Q p) ∨ Q n := by
  constructor
  · rintro ⟨p, h1, h2⟩
    by_cases q : p = n
    · subst q
      exact Or.inr h2
    · exact Or.inl ⟨p, by omega, h2⟩
  · rintro (⟨p, h1, h2⟩ | h)
    · exact ⟨p, by omega, h2⟩
    · exact ⟨n, by omega, h⟩
theorem ex0 {Q : Nat → Prop} : (∃ p, p < 0 ∧ Q p) ↔ False := ⟨fun ⟨_, h, _⟩ => absurd h (Nat.not_lt_zero _), fun h => h.elim⟩
/-- a counter that runs to n -/
theorem xcn_step {i n : Int32} (h : 0 ≤ i.toInt ∧ i.toInt ≤ n.toInt) (c : ¬ n ≤ i) : 0 ≤ (i + 1).toInt ∧ (i + 1).toInt ≤ n.toInt := by
  have e1 : (1 : Int32).toInt = 1 := by decide
  have hn := yrng n
  rw [yle] at c
  rw [yadd (by rw [e1]; omega) (by rw [e1]; omega), e1]
  omega
theorem xcn_init {n : Int32} (h : 0 ≤ n.toInt) : 0 ≤ (0 : Int32).toInt ∧ (0 : Int32).toInt ≤ n.toInt := by
  have e0 : (0 : Int32).toInt = 0 := by decide
  omega
theorem xcn_nat {i n : Int32} (h : 0 ≤ i.toInt ∧ i.toInt ≤ n.toInt) (c : ¬ n ≤ i) : (i + 1).toInt.toNat = i.toInt.toNat + 1 ∧ Int32.ofNat i.toInt.toNat = i := by
  have e1 : (1 : Int32).toInt = 1 := by decide
  have hn := yrng n
  rw [yle] at c
  refine ⟨?_, Int32.toInt_inj.mp ?_⟩
  · rw [yadd (by rw [e1]; omega) (by rw [e1]; omega), e1]
    omega
  · rw [yofNat (by omega)]
    omega
theorem xcn_stop {i n : Int32} (h : 0 ≤ i.toInt ∧ i.toInt ≤ n.toInt) (c : n ≤ i) : i.toInt.toNat = n.toInt.toNat := by
  rw [yle] at c
  omega
/-- the cells of a row -/
def xasQ (σ : XS) (k n c : Nat) : Prop := ∃ p, p < n ∧ (xat σ k (Int32.ofNat p)).toInt = (c : Int)
theorem xas_init {σ : XS} {k : Nat} : xse 0 (xasQ σ k (0 : Int32).toInt.toNat) := xse.z.cg (fun _ _ => ex0.symm)
theorem xas_step {σ : XS} {k : Nat} {v : Int64} {i n : Int32} (h : xse v (xasQ σ k i.toInt.toNat)) (hi : 0 ≤ i.toInt ∧ i.toInt ≤ n.toInt) (c : ¬ n ≤ i) : xse (v ||| xset (xat σ k i)) (xasQ σ k (i + 1).toInt.toNat) := by
  obtain ⟨e1, e2⟩ := xcn_nat hi c
  rw [e1]
  refine h.or1.cg (fun d _ => ?_)
  unfold xasQ
  rw [exS, e2]
theorem xas_stop {σ : XS} {k : Nat} {v : Int64} {i n : Int32} (hi : 0 ≤ i.toInt ∧ i.toInt ≤ n.toInt) (c : n ≤ i) (h : xse v (xasQ σ k i.toInt.toNat)) : xse v (xasQ σ k n.toInt.toNat) := by
  rw [xcn_stop hi c] at h
  exact h
/-- the cells of all rounds; those of one up to a place -/
def xrcR (σ : XS) (g : Int32) (m c : Nat) : Prop := ∃ p, p < m ∧ (xat σ 9 (g * 6 + Int32.ofNat p)).toInt = (c : Int)
def xrcQ (σ : XS) (n c : Nat) : Prop := ∃ g, g < n ∧ xrcR σ (Int32.ofNat g) (xat σ 8 (Int32.ofNat g)).toInt.toNat c
def xwyR (σ : XS) (g : Int32) (m c : Nat) : Prop := ∃ p, p < m ∧ (xat σ 19 (g * 15 + Int32.ofNat p)).toInt = (c : Int)
def xwyQ (σ : XS) (n c : Nat) : Prop := ∃ g, g < n ∧ xwyR σ (Int32.ofNat g) ((xat σ 18 (Int32.ofNat g)).toInt + 1).toNat c
theorem xrc_init {σ : XS} : xse 0 (xrcQ σ (0 : Int32).toInt.toNat) := xse.z.cg (fun _ _ => ex0.symm)
theorem xrc_in {σ : XS} {v : Int64} {g : Int32} (h : xse v (xrcQ σ g.toInt.toNat)) : xse v (fun c => xrcQ σ g.toInt.toNat c ∨ xrcR σ g (0 : Int32).toInt.toNat c) := h.cg (fun _ _ => ⟨Or.inl, fun q => q.elim id (fun z => (ex0.mp z).elim)⟩)
theorem xrc_step {σ : XS} {v : Int64} {g i n : Int32} {P : Nat → Prop} (h : xse v (fun c => P c ∨ xrcR σ g i.toInt.toNat c)) (hi : 0 ≤ i.toInt ∧ (i.toInt ≤ n.toInt ∨ i.toInt = 0)) (c : ¬ n ≤ i) : xse (v ||| xset (xat σ 9 (g * 6 + i))) (fun c => P c ∨ xrcR σ g (i + 1).toInt.toNat c) := by
  have hi2 : 0 ≤ i.toInt ∧ i.toInt ≤ n.toInt := by
    rw [yle] at c
    omega
  obtain ⟨e1, e2⟩ := xcn_nat hi2 c
  rw [e1]
  refine h.or1.cg (fun d _ => ?_)
  unfold xrcR
  rw [exS, e2, or_assoc]
theorem xrc_out {σ : XS} {v : Int64} {g n i k : Int32} (h : xse v (fun c => xrcQ σ g.toInt.toNat c ∨ xrcR σ g i.toInt.toNat c)) (hg : 0 ≤ g.toInt ∧ g.toInt ≤ n.toInt) (cg : ¬ n ≤ g) (hi : 0 ≤ i.toInt ∧ (i.toInt ≤ k.toInt ∨ i.toInt = 0)) (c : k ≤ i) (hk : k = xat σ 8 g) : xse v (xrcQ σ (g + 1).toInt.toNat) := by
  obtain ⟨e1, e2⟩ := xcn_nat hg cg
  rw [e1]
  refine h.cg (fun d _ => ?_)
  unfold xrcQ
  rw [exS, e2, ← hk]
  have e : i.toInt.toNat = k.toInt.toNat := by
    rw [yle] at c
    omega
  rw [e]
theorem xwy_init {σ : XS} : xse 0 (xwyQ σ (0 : Int32).toInt.toNat) := xse.z.cg (fun _ _ => ex0.symm)
theorem xwy_in {σ : XS} {v : Int64} {g : Int32} (h : xse v (xwyQ σ g.toInt.toNat)) : xse v (fun c => xwyQ σ g.toInt.toNat c ∨ xwyR σ g (0 : Int32).toInt.toNat c) := h.cg (fun _ _ => ⟨Or.inl, fun q => q.elim id (fun z => (ex0.mp z).elim)⟩)
theorem xwy_step {σ : XS} {v : Int64} {g i n : Int32} {P : Nat → Prop} (h : xse v (fun c => P c ∨ xwyR σ g i.toInt.toNat c)) (hi : 0 ≤ i.toInt) (hn : n.toInt ≤ 1000) (c : ¬ n < i) : xse (v ||| xset (xat σ 19 (g * 15 + i))) (fun c => P c ∨ xwyR σ g (i + 1).toInt.toNat c) := by
  have e1 : (1 : Int32).toInt = 1 := by decide
  rw [ylt] at c
  have a1 : (i + 1).toInt.toNat = i.toInt.toNat + 1 := by
    rw [yadd (by rw [e1]; omega) (by rw [e1]; omega), e1]
    omega
  have a2 : Int32.ofNat i.toInt.toNat = i := Int32.toInt_inj.mp (by rw [yofNat (by omega)]; omega)
  rw [a1]
  refine h.or1.cg (fun d _ => ?_)
  unfold xwyR
  rw [exS, a2, or_assoc]
theorem xwy_out {σ : XS} {v : Int64} {g n i k : Int32} (h : xse v (fun c => xwyQ σ g.toInt.toNat c ∨ xwyR σ g i.toInt.toNat c)) (hg : 0 ≤ g.toInt ∧ g.toInt ≤ n.toInt) (cg : ¬ n ≤ g) (hi : 0 ≤ i.toInt ∧ (i.toInt ≤ k.toInt + 1 ∨ i.toInt = 0)) (c : k < i) (hk : k = xat σ 18 g) : xse v (xwyQ σ (g + 1).toInt.toNat) := by
  obtain ⟨e1, e2⟩ := xcn_nat hg cg
  rw [e1]
  refine h.cg (fun d _ => ?_)
  unfold xwyQ
  rw [exS, e2, ← hk]
  have e : i.toInt.toNat = (k.toInt + 1).toNat := by
    rw [ylt] at c
    omega
  rw [e]
/-- the cells that may not become walls -/
def xtkQ (σ : XS) (c : Nat) : Prop := ((xasQ σ 0 (σ.1 0).toInt.toNat c ∨ xasQ σ 10 (σ.1 10).toInt.toNat c) ∨ xrcQ σ (σ.1 5).toInt.toNat c) ∨ xwyQ σ (σ.1 16).toInt.toNat c
/-- what the parts write -/
def xlampU (σ : XS) (cell reach : Int32) : XS := xadd (xadd (xadd σ 0 cell) 1 reach) 2 1
def xfogT (σ : XS) (minute fog : Int32) : XS := xadd (xadd σ 3 minute) 4 fog
def xwireT (σ : XS) (cell bar : Int32) : XS := xadd (xadd σ 22 cell) 23 bar
def xlen (σ : XS) (guard cell : Int32) : XS := xput (xput σ 9 (guard * 6 + xat σ 8 guard) cell) 8 guard (xat σ 8 guard + 1)
def xen4 (σ : XS) (from_ to stay : Int32) : XS := xadd (xadd (xadd (xadd σ 5 from_) 6 to) 7 stay) 8 0
def xenl (σ : XS) (cell from_ to stay : Int32) : XS := xlen (xen4 σ from_ to stay) ((xen4 σ from_ to stay).1 5 - 1) cell
theorem xenl_e {σ : XS} {cell from_ to stay : Int32} : xlen (xadd (xadd (xadd (xadd σ 5 from_) 6 to) 7 stay) 8 0) ((xadd (xadd (xadd (xadd σ 5 from_) 6 to) 7 stay) 8 0).1 5 - 1) cell = xenl σ cell from_ to stay := by
  unfold xenl xen4
  exact rfl
def xstep (σ : XS) (i minute : Int32) : XS := xput (xput σ 20 i (xat σ 20 i + 1)) 21 i minute
theorem xlampU.kn {σ : XS} {cell reach : Int32} : xfr [0, 24, 1, 25, 2, 26] σ (xlampU σ cell reach) := xkn.trans (xkn.trans xkn_add xkn_add) xkn_add
theorem xfogT.kn {σ : XS} {minute fog : Int32} : xfr [3, 27, 4, 28] σ (xfogT σ minute fog) := xkn.trans xkn_add xkn_add
theorem xwireT.kn {σ : XS} {cell bar : Int32} : xfr [22, 46, 23, 47] σ (xwireT σ cell bar) := xkn.trans xkn_add xkn_add
theorem xlen.kn {σ : XS} {guard cell : Int32} : xfr [33, 32] σ (xlen σ guard cell) := xkn.trans (xkn_put (k := 9)) (xkn_put (k := 8))
theorem xenl.kn {σ : XS} {cell from_ to stay : Int32} : xfr [5, 29, 6, 30, 7, 31, 8, 32, 33] σ (xenl σ cell from_ to stay) := (xkn.trans (xkn.trans (xkn.trans (xkn.trans (xkn.trans xkn_add xkn_add) xkn_add) xkn_add) xlen.kn) xkn.rfl').w
theorem xstep.kn {σ : XS} {i minute : Int32} : xfr [44, 45] σ (xstep σ i minute) := xkn.trans (xkn_put (k := 20)) (xkn_put (k := 21))
theorem xrc_i {i n : Int32} (hi : 0 ≤ i.toInt ∧ (i.toInt ≤ n.toInt ∨ i.toInt = 0)) (c : ¬ n ≤ i) : 0 ≤ (i + 1).toInt ∧ ((i + 1).toInt ≤ n.toInt ∨ (i + 1).toInt = 0) := by
  have e1 : (1 : Int32).toInt = 1 := by decide
  have hn := yrng n
  rw [yle] at c
  have e : (i + 1).toInt = i.toInt + 1 := by rw [yadd (by rw [e1]; omega) (by rw [e1]; omega), e1]
  omega
theorem xwy_i {i n : Int32} (hi : 0 ≤ i.toInt ∧ (i.toInt ≤ n.toInt + 1 ∨ i.toInt = 0)) (hn : n.toInt ≤ 1000) (c : ¬ n < i) : 0 ≤ (i + 1).toInt ∧ ((i + 1).toInt ≤ n.toInt + 1 ∨ (i + 1).toInt = 0) := by
  have e1 : (1 : Int32).toInt = 1 := by decide
  rw [ylt] at c
  have e : (i + 1).toInt = i.toInt + 1 := by rw [yadd (by rw [e1]; omega) (by rw [e1]; omega), e1]
  omega
theorem xi0 {n : Int} : 0 ≤ (0 : Int32).toInt ∧ ((0 : Int32).toInt ≤ n ∨ (0 : Int32).toInt = 0) := by
  have e0 : (0 : Int32).toInt = 0 := by decide
  omega
theorem xcp0 : xcap 0 = 6 := by decide
theorem xcp3 : xcap 3 = 8 := by decide
theorem xcp5 : xcap 5 = 6 := by decide
theorem xcp10 : xcap 10 = 4 := by decide
theorem xcp12 : xcap 12 = 8 := by decide
theorem xcp16 : xcap 16 = 4 := by decide
theorem xcp22 : xcap 22 = 5 := by decide
/-- a row filled -/
def xfl (s : XS) (k : Nat) (v : Int32) : Prop := s.1 k = Int32.ofNat (xcap k) ∧ ∀ j : Nat, j < xcap k → s.2.1 k j = v
def xflP (s : XS) (k : Nat) (v i : Int32) : Prop := 0 ≤ i.toInt ∧ i.toInt ≤ (xcap k : Int) ∧ s.1 k = Int32.ofNat (xcap k) ∧ ∀ j : Nat, j < i.toInt.toNat → s.2.1 k j = v
theorem xflP.init {σ : XS} {k : Nat} {v : Int32} : xflP (xsz σ k (Int32.ofNat (xcap k))) k v 0 := by
  have e0 : (0 : Int32).toInt = 0 := by decide
  refine ⟨by omega, by omega, xsz_self, fun j hj => ?_⟩
  rw [e0] at hj
  exact absurd hj (Nat.not_lt_zero _)
theorem xflP.step {s : XS} {k : Nat} {v i : Int32} (h : xflP s k v i) (c : ¬ s.1 k ≤ i) : xflP (xput s k i v) k v (i + 1) := by
  have e1 : (1 : Int32).toInt = 1 := by decide
  have hc := xcap_le k
  obtain ⟨h0, h1, h2, h3⟩ := h
  rw [h2, yle, yofNat (by omega)] at c
  have e : (i + 1).toInt = i.toInt + 1 := by rw [yadd (by rw [e1]; omega) (by rw [e1]; omega), e1]
  refine ⟨by omega, by omega, by rw [xput_sz]; exact h2, fun j hj => ?_⟩
  unfold xput
  rw [if_pos ⟨h0, by omega⟩]
  show (if k = k then upd (s.2.1 k) i.toNatClampNeg v else s.2.1 k) j = v
  rw [if_pos rfl]
  have ek : i.toNatClampNeg = i.toInt.toNat := rfl
  rw [ek]
  by_cases q : j = i.toInt.toNat
  · rw [q, pk_us]
  · rw [pk_un q]
    exact h3 j (by omega)
theorem xflP.stop {s : XS} {k : Nat} {v i : Int32} (h : xflP s k v i) (c : s.1 k ≤ i) : xfl s k v := by
  have hc := xcap_le k
  obtain ⟨h0, h1, h2, h3⟩ := h
  have c2 := c
  rw [h2, yle, yofNat (by omega)] at c2
  exact ⟨h2, fun j hj => h3 j (by omega)⟩
theorem xfl.fr {m : List Nat} {σ σ1 : XS} {k : Nat} {v : Int32} (h : xfl σ k v) (hx : xfr m σ σ1) (h1 : ¬ k ∈ m := by decide) (h2 : ¬ 24 + k ∈ m := by decide) : xfl σ1 k v := ⟨hx.z h.1 h1, fun j hj => (congrFun (hx.2.1 k h2) j).trans (h.2 j hj)⟩
theorem xbf.eq {σ σ1 : XS} {n : Nat} {seed : Int32} (h : xbf n seed σ) (e : σ1.2.2.2.1 = σ.2.2.2.1 := by rfl) : xbf n seed σ1 := by
  intro c hc
  rw [e]
  exact h c hc
theorem xfl.eq {σ σ1 : XS} {k : Nat} {v : Int32} (h : xfl σ k v) (e1 : σ1.1 k = σ.1 k := by rfl) (e2 : σ1.2.1 k = σ.2.1 k := by rfl) : xfl σ1 k v := ⟨e1.trans h.1, fun j hj => (congrFun e2 j).trans (h.2 j hj)⟩
theorem xse.is {u v : Int64} {P : Nat → Prop} (h1 : xse u P) (h2 : xse v P) (w : Int32) (h : xis u w) : xis v w := by
  by_cases q : 0 ≤ w.toInt ∧ w.toInt < 64
  · have hk : w.toInt = ((w.toInt.toNat : Nat) : Int) := by omega
    rw [xis_bt hk (by omega)] at h ⊢
    exact (h2 _ (by omega)).mpr ((h1 _ (by omega)).mp h)
  · exfalso
    have e64 : (64 : Int32).toInt = 64 := by decide
    have e0 : (0 : Int32).toInt = 0 := by decide
    have hn : ¬ (0 ≤ w ∧ w < 64) := by
      rw [yle, ylt, e0, e64]
      exact q
    have e : xset w = 0 := if_neg hn
    refine h ?_
    rw [e]
    exact bN_inj ((bN_and _ _).trans (Nat.and_zero _))
theorem xse.ex (P : Nat → Prop) : ∃ v : Int64, xse v P := by
  have h : ∀ n : Nat, n ≤ 64 → ∃ v : Int64, ∀ c : Nat, c < 64 → (bt v c = true ↔ (c < n ∧ P c)) := by
    intro n
    induction n with
    | zero => exact fun _ => ⟨0, fun c _ => by
        rw [bt_0]
        exact ⟨fun h => absurd h (by decide), fun h => absurd h.1 (Nat.not_lt_zero _)⟩⟩
    | succ n ih =>
      intro hn
      obtain ⟨v, hv⟩ := ih (by omega)
      by_cases q : P n
      · refine ⟨v ||| xset (Int32.ofNat n), fun c hc => ?_⟩
        have e : (Int32.ofNat n).toInt = (n : Int) := yofNat (by omega)
        rw [bt_or, Bool.or_eq_true, hv c hc, bt_s1 hc, e]
        constructor
        · intro h
          rcases h with h | h
          · exact ⟨Nat.lt_succ_of_lt h.1, h.2⟩
          · have ec : c = n := by omega
            rw [ec]
            exact ⟨Nat.lt_succ_self n, q⟩
        · intro h
          by_cases z : c = n
          · exact Or.inr (by omega)
          · exact Or.inl ⟨by omega, h.2⟩
      · refine ⟨v, fun c hc => ?_⟩
        rw [hv c hc]
        constructor
        · exact fun h => ⟨Nat.lt_succ_of_lt h.1, h.2⟩
        · intro h
          by_cases z : c = n
          · exact absurd (z ▸ h.2) q
          · exact ⟨by omega, h.2⟩
  obtain ⟨v, hv⟩ := h 64 (Nat.le_refl _)
  exact ⟨v, fun c hc => (hv c hc).trans ⟨fun q => q.2, fun q => ⟨hc, q⟩⟩⟩
theorem xlay_no {P : Nat → Prop} {x : Int64} {cell : Int32} (q : ∃ v : Int64, xse v P ∧ ¬ xis v cell) (hx : xse x P) (c : xis x cell) : False := q.elim (fun _ h => h.2 (hx.is h.1 cell c))
theorem xse_q {P : Nat → Prop} {cell : Int32} {c : Nat} (hc : cell.toInt = (c : Int)) (h64 : c < 64) : (∃ v : Int64, xse v P ∧ ¬ xis v cell) ↔ ¬ P c := by
  constructor
  · rintro ⟨v, h1, h2⟩ h3
    exact h2 ((xis_bt hc h64).mpr ((h1 c h64).mpr h3))
  · intro h
    obtain ⟨v, hv⟩ := xse.ex P
    exact ⟨v, hv, fun q => h ((hv c h64).mp ((xis_bt hc h64).mp q))⟩
