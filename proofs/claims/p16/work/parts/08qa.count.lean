/-! How many bits a long has, and that runs cover lines below 60 alone. -/
def zbn (x : Nat) : Nat → Nat
  | 0 => 0
  | k + 1 => zbn x k + (if x.testBit k then 1 else 0)
theorem zbn_le (x : Nat) : ∀ k, zbn x k ≤ k
  | 0 => Nat.le_refl 0
  | k + 1 => by
    have h := zbn_le x k
    show zbn x k + _ ≤ k + 1
    split <;> omega
theorem zbn_cg {x y : Nat} : ∀ {k : Nat}, (∀ i, i < k → x.testBit i = y.testBit i) → zbn x k = zbn y k
  | 0, _ => rfl
  | k + 1, h => by
    show zbn x k + (if x.testBit k then 1 else 0) = zbn y k + (if y.testBit k then 1 else 0)
    rw [zbn_cg (fun i hi => h i (by omega)), h k (by omega)]
theorem zbn_sp {x q r : Nat} (h1 : ∀ i, i < 8 → x.testBit i = r.testBit i) (h2 : ∀ i, x.testBit (8 + i) = q.testBit i) : ∀ k, zbn x (8 + k) = zbn r 8 + zbn q k
  | 0 => by
    rw [zbn_cg h1]
    rfl
  | k + 1 => by
    show zbn x (8 + k) + (if x.testBit (8 + k) then 1 else 0) = zbn r 8 + (zbn q k + (if q.testBit k then 1 else 0))
    rw [zbn_sp h1 h2 k, h2 k]
    omega
theorem zbn_hi {x k : Nat} (h : x < 2 ^ k) : ∀ j, zbn x (k + j) = zbn x k
  | 0 => rfl
  | j + 1 => by
    show zbn x (k + j) + (if x.testBit (k + j) then 1 else 0) = zbn x k
    rw [zbn_hi h j, Nat.testBit_lt_two_pow (Nat.lt_of_lt_of_le h (Nat.pow_le_pow_right (by decide) (Nat.le_add_right k j)))]
    rfl
theorem z_tb256 {a b : Nat} (hb : b < 256) (i : Nat) : (256 * a + b).testBit i = if i < 8 then b.testBit i else a.testBit (i - 8) := Nat.testBit_two_pow_mul_add (i := 8) a hb i
theorem z_and256 {a b c d : Nat} (hb : b < 256) (hd : d < 256) : (256 * a + b) &&& (256 * c + d) = 256 * (a &&& c) + (b &&& d) := by
  apply Nat.eq_of_testBit_eq
  intro i
  rw [Nat.testBit_and, z_tb256 hb, z_tb256 hd, z_tb256 (Nat.lt_of_le_of_lt Nat.and_le_left hb)]
  by_cases c : i < 8
  · rw [if_pos c, if_pos c, if_pos c, Nat.testBit_and]
  · rw [if_neg c, if_neg c, if_neg c, Nat.testBit_and]
def zBym (b : Nat) : Nat → Nat
  | 0 => 0
  | k + 1 => 256 * zBym b k + b
def zByq1 (m x : Nat) : Nat := x - (x / 2 &&& m)
def zByq2 (m x : Nat) : Nat := (x &&& m) + (x / 4 &&& m)
def zByq3 (m x : Nat) : Nat := (x + x / 16) &&& m
def zr1 (r : Nat) : Nat := r - (r / 2 &&& 85)
def zr2 (r : Nat) : Nat := (zr1 r &&& 51) + (zr1 r / 4 &&& 51)
theorem zr1_t : ∀ b, b < 2 → ∀ r, r < 256 → ((128 * b + r / 2) &&& 85) = (r / 2 &&& 85) ∧ 128 * b + r / 2 < 256 ∧ (r / 2 &&& 85) ≤ r ∧ zr1 r < 256 := by decide +kernel
theorem zr2_t : ∀ b, b < 4 → ∀ r, r < 256 → ((64 * b + zr1 r / 4) &&& 51) = (zr1 r / 4 &&& 51) ∧ 64 * b + zr1 r / 4 < 256 ∧ zr2 r < 256 ∧ zr2 r % 16 ≤ 4 := by decide +kernel
theorem zr3_t : ∀ b, b < 5 → ∀ r, r < 256 → ((16 * b + zr2 r + zr2 r / 16) &&& 15) = zbn r 8 ∧ 16 * b + zr2 r + zr2 r / 16 < 256 := by decide +kernel
theorem zByq1_s {m q r : Nat} (hr : r < 256) : zByq1 (256 * m + 85) (256 * q + r) = 256 * zByq1 m q + zr1 r := by
  obtain ⟨h1, h2, h3, -⟩ := zr1_t (q % 2) (by omega) r hr
  have e : (256 * q + r) / 2 = 256 * (q / 2) + (128 * (q % 2) + r / 2) := by omega
  have hle : (q / 2 &&& m) ≤ q / 2 := Nat.and_le_left
  unfold zByq1 zr1
  rw [e, z_and256 (d := 85) h2 (by decide), h1]
  omega
theorem zByq2_s {m q r : Nat} (hr : r < 256) : zByq2 (256 * m + 51) (256 * q + zr1 r) = 256 * zByq2 m q + zr2 r := by
  obtain ⟨h1, h2, -⟩ := zr2_t (q % 4) (by omega) r hr
  have e : (256 * q + zr1 r) / 4 = 256 * (q / 4) + (64 * (q % 4) + zr1 r / 4) := by omega
  unfold zByq2
  rw [e, z_and256 (d := 51) h2 (by decide), h1, z_and256 (d := 51) (zr1_t 0 (by decide) r hr).2.2.2 (by decide)]
  unfold zr2
  omega
theorem zByq3_s {m q r : Nat} (hr : r < 256) (hq : q % 16 ≤ 4) : zByq3 (256 * m + 15) (256 * q + zr2 r) = 256 * zByq3 m q + zbn r 8 := by
  obtain ⟨h1, h2⟩ := zr3_t (q % 16) (by omega) r hr
  have e : 256 * q + zr2 r + (256 * q + zr2 r) / 16 = 256 * (q + q / 16) + (16 * (q % 16) + zr2 r + zr2 r / 16) := by omega
  unfold zByq3
  rw [e, z_and256 (d := 15) h2 (by decide), h1]
def zByS : Nat → Nat → Nat
  | 0, _ => 0
  | k + 1, x => 256 * zByS k (x / 256) + zbn (x % 256) 8
theorem zByS_all : ∀ k x, x < 256 ^ k → zByq2 (zBym 51 k) (zByq1 (zBym 85 k) x) % 16 ≤ 4 ∧ zByq3 (zBym 15 k) (zByq2 (zBym 51 k) (zByq1 (zBym 85 k) x)) = zByS k x
  | 0, x, h => by
    have h0 : x = 0 := by
      have h : x < 1 := h
      omega
    subst h0
    exact ⟨by decide, rfl⟩
  | k + 1, x, h => by
    have hr : x % 256 < 256 := Nat.mod_lt _ (by decide)
    have hq : x / 256 < 256 ^ k := by
      rw [Nat.pow_succ] at h
      exact Nat.div_lt_of_lt_mul (by rw [Nat.mul_comm]; exact h)
    obtain ⟨i1, i2⟩ := zByS_all k (x / 256) hq
    have ex : x = 256 * (x / 256) + x % 256 := (Nat.div_add_mod x 256).symm
    have e1 : zByq1 (zBym 85 (k + 1)) x = 256 * zByq1 (zBym 85 k) (x / 256) + zr1 (x % 256) := by
      show zByq1 (256 * zBym 85 k + 85) x = _
      have := zByq1_s (m := zBym 85 k) (q := x / 256) hr
      rw [← ex] at this
      exact this
    have e2 : zByq2 (zBym 51 (k + 1)) (zByq1 (zBym 85 (k + 1)) x) = 256 * zByq2 (zBym 51 k) (zByq1 (zBym 85 k) (x / 256)) + zr2 (x % 256) := by
      rw [e1]
      exact zByq2_s hr
    have e3 : zByq3 (zBym 15 (k + 1)) (zByq2 (zBym 51 (k + 1)) (zByq1 (zBym 85 (k + 1)) x)) = 256 * zByq3 (zBym 15 k) (zByq2 (zBym 51 k) (zByq1 (zBym 85 k) (x / 256))) + zbn (x % 256) 8 := by
      rw [e2]
      exact zByq3_s hr i1
    refine ⟨?_, ?_⟩
    · rw [e2]
      have := (zr2_t 0 (by decide) (x % 256) hr).2.2.2
      omega
    · rw [e3, i2]
      rfl
theorem z_b256 (x : Nat) : (∀ i, i < 8 → x.testBit i = (x % 256).testBit i) ∧ ∀ i, x.testBit (8 + i) = (x / 256).testBit i := by
  have hr : x % 256 < 256 := Nat.mod_lt _ (by decide)
  have ex : 256 * (x / 256) + x % 256 = x := Nat.div_add_mod x 256
  have h := fun i => z_tb256 (a := x / 256) hr i
  rw [ex] at h
  refine ⟨fun i hi => ?_, fun i => ?_⟩
  · rw [h i, if_pos hi]
  · rw [h (8 + i), if_neg (by omega), show 8 + i - 8 = i by omega]
/-- the bytes' counts -/
theorem zbn_S8 (x : Nat) : ∃ a0 a1 a2 a3 a4 a5 a6 a7 : Nat, (a0 ≤ 8 ∧ a1 ≤ 8 ∧ a2 ≤ 8 ∧ a3 ≤ 8 ∧ a4 ≤ 8 ∧ a5 ≤ 8 ∧ a6 ≤ 8 ∧ a7 ≤ 8) ∧ zByS 8 x = 256 * (256 * (256 * (256 * (256 * (256 * (256 * a7 + a6) + a5) + a4) + a3) + a2) + a1) + a0 ∧ zbn x 64 = a0 + (a1 + (a2 + (a3 + (a4 + (a5 + (a6 + a7)))))) := by
  have hs : ∀ (x k : Nat), zbn x (8 + k) = zbn (x % 256) 8 + zbn (x / 256) k := fun x k => zbn_sp (z_b256 x).1 (z_b256 x).2 k
  refine ⟨zbn (x % 256) 8, zbn (x / 256 % 256) 8, zbn (x / 256 / 256 % 256) 8, zbn (x / 256 / 256 / 256 % 256) 8, zbn (x / 256 / 256 / 256 / 256 % 256) 8, zbn (x / 256 / 256 / 256 / 256 / 256 % 256) 8, zbn (x / 256 / 256 / 256 / 256 / 256 / 256 % 256) 8, zbn (x / 256 / 256 / 256 / 256 / 256 / 256 / 256 % 256) 8, ⟨zbn_le _ 8, zbn_le _ 8, zbn_le _ 8, zbn_le _ 8, zbn_le _ 8, zbn_le _ 8, zbn_le _ 8, zbn_le _ 8⟩, ?_, ?_⟩
  · show 256 * (256 * (256 * (256 * (256 * (256 * (256 * (256 * 0 + _) + _) + _) + _) + _) + _) + _) + _ = _
    rw [Nat.mul_zero, Nat.zero_add]
  · rw [show (64 : Nat) = 8 + 56 by decide, hs x 56, show (56 : Nat) = 8 + 48 by decide, hs _ 48, show (48 : Nat) = 8 + 40 by decide, hs _ 40, show (40 : Nat) = 8 + 32 by decide, hs _ 32, show (32 : Nat) = 8 + 24 by decide, hs _ 24, show (24 : Nat) = 8 + 16 by decide, hs _ 16, show (16 : Nat) = 8 + 8 by decide, hs _ 8, zbn_cg (k := 8) (z_b256 (x / 256 / 256 / 256 / 256 / 256 / 256 / 256)).1]
/-! Long.bitCount -/
def zlbc1 (v : Int64) : Int64 := v - ((v.toUInt64 >>> ((1 : Int32).toInt64.toUInt64 &&& Int64.toUInt64 63)).toInt64 &&& 6148914691236517205)
def zlbc2 (v : Int64) : Int64 := (v &&& 3689348814741910323) + ((v.toUInt64 >>> ((2 : Int32).toInt64.toUInt64 &&& Int64.toUInt64 63)).toInt64 &&& 3689348814741910323)
def zlbc3 (v : Int64) : Int64 := (v + (v.toUInt64 >>> ((4 : Int32).toInt64.toUInt64 &&& Int64.toUInt64 63)).toInt64) &&& 1085102592571150095
def zlbc4 (v : Int64) : Int64 := v + (v.toUInt64 >>> ((8 : Int32).toInt64.toUInt64 &&& Int64.toUInt64 63)).toInt64
def zlbc5 (v : Int64) : Int64 := v + (v.toUInt64 >>> ((16 : Int32).toInt64.toUInt64 &&& Int64.toUInt64 63)).toInt64
def zlbc6 (v : Int64) : Int64 := v + (v.toUInt64 >>> ((32 : Int32).toInt64.toUInt64 &&& Int64.toUInt64 63)).toInt64
def zlbc (v : Int64) : Int32 := (zlbc6 (zlbc5 (zlbc4 (zlbc3 (zlbc2 (zlbc1 v)))))).toInt32 &&& 127
/-- a long's number -/
def zln9 (v : Int64) : Nat := v.toBitVec.toNat
theorem zln9_lt (v : Int64) : zln9 v < 18446744073709551616 := v.toBitVec.isLt
theorem zus {x : Int64} {b : UInt64} {n : Nat} (hb : b.toNat % 64 = n) : zln9 (x.toUInt64 >>> b).toInt64 = zln9 x / 2 ^ n := by
  show (x.toUInt64 >>> b).toNat = x.toUInt64.toNat / 2 ^ n
  rw [UInt64.toNat_shiftRight, hb, Nat.shiftRight_eq_div_pow]
theorem zln9_and (x y : Int64) : zln9 (x &&& y) = zln9 x &&& zln9 y := by
  unfold zln9
  rw [Int64.toBitVec_and, BitVec.toNat_and]
theorem zln9_or (x y : Int64) : zln9 (x ||| y) = zln9 x ||| zln9 y := by
  unfold zln9
  rw [Int64.toBitVec_or, BitVec.toNat_or]
theorem zln9_add {x y : Int64} (h : zln9 x + zln9 y < 18446744073709551616) : zln9 (x + y) = zln9 x + zln9 y := by
  unfold zln9 at h ⊢
  rw [Int64.toBitVec_add, BitVec.toNat_add]
  exact Nat.mod_eq_of_lt h
theorem zln9_sub {x y : Int64} (h : zln9 y ≤ zln9 x) : zln9 (x - y) = zln9 x - zln9 y := by
  have h1 := zln9_lt x
  unfold zln9 at h h1 ⊢
  rw [Int64.toBitVec_sub, BitVec.toNat_sub]
  omega
theorem zlbc_n (v : Int64) : zln9 (zlbc3 (zlbc2 (zlbc1 v))) = zByS 8 (zln9 v) := by
  have hv := zln9_lt v
  have m5 : zln9 6148914691236517205 = zBym 85 8 := by decide +kernel
  have m3 : zln9 3689348814741910323 = zBym 51 8 := by decide +kernel
  have mf : zln9 1085102592571150095 = zBym 15 8 := by decide +kernel
  have h3 : zBym 51 8 = 3689348814741910323 := by decide +kernel
  have k1 : zln9 (zlbc1 v) = zByq1 (zBym 85 8) (zln9 v) := by
    have u1 : zln9 (v.toUInt64 >>> ((1 : Int32).toInt64.toUInt64 &&& Int64.toUInt64 63)).toInt64 = zln9 v / 2 := zus (n := 1) (by decide)
    have e : zln9 ((v.toUInt64 >>> ((1 : Int32).toInt64.toUInt64 &&& Int64.toUInt64 63)).toInt64 &&& 6148914691236517205) = (zln9 v / 2 &&& zBym 85 8) := by
      rw [zln9_and, u1, m5]
    have hle : (zln9 v / 2 &&& zBym 85 8) ≤ zln9 v / 2 := Nat.and_le_left
    unfold zlbc1
    rw [zln9_sub (by rw [e]; omega), e]
    rfl
  have k2 : zln9 (zlbc2 (zlbc1 v)) = zByq2 (zBym 51 8) (zByq1 (zBym 85 8) (zln9 v)) := by
    have u2 : zln9 ((zlbc1 v).toUInt64 >>> ((2 : Int32).toInt64.toUInt64 &&& Int64.toUInt64 63)).toInt64 = zln9 (zlbc1 v) / 4 := zus (n := 2) (by decide)
    have e1 : zln9 (zlbc1 v &&& 3689348814741910323) = (zByq1 (zBym 85 8) (zln9 v) &&& zBym 51 8) := by
      rw [zln9_and, k1, m3]
    have e2 : zln9 (((zlbc1 v).toUInt64 >>> ((2 : Int32).toInt64.toUInt64 &&& Int64.toUInt64 63)).toInt64 &&& 3689348814741910323) = (zByq1 (zBym 85 8) (zln9 v) / 4 &&& zBym 51 8) := by
      rw [zln9_and, u2, k1, m3]
    have h1 : (zByq1 (zBym 85 8) (zln9 v) &&& zBym 51 8) ≤ zBym 51 8 := Nat.and_le_right
    have h2 : (zByq1 (zBym 85 8) (zln9 v) / 4 &&& zBym 51 8) ≤ zBym 51 8 := Nat.and_le_right
    unfold zlbc2
    rw [zln9_add (by rw [e1, e2]; omega), e1, e2]
    rfl
  have k3 : zln9 (zlbc2 (zlbc1 v)) ≤ 7378697629483820646 := by
    rw [k2]
    have h1 : (zByq1 (zBym 85 8) (zln9 v) &&& zBym 51 8) ≤ zBym 51 8 := Nat.and_le_right
    have h2 : (zByq1 (zBym 85 8) (zln9 v) / 4 &&& zBym 51 8) ≤ zBym 51 8 := Nat.and_le_right
    unfold zByq2
    omega
  have e4 : zln9 ((zlbc2 (zlbc1 v)).toUInt64 >>> ((4 : Int32).toInt64.toUInt64 &&& Int64.toUInt64 63)).toInt64 = zln9 (zlbc2 (zlbc1 v)) / 16 := zus (n := 4) (by decide)
  unfold zlbc3
  rw [zln9_and, zln9_add (by rw [e4]; omega), e4, k2, mf]
  exact (zByS_all 8 (zln9 v) (show zln9 v < 18446744073709551616 from hv)).2
theorem zi7 (z : Int64) : (z.toInt32 &&& 127).toInt = ((zln9 z % 128 : Nat) : Int) := by
  have h1 : (z.toInt32 &&& 127).toBitVec.toNat = zln9 z % 128 := by
    rw [Int32.toBitVec_and, BitVec.toNat_and, show (127 : Int32).toBitVec.toNat = 2 ^ 7 - 1 by decide, Nat.and_two_pow_sub_one_eq_mod]
    have h2 : z.toInt32.toBitVec.toNat = zln9 z % 4294967296 := by
      show (z.toBitVec.signExtend 32).toNat = _
      rw [BitVec.signExtend_eq_setWidth_of_le _ (by decide), BitVec.toNat_setWidth]
      rfl
    rw [h2]
    omega
  have h3 : (z.toInt32 &&& 127).toInt = (z.toInt32 &&& 127).toBitVec.toInt := rfl
  rw [h3, BitVec.toInt_eq_toNat_cond, if_pos (by rw [h1]; omega), h1]
theorem zbs1 {s t1 a0 : Nat} (e0 : s = a0 + 256 * t1) (b0 : a0 ≤ 8) : s / 256 = t1 := by omega
theorem zbs2 {s t1 t2 t3 a0 a1 a2 : Nat} (e0 : s = a0 + 256 * t1) (e1 : t1 = a1 + 256 * t2) (e2 : t2 = a2 + 256 * t3) (b0 : a0 ≤ 8) (b1 : a1 ≤ 8) (b2 : a2 ≤ 8) : (s + t1) / 65536 = t2 + t3 := by
  have e : s + t1 = (a0 + a1 + 256 * (a1 + a2)) + 65536 * (t2 + t3) := by omega
  have h : a0 + a1 + 256 * (a1 + a2) < 65536 := by omega
  rw [e, Nat.add_mul_div_left _ _ (by decide), Nat.div_eq_of_lt h, Nat.zero_add]
theorem zbs3 {s t1 t2 t3 t4 t5 t6 t7 a0 a1 a2 a3 a4 a5 a6 : Nat} (e0 : s = a0 + 256 * t1) (e1 : t1 = a1 + 256 * t2) (e2 : t2 = a2 + 256 * t3) (e3 : t3 = a3 + 256 * t4) (e4 : t4 = a4 + 256 * t5) (e5 : t5 = a5 + 256 * t6) (e6 : t6 = a6 + 256 * t7) (b0 : a0 ≤ 8) (b1 : a1 ≤ 8) (b2 : a2 ≤ 8) (b3 : a3 ≤ 8) (b4 : a4 ≤ 8) (b5 : a5 ≤ 8) (b6 : a6 ≤ 8) : (s + t1 + (t2 + t3)) / 4294967296 = t4 + t5 + (t6 + t7) := by
  have f0 : s = (a0 + 256 * a1 + 65536 * a2 + 16777216 * a3) + 4294967296 * t4 := by omega
  have f1 : t1 = (a1 + 256 * a2 + 65536 * a3 + 16777216 * a4) + 4294967296 * t5 := by omega
  have f2 : t2 = (a2 + 256 * a3 + 65536 * a4 + 16777216 * a5) + 4294967296 * t6 := by omega
  have f3 : t3 = (a3 + 256 * a4 + 65536 * a5 + 16777216 * a6) + 4294967296 * t7 := by omega
  clear e0 e1 e2 e3 e4 e5 e6
  have h0 : a0 + 256 * a1 + 65536 * a2 + 16777216 * a3 ≤ 134744072 := by omega
  have h1 : a1 + 256 * a2 + 65536 * a3 + 16777216 * a4 ≤ 134744072 := by omega
  have h2 : a2 + 256 * a3 + 65536 * a4 + 16777216 * a5 ≤ 134744072 := by omega
  have h3 : a3 + 256 * a4 + 65536 * a5 + 16777216 * a6 ≤ 134744072 := by omega
  clear b0 b1 b2 b3 b4 b5 b6
  generalize a0 + 256 * a1 + 65536 * a2 + 16777216 * a3 = x0 at f0 h0
  generalize a1 + 256 * a2 + 65536 * a3 + 16777216 * a4 = x1 at f1 h1
  generalize a2 + 256 * a3 + 65536 * a4 + 16777216 * a5 = x2 at f2 h2
  generalize a3 + 256 * a4 + 65536 * a5 + 16777216 * a6 = x3 at f3 h3
  have e : s + t1 + (t2 + t3) = (x0 + x1 + (x2 + x3)) + 4294967296 * (t4 + t5 + (t6 + t7)) := by omega
  have h : x0 + x1 + (x2 + x3) < 4294967296 := by omega
  rw [e, Nat.add_mul_div_left _ _ (by decide), Nat.div_eq_of_lt h, Nat.zero_add]
theorem zbs4 {s t1 t2 t3 t4 t5 t6 t7 a0 a1 a2 a3 a4 a5 a6 : Nat} (e0 : s = a0 + 256 * t1) (e1 : t1 = a1 + 256 * t2) (e2 : t2 = a2 + 256 * t3) (e3 : t3 = a3 + 256 * t4) (e4 : t4 = a4 + 256 * t5) (e5 : t5 = a5 + 256 * t6) (e6 : t6 = a6 + 256 * t7) (b0 : a0 ≤ 8) (b1 : a1 ≤ 8) (b2 : a2 ≤ 8) (b3 : a3 ≤ 8) (b4 : a4 ≤ 8) (b5 : a5 ≤ 8) (b6 : a6 ≤ 8) (b7 : t7 ≤ 8) : (s + t1 + (t2 + t3) + (t4 + t5 + (t6 + t7))) % 128 = a0 + (a1 + (a2 + (a3 + (a4 + (a5 + (a6 + t7)))))) := by
  have e : s + t1 + (t2 + t3) + (t4 + t5 + (t6 + t7)) = (a0 + (a1 + (a2 + (a3 + (a4 + (a5 + (a6 + t7))))))) + 128 * (2 * (t1 + t2 + t3 + t4 + t5 + t6 + t7)) := by
    clear b0 b1 b2 b3 b4 b5 b6 b7
    omega
  have h : a0 + (a1 + (a2 + (a3 + (a4 + (a5 + (a6 + t7)))))) < 128 := by
    clear e0 e1 e2 e3 e4 e5 e6 e
    omega
  rw [e, Nat.add_mul_mod_self_left, Nat.mod_eq_of_lt h]
theorem zlbc_bn {v : Int64} : (zlbc v).toInt = (zbn (zln9 v) 64 : Int) := by
  obtain ⟨a0, a1, a2, a3, a4, a5, a6, a7, ⟨b0, b1, b2, b3, b4, b5, b6, b7⟩, hS, hB⟩ := zbn_S8 (zln9 v)
  have h3 := zlbc_n v
  rw [hS] at h3
  unfold zlbc
  rw [zi7, hB]
  generalize zlbc3 (zlbc2 (zlbc1 v)) = w at h3 ⊢
  clear hS hB
  obtain ⟨t6, e6⟩ : ∃ t, t = a6 + 256 * a7 := ⟨_, rfl⟩
  obtain ⟨t5, e5⟩ : ∃ t, t = a5 + 256 * t6 := ⟨_, rfl⟩
  obtain ⟨t4, e4⟩ : ∃ t, t = a4 + 256 * t5 := ⟨_, rfl⟩
  obtain ⟨t3, e3⟩ : ∃ t, t = a3 + 256 * t4 := ⟨_, rfl⟩
  obtain ⟨t2, e2⟩ : ∃ t, t = a2 + 256 * t3 := ⟨_, rfl⟩
  obtain ⟨t1, e1⟩ : ∃ t, t = a1 + 256 * t2 := ⟨_, rfl⟩
  have e0 : zln9 w = a0 + 256 * t1 := by
    rw [h3, e1, e2, e3, e4, e5, e6]
    rw [Nat.add_comm (256 * a7) a6, Nat.add_comm _ a5, Nat.add_comm _ a4, Nat.add_comm _ a3, Nat.add_comm _ a2, Nat.add_comm _ a1, Nat.add_comm _ a0]
  clear h3
  have bw : zln9 w ≤ 8 + 256 * (8 + 256 * (8 + 256 * (8 + 256 * (8 + 256 * (8 + 256 * (8 + 256 * 8)))))) := by
    have w6 : t6 ≤ 8 + 256 * 8 := by omega
    have w5 : t5 ≤ 8 + 256 * (8 + 256 * 8) := by omega
    have w4 : t4 ≤ 8 + 256 * (8 + 256 * (8 + 256 * 8)) := by omega
    have w3 : t3 ≤ 8 + 256 * (8 + 256 * (8 + 256 * (8 + 256 * 8))) := by omega
    have w2 : t2 ≤ 8 + 256 * (8 + 256 * (8 + 256 * (8 + 256 * (8 + 256 * 8)))) := by omega
    have w1 : t1 ≤ 8 + 256 * (8 + 256 * (8 + 256 * (8 + 256 * (8 + 256 * (8 + 256 * 8))))) := by omega
    omega
  have bw : zln9 w ≤ 578721382704613384 := bw
  have d1 := zbs1 e0 b0
  have d2 := zbs2 e0 e1 e2 b0 b1 b2
  have d3 := zbs3 e0 e1 e2 e3 e4 e5 e6 b0 b1 b2 b3 b4 b5 b6
  have d4 := zbs4 e0 e1 e2 e3 e4 e5 e6 b0 b1 b2 b3 b4 b5 b6 b7
  clear e0 e1 e2 e3 e4 e5 e6 b0 b1 b2 b3 b4 b5 b6 b7
  have u4 : zln9 (w.toUInt64 >>> ((8 : Int32).toInt64.toUInt64 &&& Int64.toUInt64 63)).toInt64 = zln9 w / 256 := zus (n := 8) (by decide)
  have h4 : zln9 (zlbc4 w) = zln9 w + t1 := by
    unfold zlbc4
    rw [zln9_add (by rw [u4]; omega), u4, d1]
  have u5 : zln9 ((zlbc4 w).toUInt64 >>> ((16 : Int32).toInt64.toUInt64 &&& Int64.toUInt64 63)).toInt64 = zln9 (zlbc4 w) / 65536 := zus (n := 16) (by decide)
  have h5 : zln9 (zlbc5 (zlbc4 w)) = zln9 w + t1 + (t2 + t3) := by
    unfold zlbc5
    rw [zln9_add (by rw [u5]; omega), u5, h4, d2]
  have u6 : zln9 ((zlbc5 (zlbc4 w)).toUInt64 >>> ((32 : Int32).toInt64.toUInt64 &&& Int64.toUInt64 63)).toInt64 = zln9 (zlbc5 (zlbc4 w)) / 4294967296 := zus (n := 32) (by decide)
  have h6 : zln9 (zlbc6 (zlbc5 (zlbc4 w))) = zln9 w + t1 + (t2 + t3) + (t4 + t5 + (t6 + a7)) := by
    unfold zlbc6
    rw [zln9_add (by rw [u6]; omega), u6, h5, d3]
  rw [h6, d4]
/-- one bit of a long, as the lines are read out of it -/
theorem zsm_t : ∀ l, l < 64 → ((((Int32.ofNat l).toInt64 &&& 63).toBitVec.smod 64) : BitVec 64).toNat = l := by decide +kernel
theorem zbt1 (x : Int64) {l : Nat} (h : l < 64) : zln9 ((x >>> ((Int32.ofNat l).toInt64 &&& 63)) &&& 1) = if (zln9 x).testBit l then 1 else 0 := by
  have e1 : (x >>> ((Int32.ofNat l).toInt64 &&& 63)).toBitVec = x.toBitVec.sshiftRight l := by
    rw [Int64.toBitVec_shiftRight]
    show x.toBitVec.sshiftRight ((((Int32.ofNat l).toInt64 &&& 63).toBitVec.smod 64) : BitVec 64).toNat = _
    rw [zsm_t l h]
  rw [zln9_and]
  have e2 : zln9 (x >>> ((Int32.ofNat l).toInt64 &&& 63)) = (x.toBitVec.sshiftRight l).toNat := by
    unfold zln9
    rw [e1]
  have e5 : zln9 1 = 1 := by decide +kernel
  rw [e2, e5, Nat.and_one_is_mod]
  have e6 : (x.toBitVec.sshiftRight l).getLsbD 0 = x.toBitVec.getLsbD l := by
    rw [BitVec.getLsbD_sshiftRight]
    simp [h]
  have e3 : (x.toBitVec.sshiftRight l).toNat.testBit 0 = (zln9 x).testBit l := e6
  rw [← e3, Nat.testBit_zero]
  by_cases c : (x.toBitVec.sshiftRight l).toNat % 2 = 1
  · rw [c]
    rfl
  · rw [if_neg (by rw [decide_eq_false c]; decide)]
    omega
theorem zln9_inj {x y : Int64} (h : zln9 x = zln9 y) : x = y := by
  have h1 : x.toBitVec = y.toBitVec := BitVec.eq_of_toNat_eq h
  exact Int64.toBitVec.inj h1
/-- a bit as a long: 1 or 0 -/
theorem zbt2 (x : Int64) {l : Nat} (h : l < 64) : ((x >>> ((Int32.ofNat l).toInt64 &&& 63)) &&& 1) = if (zln9 x).testBit l then 1 else 0 := by
  apply zln9_inj
  rw [zbt1 x h]
  split <;> decide
/-! What a run covers: lines below 60. -/
def zal9 (d : zDat) : Prop := ∀ q, q < zac d → (zaf d q).1 = 0 → (zaf d q).2.2 < 60
theorem zal9.eq {d d' : zDat} (h1 : zac d' = zac d) (h2 : zaf d' = zaf d) : zal9 d → zal9 d' := fun h => by
  unfold zal9
  rw [h1, h2]
  exact h
theorem zal9.add {d d' : zDat} {e : Nat × Nat × Nat} (h1 : zac d' = zac d + 1) (h2 : zaf d' = zup (zaf d) (zac d) e) (he : e.1 = 0 → e.2.2 < 60) : zal9 d → zal9 d' := fun h q hq => by
  rw [h1] at hq
  rw [h2]
  by_cases c : q = zac d
  · rw [c, zup_self]
    exact he
  · rw [zup_ne _ _ c]
    exact h q (by omega)
theorem zia_ne (s : Nat) : zia s ≠ 0 := by
  unfold zia
  repeat' split
  all_goals omega
theorem zal9_st (T : zTS) (y a b m i : Nat) (d : zDat) (κ' : List zSy) (i' : Nat) (d' : zDat) (_ : True) (h : zst T y a b m [] i d = .inl (κ', i', d')) : (∀ z ∈ κ', True) ∧ (zal9 d → zal9 d') := by
  refine ⟨fun _ _ => trivial, ?_⟩
  have inj : ∀ {a a' : List zSy} {b b' : Nat} {c c' : zDat}, (Sum.inl (a, b, c) : zCf) = .inl (a', b', c') → c = c' := fun h => by injection h with h; injection h with h1 h2; injection h2 with h2 h3
  have he : ∀ (d : zDat) (s i m : Nat), zal9 d → zal9 (zemi d s i m) := fun d s i m => zal9.add zac_emi za_zaf_emi (fun q => absurd q (zia_ne s))
  have hs : y = 8 ∨ y = 10 ∨ y = 17 ∨ y = 21 ∨ y = 22 ∨ y = 23 ∨ y = 24 ∨ y = 25 ∨ y = 26 ∨ y = 27 ∨ (y ≠ 8 ∧ y ≠ 10 ∧ y ≠ 17 ∧ y ≠ 21 ∧ y ≠ 22 ∧ y ≠ 23 ∧ y ≠ 24 ∧ y ≠ 25 ∧ y ≠ 26 ∧ y ≠ 27) := by omega
  rcases hs with e | e | e | e | e | e | e | e | e | e | ⟨n8, n10, n17, n21, n22, n23, n24, n25, n26, n27⟩
  · subst e
    simp only [zst] at h
    split at h
    · cases h
    · split at h
      · rename_i hl
        have key : ∀ (k : Int) (t n b : Nat), zal9 d → zal9 (zaddl d k t n b) := fun k t n b => zal9.add zac_addl za_zaf_addl (fun _ => hl)
        split at h
        · rw [← inj h]; exact key _ _ _ _
        · split at h
          · rw [← inj h]; exact key _ _ _ _
          · split at h
            · rw [← inj h]; exact key _ _ _ _
            · rw [← inj h]; exact key _ _ _ _
      · cases h
  · subst e
    simp only [zst] at h
    split at h
    · rw [← inj h]; exact zal9.add zac_go za_zaf_go (fun q => by have q : 15 = 0 := q; omega)
    · rw [← inj h]; exact zal9.eq zac_tgt za_zaf_tgt
  · subst e
    simp only [zst] at h
    split at h
    · rw [← inj h]; exact he _ _ _ _
    · split at h
      · rw [← inj h]; exact he _ _ _ _
      · split at h
        · rw [← inj h]; exact fun g => g
        · split at h
          · rw [← inj h]; exact fun g => g
          · cases h
  · subst e
    simp only [zst] at h
    rw [← inj h]
    exact fun g => he _ _ _ _ (zal9.eq zac_addc za_zaf_addc g)
  · subst e
    simp only [zst] at h
    rw [← inj h]
    exact zal9.add zac_addf za_zaf_addf (fun q => by have q : 16 = 0 := q; omega)
  · subst e
    simp only [zst] at h
    rw [← inj h]
    exact he _ _ _ _
  · subst e
    simp only [zst] at h
    rw [← inj h]
    exact zal9.add zac_ende za_zaf_ende (fun q => by have q : 10 + m = 0 := q; omega)
  · subst e
    simp only [zst] at h
    rw [← inj h]
    exact zal9.add zac_ende za_zaf_ende (fun q => by have q : 13 = 0 := q; omega)
  · subst e
    simp only [zst] at h
    rw [← inj h]
    exact zal9.add zac_ende za_zaf_ende (fun q => by have q : 13 = 0 := q; omega)
  · subst e
    simp only [zst] at h
    rw [← inj h]
    exact zal9.add zac_go za_zaf_go (fun q => by have q : 14 = 0 := q; omega)
  · unfold zst at h
    split at h
    all_goals (try split at h)
    all_goals (try split at h)
    all_goals (try split at h)
    all_goals (try split at h)
    all_goals (try split at h)
    all_goals first
      | (cases h; done)
      | (exact absurd rfl n8)
      | (exact absurd rfl n10)
      | (exact absurd rfl n17)
      | (exact absurd rfl n21)
      | (exact absurd rfl n22)
      | (exact absurd rfl n23)
      | (exact absurd rfl n24)
      | (exact absurd rfl n25)
      | (exact absurd rfl n26)
      | (exact absurd rfl n27)
      | (rw [← inj h]; exact zal9.eq rfl rfl)
theorem zal9.of {T : zTS} {i : Nat} {d : zDat} (h : zRe T (.inl ([(1, 0, 0, 0), (0, 0, 0, 0)], 0, zd0)) (.inl ([], i, d))) : zal9 d := by
  obtain ⟨n, hn⟩ := h
  exact zit_clS (P := fun _ => True) (R := fun d d' => zal9 d → zal9 d') (fun _ h => h) (fun _ _ _ h g q => g (h q)) (zal9_st T) n _ _ _ _ _ _ (fun _ _ => trivial) hn (fun q hq => by
    have e : zac zd0 = 0 := rfl
    omega)
theorem v_bit_lt : ∀ l, l < 60 → zln9 (v_bit l) < 2 ^ 60 := by decide +kernel
/-- lines below 60, and a call at least -/
def zLw (m : zVm) : Prop := zln9 (vcv m) < 2 ^ 60 ∧ 1 ≤ vmx m
def zCM (m m' : zVm) : Prop := vcv m' = vcv m ∧ vmx m ≤ vmx m'
theorem zCM.tr {a b c : zVm} (h : zCM a b) (g : zCM b c) : zCM a c := ⟨g.1.trans h.1, Nat.le_trans h.2 g.2⟩
theorem zLw.cm {m m' : zVm} (h : zLw m) (g : zCM m m') : zLw m' := ⟨by rw [g.1]; exact h.1, Nat.le_trans h.2 g.2⟩
theorem zCM.push {m : zVm} {x : Int32} : zCM m (v_push m x) := by
  unfold v_push
  split
  · exact ⟨rfl, Nat.le_refl _⟩
  · exact ⟨rfl, Nat.le_refl _⟩
theorem zCM.put {m : zVm} {k : Int} {x : Int32} : zCM m (v_put m k x) := by
  unfold v_put
  split
  · exact ⟨rfl, Nat.le_refl _⟩
  · exact ⟨rfl, Nat.le_refl _⟩
theorem zCM.spend {m : zVm} {f : Int} : zCM m (v_spend f m) := by
  unfold v_spend
  split
  · exact ⟨rfl, Nat.le_refl _⟩
  · exact ⟨rfl, Nat.le_refl _⟩
theorem zCM.tk1 {pg : zPg} {f n : Nat} {m : zVm} : zCM m (v_tk1 pg f n m) := by
  have h := zCM.put (m := v_pop m) (k := pg.2.1 f n) (x := v_top m)
  exact ⟨h.1, h.2⟩
theorem zCM.take {pg : zPg} {f : Nat} : ∀ (n : Nat) (m : zVm), zCM m (v_take pg f n m)
  | 0, _ => ⟨rfl, Nat.le_refl _⟩
  | n + 1, m => zCM.tr zCM.tk1 (zCM.take n _)
theorem zCM.enter {pg : zPg} {f : Int} {m : zVm} : zCM m (v_enter pg f m) := by
  unfold v_enter
  split
  · exact ⟨rfl, Nat.le_refl _⟩
  · split
    · have h := zCM.take (pg := pg) (f := f.toNat) (pg.1.2 f.toNat) (v_room m)
      exact ⟨h.1, Nat.le_trans (Nat.le_max_left _ _) h.2⟩
    · exact ⟨rfl, Nat.le_refl _⟩
theorem zCM.leave {w : Int32} {m : zVm} : zCM m (v_leave w m) := by
  by_cases c : vdp m ≤ 1
  · rw [zv_leave1 c]
    exact ⟨rfl, Nat.le_refl _⟩
  · rw [zv_leave2 (by omega)]
    have h := zCM.push (m := v_go (v_dp m (vdp m - 1)) (vbk m (vdp m - 1))) (x := w)
    exact ⟨h.1, h.2⟩
theorem zLw.obey {R fuel : Int} {pg : zPg} {x : Nat × Int × Nat} {m : zVm} (h : zLw m) (hx : x.1 = 0 → x.2.2 < 60) : zLw (v_obey R fuel pg x m) := by
  obtain ⟨a, n, l⟩ := x
  have ha : a = 0 ∨ a = 1 ∨ a = 2 ∨ a = 9 ∨ a = 10 ∨ a = 11 ∨ a = 12 ∨ a = 13 ∨ a = 14 ∨ a = 15 ∨ a = 16 ∨ (3 ≤ a ∧ (a ≤ 8 ∨ 17 ≤ a)) := by omega
  rcases ha with e | e | e | e | e | e | e | e | e | e | e | e
  · subst e
    have hl : l < 60 := hx rfl
    have g := zCM.spend (m := m) (f := fuel)
    rw [zv_ob0]
    unfold v_begin
    dsimp only
    split
    · refine ⟨?_, Nat.le_trans h.2 g.2⟩
      show zln9 (vcv (v_spend fuel m) ||| v_bit l) < 2 ^ 60
      rw [g.1, zln9_or]
      exact Nat.or_lt_two_pow h.1 (v_bit_lt l hl)
    · exact h.cm g
  · subst e
    exact h.cm zCM.push
  · subst e
    exact h.cm zCM.push
  · subst e
    exact h.cm zCM.enter
  · subst e
    have g := zCM.put (m := v_note (v_pop m) (Int32.ofNat l) (Int32.ofInt n) (v_get m n) (v_top m)) (k := n) (x := v_top m)
    exact h.cm ⟨g.1, g.2⟩
  · subst e
    exact h
  · subst e
    have g := zCM.leave (m := v_note (v_pop m) (Int32.ofNat l) (-1) 0 (v_top m)) (w := v_top m)
    exact h.cm ⟨g.1, g.2⟩
  · subst e
    rw [zv_ob13]
    unfold v_branch
    dsimp only
    split
    · exact h
    · exact h
  · subst e
    rw [zv_ob14]
    unfold v_again
    split
    · exact h
    · dsimp only
      split
      · exact h.cm ⟨zCM.spend.1, zCM.spend.2⟩
      · exact h.cm zCM.spend
  · subst e
    exact h
  · subst e
    exact h.cm zCM.leave
  · rw [zv_obe e]
    have g := zCM.push (m := v_pop (v_pop m)) (x := v_both R a (v_top (v_pop m)) (v_top m))
    exact h.cm ⟨g.1, g.2⟩
theorem zLw.run {R fuel : Int} {pg : zPg} {A : Nat → Nat × Int × Nat} {n : Nat} (hA : ∀ q, q < n → (A q).1 = 0 → (A q).2.2 < 60) : ∀ (j : Nat) {m : zVm}, zLw m → zLw (v_run R fuel pg A n j m)
  | 0, _, h => h
  | j + 1, m, h => by
    refine zLw.run hA j ?_
    unfold v_turn
    split
    · rename_i c
      exact zLw.obey (m := v_go m (vnx m + 1)) h (hA _ c.2)
    · exact h
