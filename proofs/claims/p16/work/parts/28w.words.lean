/-! What program leaves of the reference. -/
def zMyk (u : Nat → va_E) (th sp : Nat) (T : zTS) (d : zDat) : Prop := zfld u th 4 = .ref sp ∧ zfld u th 7 = .int 1 ∧ zfld u th 32 = .int 0 ∧ zRM u sp T d ∧ ∀ f, f < zfc d → zBits (zar u sp 9 f) (zcb T d f)
def zMyn (F u : Nat → va_E) (th pr : Nat) : Prop := zfld u th 4 = .ref pr ∧ zfld u th 7 = zfld F th 7 ∧ zfld u th 32 = zfld F th 32
def zMyg (u : Nat → va_E) (th pr : Nat) (iz : Int32) : Prop := zfld u th 5 = .ref pr ∧ zfld u th 8 = .int iz
def zMyh (F u : Nat → va_E) (th pq : Nat) : Prop := zfld u th 5 = .ref pq ∧ zfld u th 8 = zfld F th 8
theorem zfind_no {W : Nat → Int} {nm : Nat → Nat} {w : Int} : ∀ {n : Nat}, zfind W nm w n = none → ∀ f, f < n → W (nm f) ≠ w
  | 0, _, f, h => by omega
  | n + 1, h, f, hf => by
    cases e : zfind W nm w n with
    | some g => rw [zfind_k e (n + 1) (by omega)] at h; cases h
    | none =>
      rw [zfind_s e] at h
      by_cases c : W (nm n) = w
      · rw [if_pos c] at h; cases h
      · by_cases c9 : f = n
        · rw [c9]; exact c
        · exact zfind_no e f (by omega)
theorem zsq_b (k w : Int) : 0 ≤ zsq k w ∧ zsq k w ≤ 1 := by
  by_cases c : k ≤ w
  · rw [zsq_1 c]; decide
  · rw [zsq_0 (by omega)]; decide
theorem zsz_8 (w : Int) : 0 ≤ zsz w ∧ zsz w ≤ 8 := by
  have h1 := zsq_b 1 w
  have h2 := zsq_b 32 w
  have h3 := zsq_b 1024 w
  have h4 := zsq_b 32768 w
  have h5 := zsq_b 1048576 w
  have h6 := zsq_b 33554432 w
  have h7 := zsq_b 1073741824 w
  have h8 := zsq_b 34359738368 w
  unfold zsz
  omega
theorem z_m5 {x y : Int32} (e : y = 5 * x) (h : 0 ≤ x.toInt ∧ x.toInt ≤ 7) : y.toInt = 5 * x.toInt := by
  rw [e, Int32.toInt_mul, show (5 : Int32).toInt = 5 by decide]
  rw [Int.bmod_eq_of_le] <;> omega
theorem z_dig {w g1 g2 : Int64} {s x : Int32} {j : Nat} (h0 : 0 ≤ w.toInt) (hj : j < 8) (hs : s.toInt = 5 * (j : Int)) (e1 : g1 = w >>> (s.toInt64 &&& 63)) (e2 : g2 = g1 &&& 31) (e3 : x = g2.toInt32) : x.toInt = w.toInt / (32 : Int) ^ j % 32 := by
  have key : ∀ k : Nat, k < 36 → (((Int32.ofNat k).toInt64 &&& 63).toBitVec.smod 64).toNat = k := by decide +kernel
  have es : s = Int32.ofNat (5 * j) := by
    apply Int32.toInt_inj.mp
    rw [hs, Int32.toInt_ofNat_of_lt (by omega)]
    omega
  have a1 : g1.toInt = w.toInt / (32 : Int) ^ j := by
    have h1 : g1.toInt = w.toInt >>> (5 * j) := by
      show g1.toBitVec.toInt = _
      rw [e1, Int64.toBitVec_shiftRight, es]
      show (w.toBitVec.sshiftRight (((Int32.ofNat (5 * j)).toInt64 &&& 63).toBitVec.smod 64).toNat).toInt = _
      rw [key (5 * j) (by omega), BitVec.toInt_sshiftRight]
      rfl
    rw [h1, Int.shiftRight_eq_div_pow]
    congr 1
    have hp : ∀ k : Nat, k < 8 → (((2 ^ (5 * k) : Nat)) : Int) = (32 : Int) ^ k := by decide
    exact hp j hj
  have b1 : 0 ≤ g1.toInt := by
    rw [a1]
    exact Int.ediv_nonneg h0 (Int.le_of_lt (Int.pow_pos (by decide)))
  have n1 : g1.toInt = (g1.toBitVec.toNat : Int) := by
    have h2 : g1.toInt = g1.toBitVec.toInt := rfl
    rw [h2] at b1 ⊢
    rw [BitVec.toInt_eq_toNat_cond] at b1 ⊢
    split
    · rfl
    · rename_i c
      rw [if_neg c] at b1
      have := g1.toBitVec.isLt
      omega
  have n2 : g2.toBitVec.toNat = g1.toBitVec.toNat % 32 := by
    rw [e2, Int64.toBitVec_and, BitVec.toNat_and]
    exact Nat.and_two_pow_sub_one_eq_mod _ 5
  have a2 : g2.toInt = g1.toInt % 32 := by
    have h2 : g2.toInt = g2.toBitVec.toInt := rfl
    rw [h2, BitVec.toInt_eq_toNat_cond, n2, n1]
    have := Nat.mod_lt g1.toBitVec.toNat (show 0 < 32 by decide)
    rw [if_pos (by omega)]
    omega
  rw [z_l2i e3 (by rw [a2]; omega), a2, a1]
theorem z_digz {w g1 g2 : Int64} {s x r : Int32} {m i : Int} (h0 : 0 ≤ w.toInt) (hm : m = zsz w.toInt) (hi : 0 ≤ i ∧ i < m) (hs : s.toInt = 5 * (m - 1 - i)) (e1 : g1 = w >>> (s.toInt64 &&& 63)) (e2 : g2 = g1 &&& 31) (e3 : x = g2.toInt32) (er : r = 96 + x) : r.toInt = zdg w.toInt i := by
  have h8 := zsz_8 w.toInt
  have hd := z_dig (j := (m - 1 - i).toNat) h0 (by omega) (by omega) e1 e2 e3
  have h9 : 0 ≤ x.toInt ∧ x.toInt < 32 := by
    rw [hd]
    exact ⟨Int.emod_nonneg _ (by decide), Int.emod_lt_of_pos _ (by decide)⟩
  have e9 : r.toInt = 96 + x.toInt := by
    rw [er, Int32.toInt_add, show (96 : Int32).toInt = 96 by decide]
    rw [Int.bmod_eq_of_le] <;> omega
  unfold zdg
  rw [e9, hd, hm]
