/-! The tape: what the reference's feed writes. -/
def zpk (a b c d e : Int32) (k : Int) : Int32 := if k < 4 then a else if k < 8 then b else if k < 12 then c else if k < 16 then d else e
def zfm (f : Nat → Int32) (p : Int) (a b c d e : Int32) (m : Int) : Nat → Int32 := fun i => if p ≤ (i : Int) ∧ (i : Int) < p + m then zbyt (zpk a b c d e ((i : Int) - p)) (Int32.ofInt (24 - 8 * (((i : Int) - p) % 4))) else f i
theorem zpk_a {a b c d e : Int32} {k : Int} (h : k < 4) : zpk a b c d e k = a := if_pos h
theorem zpk_b {a b c d e : Int32} {k : Int} (h : 4 ≤ k ∧ k < 8) : zpk a b c d e k = b := (if_neg (by omega)).trans (if_pos h.2)
theorem zpk_c {a b c d e : Int32} {k : Int} (h : 8 ≤ k ∧ k < 12) : zpk a b c d e k = c := (if_neg (by omega)).trans ((if_neg (by omega)).trans (if_pos h.2))
theorem zpk_d {a b c d e : Int32} {k : Int} (h : 12 ≤ k ∧ k < 16) : zpk a b c d e k = d := (if_neg (by omega)).trans ((if_neg (by omega)).trans ((if_neg (by omega)).trans (if_pos h.2)))
theorem zpk_e {a b c d e : Int32} {k : Int} (h : 16 ≤ k) : zpk a b c d e k = e := (if_neg (by omega)).trans ((if_neg (by omega)).trans ((if_neg (by omega)).trans (if_neg (by omega))))
theorem zfm_0 {f : Nat → Int32} {p m : Int} {a b c d e : Int32} (h : m = 0) : zfm f p a b c d e m = f := by
  funext i
  unfold zfm
  rw [if_neg (by omega)]
theorem zfm_s {f : Nat → Int32} {F F1 : Nat → va_E} {t : Nat} {p m m' : Int} {a b c d e x sh i v : Int32} (h : zel F t = zfm f p a b c d e m) (ev : zel F1 t i.toNatClampNeg = vp_nar .byte v) (hv : v = (x >>> (sh &&& 31)).toInt8.toInt32) (hx : x = zpk a b c d e m) (g : ∀ b j : Nat, (b ≠ t ∨ j ≠ i.toNatClampNeg) → zel F1 b j = zel F b j) (hi : i.toInt = p + m) (h0 : 0 ≤ i.toInt) (hm : 0 ≤ m) (hm' : m' = m + 1) (hs : sh.toInt = 24 - 8 * (m % 4)) : zel F1 t = zfm f p a b c d e m' := by
  have ei : (i.toNatClampNeg : Int) = i.toInt := z_cl h0
  funext q
  by_cases c : q = i.toNatClampNeg
  · subst c
    rw [ev, hv]
    unfold zfm
    rw [if_pos (by omega)]
    unfold zbyt
    rw [show ((i.toNatClampNeg : Nat) : Int) - p = m by omega, ← hx, ← hs, Int32.ofInt_toInt]
  · rw [g t q (Or.inr c), h]
    unfold zfm
    by_cases c2 : p ≤ (q : Int) ∧ (q : Int) < p + m
    · rw [if_pos c2, if_pos (by omega)]
    · rw [if_neg c2, if_neg (by omega)]
theorem zf4_in {f : Nat → Int32} {p m : Int} {x : Int32} {i : Nat} (h : p ≤ (i : Int) ∧ (i : Int) < p + m) : zf4 f p x m i = zbyt x (Int32.ofInt (24 - 8 * ((i : Int) - p))) := if_pos h
theorem zf4_ou {f : Nat → Int32} {p m : Int} {x : Int32} {i : Nat} (h : ¬ (p ≤ (i : Int) ∧ (i : Int) < p + m)) : zf4 f p x m i = f i := if_neg h
theorem zfm_in {f : Nat → Int32} {p m : Int} {a b c d e : Int32} {i : Nat} (h : p ≤ (i : Int) ∧ (i : Int) < p + m) : zfm f p a b c d e m i = zbyt (zpk a b c d e ((i : Int) - p)) (Int32.ofInt (24 - 8 * (((i : Int) - p) % 4))) := if_pos h
theorem zfm_ou {f : Nat → Int32} {p m : Int} {a b c d e : Int32} {i : Nat} (h : ¬ (p ≤ (i : Int) ∧ (i : Int) < p + m)) : zfm f p a b c d e m i = f i := if_neg h
theorem zfm_20 {f : Nat → Int32} {p : Int} {a b c d e : Int32} : zfm f p a b c d e 20 = zf20 f p a b c d e := by
  funext i
  unfold zf20
  by_cases c0 : p ≤ (i : Int) ∧ (i : Int) < p + 20
  · rw [zfm_in c0]
    by_cases c1 : (i : Int) < p + 4
    · rw [zf4_ou (by omega), zf4_ou (by omega), zf4_ou (by omega), zf4_ou (by omega), zf4_in (by omega), zpk_a (by omega), show ((i : Int) - p) % 4 = (i : Int) - p by omega]
    · by_cases c2 : (i : Int) < p + 8
      · rw [zf4_ou (by omega), zf4_ou (by omega), zf4_ou (by omega), zf4_in (by omega), zpk_b (by omega), show ((i : Int) - p) % 4 = (i : Int) - (p + 4) by omega]
      · by_cases c3 : (i : Int) < p + 12
        · rw [zf4_ou (by omega), zf4_ou (by omega), zf4_in (by omega), zpk_c (by omega), show ((i : Int) - p) % 4 = (i : Int) - (p + 8) by omega]
        · by_cases c4 : (i : Int) < p + 16
          · rw [zf4_ou (by omega), zf4_in (by omega), zpk_d (by omega), show ((i : Int) - p) % 4 = (i : Int) - (p + 12) by omega]
          · rw [zf4_in (by omega), zpk_e (by omega), show ((i : Int) - p) % 4 = (i : Int) - (p + 16) by omega]
  · rw [zfm_ou c0, zf4_ou (by omega), zf4_ou (by omega), zf4_ou (by omega), zf4_ou (by omega), zf4_ou (by omega)]
theorem zsh {k x y z : Int32} (hk : zB 0 19 k) (ex : x = k - k / 4 * 4) (ey : y = 8 * x) (ez : z = 24 - y) : z.toInt = 24 - 8 * (k.toInt % 4) := by
  have e0 : k = Int32.ofInt k.toInt := (Int32.ofInt_toInt k).symm
  have key : ∀ j : Nat, j < 20 → ((24 : Int32) - 8 * (Int32.ofInt (j : Int) - Int32.ofInt (j : Int) / 4 * 4)).toInt = 24 - 8 * ((j : Int) % 4) := by decide +kernel
  have h1 := hk.1
  have h2 := hk.2
  have := key k.toInt.toNat (by omega)
  rw [show ((k.toInt.toNat : Nat) : Int) = k.toInt by omega, ← e0] at this
  rw [ez, ey, ex]
  exact this
