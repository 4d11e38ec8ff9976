/-! The tape: what feed writes. -/
def zbyt (x sh : Int32) : Int32 := vp_nar .byte ((x >>> (sh &&& 31)).toInt8.toInt32)
/-- m bytes of x from p on -/
def zf4 (f : Nat → Int32) (p : Int) (x : Int32) (m : Int) : Nat → Int32 := fun i => if p ≤ (i : Int) ∧ (i : Int) < p + m then zbyt x (Int32.ofInt (24 - 8 * ((i : Int) - p))) else f i
theorem zf4_0 {f : Nat → Int32} {p m : Int} {x : Int32} (h : m = 0) : zf4 f p x m = f := by
  funext i
  unfold zf4
  rw [if_neg (by omega)]
theorem zf4_s {f : Nat → Int32} {F F1 : Nat → va_E} {a : Nat} {p m m' : Int} {x sh i v : Int32} (h : zel F a = zf4 f p x m) (e : zel F1 a i.toNatClampNeg = vp_nar .byte v) (hv : v = (x >>> (sh &&& 31)).toInt8.toInt32) (g : ∀ b j : Nat, (b ≠ a ∨ j ≠ i.toNatClampNeg) → zel F1 b j = zel F b j) (hi : i.toInt = p + m) (h0 : 0 ≤ i.toInt) (hm : 0 ≤ m) (hm' : m' = m + 1) (hs : sh.toInt = 24 - 8 * m) : zel F1 a = zf4 f p x m' := by
  have ei : (i.toNatClampNeg : Int) = i.toInt := z_cl h0
  funext q
  by_cases c : q = i.toNatClampNeg
  · subst c
    rw [e, hv]
    unfold zf4
    rw [if_pos (by omega)]
    unfold zbyt
    have es : Int32.ofInt (24 - 8 * ((i.toNatClampNeg : Int) - p)) = sh := by
      rw [show (24 - 8 * ((i.toNatClampNeg : Int) - p)) = sh.toInt by omega]
      exact Int32.ofInt_toInt sh
    rw [es]
  · rw [g a q (Or.inr c), h]
    unfold zf4
    by_cases c2 : p ≤ (q : Int) ∧ (q : Int) < p + m
    · rw [if_pos c2, if_pos (by omega)]
    · rw [if_neg c2, if_neg (by omega)]
/-- the twenty bytes of five numbers -/
def zf20 (f : Nat → Int32) (p : Int) (a b c d e : Int32) : Nat → Int32 := zf4 (zf4 (zf4 (zf4 (zf4 f p a 4) (p + 4) b 4) (p + 8) c 4) (p + 12) d 4) (p + 16) e 4
