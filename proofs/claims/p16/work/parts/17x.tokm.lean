/-! The reference's token, beside the stream. -/
theorem z255b {x z : Int32} (b : zB (-128) 127 x) (e : z = x &&& 255) : (0 ≤ x.toInt ∧ z.toInt = x.toInt) ∨ (x.toInt < 0 ∧ z.toInt = x.toInt + 256) := by
  have e0 : x = Int32.ofInt x.toInt := (Int32.ofInt_toInt x).symm
  have key : ∀ j : Nat, j < 256 → (0 ≤ (j : Int) - 128 ∧ (Int32.ofInt ((j : Int) - 128) &&& 255).toInt = (j : Int) - 128) ∨ ((j : Int) - 128 < 0 ∧ (Int32.ofInt ((j : Int) - 128) &&& 255).toInt = (j : Int) - 128 + 256) := by decide +kernel
  have h1 := b.1
  have h2 := b.2
  have := key (x.toInt + 128).toNat (by omega)
  have e2 : (((x.toInt + 128).toNat : Nat) : Int) - 128 = x.toInt := by omega
  rw [e2, ← e0, ← e] at this
  exact this
theorem zw_step {f : Int → Int} {a : Int} {m : Nat} {g0 g1 g2 g : Int64} {x : Int32} (h : g0.toInt = zwI f a m) (hl : ∀ j : Nat, j < m → 97 ≤ f (a + j) ∧ f (a + j) ≤ 122) (hm : m < 8) (e1 : g1 = 32 * g0) (e2 : g2 = x.toInt64) (e3 : g = g1 + g2) (hx : x.toInt = f (a + m) - 96) (hx2 : 97 ≤ f (a + m) ∧ f (a + m) ≤ 122) : g.toInt = zwI f a (m + 1) := by
  have h0 := zwI_0 hl
  have h1 := zwI_lt hl (by omega)
  have b1 : g1.toInt = 32 * g0.toInt := by
    rw [e1, Int64.toInt_mul]
    have e32 : (32 : Int64).toInt = 32 := by decide
    rw [e32]
    rw [Int.bmod_eq_of_le] <;> omega
  have b2 : g2.toInt = x.toInt := by rw [e2, Int32.toInt_toInt64]
  show g.toInt = 32 * zwI f a m + (f (a + m) - 96)
  rw [e3, Int64.toInt_add, b1, b2, h, hx]
  rw [Int.bmod_eq_of_le] <;> omega
def zMk (so mk le wd K W : Int) : Prop := (so = 1 ∧ K = 0) ∨ (so = 0 ∧ K = 1) ∨ (so = 3 ∧ K = 2) ∨ (so = 4 ∧ mk = K ∧ 40 ≤ K ∧ K ≤ 125) ∨ (so = 2 ∧ wd = W ∧ le = zsz W ∧ ((le = 1 ∧ 1 ≤ W ∧ W ≤ 26 ∧ ((W ≤ 8 ∧ K = 3) ∨ (8 < W ∧ K = 1))) ∨ (2 ≤ le ∧ ((W = 4262 ∧ K = 5) ∨ (W = 19513 ∧ K = 6) ∨ (W = 609900110 ∧ K = 7) ∨ (W = 294 ∧ K = 8) ∨ (W = 176741 ∧ K = 9) ∨ (W = 24388997 ∧ K = 10) ∨ (W ≠ 4262 ∧ W ≠ 19513 ∧ W ≠ 609900110 ∧ W ≠ 294 ∧ W ≠ 176741 ∧ W ≠ 24388997 ∧ K = 4)))))
/-- the fields of token i -/
def zMt0 (F : Nat → va_E) (th : Nat) (B : Nat → Int32) (n i : Nat) : Prop := ∃ (a so pl mk le : Int32) (wd : Int64), zfld F th 13 = .int a ∧ zfld F th 14 = .int so ∧ zfld F th 15 = .int pl ∧ zfld F th 16 = .int mk ∧ zfld F th 18 = .int le ∧ zfld F th 21 = .long wd ∧ a.toInt = zte B n (zpo B n i) ∧ pl.toInt = zpo B n i ∧ zMk so.toInt mk.toInt le.toInt wd.toInt ((zTo B n).1 i) ((zTo B n).2.2 i)
theorem zMt0.fr {Γ : Nat → Option Nat} {M : List Nat} {F u : Nat → va_E} {th n i : Nat} {B : Nat → Int32} (h : zMt0 F th B n i) (hf : zFr Γ M F u) (ht : Γ th = some 14) (hM : ∀ j ∈ [13, 14, 15, 16, 18, 21], 1400 + j ∉ M) : zMt0 u th B n i := by
  obtain ⟨a, so, pl, mk, le, wd, e1, e2, e3, e4, e5, e6, r⟩ := h
  have g : ∀ (j : Nat) (v : Value), j ∈ [13, 14, 15, 16, 18, 21] → zfld F th j = v → zfld u th j = v := fun j v hj hv => hf.f ht j ⟨by decide, hM j hj⟩ hv
  exact ⟨a, so, pl, mk, le, wd, g _ _ (by decide) e1, g _ _ (by decide) e2, g _ _ (by decide) e3, g _ _ (by decide) e4, g _ _ (by decide) e5, g _ _ (by decide) e6, r⟩
/-- a WHOLE's value -/
def zNu (F : Nat → va_E) (th : Nat) (B : Nat → Int32) (n i : Nat) : Prop := ∃ so nu : Int32, zfld F th 14 = .int so ∧ zfld F th 17 = .int nu ∧ (so.toInt = 3 → nu.toInt = zvl B n i)
def zMt (F : Nat → va_E) (th : Nat) (B : Nat → Int32) (n i : Nat) : Prop := zMt0 F th B n i ∧ zNu F th B n i
theorem zMt.fr {Γ : Nat → Option Nat} {M : List Nat} {F u : Nat → va_E} {th n i : Nat} {B : Nat → Int32} (h : zMt F th B n i) (hf : zFr Γ M F u) (ht : Γ th = some 14) (hM : ∀ j ∈ [13, 14, 15, 16, 17, 18, 21], 1400 + j ∉ M) : zMt u th B n i := by
  obtain ⟨h0, so, nu, h1, h2, h3⟩ := h
  refine ⟨h0.fr hf ht (fun j hj => hM j ?_), so, nu, hf.f ht 14 ⟨by decide, hM 14 (by decide)⟩ h1, hf.f ht 17 ⟨by decide, hM 17 (by decide)⟩ h2, h3⟩
  have key : ∀ j ∈ [13, 14, 15, 16, 18, 21], j ∈ [13, 14, 15, 16, 17, 18, 21] := by decide
  exact key j hj
theorem zdig_in {B : Nat → Int32} {n : Nat} {a x j : Int} (hz : zend (zDg B n) n x = zte B n a) (h : 48 ≤ zby B n a ∧ zby B n a ≤ 57) (hx : 48 ≤ zby B n x ∧ zby B n x ≤ 57) (h1 : a ≤ j) (h2 : j ≤ x) : 48 ≤ zby B n j ∧ zby B n j ≤ 57 := by
  have e1 := zend_step (p := zDg B n) (n := n) zDg_n (zDg_of hx)
  have e2 := zend_le (zDg B n) n (x + 1)
  have e3 := zte_d0 (B := B) (n := n) h
  exact of_decide_eq_true (zend_in (p := zDg B n) (n := n) (a := a) h1 (by omega))
section
variable {B : Nat → Int32} {n : Nat} {a x so mk le wd : Int}
theorem zM_end (hn : (n : Int) ≤ a) (hs : so = 1) : zte B n a = a ∧ ∀ W, zMk so mk le wd (zka B n a) W := by
  have e : zby B n a = -1 := zby_n hn
  refine ⟨?_, fun W => Or.inl ⟨hs, zka_0 hn⟩⟩
  rw [zte_s (by omega) (by omega)]
  exact if_neg (by unfold zsg; omega)
theorem zM_bad (hn : a < n) (h1 : zby B n a < 97 ∨ 122 < zby B n a) (h2 : zby B n a < 48 ∨ 57 < zby B n a) (h3 : ¬ zsg (zby B n a)) (hs : so = 0) : zte B n a = a ∧ ∀ W, zMk so mk le wd (zka B n a) W := by
  refine ⟨?_, fun W => Or.inr (Or.inl ⟨hs, zka_o hn ((zwa_s h1 h2).2 h3)⟩)⟩
  rw [zte_s h1 h2]
  exact if_neg h3
theorem zM_mark (hn : a < n) (h1 : zby B n a < 97 ∨ 122 < zby B n a) (h2 : zby B n a < 48 ∨ 57 < zby B n a) (h3 : zsg (zby B n a)) (hs : so = 4) (hm : mk = zby B n a) : zte B n a = a + 1 ∧ ∀ W, zMk so mk le wd (zka B n a) W := by
  refine ⟨?_, fun W => Or.inr (Or.inr (Or.inr (Or.inl ?_)))⟩
  · rw [zte_s h1 h2]
    exact if_pos h3
  · rw [zka_s hn h1 h2 (by rw [(zwa_s h1 h2).1 h3]; omega)]
    unfold zsg at h3
    exact ⟨hs, hm, by omega, by omega⟩
theorem zM_dig (hn : a < n) (h : 48 ≤ zby B n a ∧ zby B n a ≤ 57) (e : zte B n a = x) (hs : (x - a < 6 ∧ so = 3) ∨ (6 ≤ x - a ∧ so = 0)) : ∀ W, zMk so mk le wd (zka B n a) W := by
  have h1 := zwa_d h e
  have h3 := zte_d0 h
  have h4 := zend_step zDg_n (zDg_of h)
  have h5 := zend_le (zDg B n) n (a + 1)
  intro W
  rcases hs with ⟨q, hs⟩ | ⟨q, hs⟩
  · exact Or.inr (Or.inr (Or.inl ⟨hs, zka_d hn h (by rw [h1.1 (by omega)]; omega)⟩))
  · exact Or.inr (Or.inl ⟨hs, zka_o hn (h1.2 (by omega))⟩)
theorem zM_let (hn : a < n) (h : 97 ≤ zby B n a ∧ zby B n a ≤ 122) (e : zte B n a = x) (hs : (x - a ≤ 8 ∧ so = 2) ∨ (8 < x - a ∧ so = 0)) (hl : le = x - a) (hw : x - a ≤ 8 → wd = zwI (zby B n) a (x - a).toNat) : zMk so mk le wd (zka B n a) (zwI (zby B n) a (zte B n a - a).toNat) := by
  have h1 := zwa_l h e
  have h3 := zte_l0 h
  have h4 := zend_step zLt_n (zLt_of h)
  have h5 := zend_le (zLt B n) n (a + 1)
  rcases hs with ⟨q, hs⟩ | ⟨q, hs⟩
  · have hw := hw q
    have e1 := h1.1 q
    rw [e, ← hw]
    refine Or.inr (Or.inr (Or.inr (Or.inr ⟨hs, rfl, by
      have hz := zword (zLt_of h)
      rw [e] at hz
      rw [hl, hw, zsz_I hz (by omega)]
      omega, ?_⟩)))
    by_cases c : x - a = 1
    · have k := zka_1 h (by omega)
      rw [c] at hw
      have e2 : wd = zby B n a - 96 := by
        rw [hw]
        show 32 * 0 + (zby B n (a + ((0 : Nat) : Int)) - 96) = _
        have e : a + ((0 : Nat) : Int) = a := by omega
        rw [e]
        omega
      refine Or.inl ⟨by omega, by omega, by omega, ?_⟩
      by_cases c2 : zby B n a ≤ 104
      · exact Or.inl ⟨by omega, k.1 c2⟩
      · exact Or.inr ⟨by omega, k.2 (by omega)⟩
    · have k := zka_wd h ⟨by omega, by omega⟩
      rw [e1, ← hw] at k
      refine Or.inr ⟨by omega, ?_⟩
      rw [k]
      unfold zwk
      repeat' (first | split | omega)
  · exact Or.inr (Or.inl ⟨hs, zka_o hn (h1.2 q)⟩)
end
