/-! The class's tokens: the words of their methods. -/
theorem z_ad {Γ : Nat → Option Nat} {k : Nat → ClassId} {L : List Nat} {F : Nat → va_E} {a t j c : Nat} (hI : zInv Γ k L F) (ha : Γ a = some t) (ht : t < 100) (hq : (zsp t)[j]? = some (2, ((c : Nat) : Int), 0)) : zAd Γ F a j c := by
  obtain ⟨-, hO, -⟩ := hI a t ha
  obtain ⟨fs, hF, hlen, hall⟩ := hO ht
  exact hall j _ hq
section
variable {B : Nat → Int32} {n : Nat} {a x x' q : Int}
theorem zLt_of (h : 97 ≤ zby B n x ∧ zby B n x ≤ 122) : zLt B n x = true := decide_eq_true h
theorem zLt_no (h : zby B n x < 97 ∨ 122 < zby B n x) : zLt B n x = false := decide_eq_false (by omega)
theorem zDg_of (h : 48 ≤ zby B n x ∧ zby B n x ≤ 57) : zDg B n x = true := decide_eq_true h
theorem zDg_no (h : zby B n x < 48 ∨ 57 < zby B n x) : zDg B n x = false := decide_eq_false (by omega)
theorem zte_l0 (h : 97 ≤ zby B n a ∧ zby B n a ≤ 122) : zte B n a = zend (zLt B n) n a := if_pos (zLt_of h)
theorem zte_d0 (h : 48 ≤ zby B n a ∧ zby B n a ≤ 57) : zte B n a = zend (zDg B n) n a := (if_neg (by rw [zLt_no (Or.inl (by omega))]; decide)).trans (if_pos (zDg_of h))
theorem zte_l1 (h : 97 ≤ zby B n a ∧ zby B n a ≤ 122) (e : x = a + 1) : zend (zLt B n) n x = zte B n a := by
  rw [zte_l0 h, zend_step zLt_n (zLt_of h), e]
theorem zte_d1 (h : 48 ≤ zby B n a ∧ zby B n a ≤ 57) (e : x = a + 1) : zend (zDg B n) n x = zte B n a := by
  rw [zte_d0 h, zend_step zDg_n (zDg_of h), e]
theorem zend_l2 (h : zend (zLt B n) n x = q) (hl : 97 ≤ zby B n x ∧ zby B n x ≤ 122) (e : x' = x + 1) : zend (zLt B n) n x' = q := by
  rw [← h, zend_step zLt_n (zLt_of hl), e]
theorem zend_d2 (h : zend (zDg B n) n x = q) (hl : 48 ≤ zby B n x ∧ zby B n x ≤ 57) (e : x' = x + 1) : zend (zDg B n) n x' = q := by
  rw [← h, zend_step zDg_n (zDg_of hl), e]
theorem zend_l3 (h : zend (zLt B n) n x = q) (hl : (n : Int) ≤ x ∨ zby B n x < 97 ∨ 122 < zby B n x) : q = x := by
  rw [← h]
  refine zend_stop zLt_n ?_
  rcases hl with hl | hl
  · exact zLt_n _ hl
  · exact zLt_no hl
theorem zend_d3 (h : zend (zDg B n) n x = q) (hl : (n : Int) ≤ x ∨ zby B n x < 48 ∨ 57 < zby B n x) : q = x := by
  rw [← h]
  refine zend_stop zDg_n ?_
  rcases hl with hl | hl
  · exact zDg_n _ hl
  · exact zDg_no hl
theorem zwa_l (h : 97 ≤ zby B n a ∧ zby B n a ≤ 122) (e : zte B n a = x) : (x - a ≤ 8 → zwa B n a = x - a) ∧ (8 < x - a → zwa B n a = 0) := by
  have h1 := zLt_of h
  have h2 := zDg_no (B := B) (n := n) (x := a) (by omega)
  constructor
  · intro h3
    unfold zwa
    rw [if_neg (by rw [h1, h2, e]; rintro (⟨_, q⟩ | ⟨q, _⟩); omega; cases q), e]
  · intro h3
    exact if_pos (Or.inl ⟨h1, by omega⟩)
theorem zwa_d (h : 48 ≤ zby B n a ∧ zby B n a ≤ 57) (e : zte B n a = x) : (x - a ≤ 5 → zwa B n a = x - a) ∧ (5 < x - a → zwa B n a = 0) := by
  have h1 := zDg_of h
  have h2 := zLt_no (B := B) (n := n) (x := a) (by omega)
  constructor
  · intro h3
    unfold zwa
    rw [if_neg (by rw [h1, h2, e]; rintro (⟨q, _⟩ | ⟨_, q⟩); cases q; omega), e]
  · intro h3
    exact if_pos (Or.inr ⟨h1, by omega⟩)
theorem zte_s (h1 : zby B n a < 97 ∨ 122 < zby B n a) (h2 : zby B n a < 48 ∨ 57 < zby B n a) : zte B n a = @ite _ (zsg (zby B n a)) (Classical.propDecidable _) (a + 1) a := (if_neg (by rw [zLt_no h1]; decide)).trans (if_neg (by rw [zDg_no h2]; decide))
theorem zwa_s (h1 : zby B n a < 97 ∨ 122 < zby B n a) (h2 : zby B n a < 48 ∨ 57 < zby B n a) : (zsg (zby B n a) → zwa B n a = 1) ∧ (¬ zsg (zby B n a) → zwa B n a = 0) := by
  have g1 := zLt_no h1
  have g2 := zDg_no h2
  have e : zwa B n a = zte B n a - a := if_neg (by rw [g1, g2]; rintro (⟨q, _⟩ | ⟨q, _⟩) <;> cases q)
  rw [e, zte_s h1 h2]
  constructor
  · intro h3
    rw [if_pos h3]
    omega
  · intro h3
    rw [if_neg h3]
    omega
theorem zka_d (hn : a < n) (h : 48 ≤ zby B n a ∧ zby B n a ≤ 57) (hw : zwa B n a ≠ 0) : zka B n a = 2 := by
  unfold zka
  rw [if_neg (by omega), if_neg (by rw [zLt_no (Or.inl (by omega))]; decide), if_pos (zDg_of h)]
  refine if_neg (fun h9 => hw ?_)
  exact (zwa_d h rfl).2 h9
theorem zka_s (hn : a < n) (h1 : zby B n a < 97 ∨ 122 < zby B n a) (h2 : zby B n a < 48 ∨ 57 < zby B n a) (hw : zwa B n a ≠ 0) : zka B n a = zby B n a := by
  unfold zka
  rw [if_neg (by omega), if_neg (by rw [zLt_no h1]; decide), if_neg (by rw [zDg_no h2]; decide)]
  refine if_pos (Classical.byContradiction (fun h9 => hw ?_))
  exact (zwa_s h1 h2).2 h9
theorem zwa_l' (h : 97 ≤ zby B n a ∧ zby B n a ≤ 122) (hw : zwa B n a ≠ 0) : zwa B n a = zte B n a - a ∧ zte B n a - a ≤ 8 := by
  have := zwa_l h rfl
  by_cases c : zte B n a - a ≤ 8
  · exact ⟨this.1 c, c⟩
  · exact absurd (this.2 (by omega)) hw
theorem zka_1 (h : 97 ≤ zby B n a ∧ zby B n a ≤ 122) (hw : zwa B n a = 1) : (zby B n a ≤ 104 → zka B n a = 3) ∧ (104 < zby B n a → zka B n a = 1) := by
  obtain ⟨e, e2⟩ := zwa_l' h (by omega)
  have hn := zLt_lt (zLt_of h)
  unfold zka
  rw [if_neg (by omega), if_pos (zLt_of h), if_neg (by omega), if_pos (by omega)]
  exact ⟨fun h9 => if_pos h9, fun h9 => if_neg (by omega)⟩
theorem zka_wd (h : 97 ≤ zby B n a ∧ zby B n a ≤ 122) (hw : zwa B n a ≠ 0 ∧ zwa B n a ≠ 1) : zka B n a = zwk (zwI (zby B n) a (zwa B n a).toNat) := by
  obtain ⟨e, e2⟩ := zwa_l' h hw.1
  have hn := zLt_lt (zLt_of h)
  unfold zka
  rw [if_neg (by omega), if_pos (zLt_of h), if_neg (by omega), if_neg (by omega), e]
theorem zka_let (h : 97 ≤ zby B n a ∧ zby B n a ≤ 122) (hw : zwa B n a ≠ 0) : ∀ j : Nat, j < (zwa B n a).toNat → 97 ≤ zby B n (a + j) ∧ zby B n (a + j) ≤ 122 := by
  rw [(zwa_l' h hw).1]
  exact zword (zLt_of h)
theorem zka_0 (hn : (n : Int) ≤ a) : zka B n a = 0 := if_pos hn
theorem zka_o (hn : a < n) (hw : zwa B n a = 0) : zka B n a = 1 := by
  unfold zka
  rw [if_neg (by omega)]
  by_cases c1 : 97 ≤ zby B n a ∧ zby B n a ≤ 122
  · rw [if_pos (zLt_of c1)]
    have h2 := zwa_l c1 rfl
    have h3 := zte_l0 c1
    have h4 := zend_step zLt_n (zLt_of c1)
    have h5 := zend_le (zLt B n) n (a + 1)
    exact if_pos (by by_cases c : zte B n a - a ≤ 8; have := h2.1 c; omega; omega)
  · have c1' := zLt_no (B := B) (n := n) (x := a) (by omega)
    rw [if_neg (by rw [c1']; decide)]
    by_cases c2 : 48 ≤ zby B n a ∧ zby B n a ≤ 57
    · rw [if_pos (zDg_of c2)]
      have h2 := zwa_d c2 rfl
      have h3 := zte_d0 c2
      have h4 := zend_step zDg_n (zDg_of c2)
      have h5 := zend_le (zDg B n) n (a + 1)
      exact if_pos (by by_cases c : zte B n a - a ≤ 5; have := h2.1 c; omega; omega)
    · have c2' := zDg_no (B := B) (n := n) (x := a) (by omega)
      rw [if_neg (by rw [c2']; decide)]
      refine if_neg (fun h9 => ?_)
      have := (zwa_s (B := B) (n := n) (a := a) (by omega) (by omega)).1 h9
      omega
theorem zwa_te (hw : zwa B n a ≠ 0) : a + zwa B n a = zte B n a := by
  unfold zwa at hw ⊢
  split at hw
  · exact absurd rfl hw
  · rw [if_neg (by assumption)]
    omega
theorem zBl_s (h : zend (zBl B n) n x = q) (hb : zby B n x = 32 ∨ zby B n x = 10) (e : x' = x + 1) : zend (zBl B n) n x' = q := by
  rw [← h, zend_step zBl_n (decide_eq_true hb), e]
theorem zBl_e (h : zend (zBl B n) n x = q) (hb : (n : Int) ≤ x ∨ ¬ (zby B n x = 32 ∨ zby B n x = 10)) : q = x := by
  rw [← h]
  refine zend_stop zBl_n ?_
  rcases hb with hb | hb
  · exact zBl_n _ hb
  · exact decide_eq_false hb
end
/-- a text constant's number -/
def zws (i : Nat) : Int := zwI (fun x => ((zByt.getD i []).getD x.toNat 0).toInt) 0 (zByt.getD i []).length
theorem zws_0 : zws 0 = 4262 := by decide +kernel
theorem zws_1 : zws 1 = 19513 := by decide +kernel
theorem zws_2 : zws 2 = 609900110 := by decide +kernel
theorem zws_3 : zws 3 = 294 := by decide +kernel
theorem zws_4 : zws 4 = 176741 := by decide +kernel
theorem zws_5 : zws 5 = 24388997 := by decide +kernel
theorem zws_6 : zws 6 = 4262 := by decide +kernel
theorem zws_7 : zws 7 = 19513 := by decide +kernel
theorem zws_8 : zws 8 = 609900110 := by decide +kernel
theorem zws_9 : zws 9 = 294 := by decide +kernel
theorem zws_10 : zws 10 = 176741 := by decide +kernel
theorem zws_11 : zws 11 = 24388997 := by decide +kernel
theorem zws_all (w : Int) (h : w ≠ 4262 ∧ w ≠ 19513 ∧ w ≠ 609900110 ∧ w ≠ 294 ∧ w ≠ 176741 ∧ w ≠ 24388997) : zwk w = 4 := by
  unfold zwk
  rw [if_neg h.1, if_neg h.2.1, if_neg h.2.2.1, if_neg h.2.2.2.1, if_neg h.2.2.2.2.1, if_neg h.2.2.2.2.2]
theorem zByt_len0 : ∀ i, i < 12 → (zByt.getD i []).length = ((zStrs[i]?).map (fun q => q.2.2.2)).getD 0 := by decide +kernel
theorem zByt_len {i : Nat} {q : String × Nat × String × Nat} (h : zStrs[i]? = some q) : (zByt.getD i []).length = q.2.2.2 := by
  have hi : i < 12 := by
    have := (List.getElem?_eq_some_iff.mp h).1
    have e : zStrs.length = 12 := by decide +kernel
    omega
  rw [zByt_len0 i hi, h]
  rfl
theorem zByt_let {i : Nat} : ∀ j : Nat, j < (zByt.getD i []).length → 97 ≤ ((zByt.getD i []).getD j 0).toInt ∧ ((zByt.getD i []).getD j 0).toInt ≤ 122 := by
  intro j hj
  rw [List.getD_eq_getElem?_getD (l := zByt)] at hj ⊢
  cases e : zByt[i]? with
  | none =>
    rw [e] at hj
    exact absurd hj (Nat.not_lt_zero _)
  | some l =>
    rw [e] at hj
    have hj : j < l.length := hj
    show 97 ≤ (l.getD j 0).toInt ∧ (l.getD j 0).toInt ≤ 122
    rw [List.getD_eq_getElem?_getD, List.getElem?_eq_getElem hj]
    exact (zch_ok0 l (List.mem_of_getElem? e) _ (List.getElem_mem hj)).2
theorem zch_get (i : Nat) {x : Int32} (h : 0 ≤ x.toInt) : zch i x = (zByt.getD i []).getD x.toInt.toNat 0 := by
  unfold zch
  rw [Int32.toNatClampNeg]
theorem zsp_len {f : Int → Int} {a : Int} {m i : Nat} (hl : ∀ j : Nat, j < m → 97 ≤ f (a + j) ∧ f (a + j) ≤ 122) (h : m ≠ (zByt.getD i []).length) : zwI f a m ≠ zws i := fun e => by
  refine h (zwI_inj hl ?_ e).1
  intro j hj
  have := zByt_let (i := i) j hj
  have e : ((0 : Int) + (j : Int)).toNat = j := by omega
  simp only [e]
  exact this
theorem zsp_ne {f : Int → Int} {a : Int} {m i q : Nat} (hl : ∀ j : Nat, j < m → 97 ≤ f (a + j) ∧ f (a + j) ≤ 122) (hq : q < m) (h : f (a + q) ≠ ((zByt.getD i []).getD q 0).toInt) : zwI f a m ≠ zws i := fun e => by
  have e2 := (zwI_inj hl (fun j hj => by
    have := zByt_let (i := i) j hj
    have e : ((0 : Int) + (j : Int)).toNat = j := by omega
    simp only [e]
    exact this) e).2 q hq
  have e3 : ((0 : Int) + (q : Int)).toNat = q := by omega
  simp only [e3] at e2
  exact h e2
theorem zsp_eq {f : Int → Int} {a : Int} {m i : Nat} (hm : m = (zByt.getD i []).length) (h : ∀ q : Nat, q < m → f (a + q) = ((zByt.getD i []).getD q 0).toInt) : zwI f a m = zws i := by
  unfold zws
  rw [← hm]
  refine zwI_cg (fun j hj => ?_)
  have e3 : ((0 : Int) + (j : Int)).toNat = j := by omega
  simp only [e3]
  exact h j hj
theorem zTx.mk {Γ : Nat → Option Nat} {F : Nat → va_E} {tk n a : Nat} {B : Nat → Int32} {ln : Int32} (h0 : zAd Γ F tk 0 157) (k : zfld F tk 0 = .ref a) (k1 : zfld F tk 1 = .int ln) (e : ln.toInt = n) (hn : n ≤ 600) (hc : ∀ i, i < ln.toNatClampNeg → zel F a i = B i) : zTx Γ F tk B n :=
  ⟨h0, ⟨ln, k1, e⟩, hn, fun i hi => by rw [zar_eq k]; exact hc i (by rw [Int32.toNatClampNeg]; omega)⟩
theorem zTm.add {F u : Nat → va_E} {tk n : Nat} {B : Nat → Int32} {s s' kd pl wi : Int32} (h : zTm F tk B n s.toInt.toNat) (e2 : zar u tk 2 = upd (zar F tk 2) s.toNatClampNeg kd) (e3 : zar u tk 3 = upd (zar F tk 3) s.toNatClampNeg pl) (e4 : zar u tk 4 = upd (zar F tk 4) s.toNatClampNeg wi) (h0 : 0 ≤ s.toInt) (hs : s'.toInt = s.toInt + 1) (hp : zpo B n s.toInt.toNat = pl.toInt) (hk : zka B n pl.toInt = kd.toInt) (hw : zwa B n pl.toInt = wi.toInt) : zTm u tk B n s'.toInt.toNat := by
  intro t ht
  have ec : s.toNatClampNeg = s.toInt.toNat := by rw [Int32.toNatClampNeg]
  by_cases c : t = s.toInt.toNat
  · subst c
    rw [e2, e3, e4, ec]
    unfold upd
    rw [if_pos rfl, if_pos rfl, if_pos rfl]
    refine ⟨?_, hp.symm, ?_⟩
    · show kd.toInt = zka B n (zpo B n s.toInt.toNat)
      rw [hp]
      exact hk.symm
    · rw [hp]
      exact hw.symm
  · rw [e2, e3, e4, ec]
    unfold upd
    rw [if_neg c, if_neg c, if_neg c]
    exact h t (by omega)
theorem zTb.mk {Γ : Nat → Option Nat} {F : Nat → va_E} {tk n : Nat} {B : Nat → Int32} {s : Int32} (h : zTx Γ F tk B n) (ha : zTa Γ F tk) (k : zfld F tk 5 = .int s) (hm : zTm F tk B n s.toInt.toNat) (h1 : 1 ≤ s.toInt ∧ s.toInt ≤ 601) {pl : Int} (hp : zpo B n (s.toInt.toNat - 1) = pl) (hl : zka B n pl = 0 ∨ zka B n pl = 1) : ∃ N, zTb Γ F tk B n N :=
  ⟨s.toInt.toNat, h, ha, ⟨s, k, by omega⟩, ⟨by omega, by omega, by show zka B n (zpo B n (s.toInt.toNat - 1)) = 0 ∨ zka B n (zpo B n (s.toInt.toNat - 1)) = 1; rw [hp]; exact hl⟩, hm⟩
theorem zwa_n {B : Nat → Int32} {n : Nat} {a : Int} (h : (n : Int) ≤ a) : zwa B n a = (0 : Int32).toInt := by
  have e : zby B n a = -1 := zby_n h
  refine ((zwa_s (B := B) (n := n) (a := a) (by omega) (by omega)).2 (fun h9 => ?_)).trans (by decide)
  unfold zsg at h9
  omega
