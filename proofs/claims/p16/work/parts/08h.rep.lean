/-! The class's tokens and its reader, beside the steps. -/
def zAd (Γ : Nat → Option Nat) (F : Nat → va_E) (a j c : Nat) : Prop := ∃ b, zfld F a j = .ref b ∧ Γ b = some c
theorem zAd.fr {Γ : Nat → Option Nat} {M : List Nat} {F u : Nat → va_E} {a j c t : Nat} (h : zAd Γ F a j c) (hf : zFr Γ M F u) (ha : Γ a = some t) (hj : t < 100 ∧ 100 * t + j ∉ M) : zAd Γ u a j c := by
  obtain ⟨b, h1, h2⟩ := h
  exact ⟨b, hf.f ha j hj h1, h2⟩
theorem zAd.ar {Γ : Nat → Option Nat} {M : List Nat} {F u : Nat → va_E} {a j c t : Nat} (h : zAd Γ F a j c) (hf : zFr Γ M F u) (ha : Γ a = some t) (hj : t < 100 ∧ 100 * t + j ∉ M) (hc : 100 ≤ c ∧ 100 * c ∉ M) : zar u a j = zar F a j := by
  obtain ⟨b, h1, h2⟩ := h
  rw [zar_eq h1, zar_eq (hf.f ha j hj h1)]
  exact hf.elf h2 hc
def zTx (Γ : Nat → Option Nat) (F : Nat → va_E) (tk : Nat) (B : Nat → Int32) (n : Nat) : Prop := zAd Γ F tk 0 157 ∧ (∃ ln : Int32, zfld F tk 1 = .int ln ∧ ln.toInt = n) ∧ n ≤ 600 ∧ ∀ i, i < n → zar F tk 0 i = B i
theorem zTx.fr {Γ : Nat → Option Nat} {M : List Nat} {F u : Nat → va_E} {tk n : Nat} {B : Nat → Int32} (h : zTx Γ F tk B n) (hf : zFr Γ M F u) (hk : Γ tk = some 8) (hM : 800 ∉ M ∧ 801 ∉ M ∧ 15700 ∉ M) : zTx Γ u tk B n := by
  obtain ⟨h1, ⟨ln, h2, h3⟩, h4, h5⟩ := h
  refine ⟨h1.fr hf hk ⟨by decide, hM.1⟩, ⟨ln, hf.f hk 1 ⟨by decide, hM.2.1⟩ h2, h3⟩, h4, fun i hi => ?_⟩
  rw [h1.ar hf hk ⟨by decide, hM.1⟩ ⟨by decide, hM.2.2⟩]
  exact h5 i hi
theorem zTx.len {Γ : Nat → Option Nat} {F : Nat → va_E} {tk n : Nat} {B : Nat → Int32} {x : Int32} (h : zTx Γ F tk B n) (k : zfld F tk 1 = .int x) : x.toInt = n ∧ n ≤ 600 := by
  obtain ⟨-, ⟨ln, h2, h3⟩, h4, -⟩ := h
  cases z_vi k h2
  exact ⟨h3, h4⟩
theorem zTx.by {Γ : Nat → Option Nat} {F : Nat → va_E} {tk n a : Nat} {B : Nat → Int32} {x i : Int32} (h : zTx Γ F tk B n) (k : zfld F tk 0 = .ref a) (e : zel F a i.toNatClampNeg = x) (hi : 0 ≤ i.toInt ∧ i.toInt < n) : x.toInt = zby B n i.toInt := by
  obtain ⟨-, -, -, h5⟩ := h
  rw [zby_in hi, ← e, ← zar_eq k, h5 _ (by rw [Int32.toNatClampNeg]; omega)]
  rfl
def zLs (T : zTS) (N : Nat) : Prop := 1 ≤ N ∧ N ≤ 601 ∧ (T.1 (N - 1) = 0 ∨ T.1 (N - 1) = 1)
/-- the first m tokens stand in the table -/
def zTm (F : Nat → va_E) (tk : Nat) (B : Nat → Int32) (n m : Nat) : Prop := ∀ t, t < m → (zar F tk 2 t).toInt = (zTo B n).1 t ∧ (zar F tk 3 t).toInt = zpo B n t ∧ (zar F tk 4 t).toInt = zwa B n (zpo B n t)
def zTa (Γ : Nat → Option Nat) (F : Nat → va_E) (tk : Nat) : Prop := zAd Γ F tk 2 101 ∧ zAd Γ F tk 3 155 ∧ zAd Γ F tk 4 156
def zTb (Γ : Nat → Option Nat) (F : Nat → va_E) (tk : Nat) (B : Nat → Int32) (n N : Nat) : Prop := zTx Γ F tk B n ∧ zTa Γ F tk ∧ (∃ sz : Int32, zfld F tk 5 = .int sz ∧ sz.toInt = N) ∧ zLs (zTo B n) N ∧ zTm F tk B n N
theorem zTm.fr {Γ : Nat → Option Nat} {M : List Nat} {F u : Nat → va_E} {tk n m : Nat} {B : Nat → Int32} (h : zTm F tk B n m) (ha : zTa Γ F tk) (hf : zFr Γ M F u) (hk : Γ tk = some 8) (hM : (802 ∉ M ∧ 803 ∉ M ∧ 804 ∉ M) ∧ 10100 ∉ M ∧ 15500 ∉ M ∧ 15600 ∉ M) : zTm u tk B n m := fun t ht => by
  rw [ha.1.ar hf hk ⟨by decide, hM.1.1⟩ ⟨by decide, hM.2.1⟩, ha.2.1.ar hf hk ⟨by decide, hM.1.2.1⟩ ⟨by decide, hM.2.2.1⟩, ha.2.2.ar hf hk ⟨by decide, hM.1.2.2⟩ ⟨by decide, hM.2.2.2⟩]
  exact h t ht
theorem zTa.fr {Γ : Nat → Option Nat} {M : List Nat} {F u : Nat → va_E} {tk : Nat} (h : zTa Γ F tk) (hf : zFr Γ M F u) (hk : Γ tk = some 8) (hM : 802 ∉ M ∧ 803 ∉ M ∧ 804 ∉ M) : zTa Γ u tk := ⟨h.1.fr hf hk ⟨by decide, hM.1⟩, h.2.1.fr hf hk ⟨by decide, hM.2.1⟩, h.2.2.fr hf hk ⟨by decide, hM.2.2⟩⟩
theorem zTb.fr {Γ : Nat → Option Nat} {M : List Nat} {F u : Nat → va_E} {tk n N : Nat} {B : Nat → Int32} (h : zTb Γ F tk B n N) (hf : zFr Γ M F u) (hk : Γ tk = some 8) (hM : (800 ∉ M ∧ 801 ∉ M ∧ 15700 ∉ M) ∧ ((802 ∉ M ∧ 803 ∉ M ∧ 804 ∉ M) ∧ 10100 ∉ M ∧ 15500 ∉ M ∧ 15600 ∉ M) ∧ 805 ∉ M) : zTb Γ u tk B n N := by
  obtain ⟨h1, h2, ⟨sz, h3, h4⟩, h5, h6⟩ := h
  exact ⟨h1.fr hf hk hM.1, h2.fr hf hk hM.2.1.1, ⟨sz, hf.f hk 5 ⟨by decide, hM.2.2⟩ h3, h4⟩, h5, h6.fr h2 hf hk hM.2.1⟩
theorem zTb.size {Γ : Nat → Option Nat} {F : Nat → va_E} {tk n N : Nat} {B : Nat → Int32} {x : Int32} (h : zTb Γ F tk B n N) (k : zfld F tk 5 = .int x) : x.toInt = N ∧ 1 ≤ N ∧ N ≤ 601 := by
  obtain ⟨-, -, ⟨sz, h3, h4⟩, h5, -⟩ := h
  cases z_vi k h3
  exact ⟨h4, h5.1, h5.2.1⟩
theorem zTb.kind {Γ : Nat → Option Nat} {F : Nat → va_E} {tk n N a : Nat} {B : Nat → Int32} {x i : Int32} (h : zTb Γ F tk B n N) (k : zfld F tk 2 = .ref a) (e : zel F a i.toNatClampNeg = x) (hi : 0 ≤ i.toInt ∧ i.toInt < N) : x.toInt = (zTo B n).1 i.toInt.toNat := by
  obtain ⟨-, -, -, -, h5⟩ := h
  have := (h5 i.toNatClampNeg (by rw [Int32.toNatClampNeg]; omega)).1
  rw [zar_eq k, e] at this
  exact this
theorem zTb.place {Γ : Nat → Option Nat} {F : Nat → va_E} {tk n N a : Nat} {B : Nat → Int32} {x i : Int32} (h : zTb Γ F tk B n N) (k : zfld F tk 3 = .ref a) (e : zel F a i.toNatClampNeg = x) (hi : 0 ≤ i.toInt ∧ i.toInt < N) : x.toInt = zpo B n i.toInt.toNat := by
  obtain ⟨-, -, -, -, h5⟩ := h
  have := (h5 i.toNatClampNeg (by rw [Int32.toNatClampNeg]; omega)).2.1
  rw [zar_eq k, e] at this
  exact this
theorem zTb.width {Γ : Nat → Option Nat} {F : Nat → va_E} {tk n N a : Nat} {B : Nat → Int32} {x i : Int32} (h : zTb Γ F tk B n N) (k : zfld F tk 4 = .ref a) (e : zel F a i.toNatClampNeg = x) (hi : 0 ≤ i.toInt ∧ i.toInt < N) : x.toInt = zwa B n (zpo B n i.toInt.toNat) := by
  obtain ⟨-, -, -, -, h5⟩ := h
  have := (h5 i.toNatClampNeg (by rw [Int32.toNatClampNeg]; omega)).2.2
  rw [zar_eq k, e] at this
  exact this
/-- where the reader stands, and its fault -/
def znx (N : Nat) (σ : zSg) : Int := match σ with
  | .inl x => (x.1 : Int)
  | .inr _ => (N : Int) - 1
def zft (σ : zSg) : Int := match σ with
  | .inl _ => 0
  | .inr k => k
def zok (N : Nat) (σ : zSg) : Prop := match σ with
  | .inl x => x.1 < N
  | .inr k => k ≠ 0
theorem zok.rg {N : Nat} {σ : zSg} (h : zok N σ) (hN : 1 ≤ N) : 0 ≤ znx N σ ∧ znx N σ < N := by
  match σ, h with
  | .inl x, h =>
    have h : x.1 < N := h
    show 0 ≤ (x.1 : Int) ∧ (x.1 : Int) < N
    omega
  | .inr k, h =>
    show 0 ≤ (N : Int) - 1 ∧ (N : Int) - 1 < N
    omega
theorem zkd_nx (T : zTS) (N : Nat) (σ : zSg) : T.1 (znx N σ).toNat = zkd T N σ := by
  match σ with
  | .inl x => rfl
  | .inr k =>
    show T.1 ((N : Int) - 1).toNat = T.1 (N - 1)
    exact congrArg T.1 (by omega)
theorem zft_fl {N : Nat} {σ : zSg} {k : Int} (h : zok N σ) (h0 : zft σ = 0) : zfl k σ = .inr k := by
  match σ, h, h0 with
  | .inl x, _, _ => rfl
  | .inr q, h, h0 => exact absurd h0 h
theorem zft_fl2 {σ : zSg} {k : Int} (h0 : zft σ ≠ 0) : zfl k σ = σ ∧ ∃ q, σ = .inr q := by
  match σ, h0 with
  | .inl x, h0 => exact absurd rfl h0
  | .inr q, _ => exact ⟨rfl, q, rfl⟩
def zC1 (F : Nat → va_E) (th N : Nat) (σ : zSg) : Prop := (∃ x : Int32, zfld F th 6 = .int x ∧ x.toInt = znx N σ) ∧ (∃ y : Int32, zfld F th 1 = .int y ∧ y.toInt = zft σ) ∧ zok N σ
theorem zC1.fr {Γ : Nat → Option Nat} {M : List Nat} {F u : Nat → va_E} {th N : Nat} {σ : zSg} (h : zC1 F th N σ) (hf : zFr Γ M F u) (ht : Γ th = some 7) (hM : 701 ∉ M ∧ 706 ∉ M) : zC1 u th N σ := by
  obtain ⟨⟨x, h1, h2⟩, ⟨y, h3, h4⟩, h5⟩ := h
  exact ⟨⟨x, hf.f ht 6 ⟨by decide, hM.2⟩ h1, h2⟩, ⟨y, hf.f ht 1 ⟨by decide, hM.1⟩ h3, h4⟩, h5⟩
theorem zC1.nx {F : Nat → va_E} {th N : Nat} {σ : zSg} {x : Int32} (h : zC1 F th N σ) (hN : 1 ≤ N) (k : zfld F th 6 = .int x) : x.toInt = znx N σ ∧ 0 ≤ x.toInt ∧ x.toInt < N := by
  obtain ⟨⟨x', h1, h2⟩, -, h5⟩ := h
  cases z_vi k h1
  have := h5.rg hN
  exact ⟨h2, by omega, by omega⟩
theorem zC1.adv {Γ : Nat → Option Nat} {M : List Nat} {F u : Nat → va_E} {th N : Nat} {σ : zSg} {T : zTS} {x x1 : Int32} (h : zC1 F th N σ) (hf : zFr Γ M F u) (ht : Γ th = some 7) (hM : 701 ∉ M) (k : zfld F th 6 = .int x) (k1 : zfld u th 6 = .int x1) (e : x1.toInt = x.toInt + 1) (hT : zLs T N) (hk : zkd T N σ ≠ 0 ∧ zkd T N σ ≠ 1) : zC1 u th N (zadv σ) := by
  obtain ⟨⟨x', h1, h2⟩, ⟨y, h3, h4⟩, h5⟩ := h
  cases z_vi k h1
  have h3 := hf.f ht 1 ⟨by decide, hM⟩ h3
  match σ, h2, h4, h5, hk with
  | .inl (i, d), h2, h4, h5, hk =>
    have h2 : x.toInt = (i : Int) := h2
    have h5 : i < N := h5
    refine ⟨⟨x1, k1, ?_⟩, ⟨y, h3, h4⟩, ?_⟩
    · show x1.toInt = ((i + 1 : Nat) : Int)
      omega
    · show i + 1 < N
      apply Classical.byContradiction
      intro h9
      have : i = N - 1 := by omega
      have hk : T.1 i ≠ 0 ∧ T.1 i ≠ 1 := hk
      rw [this] at hk
      exact hT.2.2.elim hk.1 hk.2
  | .inr q, h2, h4, h5, hk => exact (hT.2.2.elim hk.1 hk.2).elim
theorem zC1.fl {F u : Nat → va_E} {th N : Nat} {σ : zSg} {x y y1 : Int32} {k : Int} (h : zC1 F th N σ) (ky : zfld F th 1 = .int y) (k1 : zfld u th 6 = .int x) (k2 : zfld u th 1 = .int y1) (ex : x.toInt = (N : Int) - 1) (e : (y.toInt = 0 ∧ y1.toInt = k ∧ k ≠ 0) ∨ (y.toInt ≠ 0 ∧ y1 = y)) : zC1 u th N (zfl k σ) := by
  obtain ⟨-, ⟨y', h3, h4⟩, h5⟩ := h
  cases z_vi ky h3
  rcases e with ⟨e1, e2, e3⟩ | ⟨e1, e2⟩
  · rw [zft_fl h5 (h4.symm.trans e1)]
    exact ⟨⟨x, k1, ex⟩, ⟨y1, k2, e2⟩, e3⟩
  · obtain ⟨g1, q, rfl⟩ := zft_fl2 (k := k) (σ := σ) (fun h9 => e1 (h4.trans h9))
    subst e2
    exact ⟨⟨x, k1, ex⟩, ⟨y1, k2, h4⟩, h5⟩
/-- a sign is taken, or its want is a fault -/
def ztk (T : zTS) (N : Nat) (c : Int) (σ : zSg) : zSg := if zkd T N σ = c then zadv σ else zfl 1 σ
def zop (T : zTS) (N : Nat) (a : Int) (σ : zSg) : zSg := if zkd T N σ = 40 then (if a < 6 then zadv σ else zfl 3 σ) else zfl 1 σ
theorem zRc.tk {T : zTS} {N : Nat} {σ σ1 : zSg} {Xs Ys : List zSy} {a : Nat} (h : zRc T σ Xs σ1 ((6, a, 0, 0) :: Ys)) {c : Int} (hc : c = (a : Int)) : zRc T σ Xs (ztk T N c σ1) Ys := by
  unfold ztk
  subst hc
  by_cases q : zkd T N σ1 = (a : Int)
  · rw [if_pos q]; exact h.need1 (N := N) q
  · rw [if_neg q]; exact h.need0 (N := N) q
theorem zRc.op {T : zTS} {N : Nat} {σ σ1 : zSg} {Xs Ys : List zSy} {a : Nat} (h : zRc T σ Xs σ1 ((18, a, 0, 0) :: Ys)) {c : Int} (hc : c = (a : Int)) : zRc T σ Xs (zop T N c σ1) Ys := by
  unfold zop
  subst hc
  by_cases q : zkd T N σ1 = 40
  · rw [if_pos q]
    by_cases q2 : (a : Int) < 6
    · rw [if_pos q2]; exact h.open0 (N := N) q (by omega)
    · rw [if_neg q2]; exact h.open3 (N := N) q (by omega)
  · rw [if_neg q]; exact h.open1 (N := N) q
/-- moves that leave what was read -/
def zsm (σ σ' : zSg) : Prop := ∀ j d', σ' = .inl (j, d') → ∃ i, σ = .inl (i, d') ∧ i ≤ j
theorem zsm.rf {σ : zSg} : zsm σ σ := fun j d' h => ⟨j, h, Nat.le_refl _⟩
theorem zsm.trans {σ σ1 σ2 : zSg} (h : zsm σ σ1) (h1 : zsm σ1 σ2) : zsm σ σ2 := fun j d' e => by
  obtain ⟨i, e1, g1⟩ := h1 j d' e
  obtain ⟨q, e2, g2⟩ := h i d' e1
  exact ⟨q, e2, Nat.le_trans g2 g1⟩
theorem zsm.adv {σ : zSg} : zsm σ (zadv σ) := fun j d' h => by
  match σ, h with
  | .inl (i, d), h =>
    have h : (Sum.inl (i + 1, d) : zSg) = .inl (j, d') := h
    injection h with h
    injection h with h1 h2
    exact ⟨i, by rw [h2], by omega⟩
  | .inr k, h => cases h
theorem zsm.nx {N : Nat} {σ σ' : zSg} (h : zsm σ σ') (h1 : zok N σ) (h2 : zok N σ') : znx N σ ≤ znx N σ' := by
  match σ', h, h2 with
  | .inl (j, d'), h, h2 =>
    obtain ⟨i, e, g⟩ := h j d' rfl
    subst e
    show (i : Int) ≤ (j : Int)
    omega
  | .inr k, h, h2 =>
    match σ, h1 with
    | .inl (i, d), h1 =>
      have h1 : i < N := h1
      show (i : Int) ≤ (N : Int) - 1
      omega
    | .inr q, _ => exact Int.le_refl _
theorem zsm.fl {k : Int} {σ : zSg} : zsm σ (zfl k σ) := fun j d' h => by
  obtain ⟨q, e⟩ := zfl_bad k σ
  rw [e] at h
  cases h
theorem zsm.tk {T : zTS} {N : Nat} {c : Int} {σ : zSg} : zsm σ (ztk T N c σ) := by
  unfold ztk
  split
  · exact zsm.adv
  · exact zsm.fl
theorem zsm.op {T : zTS} {N : Nat} {c : Int} {σ : zSg} : zsm σ (zop T N c σ) := by
  unfold zop
  split
  · split
    · exact zsm.adv
    · exact zsm.fl
  · exact zsm.fl
/-- what was put out stands; no call comes behind it -/
def zPre (d d' : zDat) : Prop := zac d ≤ zac d' ∧ ∀ p, p < zac d → zaf d' p = zaf d p
def zNc (d d' : zDat) : Prop := zPre d d' ∧ ∀ p, zac d ≤ p → p < zac d' → (zaf d' p).1 ≠ 9
theorem zPre.rf {d : zDat} : zPre d d := ⟨Nat.le_refl _, fun _ _ => rfl⟩
theorem zPre.trans {a b c : zDat} (h : zPre a b) (g : zPre b c) : zPre a c := ⟨Nat.le_trans h.1 g.1, fun p hp => (g.2 p (Nat.lt_of_lt_of_le hp h.1)).trans (h.2 p hp)⟩
theorem zNc.eq {d d' : zDat} (h1 : zac d' = zac d) (h2 : zaf d' = zaf d) : zNc d d' := ⟨⟨by omega, fun p _ => by rw [h2]⟩, fun p h3 h4 => by omega⟩
theorem zNc.rf {d : zDat} : zNc d d := zNc.eq rfl rfl
theorem zPre.one {d d' : zDat} {e : Nat × Nat × Nat} (h1 : zac d' = zac d + 1) (h2 : zaf d' = zup (zaf d) (zac d) e) : zPre d d' := ⟨by omega, fun p hp => by rw [h2, zup_ne _ _ (by omega)]⟩
theorem zNc.one {d d' : zDat} {e : Nat × Nat × Nat} (h1 : zac d' = zac d + 1) (h2 : zaf d' = zup (zaf d) (zac d) e) (he : e.1 ≠ 9) : zNc d d' := ⟨zPre.one h1 h2, fun p h3 h4 => by rw [h2, show p = zac d by omega, zup_self]; exact he⟩
/-- all but the calls stands -/
def zNwc (d d' : zDat) : Prop := ∃ new, zcs d' = zcs d ++ new ∧ ∀ e ∈ new, e.2.2 = zfc d
theorem zNwc.rf {d : zDat} : zNwc d d := ⟨[], (List.append_nil _).symm, fun e he => by cases he⟩
theorem zNwc.eq {d d' : zDat} (h : zcs d' = zcs d) : zNwc d d' := ⟨[], h.trans (List.append_nil _).symm, fun e he => by cases he⟩
theorem zNwc.trans {a b c : zDat} (h : zNwc a b) (g : zNwc b c) (e : zfc b = zfc a) : zNwc a c := by
  obtain ⟨n1, h1, h2⟩ := h
  obtain ⟨n2, g1, g2⟩ := g
  refine ⟨n1 ++ n2, by rw [g1, h1, List.append_assoc], fun e9 h9 => ?_⟩
  rcases List.mem_append.mp h9 with h9 | h9
  · exact h2 e9 h9
  · exact (g2 e9 h9).trans e
def zEL (d d' : zDat) : Prop := zfc d' = zfc d ∧ znm d' = znm d ∧ zpc d' = zpc d ∧ zpl d' = zpl d ∧ zff d' = zff d ∧ zlc d' = zlc d ∧ zln d' = zln d ∧ zfe d' = zfe d ∧ zNwc d d'
/-- all but calls and lines stands -/
def zEF (d d' : zDat) : Prop := zfc d' = zfc d ∧ znm d' = znm d ∧ zpc d' = zpc d ∧ zpl d' = zpl d ∧ zff d' = zff d ∧ zfe d' = zfe d ∧ zNwc d d'
theorem zEL.rf {d : zDat} : zEL d d := ⟨rfl, rfl, rfl, rfl, rfl, rfl, rfl, rfl, zNwc.rf⟩
theorem zEL.trans {a b c : zDat} (h : zEL a b) (g : zEL b c) : zEL a c := ⟨g.1.trans h.1, g.2.1.trans h.2.1, g.2.2.1.trans h.2.2.1, g.2.2.2.1.trans h.2.2.2.1, g.2.2.2.2.1.trans h.2.2.2.2.1, g.2.2.2.2.2.1.trans h.2.2.2.2.2.1, g.2.2.2.2.2.2.1.trans h.2.2.2.2.2.2.1, g.2.2.2.2.2.2.2.1.trans h.2.2.2.2.2.2.2.1, h.2.2.2.2.2.2.2.2.trans g.2.2.2.2.2.2.2.2 h.1⟩
theorem zEF.rf {d : zDat} : zEF d d := ⟨rfl, rfl, rfl, rfl, rfl, rfl, zNwc.rf⟩
theorem zEF.trans {a b c : zDat} (h : zEF a b) (g : zEF b c) : zEF a c := ⟨g.1.trans h.1, g.2.1.trans h.2.1, g.2.2.1.trans h.2.2.1, g.2.2.2.1.trans h.2.2.2.1, g.2.2.2.2.1.trans h.2.2.2.2.1, g.2.2.2.2.2.1.trans h.2.2.2.2.2.1, h.2.2.2.2.2.2.trans g.2.2.2.2.2.2 h.1⟩
theorem zEL.f {d d' : zDat} (h : zEL d d') : zEF d d' := ⟨h.1, h.2.1, h.2.2.1, h.2.2.2.1, h.2.2.2.2.1, h.2.2.2.2.2.2.2.1, h.2.2.2.2.2.2.2.2⟩
def zss (σ σ' : zSg) : Prop := ∀ j d', σ' = .inl (j, d') → ∃ i d, σ = .inl (i, d) ∧ i ≤ j ∧ zEL d d'
def zsl (σ σ' : zSg) : Prop := ∀ j d', σ' = .inl (j, d') → ∃ i d, σ = .inl (i, d) ∧ i ≤ j ∧ zEF d d'
theorem zsm.ss {σ σ' : zSg} (h : zsm σ σ') : zss σ σ' := fun j d' e => by
  obtain ⟨i, e1, g1⟩ := h j d' e
  exact ⟨i, d', e1, g1, zEL.rf⟩
theorem zss.sl {σ σ' : zSg} (h : zss σ σ') : zsl σ σ' := fun j d' e => by
  obtain ⟨i, d, e1, g1, g2⟩ := h j d' e
  exact ⟨i, d, e1, g1, g2.f⟩
theorem zss.trans {σ σ1 σ2 : zSg} (h : zss σ σ1) (h1 : zss σ1 σ2) : zss σ σ2 := fun j d' e => by
  obtain ⟨i, d, e1, g1, g2⟩ := h1 j d' e
  obtain ⟨q, b, e2, g3, g4⟩ := h i d e1
  exact ⟨q, b, e2, Nat.le_trans g3 g1, g4.trans g2⟩
theorem zsl.trans {σ σ1 σ2 : zSg} (h : zsl σ σ1) (h1 : zsl σ1 σ2) : zsl σ σ2 := fun j d' e => by
  obtain ⟨i, d, e1, g1, g2⟩ := h1 j d' e
  obtain ⟨q, b, e2, g3, g4⟩ := h i d e1
  exact ⟨q, b, e2, Nat.le_trans g3 g1, g4.trans g2⟩
theorem zss.rf {σ : zSg} : zss σ σ := zsm.rf.ss
theorem zsl.rf {σ : zSg} : zsl σ σ := zsm.rf.ss.sl
theorem zss.map {f : Nat → zDat → zDat} (hf : ∀ i d, zEL d (f i d)) {σ : zSg} : zss σ (zmap f σ) := fun j d' h => by
  match σ, h with
  | .inl (i, d), h =>
    have h : (Sum.inl (i, f i d) : zSg) = .inl (j, d') := h
    injection h with h
    injection h with h1 h2
    exact ⟨i, d, rfl, by omega, by rw [← h2]; exact hf i d⟩
  | .inr k, h => cases h
theorem zsl.map {f : Nat → zDat → zDat} (hf : ∀ i d, zEF d (f i d)) {σ : zSg} : zsl σ (zmap f σ) := fun j d' h => by
  match σ, h with
  | .inl (i, d), h =>
    have h : (Sum.inl (i, f i d) : zSg) = .inl (j, d') := h
    injection h with h
    injection h with h1 h2
    exact ⟨i, d, rfl, by omega, by rw [← h2]; exact hf i d⟩
  | .inr k, h => cases h
/-- the calls that were read since: their names' tokens, their sums; and room for more -/
def zCe (u : Nat → va_E) (th q : Nat) (e : Nat × Nat × Nat) : Prop := (zar u th 7 q).toInt = (e.1 : Int) ∧ (zar u th 8 q).toInt = (e.2.1 : Int) ∧ (zar u th 10 q).toInt = (e.2.2 : Int)
theorem zCe.cg {F u : Nat → va_E} {th q : Nat} {e : Nat × Nat × Nat} (h : zCe F th q e) (e7 : zar u th 7 q = zar F th 7 q) (e8 : zar u th 8 q = zar F th 8 q) (e10 : zar u th 10 q = zar F th 10 q) : zCe u th q e := by
  unfold zCe
  rw [e7, e8, e10]
  exact h
theorem zCe.un {F : Nat → va_E} {th q : Nat} {e e' : Nat × Nat × Nat} (h : zCe F th q e) (h' : zCe F th q e') : e = e' := by
  obtain ⟨a1, a2, a3⟩ := h
  obtain ⟨b1, b2, b3⟩ := h'
  exact Prod.ext (by omega) (Prod.ext (by omega) (by omega))
def zCq (u : Nat → va_E) (th : Nat) (new : List (Nat × Nat × Nat)) (c c' : Int32) : Prop := ∀ q : Nat, c.toInt ≤ (q : Int) → (q : Int) < c'.toInt → ∃ e ∈ new, zCe u th q e
def zCl (F u : Nat → va_E) (th : Nat) (new : List (Nat × Nat × Nat)) (c c' : Int32) : Prop := c.toInt ≤ c'.toInt ∧ (∀ q : Nat, (q : Int) < c.toInt → zar u th 7 q = zar F th 7 q ∧ zar u th 8 q = zar F th 8 q ∧ zar u th 10 q = zar F th 10 q) ∧ ∀ e : Nat × Nat × Nat, e ∈ new ↔ ∃ q : Nat, c.toInt ≤ (q : Int) ∧ (q : Int) < c'.toInt ∧ zCe u th q e
/-- the acts of the calls that were read since: callActs says where each stands -/
def zCw (F u : Nat → va_E) (th : Nat) (c c' : Int32) (d d' : zDat) : Prop := (∀ q : Nat, (q : Int) < c.toInt → zar u th 9 q = zar F th 9 q) ∧ zPre d d' ∧ (∀ q : Nat, c.toInt ≤ (q : Int) → (q : Int) < c'.toInt → ∃ p : Nat, (zar u th 9 q).toInt = (p : Int) ∧ zac d ≤ p ∧ p < zac d' ∧ (zaf d' p).1 = 9 ∧ ((zaf d' p).2.1 : Int) = (zar u th 7 q).toInt) ∧ ∀ p, zac d ≤ p → p < zac d' → (zaf d' p).1 = 9 → ∃ q : Nat, c.toInt ≤ (q : Int) ∧ (q : Int) < c'.toInt ∧ (zar u th 9 q).toInt = (p : Int)
theorem zCw.rf {F : Nat → va_E} {th : Nat} {c : Int32} {d : zDat} : zCw F F th c c d d := ⟨fun _ _ => rfl, zPre.rf, fun q h1 h2 => by omega, fun p h1 h2 => by omega⟩
theorem zCw.trans {F u v : Nat → va_E} {th : Nat} {c c1 c2 : Int32} {d d1 d2 : zDat} (h : zCw F u th c c1 d d1) (g : zCw u v th c1 c2 d1 d2) (hc : c.toInt ≤ c1.toInt ∧ c1.toInt ≤ c2.toInt) (h7 : ∀ q : Nat, (q : Int) < c1.toInt → zar v th 7 q = zar u th 7 q) : zCw F v th c c2 d d2 := by
  obtain ⟨a1, a2, a3, a4⟩ := h
  obtain ⟨b1, b2, b3, b4⟩ := g
  refine ⟨fun q hq => (b1 q (by omega)).trans (a1 q hq), a2.trans b2, fun q h1 h2 => ?_, fun p h1 h2 h3 => ?_⟩
  · by_cases k : (q : Int) < c1.toInt
    · obtain ⟨p, e1, e2, e3, e4, e5⟩ := a3 q h1 k
      refine ⟨p, by rw [b1 q k]; exact e1, e2, Nat.lt_of_lt_of_le e3 b2.1, ?_, ?_⟩
      · rw [b2.2 p e3]; exact e4
      · rw [b2.2 p e3, h7 q k]; exact e5
    · obtain ⟨p, e1, e2, e3, e4, e5⟩ := b3 q (by omega) h2
      exact ⟨p, e1, Nat.le_trans a2.1 e2, e3, e4, e5⟩
  · by_cases k : p < zac d1
    · rw [b2.2 p k] at h3
      obtain ⟨q, e1, e2, e3⟩ := a4 p h1 k h3
      exact ⟨q, e1, by omega, by rw [b1 q e2]; exact e3⟩
    · obtain ⟨q, e1, e2, e3⟩ := b4 p (by omega) h2 h3
      exact ⟨q, by omega, e2, e3⟩
theorem zCw.mv {F u v : Nat → va_E} {th : Nat} {c c1 : Int32} {d d1 d2 : zDat} (h : zCw F u th c c1 d d1) (r7 : zar v th 7 = zar u th 7) (r9 : zar v th 9 = zar u th 9) (hn : zNc d1 d2) : zCw F v th c c1 d d2 := by
  obtain ⟨a1, a2, a3, a4⟩ := h
  refine ⟨fun q hq => by rw [r9]; exact a1 q hq, a2.trans hn.1, fun q h1 h2 => ?_, fun p h1 h2 h3 => ?_⟩
  · obtain ⟨p, e1, e2, e3, e4, e5⟩ := a3 q h1 h2
    refine ⟨p, by rw [r9]; exact e1, e2, Nat.lt_of_lt_of_le e3 hn.1.1, ?_, ?_⟩
    · rw [hn.1.2 p e3]; exact e4
    · rw [hn.1.2 p e3, r7]; exact e5
  · by_cases k : p < zac d1
    · rw [hn.1.2 p k] at h3
      rw [r9]
      exact a4 p h1 k h3
    · exact absurd h3 (hn.2 p (by omega) h2)
def zCc (Γ : Nat → Option Nat) (F u : Nat → va_E) (th : Nat) (T : zTS) (σ σ' : zSg) (dep : Int) : Prop := ∃ c c' : Int32, zfld F th 11 = .int c ∧ zfld u th 11 = .int c' ∧ (0 ≤ c.toInt ∧ c.toInt ≤ c'.toInt) ∧ (zAd Γ u th 7 106 ∧ zAd Γ u th 8 107 ∧ zAd Γ u th 10 161 ∧ zAd Γ u th 9 160) ∧ ∀ j d', σ' = .inl (j, d') → 4 * c'.toInt + 5 ≤ T.2.1 j + dep ∧ ∃ i d new, σ = .inl (i, d) ∧ zcs d' = zcs d ++ new ∧ zCl F u th new c c' ∧ zCq u th new c c' ∧ i ≤ j ∧ (∀ e ∈ new, T.1 e.1 = 4 ∧ e.1 < j) ∧ zCw F u th c c' d d'
def zTP (T : zTS) : Prop := ∀ i, T.2.1 i ≤ T.2.1 (i + 1)
theorem zTP.mono {T : zTS} (h : zTP T) : ∀ {i j : Nat}, i ≤ j → T.2.1 i ≤ T.2.1 j := fun {i j} hij => by
  obtain ⟨q, rfl⟩ := Nat.exists_eq_add_of_le hij
  induction q with
  | zero => exact Int.le_refl _
  | succ q ih => exact Int.le_trans (ih (Nat.le_add_right i q)) (h (i + q))
theorem zTo_P (B : Nat → Int32) (n : Nat) : zTP (zTo B n) := fun i => Int.le_trans (zte_le B n (zpo B n i)) (zpo_s B n i)
theorem zCl.rf {F : Nat → va_E} {th : Nat} {c : Int32} : zCl F F th [] c c := ⟨Int.le_refl _, fun _ _ => ⟨rfl, rfl, rfl⟩, fun e => ⟨fun h => (by cases h), fun ⟨q, h1, h2, _⟩ => by omega⟩⟩
theorem zCl.trans {F u v : Nat → va_E} {th : Nat} {new new' : List (Nat × Nat × Nat)} {c c1 c2 : Int32} (h : zCl F u th new c c1) (h1 : zCl u v th new' c1 c2) : zCl F v th (new ++ new') c c2 := by
  refine ⟨Int.le_trans h.1 h1.1, fun q hq => ?_, fun e => ?_⟩
  · obtain ⟨a1, a2, a3⟩ := h1.2.1 q (by have := h.1; omega)
    obtain ⟨b1, b2, b3⟩ := h.2.1 q hq
    exact ⟨a1.trans b1, a2.trans b2, a3.trans b3⟩
  rw [List.mem_append, h.2.2 e, h1.2.2 e]
  constructor
  · rintro (⟨q, a1, a2, a3⟩ | ⟨q, a1, a2, a3⟩)
    · obtain ⟨b1, b2, b3⟩ := h1.2.1 q a2
      exact ⟨q, a1, by have := h1.1; omega, a3.cg b1 b2 b3⟩
    · exact ⟨q, by have := h.1; omega, a2, a3⟩
  · rintro ⟨q, a1, a2, a3⟩
    by_cases k : (q : Int) < c1.toInt
    · obtain ⟨b1, b2, b3⟩ := h1.2.1 q k
      exact Or.inl ⟨q, a1, k, a3.cg b1.symm b2.symm b3.symm⟩
    · exact Or.inr ⟨q, by omega, a2, a3⟩
theorem zCc.rf {Γ : Nat → Option Nat} {F : Nat → va_E} {th : Nat} {T : zTS} {σ : zSg} {dep : Int} {c : Int32} (hc : zfld F th 11 = .int c) (h0 : 0 ≤ c.toInt) (ha : zAd Γ F th 7 106 ∧ zAd Γ F th 8 107 ∧ zAd Γ F th 10 161 ∧ zAd Γ F th 9 160) (hm : ∀ i d, σ = .inl (i, d) → 4 * c.toInt + 5 ≤ T.2.1 i + dep) : zCc Γ F F th T σ σ dep :=
  ⟨c, c, hc, hc, ⟨h0, Int.le_refl _⟩, ha, fun j d' e => ⟨hm j d' e, j, d', [], e, (List.append_nil _).symm, zCl.rf, fun q h1 h2 => by omega, Nat.le_refl _, fun e h9 => (by cases h9), zCw.rf⟩⟩
theorem zCc.call {Γ : Nat → Option Nat} {F u v : Nat → va_E} {th : Nat} {T : zTS} {σ σ1 σ2 : zSg} {dep dep1 : Int} (h : zCc Γ F u th T σ σ1 dep) (h1 : zCc Γ u v th T σ1 σ2 dep1) : zCc Γ F v th T σ σ2 dep1 := by
  obtain ⟨c, c1, k1, k2, k3, k4, k5⟩ := h
  obtain ⟨c1', c2, g1, g2, g3, g4, g5⟩ := h1
  cases z_vi k2 g1
  refine ⟨c, c2, k1, g2, ⟨k3.1, Int.le_trans k3.2 g3.2⟩, g4, fun j d' e => ?_⟩
  obtain ⟨m1, i, d, new, e1, e2, e3, v1, v2, v3, v4⟩ := g5 j d' e
  obtain ⟨m2, i', d0, new', e4, e5, e6, w1, w2, w3, w4⟩ := k5 i d e1
  refine ⟨m1, i', d0, new' ++ new, e4, by rw [e2, e5, List.append_assoc], e6.trans e3, fun q h1 h2 => ?_, by omega, fun e9 h9 => ?_, w4.trans v4 ⟨k3.2, g3.2⟩ (fun q hq => (e3.2.1 q hq).1)⟩
  · by_cases k : (q : Int) < c1.toInt
    · obtain ⟨e9, b1, b2⟩ := w1 q h1 k
      obtain ⟨g1, g2, g3⟩ := e3.2.1 q k
      exact ⟨e9, List.mem_append_left _ b1, b2.cg g1 g2 g3⟩
    · obtain ⟨e9, b1, b2⟩ := v1 q (by omega) h2
      exact ⟨e9, List.mem_append_right _ b1, b2⟩
  · rcases List.mem_append.mp h9 with h9 | h9
    · exact ⟨(w3 e9 h9).1, by have := (w3 e9 h9).2; omega⟩
    · exact v3 e9 h9
/-- moves, and what else was written -/
theorem zCc.mv {Γ : Nat → Option Nat} {M : List Nat} {F u v : Nat → va_E} {th : Nat} {T : zTS} {σ σ1 σ2 : zSg} {dep : Int} (h : zCc Γ F u th T σ σ1 dep) (hf : zFr Γ M u v) (ht : Γ th = some 7) (hM : (707 ∉ M ∧ 708 ∉ M ∧ 710 ∉ M ∧ 709 ∉ M) ∧ 711 ∉ M ∧ 10600 ∉ M ∧ 10700 ∉ M ∧ 16100 ∉ M ∧ 16000 ∉ M) (hT : zTP T) (hs : ∀ j d', σ2 = .inl (j, d') → ∃ i d, σ1 = .inl (i, d) ∧ i ≤ j ∧ zcs d' = zcs d ∧ zNc d d') : zCc Γ F v th T σ σ2 dep := by
  obtain ⟨c, c1, k1, k2, k3, k4, k5⟩ := h
  refine ⟨c, c1, k1, hf.f ht 11 ⟨by decide, hM.2.1⟩ k2, k3, ⟨k4.1.fr hf ht ⟨by decide, hM.1.1⟩, k4.2.1.fr hf ht ⟨by decide, hM.1.2.1⟩, k4.2.2.1.fr hf ht ⟨by decide, hM.1.2.2.1⟩, k4.2.2.2.fr hf ht ⟨by decide, hM.1.2.2.2⟩⟩, fun j d' e => ?_⟩
  obtain ⟨i, d, e1, hij, ec, en⟩ := hs j d' e
  obtain ⟨m2, i', d0, new', e4, e5, e6, w1, w2, w3, w4⟩ := k5 i d e1
  have := hT.mono hij
  have r7 := k4.1.ar hf ht ⟨by decide, hM.1.1⟩ ⟨by decide, hM.2.2.1⟩
  have r8 := k4.2.1.ar hf ht ⟨by decide, hM.1.2.1⟩ ⟨by decide, hM.2.2.2.1⟩
  have r10 := k4.2.2.1.ar hf ht ⟨by decide, hM.1.2.2.1⟩ ⟨by decide, hM.2.2.2.2.1⟩
  have r9 := k4.2.2.2.ar hf ht ⟨by decide, hM.1.2.2.2⟩ ⟨by decide, hM.2.2.2.2.2⟩
  have rc : ∀ q e, zCe v th q e ↔ zCe u th q e := fun q e => ⟨fun h9 => h9.cg (congrFun r7 q).symm (congrFun r8 q).symm (congrFun r10 q).symm, fun h9 => h9.cg (congrFun r7 q) (congrFun r8 q) (congrFun r10 q)⟩
  refine ⟨by omega, i', d0, new', e4, ec.trans e5, ⟨e6.1, fun q hq => ?_, fun e9 => ?_⟩, ?_, by omega, fun e9 h9 => ⟨(w3 e9 h9).1, by have := (w3 e9 h9).2; omega⟩, w4.mv r7 r9 en⟩
  · rw [r7, r8, r10]
    exact e6.2.1 q hq
  · rw [e6.2.2 e9]
    exact ⟨fun ⟨q, a1, a2, a3⟩ => ⟨q, a1, a2, (rc q e9).mpr a3⟩, fun ⟨q, a1, a2, a3⟩ => ⟨q, a1, a2, (rc q e9).mp a3⟩⟩
  · exact fun q h1 h2 => (w1 q h1 h2).elim (fun e9 h9 => ⟨e9, h9.1, (rc q e9).mpr h9.2⟩)
theorem zsm.cs {σ σ' : zSg} (h : zsm σ σ') : ∀ j d', σ' = .inl (j, d') → ∃ i d, σ = .inl (i, d) ∧ i ≤ j ∧ zcs d' = zcs d ∧ zNc d d' := fun j d' e => by
  obtain ⟨i, e1, g1⟩ := h j d' e
  exact ⟨i, d', e1, g1, rfl, zNc.rf⟩
theorem zmap_cs {f : Nat → zDat → zDat} (hf : ∀ i d, zcs (f i d) = zcs d ∧ zNc d (f i d)) {σ : zSg} : ∀ j d', zmap f σ = .inl (j, d') → ∃ i d, σ = .inl (i, d) ∧ i ≤ j ∧ zcs d' = zcs d ∧ zNc d d' := fun j d' h => by
  match σ, h with
  | .inl (i, d), h =>
    have h : (Sum.inl (i, f i d) : zSg) = .inl (j, d') := h
    injection h with h
    injection h with h1 h2
    exact ⟨i, d, rfl, by omega, by rw [← h2]; exact hf i d⟩
  | .inr k, h => cases h
theorem zCc.w {Γ : Nat → Option Nat} {F u : Nat → va_E} {th : Nat} {T : zTS} {σ σ1 : zSg} {dep dep' : Int} (h : zCc Γ F u th T σ σ1 dep) (hd : dep ≤ dep') : zCc Γ F u th T σ σ1 dep' := by
  obtain ⟨c, c1, k1, k2, k3, k4, k5⟩ := h
  refine ⟨c, c1, k1, k2, k3, k4, fun j d' e => ?_⟩
  obtain ⟨m1, r⟩ := k5 j d' e
  exact ⟨by omega, r⟩
theorem zCc.bad {Γ : Nat → Option Nat} {F u : Nat → va_E} {th : Nat} {T : zTS} {σ σ1 σ2 : zSg} {dep dep' : Int} (h : zCc Γ F u th T σ σ1 dep) (h2 : ∃ q, σ2 = .inr q) : zCc Γ F u th T σ σ2 dep' := by
  obtain ⟨c, c1, k1, k2, k3, k4, k5⟩ := h
  obtain ⟨q, rfl⟩ := h2
  exact ⟨c, c1, k1, k2, k3, k4, fun j d' e => by cases e⟩
/-- the bracket that closes gives back what the one that opened took -/
theorem zCc.shut {Γ : Nat → Option Nat} {F u : Nat → va_E} {th N : Nat} {B : Nat → Int32} {n : Nat} {σ σ1 : zSg} {dep dep' c : Int} (h : zCc Γ F u th (zTo B n) σ σ1 dep') (hd : dep' = dep + 1) (hc : c ≠ 0 ∧ c ≠ 1) : zCc Γ F u th (zTo B n) σ (ztk (zTo B n) N c σ1) dep := by
  unfold ztk
  by_cases q : zkd (zTo B n) N σ1 = c
  · rw [if_pos q]
    obtain ⟨c, c1, k1, k2, k3, k4, k5⟩ := h
    refine ⟨c, c1, k1, k2, k3, k4, fun j d' e => ?_⟩
    match σ1, q, k5, e with
    | .inl (i, d), q, k5, e =>
      have e : (Sum.inl (i + 1, d) : zSg) = .inl (j, d') := e
      injection e with e
      injection e with e1 e2
      subst e1
      subst e2
      obtain ⟨m1, i', d0, new', e4, e5, e6, w1, w2, w3, w4⟩ := k5 i d rfl
      have q : zka B n (zpo B n i) = _ := q
      have x1 := zka_w (B := B) (n := n) (a := zpo B n i) (by omega) (by omega)
      have x2 := zpo_s B n i
      have m1 : 4 * c1.toInt + 5 ≤ zpo B n i + dep' := m1
      refine ⟨?_, i', d0, new', e4, e5, e6, w1, by omega, fun e9 h9 => ⟨(w3 e9 h9).1, by have := (w3 e9 h9).2; omega⟩, w4⟩
      show 4 * c1.toInt + 5 ≤ zpo B n (i + 1) + dep
      omega
    | .inr k, q, k5, e => cases e
  · rw [if_neg q]
    exact h.bad (zfl_bad _ _)
theorem zCc.m {Γ : Nat → Option Nat} {F u : Nat → va_E} {th : Nat} {T : zTS} {σ σ1 : zSg} {dep : Int} {c : Int32} (h : zCc Γ F u th T σ σ1 dep) (k : zfld u th 11 = .int c) : ∀ i d, σ1 = .inl (i, d) → 4 * c.toInt + 5 ≤ T.2.1 i + dep := by
  obtain ⟨c0, c1, k1, k2, k3, k4, k5⟩ := h
  cases z_vi k k2
  exact fun i d e => (k5 i d e).1
theorem zCc.le {Γ : Nat → Option Nat} {F u : Nat → va_E} {th : Nat} {T : zTS} {σ σ1 : zSg} {dep : Int} {c c' : Int32} (h : zCc Γ F u th T σ σ1 dep) (k : zfld F th 11 = .int c) (k' : zfld u th 11 = .int c') : c.toInt ≤ c'.toInt := by
  obtain ⟨c0, c1, k1, k2, k3, k4, k5⟩ := h
  cases z_vi k k1
  cases z_vi k' k2
  exact k3.2
theorem zCc.fr {Γ : Nat → Option Nat} {M : List Nat} {F u v : Nat → va_E} {th : Nat} {T : zTS} {σ σ1 : zSg} {dep : Int} (h : zCc Γ F u th T σ σ1 dep) (hf : zFr Γ M u v) (ht : Γ th = some 7) (hM : (707 ∉ M ∧ 708 ∉ M ∧ 710 ∉ M ∧ 709 ∉ M) ∧ 711 ∉ M ∧ 10600 ∉ M ∧ 10700 ∉ M ∧ 16100 ∉ M ∧ 16000 ∉ M) (hT : zTP T) : zCc Γ F v th T σ σ1 dep := h.mv hf ht hM hT zsm.rf.cs
/-- a call: its name, what is within its brackets, its sums' number -/
theorem zCc.callX {Γ : Nat → Option Nat} {F F2 F4 F5 : Nat → va_E} {th : Nat} {T : zTS} {σ0 σ1 σ3 : zSg} {dep : Int} {c c1 c5 x r w ac : Int32} {tn rn : Nat} (kc : zfld F th 11 = .int c) (h0 : 0 ≤ c.toInt) (kc1 : zfld F2 th 11 = .int c1) (e1 : c1.toInt = c.toInt + 1) (e7 : zar F2 th 7 = upd (zar F th 7) c.toNatClampNeg x) (ex : x.toInt = (tn : Int)) (e8 : zar F2 th 8 = zar F th 8) (e10 : zar F2 th 10 = upd (zar F th 10) c.toNatClampNeg w) (e9 : zar F2 th 9 = zar F th 9) (h : zCc Γ F2 F4 th T σ1 σ3 dep) (k4 : zfld F4 th 11 = .int c5) (k5 : zfld F5 th 11 = .int c5) (e7' : zar F5 th 7 = zar F4 th 7) (e8' : zar F5 th 8 = upd (zar F4 th 8) c.toNatClampNeg r) (e10' : zar F5 th 10 = zar F4 th 10) (e9' : zar F5 th 9 = upd (zar F4 th 9) c.toNatClampNeg ac) (er : r.toInt = (rn : Int)) (ad : zAd Γ F5 th 7 106 ∧ zAd Γ F5 th 8 107 ∧ zAd Γ F5 th 10 161 ∧ zAd Γ F5 th 9 160) (hs : zsm σ0 σ1) (ht : T.1 tn = 4 ∧ ∀ i d, σ1 = .inl (i, d) → tn < i) (hw : ∀ i d, σ3 = .inl (i, d) → w.toInt = (zfc d : Int)) (hac : ∀ i d, σ3 = .inl (i, d) → ac.toInt = (zac d : Int)) : zCc Γ F F5 th T σ0 (zmap (fun _ d => zemi (zaddc d [(tn, rn, zfc d)]) 5 tn rn) σ3) dep := by
  obtain ⟨c1', c5', q1, q2, q3, q4, q5⟩ := h
  cases z_vi kc1 q1
  cases z_vi k4 q2
  refine ⟨c, c5, kc, k5, ⟨h0, by omega⟩, ad, fun j d' e => ?_⟩
  match σ3, q5, hw, hac, e with
  | .inr k, _, _, _, e => cases e
  | .inl (j3, d3), q5, hw, hac, e =>
    have e : (Sum.inl (j3, zemi (zaddc d3 [(tn, rn, zfc d3)]) 5 tn rn) : zSg) = .inl (j, d') := e
    injection e with e
    injection e with ej ed
    subst ej
    subst ed
    have hw := hw j3 d3 rfl
    have hac := hac j3 d3 rfl
    obtain ⟨m1, i1, d1, new, g1, g2, g3, w1, w2, w3, w4⟩ := q5 j3 d3 rfl
    obtain ⟨i0, g4, g5⟩ := hs i1 d1 g1
    have ht1 := ht.2 i1 d1 g1
    have ec : (c.toNatClampNeg : Int) = c.toInt := z_cl h0
    have n7 : ∀ q : Nat, q ≠ c.toNatClampNeg → zar F2 th 7 q = zar F th 7 q := fun q hq => by
      rw [e7]
      exact if_neg hq
    have n10 : ∀ q : Nat, q ≠ c.toNatClampNeg → zar F2 th 10 q = zar F th 10 q := fun q hq => by
      rw [e10]
      exact if_neg hq
    have n8 : ∀ q : Nat, q ≠ c.toNatClampNeg → zar F5 th 8 q = zar F4 th 8 q := fun q hq => by
      rw [e8']
      exact if_neg hq
    have ve : zCe F5 th c.toNatClampNeg (tn, rn, zfc d3) := by
      refine ⟨?_, ?_, ?_⟩
      · rw [e7', (g3.2.1 _ (by omega)).1, e7, show upd (zar F th 7) c.toNatClampNeg x c.toNatClampNeg = x from if_pos rfl]
        exact ex
      · rw [e8', show upd (zar F4 th 8) c.toNatClampNeg r c.toNatClampNeg = r from if_pos rfl]
        exact er
      · rw [e10', (g3.2.1 _ (by omega)).2.2, e10, show upd (zar F th 10) c.toNatClampNeg w c.toNatClampNeg = w from if_pos rfl]
        exact hw
    have za : zac (zemi (zaddc d3 [(tn, rn, zfc d3)]) 5 tn rn) = zac d3 + 1 := rfl
    have zb : zaf (zemi (zaddc d3 [(tn, rn, zfc d3)]) 5 tn rn) = zup (zaf d3) (zac d3) (9, tn, 0) := rfl
    have n9 : ∀ q : Nat, q ≠ c.toNatClampNeg → zar F5 th 9 q = zar F4 th 9 q := fun q hq => by
      rw [e9']
      exact if_neg hq
    have v9 : zar F5 th 9 c.toNatClampNeg = ac := by
      rw [e9']
      exact if_pos rfl
    have hca : zCw F F5 th c c5 d1 (zemi (zaddc d3 [(tn, rn, zfc d3)]) 5 tn rn) := by
      obtain ⟨a1, a2, a3, a4⟩ := w4
      refine ⟨fun q hq => ?_, a2.trans (zPre.one za zb), fun q h1 h2 => ?_, fun p h1 h2 h3 => ?_⟩
      · rw [n9 q (by omega), a1 q (by omega), e9]
      · by_cases hq : q = c.toNatClampNeg
        · subst hq
          refine ⟨zac d3, by rw [v9]; exact hac, a2.1, by omega, by rw [zb, zup_self], ?_⟩
          rw [zb, zup_self]
          exact ve.1.symm
        · obtain ⟨p, b1, b2, b3, b4, b5⟩ := a3 q (by omega) h2
          refine ⟨p, by rw [n9 q hq]; exact b1, b2, by omega, ?_, ?_⟩
          · rw [zb, zup_ne _ _ (by omega)]; exact b4
          · rw [zb, zup_ne _ _ (by omega), e7']; exact b5
      · by_cases hp : p = zac d3
        · subst hp
          exact ⟨c.toNatClampNeg, by omega, by omega, by rw [v9]; exact hac⟩
        · rw [zb, zup_ne _ _ hp] at h3
          obtain ⟨q, b1, b2, b3⟩ := a4 p h1 (by omega) h3
          exact ⟨q, by omega, b2, by rw [n9 q (by omega)]; exact b3⟩
    refine ⟨m1, i0, d1, new ++ [(tn, rn, zfc d3)], g4, ?_, ⟨by omega, fun q hq => ⟨?_, ?_, ?_⟩, fun e9 => ?_⟩, fun q h1 h2 => ?_, by omega, fun e9 h9 => ?_, hca⟩
    · show zcs d3 ++ [(tn, rn, zfc d3)] = zcs d1 ++ (new ++ [(tn, rn, zfc d3)])
      rw [g2, List.append_assoc]
    · rw [e7', (g3.2.1 q (by omega)).1, n7 q (by omega)]
    · rw [n8 q (by omega), (g3.2.1 q (by omega)).2.1, e8]
    · rw [e10', (g3.2.1 q (by omega)).2.2, n10 q (by omega)]
    · rw [List.mem_append, List.mem_singleton, g3.2.2 e9]
      constructor
      · rintro (⟨q, a1, a2, a3⟩ | rfl)
        · exact ⟨q, by omega, a2, a3.cg (congrFun e7' q) (n8 q (by omega)) (congrFun e10' q)⟩
        · exact ⟨c.toNatClampNeg, by omega, by omega, ve⟩
      · rintro ⟨q, a1, a2, a3⟩
        by_cases hq : q = c.toNatClampNeg
        · subst hq
          exact Or.inr (a3.un ve)
        · exact Or.inl ⟨q, by omega, a2, a3.cg (congrFun e7' q).symm (n8 q hq).symm (congrFun e10' q).symm⟩
    · by_cases hq : q = c.toNatClampNeg
      · subst hq
        exact ⟨_, List.mem_append_right _ (List.mem_singleton.mpr rfl), ve⟩
      · obtain ⟨e9, b1, b2⟩ := w1 q (by omega) h2
        exact ⟨e9, List.mem_append_left _ b1, b2.cg (congrFun e7' q) (n8 q hq) (congrFun e10' q)⟩
    · rcases List.mem_append.mp h9 with h9 | h9
      · exact w3 e9 h9
      · rw [List.mem_singleton.mp h9]
        exact ⟨ht.1, by show tn < j3; omega⟩
theorem zcl_149 {B : Nat → Int32} {n N : Nat} {σ : zSg} {c dep : Int} (hm : ∀ i d, σ = .inl (i, d) → 4 * c + 5 ≤ zpo B n i + dep) (hk : zkd (zTo B n) N σ = 4) (hL : zLs (zTo B n) N) (hd : dep ≤ 6) (hn : n ≤ 600) : c ≤ 149 := by
  match σ, hm, hk with
  | .inl (i, d), hm, hk =>
    have hk : zka B n (zpo B n i) = 4 := hk
    have h1 := hm i d rfl
    have h2 := zname_w hk
    have h3 := zte_n (B := B) (n := n) (a := zpo B n i) (zpo_n B n i).2
    omega
  | .inr k, hm, hk =>
    have hk : (zTo B n).1 (N - 1) = 4 := hk
    have := hL.2.2
    omega
theorem znx_tn {N : Nat} {σ : zSg} : ∀ i d, σ = .inl (i, d) → i = (znx N σ).toNat := fun i d e => by
  subst e
  show i = ((i : Nat) : Int).toNat
  omega
theorem zss.nx {N : Nat} {σ σ' : zSg} (h : zss σ σ') (h1 : zok N σ) (h2 : zok N σ') : znx N σ ≤ znx N σ' := by
  match σ', h, h2 with
  | .inl (j, d'), h, h2 =>
    obtain ⟨i, d, e, g, -⟩ := h j d' rfl
    subst e
    show (i : Int) ≤ (j : Int)
    omega
  | .inr k, h, h2 =>
    match σ, h1 with
    | .inl (i, d), h1 =>
      have h1 : i < N := h1
      show (i : Int) ≤ (N : Int) - 1
      omega
    | .inr q, _ => exact Int.le_refl _
theorem zsl.nx {N : Nat} {σ σ' : zSg} (h : zsl σ σ') (h1 : zok N σ) (h2 : zok N σ') : znx N σ ≤ znx N σ' := by
  match σ', h, h2 with
  | .inl (j, d'), h, h2 =>
    obtain ⟨i, d, e, g, -⟩ := h j d' rfl
    subst e
    show (i : Int) ≤ (j : Int)
    omega
  | .inr k, h, h2 =>
    match σ, h1 with
    | .inl (i, d), h1 =>
      have h1 : i < N := h1
      show (i : Int) ≤ (N : Int) - 1
      omega
    | .inr q, _ => exact Int.le_refl _
theorem zop_bad {T : zTS} {N : Nat} {a : Int} {σ : zSg} (h : 6 ≤ a) : ∃ q, zop T N a σ = .inr q := by
  unfold zop
  split
  · rw [if_neg (by omega)]
    exact zfl_bad _ _
  · exact zfl_bad _ _
theorem zSy_eq {c a b m a' b' m' : Nat} (h1 : a = a') (h2 : b = b') (h3 : m = m') : ((c, a, b, m) : zSy) = (c, a', b', m') := by rw [h1, h2, h3]
theorem zRc.cg {T : zTS} {σ σ1 : zSg} {Xs Ys : List zSy} {Y Y' : zSy} (h : zRc T σ Xs σ1 (Y :: Ys)) (e : Y = Y') : zRc T σ Xs σ1 (Y' :: Ys) := by rw [← e]; exact h
theorem zRc.x {T : zTS} {σ σ1 : zSg} {Ys : List zSy} {Y Y' : zSy} (h : zRc T σ [Y] σ1 Ys) (e : Y = Y') : zRc T σ [Y'] σ1 Ys := by rw [← e]; exact h
theorem zss.bad {σ σ' : zSg} (h : ∃ q, σ' = .inr q) : zss σ σ' := fun j d' e => by
  obtain ⟨q, rfl⟩ := h
  cases e
theorem zRc.badY {T : zTS} {σ σ1 : zSg} {Xs Ys Zs : List zSy} (h : zRc T σ Xs σ1 Ys) (hb : ∃ q, σ1 = .inr q) : zRc T σ Xs σ1 Zs := by
  obtain ⟨q, rfl⟩ := hb
  exact h
theorem zbad_adv {σ : zSg} (h : ∃ q, σ = .inr q) : ∃ q, zadv σ = .inr q := by
  obtain ⟨q, rfl⟩ := h
  exact ⟨q, rfl⟩
theorem zss.stay {σ σ' : zSg} (h : zss σ σ') (hb : ∃ q, σ = .inr q) : ∃ q, σ' = .inr q := by
  obtain ⟨q, rfl⟩ := hb
  match σ', h with
  | .inl (j, d'), h =>
    obtain ⟨i, d, e, -⟩ := h j d' rfl
    cases e
  | .inr k, _ => exact ⟨k, rfl⟩
theorem zC1.map {F : Nat → va_E} {th N : Nat} {σ : zSg} {f : Nat → zDat → zDat} (h : zC1 F th N σ) : zC1 F th N (zmap f σ) := by
  match σ, h with
  | .inl (i, d), h => exact h
  | .inr k, h => exact h
theorem zEL.addc {d : zDat} {a b : Nat} : zEL d (zemi (zaddc d [(a, b, zfc d)]) 5 a b) := ⟨rfl, rfl, rfl, rfl, rfl, rfl, rfl, rfl, [(a, b, zfc d)], rfl, fun e he => by rw [List.mem_singleton.mp he]⟩
theorem zEL.X {d : zDat} {x : zXt} : zEL d (zsX d x) := ⟨rfl, rfl, rfl, rfl, rfl, rfl, rfl, rfl, zNwc.eq rfl⟩
theorem zlk_v {k r : Int} (h : (k = 3 ∧ r = 0) ∨ (k = 6 ∧ r = 1) ∨ (k = 7 ∧ r = 2) ∨ (k = 8 ∧ r = 3) ∨ (k = 10 ∧ r = 4) ∨ (k ≠ 3 ∧ k ≠ 6 ∧ k ≠ 7 ∧ k ≠ 8 ∧ k ≠ 10 ∧ r = -1)) : r = zlk k := by
  unfold zlk
  repeat' (first | split | omega)
theorem zcl_open {B : Nat → Int32} {n N : Nat} {σ σ1 : zSg} {c c1 dep a : Int} (hm : ∀ i d, σ = .inl (i, d) → 4 * c + 5 ≤ zpo B n i + dep) (hk : zkd (zTo B n) N σ = 4) (hL : zLs (zTo B n) N) (e : zop (zTo B n) N a (zadv σ) = σ1) (hc : c1 = c + 1) : ∀ i d, σ1 = .inl (i, d) → 4 * c1 + 5 ≤ zpo B n i + (dep + 1) := by
  match σ, hm, hk, e with
  | .inr k, hm, hk, e =>
    have hk : (zTo B n).1 (N - 1) = 4 := hk
    have := hL.2.2
    omega
  | .inl (i0, d0), hm, hk, e =>
    intro i d h
    have h1 := hm i0 d0 rfl
    have hk : zka B n (zpo B n i0) = 4 := hk
    have h2 := zname_w hk
    have h3 := zpo_s B n i0
    rw [h] at e
    have e : zop (zTo B n) N a (.inl (i0 + 1, d0)) = .inl (i, d) := e
    unfold zop at e
    by_cases q : zkd (zTo B n) N (.inl (i0 + 1, d0)) = 40
    · rw [if_pos q] at e
      by_cases q2 : a < 6
      · rw [if_pos q2] at e
        have e : (Sum.inl (i0 + 1 + 1, d0) : zSg) = .inl (i, d) := e
        injection e with e
        injection e with e1 e2
        subst e1
        have q : zka B n (zpo B n (i0 + 1)) = 40 := q
        have h4 := zka_w (B := B) (n := n) (a := zpo B n (i0 + 1)) (by omega) (by omega)
        have h5 := zpo_s B n (i0 + 1)
        omega
      · rw [if_neg q2] at e
        cases e
    · rw [if_neg q] at e
      cases e
theorem zRc.callsL {T : zTS} {σ σ1 σ2 : zSg} {Xs Ys As Zs : List zSy} (h : zRc T σ Xs σ1 (As ++ Ys)) (h1 : zRc T σ1 As σ2 Zs) : zRc T σ Xs σ2 (Zs ++ Ys) := fun κ => by
  have h2 := h κ
  rw [List.append_assoc] at h2
  have := h2.trans (h1 (Ys ++ κ))
  rw [← List.append_assoc] at this
  exact this
/-- a Program's sixty Lines, all different -/
def zLS (Γ : Nat → Option Nat) (F : Nat → va_E) (pr : Nat) (la : Nat → Nat) : Prop := ∃ ar, zfld F pr 3 = .ref ar ∧ Γ ar = some 105 ∧ (∀ l, l < 60 → zre F ar l = some (la l) ∧ Γ (la l) = some 4) ∧ ∀ l g, l < 60 → g < 60 → la l = la g → l = g
theorem zLS.fr {Γ : Nat → Option Nat} {M : List Nat} {F u : Nat → va_E} {pr : Nat} {la : Nat → Nat} (h : zLS Γ F pr la) (hf : zFr Γ M F u) (hp : Γ pr = some 6) (hM : 603 ∉ M ∧ 10500 ∉ M) : zLS Γ u pr la := by
  obtain ⟨ar, h1, h2, h3, h4⟩ := h
  refine ⟨ar, hf.f hp 3 ⟨by decide, hM.1⟩ h1, h2, fun l hl => ⟨?_, (h3 l hl).2⟩, h4⟩
  have e := (hf.1 ar 105 h2).2 (by decide) hM.2
  unfold zre
  rw [e]
  exact (h3 l hl).1
theorem zLS.at {Γ : Nat → Option Nat} {F : Nat → va_E} {pr ar b : Nat} {la : Nat → Nat} {i : Int32} (h : zLS Γ F pr la) (k : zfld F pr 3 = .ref ar) (e : zre F ar i.toNatClampNeg = some b) (hi : 0 ≤ i.toInt ∧ i.toInt < 60) : b = la i.toInt.toNat := by
  obtain ⟨ar', h1, -, h3, -⟩ := h
  cases Value.ref.inj (h1.symm.trans k)
  have h5 := (h3 i.toNatClampNeg (by rw [Int32.toNatClampNeg]; omega)).1
  rw [e] at h5
  injection h5
theorem zLS.ty {Γ : Nat → Option Nat} {F : Nat → va_E} {pr : Nat} {la : Nat → Nat} (h : zLS Γ F pr la) {l : Nat} (hl : l < 60) : Γ (la l) = some 4 := by
  obtain ⟨ar, -, -, h3, -⟩ := h
  exact (h3 l hl).2
theorem zLS.ne {Γ : Nat → Option Nat} {F : Nat → va_E} {pr : Nat} {la : Nat → Nat} (h : zLS Γ F pr la) {l g : Nat} (hl : l < 60) (hg : g < 60) (hn : l ≠ g) : la l ≠ la g := by
  obtain ⟨ar, -, -, -, h4⟩ := h
  exact fun e => hn (h4 l g hl hg e)
/-- a Line as it was read: kind, function, place, blocks -/
def zL4 (F : Nat → va_E) (b : Nat) (q : Int × Nat × Nat × Nat) (T : zTS) : Prop := ∃ x0 x1 x2 x3 : Int32, (zfld F b 0 = .int x0 ∧ zfld F b 1 = .int x1 ∧ zfld F b 2 = .int x2 ∧ zfld F b 3 = .int x3) ∧ x0.toInt = q.1 ∧ x1.toInt = (q.2.1 : Int) ∧ x2.toInt = T.2.1 q.2.2.1 ∧ x3.toInt = (q.2.2.2 : Int)
theorem zL4.cg {F u : Nat → va_E} {b : Nat} {q : Int × Nat × Nat × Nat} {T : zTS} (h : zL4 F b q T) (e : ∀ j, j < 4 → zfld u b j = zfld F b j) : zL4 u b q T := by
  obtain ⟨x0, x1, x2, x3, ⟨a0, a1, a2, a3⟩, g⟩ := h
  exact ⟨x0, x1, x2, x3, ⟨(e 0 (by decide)).trans a0, (e 1 (by decide)).trans a1, (e 2 (by decide)).trans a2, (e 3 (by decide)).trans a3⟩, g⟩
theorem zLoth {Γ : Nat → Option Nat} {F F4 F5 : Nat → va_E} {pr li i : Nat} {la : Nat → Nat} (h : zLS Γ F pr la) (e : li = la i) (hi : i < 60) (h4 : ∀ b, b ≠ li → F4 b = F b) (hf : zFr Γ [605] F4 F5) : ∀ l, l < 60 → l ≠ i → ∀ j, j < 4 → zfld F5 (la l) j = zfld F (la l) j := fun l hl hn j hj => by
  have e1 : F4 (la l) = F (la l) := h4 _ (by rw [e]; exact h.ne hl hi hn)
  have e2 : zfld F4 (la l) j = zfld F (la l) j := by
    unfold zfld
    rw [e1]
  exact hf.f (h.ty hl) j ⟨by decide, by simp only [List.mem_singleton]; omega⟩ e2
/-- the lines that were read -/
def zC4 (Γ : Nat → Option Nat) (F : Nat → va_E) (pr : Nat) (la : Nat → Nat) (T : zTS) (σ : zSg) : Prop := zLS Γ F pr la ∧ ∀ i d, σ = .inl (i, d) → (∃ x : Int32, zfld F pr 5 = .int x ∧ x.toInt = (zlc d : Int)) ∧ zlc d ≤ 60 ∧ ∀ l, l < zlc d → zL4 F (la l) (zln d l) T
theorem zC4.fr {Γ : Nat → Option Nat} {M : List Nat} {F u : Nat → va_E} {pr : Nat} {la : Nat → Nat} {T : zTS} {σ : zSg} (h : zC4 Γ F pr la T σ) (hf : zFr Γ M F u) (hp : Γ pr = some 6) (hM : (605 ∉ M ∧ 603 ∉ M ∧ 10500 ∉ M) ∧ 400 ∉ M ∧ 401 ∉ M ∧ 402 ∉ M ∧ 403 ∉ M) : zC4 Γ u pr la T σ := by
  obtain ⟨⟨m5, m3, ma⟩, n0, n1, n2, n3⟩ := hM
  refine ⟨h.1.fr hf hp ⟨m3, ma⟩, fun i d e => ?_⟩
  obtain ⟨⟨x, h1, h2⟩, h3, h4⟩ := h.2 i d e
  refine ⟨⟨x, hf.f hp 5 ⟨by decide, m5⟩ h1, h2⟩, h3, fun l hl => (h4 l hl).cg (fun j hj => ?_)⟩
  have hq : j = 0 ∨ j = 1 ∨ j = 2 ∨ j = 3 := by omega
  have ht := h.1.ty (l := l) (by omega)
  rcases hq with rfl | rfl | rfl | rfl
  · exact hf.f ht 0 ⟨by decide, n0⟩ rfl
  · exact hf.f ht 1 ⟨by decide, n1⟩ rfl
  · exact hf.f ht 2 ⟨by decide, n2⟩ rfl
  · exact hf.f ht 3 ⟨by decide, n3⟩ rfl
theorem zC4.st {Γ : Nat → Option Nat} {F : Nat → va_E} {pr : Nat} {la : Nat → Nat} {T : zTS} {σ σ1 : zSg} (h : zC4 Γ F pr la T σ) (hs : ∀ j d', σ1 = .inl (j, d') → ∃ i d, σ = .inl (i, d) ∧ zlc d' = zlc d ∧ zln d' = zln d) : zC4 Γ F pr la T σ1 := by
  refine ⟨h.1, fun j d' e => ?_⟩
  obtain ⟨i, d, e1, g1, g2⟩ := hs j d' e
  rw [g1, g2]
  exact h.2 i d e1
theorem zC4.ss {Γ : Nat → Option Nat} {F : Nat → va_E} {pr : Nat} {la : Nat → Nat} {T : zTS} {σ σ1 : zSg} (h : zC4 Γ F pr la T σ) (hs : zss σ σ1) : zC4 Γ F pr la T σ1 := h.st (fun j d' e => by
  obtain ⟨i, d, e1, -, e2⟩ := hs j d' e
  exact ⟨i, d, e1, e2.2.2.2.2.2.1, e2.2.2.2.2.2.2.1⟩)
theorem zC4.k {Γ : Nat → Option Nat} {F : Nat → va_E} {pr : Nat} {la : Nat → Nat} {T : zTS} {σ : zSg} {x : Int32} (h : zC4 Γ F pr la T σ) (k : zfld F pr 5 = .int x) : ∀ i d, σ = .inl (i, d) → x.toInt = (zlc d : Int) := fun i d e => by
  obtain ⟨⟨y, h1, h2⟩, -⟩ := h.2 i d e
  cases z_vi k h1
  exact h2
theorem zC4.sm {Γ : Nat → Option Nat} {F : Nat → va_E} {pr : Nat} {la : Nat → Nat} {T : zTS} {σ σ1 : zSg} (h : zC4 Γ F pr la T σ) (hs : zsm σ σ1) : zC4 Γ F pr la T σ1 := h.ss hs.ss
theorem zC4.fl {Γ : Nat → Option Nat} {F : Nat → va_E} {pr : Nat} {la : Nat → Nat} {T : zTS} {σ : zSg} {k : Int} (hl : zLS Γ F pr la) : zC4 Γ F pr la T (zfl k σ) := ⟨hl, fun i d e => by
  obtain ⟨q, h⟩ := zfl_bad k σ
  rw [h] at e
  cases e⟩
theorem zadm {f : Nat → zDat → zDat} {σ : zSg} {j : Nat} {d' : zDat} (h : zadv (zmap f σ) = .inl (j, d')) : ∃ i d, σ = .inl (i, d) ∧ j = i + 1 ∧ d' = f i d := by
  match σ, h with
  | .inl (i, d), h =>
    have h : (Sum.inl (i + 1, f i d) : zSg) = .inl (j, d') := h
    injection h with h
    injection h with h1 h2
    exact ⟨i, d, rfl, h1.symm, h2.symm⟩
  | .inr k, h => cases h
theorem zC4.add {Γ : Nat → Option Nat} {F u : Nat → va_E} {pr a b : Nat} {la : Nat → Nat} {T : zTS} {σ : zSg} {k : Int} {x y : Int32} (h : zC4 Γ F pr la T σ) (kx : zfld F pr 5 = .int x) (hls : zLS Γ u pr la) (ky : zfld u pr 5 = .int y) (e : y.toInt = x.toInt + 1) (h0 : 0 ≤ x.toInt ∧ x.toInt < 60) (hb : ∀ i d, σ = .inl (i, d) → zL4 u (la x.toInt.toNat) (k, zfc d, i, a) T) (ho : ∀ l, l < 60 → l ≠ x.toInt.toNat → ∀ j, j < 4 → zfld u (la l) j = zfld F (la l) j) : zC4 Γ u pr la T (zadv (zmap (fun i d => zaddl d k i a b) σ)) := by
  refine ⟨hls, fun j d' h9 => ?_⟩
  obtain ⟨i, d, e1, e2, e3⟩ := zadm h9
  have hk := h.k kx i d e1
  obtain ⟨-, h3, h4⟩ := h.2 i d e1
  have ec : zlc d' = zlc d + 1 := by
    rw [e3]
    rfl
  have en : zln d' = zup (zln d) (zlc d) (k, zfc d, i, a) := by
    rw [e3]
    rfl
  refine ⟨⟨y, ky, by rw [ec]; omega⟩, by omega, fun l hl => ?_⟩
  rw [en]
  by_cases c : l = zlc d
  · subst c
    rw [zup_self]
    have := hb i d e1
    rw [show x.toInt.toNat = zlc d by omega] at this
    exact this
  · rw [zup_ne _ _ c]
    exact (h4 l (by omega)).cg (fun j hj => ho l (by omega) (by omega) j hj)
theorem zadm_cs {f : Nat → zDat → zDat} (hf : ∀ i d, zcs (f i d) = zcs d ∧ zNc d (f i d)) {σ : zSg} : ∀ j d', zadv (zmap f σ) = .inl (j, d') → ∃ i d, σ = .inl (i, d) ∧ i ≤ j ∧ zcs d' = zcs d ∧ zNc d d' := fun j d' h => by
  obtain ⟨i, d, e1, e2, e3⟩ := zadm h
  exact ⟨i, d, e1, by omega, by rw [e3]; exact hf i d⟩
theorem zsl.adm {f : Nat → zDat → zDat} (hf : ∀ i d, zEF d (f i d)) {σ : zSg} : zsl σ (zadv (zmap f σ)) := fun j d' h => by
  obtain ⟨i, d, e1, e2, e3⟩ := zadm h
  exact ⟨i, d, e1, by omega, by rw [e3]; exact hf i d⟩
theorem zss.adm {f : Nat → zDat → zDat} (hf : ∀ i d, zEL d (f i d)) {σ : zSg} : zss σ (zadv (zmap f σ)) := fun j d' h => by
  obtain ⟨i, d, e1, e2, e3⟩ := zadm h
  exact ⟨i, d, e1, by omega, by rw [e3]; exact hf i d⟩
theorem zkd_map {T : zTS} {N : Nat} {f : Nat → zDat → zDat} {σ : zSg} : zkd T N (zmap f σ) = zkd T N σ := by
  match σ with
  | .inl (i, d) => rfl
  | .inr k => rfl
theorem zC1.adm {Γ : Nat → Option Nat} {M : List Nat} {F u : Nat → va_E} {th N : Nat} {σ : zSg} {T : zTS} {x x1 : Int32} {f : Nat → zDat → zDat} (h : zC1 F th N σ) (hf : zFr Γ M F u) (ht : Γ th = some 7) (hM : 701 ∉ M) (k : zfld F th 6 = .int x) (k1 : zfld u th 6 = .int x1) (e : x1.toInt = x.toInt + 1) (hT : zLs T N) (hk : zkd T N σ ≠ 0 ∧ zkd T N σ ≠ 1) : zC1 u th N (zadv (zmap f σ)) :=
  (h.map (f := f)).adv hf ht hM k k1 e hT (by rw [zkd_map]; exact hk)
theorem zEF.addl {d : zDat} {k : Int} {t n b : Nat} : zEF d (zaddl d k t n b) := ⟨rfl, rfl, rfl, rfl, rfl, rfl, zNwc.eq rfl⟩
section
variable {T : zTS} {N : Nat} {σ σ1 : zSg} {Xs Ys : List zSy} {a b : Nat} {k : Int}
theorem zRc.lineS' (h : zRc T σ Xs σ1 ((8, a, b, 0) :: Ys)) (hk : zlk (zkd T N σ1) = k) (h0 : k = 0) {n t : Nat} (hf : ∀ i d, σ1 = .inl (i, d) → zlc d < 60 ∧ zlc d = n) (ht : ∀ i d, σ1 = .inl (i, d) → i = t) : zRc T σ Xs (zadv (zmap (fun i d => zaddl d k i a b) σ1)) ((6, 61, 0, 0) :: (13, 0, 0, 0) :: (24, t, n, 0) :: Ys) := by
  subst h0
  exact h.lineS hk hf ht
theorem zRc.lineI' (h : zRc T σ Xs σ1 ((8, a, b, 0) :: Ys)) (hk : zlk (zkd T N σ1) = k) (h0 : k = 3) {n : Nat} (hf : ∀ i d, σ1 = .inl (i, d) → zlc d < 60 ∧ zlc d = n) : zRc T σ Xs (zadv (zmap (fun i d => zaddl d k i a b) σ1)) ((11, 0, 0, 0) :: (25, a, n, 0) :: Ys) := by
  subst h0
  exact h.lineI hk hf
theorem zRc.lineW' (h : zRc T σ Xs σ1 ((8, a, b, 0) :: Ys)) (hk : zlk (zkd T N σ1) = k) (h0 : k = 4) {n q : Nat} (hf : ∀ i d, σ1 = .inl (i, d) → zlc d < 60 ∧ zlc d = n) (hq : ∀ i d, σ1 = .inl (i, d) → zac d + 1 = q) : zRc T σ Xs (zadv (zmap (fun i d => zaddl d k i a b) σ1)) ((11, 0, 0, 0) :: (26, a, n, q) :: Ys) := by
  subst h0
  exact h.lineW hk hf hq
end
theorem zcl_tn {B : Nat → Int32} {n N : Nat} {σ σ1 : zSg} {a : Int} (hk : zkd (zTo B n) N σ = 4) (hL : zLs (zTo B n) N) (e : zop (zTo B n) N a (zadv σ) = σ1) : (zTo B n).1 (znx N σ).toNat = 4 ∧ ∀ i d, σ1 = .inl (i, d) → (znx N σ).toNat < i := by
  refine ⟨by rw [zkd_nx]; exact hk, fun i d h => ?_⟩
  match σ, hk, e with
  | .inr k, hk, e =>
    have hk : (zTo B n).1 (N - 1) = 4 := hk
    have := hL.2.2
    omega
  | .inl (i0, d0), hk, e =>
    rw [h] at e
    obtain ⟨q, e1, e2⟩ := zsm.op (T := zTo B n) (N := N) (c := a) (σ := zadv (.inl (i0, d0))) i d e
    have e1 : (Sum.inl (i0 + 1, d0) : zSg) = .inl (q, d) := e1
    injection e1 with e1
    injection e1 with e3 _
    show ((i0 : Nat) : Int).toNat < i
    omega
theorem zka_w2 {B : Nat → Int32} {n : Nat} {a : Int} (h : zka B n a = 5 ∨ zka B n a = 4) : a + 2 ≤ zte B n a := by
  obtain ⟨h1, h2, h3, h4⟩ := zka_lt (Or.inr ⟨by omega, by omega⟩ : zka B n a = 3 ∨ (4 ≤ zka B n a ∧ zka B n a ≤ 10))
  have := zka_w (B := B) (n := n) (a := a) (by omega) (by omega)
  have := (h4 (by omega)).1
  omega
theorem zCc.adm2 {Γ : Nat → Option Nat} {F u : Nat → va_E} {th N : Nat} {B : Nat → Int32} {n : Nat} {σ σ1 : zSg} {dep dep' : Int} {f : Nat → zDat → zDat} (h : zCc Γ F u th (zTo B n) σ σ1 dep') (hf : ∀ i d, zcs (f i d) = zcs d ∧ zNc d (f i d)) (hk : zkd (zTo B n) N σ1 = 5 ∨ zkd (zTo B n) N σ1 = 4) (hd : dep' = dep + 2) : zCc Γ F u th (zTo B n) σ (zadv (zmap f σ1)) dep := by
  obtain ⟨c, c1, k1, k2, k3, k4, k5⟩ := h
  refine ⟨c, c1, k1, k2, k3, k4, fun j d' e => ?_⟩
  match σ1, hk, k5, e with
  | .inl (i, d), hk, k5, e =>
    have e : (Sum.inl (i + 1, f i d) : zSg) = .inl (j, d') := e
    injection e with e
    injection e with e1 e2
    subst e1
    subst e2
    obtain ⟨m1, i', d0, new', e4, e5, e6, w1, w2, w3, w4⟩ := k5 i d rfl
    have x1 := zka_w2 (B := B) (n := n) (a := zpo B n i) hk
    have x2 := zpo_s B n i
    have m1 : 4 * c1.toInt + 5 ≤ zpo B n i + dep' := m1
    refine ⟨?_, i', d0, new', e4, (hf i d).1.trans e5, e6, w1, by omega, fun e9 h9 => ⟨(w3 e9 h9).1, by have := (w3 e9 h9).2; omega⟩, w4.mv rfl rfl (hf i d).2⟩
    show 4 * c1.toInt + 5 ≤ zpo B n (i + 1) + dep
    omega
  | .inr k, hk, k5, e => cases e
