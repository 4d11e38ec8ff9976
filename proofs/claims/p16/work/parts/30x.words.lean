/-! The reference's run and the pure machine. -/
def zRb (Γ : Nat → Option Nat) (F : Nat → va_E) (pr : Nat) (T : zTS) (V : Nat → Int) (d : zDat) : Prop := zSA Γ F pr ∧ zRX F pr T V d ∧ zRM F pr T d
theorem zRb.fr {Γ : Nat → Option Nat} {M : List Nat} {F u : Nat → va_E} {pr : Nat} {T : zTS} {V : Nat → Int} {d : zDat} (h : zRb Γ F pr T V d) (hf : zFr Γ M F u) (hp : Γ pr = some 11) (hM : zXM M ∧ (1100 ∉ M ∧ 1101 ∉ M) ∧ (13300 ∉ M ∧ 13400 ∉ M ∧ 13500 ∉ M ∧ 13600 ∉ M) ∧ 12400 ∉ M ∧ 12600 ∉ M ∧ 12700 ∉ M ∧ 12800 ∉ M ∧ 12500 ∉ M) : zRb Γ u pr T V d :=
  ⟨h.1.fr hf hM.1.1, h.2.1.fr h.1 hf hp hM.1, h.2.2.fr h.1 hf hp ⟨hM.1.1, hM.2⟩⟩
def zVe (F : Nat → va_E) (wk : Nat) (m : zVm) : Prop := zFi F wk 2 (vst m) ∧ zfld F wk 6 = .long (vcv m) ∧ zFi F wk 3 (vsc m) ∧ zar F wk 7 = vsd m ∧ zFi F wk 4 (vtc m) ∧ zar F wk 8 = vtr m ∧ zFi F wk 5 (vmx m) ∧ zar F wk 9 = vpl m
def zVr (F : Nat → va_E) (th wk : Nat) (m : zVm) : Prop := zVe F wk m ∧ zFi F th 27 (vdp m) ∧ zFi F th 26 ((vsk m).length : Int) ∧ vsk m = zvls (zar F th 25) (vsk m).length
section
variable {F : Nat → va_E} {th wk : Nat} {m : zVm}
theorem zVr.st (h : zVr F th wk m) : zFi F wk 2 (vst m) := h.1.1
theorem zVr.cv (h : zVr F th wk m) : zfld F wk 6 = .long (vcv m) := h.1.2.1
theorem zVr.sc (h : zVr F th wk m) : zFi F wk 3 (vsc m) := h.1.2.2.1
theorem zVr.sd (h : zVr F th wk m) : zar F wk 7 = vsd m := h.1.2.2.2.1
theorem zVr.tc (h : zVr F th wk m) : zFi F wk 4 (vtc m) := h.1.2.2.2.2.1
theorem zVr.tr (h : zVr F th wk m) : zar F wk 8 = vtr m := h.1.2.2.2.2.2.1
theorem zVr.mx (h : zVr F th wk m) : zFi F wk 5 (vmx m) := h.1.2.2.2.2.2.2.1
theorem zVr.pl (h : zVr F th wk m) : zar F wk 9 = vpl m := h.1.2.2.2.2.2.2.2
theorem zVr.dp (h : zVr F th wk m) : zFi F th 27 (vdp m) := h.2.1
theorem zVr.tp (h : zVr F th wk m) : zFi F th 26 ((vsk m).length : Int) := h.2.2.1
theorem zVr.sk (h : zVr F th wk m) : vsk m = zvls (zar F th 25) (vsk m).length := h.2.2.2
end
theorem zVr.fr {Γ : Nat → Option Nat} {k : Nat → ClassId} {L M : List Nat} {F u : Nat → va_E} {th wk : Nat} {m : zVm} (h : zVr F th wk m) (hI : zInv Γ k L F) (ha : Γ th = some 14) (hw : Γ wk = some 12) (hf : zFr Γ M F u) (hM : (1202 ∉ M ∧ 1203 ∉ M ∧ 1204 ∉ M ∧ 1205 ∉ M ∧ 1206 ∉ M ∧ 1207 ∉ M ∧ 1208 ∉ M ∧ 1209 ∉ M) ∧ (16500 ∉ M ∧ 16600 ∉ M ∧ 16700 ∉ M) ∧ 1425 ∉ M ∧ 1426 ∉ M ∧ 1427 ∉ M ∧ 15000 ∉ M) : zVr u th wk m := by
  obtain ⟨⟨c2, c3, c4, c5, c6, c7, c8, c9⟩, ⟨a5, a6, a7⟩, d5, d6, d7, d0⟩ := hM
  refine ⟨⟨h.st.fr hf hw ⟨by decide, c2⟩, hf.f hw 6 ⟨by decide, c6⟩ h.cv, h.sc.fr hf hw ⟨by decide, c3⟩, ?_, h.tc.fr hf hw ⟨by decide, c4⟩, ?_, h.mx.fr hf hw ⟨by decide, c5⟩, ?_⟩, h.dp.fr hf ha ⟨by decide, d7⟩, h.tp.fr hf ha ⟨by decide, d6⟩, ?_⟩
  · rw [zVa (j := 7) (c := 165) hI hw hf ⟨by decide, rfl⟩ ⟨⟨by decide, c7⟩, by decide, a5⟩]; exact h.sd
  · rw [zVa (j := 8) (c := 166) hI hw hf ⟨by decide, rfl⟩ ⟨⟨by decide, c8⟩, by decide, a6⟩]; exact h.tr
  · rw [zVa (j := 9) (c := 167) hI hw hf ⟨by decide, rfl⟩ ⟨⟨by decide, c9⟩, by decide, a7⟩]; exact h.pl
  · rw [zVa (j := 25) (c := 150) hI ha hf ⟨by decide, rfl⟩ ⟨⟨by decide, d5⟩, by decide, d0⟩]; exact h.sk
/-- the way from μ to m, its call's frame as it was -/
def zWk (R fuel : Int) (pg : zPg) (A : Nat → Nat × Int × Nat) (n : Nat) (c : Int) (μ m : zVm) : Prop := zGo R fuel pg A n c μ m ∧ vgo m = true ∧ vdp m = vdp μ ∧ (∀ j, j < vdp μ → vbk m j = vbk μ j) ∧ zcm (vcv μ) (vcv m)
section
variable {R fuel : Int} {pg : zPg} {A : Nat → Nat × Int × Nat} {n : Nat} {c c1 c2 : Int}
theorem zWk.rf {m : zVm} (h : vgo m = true) (hc : 0 ≤ c) : zWk R fuel pg A n c m m := ⟨zGo.rf hc, h, rfl, fun _ _ => rfl, zcm.rf⟩
theorem zWk.trans {a b e : zVm} (h : zWk R fuel pg A n c a b) (g : zWk R fuel pg A n c1 b e) (hc : c + c1 ≤ c2) : zWk R fuel pg A n c2 a e := ⟨h.1.trans g.1 hc, g.2.1, g.2.2.1.trans h.2.2.1, fun j hj => (g.2.2.2.1 j (by rw [h.2.2.1]; exact hj)).trans (h.2.2.2.1 j hj), h.2.2.2.2.trans g.2.2.2.2⟩
theorem zWk.w {a b : zVm} (h : zWk R fuel pg A n c a b) (hc : c ≤ c1) : zWk R fuel pg A n c1 a b := ⟨h.1.w hc, h.2⟩
/-- one turn -/
theorem zWk.one {a b : zVm} (h : v_run R fuel pg A n 1 a = b) (hs : vst b = vst a) (hg : vgo b = true) (hd : vdp b = vdp a) (hb : vbk b = vbk a) (hc : vcv b = vcv a) (h1 : 1 ≤ c) : zWk R fuel pg A n c a b := ⟨⟨1, by rw [hs]; omega, h⟩, hg, hd, fun j _ => by rw [hb], by rw [hc]; exact zcm.rf⟩
/-- a run that stopped -/
def zTh (R fuel : Int) (pg : zPg) (A : Nat → Nat × Int × Nat) (n : Nat) (c : Int) (F : Nat → va_E) (wk : Nat) (k : Int) (w : Option Int32) (μ : zVm) : Prop := ∃ m, zGo R fuel pg A n c μ m ∧ vgo m = false ∧ ven m = k ∧ (∀ x, w = some x → vvl m = x) ∧ zVe F wk m
theorem zTh.pre {F : Nat → va_E} {wk : Nat} {k : Int} {w : Option Int32} {a b : zVm} (h : zGo R fuel pg A n c a b) (g : zTh R fuel pg A n c1 F wk k w b) (hc : c + c1 ≤ c2) : zTh R fuel pg A n c2 F wk k w a := by
  obtain ⟨m, g1, g2⟩ := g
  exact ⟨m, h.trans g1 hc, g2⟩
end
theorem v_note_put {m : zVm} {a b c e x : Int32} {k : Int} : v_note (v_put m k x) a b c e = v_put (v_note m a b c e) k x := by
  have hx : v_ix (v_note m a b c e) k = v_ix m k := rfl
  by_cases h : 0 ≤ v_ix m k ∧ v_ix m k < 64
  · rw [zv_putin h, zv_putin (by rw [hx]; exact h)]
    rfl
  · rw [zv_putout (by omega), zv_putout (by rw [hx]; omega)]
/-- what the reference finds behind a line, step by step -/
theorem zbh_st {R : Int} {d : zDat} (hK : zjk d) : ∀ (n k l : Nat), l < n → l < k → l < zlc d → zbh R d n l = zbh R d k l
  | 0, _, _, h, _, _ => absurd h (Nat.not_lt_zero _)
  | _, 0, _, _, h, _ => absurd h (Nat.not_lt_zero _)
  | n + 1, k + 1, l, h, h', hl => by
    unfold zbh
    by_cases c : znl d l ≠ 0
    · rw [if_pos c, if_pos c]
    · rw [if_neg c, if_neg c]
      have := (hK l hl).1
      match hz : zro d l with
      | 0 => rfl
      | a + 1 =>
        show (if zkl d a = 4 ∧ R ≠ 2 then a + 1 else zbh R d n a) = (if zkl d a = 4 ∧ R ≠ 2 then a + 1 else zbh R d k a)
        rw [zbh_st hK n k a (by omega) (by omega) (by omega)]
def zbe (R : Int) (d : zDat) (l : Nat) : Nat := zbh R d (l + 1) l
theorem zbe_n {R : Int} {d : zDat} {l : Nat} (h : znl d l ≠ 0) : zbe R d l = znl d l := by
  unfold zbe zbh
  exact if_pos h
theorem zbe_0 {R : Int} {d : zDat} {l : Nat} (h : znl d l = 0) (hr : zro d l = 0) : zbe R d l = 0 := by
  unfold zbe zbh
  rw [if_neg (by omega), hr]
theorem zbe_w {R : Int} {d : zDat} {l a : Nat} (h : znl d l = 0) (hr : zro d l = a + 1) (hk : zkl d a = 4 ∧ R ≠ 2) : zbe R d l = a + 1 := by
  unfold zbe zbh
  rw [if_neg (by omega), hr]
  exact if_pos hk
theorem zbe_u {R : Int} {d : zDat} {l a : Nat} (hK : zjk d) (hl : l < zlc d) (h : znl d l = 0) (hr : zro d l = a + 1) (hk : ¬ (zkl d a = 4 ∧ R ≠ 2)) : zbe R d l = zbe R d a := by
  unfold zbe
  have h0 := (hK l hl).1
  show zbh R d (l + 1) l = _
  rw [show zbh R d (l + 1) l = zbh R d l a by
    conv => lhs; unfold zbh
    rw [if_neg (by omega), hr]
    exact if_neg hk]
  exact zbh_st hK _ _ _ (by omega) (by omega) (by omega)
/-- a test's value -/
theorem v_both01 {R : Int} {s : Nat} {a b : Int32} (h : 6 ≤ s) : v_both R s a b = 0 ∨ v_both R s a b = 1 := by
  unfold v_both
  rw [if_neg (by omega), if_neg (by omega), if_neg (by omega)]
  split
  · split
    · exact Or.inr rfl
    · exact Or.inl rfl
  · split
    · split
      · exact Or.inr rfl
      · exact Or.inl rfl
    · split
      · exact Or.inr rfl
      · exact Or.inl rfl
/-- places filled one after the other -/
def zpu (a : Nat → Nat) (x : Nat → Int32) : Nat → (Nat → Int32) → Nat → Int32
  | 0, g => g
  | n + 1, g => vup (zpu a x n g) (a n) (x n)
theorem vup_comm {g : Nat → Int32} {i j : Nat} {x y : Int32} (h : i ≠ j) : vup (vup g i x) j y = vup (vup g j y) i x := by
  funext k
  show (if k = j then y else if k = i then x else g k) = (if k = i then x else if k = j then y else g k)
  by_cases c1 : k = j
  · rw [if_pos c1, if_neg (by omega), if_pos c1]
  · rw [if_neg c1, if_neg c1]
theorem zpu_up {a : Nat → Nat} {x : Nat → Int32} {b : Nat} {y : Int32} : ∀ (n : Nat) (g : Nat → Int32), (∀ i, i < n → a i ≠ b) → zpu a x n (vup g b y) = vup (zpu a x n g) b y
  | 0, _, _ => rfl
  | n + 1, g, h => by
    show vup (zpu a x n (vup g b y)) (a n) (x n) = vup (vup (zpu a x n g) (a n) (x n)) b y
    rw [zpu_up n g (fun i hi => h i (by omega)), vup_comm (Ne.symm (h n (by omega)))]
/-- what a call takes off the stack, upwards -/
theorem v_take_up {pg : zPg} {f D b : Nat} {p : Nat → Int32} (hD : 1 ≤ D ∧ D ≤ 8) : ∀ (n : Nat) (m : zVm), vdp m = D → (∀ i, i < n → 0 ≤ pg.2.1 f i ∧ pg.2.1 f i < 8) → (∀ i j, i < j → j < n → pg.2.1 f i ≠ pg.2.1 f j) → vsk m = zvls p (b + n) → v_take pg f n m = v_sk (v_pl m (zpu (fun i => (D - 1) * 8 + (pg.2.1 f i).toNat) (fun i => p (b + i)) n (vpl m))) (zvls p b)
  | 0, m, _, _, _, hs => by
    show m = v_sk m (zvls p b)
    have hs : vsk m = zvls p b := hs
    rw [← hs]
    rfl
  | n + 1, m, hd, hr, hq, hs => by
    show v_take pg f n (v_put (v_pop m) (pg.2.1 f n) (v_top m)) = _
    have h1 := hr n (by omega)
    have hx : v_ix (v_pop m) (pg.2.1 f n) = (((D - 1) * 8 + (pg.2.1 f n).toNat : Nat) : Int) := by
      show ((vdp m : Int) - 1) * 8 + pg.2.1 f n = _
      rw [hd]
      omega
    have ht : v_top m = p (b + n) := by
      show (vsk m).headD 0 = _
      rw [hs]
      rfl
    have hpop : vsk (v_pop m) = zvls p (b + n) := by
      show (vsk m).tail = _
      rw [hs]
      rfl
    rw [zv_putin (by rw [hx]; omega), hx, ht, Int.toNat_natCast]
    rw [v_take_up hD n (v_pl (v_pop m) (vup (vpl (v_pop m)) ((D - 1) * 8 + (pg.2.1 f n).toNat) (p (b + n)))) hd (fun i hi => hr i (by omega)) (fun i j g1 g2 => hq i j g1 (by omega)) hpop]
    show v_sk (v_pl (v_pl (v_pop m) _) (zpu _ _ n (vup (vpl m) _ _))) (zvls p b) = _
    rw [zpu_up n (vpl m) (fun i hi => by
      have := hq i n hi (by omega)
      have h2 := hr i (by omega)
      show (D - 1) * 8 + (pg.2.1 f i).toNat ≠ (D - 1) * 8 + (pg.2.1 f n).toNat
      omega)]
    rfl
/-! a text's data, its program, a line's row -/
def zPgd (d : zDat) : zPg := ((zfc d, zpc d), zpl d, zfa d)
def zTd (d : zDat) : Prop := zWh d ∧ zjk d ∧ zdi d ∧ ∀ k, k < zic d → (zitf d k).1 < 9
theorem zRb.lc {Γ : Nat → Option Nat} {F : Nat → va_E} {pr : Nat} {T : zTS} {V : Nat → Int} {d : zDat} (h : zRb Γ F pr T V d) {x : Int32} (k : zfld F pr 1 = .int x) : x.toInt = (zlc d : Int) := zFi.is h.2.2.2.1 k
theorem zRb.ic {Γ : Nat → Option Nat} {F : Nat → va_E} {pr : Nat} {T : zTS} {V : Nat → Int} {d : zDat} (h : zRb Γ F pr T V d) {x : Int32} (k : zfld F pr 2 = .int x) : x.toInt = (zic d : Int) := zFi.is h.2.1.1 k
theorem zRb.fc {Γ : Nat → Option Nat} {F : Nat → va_E} {pr : Nat} {T : zTS} {V : Nat → Int} {d : zDat} (h : zRb Γ F pr T V d) {x : Int32} (k : zfld F pr 0 = .int x) : x.toInt = (zfc d : Int) := zFi.is h.2.2.1 k
theorem zRb.row {Γ : Nat → Option Nat} {F : Nat → va_E} {pr : Nat} {T : zTS} {V : Nat → Int} {d : zDat} (h : zRb Γ F pr T V d) {ln l : Int32} (k : zfld F pr 1 = .int ln) (h0 : 0 ≤ l.toInt) (hl : l.toInt < ln.toInt) : Int32.toNatClampNeg l < zlc d ∧ (zar F pr 22 (Int32.toNatClampNeg l)).toInt = (zfr d (Int32.toNatClampNeg l) : Int) ∧ (zar F pr 23 (Int32.toNatClampNeg l)).toInt = (ztn d (Int32.toNatClampNeg l) : Int) ∧ (zar F pr 18 (Int32.toNatClampNeg l)).toInt + 1 = (znl d (Int32.toNatClampNeg l) : Int) ∧ (zar F pr 19 (Int32.toNatClampNeg l)).toInt + 1 = (zro d (Int32.toNatClampNeg l) : Int) ∧ (zar F pr 20 (Int32.toNatClampNeg l)).toInt + 1 = (zbo d (Int32.toNatClampNeg l) : Int) ∧ (zar F pr 21 (Int32.toNatClampNeg l)).toInt + 1 = (zot d (Int32.toNatClampNeg l) : Int) ∧ (zar F pr 13 (Int32.toNatClampNeg l)).toInt = zkl d (Int32.toNatClampNeg l) ∧ (zkl d (Int32.toNatClampNeg l) = 0 → (zar F pr 17 (Int32.toNatClampNeg l)).toInt = T.2.2 (ztkn d (Int32.toNatClampNeg l)) - 1) ∧ (zkl d (Int32.toNatClampNeg l) ≠ 0 → (zar F pr 17 (Int32.toNatClampNeg l)).toInt = -1) := by
  have e := h.lc k
  have hn : Int32.toNatClampNeg l < zlc d := by rw [Int32.toNatClampNeg]; omega
  obtain ⟨a2, a3, a8, a9, a0, a1, a7, a6⟩ := h.2.1.2.2.1 _ hn
  exact ⟨hn, a2, a3, a8, a9, a0, a1, (h.2.2.2.2.2.1 _ hn).1, a7, a6⟩
/-- what the reference has done of a line's items -/
def zWl (R fuel : Int) (d : zDat) (T : zTS) (V : Nat → Int) (F : Nat → va_E) (th wk : Nat) (μ : zVm) (l : Nat) (k : Int) : Prop := ∃ (m1 : zVm) (j : Nat), k = (zfr d l : Int) + j ∧ j ≤ ztn d l - zfr d l ∧ zVr F th wk m1 ∧ zWk R fuel (zPgd d) (zAa T V d) (zac d) (2 * j) μ m1 ∧ vnx m1 = zpa d l + 1 + j ∧ (0 < j → 6 ≤ (zitf d (zfr d l + j - 1)).1 → v_top m1 = 0 ∨ v_top m1 = 1)
section
variable {R fuel : Int} {T : zTS} {V : Nat → Int} {d : zDat}
theorem zit_run {l j : Nat} {m : zVm} (hd : zTd d) (hl : l < zlc d) (hj : j < ztn d l - zfr d l) (hg : vgo m = true) (hm : vnx m = zpa d l + 1 + j) : v_run R fuel (zPgd d) (zAa T V d) (zac d) 1 m = v_itm R (zPgd d) T V d (zitf d (zfr d l + j)) (v_go m (vnx m + 1)) := by
  have hO := hd.1.1 l hl
  have := hO.1.2.2.2
  exact v_item hO hj (hd.2.2.2 _ (by omega)) hg hm
theorem zit_whole {e : Nat × Nat × Nat} {m : zVm} {x : Int32} (h : e.1 = 0) (hx : x.toInt = V e.2.1) (hl : (vsk m).length < 288) : v_itm R (zPgd d) T V d e m = v_sk m (x :: vsk m) := by
  unfold v_itm
  rw [if_pos h, ← hx, Int32.ofInt_toInt, zv_pushed _ hl]
theorem zit_place {e : Nat × Nat × Nat} {m : zVm} {x : Int32} (h : e.1 = 1) (hx : x = v_get m (T.2.2 e.2.1 - 1)) (hl : (vsk m).length < 288) : v_itm R (zPgd d) T V d e m = v_sk m (x :: vsk m) := by
  unfold v_itm
  rw [if_neg (by omega), if_pos h, ← hx, zv_pushed _ hl]
theorem zit_call {e : Nat × Nat × Nat} {m : zVm} {f : Int} (h : e.1 = 5) (hf : f = zfi (zfind T.2.2 (znm d) (T.2.2 e.2.1) (zfc d))) : v_itm R (zPgd d) T V d e m = v_enter (zPgd d) f m := by
  unfold v_itm
  rw [if_neg (by omega), if_neg (by omega), if_pos h, hf]
theorem zit_bin {e : Nat × Nat × Nat} {m : zVm} {x : Int32} (h : e.1 ≠ 0 ∧ e.1 ≠ 1 ∧ e.1 ≠ 5) (hx : x = v_both R (zia e.1) (v_top (v_pop m)) (v_top m)) (hl : (vsk m).length ≤ 288) (h2 : 2 ≤ (vsk m).length) : v_itm R (zPgd d) T V d e m = v_sk m (x :: (vsk m).tail.tail) := by
  unfold v_itm
  rw [if_neg h.1, if_neg h.2.1, if_neg h.2.2, ← hx, zv_pushed _ (by
    show (vsk m).tail.tail.length < 288
    rw [List.length_tail, List.length_tail]
    omega)]
  rfl
/-- the numbers on top -/
theorem zvls_2 {p : Nat → Int32} {s : List Int32} {n : Nat} (h : s = zvls p s.length) (hn : s.length = n + 2) : s.headD 0 = p (n + 1) ∧ s.tail.headD 0 = p n ∧ s.tail.tail = zvls p n := by
  rw [hn] at h
  rw [h]
  exact ⟨rfl, rfl, rfl⟩
/-- a step of a line's items -/
theorem zWl.step {F : Nat → va_E} {th wk l j : Nat} {k : Int} {μ m1 m2 : zVm} {c : Int} (hk : k = (zfr d l : Int) + j) (hj : j < ztn d l - zfr d l) (hW : zWk R fuel (zPgd d) (zAa T V d) (zac d) (2 * j) μ m1) (h2 : zWk R fuel (zPgd d) (zAa T V d) (zac d) c m1 m2) (hc : c ≤ 2) (hV : zVr F th wk m2) (hn : vnx m2 = zpa d l + 1 + (j + 1)) (ht : 6 ≤ (zitf d (zfr d l + j)).1 → v_top m2 = 0 ∨ v_top m2 = 1) {k' : Int} (hk' : k' = k + 1) : zWl R fuel d T V F th wk μ l k' :=
  ⟨m2, j + 1, by omega, by omega, hV, hW.trans h2 (by omega), hn, fun _ q => ht q⟩
/-- a line's first turn -/
theorem zln_go {l : Nat} {m : zVm} (hd : zTd d) (hl : l < zlc d) (hg : vgo m = true) (hp : vnx m = zpa d l ∨ (R ≠ 2 ∧ zkl d l = 4 ∧ vnx m < zac d ∧ zaf d (vnx m) = (14, zpa d l + 1, l) ∧ ztg d (vnx m) = 0 ∧ vcv m ||| v_bit l = vcv m)) (hs : vst m < fuel) : v_run R fuel (zPgd d) (zAa T V d) (zac d) 1 m = v_go (v_rec m (vst m + 1, vcv m ||| v_bit l, m.2.1.2.2)) (zpa d l + 1) := by
  rcases hp with hp | ⟨hR, -, h1, h2, h3, h4⟩
  · rw [v_first (hd.1.1 l hl) hg hp]
    show v_begin fuel l (v_go m (zpa d l + 1)) = _
    rw [zv_begun (show vgo (v_go m (zpa d l + 1)) = true from hg) (show vst (v_go m (zpa d l + 1)) < fuel from hs)]
    rfl
  · rw [v_one hg h1]
    have e : zAa T V d (vnx m) = (14, ((zpa d l + 1 : Nat) : Int), l) := by
      unfold zAa zKn znu zcn
      rw [h2, h3]
      rfl
    rw [e, zv_ob14, Int.toNat_natCast, zv_again1 hR (show vgo (v_go m (vnx m + 1)) = true from hg) (show vst (v_go m (vnx m + 1)) < fuel from hs), zv_spent (show vst (v_go m (vnx m + 1)) < fuel from hs), h4]
    rfl
theorem zln_stop {l : Nat} {m : zVm} (hd : zTd d) (hl : l < zlc d) (hg : vgo m = true) (hp : vnx m = zpa d l ∨ (R ≠ 2 ∧ zkl d l = 4 ∧ vnx m < zac d ∧ zaf d (vnx m) = (14, zpa d l + 1, l) ∧ ztg d (vnx m) = 0 ∧ vcv m ||| v_bit l = vcv m)) (hs : fuel ≤ vst m) : ∃ p, v_run R fuel (zPgd d) (zAa T V d) (zac d) 1 m = v_stop (v_go m p) 1 := by
  rcases hp with hp | ⟨hR, -, h1, h2, h3, h4⟩
  · refine ⟨zpa d l + 1, ?_⟩
    rw [v_first (hd.1.1 l hl) hg hp]
    show v_begin fuel l (v_go m (zpa d l + 1)) = _
    rw [zv_unbegun (show fuel ≤ vst (v_go m (zpa d l + 1)) from hs)]
  · refine ⟨vnx m + 1, ?_⟩
    rw [v_one hg h1]
    have e : zAa T V d (vnx m) = (14, ((zpa d l + 1 : Nat) : Int), l) := by
      unfold zAa zKn znu zcn
      rw [h2, h3]
      rfl
    rw [e, zv_ob14, Int.toNat_natCast, zv_again0 hR (show fuel ≤ vst (v_go m (vnx m + 1)) from hs), zv_unspent (show fuel ≤ vst (v_go m (vnx m + 1)) from hs)]
/-- a line's last turn: set, say, return -/
theorem zln_set {l : Nat} {m : zVm} {k : Int} (hd : zTd d) (hl : l < zlc d) (hg : vgo m = true) (hm : vnx m = zle d l) (hk : zkl d l = 0) (ht : k = T.2.2 (ztkn d l) - 1) : v_run R fuel (zPgd d) (zAa T V d) (zac d) 1 m = v_go (v_put (v_note (v_pop m) (Int32.ofNat l) (Int32.ofInt k) (v_get m k) (v_top m)) k (v_top m)) (zqe d l) := by
  have hO := hd.1.1 l hl
  rw [v_last hO hg hm]
  obtain ⟨-, -, -, b7⟩ := hO
  rcases b7 with ⟨-, e, e2⟩ | ⟨q, -⟩ | ⟨q, -⟩ | ⟨q, -⟩
  · have e1 : zAa T V d (zle d l) = (10, k, l) := by
      unfold zAa zKn znu zcn
      rw [e, e2, ht]
      rfl
    have e3 : zqe d l = zle d l + 1 := by
      unfold zqe
      rw [if_neg (by omega), if_neg (by omega)]
    rw [e1, zv_ob10, e3]
    show v_put (v_note (v_pop (v_go m (zle d l + 1))) _ _ (v_get m k) (v_top m)) k (v_top m) = _
    have hx : v_ix (v_note (v_pop (v_go m (zle d l + 1))) (Int32.ofNat l) (Int32.ofInt k) (v_get m k) (v_top m)) k = v_ix m k := rfl
    have hy : v_ix (v_note (v_pop m) (Int32.ofNat l) (Int32.ofInt k) (v_get m k) (v_top m)) k = v_ix m k := rfl
    by_cases h : 0 ≤ v_ix m k ∧ v_ix m k < 64
    · rw [zv_putin (by rw [hx]; exact h), zv_putin (by rw [hy]; exact h)]
      rfl
    · rw [zv_putout (by rw [hx]; omega), zv_putout (by rw [hy]; omega)]
      rfl
  · omega
  · omega
  · omega
theorem zln_say {l : Nat} {m : zVm} (hd : zTd d) (hl : l < zlc d) (hg : vgo m = true) (hm : vnx m = zle d l) (hk : zkl d l = 1) : v_run R fuel (zPgd d) (zAa T V d) (zac d) 1 m = v_go (v_note (v_say (v_pop m) (v_top m)) (Int32.ofNat l) (-1) 0 (v_top m)) (zqe d l) := by
  have hO := hd.1.1 l hl
  rw [v_last hO hg hm]
  obtain ⟨-, -, -, b7⟩ := hO
  rcases b7 with ⟨q, -⟩ | ⟨-, e⟩ | ⟨q, -⟩ | ⟨q, -⟩
  · omega
  · have e3 : zqe d l = zle d l + 1 := by
      unfold zqe
      rw [if_neg (by omega), if_neg (by omega)]
    obtain ⟨n, e1⟩ : ∃ n, zAa T V d (zle d l) = (11, n, l) := ⟨_, by unfold zAa; rw [e]⟩
    rw [e1, zv_ob11, e3]
    rfl
  · omega
  · omega
theorem zln_return {l : Nat} {m : zVm} (hd : zTd d) (hl : l < zlc d) (hg : vgo m = true) (hm : vnx m = zle d l) (hk : zkl d l = 2) : v_run R fuel (zPgd d) (zAa T V d) (zac d) 1 m = v_leave (v_top m) (v_note (v_pop (v_go m (zle d l + 1))) (Int32.ofNat l) (-1) 0 (v_top m)) := by
  have hO := hd.1.1 l hl
  rw [v_last hO hg hm]
  obtain ⟨-, -, -, b7⟩ := hO
  rcases b7 with ⟨q, -⟩ | ⟨q, -⟩ | ⟨-, e⟩ | ⟨q, -⟩
  · omega
  · omega
  · obtain ⟨n, e1⟩ : ∃ n, zAa T V d (zle d l) = (12, n, l) := ⟨_, by unfold zAa; rw [e]⟩
    rw [e1, zv_ob12]
    rfl
  · omega
theorem zln_close {m : zVm} (hg : vgo m = true) (h : vnx m < zac d) (h1 : zaf d (vnx m) = (16, 0, 0)) : v_run R fuel (zPgd d) (zAa T V d) (zac d) 1 m = v_leave 0 (v_go m (vnx m + 1)) := by
  rw [v_one hg h]
  obtain ⟨n, e1⟩ : ∃ n, zAa T V d (vnx m) = (16, n, 0) := ⟨_, by unfold zAa; rw [h1]⟩
  rw [e1, zv_ob16]
end
theorem z_in0 {T : zTS} {V : Nat → Int} {e : Nat × Nat × Nat} (h : e.1 = 0) : zin T V e = V e.2.1 := by
  unfold zin
  exact if_pos h
theorem z_in1 {T : zTS} {V : Nat → Int} {e : Nat × Nat × Nat} (h : e.1 = 1) : zin T V e = T.2.2 e.2.1 - 1 := by
  unfold zin
  rw [if_neg (by omega)]
  exact if_pos h
theorem v_put_st {m : zVm} {k : Int} {x : Int32} : vst (v_put m k x) = vst m ∧ vcv (v_put m k x) = vcv m ∧ vgo (v_put m k x) = vgo m ∧ vbk (v_put m k x) = vbk m ∧ vnx (v_put m k x) = vnx m := by
  unfold v_put
  split
  · exact ⟨rfl, rfl, rfl, rfl, rfl⟩
  · exact ⟨rfl, rfl, rfl, rfl, rfl⟩
theorem v_take_st {pg : zPg} {f : Nat} : ∀ (n : Nat) (m : zVm), vst (v_take pg f n m) = vst m ∧ vcv (v_take pg f n m) = vcv m ∧ vgo (v_take pg f n m) = vgo m ∧ vbk (v_take pg f n m) = vbk m ∧ vdp (v_take pg f n m) = vdp m
  | 0, _ => ⟨rfl, rfl, rfl, rfl, rfl⟩
  | n + 1, m => by
    obtain ⟨h1, h2, h3, h4, h5⟩ := v_take_st (pg := pg) (f := f) n (v_tk1 pg f n m)
    obtain ⟨g1, g2, g3, g4, -⟩ := v_put_st (m := v_pop m) (k := pg.2.1 f n) (x := v_top m)
    exact ⟨h1.trans g1, h2.trans g2, h3.trans g3, h4.trans g4, h5.trans v_put_dp⟩
theorem v_enter_st {pg : zPg} {f : Int} {m : zVm} : vst (v_enter pg f m) = vst m := by
  unfold v_enter
  split
  · rfl
  · split
    · exact (v_take_st _ (v_room m)).1
    · rfl
/-- a call's frame -/
theorem v_enter_in {pg : zPg} {f : Int} {m : zVm} (h : vdp m < 8) (hf : 0 ≤ f ∧ f < pg.1.1) : vgo (v_enter pg f m) = vgo m ∧ vdp (v_enter pg f m) = vdp m + 1 ∧ vcv (v_enter pg f m) = vcv m ∧ vbk (v_enter pg f m) (vdp m) = vnx m ∧ (∀ j, j < vdp m → vbk (v_enter pg f m) j = vbk m j) ∧ vnx (v_enter pg f m) = pg.2.2 f.toNat := by
  have e : v_enter pg f m = v_go (v_take pg f.toNat (pg.1.2 f.toNat) (v_room m)) (pg.2.2 f.toNat) := by
    unfold v_enter
    rw [if_neg (by omega), if_pos hf]
  obtain ⟨h1, h2, h3, h4, h5⟩ := v_take_st (pg := pg) (f := f.toNat) (pg.1.2 f.toNat) (v_room m)
  rw [e]
  refine ⟨h3, h5, h2, ?_, fun j hj => ?_, rfl⟩
  · show vbk (v_take pg f.toNat (pg.1.2 f.toNat) (v_room m)) (vdp m) = vnx m
    rw [h4]
    exact if_pos rfl
  · show vbk (v_take pg f.toNat (pg.1.2 f.toNat) (v_room m)) j = vbk m j
    rw [h4]
    exact if_neg (by omega)
def zClx (R fuel : Int) (d : zDat) (T : zTS) (V : Nat → Int) (F : Nat → va_E) (th wk : Nat) (f : Int) (μ : zVm) (r : Int32) : Prop := ∃ m9 : zVm, zVr F th wk m9 ∧ vgo m9 = true ∧ vnx m9 = vnx μ ∧ vdp m9 = vdp μ ∧ (∀ j, j < vdp μ → vbk m9 j = vbk μ j) ∧ zcm (vcv μ) (vcv m9) ∧ (1 ≤ vdp μ → zGo R fuel (zPgd d) (zAa T V d) (zac d) 1 (v_enter (zPgd d) f μ) (v_push m9 r)) ∧ (vdp μ = 0 → zTh R fuel (zPgd d) (zAa T V d) (zac d) 1 F wk 0 (some r) (v_enter (zPgd d) f μ))
def zWd (R fuel : Int) (d : zDat) (T : zTS) (V : Nat → Int) (F : Nat → va_E) (th wk : Nat) (l : Nat) (μ : zVm) (r : Int32) : Prop := ∃ m9 : zVm, zVr F th wk (v_pop m9) ∧ zWk R fuel (zPgd d) (zAa T V d) (zac d) 1240 μ m9 ∧ vnx m9 = zle d l ∧ v_top m9 = r ∧ (3 ≤ zkl d l → r = 0 ∨ r = 1)
/-! a call's lines -/
def zzr (g : Nat → Int32) (D k : Nat) : Nat → Int32 := fun j => if D * 8 ≤ j ∧ j < D * 8 + k then 0 else g j
theorem zzr_0 {g : Nat → Int32} {D : Nat} : zzr g D 0 = g := by
  funext j
  exact if_neg (by omega)
theorem zzr_1 {g : Nat → Int32} {D k : Nat} : upd (zzr g D k) (D * 8 + k) 0 = zzr g D (k + 1) := by
  funext j
  show (if j = D * 8 + k then 0 else if D * 8 ≤ j ∧ j < D * 8 + k then 0 else g j) = (if D * 8 ≤ j ∧ j < D * 8 + (k + 1) then 0 else g j)
  by_cases c : j = D * 8 + k
  · rw [if_pos c, if_pos (by omega)]
  · rw [if_neg c]
    by_cases c2 : D * 8 ≤ j ∧ j < D * 8 + k
    · rw [if_pos c2, if_pos (by omega)]
    · rw [if_neg c2, if_neg (by omega)]
theorem zVb {Γ : Nat → Option Nat} {k : Nat → ClassId} {L : List Nat} {F : Nat → va_E} {a t j c n : Nat} {lo hi : Int} (hI : zInv Γ k L F) (ha : Γ a = some t) (ht : t < 100 ∧ (zsp t)[j]? = some (2, ((c : Nat) : Int), 0)) (hc : 100 ≤ c ∧ zas c = (1, n, lo, hi)) : ∀ i, i < n → zB lo hi (zar F a j i) := by
  obtain ⟨b, h1, h2⟩ := z_ad hI ha ht.1 ht.2
  have hA := (hI b c h2).2.2 hc.1
  unfold zAr at hA
  rw [hc.2] at hA
  obtain ⟨f, hF, hall⟩ := hA
  intro i hi
  rw [zar_eq h1, zel_of hF]
  exact hall i hi
theorem zen_up {d : zDat} {f : Int} {μ : zVm} {p g : Nat → Int32} {b : Nat} (hd : zTd d) (h8 : vdp μ < 8) (hf : 0 ≤ f ∧ f < (zfc d : Int)) (hr : ∀ i, i < zpc d f.toNat → 0 ≤ zpl d f.toNat i ∧ zpl d f.toNat i < 8) (hs : vsk μ = zvls p (b + zpc d f.toNat)) (hg : vpl μ = g) : v_enter (zPgd d) f μ = v_go (v_sk (v_pl (v_room μ) (zpu (fun i => vdp μ * 8 + (zpl d f.toNat i).toNat) (fun i => p (b + i)) (zpc d f.toNat) (zzr g (vdp μ) 8))) (zvls p b)) (zfa d f.toNat) := by
  have e : v_enter (zPgd d) f μ = v_go (v_take (zPgd d) f.toNat (zpc d f.toNat) (v_room μ)) (zfa d f.toNat) := by
    unfold v_enter
    rw [if_neg (by omega)]
    exact if_pos hf
  rw [e, v_take_up (pg := zPgd d) (D := vdp μ + 1) (b := b) (p := p) (by omega) (zpc d f.toNat) (v_room μ) rfl hr (fun i j g1 g2 => hd.2.2.1 f.toNat i j g1 g2) hs]
  subst hg
  rfl
def zLp (R fuel : Int) (d : zDat) (T : zTS) (V : Nat → Int) (F : Nat → va_E) (th wk : Nat) (me : zVm) (l : Int) : Prop := ∃ m1 : zVm, zVr F th wk m1 ∧ zWk R fuel (zPgd d) (zAa T V d) (zac d) 0 me m1 ∧ ((l = -1 ∧ vnx m1 < zac d ∧ zaf d (vnx m1) = (16, 0, 0)) ∨ (∃ q : Nat, l = (q : Int) ∧ q < zlc d ∧ zcw d (vcv m1) q ∧ (vnx m1 = zpa d q ∨ (R ≠ 2 ∧ zkl d q = 4 ∧ vnx m1 < zac d ∧ zaf d (vnx m1) = (14, zpa d q + 1, q) ∧ ztg d (vnx m1) = 0 ∧ vcv m1 ||| v_bit q = vcv m1))))
section
variable {R fuel : Int} {T : zTS} {V : Nat → Int} {d : zDat} {F : Nat → va_E} {th wk q : Nat} {me X m9 : zVm} {x : Int}
theorem zLp.at {b : Nat} (hb : b < zlc d) (hV : zVr F th wk X) (hW : zWk R fuel (zPgd d) (zAa T V d) (zac d) 0 me (v_go X (zpa d b))) (hcw : zcw d (vcv X) b) (hx : x = (b : Int)) : zLp R fuel d T V F th wk me x :=
  ⟨v_go X (zpa d b), hV, hW, Or.inr ⟨b, hx, hb, hcw, Or.inl rfl⟩⟩
theorem zLp.bh (hd : zTd d) (hq : q < zlc d) (h60 : zlc d ≤ 60) (hV : zVr F th wk X) (hW : zWk R fuel (zPgd d) (zAa T V d) (zac d) (-100) me (v_go X (zqe d q))) (hcw : zcw d (vcv X) q) (hx : x + 1 = ((zbe R d q : Nat) : Int)) : zLp R fuel d T V F th wk me x := by
  obtain ⟨k, p, k0, k1, k2⟩ := zbehind2 (R := R) (fuel := fuel) (pg := zPgd d) (T := T) (V := V) hd.1 hd.2.1 (q + 1) q (by omega) hq (v_go X (zqe d q)) hW.2.1 rfl
  have hW2 : zWk R fuel (zPgd d) (zAa T V d) (zac d) 0 me (v_go X p) := hW.trans (c1 := 100) ⟨zGo.of k1 (by show (k : Int) ≤ 1400 * (vst X - vst X) + 100; omega), hW.2.1, rfl, fun _ _ => rfl, zcm.rf⟩ (by omega)
  refine ⟨v_go X p, hV, hW2, ?_⟩
  have hz : zbe R d q = zbh R d (q + 1) q := rfl
  rw [hz] at hx
  rcases k2 with ⟨g1, g2, g3⟩ | ⟨r, g1, g2, g3, g4⟩
  · exact Or.inl ⟨by omega, g2, g3⟩
  · refine Or.inr ⟨r, by omega, g2, g3 _ hcw, ?_⟩
    rcases g4 with g4 | ⟨b1, b2, b3, b4, b5, b6⟩
    · exact Or.inl g4
    · exact Or.inr ⟨b1, b2, b3, b4, b5, b6 _ hcw⟩
/-- behind a test -/
theorem zLp.test {v : Int32} (hd : zTd d) (hq : q < zlc d) (h60 : zlc d ≤ 60) (hk : 3 ≤ zkl d q) (hm : vnx m9 = zle d q) (hW : zWk R fuel (zPgd d) (zAa T V d) (zac d) (-159) me m9) (hV : zVr F th wk (v_note (v_pop m9) (Int32.ofNat q) (-1) 0 v)) (hv : v_top m9 = v) (h01 : v = 0 ∨ v = 1) (hcw : zcw d (vcv m9) q) (hbit : vcv m9 ||| v_bit q = vcv m9)
    (h1 : v = 1 → x + 1 = (zbo d q : Int)) (h0 : v ≠ 1 → (zot d q ≠ 0 → x + 1 = (zot d q : Int)) ∧ (zot d q = 0 → x + 1 = ((zbe R d q : Nat) : Int))) : zLp R fuel d T V F th wk me x := by
  have hO := hd.1.1 q hq
  have hk' : zkl d q = 3 ∨ zkl d q = 4 := by
    rcases hO.2.2.2 with ⟨e, -⟩ | ⟨e, -⟩ | ⟨e, -⟩ | ⟨e, -⟩
    · omega
    · omega
    · omega
    · exact e
  obtain ⟨p, p1, p2, p3⟩ := v_test (R := R) (fuel := fuel) (pg := zPgd d) (T := T) (V := V) hO hk' hW.2.1 hm
  rw [hv] at p1 p2 p3
  have hW2 : zWk R fuel (zPgd d) (zAa T V d) (zac d) (-158) me (v_go (v_note (v_pop m9) (Int32.ofNat q) (-1) 0 v) p) := hW.trans (c1 := 1) ⟨zGo.of p1 (by show (1 : Int) ≤ 1400 * (vst m9 - vst m9) + 1; omega), hW.2.1, rfl, fun _ _ => rfl, zcm.rf⟩ (by omega)
  rcases h01 with h01 | h01
  · have n1 : v ≠ 1 := by
      rw [h01]
      decide
    rcases p3 h01 with ⟨g1, o, g2, g3, g4⟩ | ⟨g1, g2⟩
    · have hx := (h0 n1).1 (by omega)
      rw [g4] at hW2
      exact zLp.at (b := o) g3 hV (hW2.w (by omega)) (zcw_in ((hd.2.1 q hq).2.2.2 o g2).2 hbit hcw) (by omega)
    · have hz : zot d q = 0 := by
        rcases g1 with g1 | g1
        · exact hO.2.1.2 (by omega)
        · exact g1
      rw [g2] at hW2
      exact zLp.bh hd hq h60 hV (hW2.w (by omega)) hcw ((h0 n1).2 hz)
  · have n0 : v ≠ 0 := by
      rw [h01]
      decide
    obtain ⟨b, b1, b2, b3⟩ := p2 n0
    have hx := h1 h01
    rw [b3] at hW2
    exact zLp.at (b := b) b2 hV (hW2.w (by omega)) (zcw_in ((hd.2.1 q hq).2.2.1 b b1).2 hbit hcw) (by omega)
/-- back from a call -/
theorem zClx.back {f : Int} {w : Int32} {μ a XR : zVm} {c : Int} (h8 : vdp μ < 8) (hf : 0 ≤ f ∧ f < (zfc d : Int)) (hW : zWk R fuel (zPgd d) (zAa T V d) (zac d) c (v_enter (zPgd d) f μ) a) (hr : v_run R fuel (zPgd d) (zAa T V d) (zac d) 1 a = v_leave w XR) (hc : c ≤ 0) (hs : vst XR = vst a) (hg : vgo XR = true) (hdp : vdp XR = vdp a) (hb : vbk XR = vbk a) (hcv : vcv XR = vcv a) (hV : zVr F th wk (v_dp XR (vdp μ))) (hl : (vsk XR).length < 288) : zClx R fuel d T V F th wk f μ w := by
  obtain ⟨e1, e2, e3, e4, e5, e6⟩ := v_enter_in (pg := zPgd d) h8 hf
  obtain ⟨w1, w2, w3, w4, w5⟩ := hW
  have hD : vdp XR = vdp μ + 1 := by rw [hdp, w3, e2]
  refine ⟨v_go (v_dp XR (vdp μ)) (vnx μ), hV, hg, rfl, rfl, fun j hj => ?_, ?_, fun h1 => ?_, fun h0 => ?_⟩
  · show vbk XR j = vbk μ j
    rw [hb, w4 j (by omega), e5 j hj]
  · show zcm (vcv μ) (vcv XR)
    rw [hcv, ← e3]
    exact w5
  · refine w1.trans (c1 := 1) (zGo.of (k := 1) ?_ ?_) (by omega)
    · rw [hr, zv_leave2 (by omega)]
      have : vbk XR (vdp XR - 1) = vnx μ := by
        rw [hD, Nat.add_sub_cancel, hb, w4 (vdp μ) (by omega), e4]
      rw [this, hD, Nat.add_sub_cancel]
    · rw [zv_pushed (m := v_go (v_dp XR (vdp μ)) (vnx μ)) _ hl]
      show (1 : Int) ≤ 1400 * (vst XR - vst a) + 1
      rw [hs]
      omega
  · refine ⟨_, w1.trans (c1 := 1) (zGo.of (k := 1) (hr.trans (zv_leave1 (by omega))) ?_) (by omega), rfl, rfl, fun y hy => Option.some.inj hy, hV.1⟩
    show (1 : Int) ≤ 1400 * (vst XR - vst a) + 1
    rw [hs]
    omega
end
theorem zmea {a b : Int} {n : Nat} (h : a + 1 ≤ b) (hb : b ≤ 2000) (hn : (2000 - a).toNat = n) : (2000 - b).toNat < n := by omega
/-! a run -/
def v_start0 (sd tr pl : Nat → Int32) (sk : List Int32) : zVm := ((0, sk, 0, pl, fun _ => 0), (0, 0, 0, sd, 0, tr, 0), (1, 0, true))
theorem zClx.ret {R fuel : Int} {d : zDat} {T : zTS} {V : Nat → Int} {F : Nat → va_E} {th wk : Nat} {f : Int} {μ : zVm} {r : Int32} (h : zClx R fuel d T V F th wk f μ r) (h0 : vdp μ = 0) : zTh R fuel (zPgd d) (zAa T V d) (zac d) 1 F wk 0 (some r) (v_enter (zPgd d) f μ) := by
  obtain ⟨m9, -, -, -, -, -, -, -, g⟩ := h
  exact g h0
/-- what a run leaves -/
def zRn (R fuel : Int) (d : zDat) (T : zTS) (V : Nat → Int) (u : Nat → va_E) (wk : Nat) (me : zVm) : Prop := ∃ m, zGo R fuel (zPgd d) (zAa T V d) (zac d) 1 me m ∧ vgo m = false ∧ zVe u wk m ∧ zFi u wk 0 (ven m) ∧ (ven m = 0 → zfld u wk 1 = .int (vvl m)) ∧ (ven m ≠ 0 → zfld u wk 1 = .int 0)
theorem zVe.fr {Γ : Nat → Option Nat} {M : List Nat} {F u : Nat → va_E} {wk : Nat} {m : zVm} (h : zVe F wk m) (hA : ∀ j c, (j = 7 ∧ c = 165) ∨ (j = 8 ∧ c = 166) ∨ (j = 9 ∧ c = 167) → zar u wk j = zar F wk j) (hw : Γ wk = some 12) (hf : zFr Γ M F u) (hM : 1202 ∉ M ∧ 1203 ∉ M ∧ 1204 ∉ M ∧ 1205 ∉ M ∧ 1206 ∉ M) : zVe u wk m := by
  obtain ⟨c2, c3, c4, c5, c6⟩ := hM
  obtain ⟨h1, h2, h3, h4, h5, h6, h7, h8⟩ := h
  refine ⟨h1.fr hf hw ⟨by decide, c2⟩, hf.f hw 6 ⟨by decide, c6⟩ h2, h3.fr hf hw ⟨by decide, c3⟩, ?_, h5.fr hf hw ⟨by decide, c4⟩, ?_, h7.fr hf hw ⟨by decide, c5⟩, ?_⟩
  · rw [hA 7 165 (Or.inl ⟨rfl, rfl⟩)]; exact h4
  · rw [hA 8 166 (Or.inr (Or.inl ⟨rfl, rfl⟩))]; exact h6
  · rw [hA 9 167 (Or.inr (Or.inr ⟨rfl, rfl⟩))]; exact h8
theorem zRn.of {Γ : Nat → Option Nat} {k : Nat → ClassId} {L M : List Nat} {R fuel : Int} {d : zDat} {T : zTS} {V : Nat → Int} {F u : Nat → va_E} {wk : Nat} {me : zVm} {e : Int} {w : Option Int32} (hI : zInv Γ k L F) (h : zTh R fuel (zPgd d) (zAa T V d) (zac d) 1 F wk e w me) (hf : zFr Γ M F u) (hw : Γ wk = some 12) (hM : (1202 ∉ M ∧ 1203 ∉ M ∧ 1204 ∉ M ∧ 1205 ∉ M ∧ 1206 ∉ M) ∧ 1207 ∉ M ∧ 1208 ∉ M ∧ 1209 ∉ M ∧ 16500 ∉ M ∧ 16600 ∉ M ∧ 16700 ∉ M) (he : zFi u wk 0 e) (hv : (e = 0 ∧ ∃ r, w = some r ∧ zfld u wk 1 = .int r) ∨ (e ≠ 0 ∧ zfld u wk 1 = .int 0)) : zRn R fuel d T V u wk me := by
  obtain ⟨m, g1, g2, g3, g4, g5⟩ := h
  obtain ⟨hM, c7, c8, c9, a5, a6, a7⟩ := hM
  have hA : ∀ j c, (j = 7 ∧ c = 165) ∨ (j = 8 ∧ c = 166) ∨ (j = 9 ∧ c = 167) → zar u wk j = zar F wk j := fun j c q => by
    rcases q with ⟨q1, q2⟩ | ⟨q1, q2⟩ | ⟨q1, q2⟩
    · subst q1
      exact zVa (j := 7) (c := 165) hI hw hf ⟨by decide, rfl⟩ ⟨⟨by decide, c7⟩, by decide, a5⟩
    · subst q1
      exact zVa (j := 8) (c := 166) hI hw hf ⟨by decide, rfl⟩ ⟨⟨by decide, c8⟩, by decide, a6⟩
    · subst q1
      exact zVa (j := 9) (c := 167) hI hw hf ⟨by decide, rfl⟩ ⟨⟨by decide, c9⟩, by decide, a7⟩
  refine ⟨m, g1, g2, g5.fr hA hw hf hM, by rw [g3]; exact he, fun q => ?_, fun q => ?_⟩
  · rcases hv with ⟨-, r, h1, h2⟩ | ⟨h1, -⟩
    · rw [g4 r h1]
      exact h2
    · exact absurd (g3.symm.trans q) h1
  · rcases hv with ⟨h1, -⟩ | ⟨-, h2⟩
    · exact absurd (g3.trans h1) q
    · exact h2
theorem zTd.of {T : zTS} {i : Nat} {d : zDat} (h : zRe T (.inl ([(1, 0, 0, 0), (0, 0, 0, 0)], 0, zd0)) (.inl ([], i, d))) : zTd d := ⟨zWh.of h, zjk.of h, zdi.of h, zsn_of h⟩
/-- the class's start and the reference's -/
theorem zEq.start {sd tr pl sd' tr' pl' p : Nat → Int32} {nx n : Nat} {x y z : Int32} (hn : n ≤ 3) : zEq (v_start0 sd tr pl (zvls (upd (upd (upd p 0 x) 1 y) 2 z) n)) (v_cut n x y z (v_new0 sd' tr' pl' nx)) := by
  have e : vsk (v_cut n x y z (v_new0 sd' tr' pl' nx)) = zvls (upd (upd (upd p 0 x) 1 y) 2 z) n := by
    show [z, y, x].drop (3 - n) = _
    have hn : n = 0 ∨ n = 1 ∨ n = 2 ∨ n = 3 := by omega
    rcases hn with h | h | h | h <;> (subst h; rfl)
  have hp : v_push (v_push (v_push (v_new0 sd' tr' pl' nx) x) y) z = v_sk (v_new0 sd' tr' pl' nx) [z, y, x] := by
    have a1 : v_push (v_new0 sd' tr' pl' nx) x = v_sk (v_new0 sd' tr' pl' nx) [x] := zv_pushed (m := v_new0 sd' tr' pl' nx) x (show (0 : Nat) < 288 from by decide)
    have a2 : v_push (v_sk (v_new0 sd' tr' pl' nx) [x]) y = v_sk (v_new0 sd' tr' pl' nx) [y, x] := zv_pushed (m := v_sk (v_new0 sd' tr' pl' nx) [x]) y (show (1 : Nat) < 288 from by decide)
    have a3 : v_push (v_sk (v_new0 sd' tr' pl' nx) [y, x]) z = v_sk (v_new0 sd' tr' pl' nx) [z, y, x] := zv_pushed (m := v_sk (v_new0 sd' tr' pl' nx) [y, x]) z (show (2 : Nat) < 288 from by decide)
    rw [a1, a2, a3]
  have hc : v_cut n x y z (v_new0 sd' tr' pl' nx) = v_sk (v_new0 sd' tr' pl' nx) ([z, y, x].drop (3 - n)) := by
    unfold v_cut
    rw [hp]
    rfl
  have e : [z, y, x].drop (3 - n) = zvls (upd (upd (upd p 0 x) 1 y) 2 z) n := e
  rw [hc, e]
  exact ⟨⟨rfl, rfl, fun q => absurd q (by show ¬ 1 ≤ (0 : Nat); decide), fun j _ h2 => absurd h2 (Nat.not_lt_zero _), fun j hj => absurd hj (by show ¬ j < 8 * 0; omega), Nat.le_refl 0⟩, ⟨rfl, rfl, rfl, fun j hj _ => absurd hj (Nat.not_lt_zero _), rfl, fun j hj _ => absurd hj (by show ¬ j < 4 * 0; omega), rfl⟩, rfl, rfl, rfl⟩
/-- what a run of the class and one of the reference tell, the one as the other -/
theorem zRn.same {R fuel : Int} {d : zDat} {T : zTS} {V : Nat → Int} {u : Nat → va_E} {wk : Nat} {f : Int} {n nx : Nat} {sd tr pl sd' tr' pl' p : Nat → Int32} {x y z : Int32} (hn : n ≤ 3) (hf : 0 ≤ f ∧ f < (zfc d : Int)) (hA : zAn (zAa T V d) (zac d)) (hs : ∀ m, zVe u wk m → vst m ≤ 2000) (h : zRn R fuel d T V u wk (v_enter (zPgd d) f (v_start0 sd tr pl (zvls (upd (upd (upd p 0 x) 1 y) 2 z) n)))) : ∃ m, zEq m (v_run R fuel (zPgd d) (zAa T V d) (zac d) 4000000 (v_enter (zPgd d) f (v_cut n x y z (v_new0 sd' tr' pl' nx)))) ∧ zVe u wk m ∧ zFi u wk 0 (ven m) ∧ zfld u wk 1 = .int (vvl m) ∧ vgo m = false := by
  obtain ⟨m, ⟨k, h1, h2⟩, h3, h4, h5, h6, h7⟩ := h
  have e0 : vst (v_enter (zPgd d) f (v_start0 sd tr pl (zvls (upd (upd (upd p 0 x) 1 y) 2 z) n))) = 0 := v_enter_st
  have hk : k ≤ 4000000 := by
    have := hs m h4
    rw [e0] at h1
    omega
  have h0 : zEq (v_enter (zPgd d) f (v_start0 sd tr pl (zvls (upd (upd (upd p 0 x) 1 y) 2 z) n))) (v_enter (zPgd d) f (v_cut n x y z (v_new0 sd' tr' pl' nx))) := (zEq.start hn).enter _ _
  have hk0 : zVk 0 (v_enter (zPgd d) f (v_start0 sd tr pl (zvls (upd (upd (upd p 0 x) 1 y) 2 z) n))) := zVk.enter0 rfl ⟨rfl, rfl⟩ hf
  have hr : v_run R fuel (zPgd d) (zAa T V d) (zac d) 4000000 (v_enter (zPgd d) f (v_start0 sd tr pl (zvls (upd (upd (upd p 0 x) 1 y) 2 z) n))) = m := by
    obtain ⟨j, hj⟩ : ∃ j, 4000000 = k + j := ⟨4000000 - k, by omega⟩
    rw [hj, v_run_add, h2]
    exact v_run_stop h3 j
  have hv : zVv m := by
    rw [← hr]
    exact zVv.run _ (Or.inl (v_enter_vl.trans rfl))
  refine ⟨m, ?_, h4, h5, ?_, h3⟩
  · have := zEq.run (R := R) (fuel := fuel) (pg := zPgd d) (A := zAa T V d) (n := zac d) hA.2.1 4000000 0 h0 hk0
    rw [hr] at this
    exact this
  · by_cases c : ven m = 0
    · exact h6 c
    · rcases hv with hv | hv
      · rw [hv]
        exact h7 c
      · exact absurd hv.2 c
/-- a run, whatever stood in the rows before it -/
def zFx9 (R fuel : Int) (d : zDat) (T : zTS) (V : Nat → Int) (f : Int) (x y z : Int32) : zVm := v_run R fuel (zPgd d) (zAa T V d) (zac d) 4000000 (v_enter (zPgd d) f (v_cut (zpc d f.toNat) x y z (v_new0 (fun _ => 0) (fun _ => 0) (fun _ => 0) 0)))
def zRz (R fuel : Int) (d : zDat) (T : zTS) (V : Nat → Int) (u : Nat → va_E) (wk : Nat) (f : Int) (x y z : Int32) : Prop := ∃ m, zEq m (zFx9 R fuel d T V f x y z) ∧ zVe u wk m ∧ zFi u wk 0 (ven m) ∧ zfld u wk 1 = .int (vvl m) ∧ vgo m = false
theorem zRz.of {R fuel : Int} {d : zDat} {T : zTS} {V : Nat → Int} {u : Nat → va_E} {wk : Nat} {f : Int} {n : Nat} {sd tr pl p : Nat → Int32} {x y z s : Int32} (hn : n = zpc d f.toNat) (h3 : n ≤ 3) (hf : 0 ≤ f ∧ f < (zfc d : Int)) (hA : zAn (zAa T V d) (zac d)) (hs : zfld u wk 2 = .int s) (hs2 : s.toInt ≤ 2000) (h : zRn R fuel d T V u wk (v_enter (zPgd d) f (v_start0 sd tr pl (zvls (upd (upd (upd p 0 x) 1 y) 2 z) n)))) : zRz R fuel d T V u wk f x y z := by
  subst hn
  exact zRn.same h3 hf hA (fun m hm => by have := zFi.is hm.1 hs; omega) h
theorem zRz.fr {Γ : Nat → Option Nat} {k : Nat → ClassId} {L M : List Nat} {R fuel : Int} {d : zDat} {T : zTS} {V : Nat → Int} {F u : Nat → va_E} {wk : Nat} {f : Int} {x y z : Int32} (h : zRz R fuel d T V F wk f x y z) (hI : zInv Γ k L F) (hf : zFr Γ M F u) (hw : Γ wk = some 12) (hM : (1200 ∉ M ∧ 1201 ∉ M) ∧ (1202 ∉ M ∧ 1203 ∉ M ∧ 1204 ∉ M ∧ 1205 ∉ M ∧ 1206 ∉ M) ∧ 1207 ∉ M ∧ 1208 ∉ M ∧ 1209 ∉ M ∧ 16500 ∉ M ∧ 16600 ∉ M ∧ 16700 ∉ M) : zRz R fuel d T V u wk f x y z := by
  obtain ⟨m, g1, g2, g3, g4, g5⟩ := h
  obtain ⟨hM0, hM, c7, c8, c9, a5, a6, a7⟩ := hM
  have hA : ∀ j c, (j = 7 ∧ c = 165) ∨ (j = 8 ∧ c = 166) ∨ (j = 9 ∧ c = 167) → zar u wk j = zar F wk j := fun j c q => by
    rcases q with ⟨q1, q2⟩ | ⟨q1, q2⟩ | ⟨q1, q2⟩
    · subst q1
      exact zVa (j := 7) (c := 165) hI hw hf ⟨by decide, rfl⟩ ⟨⟨by decide, c7⟩, by decide, a5⟩
    · subst q1
      exact zVa (j := 8) (c := 166) hI hw hf ⟨by decide, rfl⟩ ⟨⟨by decide, c8⟩, by decide, a6⟩
    · subst q1
      exact zVa (j := 9) (c := 167) hI hw hf ⟨by decide, rfl⟩ ⟨⟨by decide, c9⟩, by decide, a7⟩
  exact ⟨m, g1, g2.fr hA hw hf hM, g3.fr hf hw ⟨by decide, hM0.1⟩, hf.f hw 1 ⟨by decide, hM0.2⟩ g4, g5⟩
/-- the class's run -/
theorem zFx9.same {R fuel : Int} {d : zDat} {T : zTS} {V : Nat → Int} {f : Int} {nx : Nat} {sd tr pl : Nat → Int32} {x y z : Int32} (hn : zpc d f.toNat ≤ 3) (hf : 0 ≤ f ∧ f < (zfc d : Int)) (hA : zAn (zAa T V d) (zac d)) : zEq (zFx9 R fuel d T V f x y z) (v_run R fuel (zPgd d) (zAa T V d) (zac d) 4000000 (v_enter (zPgd d) f (v_cut (zpc d f.toNat) x y z (v_new0 sd tr pl nx)))) := by
  have h1 : ∀ {a b c : zVm}, zEq a b → zEq a c → zEq b c := fun {a b c} h g => by
    obtain ⟨⟨h1, h2, h3, h4, h5, h6⟩, ⟨s1, s2, s3, s4, s5, s6, s7⟩, e1, e2, e3⟩ := h
    obtain ⟨⟨g1, g2, g3, g4, g5, g6⟩, ⟨t1, t2, t3, t4, t5, t6, t7⟩, k1, k2, k3⟩ := g
    exact ⟨⟨g1.trans h1.symm, g2.trans h2.symm, fun q => (g3 (by omega)).trans (h3 (by omega)).symm, fun j q1 q2 => (g4 j q1 (by omega)).trans (h4 j q1 (by omega)).symm, fun j q => (g5 j (by omega)).trans (h5 j (by omega)).symm, by omega⟩, ⟨t1.trans s1.symm, t2.trans s2.symm, t3.trans s3.symm, fun j q1 q2 => (t4 j (by omega) q2).trans (s4 j (by omega) q2).symm, t5.trans s5.symm, fun j q1 q2 => (t6 j (by omega) q2).trans (s6 j (by omega) q2).symm, t7.trans s7.symm⟩, k1.trans e1.symm, k2.trans e2.symm, k3.trans e3.symm⟩
  have a1 : zEq (v_start0 (fun _ => 0) (fun _ => 0) (fun _ => 0) (zvls (upd (upd (upd (fun _ => 0) 0 x) 1 y) 2 z) (zpc d f.toNat))) (v_cut (zpc d f.toNat) x y z (v_new0 (fun _ => 0) (fun _ => 0) (fun _ => 0) 0)) := zEq.start hn
  have a2 : zEq (v_start0 (fun _ => 0) (fun _ => 0) (fun _ => 0) (zvls (upd (upd (upd (fun _ => 0) 0 x) 1 y) 2 z) (zpc d f.toNat))) (v_cut (zpc d f.toNat) x y z (v_new0 sd tr pl nx)) := zEq.start hn
  have a3 := (h1 a1 a2).enter (zPgd d) f
  exact zEq.run hA.2.1 4000000 0 a3 (zVk.enter0 (zVz.cut.2.1.trans rfl) ⟨zVz.cut.2.2.1.trans rfl, zVz.cut.2.2.2.trans rfl⟩ hf)
