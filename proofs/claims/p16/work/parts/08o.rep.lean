/-! The class's machine and the pure one. -/
def zFi (F : Nat → va_E) (a j : Nat) (v : Int) : Prop := ∃ x : Int32, zfld F a j = .int x ∧ x.toInt = v
theorem zFi.is {F : Nat → va_E} {a j : Nat} {v : Int} {x : Int32} (h : zFi F a j v) (k : zfld F a j = .int x) : x.toInt = v := by
  obtain ⟨y, h1, h2⟩ := h
  rw [z_vi k h1]
  exact h2
theorem zFi.fr {Γ : Nat → Option Nat} {M : List Nat} {F u : Nat → va_E} {a j t : Nat} {v : Int} (h : zFi F a j v) (hf : zFr Γ M F u) (ha : Γ a = some t) (hM : t < 100 ∧ 100 * t + j ∉ M) : zFi u a j v := by
  obtain ⟨y, h1, h2⟩ := h
  exact ⟨y, hf.f ha j hM h1, h2⟩
theorem zFi.mk {F : Nat → va_E} {a j : Nat} {v : Int} {x : Int32} (k : zfld F a j = .int x) (e : x.toInt = v) : zFi F a j v := ⟨x, k, e⟩
/-- where it goes on: a place, or none that any row has -/
def zFnx (F : Nat → va_E) (a j : Nat) (n : Nat) : Prop := ∃ x : Int32, zfld F a j = .int x ∧ (x.toInt = (n : Int) ∨ (x.toInt < 0 ∧ 1200 ≤ n))
theorem zFnx.fr {Γ : Nat → Option Nat} {M : List Nat} {F u : Nat → va_E} {a j t n : Nat} (h : zFnx F a j n) (hf : zFr Γ M F u) (ha : Γ a = some t) (hM : t < 100 ∧ 100 * t + j ∉ M) : zFnx u a j n := by
  obtain ⟨y, h1, h2⟩ := h
  exact ⟨y, hf.f ha j hM h1, h2⟩
theorem zFnx.mk {F : Nat → va_E} {a j n : Nat} {x : Int32} (k : zfld F a j = .int x) (e : x.toInt = (n : Int)) : zFnx F a j n := ⟨x, k, Or.inl e⟩
theorem zNg_cg {x y : Int32} {n : Nat} (e : x = y) (h : y.toInt = (n : Int) ∨ (y.toInt < 0 ∧ 1200 ≤ n)) : x.toInt = (n : Int) ∨ (x.toInt < 0 ∧ 1200 ≤ n) := by
  subst e
  exact h
def zng (x : Int32) : Nat := if 0 ≤ x.toInt then x.toInt.toNat else 1200
theorem zng_is (x : Int32) : x.toInt = (zng x : Int) ∨ (x.toInt < 0 ∧ 1200 ≤ zng x) := by
  unfold zng
  by_cases c : 0 ≤ x.toInt
  · rw [if_pos c]
    left
    omega
  · rw [if_neg c]
    right
    omega
/-- the numbers below n, the last first -/
def zvls (f : Nat → Int32) : Nat → List Int32
  | 0 => []
  | n + 1 => f n :: zvls f n
theorem zvls_len (f : Nat → Int32) : ∀ n, (zvls f n).length = n
  | 0 => rfl
  | n + 1 => congrArg (· + 1) (zvls_len f n)
theorem zvls_upd {f : Nat → Int32} {x : Int32} {i : Nat} : ∀ {n : Nat}, n ≤ i → zvls (upd f i x) n = zvls f n
  | 0, _ => rfl
  | n + 1, h => by
    show upd f i x n :: zvls (upd f i x) n = f n :: zvls f n
    rw [zvls_upd (by omega), show upd f i x n = f n from if_neg (by omega)]
theorem zvls_push {f : Nat → Int32} {x : Int32} {n : Nat} : zvls (upd f n x) (n + 1) = x :: zvls f n := by
  show upd f n x n :: zvls (upd f n x) n = _
  rw [zvls_upd (Nat.le_refl _), show upd f n x n = x from if_pos rfl]
/-- the class's machine th in a world is m -/
def zVc (F : Nat → va_E) (th : Nat) (m : zVm) : Prop :=
  (zFi F th 0 (ven m) ∧ zfld F th 1 = .int (vvl m) ∧ zFi F th 13 (if vgo m then 1 else 0)) ∧
  (zFi F th 2 (vst m) ∧ zfld F th 6 = .long (vcv m) ∧ zFi F th 3 (vsc m) ∧ zar F th 7 = vsd m ∧ zFi F th 4 (vtc m) ∧ zar F th 8 = vtr m ∧ zFi F th 5 (vmx m)) ∧
  (zFnx F th 14 (vnx m) ∧ zFi F th 15 (vdp m) ∧ zar F th 9 = vpl m ∧ ∀ j, j < vdp m → ((zar F th 16 j).toInt = (vbk m j : Int) ∨ ((zar F th 16 j).toInt < 0 ∧ 1200 ≤ vbk m j))) ∧
  zFi F th 18 ((vsk m).length : Int) ∧ vsk m = zvls (zar F th 17) (vsk m).length ∧ (vsk m).length ≤ 288
theorem zVa {Γ : Nat → Option Nat} {k : Nat → ClassId} {L M : List Nat} {F u : Nat → va_E} {a t j c : Nat} (hI : zInv Γ k L F) (ha : Γ a = some t) (hf : zFr Γ M F u) (ht : t < 100 ∧ (zsp t)[j]? = some (2, ((c : Nat) : Int), 0)) (hM : (t < 100 ∧ 100 * t + j ∉ M) ∧ 100 ≤ c ∧ 100 * c ∉ M) : zar u a j = zar F a j :=
  (z_ad hI ha ht.1 ht.2).ar hf ha hM.1 hM.2
section
variable {F : Nat → va_E} {th : Nat} {m : zVm}
theorem zVc.en (h : zVc F th m) : zFi F th 0 (ven m) := h.1.1
theorem zVc.vl (h : zVc F th m) : zfld F th 1 = .int (vvl m) := h.1.2.1
theorem zVc.go (h : zVc F th m) : zFi F th 13 (if vgo m then 1 else 0) := h.1.2.2
theorem zVc.st (h : zVc F th m) : zFi F th 2 (vst m) := h.2.1.1
theorem zVc.cv (h : zVc F th m) : zfld F th 6 = .long (vcv m) := h.2.1.2.1
theorem zVc.sc (h : zVc F th m) : zFi F th 3 (vsc m) := h.2.1.2.2.1
theorem zVc.sd (h : zVc F th m) : zar F th 7 = vsd m := h.2.1.2.2.2.1
theorem zVc.tc (h : zVc F th m) : zFi F th 4 (vtc m) := h.2.1.2.2.2.2.1
theorem zVc.tr (h : zVc F th m) : zar F th 8 = vtr m := h.2.1.2.2.2.2.2.1
theorem zVc.mx (h : zVc F th m) : zFi F th 5 (vmx m) := h.2.1.2.2.2.2.2.2
theorem zVc.nx (h : zVc F th m) : zFnx F th 14 (vnx m) := h.2.2.1.1
theorem zVc.dp (h : zVc F th m) : zFi F th 15 (vdp m) := h.2.2.1.2.1
theorem zVc.pl (h : zVc F th m) : zar F th 9 = vpl m := h.2.2.1.2.2.1
theorem zVc.bk (h : zVc F th m) : ∀ j, j < vdp m → ((zar F th 16 j).toInt = (vbk m j : Int) ∨ ((zar F th 16 j).toInt < 0 ∧ 1200 ≤ vbk m j)) := h.2.2.1.2.2.2
theorem zVc.tp (h : zVc F th m) : zFi F th 18 ((vsk m).length : Int) := h.2.2.2.1
theorem zVc.sk (h : zVc F th m) : vsk m = zvls (zar F th 17) (vsk m).length := h.2.2.2.2.1
theorem zVc.lh (h : zVc F th m) : (vsk m).length ≤ 288 := h.2.2.2.2.2
end
theorem zVc.fr {Γ : Nat → Option Nat} {k : Nat → ClassId} {L M : List Nat} {F u : Nat → va_E} {th : Nat} {m : zVm} (h : zVc F th m) (hI : zInv Γ k L F) (ha : Γ th = some 5) (hf : zFr Γ M F u) (hM : (∀ j, j < 19 → j < 10 ∨ 12 < j → 500 + j ∉ M) ∧ 10800 ∉ M ∧ 10900 ∉ M ∧ 11000 ∉ M ∧ 11100 ∉ M ∧ 11200 ∉ M) : zVc u th m := by
  obtain ⟨hM, c8, c9, c0, c1, c2⟩ := hM
  refine ⟨⟨h.en.fr hf ha ⟨by decide, hM 0 (by decide) (by decide)⟩, hf.f ha 1 ⟨by decide, hM 1 (by decide) (by decide)⟩ h.vl, h.go.fr hf ha ⟨by decide, hM 13 (by decide) (by decide)⟩⟩, ⟨h.st.fr hf ha ⟨by decide, hM 2 (by decide) (by decide)⟩, hf.f ha 6 ⟨by decide, hM 6 (by decide) (by decide)⟩ h.cv, h.sc.fr hf ha ⟨by decide, hM 3 (by decide) (by decide)⟩, ?_, h.tc.fr hf ha ⟨by decide, hM 4 (by decide) (by decide)⟩, ?_, h.mx.fr hf ha ⟨by decide, hM 5 (by decide) (by decide)⟩⟩, ⟨h.nx.fr hf ha ⟨by decide, hM 14 (by decide) (by decide)⟩, h.dp.fr hf ha ⟨by decide, hM 15 (by decide) (by decide)⟩, ?_, fun j hj => ?_⟩, h.tp.fr hf ha ⟨by decide, hM 18 (by decide) (by decide)⟩, ?_, h.lh⟩
  · rw [zVa (j := 7) (c := 108) hI ha hf ⟨by decide, rfl⟩ ⟨⟨by decide, hM 7 (by decide) (by decide)⟩, by decide, c8⟩]; exact h.sd
  · rw [zVa (j := 8) (c := 109) hI ha hf ⟨by decide, rfl⟩ ⟨⟨by decide, hM 8 (by decide) (by decide)⟩, by decide, c9⟩]; exact h.tr
  · rw [zVa (j := 9) (c := 110) hI ha hf ⟨by decide, rfl⟩ ⟨⟨by decide, hM 9 (by decide) (by decide)⟩, by decide, c0⟩]; exact h.pl
  · rw [zVa (j := 16) (c := 111) hI ha hf ⟨by decide, rfl⟩ ⟨⟨by decide, hM 16 (by decide) (by decide)⟩, by decide, c1⟩]; exact h.bk j hj
  · rw [zVa (j := 17) (c := 112) hI ha hf ⟨by decide, rfl⟩ ⟨⟨by decide, hM 17 (by decide) (by decide)⟩, by decide, c2⟩]; exact h.sk
/-! words of its methods -/
theorem zv_pushed {m : zVm} (x : Int32) (h : (vsk m).length < 288) : v_push m x = v_sk m (x :: vsk m) := if_pos h
theorem zv_nopush {m : zVm} (x : Int32) (h : 288 ≤ (vsk m).length) : v_push m x = m := if_neg (by omega)
theorem zv_sk_push {f : Nat → Int32} {l : List Int32} {n : Nat} {x : Int32} (h : l = zvls f n) (hn : l.length = n) : x :: l = zvls (upd f n x) (x :: l).length := by
  rw [show (x :: l).length = n + 1 from congrArg (· + 1) hn, zvls_push, ← h]
theorem zv_nil {f : Nat → Int32} {l : List Int32} (h : l = zvls f l.length) (h0 : l.length = 0) : l = [] := List.length_eq_zero_iff.mp h0
theorem zv_pop0 {m : zVm} (h0 : (vsk m).length = 0) : v_pop m = m ∧ v_top m = 0 := by
  have e : vsk m = [] := List.length_eq_zero_iff.mp h0
  have h1 : v_pop m = v_sk m [] := by
    show v_sk m (vsk m).tail = _
    rw [e]
    rfl
  refine ⟨h1.trans ?_, ?_⟩
  · have : v_sk m [] = v_sk m (vsk m) := by rw [e]
    rw [this]
    rfl
  · unfold v_top
    rw [e]
    rfl
theorem zv_pop1 {f : Nat → Int32} {l : List Int32} {n : Nat} (h : l = zvls f l.length) (h0 : l.length = n + 1) : l.tail.length = n ∧ l.tail = zvls f n ∧ l.headD 0 = f n := by
  rw [h0] at h
  rw [h]
  refine ⟨?_, rfl, rfl⟩
  show (zvls f n).length = n
  exact zvls_len f n
theorem zv_wrap {a b c : Int32} (h : a + b = c) (ha : 0 ≤ a.toInt ∧ a.toInt ≤ 56) : (c.toInt = a.toInt + b.toInt) ∨ (c.toInt < 0 ∧ 64 ≤ a.toInt + b.toInt) := by
  subst h
  rw [Int32.toInt_add]
  have h1 := Int32.le_toInt b
  have h2 := Int32.toInt_lt b
  by_cases c : a.toInt + b.toInt < 2147483648
  · left
    exact z_bmod ⟨by omega, by omega⟩
  · right
    refine ⟨?_, by omega⟩
    rw [show (a.toInt + b.toInt).bmod (2 ^ 32) = a.toInt + b.toInt - 4294967296 by
      rw [Int.bmod_def]
      omega]
    omega
theorem zv_run1 {R fuel : Int} {pg : zPg} {A : Nat → Nat × Int × Nat} {n k : Nat} {m : zVm} : v_run R fuel pg A n (k + 1) m = v_turn R fuel pg A n (v_run R fuel pg A n k m) := v_run_add k 1 m
theorem zv_fix {R fuel : Int} {pg : zPg} {A : Nat → Nat × Int × Nat} {n : Nat} {m : zVm} (h : v_turn R fuel pg A n m = m) : ∀ k, v_run R fuel pg A n k m = m
  | 0 => rfl
  | k + 1 => by
    show v_run R fuel pg A n k (v_turn R fuel pg A n m) = m
    rw [h]
    exact zv_fix h k
theorem zv_end {R fuel : Int} {pg : zPg} {A : Nat → Nat × Int × Nat} {n a b : Nat} {m : zVm} (hab : a ≤ b) (h : v_turn R fuel pg A n (v_run R fuel pg A n a m) = v_run R fuel pg A n a m) : v_run R fuel pg A n b m = v_run R fuel pg A n a m := by
  obtain ⟨c, rfl⟩ : ∃ c, b = a + c := ⟨b - a, by omega⟩
  rw [v_run_add]
  exact zv_fix h c
/-- places that are emptied, the first k of them -/
def v_zer (m : zVm) (k : Nat) : zVm := v_pl m (fun j => if (vdp m - 1) * 8 ≤ j ∧ j < (vdp m - 1) * 8 + k then 0 else vpl m j)
theorem v_zer0 {m : zVm} : v_zer m 0 = m := by
  have : (fun j => if (vdp m - 1) * 8 ≤ j ∧ j < (vdp m - 1) * 8 + 0 then 0 else vpl m j) = vpl m := by
    funext j
    exact if_neg (by omega)
  unfold v_zer
  rw [this]
  rfl
theorem v_zer1 {m : zVm} {k : Nat} (h : k < 8) (hd : 1 ≤ vdp m ∧ vdp m ≤ 8) : v_put (v_zer m k) (k : Int) 0 = v_zer m (k + 1) := by
  have hx : v_ix (v_zer m k) (k : Int) = (((vdp m - 1) * 8 + k : Nat) : Int) := by
    show ((vdp m : Int) - 1) * 8 + (k : Int) = _
    omega
  unfold v_put
  rw [hx, if_pos (by omega)]
  have : vup (vpl (v_zer m k)) ((((vdp m - 1) * 8 + k : Nat) : Int)).toNat 0 = (fun j => if (vdp m - 1) * 8 ≤ j ∧ j < (vdp m - 1) * 8 + (k + 1) then 0 else vpl m j) := by
    funext j
    show (if j = ((((vdp m - 1) * 8 + k : Nat) : Int)).toNat then 0 else if (vdp m - 1) * 8 ≤ j ∧ j < (vdp m - 1) * 8 + k then 0 else vpl m j) = _
    rw [Int.toNat_natCast]
    by_cases c : j = (vdp m - 1) * 8 + k
    · rw [if_pos c, if_pos (by omega)]
    · rw [if_neg c]
      by_cases c2 : (vdp m - 1) * 8 ≤ j ∧ j < (vdp m - 1) * 8 + k
      · rw [if_pos c2, if_pos (by omega)]
      · rw [if_neg c2, if_neg (by omega)]
  rw [this]
  rfl
/-- the places that have taken: of n the last j -/
def v_tks (pg : zPg) (f n : Nat) : Nat → zVm → zVm
  | 0, m => m
  | j + 1, m => v_tk1 pg f (n - 1 - j) (v_tks pg f n j m)
theorem v_tks_take {pg : zPg} {f : Nat} : ∀ (n j : Nat) (m : zVm), j ≤ n → v_take pg f (n - j) (v_tks pg f n j m) = v_take pg f n m
  | n, 0, m, _ => rfl
  | n, j + 1, m, h => by
    have h1 := v_tks_take (pg := pg) (f := f) n j m (by omega)
    rw [show n - j = (n - (j + 1)) + 1 by omega] at h1
    rw [← h1]
    show v_take pg f (n - (j + 1)) (v_tk1 pg f (n - 1 - j) (v_tks pg f n j m)) = _
    rw [show n - 1 - j = n - (j + 1) by omega]
    rfl
theorem v_tks_all {pg : zPg} {f n : Nat} {m : zVm} : v_tks pg f n n m = v_take pg f n m := by
  have := v_tks_take (pg := pg) (f := f) n n m (Nat.le_refl _)
  rw [Nat.sub_self] at this
  exact this
/-! what the class's methods do -/
def v_begin (fuel : Int) (l : Nat) (m : zVm) : zVm := (let m' := v_spend fuel m; if vgo m' then v_rec m' (vst m', vcv m' ||| v_bit l, m'.2.1.2.2) else m')
def v_again (R fuel : Int) (q : Nat) (m : zVm) : zVm := if R = 2 then m else let m' := v_spend fuel m; if vgo m' then v_go m' q else m'
def v_branch (q l : Nat) (m : zVm) : zVm := (let m' := v_note (v_pop m) (Int32.ofNat l) (-1) 0 (v_top m); if v_top m = 0 then v_go m' q else m')
def v_reckon (R : Int) (s : Nat) (m : zVm) : zVm := v_push (v_pop (v_pop m)) (v_both R s (v_top (v_pop m)) (v_top m))
theorem zv_spent {fuel : Int} {m : zVm} (h : vst m < fuel) : v_spend fuel m = v_rec m (vst m + 1, m.2.1.2) := if_neg (by omega)
theorem zv_unspent {fuel : Int} {m : zVm} (h : fuel ≤ vst m) : v_spend fuel m = v_stop m 1 := if_pos h
theorem zv_ofNat {x : Int32} (h : 0 ≤ x.toInt) : Int32.ofNat x.toInt.toNat = x := by
  apply Int32.toInt_inj.mp
  have h2 := Int32.toInt_lt x
  rw [Int32.toInt_ofNat']
  rw [show ((x.toInt.toNat : Int)) = x.toInt by omega]
  exact z_bmod ⟨by omega, by omega⟩
theorem zv_ofInt {x : Int32} : Int32.ofInt x.toInt = x := Int32.ofInt_toInt x
theorem zv_begun {fuel : Int} {l : Nat} {m : zVm} (hg : vgo m = true) (h : vst m < fuel) : v_begin fuel l m = v_rec m (vst m + 1, vcv m ||| v_bit l, m.2.1.2.2) := by
  unfold v_begin
  rw [zv_spent h]
  exact if_pos hg
theorem zv_unbegun {fuel : Int} {l : Nat} {m : zVm} (h : fuel ≤ vst m) : v_begin fuel l m = v_stop m 1 := by
  unfold v_begin
  rw [zv_unspent h]
  rfl
theorem zv_again2 {R fuel : Int} {q : Nat} {m : zVm} (hR : R = 2) : v_again R fuel q m = m := if_pos hR
theorem zv_again1 {R fuel : Int} {q : Nat} {m : zVm} (hR : R ≠ 2) (hg : vgo m = true) (h : vst m < fuel) : v_again R fuel q m = v_go (v_spend fuel m) q := by
  unfold v_again
  rw [if_neg hR, zv_spent h]
  exact if_pos hg
theorem zv_again0 {R fuel : Int} {q : Nat} {m : zVm} (hR : R ≠ 2) (h : fuel ≤ vst m) : v_again R fuel q m = v_spend fuel m := by
  unfold v_again
  rw [if_neg hR, zv_unspent h]
  rfl
theorem zv_leave1 {w : Int32} {m : zVm} (h : vdp m ≤ 1) : v_leave w m = ((m.1.1, m.1.2.1, vdp m - 1, m.1.2.2.2), m.2.1, (0, w, false)) := if_pos h
theorem zv_leave2 {w : Int32} {m : zVm} (h : 1 < vdp m) : v_leave w m = v_push (v_go (v_dp m (vdp m - 1)) (vbk m (vdp m - 1))) w := if_neg (by omega)
theorem zv_noted {m : zVm} {a b c d : Int32} (h : vtc m < 400) : v_note m a b c d = v_rec m (vst m, vcv m, vsc m, vsd m, vtc m + 1, vup (vup (vup (vup (vtr m) (4 * vtc m) a) (4 * vtc m + 1) b) (4 * vtc m + 2) c) (4 * vtc m + 3) d, vmx m) := by
  unfold v_note
  rw [if_pos h]
theorem zv_unnoted {m : zVm} {a b c d : Int32} (h : 400 ≤ vtc m) : v_note m a b c d = v_rec m (vst m, vcv m, vsc m, vsd m, vtc m + 1, vtr m, vmx m) := by
  unfold v_note
  rw [if_neg (by omega)]
theorem zv_said {m : zVm} {a : Int32} (h : vsc m < 60) : v_say m a = v_rec m (vst m, vcv m, vsc m + 1, vup (vsd m) (vsc m) a, vtc m, vtr m, vmx m) := by
  unfold v_say
  rw [if_pos h]
theorem zv_unsaid {m : zVm} {a : Int32} (h : 60 ≤ vsc m) : v_say m a = v_rec m (vst m, vcv m, vsc m + 1, vsd m, vtc m, vtr m, vmx m) := by
  unfold v_say
  rw [if_neg (by omega)]
theorem zv_putin {m : zVm} {k : Int} {x : Int32} (h : 0 ≤ v_ix m k ∧ v_ix m k < 64) : v_put m k x = v_pl m (vup (vpl m) (v_ix m k).toNat x) := if_pos h
theorem zv_putout {m : zVm} {k : Int} {x : Int32} (h : v_ix m k < 0 ∨ 64 ≤ v_ix m k) : v_put m k x = m := if_neg (by omega)
theorem zv_getin {m : zVm} {k : Int} (h : 0 ≤ v_ix m k ∧ v_ix m k < 64) : v_get m k = vpl m (v_ix m k).toNat := if_pos h
theorem zv_getout {m : zVm} {k : Int} (h : v_ix m k < 0 ∨ 64 ≤ v_ix m k) : v_get m k = 0 := if_neg (by omega)
/-- the class's functions as the pure machine knows them; its code -/
def zVp (Γ : Nat → Option Nat) (F : Nat → va_E) (pr : Nat) (fa : Nat → Nat) (pg : zPg) : Prop := zPS Γ F pr fa ∧ zFi F pr 4 pg.1.1 ∧ pg.1.1 ≤ 10 ∧ ∀ f, f < pg.1.1 → zFi F (fa f) 7 (pg.1.2 f) ∧ pg.1.2 f ≤ 3 ∧ zFi F (fa f) 5 (pg.2.2 f) ∧ zAd Γ F (fa f) 8 103 ∧ ∀ j, j < pg.1.2 f → (zar F (fa f) 8 j).toInt = pg.2.1 f j
theorem zVp.fr {Γ : Nat → Option Nat} {M : List Nat} {F u : Nat → va_E} {pr : Nat} {fa : Nat → Nat} {pg : zPg} (h : zVp Γ F pr fa pg) (hf : zFr Γ M F u) (hp : Γ pr = some 6) (hM : 602 ∉ M ∧ 604 ∉ M ∧ 205 ∉ M ∧ 207 ∉ M ∧ 208 ∉ M ∧ 10300 ∉ M ∧ 10400 ∉ M) : zVp Γ u pr fa pg := by
  obtain ⟨h1, h2, h3, h4⟩ := h
  refine ⟨h1.fr hf hp ⟨hM.1, hM.2.2.2.2.2.2⟩, h2.fr hf hp ⟨by decide, hM.2.1⟩, h3, fun f hf9 => ?_⟩
  obtain ⟨g1, g2, g3, g4, g5⟩ := h4 f hf9
  have ty := h1.ty (f := f) (by omega)
  refine ⟨g1.fr hf ty ⟨by decide, hM.2.2.2.1⟩, g2, g3.fr hf ty ⟨by decide, hM.2.2.1⟩, g4.fr hf ty ⟨by decide, hM.2.2.2.2.1⟩, fun j hj => ?_⟩
  rw [g4.ar hf ty ⟨by decide, hM.2.2.2.2.1⟩ ⟨by decide, hM.2.2.2.2.2.1⟩]
  exact g5 j hj
def zVq (Γ : Nat → Option Nat) (F : Nat → va_E) (co : Nat) (A : Nat → Nat × Int × Nat) (n : Nat) : Prop := zFi F co 3 n ∧ n ≤ 1200 ∧ zCA Γ F co ∧ ∀ q, q < n → (zar F co 0 q).toInt = ((A q).1 : Int) ∧ (zar F co 1 q).toInt = (A q).2.1 ∧ (zar F co 2 q).toInt = ((A q).2.2 : Int)
theorem zVq.fr {Γ : Nat → Option Nat} {M : List Nat} {F u : Nat → va_E} {co n : Nat} {A : Nat → Nat × Int × Nat} (h : zVq Γ F co A n) (hf : zFr Γ M F u) (hc : Γ co = some 1) (hM : (100 ∉ M ∧ 101 ∉ M ∧ 102 ∉ M) ∧ 103 ∉ M ∧ 10200 ∉ M ∧ 15800 ∉ M ∧ 15900 ∉ M) : zVq Γ u co A n := by
  obtain ⟨h1, h2, h3, h4⟩ := h
  refine ⟨h1.fr hf hc ⟨by decide, hM.2.1⟩, h2, h3.fr hf hc hM.1, fun q hq => ?_⟩
  rw [h3.1.ar hf hc ⟨by decide, hM.1.1⟩ ⟨by decide, hM.2.2.1⟩, h3.2.1.ar hf hc ⟨by decide, hM.1.2.1⟩ ⟨by decide, hM.2.2.2.1⟩, h3.2.2.ar hf hc ⟨by decide, hM.1.2.2⟩ ⟨by decide, hM.2.2.2.2⟩]
  exact h4 q hq
/-! a call's start -/
def v_new (m : zVm) : zVm := v_rec (v_dp (v_bk m (vup (vbk m) (vdp m) (vnx m))) (vdp m + 1)) (vst m, vcv m, vsc m, vsd m, vtc m, vtr m, Nat.max (vmx m) (vdp m + 1))
theorem v_room_zer {m : zVm} : v_room m = v_zer (v_new m) 8 := rfl
theorem v_put_dp {m : zVm} {k : Int} {x : Int32} : vdp (v_put m k x) = vdp m := by
  unfold v_put
  split <;> rfl
theorem v_tks_dp {pg : zPg} {f n : Nat} {m : zVm} : ∀ j, vdp (v_tks pg f n j m) = vdp m
  | 0 => rfl
  | j + 1 => (v_put_dp (m := v_pop (v_tks pg f n j m))).trans (v_tks_dp j)
theorem zv_enter0 {pg : zPg} {f : Int} {m : zVm} (h : 8 ≤ vdp m) : v_enter pg f m = v_stop m 2 := if_pos h
theorem zv_enter1 {pg : zPg} {f : Int} {m : zVm} (h : ¬ 8 ≤ vdp m) (h1 : ¬ (0 ≤ f ∧ f < pg.1.1)) : v_enter pg f m = m := by
  unfold v_enter
  rw [if_neg h, if_neg h1]
theorem zv_enter2 {pg : zPg} {f : Int} {m : zVm} (h : ¬ 8 ≤ vdp m) (h1 : 0 ≤ f ∧ f < pg.1.1) : v_enter pg f m = v_go (v_tks pg f.toNat (pg.1.2 f.toNat) (pg.1.2 f.toNat) (v_room m)) (pg.2.2 f.toNat) := by
  unfold v_enter
  rw [if_neg h, if_pos h1, v_tks_all]
theorem zvls_drop (f : Nat → Int32) (b : Nat) : ∀ a, (zvls f (a + b)).drop a = zvls f b
  | 0 => by rw [Nat.zero_add]; rfl
  | a + 1 => by
    rw [Nat.succ_add]
    exact zvls_drop f b a
/-- what holds at every turn -/
def zVk (k : Nat) (m : zVm) : Prop := (vgo m = true → 1 ≤ vdp m) ∧ vdp m ≤ 8 ∧ vtc m ≤ k ∧ vsc m ≤ k
def zVz (m m' : zVm) : Prop := vgo m' = vgo m ∧ vdp m' = vdp m ∧ vtc m' = vtc m ∧ vsc m' = vsc m
theorem zVz.ok {k : Nat} {m m' : zVm} (h : zVz m m') (g : zVk k m) : zVk k m' := by
  obtain ⟨h1, h2, h3, h4⟩ := h
  unfold zVk
  rw [h1, h2, h3, h4]
  exact g
theorem zVk.w {k k' : Nat} {m : zVm} (g : zVk k m) (h : k ≤ k') : zVk k' m := ⟨g.1, g.2.1, by have := g.2.2.1; omega, by have := g.2.2.2; omega⟩
theorem zVz.rf {m : zVm} : zVz m m := ⟨rfl, rfl, rfl, rfl⟩
theorem zVz.trans {a b c : zVm} (h : zVz a b) (g : zVz b c) : zVz a c := ⟨g.1.trans h.1, g.2.1.trans h.2.1, g.2.2.1.trans h.2.2.1, g.2.2.2.trans h.2.2.2⟩
theorem zVz.push {m : zVm} {x : Int32} : zVz m (v_push m x) := by
  unfold v_push
  split
  · exact ⟨rfl, rfl, rfl, rfl⟩
  · exact zVz.rf
theorem zVz.put {m : zVm} {k : Int} {x : Int32} : zVz m (v_put m k x) := by
  unfold v_put
  split
  · exact ⟨rfl, rfl, rfl, rfl⟩
  · exact zVz.rf
theorem zVz.tks {pg : zPg} {f n : Nat} {m : zVm} : ∀ j, zVz m (v_tks pg f n j m)
  | 0 => zVz.rf
  | j + 1 => (zVz.tks j).trans ((show zVz (v_tks pg f n j m) (v_pop (v_tks pg f n j m)) from ⟨rfl, rfl, rfl, rfl⟩).trans zVz.put)
theorem zVk.stop {k : Nat} {m : zVm} {e : Int} (g : zVk k m) : zVk k (v_stop m e) := ⟨(fun h => by cases h), g.2⟩
theorem zVk.spend {k : Nat} {m : zVm} {f : Int} (g : zVk k m) : zVk k (v_spend f m) := by
  unfold v_spend
  split
  · exact g.stop
  · exact g
theorem zVk.enter {k : Nat} {pg : zPg} {f : Int} {m : zVm} (g : zVk k m) : zVk k (v_enter pg f m) := by
  by_cases h : 8 ≤ vdp m
  · rw [zv_enter0 h]
    exact g.stop
  · by_cases h1 : 0 ≤ f ∧ f < pg.1.1
    · rw [zv_enter2 h h1]
      have h2 := zVz.tks (pg := pg) (f := f.toNat) (n := pg.1.2 f.toNat) (m := v_room m) (pg.1.2 f.toNat)
      have h3 : zVk k (v_room m) := ⟨fun _ => (show 1 ≤ vdp m + 1 by omega), (show vdp m + 1 ≤ 8 by omega), g.2.2⟩
      exact (h2.trans ⟨rfl, rfl, rfl, rfl⟩).ok h3
    · rw [zv_enter1 h h1]
      exact g
theorem zVk.leave {k : Nat} {w : Int32} {m : zVm} (g : zVk k m) : zVk k (v_leave w m) := by
  by_cases h : vdp m ≤ 1
  · rw [zv_leave1 h]
    exact ⟨(fun h => by cases h), (show vdp m - 1 ≤ 8 by have := g.2.1; omega), g.2.2⟩
  · rw [zv_leave2 (by omega)]
    have h3 : zVk k (v_go (v_dp m (vdp m - 1)) (vbk m (vdp m - 1))) := ⟨fun _ => (show 1 ≤ vdp m - 1 by omega), (show vdp m - 1 ≤ 8 by have := g.2.1; omega), g.2.2⟩
    exact zVz.push.ok h3
theorem zVk.note {k : Nat} {a b c d : Int32} {m : zVm} (g : zVk k m) : zVk (k + 1) (v_note m a b c d) := ⟨g.1, g.2.1, (show vtc m + 1 ≤ k + 1 by have := g.2.2.1; omega), (show vsc m ≤ k + 1 by have := g.2.2.2; omega)⟩
/-! an act's words -/
section
variable {R fuel : Int} {pg : zPg} {n : Int} {l : Nat} {m : zVm}
theorem zv_ob0 : v_obey R fuel pg (0, n, l) m = v_begin fuel l m := rfl
theorem zv_ob1 : v_obey R fuel pg (1, n, l) m = v_push m (Int32.ofInt n) := rfl
theorem zv_ob2 : v_obey R fuel pg (2, n, l) m = v_push m (v_get m n) := rfl
theorem zv_obr {s : Nat} (h : 3 ≤ s ∧ s ≤ 8) : v_obey R fuel pg (s, n, l) m = v_reckon R s m := by
  have hs : s = 3 ∨ s = 4 ∨ s = 5 ∨ s = 6 ∨ s = 7 ∨ s = 8 := by omega
  rcases hs with h | h | h | h | h | h <;> (subst h; rfl)
theorem zv_obe {s : Nat} (h : 3 ≤ s ∧ (s ≤ 8 ∨ 17 ≤ s)) : v_obey R fuel pg (s, n, l) m = v_reckon R s m := by
  unfold v_obey
  rw [if_neg (show ¬ s = 0 by omega), if_neg (show ¬ s = 1 by omega), if_neg (show ¬ s = 2 by omega), if_neg (show ¬ s = 9 by omega), if_neg (show ¬ s = 10 by omega), if_neg (show ¬ s = 11 by omega), if_neg (show ¬ s = 12 by omega), if_neg (show ¬ s = 13 by omega), if_neg (show ¬ s = 14 by omega), if_neg (show ¬ s = 15 by omega), if_neg (show ¬ s = 16 by omega)]
  rfl
theorem zv_ob9 : v_obey R fuel pg (9, n, l) m = v_enter pg n m := rfl
theorem zv_ob10 : v_obey R fuel pg (10, n, l) m = v_put (v_note (v_pop m) (Int32.ofNat l) (Int32.ofInt n) (v_get m n) (v_top m)) n (v_top m) := rfl
theorem zv_ob11 : v_obey R fuel pg (11, n, l) m = v_note (v_say (v_pop m) (v_top m)) (Int32.ofNat l) (-1) 0 (v_top m) := rfl
theorem zv_ob12 : v_obey R fuel pg (12, n, l) m = v_leave (v_top m) (v_note (v_pop m) (Int32.ofNat l) (-1) 0 (v_top m)) := rfl
theorem zv_ob13 : v_obey R fuel pg (13, n, l) m = v_branch n.toNat l m := rfl
theorem zv_ob14 : v_obey R fuel pg (14, n, l) m = v_again R fuel n.toNat m := rfl
theorem zv_ob15 : v_obey R fuel pg (15, n, l) m = v_go m n.toNat := rfl
theorem zv_ob16 : v_obey R fuel pg (16, n, l) m = v_leave 0 m := rfl
end
theorem zVk.obey {k : Nat} {R fuel : Int} {pg : zPg} {x : Nat × Int × Nat} {m : zVm} (g : zVk k m) : zVk (k + 1) (v_obey R fuel pg x m) := by
  have gw := g.w (Nat.le_succ k)
  obtain ⟨a, n, l⟩ := x
  have ha : a = 0 ∨ a = 1 ∨ a = 2 ∨ a = 9 ∨ a = 10 ∨ a = 11 ∨ a = 12 ∨ a = 13 ∨ a = 14 ∨ a = 15 ∨ a = 16 ∨ (3 ≤ a ∧ (a ≤ 8 ∨ 17 ≤ a)) := by omega
  rcases ha with h | h | h | h | h | h | h | h | h | h | h | h
  · subst h
    rw [zv_ob0]
    have h1 : zVk (k + 1) (v_spend fuel m) := gw.spend
    unfold v_begin
    dsimp only
    split
    · exact h1
    · exact h1
  · subst h
    exact zVz.push.ok gw
  · subst h
    exact zVz.push.ok gw
  · subst h
    exact gw.enter
  · subst h
    exact (zVz.put).ok (zVk.note (m := v_pop m) g)
  · subst h
    exact ⟨g.1, g.2.1, (show vtc m + 1 ≤ k + 1 by have := g.2.2.1; omega), (show vsc m + 1 ≤ k + 1 by have := g.2.2.2; omega)⟩
  · subst h
    exact zVk.leave (zVk.note (m := v_pop m) g)
  · subst h
    rw [zv_ob13]
    unfold v_branch
    dsimp only
    split
    · exact zVk.note (m := v_pop m) g
    · exact zVk.note (m := v_pop m) g
  · subst h
    rw [zv_ob14]
    have h1 : zVk (k + 1) (v_spend fuel m) := gw.spend
    unfold v_again
    dsimp only
    split
    · exact gw
    · split
      · exact h1
      · exact h1
  · subst h
    exact gw
  · subst h
    exact gw.leave
  · rw [zv_obe h]
    exact zVz.push.ok (show zVk (k + 1) (v_pop (v_pop m)) from gw)
theorem zVk.turn {k n : Nat} {R fuel : Int} {pg : zPg} {A : Nat → Nat × Int × Nat} {m : zVm} (g : zVk k m) : zVk (k + 1) (v_turn R fuel pg A n m) := by
  unfold v_turn
  split
  · exact zVk.obey (m := v_go m (vnx m + 1)) g
  · exact g.w (Nat.le_succ k)
theorem zVk.run {n : Nat} {R fuel : Int} {pg : zPg} {A : Nat → Nat × Int × Nat} : ∀ (j k : Nat) (m : zVm), zVk k m → zVk (k + j) (v_run R fuel pg A n j m)
  | 0, _, _, g => g
  | j + 1, k, m, g => by
    rw [show k + (j + 1) = (k + 1) + j by omega]
    exact zVk.run j (k + 1) _ g.turn
/-- what finish() makes of a machine that start() made -/
def v_cut (n : Nat) (x y z : Int32) (m : zVm) : zVm := v_sk (v_push (v_push (v_push m x) y) z) ([z, y, x].drop (3 - n))
/-- a machine that start() made -/
def v_new0 (sd tr pl : Nat → Int32) (nx : Nat) : zVm := ((nx, [], 0, pl, fun _ => 0), (0, 0, 0, sd, 0, tr, 0), (1, 0, true))
theorem zVk.enter0 {pg : zPg} {f : Int} {m : zVm} (hd : vdp m = 0) (ht : vtc m = 0 ∧ vsc m = 0) (hf : 0 ≤ f ∧ f < pg.1.1) : zVk 0 (v_enter pg f m) := by
  rw [zv_enter2 (by omega) hf]
  have h2 := zVz.tks (pg := pg) (f := f.toNat) (n := pg.1.2 f.toNat) (m := v_room m) (pg.1.2 f.toNat)
  have h3 : zVk 0 (v_room m) := ⟨fun _ => (show 1 ≤ vdp m + 1 by omega), (show vdp m + 1 ≤ 8 by omega), (show vtc m ≤ 0 by omega), (show vsc m ≤ 0 by omega)⟩
  exact (h2.trans ⟨rfl, rfl, rfl, rfl⟩).ok h3
theorem zVz.cut {n : Nat} {x y z : Int32} {m : zVm} : zVz m (v_cut n x y z m) := (((zVz.push (x := x)).trans (zVz.push (x := y))).trans (zVz.push (x := z))).trans ⟨rfl, rfl, rfl, rfl⟩
