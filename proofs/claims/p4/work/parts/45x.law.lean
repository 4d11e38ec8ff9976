/-! What stands between two steps, for program: the Functions, the tapes. -/
theorem zby_cg {B B' : Nat → Int32} {n : Nat} (h : ∀ i, i < n → B i = B' i) : zby B n = zby B' n := by
  funext x
  unfold zby
  by_cases c : 0 ≤ x ∧ x < (n : Int)
  · rw [if_pos c, if_pos c, h x.toNat (by omega)]
  · rw [if_neg c, if_neg c]
theorem zTo_cg {B B' : Nat → Int32} {n : Nat} (h : ∀ i, i < n → B i = B' i) : zTo B n = zTo B' n := by
  have hb := zby_cg h
  have hl : zLt B n = zLt B' n := by
    funext x
    unfold zLt
    rw [hb]
  have hd : zDg B n = zDg B' n := by
    funext x
    unfold zDg
    rw [hb]
  have hs : zBl B n = zBl B' n := by
    funext x
    unfold zBl
    rw [hb]
  have ht : zte B n = zte B' n := by
    funext x
    unfold zte
    rw [hl, hd, hb]
  have hk : zka B n = zka B' n := by
    funext x
    unfold zka
    rw [hl, hd, ht, hb]
  have hp : zpo B n = zpo B' n := by
    funext t
    induction t with
    | zero =>
      show zend (zBl B n) n 0 = zend (zBl B' n) n 0
      rw [hs]
    | succ t ih =>
      show zend (zBl B n) n (zte B n (zpo B n t)) = zend (zBl B' n) n (zte B' n (zpo B' n t))
      rw [ih, hs, ht]
  unfold zTo
  rw [hk, hp, ht, hb]
theorem zf20_cg {f g : Nat → Int32} {p : Int} {a b c d e : Int32} {i : Nat} (h : (i : Int) < p → f i = g i) (hi : (i : Int) < p + 20) : zf20 f p a b c d e i = zf20 g p a b c d e i := by
  rw [← zfm_20, ← zfm_20]
  by_cases q : p ≤ (i : Int) ∧ (i : Int) < p + 20
  · rw [zfm_in q, zfm_in q]
  · rw [zfm_ou q, zfm_ou q]
    exact h (by omega)
def zJw (Γ : Nat → Option Nat) (F : Nat → va_E) (th mo : Nat) (fe : Int32) : Prop := ∃ (pn sn tc tp : Nat) (fa fb : Nat → Nat), zfld F th 2 = .ref pn ∧ zfld F th 3 = .ref sn ∧ (Γ pn = some 6 ∧ Γ sn = some 6) ∧ zPS Γ F pn fa ∧ zPS Γ F sn fb ∧ (zfld F th 0 = .ref tc ∧ Γ tc = some 100) ∧ (zfld F mo 10 = .ref tp ∧ Γ tp = some 152) ∧ ∀ i : Nat, (i : Int) < fe.toInt → zel F tc i = zel F tp i
def zJok (M : List Nat) : Prop := (1002 ∉ M ∧ 1003 ∉ M) ∧ (602 ∉ M ∧ 10400 ∉ M) ∧ (1000 ∉ M ∧ 1410 ∉ M) ∧ 10000 ∉ M ∧ 15200 ∉ M
theorem zJw.fr {Γ : Nat → Option Nat} {M : List Nat} {F u : Nat → va_E} {th mo : Nat} {fe : Int32} (h : zJw Γ F th mo fe) (hf : zFr Γ M F u) (hth : Γ th = some 10) (hmo : Γ mo = some 14) (hM : zJok M) : zJw Γ u th mo fe := by
  obtain ⟨pn, sn, tc, tp, fa, fb, k2, k3, ⟨hp, hs⟩, h1, h2, ⟨k0, htc⟩, ⟨k10, htp⟩, heq⟩ := h
  obtain ⟨⟨m2, m3⟩, m4, ⟨m0, m10⟩, mt, mp⟩ := hM
  refine ⟨pn, sn, tc, tp, fa, fb, hf.f hth 2 ⟨by decide, m2⟩ k2, hf.f hth 3 ⟨by decide, m3⟩ k3, ⟨hp, hs⟩, h1.fr hf hp m4, h2.fr hf hs m4, ⟨hf.f hth 0 ⟨by decide, m0⟩ k0, htc⟩, ⟨hf.f hmo 10 ⟨by decide, m10⟩ k10, htp⟩, fun i hi => ?_⟩
  rw [hf.elf htc ⟨by decide, mt⟩, hf.elf htp ⟨by decide, mp⟩]
  exact heq i hi
theorem z_fdeq {fe f9 r1 na nb nc nd ne : Int32} {A A1 A2 B B1 B2 : Nat → Int32} (h : ∀ i : Nat, (i : Int) < fe.toInt → A i = B i) (h1 : (fe.toInt + 20 ≤ 600 → A1 = zf20 A fe.toInt na nb nc nd ne) ∧ (600 < fe.toInt + 20 → A1 = A)) (e1 : A2 = A1) (e0 : B1 = B) (h2 : (fe.toInt + 20 ≤ 600 → B2 = zf20 B1 fe.toInt na nb nc nd ne) ∧ (600 < fe.toInt + 20 → B2 = B1)) (hc : (fe.toInt + 20 ≤ 600 → f9.toInt = fe.toInt + 20 ∧ r1.toInt = f9.toInt) ∧ (600 < fe.toInt + 20 → f9.toInt = fe.toInt ∧ r1.toInt = -1)) : ∀ i : Nat, (i : Int) < f9.toInt → A2 i = B2 i := fun i hi => by
  by_cases c : fe.toInt + 20 ≤ 600
  · rw [e1, h1.1 c, h2.1 c, e0]
    exact zf20_cg (h i) (by have := (hc.1 c).1; omega)
  · rw [e1, h1.2 (by omega), h2.2 (by omega), e0]
    exact h i (by have := (hc.2 (by omega)).1; omega)
theorem z_prg {q fe r1 r2 : Int32} {A B : Nat → Int32} {P1 P2 : Int32 → Prop} {Y1 Y2 Y3 : Prop} (hb : ∀ i : Nat, (i : Int) < fe.toInt → A i = B i) (h1 : (0 ≤ q.toInt ∧ q.toInt ≤ fe.toInt → ∃ (k9 : Int32) (fc9 lc9 : Int), P1 k9 ∧ zOut (zTo A q.toInt.toNat) k9.toInt fc9 lc9 ∧ ((k9.toInt = 0 ∧ r1.toInt = fc9) ∨ (k9.toInt ≠ 0 ∧ r1.toInt = -1)) ∧ Y1) ∧ (q.toInt < 0 ∨ fe.toInt < q.toInt → r1.toInt = -1 ∧ Y2)) (h2 : (0 ≤ q.toInt ∧ q.toInt ≤ fe.toInt → ∃ (k9 : Int32) (fc9 lc9 : Int), P2 k9 ∧ zOut (zTo B q.toInt.toNat) k9.toInt fc9 lc9 ∧ ((k9.toInt = 0 ∧ r2.toInt = fc9) ∨ (k9.toInt ≠ 0 ∧ r2.toInt = -1))) ∧ (q.toInt < 0 ∨ fe.toInt < q.toInt → r2.toInt = -1 ∧ Y3)) : r1 = r2 := by
  apply Int32.toInt_inj.mp
  by_cases c : 0 ≤ q.toInt ∧ q.toInt ≤ fe.toInt
  · obtain ⟨k1, f1, l1, -, o1, q1, -⟩ := h1.1 c
    obtain ⟨k2, f2, l2, -, o2, q2⟩ := h2.1 c
    rw [zTo_cg (B := A) (B' := B) (fun i hi => hb i (by omega))] at o1
    obtain ⟨e1, e2⟩ := zOut.un o1 o2
    rcases q1 with ⟨a1, a2⟩ | ⟨a1, a2⟩
    · rcases q2 with ⟨b1, b2⟩ | ⟨b1, b2⟩
      · rw [a2, b2]
        exact (e2 a1).1
      · omega
    · rcases q2 with ⟨b1, b2⟩ | ⟨b1, b2⟩
      · omega
      · omega
  · rw [(h1.2 (by omega)).1, (h2.2 (by omega)).1]
theorem z_prs {q fe r1 : Int32} {T : zTS} {P1 : Int32 → Prop} {Y Y2 : Prop} (h1 : (0 ≤ q.toInt ∧ q.toInt ≤ fe.toInt → ∃ (k9 : Int32) (fc9 lc9 : Int), P1 k9 ∧ zOut T k9.toInt fc9 lc9 ∧ ((k9.toInt = 0 ∧ r1.toInt = fc9) ∨ (k9.toInt ≠ 0 ∧ r1.toInt = -1)) ∧ Y) ∧ (q.toInt < 0 ∨ fe.toInt < q.toInt → r1.toInt = -1 ∧ Y2 ∧ Y)) : Y := by
  by_cases c : 0 ≤ q.toInt ∧ q.toInt ≤ fe.toInt
  · obtain ⟨k1, f1, l1, -, -, -, y⟩ := h1.1 c
    exact y
  · exact (h1.2 (by omega)).2.2
theorem z_pfe {q f9 fe : Int32} (h : (0 ≤ q.toInt ∧ q.toInt ≤ fe.toInt → f9.toInt = 0) ∧ (q.toInt < 0 ∨ fe.toInt < q.toInt → f9.toInt = fe.toInt)) (b : zB 0 600 fe) : f9.toInt ≤ fe.toInt := by
  have b1 := b.1
  by_cases c : 0 ≤ q.toInt ∧ q.toInt ≤ fe.toInt
  · rw [h.1 c]
    exact b1
  · rw [h.2 (by omega)]
    exact Int.le_refl _
theorem zJw.prog {Γ : Nat → Option Nat} {M M' : List Nat} {F u v : Nat → va_E} {th mo pn sn tc tp : Nat} {fa fb : Nat → Nat} {fe f9 : Int32} (hp : Γ pn = some 6) (hs : Γ sn = some 6) (h1 : zPS Γ F pn fa) (h2 : zPS Γ F sn fb) (k0 : zfld F th 0 = .ref tc) (htc : Γ tc = some 100) (k10 : zfld F mo 10 = .ref tp) (htp : Γ tp = some 152) (heq : ∀ i : Nat, (i : Int) < fe.toInt → zel F tc i = zel F tp i) (hf : zFr Γ M F u) (hg : zFr Γ M' u v) (hth : Γ th = some 10) (hmo : Γ mo = some 14) (hM : (602 ∉ M ∧ 10400 ∉ M) ∧ (1000 ∉ M ∧ 1410 ∉ M) ∧ 10000 ∉ M ∧ 15200 ∉ M) (hM' : zJok M') (hY : (zfld u th 2 = .ref pn ∧ zfld u th 3 = .ref sn) ∨ (zfld u th 2 = .ref sn ∧ zfld u th 3 = .ref pn)) (hle : f9.toInt ≤ fe.toInt) : zJw Γ v th mo f9 := by
  obtain ⟨m4, ⟨m0, m10⟩, mt, mp⟩ := hM
  have k0' := hf.f hth 0 ⟨by decide, m0⟩ k0
  have k10' := hf.f hmo 10 ⟨by decide, m10⟩ k10
  have heq' : ∀ i : Nat, (i : Int) < f9.toInt → zel u tc i = zel u tp i := fun i hi => by
    rw [hf.elf htc ⟨by decide, mt⟩, hf.elf htp ⟨by decide, mp⟩]
    exact heq i (by omega)
  have q1 := h1.fr hf hp m4
  have q2 := h2.fr hf hs m4
  have hJ : zJw Γ u th mo f9 := by
    rcases hY with ⟨a, b⟩ | ⟨a, b⟩
    · exact ⟨pn, sn, tc, tp, fa, fb, a, b, ⟨hp, hs⟩, q1, q2, ⟨k0', htc⟩, ⟨k10', htp⟩, heq'⟩
    · exact ⟨sn, pn, tc, tp, fb, fa, a, b, ⟨hs, hp⟩, q2, q1, ⟨k0', htc⟩, ⟨k10', htp⟩, heq'⟩
  exact hJ.fr hg hth hmo hM'
theorem zJw.feed {Γ : Nat → Option Nat} {M M' : List Nat} {F u v : Nat → va_E} {th mo pn sn tc tp : Nat} {fa fb : Nat → Nat} {f9 : Int32} (j2 : zfld F th 2 = .ref pn) (j3 : zfld F th 3 = .ref sn) (hp : Γ pn = some 6) (hs : Γ sn = some 6) (h1 : zPS Γ F pn fa) (h2 : zPS Γ F sn fb) (k0 : zfld F th 0 = .ref tc) (htc : Γ tc = some 100) (k10 : zfld F mo 10 = .ref tp) (htp : Γ tp = some 152) (hf : zFr Γ M F u) (hg : zFr Γ M' u v) (hth : Γ th = some 10) (hmo : Γ mo = some 14) (hM : (1002 ∉ M ∧ 1003 ∉ M) ∧ (602 ∉ M ∧ 10400 ∉ M) ∧ 1000 ∉ M ∧ 1410 ∉ M) (hM' : (1002 ∉ M' ∧ 1003 ∉ M') ∧ (602 ∉ M' ∧ 10400 ∉ M') ∧ 1000 ∉ M' ∧ 1410 ∉ M') (heq : ∀ i : Nat, (i : Int) < f9.toInt → zel v tc i = zel v tp i) : zJw Γ v th mo f9 :=
  ⟨pn, sn, tc, tp, fa, fb, hg.f hth 2 ⟨by decide, hM'.1.1⟩ (hf.f hth 2 ⟨by decide, hM.1.1⟩ j2), hg.f hth 3 ⟨by decide, hM'.1.2⟩ (hf.f hth 3 ⟨by decide, hM.1.2⟩ j3), ⟨hp, hs⟩, (h1.fr hf hp hM.2.1).fr hg hp hM'.2.1, (h2.fr hf hs hM.2.1).fr hg hs hM'.2.1, ⟨hg.f hth 0 ⟨by decide, hM'.2.2.1⟩ (hf.f hth 0 ⟨by decide, hM.2.2.1⟩ k0), htc⟩, ⟨hg.f hmo 10 ⟨by decide, hM'.2.2.2⟩ (hf.f hmo 10 ⟨by decide, hM.2.2.2⟩ k10), htp⟩, heq⟩
def zKw (F : Nat → va_E) (th mo : Nat) : Prop := ∃ fk : Int32, zfld F th 12 = .int fk ∧ zfld F mo 3 = .int fk
theorem zKw.fr {Γ : Nat → Option Nat} {M : List Nat} {F u : Nat → va_E} {th mo : Nat} (h : zKw F th mo) (hf : zFr Γ M F u) (hth : Γ th = some 10) (hmo : Γ mo = some 14) (hM : 1012 ∉ M ∧ 1403 ∉ M) : zKw u th mo := by
  obtain ⟨fk, h1, h2⟩ := h
  exact ⟨fk, hf.f hth 12 ⟨by decide, hM.1⟩ h1, hf.f hmo 3 ⟨by decide, hM.2⟩ h2⟩
theorem z_kw {q fe r1 r2 : Int32} {A B : Nat → Int32} {a b a0 b0 : Value} {R1 R2 : Int32 → Int → Int → Prop} {Y2 : Prop} (hb : ∀ i : Nat, (i : Int) < fe.toInt → A i = B i) (h1 : (0 ≤ q.toInt ∧ q.toInt ≤ fe.toInt → ∃ (k9 : Int32) (fc9 lc9 : Int), a = .int k9 ∧ zOut (zTo A q.toInt.toNat) k9.toInt fc9 lc9 ∧ R1 k9 fc9 lc9) ∧ (q.toInt < 0 ∨ fe.toInt < q.toInt → r1.toInt = -1 ∧ a = a0 ∧ Y2)) (h2 : (0 ≤ q.toInt ∧ q.toInt ≤ fe.toInt → ∃ (k9 : Int32) (fc9 lc9 : Int), b = .int k9 ∧ zOut (zTo B q.toInt.toNat) k9.toInt fc9 lc9 ∧ R2 k9 fc9 lc9) ∧ (q.toInt < 0 ∨ fe.toInt < q.toInt → r2.toInt = -1 ∧ b = b0)) (h0 : ∃ fk : Int32, a0 = .int fk ∧ b0 = .int fk) : ∃ fk : Int32, a = .int fk ∧ b = .int fk := by
  by_cases c : 0 ≤ q.toInt ∧ q.toInt ≤ fe.toInt
  · obtain ⟨k1, f1, l1, e1, o1, -⟩ := h1.1 c
    obtain ⟨k2, f2, l2, e2, o2, -⟩ := h2.1 c
    rw [zTo_cg (B := A) (B' := B) (fun i hi => hb i (by omega))] at o1
    have e := Int32.toInt_inj.mp (zOut.un o1 o2).1
    exact ⟨k1, e1, by rw [e2, e]⟩
  · obtain ⟨fk, g1, g2⟩ := h0
    exact ⟨fk, (h1.2 (by omega)).2.1.trans g1, (h2.2 (by omega)).2.trans g2⟩
theorem zKw.prog {Γ : Nat → Option Nat} {M M' : List Nat} {F u v : Nat → va_E} {th mo : Nat} (hth : Γ th = some 10) (hmo : Γ mo = some 14) (hf : zFr Γ M F u) (hM : 1403 ∉ M) (hg : zFr Γ M' u v) (hM' : 1012 ∉ M') (h : zKw F th mo) (w : (∃ fk : Int32, zfld F th 12 = .int fk ∧ zfld u mo 3 = .int fk) → ∃ fk : Int32, zfld u th 12 = .int fk ∧ zfld v mo 3 = .int fk) : zKw v th mo := by
  obtain ⟨fk, h1, h2⟩ := h
  obtain ⟨k9, e1, e2⟩ := w ⟨fk, h1, hf.f hmo 3 ⟨by decide, hM⟩ h2⟩
  exact ⟨k9, hg.f hth 12 ⟨by decide, hM'⟩ e1, e2⟩
