/-! What stands between two steps, for program: the Functions, the tapes. -/
theorem zby_cg {B B' : Nat → Int32} {n : Nat} (h : ∀ i, i < n → B i = B' i) : zby B n = zby B' n := by
  funext x
  unfold zby
  by_cases c : 0 ≤ x ∧ x < (n : Int)
  · rw [if_pos c, if_pos c, h x.toNat (by omega)]
  · rw [if_neg c, if_neg c]
theorem zTo_cg {B B' : Nat → Int32} {n : Nat} (h : ∀ i, i < n → B i = B' i) : zTo B n = zTo B' n := by
  have hb := zby_cg h
  have hl : zLt B n = zLt B' n := by
    funext x
    unfold zLt
    rw [hb]
  have hd : zDg B n = zDg B' n := by
    funext x
    unfold zDg
    rw [hb]
  have hs : zBl B n = zBl B' n := by
    funext x
    unfold zBl
    rw [hb]
  have ht : zte B n = zte B' n := by
    funext x
    unfold zte
    rw [hl, hd, hb]
  have hk : zka B n = zka B' n := by
    funext x
    unfold zka
    rw [hl, hd, ht, hb]
  have hp : zpo B n = zpo B' n := by
    funext t
    induction t with
    | zero =>
      show zend (zBl B n) n 0 = zend (zBl B' n) n 0
      rw [hs]
    | succ t ih =>
      show zend (zBl B n) n (zte B n (zpo B n t)) = zend (zBl B' n) n (zte B' n (zpo B' n t))
      rw [ih, hs, ht]
  unfold zTo
  rw [hk, hp, ht, hb]
theorem zf20_cg {f g : Nat → Int32} {p : Int} {a b c d e : Int32} {i : Nat} (h : (i : Int) < p → f i = g i) (hi : (i : Int) < p + 20) : zf20 f p a b c d e i = zf20 g p a b c d e i := by
  rw [← zfm_20, ← zfm_20]
  by_cases q : p ≤ (i : Int) ∧ (i : Int) < p + 20
  · rw [zfm_in q, zfm_in q]
  · rw [zfm_ou q, zfm_ou q]
    exact h (by omega)
theorem zFr.app {Γ : Nat → Option Nat} {M M' : List Nat} {F u v : Nat → va_E} (h : zFr Γ M F u) (h' : zFr Γ M' u v) : zFr Γ (M ++ M') F v := (h.w (fun x hx => List.mem_append_left _ hx)).trans h' (fun x hx => List.mem_append_right _ hx)
def zJw (Γ : Nat → Option Nat) (F : Nat → va_E) (th mo : Nat) (fe : Int32) : Prop := ∃ (pn sn tc tp : Nat) (fa fb la lb : Nat → Nat) (Ln Ls : List Nat), zfld F th 2 = .ref pn ∧ zfld F th 3 = .ref sn ∧ zF2 Γ F pn sn Ln Ls ∧ (zPS Γ F pn fa ∧ zPS Γ F sn fb) ∧ (zLS Γ F pn la ∧ zLS Γ F sn lb) ∧ (zfld F th 0 = .ref tc ∧ Γ tc = some 100) ∧ (zfld F mo 10 = .ref tp ∧ Γ tp = some 152) ∧ ∀ i : Nat, (i : Int) < fe.toInt → zel F tc i = zel F tp i
def zJo4 (M : List Nat) : Prop := ((602 ∉ M ∧ 10400 ∉ M) ∧ 603 ∉ M ∧ 10500 ∉ M) ∧ ∀ m ∈ zR6, m ∉ M
def zJok (M : List Nat) : Prop := (1002 ∉ M ∧ 1003 ∉ M) ∧ zJo4 M ∧ (1000 ∉ M ∧ 1410 ∉ M) ∧ 10000 ∉ M ∧ 15200 ∉ M
theorem zJw.fr {Γ : Nat → Option Nat} {M : List Nat} {F u : Nat → va_E} {th mo : Nat} {fe : Int32} (h : zJw Γ F th mo fe) (hf : zFr Γ M F u) (hth : Γ th = some 10) (hmo : Γ mo = some 14) (hM : zJok M) : zJw Γ u th mo fe := by
  obtain ⟨pn, sn, tc, tp, fa, fb, la, lb, Ln, Ls, k2, k3, hF, ⟨h1, h2⟩, ⟨l1, l2⟩, ⟨k0, htc⟩, ⟨k10, htp⟩, heq⟩ := h
  obtain ⟨⟨m2, m3⟩, ⟨⟨m4, m5⟩, m6⟩, ⟨m0, m10⟩, mt, mp⟩ := hM
  refine ⟨pn, sn, tc, tp, fa, fb, la, lb, Ln, Ls, hf.f hth 2 ⟨by decide, m2⟩ k2, hf.f hth 3 ⟨by decide, m3⟩ k3, hF.fr hf m6, ⟨h1.fr hf hF.1.2.1 m4, h2.fr hf hF.2.1.2.1 m4⟩, ⟨l1.fr hf hF.1.2.1 m5, l2.fr hf hF.2.1.2.1 m5⟩, ⟨hf.f hth 0 ⟨by decide, m0⟩ k0, htc⟩, ⟨hf.f hmo 10 ⟨by decide, m10⟩ k10, htp⟩, fun i hi => ?_⟩
  rw [hf.elf htc ⟨by decide, mt⟩, hf.elf htp ⟨by decide, mp⟩]
  exact heq i hi
theorem z_fdeq {fe f9 r1 na nb nc nd ne : Int32} {A A1 A2 B B1 B2 : Nat → Int32} (h : ∀ i : Nat, (i : Int) < fe.toInt → A i = B i) (h1 : (fe.toInt + 20 ≤ 600 → A1 = zf20 A fe.toInt na nb nc nd ne) ∧ (600 < fe.toInt + 20 → A1 = A)) (e1 : A2 = A1) (e0 : B1 = B) (h2 : (fe.toInt + 20 ≤ 600 → B2 = zf20 B1 fe.toInt na nb nc nd ne) ∧ (600 < fe.toInt + 20 → B2 = B1)) (hc : (fe.toInt + 20 ≤ 600 → f9.toInt = fe.toInt + 20 ∧ r1.toInt = f9.toInt) ∧ (600 < fe.toInt + 20 → f9.toInt = fe.toInt ∧ r1.toInt = -1)) : ∀ i : Nat, (i : Int) < f9.toInt → A2 i = B2 i := fun i hi => by
  by_cases c : fe.toInt + 20 ≤ 600
  · rw [e1, h1.1 c, h2.1 c, e0]
    exact zf20_cg (h i) (by have := (hc.1 c).1; omega)
  · rw [e1, h1.2 (by omega), h2.2 (by omega), e0]
    exact h i (by have := (hc.2 (by omega)).1; omega)
/-- class and reference: both took the text, and read the same; or both left what they had -/
theorem z_both {q fe r1 r2 : Int32} {A B : Nat → Int32} {a b : Value} {O1 O2 : zDat → Prop} {N1 N2 Y1 Y2 : Prop} (hb : ∀ i : Nat, (i : Int) < fe.toInt → A i = B i) (h1 : (0 ≤ q.toInt ∧ q.toInt ≤ fe.toInt → ∃ (k9 : Int32) (d9 : zDat), a = .int k9 ∧ zOut (zTo A q.toInt.toNat) k9.toInt d9 ∧ ((k9.toInt = 0 ∧ r1.toInt = (zfc d9 : Int) ∧ O1 d9) ∨ (k9.toInt ≠ 0 ∧ r1.toInt = -1 ∧ N1))) ∧ (q.toInt < 0 ∨ fe.toInt < q.toInt → r1.toInt = -1 ∧ Y1 ∧ N1)) (h2 : (0 ≤ q.toInt ∧ q.toInt ≤ fe.toInt → ∃ (k9 : Int32) (d9 : zDat), b = .int k9 ∧ zOut (zTo B q.toInt.toNat) k9.toInt d9 ∧ ((k9.toInt = 0 ∧ r2.toInt = (zfc d9 : Int) ∧ O2 d9) ∨ (k9.toInt ≠ 0 ∧ r2.toInt = -1 ∧ N2))) ∧ (q.toInt < 0 ∨ fe.toInt < q.toInt → r2.toInt = -1 ∧ Y2 ∧ N2)) : r1 = r2 ∧ ((∃ d, zTo A q.toInt.toNat = zTo B q.toInt.toNat ∧ O1 d ∧ O2 d) ∨ (N1 ∧ N2)) := by
  by_cases c : 0 ≤ q.toInt ∧ q.toInt ≤ fe.toInt
  · obtain ⟨k1, d1, -, o1, q1⟩ := h1.1 c
    obtain ⟨k2, d2, -, o2, q2⟩ := h2.1 c
    have hT := zTo_cg (B := A) (B' := B) (n := q.toInt.toNat) (fun i hi => hb i (by omega))
    rw [hT] at o1
    obtain ⟨e1, e2⟩ := zOut.un o1 o2
    rcases q1 with ⟨a1, a2, a3⟩ | ⟨a1, a2, a3⟩
    · rcases q2 with ⟨b1, b2, b3⟩ | ⟨b1, b2, b3⟩
      · have g := e2 a1
        subst g
        exact ⟨Int32.toInt_inj.mp (a2.trans b2.symm), Or.inl ⟨_, hT, a3, b3⟩⟩
      · omega
    · rcases q2 with ⟨b1, b2, b3⟩ | ⟨b1, b2, b3⟩
      · omega
      · exact ⟨Int32.toInt_inj.mp (a2.trans b2.symm), Or.inr ⟨a3, b3⟩⟩
  · obtain ⟨a1, -, a3⟩ := h1.2 (by omega)
    obtain ⟨b1, -, b3⟩ := h2.2 (by omega)
    exact ⟨Int32.toInt_inj.mp (a1.trans b1.symm), Or.inr ⟨a3, b3⟩⟩
theorem z_pfe {q f9 fe : Int32} (h : (0 ≤ q.toInt ∧ q.toInt ≤ fe.toInt → f9.toInt = 0) ∧ (q.toInt < 0 ∨ fe.toInt < q.toInt → f9.toInt = fe.toInt)) (b : zB 0 600 fe) : f9.toInt ≤ fe.toInt := by
  have b1 := b.1
  by_cases c : 0 ≤ q.toInt ∧ q.toInt ≤ fe.toInt
  · rw [h.1 c]
    exact b1
  · rw [h.2 (by omega)]
    exact Int.le_refl _
theorem zJw.prog {Γ : Nat → Option Nat} {M M' : List Nat} {F u v : Nat → va_E} {th mo to ch pn sn tc tp : Nat} {fa fb la lb : Nat → Nat} {Ln Ls : List Nat} {fe f9 : Int32} {E2 : Prop} {T : zTS} {O2 : zDat → Prop} {N2 : Prop} (hF : zF2 Γ F pn sn Ln Ls) (h1 : zPS Γ F pn fa ∧ zPS Γ F sn fb) (h2 : zLS Γ F pn la ∧ zLS Γ F sn lb) (k0 : zfld F th 0 = .ref tc) (htc : Γ tc = some 100) (k10 : zfld F mo 10 = .ref tp) (htp : Γ tp = some 152) (heq : ∀ i : Nat, (i : Int) < fe.toInt → zel F tc i = zel F tp i) (hf : zFr Γ M F u) (hg : zFr Γ M' u v) (hth : Γ th = some 10) (hmo : Γ mo = some 14) (hM : zJo4 M ∧ (1000 ∉ M ∧ 1410 ∉ M) ∧ 10000 ∉ M ∧ 15200 ∉ M) (hM' : zJok M') (hY : (∃ d, E2 ∧ zCok u th to ch pn sn fb lb T d ∧ O2 d) ∨ (zCno Γ F u th to ch pn sn Ln ∧ N2)) (hle : f9.toInt ≤ fe.toInt) : zJw Γ v th mo f9 := by
  obtain ⟨⟨⟨m4, m5⟩, m6⟩, ⟨m0, m10⟩, mt, mp⟩ := hM
  have k0' := hf.f hth 0 ⟨by decide, m0⟩ k0
  have k10' := hf.f hmo 10 ⟨by decide, m10⟩ k10
  have heq' : ∀ i : Nat, (i : Int) < f9.toInt → zel u tc i = zel u tp i := fun i hi => by
    rw [hf.elf htc ⟨by decide, mt⟩, hf.elf htp ⟨by decide, mp⟩]
    exact heq i (by omega)
  have q1 := h1.1.fr hf hF.1.2.1 m4
  have q2 := h1.2.fr hf hF.2.1.2.1 m4
  have l1 := h2.1.fr hf hF.1.2.1 m5
  have l2 := h2.2.fr hf hF.2.1.2.1 m5
  have hF' := hF.fr hf m6
  have hJ : zJw Γ u th mo f9 := by
    rcases hY with ⟨_, -, ⟨a, b, -⟩, -⟩ | ⟨⟨a, b, -⟩, -⟩
    · exact ⟨sn, pn, tc, tp, fb, fa, lb, la, Ls, Ln, a, b, hF'.sw, ⟨q2, q1⟩, ⟨l2, l1⟩, ⟨k0', htc⟩, ⟨k10', htp⟩, heq'⟩
    · exact ⟨pn, sn, tc, tp, fa, fb, la, lb, Ln, Ls, a, b, hF', ⟨q1, q2⟩, ⟨l1, l2⟩, ⟨k0', htc⟩, ⟨k10', htp⟩, heq'⟩
  exact hJ.fr hg hth hmo hM'
theorem zJw.feed {Γ : Nat → Option Nat} {M M' : List Nat} {F u v : Nat → va_E} {th mo pn sn tc tp : Nat} {fa fb la lb : Nat → Nat} {Ln Ls : List Nat} {f9 : Int32} (j2 : zfld F th 2 = .ref pn) (j3 : zfld F th 3 = .ref sn) (hF : zF2 Γ F pn sn Ln Ls) (h1 : zPS Γ F pn fa ∧ zPS Γ F sn fb) (h2 : zLS Γ F pn la ∧ zLS Γ F sn lb) (k0 : zfld F th 0 = .ref tc) (htc : Γ tc = some 100) (k10 : zfld F mo 10 = .ref tp) (htp : Γ tp = some 152) (hf : zFr Γ M F u) (hg : zFr Γ M' u v) (hth : Γ th = some 10) (hmo : Γ mo = some 14) (hM : (1002 ∉ M ∧ 1003 ∉ M) ∧ zJo4 M ∧ 1000 ∉ M ∧ 1410 ∉ M) (hM' : (1002 ∉ M' ∧ 1003 ∉ M') ∧ zJo4 M' ∧ 1000 ∉ M' ∧ 1410 ∉ M') (heq : ∀ i : Nat, (i : Int) < f9.toInt → zel v tc i = zel v tp i) : zJw Γ v th mo f9 :=
  ⟨pn, sn, tc, tp, fa, fb, la, lb, Ln, Ls, hg.f hth 2 ⟨by decide, hM'.1.1⟩ (hf.f hth 2 ⟨by decide, hM.1.1⟩ j2), hg.f hth 3 ⟨by decide, hM'.1.2⟩ (hf.f hth 3 ⟨by decide, hM.1.2⟩ j3), (hF.fr hf hM.2.1.2).fr hg hM'.2.1.2, ⟨(h1.1.fr hf hF.1.2.1 hM.2.1.1.1).fr hg hF.1.2.1 hM'.2.1.1.1, (h1.2.fr hf hF.2.1.2.1 hM.2.1.1.1).fr hg hF.2.1.2.1 hM'.2.1.1.1⟩, ⟨(h2.1.fr hf hF.1.2.1 hM.2.1.1.2).fr hg hF.1.2.1 hM'.2.1.1.2, (h2.2.fr hf hF.2.1.2.1 hM.2.1.1.2).fr hg hF.2.1.2.1 hM'.2.1.1.2⟩, ⟨hg.f hth 0 ⟨by decide, hM'.2.2.1⟩ (hf.f hth 0 ⟨by decide, hM.2.2.1⟩ k0), htc⟩, ⟨hg.f hmo 10 ⟨by decide, hM'.2.2.2⟩ (hf.f hmo 10 ⟨by decide, hM.2.2.2⟩ k10), htp⟩, heq⟩
def zKw (F : Nat → va_E) (th mo : Nat) : Prop := ∃ fk : Int32, zfld F th 12 = .int fk ∧ zfld F mo 3 = .int fk
theorem zKw.fr {Γ : Nat → Option Nat} {M : List Nat} {F u : Nat → va_E} {th mo : Nat} (h : zKw F th mo) (hf : zFr Γ M F u) (hth : Γ th = some 10) (hmo : Γ mo = some 14) (hM : 1012 ∉ M ∧ 1403 ∉ M) : zKw u th mo := by
  obtain ⟨fk, h1, h2⟩ := h
  exact ⟨fk, hf.f hth 12 ⟨by decide, hM.1⟩ h1, hf.f hmo 3 ⟨by decide, hM.2⟩ h2⟩
theorem z_kw {q fe r1 r2 : Int32} {A B : Nat → Int32} {a b a0 b0 : Value} {R1 R2 : Int32 → zDat → Prop} {Y2 Y3 : Prop} (hb : ∀ i : Nat, (i : Int) < fe.toInt → A i = B i) (h1 : (0 ≤ q.toInt ∧ q.toInt ≤ fe.toInt → ∃ (k9 : Int32) (d9 : zDat), a = .int k9 ∧ zOut (zTo A q.toInt.toNat) k9.toInt d9 ∧ R1 k9 d9) ∧ (q.toInt < 0 ∨ fe.toInt < q.toInt → r1.toInt = -1 ∧ a = a0 ∧ Y2)) (h2 : (0 ≤ q.toInt ∧ q.toInt ≤ fe.toInt → ∃ (k9 : Int32) (d9 : zDat), b = .int k9 ∧ zOut (zTo B q.toInt.toNat) k9.toInt d9 ∧ R2 k9 d9) ∧ (q.toInt < 0 ∨ fe.toInt < q.toInt → r2.toInt = -1 ∧ b = b0 ∧ Y3)) (h0 : ∃ fk : Int32, a0 = .int fk ∧ b0 = .int fk) : ∃ fk : Int32, a = .int fk ∧ b = .int fk := by
  by_cases c : 0 ≤ q.toInt ∧ q.toInt ≤ fe.toInt
  · obtain ⟨k1, d1, e1, o1, -⟩ := h1.1 c
    obtain ⟨k2, d2, e2, o2, -⟩ := h2.1 c
    rw [zTo_cg (B := A) (B' := B) (fun i hi => hb i (by omega))] at o1
    have e := Int32.toInt_inj.mp (zOut.un o1 o2).1
    exact ⟨k1, e1, by rw [e2, e]⟩
  · obtain ⟨fk, g1, g2⟩ := h0
    exact ⟨fk, (h1.2 (by omega)).2.1.trans g1, (h2.2 (by omega)).2.1.trans g2⟩
theorem zKw.prog {Γ : Nat → Option Nat} {M M' : List Nat} {F u v : Nat → va_E} {th mo : Nat} (hth : Γ th = some 10) (hmo : Γ mo = some 14) (hf : zFr Γ M F u) (hM : 1403 ∉ M) (hg : zFr Γ M' u v) (hM' : 1012 ∉ M') (h : zKw F th mo) (w : (∃ fk : Int32, zfld F th 12 = .int fk ∧ zfld u mo 3 = .int fk) → ∃ fk : Int32, zfld u th 12 = .int fk ∧ zfld v mo 3 = .int fk) : zKw v th mo := by
  obtain ⟨fk, h1, h2⟩ := h
  obtain ⟨k9, e1, e2⟩ := w ⟨fk, h1, hf.f hmo 3 ⟨by decide, hM⟩ h2⟩
  exact ⟨k9, hg.f hth 12 ⟨by decide, hM'⟩ e1, e2⟩
/-- now's lines are the reference's -/
def zLe (F : Nat → va_E) (la : Nat → Nat) (pr : Nat) (lc : Int) : Prop := ∀ l : Nat, (l : Int) < lc → ∀ j, j < 4 → zfld F (la l) j = .int (zar F pr (13 + j) l)
/-- now's functions are the reference's -/
def zFq (F : Nat → va_E) (fa : Nat → Nat) (pr : Nat) (fc : Int) : Prop := ∀ f : Nat, (f : Int) < fc → ∀ w, w < 4 → zfld F (fa f) (zfj w) = .int (zar F pr (6 + w) f)
/-- the counts: of now's functions and lines, of the runs told; now's functions and lines -/
def zDx (Γ : Nat → Option Nat) (F : Nat → va_E) (th mo pn to pr : Nat) (fa la : Nat → Nat) (fc lc sz iz : Int32) : Prop := (zfld F th 2 = .ref pn ∧ zfld F th 10 = .ref to ∧ zfld F mo 4 = .ref pr) ∧ (Γ pn = some 6 ∧ Γ to = some 9 ∧ Γ pr = some 11 ∧ zPS Γ F pn fa ∧ zLS Γ F pn la ∧ zSA Γ F pr) ∧ (zfld F pn 4 = .int fc ∧ zfld F pn 5 = .int lc ∧ lc.toInt ≤ 60 ∧ fc.toInt ≤ 10) ∧ zfld F to 4 = .int sz ∧ zfld F mo 32 = .int sz ∧ zfld F mo 7 = .int iz ∧ ((iz.toInt = 0 ∧ fc.toInt = 0 ∧ lc.toInt = 0) ∨ (iz.toInt ≠ 0 ∧ zfld F pr 0 = .int fc ∧ zfld F pr 1 = .int lc ∧ zLe F la pr lc.toInt ∧ zFq F fa pr fc.toInt ∧ 0 < fc.toInt))
/-- Chapters: what it knows of now's calls -/
def zDc (Γ : Nat → Option Nat) (F : Nat → va_E) (th : Nat) (fa : Nat → Nat) (fc : Int32) : Prop := ∃ (cv : Nat → Int32) (ch : Nat) (kn : Int32), zCa F fa cv fc ∧ zCm cv fc ∧ zfld F th 9 = .ref ch ∧ Γ ch = some 0 ∧ zfld F ch 2 = .int kn ∧ (kn.toInt ≠ 0 → 0 < fc.toInt → zKb cv fc (zar F ch 0) (zar F ch 1)) ∧ zAd Γ F ch 0 113 ∧ zAd Γ F ch 1 114
def zDw (Γ : Nat → Option Nat) (F : Nat → va_E) (th mo : Nat) : Prop := ∃ (pn to pr : Nat) (fa la : Nat → Nat) (fc lc sz iz : Int32), zDx Γ F th mo pn to pr fa la fc lc sz iz ∧ zDc Γ F th fa fc
def zDo0 (M : List Nat) : Prop := (602 ∉ M ∧ 10400 ∉ M) ∧ 203 ∉ M ∧ 204 ∉ M ∧ 206 ∉ M ∧ 207 ∉ M
def zDo1 (M : List Nat) : Prop := (603 ∉ M ∧ 10500 ∉ M) ∧ (604 ∉ M ∧ 605 ∉ M) ∧ 400 ∉ M ∧ 401 ∉ M ∧ 402 ∉ M ∧ 403 ∉ M
def zDo2 (M : List Nat) : Prop := (1407 ∉ M ∧ 1100 ∉ M ∧ 1101 ∉ M) ∧ (∀ j, j < 30 → 4 ≤ j → 1100 + j ∉ M) ∧ 13300 ∉ M ∧ 13400 ∉ M ∧ 13500 ∉ M ∧ 13600 ∉ M
def zDo3 (M : List Nat) : Prop := 12600 ∉ M ∧ 12700 ∉ M ∧ 12800 ∉ M ∧ 12900 ∉ M
def zDok (M : List Nat) : Prop := (1002 ∉ M ∧ 1010 ∉ M ∧ 1404 ∉ M) ∧ zDo1 M ∧ zDo2 M ∧ zDo0 M ∧ zDo3 M
theorem zj4 {j : Nat} (h : j < 4) : j = 0 ∨ j = 1 ∨ j = 2 ∨ j = 3 := by omega
theorem zLe.mv {Γ : Nat → Option Nat} {M : List Nat} {F0 F F' u : Nat → va_E} {la : Nat → Nat} {pn pr : Nat} {lc : Int} (h : zLe F la pr lc) (hlc : lc ≤ 60) (hl : zLS Γ F0 pn la) (hs : zSA Γ F pr) (hc : ∀ l, l < 60 → ∀ j, j < 4 → zfld u (la l) j = zfld F (la l) j) (hf : zFr Γ M F F') (hM : zDo2 M) (he : ∀ j, 13 ≤ j → j < 17 → zar u pr j = zar F' pr j) : zLe u la pr lc := fun l hl9 j hj => by
  rw [hc l (by omega) j hj, h l hl9 j hj, he (13 + j) (by omega) (by omega)]
  obtain ⟨-, m, n0, n1, n2, n3⟩ := hM
  rcases zj4 hj with rfl | rfl | rfl | rfl
  · exact congrArg Value.int (congrFun (hs.ar hf 13 ⟨by decide, by decide, m 13 (by decide) (by decide), n0⟩).symm l)
  · exact congrArg Value.int (congrFun (hs.ar hf 14 ⟨by decide, by decide, m 14 (by decide) (by decide), n1⟩).symm l)
  · exact congrArg Value.int (congrFun (hs.ar hf 15 ⟨by decide, by decide, m 15 (by decide) (by decide), n2⟩).symm l)
  · exact congrArg Value.int (congrFun (hs.ar hf 16 ⟨by decide, by decide, m 16 (by decide) (by decide), n3⟩).symm l)
theorem zLc {Γ : Nat → Option Nat} {M : List Nat} {F0 F u : Nat → va_E} {la : Nat → Nat} {pn : Nat} (hl : zLS Γ F0 pn la) (hf : zFr Γ M F u) (hM : 400 ∉ M ∧ 401 ∉ M ∧ 402 ∉ M ∧ 403 ∉ M) : ∀ l, l < 60 → ∀ j, j < 4 → zfld u (la l) j = zfld F (la l) j := fun l hl9 j hj => by
  have ht := hl.ty hl9
  rcases zj4 hj with rfl | rfl | rfl | rfl
  · exact hf.f ht 0 ⟨by decide, hM.1⟩ rfl
  · exact hf.f ht 1 ⟨by decide, hM.2.1⟩ rfl
  · exact hf.f ht 2 ⟨by decide, hM.2.2.1⟩ rfl
  · exact hf.f ht 3 ⟨by decide, hM.2.2.2⟩ rfl
theorem zFc4 {Γ : Nat → Option Nat} {M : List Nat} {F0 F u : Nat → va_E} {fa : Nat → Nat} {pn : Nat} (hl : zPS Γ F0 pn fa) (hf : zFr Γ M F u) (hM : 203 ∉ M ∧ 204 ∉ M ∧ 206 ∉ M ∧ 207 ∉ M) : ∀ f, f < 10 → ∀ w, w < 4 → zfld u (fa f) (zfj w) = zfld F (fa f) (zfj w) := fun f hf9 w hw => by
  have ht := hl.ty hf9
  rcases zj4 hw with rfl | rfl | rfl | rfl
  · exact hf.f ht 7 ⟨by decide, hM.2.2.2⟩ rfl
  · exact hf.f ht 3 ⟨by decide, hM.1⟩ rfl
  · exact hf.f ht 4 ⟨by decide, hM.2.1⟩ rfl
  · exact hf.f ht 6 ⟨by decide, hM.2.2.1⟩ rfl
theorem zFq.mv {Γ : Nat → Option Nat} {M : List Nat} {F F' u : Nat → va_E} {fa : Nat → Nat} {pr : Nat} {fc : Int} (h : zFq F fa pr fc) (hfc : fc ≤ 10) (hs : zSA Γ F pr) (hc : ∀ f, f < 10 → ∀ w, w < 4 → zfld u (fa f) (zfj w) = zfld F (fa f) (zfj w)) (hf : zFr Γ M F F') (hm : ∀ j, j < 30 → 4 ≤ j → 1100 + j ∉ M) (hM : zDo3 M) (he : ∀ j, 6 ≤ j → j < 10 → zar u pr j = zar F' pr j) : zFq u fa pr fc := fun f hf9 w hw => by
  rw [hc f (by omega) w hw, h f hf9 w hw, he (6 + w) (by omega) (by omega)]
  obtain ⟨n0, n1, n2, n3⟩ := hM
  rcases zj4 hw with rfl | rfl | rfl | rfl
  · exact congrArg Value.int (congrFun (hs.ar hf 6 ⟨by decide, by decide, hm 6 (by decide) (by decide), n0⟩).symm f)
  · exact congrArg Value.int (congrFun (hs.ar hf 7 ⟨by decide, by decide, hm 7 (by decide) (by decide), n1⟩).symm f)
  · exact congrArg Value.int (congrFun (hs.ar hf 8 ⟨by decide, by decide, hm 8 (by decide) (by decide), n2⟩).symm f)
  · exact congrArg Value.int (congrFun (hs.ar hf 9 ⟨by decide, by decide, hm 9 (by decide) (by decide), n3⟩).symm f)
theorem zFq.new {u v : Nat → va_E} {fb : Nat → Nat} {sp : Nat} {T T' : zTS} {d : zDat} (hT : T = T') (h : ∀ f, f < zfc d → zRF u (fb f) T d f) (h' : ∀ f, f < zfc d → zRN v sp T' d f) (hb : ∀ f, f < zfc d → zBits (zar v sp 9 f) (zcb T' d f)) (hc : ∀ f, f < 10 → ∀ w, w < 4 → zfld v (fb f) (zfj w) = zfld u (fb f) (zfj w)) (h10 : zfc d ≤ 10) : zFq v fb sp (zfc d : Int) := fun f hf w hw => by
  subst hT
  obtain ⟨-, ⟨x7, e7, g7⟩, ⟨t1, t2, x3, x4, ⟨-, -, e3, e4⟩, -, -, g3, g4⟩, x6, e6, g6⟩ := h f (by omega)
  obtain ⟨-, q7, q3, q4, -⟩ := h' f (by omega)
  have q6 := hb f (by omega)
  rw [hc f (by omega) w hw]
  rcases zj4 hw with rfl | rfl | rfl | rfl
  · exact e7.trans (congrArg Value.int (Int32.toInt_inj.mp (g7.trans q7.symm)))
  · exact e3.trans (congrArg Value.int (Int32.toInt_inj.mp (g3.trans q3.symm)))
  · exact e4.trans (congrArg Value.int (Int32.toInt_inj.mp (g4.trans q4.symm)))
  · exact e6.trans (congrArg Value.int (g6.ext q6 (fun _ => Iff.rfl)))
theorem zDx.tell {Γ : Nat → Option Nat} {M : List Nat} {F u : Nat → va_E} {th mo pn to pr : Nat} {fa la : Nat → Nat} {fc lc sz iz s9 : Int32} (h : zDx Γ F th mo pn to pr fa la fc lc sz iz) (hf : zFr Γ M F u) (hth : Γ th = some 10) (hmo : Γ mo = some 14) (hM : zDok M) (k1 : zfld u to 4 = .int s9) (k2 : zfld u mo 32 = .int s9) : zDx Γ u th mo pn to pr fa la fc lc s9 iz := by
  obtain ⟨⟨a1, a2, a3⟩, ⟨t1, t2, t3, t6, t4, t5⟩, ⟨c1, c2, c3⟩, d1, d2, d3, d4⟩ := h
  obtain ⟨⟨m1, m2, m3⟩, ⟨ml, ⟨m4, m5⟩, m9⟩, M2, ⟨mf, mg⟩, M3⟩ := hM
  have M2' := M2
  obtain ⟨⟨m6, m7, m8⟩, mm, -⟩ := M2'
  exact ⟨⟨hf.f hth 2 ⟨by decide, m1⟩ a1, hf.f hth 10 ⟨by decide, m2⟩ a2, hf.f hmo 4 ⟨by decide, m3⟩ a3⟩, ⟨t1, t2, t3, t6.fr hf t1 mf, t4.fr hf t1 ml, t5.fr hf mm⟩, ⟨hf.f t1 4 ⟨by decide, m4⟩ c1, hf.f t1 5 ⟨by decide, m5⟩ c2, c3⟩, k1, k2, hf.f hmo 7 ⟨by decide, m6⟩ d3, d4.imp id (fun h9 => ⟨h9.1, hf.f t3 0 ⟨by decide, m7⟩ h9.2.1, hf.f t3 1 ⟨by decide, m8⟩ h9.2.2.1, h9.2.2.2.1.mv c3.1 t4 t5 (zLc t4 hf m9) hf M2 (fun _ _ _ => rfl), h9.2.2.2.2.1.mv c3.2 t5 (zFc4 t6 hf mg) hf mm M3 (fun _ _ _ => rfl), h9.2.2.2.2.2⟩)⟩
theorem zDx.fr {Γ : Nat → Option Nat} {M : List Nat} {F u : Nat → va_E} {th mo pn to pr : Nat} {fa la : Nat → Nat} {fc lc sz iz : Int32} (h : zDx Γ F th mo pn to pr fa la fc lc sz iz) (hf : zFr Γ M F u) (hth : Γ th = some 10) (hmo : Γ mo = some 14) (hM : zDok M) (hN : 904 ∉ M ∧ 1432 ∉ M) : zDx Γ u th mo pn to pr fa la fc lc sz iz :=
  h.tell hf hth hmo hM (hf.f h.2.1.2.1 4 ⟨by decide, hN.1⟩ h.2.2.2.1) (hf.f hmo 32 ⟨by decide, hN.2⟩ h.2.2.2.2.1)
def zDck (M : List Nat) : Prop := 1009 ∉ M ∧ 0 ∉ M ∧ 1 ∉ M ∧ 2 ∉ M ∧ 11300 ∉ M ∧ 11400 ∉ M
theorem zDc.fr {Γ : Nat → Option Nat} {M : List Nat} {F0 F u : Nat → va_E} {th pn : Nat} {fa : Nat → Nat} {fc : Int32} (h : zDc Γ F th fa fc) (hf : zFr Γ M F u) (hth : Γ th = some 10) (hs : zPS Γ F0 pn fa) (h10 : fc.toInt ≤ 10) (hM : 206 ∉ M ∧ zDck M) : zDc Γ u th fa fc := by
  obtain ⟨m6, n0, n1, n2, n3, n4, n5⟩ := hM
  obtain ⟨cv, ch, kn, q1, q2, q3, q4, q5, q6, q7, q8⟩ := h
  refine ⟨cv, ch, kn, q1.fr hf hs h10 m6, q2, hf.f hth 9 ⟨by decide, n0⟩ q3, q4, hf.f q4 2 ⟨by decide, n3⟩ q5, fun h9 => ?_, q7.fr hf q4 ⟨by decide, n1⟩, q8.fr hf q4 ⟨by decide, n2⟩⟩
  rw [q7.ar hf q4 ⟨by decide, n1⟩ ⟨by decide, n4⟩, q8.ar hf q4 ⟨by decide, n2⟩ ⟨by decide, n5⟩]
  exact q6 h9
/-- .. behind a call that asks Chapters -/
theorem zDc.ask {Γ : Nat → Option Nat} {M : List Nat} {F u : Nat → va_E} {th pn ch : Nat} {fa : Nat → Nat} {fc : Int32} {cv : Nat → Int32} (q1 : zCa F fa cv fc) (q2 : zCm cv fc) (q3 : zfld F th 9 = .ref ch) (q4 : Γ ch = some 0) (q7 : zAd Γ F ch 0 113) (q8 : zAd Γ F ch 1 114) (hx : ∃ k9 : Int32, zfld u ch 2 = .int k9 ∧ (k9.toInt ≠ 0 → 0 < fc.toInt → zKb cv fc (zar u ch 0) (zar u ch 1))) (hf : zFr Γ M F u) (hth : Γ th = some 10) (hs : zPS Γ F pn fa) (h10 : fc.toInt ≤ 10) (hM : 206 ∉ M ∧ 1009 ∉ M ∧ 0 ∉ M ∧ 1 ∉ M) : zDc Γ u th fa fc := by
  obtain ⟨k9, e1, e2⟩ := hx
  exact ⟨cv, ch, k9, q1.fr hf hs h10 hM.1, q2, hf.f hth 9 ⟨by decide, hM.2.1⟩ q3, q4, e1, e2, q7.fr hf q4 ⟨by decide, hM.2.2.1⟩, q8.fr hf q4 ⟨by decide, hM.2.2.2⟩⟩
theorem zDw.fr {Γ : Nat → Option Nat} {M : List Nat} {F u : Nat → va_E} {th mo : Nat} (h : zDw Γ F th mo) (hf : zFr Γ M F u) (hth : Γ th = some 10) (hmo : Γ mo = some 14) (hM : zDok M) (hN : (904 ∉ M ∧ 1432 ∉ M) ∧ 206 ∉ M ∧ zDck M) : zDw Γ u th mo := by
  obtain ⟨pn, to, pr, fa, la, fc, lc, sz, iz, h, hc⟩ := h
  exact ⟨pn, to, pr, fa, la, fc, lc, sz, iz, h.fr hf hth hmo hM hN.1, hc.fr hf hth h.2.1.2.2.2.1 h.2.2.1.2.2.2 hN.2⟩
theorem zBits.b {x : Int32} {S : Nat → Prop} (h : zBits x S) (hs : ∀ g, S g → g < 10) : zB 0 1023 x := by
  have hm : ∀ i, i < 32 → zbg (1023 : Int32) i = decide (i < 10) := by decide
  have e : (1023 : Int32) &&& x = x := zbg_ext (fun i hi => by
    have h1 : zbg ((1023 : Int32) &&& x) i = (zbg 1023 i && zbg x i) := by
      unfold zbg
      rw [Int32.toBitVec_and, BitVec.getLsbD_and]
    rw [h1, hm i hi]
    cases hx : zbg x i
    · exact Bool.and_false _
    · have := hs i ((h i hi).mp hx)
      rw [decide_eq_true this]
      rfl)
  have k := zand_l (x := 1023) (y := x) ⟨by decide, by decide⟩
  rw [e] at k
  exact k
theorem zcb_b {T : zTS} {d : zDat} {f g : Nat} (h : zcb T d f g) (h10 : zfc d ≤ 10) : g < 10 := by
  obtain ⟨e, -, -, a3⟩ := h
  have := (zfind_lt a3).1
  omega
theorem zLe.new {u v : Nat → va_E} {lb : Nat → Nat} {sp : Nat} {T T' : zTS} {d : zDat} (hT : T = T') (h : ∀ l, l < zlc d → zL4 u (lb l) (zln d l) T) (h' : ∀ l, l < zlc d → zM4 v sp l (zln d l) T') (hc : ∀ l, l < 60 → ∀ j, j < 4 → zfld v (lb l) j = zfld u (lb l) j) (h60 : zlc d ≤ 60) : zLe v lb sp (zlc d : Int) := fun l hl j hj => by
  subst hT
  obtain ⟨x0, x1, x2, x3, ⟨e0, e1, e2, e3⟩, g0, g1, g2, g3⟩ := h l (by omega)
  obtain ⟨q0, q1, q2, q3⟩ := h' l (by omega)
  rw [hc l (by omega) j hj]
  rcases zj4 hj with rfl | rfl | rfl | rfl
  · exact e0.trans (congrArg Value.int (Int32.toInt_inj.mp (g0.trans q0.symm)))
  · exact e1.trans (congrArg Value.int (Int32.toInt_inj.mp (g1.trans q1.symm)))
  · exact e2.trans (congrArg Value.int (Int32.toInt_inj.mp (g2.trans q2.symm)))
  · exact e3.trans (congrArg Value.int (Int32.toInt_inj.mp (g3.trans q3.symm)))
theorem zDx.prog {Γ : Nat → Option Nat} {M M' : List Nat} {F u v : Nat → va_E} {th mo pn to ch pr pr' sn sp : Nat} {cv : Nat → Int32} {kn : Int32} {fa la fb lb : Nat → Nat} {fc lc sz iz : Int32} {Ln Lp : List Nat} {T T' : zTS} (h : zDx Γ F th mo pn to pr fa la fc lc sz iz) (q1 : zCa F fa cv fc) (q2 : zCm cv fc) (q3 : zfld F th 9 = .ref ch) (q4 : Γ ch = some 0) (q5 : zfld F ch 2 = .int kn) (q6 : kn.toInt ≠ 0 → 0 < fc.toInt → zKb cv fc (zar F ch 0) (zar F ch 1)) (q7 : zAd Γ F ch 0 113) (q8 : zAd Γ F ch 1 114) (hf : zFr Γ M F u) (hg : zFr Γ M' u v) (hth : Γ th = some 10) (hmo : Γ mo = some 14) (hM : (1010 ∉ M ∧ 1404 ∉ M ∧ 1432 ∉ M) ∧ (603 ∉ M ∧ 10500 ∉ M) ∧ (602 ∉ M ∧ 10400 ∉ M) ∧ zDo2 M ∧ zDo3 M) (hM' : (1002 ∉ M' ∧ 1010 ∉ M' ∧ 904 ∉ M') ∧ zDo1 M' ∧ zDo0 M' ∧ ∀ j, j < 30 → 4 ≤ j → 1100 + j ∉ M') (mc : 1009 ∉ M ∧ 0 ∉ M ∧ 1 ∉ M ∧ 11300 ∉ M ∧ 11400 ∉ M) (nc : zDck M') (hsn : Γ sn = some 6) (hps : zPS Γ F sn fb) (hls : zLS Γ F sn lb) (hpnL : pn ∈ Ln) (hLf : ∀ f, f < 10 → fa f ∈ Ln) (hLn : ∀ l, l < 60 → la l ∈ Ln) (hsp : Γ sp = some 11) (hsa : zSA Γ v sp) (k4 : zfld u mo 4 = .ref pr') (hup : ∀ a ∈ Lp, v a = u a) (hpr : zFm Γ u Lp pr') (hY : (∃ d, T = T' ∧ zCok u th to ch pn sn fb lb T d ∧ zMyk v mo sp T' d) ∨ (zCno Γ F u th to ch pn sn Ln ∧ zMyn u v mo pr')) : zDw Γ v th mo := by
  obtain ⟨⟨a1, a2, a3⟩, ⟨t1, t2, t3, t6, t4, t5⟩, ⟨c1, c2, c3⟩, d1, d2, d3, d4⟩ := h
  obtain ⟨⟨m2, m3, mr⟩, ml, mf, M2, M3⟩ := hM
  have M2' := M2
  obtain ⟨⟨m6, m7, m8⟩, mm, -⟩ := M2'
  obtain ⟨⟨n1, n2, n9⟩, ⟨nl, ⟨n4, n5⟩, nq⟩, ⟨nf, ng⟩, nn⟩ := hM'
  have epr : pr' = pr := Value.ref.inj (k4.symm.trans (hf.f hmo 4 ⟨by decide, m3⟩ a3))
  subst epr
  have b2 := hg.f hth 10 ⟨by decide, n2⟩ (hf.f hth 10 ⟨by decide, m2⟩ a2)
  rcases hY with ⟨d, hT, ⟨e1, -, ⟨z, ez, gz⟩, ⟨zc, ezc, gzc⟩, ⟨x, ex, gx⟩, ⟨y, ey, gy⟩, g60, gl, g10, gf, gp⟩, ⟨o1, o7, o32, ⟨⟨x', ox, hx'⟩, ⟨y', oy, hy'⟩, -, ol, og⟩, ob⟩⟩ | ⟨⟨e1, -, e3, ec, e4⟩, ⟨o1, o7, o32⟩⟩
  · have p1 : x' = x := Int32.toInt_inj.mp (hx'.trans gx.symm)
    have p2 : y' = y := Int32.toInt_inj.mp (hy'.trans gy.symm)
    have p3 : (0 : Int32) = z := Int32.toInt_inj.mp (by rw [gz]; decide)
    rw [p1] at ox
    rw [p2] at oy
    rw [p3] at o32
    have hls' := hls.fr hf hsn ml
    have hps' := hps.fr hf hsn mf
    have hfq : zFq v fb sp x.toInt := by
      rw [gx]
      exact zFq.new hT gf og ob (zFc4 hps' hg ng) g10
    refine ⟨sn, to, sp, fb, lb, x, y, z, 1, ⟨⟨hg.f hth 2 ⟨by decide, n1⟩ e1, b2, o1⟩, ⟨hsn, t2, hsp, hps'.fr hg hsn nf, hls'.fr hg hsn nl, hsa⟩, ⟨hg.f hsn 4 ⟨by decide, n4⟩ ex, hg.f hsn 5 ⟨by decide, n5⟩ ey, by omega, by omega⟩, hg.f t2 4 ⟨by decide, n9⟩ ez, o32, o7, Or.inr ⟨by decide, ox, oy, ?_, hfq, by omega⟩⟩, zar v sp 9, ch, zc, fun f h9 => hfq f h9 3 (by decide), fun f h9 => (ob f (by omega)).b (fun g h8 => zcb_b h8 g10), hg.f hth 9 ⟨by decide, nc.1⟩ (hf.f hth 9 ⟨by decide, mc.1⟩ q3), q4, hg.f q4 2 ⟨by decide, nc.2.2.2.1⟩ ezc, fun h9 => absurd gzc h9, (q7.fr hf q4 ⟨by decide, mc.2.1⟩).fr hg q4 ⟨by decide, nc.2.1⟩, (q8.fr hf q4 ⟨by decide, mc.2.2.1⟩).fr hg q4 ⟨by decide, nc.2.2.1⟩⟩
    rw [gy]
    exact zLe.new hT gl ol (zLc hls' hg nq) g60
  · have hu9 : v pr' = u pr' := hup _ hpr.1
    have ear0 : ∀ j, 4 ≤ j → j < 30 → zar v pr' j = zar u pr' j := fun j h1 h2 => by
      obtain ⟨b, k1, k2, -⟩ := hpr.2.2.2 j (by omega) (by omega)
      rw [zar_eq k1, zar_eq (zfld_e hu9 k1)]
      funext i
      unfold zel
      rw [hup b k2]
    have ear : ∀ j, 13 ≤ j → j < 17 → zar v pr' j = zar u pr' j := fun j h1 h2 => ear0 j (by omega) (by omega)
    have hc : ∀ l, l < 60 → ∀ j, j < 4 → zfld v (la l) j = zfld F (la l) j := fun l hl j hj => by
      rw [zLc (t4.fr hf t1 ml) hg nq l hl j hj]
      exact (e4 (la l) (hLn l hl) 4 (t4.ty hl)).1 (by decide) j (by omega)
    have hcf : ∀ f, f < 10 → ∀ w, w < 4 → zfld v (fa f) (zfj w) = zfld F (fa f) (zfj w) := fun f hf9 w hw => by
      rw [zFc4 (t6.fr hf t1 mf) hg ng f hf9 w hw]
      exact (e4 (fa f) (hLf f hf9) 2 (t6.ty hf9)).1 (by decide) _ (by rcases zj4 hw with rfl | rfl | rfl | rfl <;> decide)
    have hs9 : zSA Γ v pr' := (t5.fr hf mm).fr hg nn
    refine ⟨pn, to, pr', fa, la, fc, lc, sz, iz, ⟨⟨hg.f hth 2 ⟨by decide, n1⟩ e1, b2, o1⟩, ⟨t1, t2, t3, (t6.fr hf t1 mf).fr hg t1 nf, (t4.fr hf t1 ml).fr hg t1 nl, hs9⟩, ⟨hg.f t1 4 ⟨by decide, n4⟩ (e4.f hpnL t1 4 ⟨by decide, by decide⟩ c1), hg.f t1 5 ⟨by decide, n5⟩ (e4.f hpnL t1 5 ⟨by decide, by decide⟩ c2), c3⟩, hg.f t2 4 ⟨by decide, n9⟩ (e3.trans d1), o32.trans (hf.f hmo 32 ⟨by decide, mr⟩ d2), o7.trans (hf.f hmo 7 ⟨by decide, m6⟩ d3), d4.imp id (fun h9 => ⟨h9.1, zfld_e hu9 (hf.f t3 0 ⟨by decide, m7⟩ h9.2.1), zfld_e hu9 (hf.f t3 1 ⟨by decide, m8⟩ h9.2.2.1), h9.2.2.2.1.mv c3.1 t4 t5 hc hf M2 ear, h9.2.2.2.2.1.mv c3.2 t5 hcf hf mm M3 (fun j h1 h2 => ear0 j (by omega) (by omega)), h9.2.2.2.2.2⟩)⟩, cv, ch, kn, fun f h9 => ?_, q2, hg.f hth 9 ⟨by decide, nc.1⟩ (hf.f hth 9 ⟨by decide, mc.1⟩ q3), q4, (hg.f q4 2 ⟨by decide, nc.2.2.2.1⟩ (ec.trans q5)), fun h9 => ?_, (q7.fr hf q4 ⟨by decide, mc.2.1⟩).fr hg q4 ⟨by decide, nc.2.1⟩, (q8.fr hf q4 ⟨by decide, mc.2.2.1⟩).fr hg q4 ⟨by decide, nc.2.2.1⟩⟩
    · have h7 := c3.2
      rw [show zfld v (fa f) 6 = zfld F (fa f) 6 from hcf f (by omega) 3 (by decide)]
      exact q1 f h9
    · rw [(q7.fr hf q4 ⟨by decide, mc.2.1⟩).ar hg q4 ⟨by decide, nc.2.1⟩ ⟨by decide, nc.2.2.2.2.1⟩, q7.ar hf q4 ⟨by decide, mc.2.1⟩ ⟨by decide, mc.2.2.2.1⟩, (q8.fr hf q4 ⟨by decide, mc.2.2.1⟩).ar hg q4 ⟨by decide, nc.2.2.1⟩ ⟨by decide, nc.2.2.2.2.2⟩, q8.ar hf q4 ⟨by decide, mc.2.2.1⟩ ⟨by decide, mc.2.2.2.2⟩]
      exact q6 h9
theorem zPS.in {Γ : Nat → Option Nat} {F : Nat → va_E} {X : List Nat} {pr : Nat} {fa : Nat → Nat} (h : zFc Γ F X pr) (hl : zPS Γ F pr fa) : ∀ f, f < 10 → fa f ∈ X := fun f hf9 => by
  obtain ⟨ar, k, ha, hf, -⟩ := hl
  obtain ⟨t, -, e, q1, -⟩ := h.2.2 pr h.1
  cases Option.some.inj (h.2.1.symm.trans e)
  have har : ar ∈ X := q1 (by decide) 2 (2, 104, 0) ar rfl (Or.inl rfl) k
  obtain ⟨t', -, e', -, q2⟩ := h.2.2 ar har
  cases Option.some.inj (ha.symm.trans e')
  exact q2 (by decide) (by decide) f (fa f) hf9 (hf f hf9).1
theorem z_fun {f wh r1 r2 fc nf iz : Int32} {F F' : Nat → va_E} {fa : Nat → Nat} {pr : Nat} {X : Prop} (h1 : (0 ≤ f.toInt ∧ f.toInt < fc.toInt ∧ 0 ≤ wh.toInt ∧ wh.toInt ≤ 3 → zfld F (fa f.toInt.toNat) (zfj wh.toInt.toNat) = .int r1) ∧ (f.toInt < 0 ∨ fc.toInt ≤ f.toInt ∨ wh.toInt < 0 ∨ 3 < wh.toInt → r1.toInt = -1)) (h2 : (iz.toInt ≠ 0 ∧ 0 ≤ f.toInt ∧ f.toInt < nf.toInt ∧ 0 ≤ wh.toInt ∧ wh.toInt ≤ 3 → zar F' pr (6 + wh.toInt.toNat) f.toInt.toNat = r2) ∧ (iz.toInt = 0 ∨ f.toInt < 0 ∨ nf.toInt ≤ f.toInt ∨ wh.toInt < 0 ∨ 3 < wh.toInt → r2.toInt = -1)) (hd : (iz.toInt = 0 ∧ fc.toInt = 0 ∧ X) ∨ (iz.toInt ≠ 0 ∧ nf = fc ∧ zFq F fa pr fc.toInt)) (he : ∀ j, 6 ≤ j → j < 10 → zar F' pr j = zar F pr j) : r1 = r2 := by
  by_cases c : 0 ≤ f.toInt ∧ f.toInt < fc.toInt ∧ 0 ≤ wh.toInt ∧ wh.toInt ≤ 3
  · rcases hd with ⟨a, b, -⟩ | ⟨a, rfl, b⟩
    · omega
    · have e1 := h1.1 c
      have e2 := h2.1 ⟨a, c⟩
      have e3 := b f.toInt.toNat (by omega) wh.toInt.toNat (by omega)
      rw [he (6 + wh.toInt.toNat) (by omega) (by omega)] at e2
      rw [e2] at e3
      exact z_vi e1 e3
  · have e1 := h1.2 (by omega)
    have e2 : r2.toInt = -1 := by
      rcases hd with ⟨a, -, -⟩ | ⟨a, rfl, -⟩
      · exact h2.2 (Or.inl a)
      · exact h2.2 (by omega)
    exact Int32.toInt_inj.mp (e1.trans e2.symm)
theorem zLS.in {Γ : Nat → Option Nat} {F : Nat → va_E} {X : List Nat} {pr : Nat} {la : Nat → Nat} (h : zFc Γ F X pr) (hl : zLS Γ F pr la) : ∀ l, l < 60 → la l ∈ X := fun l hl9 => by
  obtain ⟨ar, k, ha, hf, -⟩ := hl
  obtain ⟨t, -, e, q1, -⟩ := h.2.2 pr h.1
  cases Option.some.inj (h.2.1.symm.trans e)
  have har : ar ∈ X := q1 (by decide) 3 (2, 105, 0) ar rfl (Or.inl rfl) k
  obtain ⟨t', -, e', -, q2⟩ := h.2.2 ar har
  cases Option.some.inj (ha.symm.trans e')
  exact q2 (by decide) (by decide) l (la l) hl9 (hf l hl9).1
theorem z_lin {li wh r1 r2 lc nl iz : Int32} {F F' : Nat → va_E} {la : Nat → Nat} {pr : Nat} {X : Prop} (h1 : (0 ≤ li.toInt ∧ li.toInt < lc.toInt ∧ 0 ≤ wh.toInt ∧ wh.toInt ≤ 3 → zfld F (la li.toInt.toNat) wh.toInt.toNat = .int r1) ∧ (li.toInt < 0 ∨ lc.toInt ≤ li.toInt ∨ wh.toInt < 0 ∨ 3 < wh.toInt → r1.toInt = -1)) (h2 : (iz.toInt ≠ 0 ∧ 0 ≤ li.toInt ∧ li.toInt < nl.toInt ∧ 0 ≤ wh.toInt ∧ wh.toInt ≤ 3 → zar F' pr (13 + wh.toInt.toNat) li.toInt.toNat = r2) ∧ (iz.toInt = 0 ∨ li.toInt < 0 ∨ nl.toInt ≤ li.toInt ∨ wh.toInt < 0 ∨ 3 < wh.toInt → r2.toInt = -1)) (hd : (iz.toInt = 0 ∧ X ∧ lc.toInt = 0) ∨ (iz.toInt ≠ 0 ∧ nl = lc ∧ zLe F la pr lc.toInt)) (he : ∀ j, 13 ≤ j → j < 17 → zar F' pr j = zar F pr j) : r1 = r2 := by
  by_cases c : 0 ≤ li.toInt ∧ li.toInt < lc.toInt ∧ 0 ≤ wh.toInt ∧ wh.toInt ≤ 3
  · rcases hd with ⟨a, -, b⟩ | ⟨a, rfl, b⟩
    · omega
    · have e1 := h1.1 c
      have e2 := h2.1 ⟨a, c⟩
      have e3 := b li.toInt.toNat (by omega) wh.toInt.toNat (by omega)
      rw [he (13 + wh.toInt.toNat) (by omega) (by omega)] at e2
      rw [e2] at e3
      exact z_vi e1 e3
  · have e1 := h1.2 (by omega)
    have e2 : r2.toInt = -1 := by
      rcases hd with ⟨a, -, b⟩ | ⟨a, rfl, -⟩
      · exact h2.2 (Or.inl a)
      · exact h2.2 (by omega)
    exact Int32.toInt_inj.mp (e1.trans e2.symm)
theorem z_cnt {wh r1 r2 fc lc sz fe iz nf nl : Int32} (h1 : (wh.toInt = 0 → r1.toInt = fc.toInt) ∧ (wh.toInt = 1 → r1.toInt = lc.toInt) ∧ (wh.toInt = 2 → r1.toInt = sz.toInt) ∧ (wh.toInt = 3 → r1.toInt = fe.toInt) ∧ (wh.toInt < 0 ∨ 3 < wh.toInt → r1.toInt = -1)) (h2 : (wh.toInt = 0 → (iz.toInt ≠ 0 → r2.toInt = nf.toInt) ∧ (iz.toInt = 0 → r2.toInt = 0)) ∧ (wh.toInt = 1 → (iz.toInt ≠ 0 → r2.toInt = nl.toInt) ∧ (iz.toInt = 0 → r2.toInt = 0)) ∧ (wh.toInt = 2 → r2.toInt = sz.toInt) ∧ (wh.toInt = 3 → r2.toInt = fe.toInt) ∧ (wh.toInt < 0 ∨ 3 < wh.toInt → r2.toInt = -1)) (hd : (iz.toInt = 0 ∧ fc.toInt = 0 ∧ lc.toInt = 0) ∨ (iz.toInt ≠ 0 ∧ nf = fc ∧ nl = lc)) : r1 = r2 := by
  apply Int32.toInt_inj.mp
  rcases hd with ⟨a, b, c⟩ | ⟨a, rfl, rfl⟩
  · omega
  · omega
theorem z_tel {f r1 r2 fc sz iz nf s9 t9 : Int32} {X Y : Prop} (h1 : (0 ≤ f.toInt ∧ f.toInt < fc.toInt ∧ sz.toInt < 12 → r1.toInt = sz.toInt ∧ s9.toInt = sz.toInt + 1) ∧ (f.toInt < 0 ∨ fc.toInt ≤ f.toInt ∨ 12 ≤ sz.toInt → r1.toInt = -1 ∧ s9.toInt = sz.toInt)) (h2 : (iz.toInt ≠ 0 ∧ 0 ≤ f.toInt ∧ f.toInt < nf.toInt ∧ sz.toInt < 12 → r2.toInt = sz.toInt ∧ t9.toInt = sz.toInt + 1) ∧ (iz.toInt = 0 ∨ f.toInt < 0 ∨ nf.toInt ≤ f.toInt ∨ 12 ≤ sz.toInt → r2.toInt = -1 ∧ t9.toInt = sz.toInt)) (hd : (iz.toInt = 0 ∧ fc.toInt = 0 ∧ X) ∨ (iz.toInt ≠ 0 ∧ nf = fc ∧ Y)) : r1 = r2 ∧ t9 = s9 := by
  have : r1.toInt = r2.toInt ∧ t9.toInt = s9.toInt := by
    rcases hd with ⟨a, b, -⟩ | ⟨a, rfl, -⟩
    · omega
    · omega
  exact ⟨Int32.toInt_inj.mp this.1, Int32.toInt_inj.mp this.2⟩
/-- the reference's calls are the class's -/
theorem zFq.c {F : Nat → va_E} {fa : Nat → Nat} {cv : Nat → Int32} {pr : Nat} {fc : Int32} (h : zFq F fa pr fc.toInt) (ha : zCa F fa cv fc) : ∀ f : Nat, (f : Int) < fc.toInt → zar F pr 9 f = cv f := fun f hf => z_vi (h f hf 3 (by decide)) (ha f hf)
theorem zCm.of {c c' : Nat → Int32} {nf : Int32} (h : zCm c nf) (e : ∀ f : Nat, (f : Int) < nf.toInt → c' f = c f) : zCm c' nf := fun f hf => by
  rw [e f hf]
  exact h f hf
theorem z_ord {r1 r2 fc nf iz : Int32} {cv c' : Nat → Int32} (bn : zB 0 10 fc) (hc : zCm cv fc) (h1 : (0 < fc.toInt → ∃ b, zTl cv b fc (-1) ∧ r1 = b 0) ∧ (fc.toInt ≤ 0 → r1.toInt = -2)) (h2 : (iz.toInt ≠ 0 → ∃ le, zTl c' le nf (-1) ∧ r2 = le 0) ∧ (iz.toInt = 0 → r2.toInt = -2)) (hd : (iz.toInt = 0 ∧ fc.toInt = 0) ∨ (iz.toInt ≠ 0 ∧ nf = fc ∧ 0 < fc.toInt ∧ ∀ f : Nat, (f : Int) < fc.toInt → c' f = cv f)) : r1 = r2 := by
  rcases hd with ⟨a, b⟩ | ⟨a, rfl, b, ec⟩
  · exact Int32.toInt_inj.mp ((h1.2 (by omega)).trans (h2.2 a).symm)
  · obtain ⟨le1, t1, e1⟩ := h1.1 b
    obtain ⟨le2, t2, e2⟩ := h2.1 a
    have e0 : (0 : Int32).toInt = 0 := by decide
    have k := t1.eq t2 hc bn ec (q := 0) (by omega) (by have := (zaLf_b bn).1; omega)
    rw [show Int32.toNatClampNeg 0 = 0 by decide] at k
    rw [e1, e2, k]
theorem z_chp {i r1 r2 fc nf iz : Int32} {cv c' : Nat → Int32} (bn : zB 0 10 fc) (hc : zCm cv fc) (h1 : (0 ≤ i.toInt ∧ i.toInt < fc.toInt → ∃ b, zTl cv b fc (-1) ∧ zCh cv b fc i.toInt.toNat r1) ∧ (i.toInt < 0 ∨ fc.toInt ≤ i.toInt → r1.toInt = -1)) (h2 : (iz.toInt ≠ 0 ∧ 0 ≤ i.toInt ∧ i.toInt < nf.toInt → ∃ le, zTl c' le nf (-1) ∧ zCh c' le nf i.toInt.toNat r2) ∧ (iz.toInt = 0 ∨ i.toInt < 0 ∨ nf.toInt ≤ i.toInt → r2.toInt = -1)) (hd : (iz.toInt = 0 ∧ fc.toInt = 0) ∨ (iz.toInt ≠ 0 ∧ nf = fc ∧ 0 < fc.toInt ∧ ∀ f : Nat, (f : Int) < fc.toInt → c' f = cv f)) : r1 = r2 := by
  rcases hd with ⟨a, b⟩ | ⟨a, rfl, b, ec⟩
  · exact Int32.toInt_inj.mp ((h1.2 (by omega)).trans (h2.2 (Or.inl a)).symm)
  · by_cases c : 0 ≤ i.toInt ∧ i.toInt < nf.toInt
    · obtain ⟨le1, t1, e1⟩ := h1.1 c
      obtain ⟨le2, t2, e2⟩ := h2.1 ⟨a, c⟩
      exact e1.un (e2.cg t1 t2 hc bn ec)
    · exact Int32.toInt_inj.mp ((h1.2 (by omega)).trans (h2.2 (by omega)).symm)
/-- names and what is gone, between two steps -/
def zEx (Γ : Nat → Option Nat) (F : Nat → va_E) (th mo pn gr pr pa tk n N : Nat) (B : Nat → Int32) (fa : Nat → Nat) (fc iz ip x : Int32) : Prop := (zfld F th 2 = .ref pn ∧ zfld F th 11 = .ref gr ∧ zfld F mo 4 = .ref pr ∧ zfld F mo 5 = .ref pa) ∧ (Γ pn = some 6 ∧ Γ gr = some 3 ∧ Γ pr = some 11 ∧ Γ pa = some 11 ∧ zSA Γ F pr ∧ zSA Γ F pa ∧ zPS Γ F pn fa) ∧ (zfld F pn 4 = .int fc ∧ fc.toInt ≤ 10 ∧ zfld F mo 7 = .int iz ∧ zfld F mo 8 = .int ip ∧ zfld F gr 2 = .int x) ∧ (0 < fc.toInt → zNp Γ F pn tk fa B n N fc.toInt (fun f => (zal F pr 4 f).toInt)) ∧ ((iz.toInt = 0 ∧ fc.toInt = 0) ∨ (iz.toInt ≠ 0 ∧ zfld F pr 0 = .int fc)) ∧ ((ip.toInt = 0 ∧ x.toInt = 0) ∨ (ip.toInt ≠ 0 ∧ iz.toInt ≠ 0 ∧ ∃ np : Int32, zfld F pa 0 = .int np ∧ x.toInt = zgn fc.toInt (fun f => (zal F pr 4 f).toInt) (fun g => (zal F pa 4 g).toInt) np.toInt.toNat)) ∧ ∀ f : Nat, (f : Int) < fc.toInt → (zar F pr 5 f).toInt = zsz (zal F pr 4 f).toInt
def zEw (Γ : Nat → Option Nat) (F : Nat → va_E) (th mo : Nat) : Prop := ∃ (pn gr pr pa tk n N : Nat) (B : Nat → Int32) (fa : Nat → Nat) (fc iz ip x : Int32), zEx Γ F th mo pn gr pr pa tk n N B fa fc iz ip x
def zEo1 (M : List Nat) : Prop := (1002 ∉ M ∧ 1011 ∉ M) ∧ (1404 ∉ M ∧ 1405 ∉ M) ∧ 1407 ∉ M ∧ 1408 ∉ M
def zEo2 (M : List Nat) : Prop := 604 ∉ M ∧ 302 ∉ M
def zEo3 (M : List Nat) : Prop := (∀ j, j < 30 → 4 ≤ j → 1100 + j ∉ M) ∧ 1100 ∉ M ∧ 12400 ∉ M ∧ 12500 ∉ M
def zEok (M : List Nat) : Prop := zEo1 M ∧ zEo2 M ∧ zEo3 M ∧ zNpM M
theorem zNp.cg {Γ : Nat → Option Nat} {F : Nat → va_E} {pr tk : Nat} {fa : Nat → Nat} {B : Nat → Int32} {n N : Nat} {fc : Int} {nw nw' : Nat → Int} (h : zNp Γ F pr tk fa B n N fc nw) (e : ∀ f : Nat, (f : Int) < fc → nw f = nw' f) : zNp Γ F pr tk fa B n N fc nw' := by
  obtain ⟨h1, h2, h3, h4, h5⟩ := h
  refine ⟨h1, h2, h3, h4, fun f hf => ?_⟩
  obtain ⟨y, g1, g2, g3, g4⟩ := h5 f hf
  exact ⟨y, g1, g2, g3, g4.trans (e f hf)⟩
theorem zEx.fr {Γ : Nat → Option Nat} {M : List Nat} {F u : Nat → va_E} {th mo pn gr pr pa tk n N : Nat} {B : Nat → Int32} {fa : Nat → Nat} {fc iz ip x : Int32} (h : zEx Γ F th mo pn gr pr pa tk n N B fa fc iz ip x) (hf : zFr Γ M F u) (hth : Γ th = some 10) (hmo : Γ mo = some 14) (hM : zEok M) : zEx Γ u th mo pn gr pr pa tk n N B fa fc iz ip x := by
  obtain ⟨⟨a1, a2, a3, a4⟩, ⟨t1, t2, t3, t4, t5, t6, t7⟩, ⟨b1, b2, b3, b4, b5⟩, c1, c2, c3, c4⟩ := h
  obtain ⟨⟨⟨m1, m2⟩, ⟨m3, m4⟩, m5, m6⟩, ⟨n1, n2⟩, ⟨o1, o2, o3, o5⟩, o4⟩ := hM
  have e1 : zal u pr 4 = zal F pr 4 := t5.al hf 4 ⟨by decide, by decide, o1 4 (by decide) (by decide), o3⟩
  have e2 : zal u pa 4 = zal F pa 4 := t6.al hf 4 ⟨by decide, by decide, o1 4 (by decide) (by decide), o3⟩
  refine ⟨⟨hf.f hth 2 ⟨by decide, m1⟩ a1, hf.f hth 11 ⟨by decide, m2⟩ a2, hf.f hmo 4 ⟨by decide, m3⟩ a3, hf.f hmo 5 ⟨by decide, m4⟩ a4⟩, ⟨t1, t2, t3, t4, t5.fr hf o1, t6.fr hf o1, t7.fr hf t1 o4.1.2⟩, ⟨hf.f t1 4 ⟨by decide, n1⟩ b1, b2, hf.f hmo 7 ⟨by decide, m5⟩ b3, hf.f hmo 8 ⟨by decide, m6⟩ b4, hf.f t2 2 ⟨by decide, n2⟩ b5⟩, fun h9 => ?_, c2.imp id (fun h9 => ⟨h9.1, hf.f t3 0 ⟨by decide, o2⟩ h9.2⟩), ?_, fun f h9 => ?_⟩
  · rw [e1]
    exact (c1 h9).fr hf t1 b2 o4
  · rw [e1, e2]
    exact c3.imp id (fun ⟨g1, g2, np, g3, g4⟩ => ⟨g1, g2, np, hf.f t4 0 ⟨by decide, o2⟩ g3, g4⟩)
  · rw [e1, t5.ar hf 5 ⟨by decide, by decide, o1 5 (by decide) (by decide), o5⟩]
    exact c4 f h9
theorem zEw.fr {Γ : Nat → Option Nat} {M : List Nat} {F u : Nat → va_E} {th mo : Nat} (h : zEw Γ F th mo) (hf : zFr Γ M F u) (hth : Γ th = some 10) (hmo : Γ mo = some 14) (hM : zEok M) : zEw Γ u th mo := by
  obtain ⟨pn, gr, pr, pa, tk, n, N, B, fa, fc, iz, ip, x, h⟩ := h
  exact ⟨pn, gr, pr, pa, tk, n, N, B, fa, fc, iz, ip, x, h.fr hf hth hmo hM⟩
theorem zFm.al {Γ : Nat → Option Nat} {F u : Nat → va_E} {X : List Nat} {pr : Nat} (h : zFm Γ F X pr) (hu : ∀ a ∈ X, u a = F a) : zal u pr 4 = zal F pr 4 := by
  obtain ⟨b, k1, k2, -⟩ := h.2.2.2 4 (by decide) (by decide)
  rw [zal_eq k1, zal_eq (zfld_e (hu _ h.1) k1)]
  funext i
  unfold zll
  rw [hu b k2]
theorem zFm.ar5 {Γ : Nat → Option Nat} {F u : Nat → va_E} {X : List Nat} {pr : Nat} (h : zFm Γ F X pr) (hu : ∀ a ∈ X, u a = F a) : zar u pr 5 = zar F pr 5 := by
  obtain ⟨b, k1, k2, -⟩ := h.2.2.2 5 (by decide) (by decide)
  rw [zar_eq k1, zar_eq (zfld_e (hu _ h.1) k1)]
  funext i
  unfold zel
  rw [hu b k2]
theorem zNp.nn {Γ : Nat → Option Nat} {F : Nat → va_E} {pr tk : Nat} {fa : Nat → Nat} {B : Nat → Int32} {n N : Nat} {fc : Int} {nw : Nat → Int} (h : zNp Γ F pr tk fa B n N fc nw) (f : Nat) (hf : (f : Int) < fc) : 0 ≤ nw f := by
  obtain ⟨y, -, -, g3, g4⟩ := h.2.2.2.2 f hf
  have h' : zka B n (zpo B n y.toInt.toNat) = 4 := g3
  rw [← g4]
  exact zwI_0 (zword (zka_lt (Or.inr (by omega))).1)
theorem zEx.prog {Γ : Nat → Option Nat} {M M' : List Nat} {F u v : Nat → va_E} {th mo pn to ch gr pr pa sn sp tk n N k : Nat} {B Bn : Nat → Int32} {fa fb lb : Nat → Nat} {fc iz ip x : Int32} {Ln Ls Lp Lq : List Nat} {T T' : zTS} (h : zEx Γ F th mo pn gr pr pa tk n N B fa fc iz ip x) (hf : zFr Γ M F u) (hg : zFr Γ M' u v) (hth : Γ th = some 10) (hmo : Γ mo = some 14) (hM : 1011 ∉ M ∧ (1405 ∉ M ∧ 1407 ∉ M ∧ 1408 ∉ M) ∧ zEo3 M ∧ (602 ∉ M ∧ 10400 ∉ M)) (hM' : (1002 ∉ M' ∧ 1011 ∉ M') ∧ zEo2 M' ∧ zNpM M' ∧ ∀ j, j < 30 → 4 ≤ j → 1100 + j ∉ M') (hF : zF2 Γ F pn sn Ln Ls) (hps : zPS Γ F sn fb) (hsp : Γ sp = some 11) (hsa : zSA Γ v sp) (hup : ∀ a ∈ Lp, v a = u a) (huq : ∀ a ∈ Lq, v a = u a) (hpr : zFm Γ u Lp pr) (hpa : zFm Γ u Lq pa) (hT : T = zTo Bn k) (hY : (∃ d, T = T' ∧ (zCok u th to ch pn sn fb lb T d ∧ zCg Γ u gr sn Bn k d (fun g => (zal F pr 4 g).toInt) fc.toInt.toNat) ∧ zMyk v mo sp T' d ∧ zMyg v mo pr iz) ∨ ((zCno Γ F u th to ch pn sn Ln ∧ zfld u gr 2 = zfld F gr 2) ∧ zMyn u v mo pr ∧ zMyh u v mo pa)) : zEw Γ v th mo := by
  obtain ⟨⟨a1, a2, a3, a4⟩, ⟨t1, t2, t3, t4, t5, t6, t7⟩, ⟨b1, b2, b3, b4, b5⟩, c1, c2, c3, c4⟩ := h
  obtain ⟨m1, ⟨m2, m3, m4⟩, ⟨o1, o2, o3, o5⟩, mf⟩ := hM
  obtain ⟨⟨n1, n2⟩, ⟨n3, n4⟩, n5, n6⟩ := hM'
  have e1 : zal v pr 4 = zal F pr 4 := (hpr.al hup).trans (t5.al hf 4 ⟨by decide, by decide, o1 4 (by decide) (by decide), o3⟩)
  have e2 : zal v pa 4 = zal F pa 4 := (hpa.al huq).trans (t6.al hf 4 ⟨by decide, by decide, o1 4 (by decide) (by decide), o3⟩)
  have a2' := hg.f hth 11 ⟨by decide, n2⟩ (hf.f hth 11 ⟨by decide, m1⟩ a2)
  have s5 : zSA Γ v pr := (t5.fr hf o1).fr hg n6
  have s6 : zSA Γ v pa := (t6.fr hf o1).fr hg n6
  have hsn := hF.2.1.2.1
  rcases hY with ⟨d, hT', ⟨⟨p1, -, -, -, hRC⟩, hTn, x', kx, ex⟩, ⟨o4, o7, -, hRM, -⟩, g5, g8⟩ | ⟨⟨⟨p1, -, -, -, hS⟩, hgr⟩, ⟨o4, o7, -⟩, g5, g8⟩
  · have hps' := hps.fr hf hsn mf
    have hRC' := hRC
    obtain ⟨⟨y, ky, ey⟩, -, -, -, y10, -, y0⟩ := hRC'
    have hRC : zRC u sn fb lb (zTo Bn k) d := hT ▸ hRC
    obtain ⟨tk', N', hN⟩ := hTn.np hRC hps'
    rw [← ey] at hN
    have hRM' := hRM
    obtain ⟨⟨z, kz, ez⟩, -, -, -, hRN⟩ := hRM'
    have eyz : z = y := Int32.toInt_inj.mp (ez.trans ey.symm)
    subst eyz
    have hnm : ∀ f : Nat, (f : Int) < z.toInt → (zTo Bn k).2.2 (znm d f) = (zal v sp 4 f).toInt := fun f hf9 => by
      have h9 := (hRN f (by omega)).1
      rw [h9, ← hT', hT]
    refine ⟨sn, gr, sp, pr, tk', k, N', Bn, fb, z, 1, iz, x', ⟨hg.f hth 2 ⟨by decide, n1⟩ p1, a2', o4, g5⟩, ⟨hsn, t2, hsp, t3, hsa, s5, hps'.fr hg hsn n5.1.2⟩, ⟨hg.f hsn 4 ⟨by decide, n3⟩ ky, by omega, o7, g8, hg.f t2 2 ⟨by decide, n4⟩ kx⟩, fun _ => (hN.fr hg hsn (by omega) n5).cg hnm, Or.inr ⟨by decide, kz⟩, ?_, fun f h9 => ?_⟩
    rotate_left
    · rw [(hRN f (by omega)).2.2.2.2, (hRN f (by omega)).1]
    rcases c2 with ⟨c4, c5⟩ | ⟨c4, c5⟩
    · refine Or.inl ⟨c4, ?_⟩
      rw [ex, c5]
      rfl
    · refine Or.inr ⟨c4, by decide, fc, zfld_e (hup _ hpr.1) (hf.f t3 0 ⟨by decide, o2⟩ c5), ?_⟩
      rw [ex, ← ey, e1]
      exact zgn_cg (fun f hf9 => hnm f hf9) (fun _ _ => rfl)
  · have hFn := hF.1
    obtain ⟨q1, q2⟩ := t7.sm hS hFn.2.2 hFn.1 t1
    refine ⟨pn, gr, pr, pa, tk, n, N, B, fa, fc, iz, ip, x, ⟨hg.f hth 2 ⟨by decide, n1⟩ p1, a2', o4, g5⟩, ⟨t1, t2, t3, t4, s5, s6, q1.fr hg t1 n5.1.2⟩, ⟨hg.f t1 4 ⟨by decide, n3⟩ (hS.f hFn.1 t1 4 ⟨by decide, by decide⟩ b1), b2, o7.trans (hf.f hmo 7 ⟨by decide, m3⟩ b3), g8.trans (hf.f hmo 8 ⟨by decide, m4⟩ b4), hg.f t2 2 ⟨by decide, n4⟩ (hgr.trans b5)⟩, fun h9 => ?_, c2.imp id (fun h9 => ⟨h9.1, zfld_e (hup _ hpr.1) (hf.f t3 0 ⟨by decide, o2⟩ h9.2)⟩), ?_, fun f h9 => ?_⟩
    · rw [e1]
      exact ((c1 h9).sm hS hFn b2).fr hg t1 b2 n5
    · rw [e1, e2]
      exact c3.imp id (fun ⟨g1, g2, np, g3, g4⟩ => ⟨g1, g2, np, zfld_e (huq _ hpa.1) (hf.f t4 0 ⟨by decide, o2⟩ g3), g4⟩)
    · rw [e1, (hpr.ar5 hup).trans (t5.ar hf 5 ⟨by decide, by decide, o1 5 (by decide) (by decide), o5⟩)]
      exact c4 f h9
theorem z_gon {r1 r2 iz ip fc nf np x : Int32} {A B : Nat → Int} (h1 : Value.int r1 = .int x) (h2 : (ip.toInt ≠ 0 → r2.toInt = zgn nf.toInt A B np.toInt.toNat) ∧ (ip.toInt = 0 → r2.toInt = 0)) (hn : iz.toInt ≠ 0 → nf = fc) (hp : ip.toInt ≠ 0 → ∃ np' : Int32, np' = np ∧ x.toInt = zgn fc.toInt A B np'.toInt.toNat) (h0 : ip.toInt = 0 → x.toInt = 0) (hi : ip.toInt ≠ 0 → iz.toInt ≠ 0) : r1 = r2 := by
  cases h1
  by_cases c : ip.toInt = 0
  · exact Int32.toInt_inj.mp ((h0 c).trans (h2.2 c).symm)
  · obtain ⟨np', rfl, e⟩ := hp c
    exact Int32.toInt_inj.mp (by rw [e, h2.1 c, hn (hi c)])
theorem z_nam {f i k t r fc nf iz : Int32} {nw : Nat → Int} {v W : Int} (h1 : (k.toInt = 1 ∧ (f.toInt < 0 ∨ fc.toInt ≤ f.toInt ∨ i.toInt < 0 ∨ zsz (nw f.toInt.toNat) ≤ i.toInt)) ∨ (k.toInt = 0 ∧ (0 ≤ f.toInt ∧ f.toInt < fc.toInt) ∧ (0 ≤ i.toInt ∧ i.toInt < zsz (nw f.toInt.toNat)) ∧ v = zdg (nw f.toInt.toNat) i.toInt)) (h2 : (t.toInt = 1 ∧ (iz.toInt = 0 ∨ f.toInt < 0 ∨ nf.toInt ≤ f.toInt ∨ i.toInt < 0 ∨ zsz W ≤ i.toInt)) ∨ (t.toInt = 0 ∧ (iz.toInt ≠ 0 ∧ 0 ≤ f.toInt ∧ f.toInt < nf.toInt ∧ 0 ≤ i.toInt ∧ i.toInt < zsz W) ∧ r.toInt = zdg W i.toInt)) (hW : W = nw f.toInt.toNat) (hn : (iz.toInt = 0 ∧ fc.toInt = 0) ∨ (iz.toInt ≠ 0 ∧ nf = fc)) : t = k ∧ (k.toInt = 0 → v = r.toInt) := by
  subst hW
  rcases h1 with ⟨a1, a2⟩ | ⟨a1, a2, a3, a4⟩ <;> rcases h2 with ⟨b1, b2⟩ | ⟨b1, b2, b3⟩ <;> rcases hn with ⟨c1, c2⟩ | ⟨c1, rfl⟩
  · exact ⟨Int32.toInt_inj.mp (by omega), fun h => by omega⟩
  · exact ⟨Int32.toInt_inj.mp (by omega), fun h => by omega⟩
  · exfalso; omega
  · exfalso; omega
  · exfalso; omega
  · exfalso; omega
  · exfalso; omega
  · exact ⟨Int32.toInt_inj.mp (by omega), fun _ => by rw [a4, b3]⟩
