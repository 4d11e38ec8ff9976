/-! Between two steps, for the runs: the machines, and one text that both hold. -/
theorem zpo_cg {B B' : Nat → Int32} {n : Nat} (h : ∀ i, i < n → B i = B' i) : zpo B n = zpo B' n := by
  have hb := zby_cg h
  have hl : zLt B n = zLt B' n := by
    funext x
    unfold zLt
    rw [hb]
  have hd : zDg B n = zDg B' n := by
    funext x
    unfold zDg
    rw [hb]
  have hs : zBl B n = zBl B' n := by
    funext x
    unfold zBl
    rw [hb]
  have ht : zte B n = zte B' n := by
    funext x
    unfold zte
    rw [hl, hd, hb]
  funext t
  induction t with
  | zero =>
    show zend (zBl B n) n 0 = zend (zBl B' n) n 0
    rw [hs]
  | succ t ih =>
    show zend (zBl B n) n (zte B n (zpo B n t)) = zend (zBl B' n) n (zte B' n (zpo B' n t))
    rw [ih, hs, ht]
theorem zvl_cg {B B' : Nat → Int32} {n : Nat} (h : ∀ i, i < n → B i = B' i) : zvl B n = zvl B' n := by
  have hb := zby_cg h
  have hp := zpo_cg h
  have hd : zDg B n = zDg B' n := by
    funext x
    unfold zDg
    rw [hb]
  have hl : zLt B n = zLt B' n := by
    funext x
    unfold zLt
    rw [hb]
  have ht : zte B n = zte B' n := by
    funext x
    unfold zte
    rw [hl, hd, hb]
  have hw : zwa B n = zwa B' n := by
    funext x
    unfold zwa
    rw [hl, hd, ht]
  funext t
  unfold zvl
  rw [hp, hb, hw]
/-- a text that both hold -/
def zRt (Γ : Nat → Option Nat) (F : Nat → va_E) (pn pr : Nat) (fa la : Nat → Nat) (T : zTS) (V : Nat → Int) (d : zDat) : Prop := (zRC F pn fa la T d ∧ zRK Γ F pn fa T V d) ∧ zRb Γ F pr T V d ∧ zTd d ∧ zAn (zAa T V d) (zac d)
def zRv (Γ : Nat → Option Nat) (F : Nat → va_E) (th mo pn sn pr : Nat) (fa fb la : Nat → Nat) (fc iz : Int32) : Prop := (zfld F th 2 = .ref pn ∧ zfld F th 3 = .ref sn ∧ zfld F mo 4 = .ref pr) ∧ (Γ pn = some 6 ∧ Γ sn = some 6 ∧ Γ pr = some 11) ∧ (zPS Γ F pn fa ∧ zPS Γ F sn fb ∧ zPD Γ F fa ∧ zPD Γ F fb ∧ zLS Γ F pn la) ∧ (zfld F pn 4 = .int fc ∧ zfld F mo 7 = .int iz) ∧ ((iz.toInt = 0 ∧ fc.toInt = 0) ∨ (iz.toInt ≠ 0 ∧ ∃ T V d, zRt Γ F pn pr fa la T V d))
def zRw (Γ : Nat → Option Nat) (F : Nat → va_E) (th mo : Nat) : Prop := zM3 Γ F th ∧ ∃ (pn sn pr : Nat) (fa fb la : Nat → Nat) (fc iz : Int32), zRv Γ F th mo pn sn pr fa fb la fc iz
def zRo1 (M : List Nat) : Prop := (zMC M ∧ zMK M) ∧ (602 ∉ M ∧ 10400 ∉ M) ∧ (603 ∉ M ∧ 10500 ∉ M) ∧ 208 ∉ M
def zRo2 (M : List Nat) : Prop := zXM M ∧ (1100 ∉ M ∧ 1101 ∉ M) ∧ (13300 ∉ M ∧ 13400 ∉ M ∧ 13500 ∉ M ∧ 13600 ∉ M) ∧ 12400 ∉ M ∧ 12600 ∉ M ∧ 12700 ∉ M ∧ 12800 ∉ M ∧ 12500 ∉ M
def zRok (M : List Nat) : Prop := (1002 ∉ M ∧ 1003 ∉ M ∧ 1404 ∉ M ∧ 1407 ∉ M) ∧ zRo1 M ∧ zRo2 M
def zRom (M : List Nat) : Prop := (1005 ∉ M ∧ 1006 ∉ M ∧ 1007 ∉ M) ∧ ∀ m ∈ zR5, m ∉ M
theorem zRK.frp {Γ : Nat → Option Nat} {M : List Nat} {F u : Nat → va_E} {pr : Nat} {fa la : Nat → Nat} {T : zTS} {V : Nat → Int} {d : zDat} (h : zRC F pr fa la T d ∧ zRK Γ F pr fa T V d) (hf : zFr Γ M F u) (hs : zPS Γ F pr fa) (hl : zLS Γ F pr la) (hp : Γ pr = some 6) (hM : zMC M ∧ zMK M) : zRC u pr fa la T d ∧ zRK Γ u pr fa T V d :=
  ⟨h.1.fr hf hs hl hp hM.1, h.2.fr hf hp (fun f hf9 => hs.ty (Nat.lt_of_lt_of_le hf9 h.1.2.2.2.2.1)) hM.2⟩
theorem zRv.fr {Γ : Nat → Option Nat} {M : List Nat} {F u : Nat → va_E} {th mo pn sn pr : Nat} {fa fb la : Nat → Nat} {fc iz : Int32} (h : zRv Γ F th mo pn sn pr fa fb la fc iz) (hf : zFr Γ M F u) (hth : Γ th = some 10) (hmo : Γ mo = some 14) (hM : zRok M) : zRv Γ u th mo pn sn pr fa fb la fc iz := by
  obtain ⟨⟨k2, k3, k4⟩, ⟨hpn, hsn, hpr⟩, ⟨p1, p2, p3, p4, l1⟩, ⟨kc, k7⟩, hd⟩ := h
  obtain ⟨⟨m2, m3, m4, m7⟩, ⟨mk, m6, ml, m8⟩, mr⟩ := hM
  refine ⟨⟨hf.f hth 2 ⟨by decide, m2⟩ k2, hf.f hth 3 ⟨by decide, m3⟩ k3, hf.f hmo 4 ⟨by decide, m4⟩ k4⟩, ⟨hpn, hsn, hpr⟩, ⟨p1.fr hf hpn m6, p2.fr hf hsn m6, p3.fr hf (fun f h9 => p1.ty h9) m8, p4.fr hf (fun f h9 => p2.ty h9) m8, l1.fr hf hpn ml⟩, ⟨hf.f hpn 4 ⟨by decide, mk.1.1.1⟩ kc, hf.f hmo 7 ⟨by decide, m7⟩ k7⟩, hd.imp id (fun ⟨g1, T, V, d, g2, g3, g4⟩ => ⟨g1, T, V, d, zRK.frp g2 hf p1 l1 hpn mk, g3.fr hf hpr mr, g4⟩)⟩
theorem zRw.fr {Γ : Nat → Option Nat} {M : List Nat} {F u : Nat → va_E} {th mo : Nat} (h : zRw Γ F th mo) (hf : zFr Γ M F u) (hth : Γ th = some 10) (hmo : Γ mo = some 14) (hM : zRom M ∧ zRok M) : zRw Γ u th mo := by
  obtain ⟨h3, pn, sn, pr, fa, fb, la, fc, iz, h⟩ := h
  exact ⟨h3.fr hf hth hM.1, pn, sn, pr, fa, fb, la, fc, iz, h.fr hf hth hmo hM.2⟩
/-- where one of the machines ran -/
theorem zRw.run {Γ : Nat → Option Nat} {M : List Nat} {F u : Nat → va_E} {th mo : Nat} (h : zRw Γ F th mo) (hf : zFr Γ M F u) (hth : Γ th = some 10) (hmo : Γ mo = some 14) (h3 : zM3 Γ u th) (hM : zRok M) : zRw Γ u th mo := by
  obtain ⟨-, pn, sn, pr, fa, fb, la, fc, iz, h⟩ := h
  exact ⟨h3, pn, sn, pr, fa, fb, la, fc, iz, h.fr hf hth hmo hM⟩
theorem zRC.sm {Γ : Nat → Option Nat} {X : List Nat} {F u : Nat → va_E} {pr : Nat} {fa la : Nat → Nat} {T : zTS} {d : zDat} (h : zRC F pr fa la T d) (hs : zSm Γ X F u) (hX : zFc Γ F X pr) (hps : zPS Γ F pr fa) (hl : zLS Γ F pr la) : zRC u pr fa la T d := by
  refine h.cg (fun j h4 h6 => ?_) (fun f hf j hj => ?_) (fun l hl9 j hj => ?_)
  · exact (hs pr hX.1 6 hX.2.1).1 (by decide) j (by omega)
  · exact (hs (fa f) (zPS.in hX hps f hf) 2 (hps.ty hf)).1 (by decide) j (by omega)
  · exact (hs (la l) (zLS.in hX hl l hl9) 4 (hl.ty hl9)).1 (by decide) j (by omega)
theorem zLS.sm {Γ : Nat → Option Nat} {X : List Nat} {F u : Nat → va_E} {pr : Nat} {la : Nat → Nat} (h : zLS Γ F pr la) (hs : zSm Γ X F u) (hX : zFc Γ F X pr) : zLS Γ u pr la := by
  obtain ⟨ar, k, ha, hl, hd⟩ := h
  obtain ⟨t, -, e, q1, -⟩ := hX.2.2 pr hX.1
  cases Option.some.inj (hX.2.1.symm.trans e)
  have har : ar ∈ X := q1 (by decide) 3 (2, 105, 0) ar rfl (Or.inl rfl) k
  refine ⟨ar, hs.f hX.1 hX.2.1 3 ⟨by decide, by decide⟩ k, ha, fun l hl9 => ⟨?_, (hl l hl9).2⟩, hd⟩
  have e9 := hs.a har ha (by decide)
  unfold zre
  rw [e9]
  exact (hl l hl9).1
/-- the reference's rows, its objects as they were -/
theorem zRb.up {Γ : Nat → Option Nat} {F u : Nat → va_E} {X : List Nat} {pr : Nat} {T : zTS} {V : Nat → Int} {d : zDat} (h : zRb Γ F pr T V d) (hm : zFm Γ F X pr) (hu : ∀ a ∈ X, u a = F a) : zRb Γ u pr T V d := by
  obtain ⟨hsa, ⟨⟨x, h1, h2⟩, h3, h4, h5⟩, ⟨y, g1, g2⟩, ⟨z, g3, g4⟩, g5, g6, g7⟩ := h
  have ef : u pr = F pr := hu _ hm.1
  have ea : ∀ j, 4 ≤ j → j < 30 → zar u pr j = zar F pr j := fun j j1 j2 => by
    obtain ⟨b, k1, k2, -⟩ := hm.2.2.2 j j1 j2
    rw [zar_eq k1, zar_eq (zfld_e ef k1)]
    funext i
    unfold zel
    rw [hu b k2]
  have el := hm.al hu
  refine ⟨⟨hsa.1, fun j j1 j2 => ?_⟩, ⟨⟨x, zfld_e ef h1, h2⟩, ?_, fun l hl => (h4 l hl).cg (congrFun (ea 17 (by decide) (by decide)) l) (congrFun (ea 18 (by decide) (by decide)) l) (congrFun (ea 19 (by decide) (by decide)) l) (congrFun (ea 20 (by decide) (by decide)) l) (congrFun (ea 21 (by decide) (by decide)) l) (congrFun (ea 22 (by decide) (by decide)) l) (congrFun (ea 23 (by decide) (by decide)) l), ?_⟩, ⟨y, zfld_e ef g1, g2⟩, ⟨z, zfld_e ef g3, g4⟩, g5, fun l hl => (g6 l hl).cg (ea 13 (by decide) (by decide)) (ea 14 (by decide) (by decide)) (ea 15 (by decide) (by decide)) (ea 16 (by decide) (by decide)), fun f hf9 => ?_⟩
  · obtain ⟨b, k1, k2⟩ := hsa.2 j j1 j2
    exact ⟨b, zfld_e ef k1, k2⟩
  · rw [ea 24 (by decide) (by decide), ea 25 (by decide) (by decide)]
    exact h3
  · rw [ea 12 (by decide) (by decide)]
    exact h5
  · unfold zRN
    rw [el, ea 6 (by decide) (by decide), ea 7 (by decide) (by decide), ea 8 (by decide) (by decide), ea 5 (by decide) (by decide)]
    exact g7 f hf9
/-- both took the text: one text, one d; or both left what they had -/
theorem z_bot3 {q fe r1 r2 : Int32} {A B : Nat → Int32} {a b : Value} {O1 O2 : zDat → Prop} {N1 N2 Y1 Y2 : Prop} (hb : ∀ i : Nat, (i : Int) < fe.toInt → A i = B i) (h1 : (0 ≤ q.toInt ∧ q.toInt ≤ fe.toInt → ∃ (k9 : Int32) (d9 : zDat), a = .int k9 ∧ zOut (zTo A q.toInt.toNat) k9.toInt d9 ∧ ((k9.toInt = 0 ∧ r1.toInt = (zfc d9 : Int) ∧ O1 d9) ∨ (k9.toInt ≠ 0 ∧ r1.toInt = -1 ∧ N1))) ∧ (q.toInt < 0 ∨ fe.toInt < q.toInt → r1.toInt = -1 ∧ Y1 ∧ N1)) (h2 : (0 ≤ q.toInt ∧ q.toInt ≤ fe.toInt → ∃ (k9 : Int32) (d9 : zDat), b = .int k9 ∧ zOut (zTo B q.toInt.toNat) k9.toInt d9 ∧ ((k9.toInt = 0 ∧ r2.toInt = (zfc d9 : Int) ∧ O2 d9) ∨ (k9.toInt ≠ 0 ∧ r2.toInt = -1 ∧ N2))) ∧ (q.toInt < 0 ∨ fe.toInt < q.toInt → r2.toInt = -1 ∧ Y2 ∧ N2)) : (∃ d i, (zTo A q.toInt.toNat = zTo B q.toInt.toNat ∧ zvl A q.toInt.toNat = zvl B q.toInt.toNat) ∧ zRe (zTo A q.toInt.toNat) (.inl ([(1, 0, 0, 0), (0, 0, 0, 0)], 0, zd0)) (.inl ([], i, d)) ∧ O1 d ∧ O2 d) ∨ (N1 ∧ N2) := by
  by_cases c : 0 ≤ q.toInt ∧ q.toInt ≤ fe.toInt
  · obtain ⟨k1, d1, -, o1, q1⟩ := h1.1 c
    obtain ⟨k2, d2, -, o2, q2⟩ := h2.1 c
    have hT := zTo_cg (B := A) (B' := B) (n := q.toInt.toNat) (fun i hi => hb i (by omega))
    have hV := zvl_cg (B := A) (B' := B) (n := q.toInt.toNat) (fun i hi => hb i (by omega))
    have o3 := o1
    rw [hT] at o1
    obtain ⟨e1, e2⟩ := zOut.un o1 o2
    rcases q1 with ⟨a1, a2, a3⟩ | ⟨a1, a2, a3⟩
    · rcases q2 with ⟨b1, b2, b3⟩ | ⟨b1, b2, b3⟩
      · have g := e2 a1
        subst g
        rcases o3 with ⟨g1, -⟩ | ⟨i, g1, -⟩
        · exact absurd a1 g1
        · exact Or.inl ⟨_, i, ⟨hT, hV⟩, g1, a3, b3⟩
      · omega
    · rcases q2 with ⟨b1, b2, b3⟩ | ⟨b1, b2, b3⟩
      · omega
      · exact Or.inr ⟨a3, b3⟩
  · obtain ⟨a1, -, a3⟩ := h1.2 (by omega)
    obtain ⟨b1, -, b3⟩ := h2.2 (by omega)
    exact Or.inr ⟨a3, b3⟩
theorem zRw.prog {Γ : Nat → Option Nat} {M M' : List Nat} {F u v : Nat → va_E} {th mo to ch gr pn sn pr sp : Nat} {fa fb la lb : Nat → Nat} {B Bn : Nat → Int32} {Ln Ls Lp : List Nat} {nb : Nat → Int} {mb q : Nat} {fc iz : Int32} {C1 C2 C3 : Prop} (h3 : zM3 Γ F th) (h : zRv Γ F th mo pn sn pr fa fb la fc iz) (hf : zFr Γ M F u) (hg : zFr Γ M' u v) (hth : Γ th = some 10) (hmo : Γ mo = some 14) (hM : zRom M ∧ (1404 ∉ M ∧ 1407 ∉ M) ∧ ((602 ∉ M ∧ 10400 ∉ M) ∧ (603 ∉ M ∧ 10500 ∉ M) ∧ 208 ∉ M) ∧ zRo2 M) (hM' : zRom M' ∧ (1002 ∉ M' ∧ 1003 ∉ M') ∧ zRo1 M') (hF : zF2 Γ F pn sn Ln Ls) (hls : zLS Γ F sn lb) (hsp : zSA Γ v sp) (hpr : zFm Γ u Lp pr) (hup : ∀ a ∈ Lp, v a = u a) (hY : (∃ d i, (zTo B q = zTo Bn q ∧ zvl B q = zvl Bn q) ∧ zRe (zTo B q) (.inl ([(1, 0, 0, 0), (0, 0, 0, 0)], 0, zd0)) (.inl ([], i, d)) ∧ (zCok u th to ch pn sn fb lb (zTo B q) d ∧ zCg Γ u gr sn B q d nb mb ∧ zRK Γ u sn fb (zTo B q) (zvl B q) d) ∧ (zMyk v mo sp (zTo Bn q) d ∧ C1 ∧ zRX v sp (zTo Bn q) (zvl Bn q) d)) ∨ ((zCno Γ F u th to ch pn sn Ln ∧ C2) ∧ (zMyn u v mo pr ∧ C3))) : zRw Γ v th mo := by
  obtain ⟨⟨k2, k3, k4⟩, ⟨hpn, hsn, hprt⟩, ⟨p1, p2, p3, p4, l1⟩, ⟨kc, k7⟩, hd⟩ := h
  obtain ⟨mm, ⟨m4, m7⟩, ⟨m6, ml, m8⟩, mr⟩ := hM
  obtain ⟨nm, ⟨n2, n3⟩, nk, n6, nl, n8⟩ := hM'
  refine ⟨(h3.fr hf hth mm).fr hg hth nm, ?_⟩
  have a1 := p1.fr hf hpn m6
  have a2 := p2.fr hf hsn m6
  have a3 := p3.fr hf (fun f h9 => p1.ty h9) m8
  have a4 := p4.fr hf (fun f h9 => p2.ty h9) m8
  have a5 := l1.fr hf hpn ml
  have a6 := hls.fr hf hsn ml
  have b1 := a1.fr hg hpn n6
  have b2 := a2.fr hg hsn n6
  have b3 := a3.fr hg (fun f h9 => p1.ty h9) n8
  have b4 := a4.fr hg (fun f h9 => p2.ty h9) n8
  have b5 := a5.fr hg hpn nl
  have b6 := a6.fr hg hsn nl
  rcases hY with ⟨d, i, ⟨eT, eV⟩, hRe, ⟨⟨c2, c3, -, -, hRC⟩, -, hRK⟩, ⟨o4, o7, -, hRM, -⟩, -, hRX⟩ | ⟨⟨⟨c2, c3, -, -, hS⟩, -⟩, ⟨o4, o7, -⟩, -⟩
  · obtain ⟨⟨y, ky, ey⟩, -⟩ := id hRC
    refine ⟨sn, pn, sp, fb, fa, lb, y, 1, ⟨hg.f hth 2 ⟨by decide, n2⟩ c2, hg.f hth 3 ⟨by decide, n3⟩ c3, o4⟩, ⟨hsn, hpn, hsp.1⟩, ⟨b2, b1, b4, b3, b6⟩, ⟨hg.f hsn 4 ⟨by decide, nk.1.1.1⟩ ky, o7⟩, Or.inr ⟨by decide, zTo B q, zvl B q, d, zRK.frp ⟨hRC, hRK⟩ hg a2 a6 hsn nk, ⟨hsp, ?_, ?_⟩, zTd.of hRe, zAn.of hRe⟩⟩
    · rw [eT, eV]
      exact hRX
    · rw [eT]
      exact hRM
  · refine ⟨pn, sn, pr, fa, fb, la, fc, iz, ⟨hg.f hth 2 ⟨by decide, n2⟩ c2, hg.f hth 3 ⟨by decide, n3⟩ c3, o4⟩, ⟨hpn, hsn, hprt⟩, ⟨b1, b2, b3, b4, b5⟩, ⟨hg.f hpn 4 ⟨by decide, nk.1.1.1⟩ (hS.f hF.1.1 hpn 4 ⟨by decide, by decide⟩ kc), o7.trans (hf.f hmo 7 ⟨by decide, m7⟩ k7)⟩, hd.imp id (fun ⟨g1, T, V, d, g2, g3, g4⟩ => ⟨g1, T, V, d, zRK.frp ⟨g2.1.sm hS hF.1 p1 l1, g2.2.sm hS hF.1 p1 g2.1.2.2.2.2.1⟩ hg a1 a5 hpn nk, (g3.fr hf hprt mr).up hpr hup, g4⟩)⟩
/-- what the class's run asks of now's Program -/
theorem zRt.vp {D : va_G} {k : Nat → ClassId} {Γ : Nat → Option Nat} {L : List Nat} {s : State} {F : Nat → va_E} {H : Heap} {locs : List Loc} {pn pr : Nat} {fa la : Nat → Nat} {T : zTS} {V : Nat → Int} {d : zDat} (h : zH D k Γ L s F H locs) (hps : zPS Γ F pn fa) (ht : zRt Γ F pn pr fa la T V d) : zVp Γ F pn fa (zPgd d) ∧ ∃ co, zfld F pn 1 = .ref co ∧ Γ co = some 1 ∧ zVq Γ F co (zAa T V d) (zac d) ∧ zac d ≤ 1200 := by
  obtain ⟨⟨⟨h1, -, -, -, h10, hRF, -⟩, ⟨co, c1, c2, c3, c4, c5⟩, hK⟩, -⟩ := ht
  have hac : zac d ≤ 1200 := by
    obtain ⟨s9, e1, e2⟩ := c4
    obtain ⟨y, e3, e4⟩ := z_learn (j := 3) h c2 (by decide) rfl
    cases z_vi e1 e3
    have := e4.2
    omega
  refine ⟨⟨hps, h1, h10, fun f hf9 => ?_⟩, co, c1, c2, ⟨c4, hac, c3, c5⟩, hac⟩
  have hf9 : f < zfc d := hf9
  obtain ⟨-, ⟨z, g1, g2⟩, -⟩ := hRF f hf9
  obtain ⟨g3, g4, g5⟩ := hK f hf9
  obtain ⟨y, e3, e4⟩ := z_learn (j := 7) h (hps.ty (Nat.lt_of_lt_of_le hf9 h10)) (by decide) rfl
  cases z_vi g1 e3
  refine ⟨⟨z, g1, g2⟩, ?_, g3, g4, g5⟩
  show zpc d f ≤ 3
  have := e4.2
  omega
/-- now's Program in a run: what it holds, or that it holds nothing -/
def zRq (Γ : Nat → Option Nat) (F : Nat → va_E) (pn co : Nat) (fa : Nat → Nat) (T : zTS) (V : Nat → Int) (d : zDat) (fc : Int32) : Prop := fc.toInt ≠ 0 → (fc.toInt = (zfc d : Int) ∧ zVp Γ F pn fa (zPgd d)) ∧ (zfld F pn 1 = .ref co ∧ Γ co = some 1 ∧ zVq Γ F co (zAa T V d) (zac d)) ∧ zAn (zAa T V d) (zac d)
theorem zRv.rq {D : va_G} {k : Nat → ClassId} {Γ : Nat → Option Nat} {L : List Nat} {s : State} {F : Nat → va_E} {H : Heap} {locs : List Loc} {th mo pn sn pr : Nat} {fa fb la : Nat → Nat} {fc iz : Int32} (h : zH D k Γ L s F H locs) (hv : zRv Γ F th mo pn sn pr fa fb la fc iz) : ∃ (co : Nat) (T : zTS) (V : Nat → Int) (d : zDat), zRq Γ F pn co fa T V d fc ∧ (iz.toInt ≠ 0 → zRb Γ F pr T V d ∧ zTd d ∧ zAn (zAa T V d) (zac d)) ∧ ((iz.toInt = 0 ∧ fc.toInt = 0) ∨ (iz.toInt ≠ 0 ∧ fc.toInt = (zfc d : Int) ∧ 0 < fc.toInt)) := by
  obtain ⟨-, -, ⟨p1, -⟩, ⟨kc, -⟩, hd⟩ := hv
  rcases hd with ⟨g1, g2⟩ | ⟨g1, T, V, d, g2⟩
  · exact ⟨0, ((fun _ => 0), (fun _ => 0), fun _ => 0), fun _ => 0, zd0, fun g => absurd g2 g, fun g => absurd g1 g, Or.inl ⟨g1, g2⟩⟩
  · obtain ⟨q1, co, q2, q3, q4, -⟩ := g2.vp h p1
    have hc := g2.1.1.fcE kc
    have h0 := g2.1.1.2.2.2.2.2.2
    exact ⟨co, T, V, d, fun _ => ⟨⟨hc, q1⟩, ⟨q2, q3, q4⟩, g2.2.2.2⟩, fun _ => g2.2, Or.inr ⟨g1, hc, by omega⟩⟩
theorem zw_X10_run (l : Launch) (D : va_G) (k : Nat → ClassId) (Γ : Nat → Option Nat) (L : List Nat) (F : Nat → va_E) (sz : Nat) (th : Nat) (f x y z fu : Int32) (pn : Nat) (fc : Int32) (fa : Nat → Nat) (co : Nat) (T : zTS) (V : Nat → Int) (d : zDat) (mt : Nat) (nx_ : Int32) (X : List Nat) (hth : Γ th = some 10) (kpn : zfld F th 2 = .ref pn) (hpn : Γ pn = some 6) (kfc : zfld F pn 4 = .int fc) (bfc : zB 0 10 fc) (hq : zRq Γ F pn co fa T V d fc) (kmt : zfld F th 5 = .ref mt) (hmt : Γ mt = some 5) (knx_ : zfld F mt 14 = .int nx_) (hX : zMa Γ F mt X) : Met l yX10_run zwX10_run ({ frames := 5, cells := 0, slots := 0, locals := 114 }) (va_Pc [.ref th, .int f, .int x, .int y, .int z, .int fu] (zP D k Γ L F sz)) (va_Qi (fun (r : Int32) (u : Nat → va_E) => ((fc.toInt ≠ 0 ∧ 0 ≤ f.toInt ∧ f.toInt < fc.toInt ∧ 1 ≤ fu.toInt ∧ fu.toInt ≤ 2000 → r.toInt = ven (zFx9 ((-1) : Int32).toInt fu.toInt d T V f.toInt x y z)) ∧ (¬ (fc.toInt ≠ 0 ∧ 0 ≤ f.toInt ∧ f.toInt < fc.toInt ∧ 1 ≤ fu.toInt ∧ fu.toInt ≤ 2000) → r.toInt = -1)) ∧ (fc.toInt ≠ 0 ∧ 0 ≤ f.toInt ∧ f.toInt < fc.toInt ∧ 1 ≤ fu.toInt ∧ fu.toInt ≤ 2000 → zfld u th 8 = .int 1 ∧ ∃ m1, zVc u mt m1 ∧ zEq (zFx9 ((-1) : Int32).toInt fu.toInt d T V f.toInt x y z) m1) ∧ (¬ (fc.toInt ≠ 0 ∧ 0 ≤ f.toInt ∧ f.toInt < fc.toInt ∧ 1 ≤ fu.toInt ∧ fu.toInt ≤ 2000) → zfld u th 8 = zfld F th 8 ∧ ∀ a t, Γ a = some t → t ∈ zS5 → t ≠ 10 → u a = F a)) (zQ D k Γ L F [500, 501, 502, 503, 504, 505, 506, 510, 511, 512, 513, 514, 515, 518, 1008, 1013, 10800, 10900, 11000, 11100, 11200]) (zA L sz)) 0 0 (zA L sz) := by
  by_cases c : fc.toInt = 0
  · refine zMet_imp (zo_X10_run l D k Γ L F sz th f x y z fu pn fc hth kpn hpn kfc bfc c) (fun _ _ h => h) (fun a s o t _ h8 => ?_)
    obtain ⟨⟨r, u, e1, hp, b⟩, hF⟩ := h8
    exact ⟨⟨r, u, e1, ⟨⟨fun g => absurd c g.1, fun _ => hp.1⟩, fun g => absurd c g.1, fun _ => ⟨hp.2.2.1, hp.2.1⟩⟩, b⟩, hF⟩
  · obtain ⟨⟨c1, c2⟩, ⟨c3, c4, c5⟩, c6⟩ := hq c
    refine zMet_imp (zm_X10_run l D k Γ L F sz th f x y z fu pn fa (zPgd d) co (zAa T V d) (zac d) mt nx_ X hth kpn hpn c2 c3 c4 c5 kmt hmt knx_ (zB.all nx_) hX c6.1) (fun _ _ h => h) (fun a s o t _ h8 => ?_)
    obtain ⟨⟨r, u, e1, hp, b⟩, hF⟩ := h8
    have e0 : ((zPgd d).1.1 : Int) = fc.toInt := c1.symm
    have okp : fc.toInt ≠ 0 ∧ 0 ≤ f.toInt ∧ f.toInt < fc.toInt ∧ 1 ≤ fu.toInt ∧ fu.toInt ≤ 2000 → 0 ≤ f.toInt ∧ f.toInt < ((zPgd d).1.1 : Int) ∧ 1 ≤ fu.toInt ∧ fu.toInt ≤ 2000 := fun g => ⟨g.2.1, by omega, g.2.2.2⟩
    have oks : fc.toInt ≠ 0 ∧ 0 ≤ f.toInt ∧ f.toInt < fc.toInt ∧ 1 ≤ fu.toInt ∧ fu.toInt ≤ 2000 → zEq (zFx9 ((-1) : Int32).toInt fu.toInt d T V f.toInt x y z) (v_run ((-1) : Int32).toInt fu.toInt (zPgd d) (zAa T V d) (zac d) 4000000 (v_enter (zPgd d) f.toInt (v_cut ((zPgd d).1.2 f.toInt.toNat) x y z (v_new0 (zar F mt 7) (zar F mt 8) (zar F mt 9) (zng nx_))))) := fun g => by
      have g9 : 0 ≤ f.toInt ∧ f.toInt < ((zPgd d).1.1 : Int) := ⟨g.2.1, by omega⟩
      have g8 : zpc d f.toInt.toNat ≤ 3 := (c2.2.2.2 f.toInt.toNat (by omega)).2.1
      exact zFx9.same g8 g9 c6
    have okn : ¬ (fc.toInt ≠ 0 ∧ 0 ≤ f.toInt ∧ f.toInt < fc.toInt ∧ 1 ≤ fu.toInt ∧ fu.toInt ≤ 2000) → ¬ (0 ≤ f.toInt ∧ f.toInt < ((zPgd d).1.1 : Int) ∧ 1 ≤ fu.toInt ∧ fu.toInt ≤ 2000) := fun g g9 => g ⟨c, g9.1, by omega, g9.2.2⟩
    exact ⟨⟨r, u, e1, ⟨⟨fun g => (hp.1.1 (okp g)).trans (oks g).2.2.1, fun g => hp.1.2 (okn g)⟩, fun g => ⟨hp.2.2.2.1 (okp g), _, hp.2.2.1 (okp g), oks g⟩, fun g => hp.2.2.2.2.1 (okn g)⟩, b⟩, hF⟩
theorem zw_X10_wrong (l : Launch) (D : va_G) (k : Nat → ClassId) (Γ : Nat → Option Nat) (L : List Nat) (F : Nat → va_E) (sz : Nat) (th : Nat) (ru f x y z : Int32) (pn : Nat) (fc : Int32) (fa : Nat → Nat) (co : Nat) (T : zTS) (V : Nat → Int) (d : zDat) (mt : Nat) (nx_ : Int32) (X : List Nat) (hth : Γ th = some 10) (kpn : zfld F th 2 = .ref pn) (hpn : Γ pn = some 6) (kfc : zfld F pn 4 = .int fc) (bfc : zB 0 10 fc) (hq : zRq Γ F pn co fa T V d fc) (kmt : zfld F th 7 = .ref mt) (hmt : Γ mt = some 5) (knx_ : zfld F mt 14 = .int nx_) (hX : zMa Γ F mt X) : Met l yX10_wrong zwX10_wrong ({ frames := 5, cells := 0, slots := 0, locals := 114 }) (va_Pc [.ref th, .int ru, .int f, .int x, .int y, .int z] (zP D k Γ L F sz)) (va_Qi (fun (r : Int32) (u : Nat → va_E) => ((fc.toInt ≠ 0 ∧ 0 ≤ f.toInt ∧ f.toInt < fc.toInt ∧ 0 ≤ ru.toInt ∧ ru.toInt ≤ 3 → r = vvl (zFx9 ru.toInt (2000 : Int32).toInt d T V f.toInt x y z)) ∧ (¬ (fc.toInt ≠ 0 ∧ 0 ≤ f.toInt ∧ f.toInt < fc.toInt ∧ 0 ≤ ru.toInt ∧ ru.toInt ≤ 3) → r.toInt = -1)) ∧ (∀ a t, Γ a = some t → t ∈ zS5 → t ≠ 10 → a ∉ X → u a = F a)) (zQ D k Γ L F [500, 501, 502, 503, 504, 505, 506, 510, 511, 512, 513, 514, 515, 518, 1013, 10800, 10900, 11000, 11100, 11200]) (zA L sz)) 0 0 (zA L sz) := by
  by_cases c : fc.toInt = 0
  · refine zMet_imp (zo_X10_wrong l D k Γ L F sz th ru f x y z pn fc hth kpn hpn kfc bfc c) (fun _ _ h => h) (fun a s o t _ h8 => ?_)
    obtain ⟨⟨r, u, e1, hp, b⟩, hF⟩ := h8
    exact ⟨⟨r, u, e1, ⟨⟨fun g => absurd c g.1, fun _ => hp.1⟩, fun a t q1 q2 q3 _ => hp.2.1 a t q1 q2 q3⟩, b⟩, hF⟩
  · obtain ⟨⟨c1, c2⟩, ⟨c3, c4, c5⟩, c6⟩ := hq c
    refine zMet_imp (zm_X10_wrong l D k Γ L F sz th ru f x y z pn fa (zPgd d) co (zAa T V d) (zac d) mt nx_ X hth kpn hpn c2 c3 c4 c5 kmt hmt knx_ (zB.all nx_) hX c6.1) (fun _ _ h => h) (fun a s o t _ h8 => ?_)
    obtain ⟨⟨r, u, e1, hp, b⟩, hF⟩ := h8
    have e0 : ((zPgd d).1.1 : Int) = fc.toInt := c1.symm
    refine ⟨⟨r, u, e1, ⟨⟨fun g => ?_, fun g => hp.1.2 (fun g9 => g ⟨c, g9.1, by omega, g9.2.2⟩)⟩, hp.2.1⟩, b⟩, hF⟩
    have g9 : 0 ≤ f.toInt ∧ f.toInt < ((zPgd d).1.1 : Int) := ⟨g.2.1, by omega⟩
    have g8 : zpc d f.toInt.toNat ≤ 3 := (c2.2.2.2 f.toInt.toNat (by omega)).2.1
    exact (hp.1.1 ⟨g9.1, g9.2, g.2.2.2⟩).trans (zFx9.same g8 g9 c6).2.2.2.1
theorem zw_X10_unlike (l : Launch) (D : va_G) (k : Nat → ClassId) (Γ : Nat → Option Nat) (L : List Nat) (F : Nat → va_E) (sz : Nat) (th : Nat) (f x y z : Int32) (pn : Nat) (fc : Int32) (fa : Nat → Nat) (co : Nat) (T : zTS) (V : Nat → Int) (d : zDat) (tm : Nat) (nt_ : Int32) (mt : Nat) (X2 X : List Nat) (hth : Γ th = some 10) (kpn : zfld F th 2 = .ref pn) (hpn : Γ pn = some 6) (kfc : zfld F pn 4 = .int fc) (bfc : zB 0 10 fc) (hq : zRq Γ F pn co fa T V d fc) (ktm : zfld F th 6 = .ref tm) (htm : Γ tm = some 5) (knt_ : zfld F tm 14 = .int nt_) (kmt : zfld F th 7 = .ref mt) (hmt : Γ mt = some 5) (hX2 : zMa Γ F tm X2) (hX : zMa Γ F mt X) (hdX : ∀ a ∈ X2, a ∉ X) : Met l yX10_unlike zwX10_unlike ({ frames := 5, cells := 0, slots := 0, locals := 114 }) (va_Pc [.ref th, .int f, .int x, .int y, .int z] (zP D k Γ L F sz)) (va_Qi (fun (r : Int32) (u : Nat → va_E) => ((fc.toInt ≠ 0 ∧ 0 ≤ f.toInt ∧ f.toInt < fc.toInt → r.toInt = (zuns (fun R : Int => zFx9 R (2000 : Int32).toInt d T V f.toInt x y z) (zFx9 ((-1) : Int32).toInt (2000 : Int32).toInt d T V f.toInt x y z) 4 : Int)) ∧ (¬ (fc.toInt ≠ 0 ∧ 0 ≤ f.toInt ∧ f.toInt < fc.toInt) → r.toInt = -1)) ∧ (∀ a t, Γ a = some t → t ∈ zS5 → t ≠ 10 → a ∉ X2 → a ∉ X → u a = F a)) (zQ D k Γ L F [500, 501, 502, 503, 504, 505, 506, 510, 511, 512, 513, 514, 515, 518, 1013, 10800, 10900, 11000, 11100, 11200]) (zA L sz)) 0 0 (zA L sz) := by
  by_cases c : fc.toInt = 0
  · refine zMet_imp (zo_X10_unlike l D k Γ L F sz th f x y z pn fc hth kpn hpn kfc bfc c) (fun _ _ h => h) (fun a s o t _ h8 => ?_)
    obtain ⟨⟨r, u, e1, hp, b⟩, hF⟩ := h8
    exact ⟨⟨r, u, e1, ⟨⟨fun g => absurd c g.1, fun _ => hp.1⟩, fun a t q1 q2 q3 _ _ => hp.2.1 a t q1 q2 q3⟩, b⟩, hF⟩
  · obtain ⟨⟨c1, c2⟩, ⟨c3, c4, c5⟩, c6⟩ := hq c
    have e0 : ((zPgd d).1.1 : Int) = fc.toInt := c1.symm
    have hW : (0 ≤ f.toInt ∧ f.toInt < ((zPgd d).1.1 : Int)) → ∀ (R : Int) (sd tr pl : Nat → Int32) (nx : Nat), zEq ((fun R : Int => zFx9 R (2000 : Int32).toInt d T V f.toInt x y z) R) (v_run R (2000 : Int32).toInt (zPgd d) (zAa T V d) (zac d) 4000000 (v_enter (zPgd d) f.toInt (v_cut ((zPgd d).1.2 f.toInt.toNat) x y z (v_new0 sd tr pl nx)))) := fun g R sd tr pl nx => by
      have g8 : zpc d f.toInt.toNat ≤ 3 := (c2.2.2.2 f.toInt.toNat (by omega)).2.1
      exact zFx9.same g8 g c6
    refine zMet_imp (zm_X10_unlike l D k Γ L F sz th f x y z pn fa (zPgd d) co (zAa T V d) (zac d) tm nt_ mt X2 X (fun R : Int => zFx9 R (2000 : Int32).toInt d T V f.toInt x y z) hth kpn hpn c2 c3 c4 c5 ktm htm knt_ (zB.all nt_) kmt hmt hX2 hX hdX c6.1 hW) (fun _ _ h => h) (fun a s o t _ h8 => ?_)
    obtain ⟨⟨r, u, e1, hp, b⟩, hF⟩ := h8
    exact ⟨⟨r, u, e1, ⟨⟨fun g => hp.1.1 ⟨g.2.1, by omega⟩, fun g => hp.1.2 (fun g9 => g ⟨c, g9.1, by omega⟩)⟩, hp.2.1⟩, b⟩, hF⟩
theorem zw_X10_tell (l : Launch) (D : va_G) (k : Nat → ClassId) (Γ : Nat → Option Nat) (L : List Nat) (F : Nat → va_E) (sz : Nat) (th : Nat) (f x y z : Int32) (pn : Nat) (fc : Int32) (fa : Nat → Nat) (co : Nat) (T : zTS) (V : Nat → Int) (d : zDat) (to : Nat) (sz_ : Int32) (mt : Nat) (nx_ : Int32) (X : List Nat) (hth : Γ th = some 10) (kpn : zfld F th 2 = .ref pn) (hpn : Γ pn = some 6) (kfc : zfld F pn 4 = .int fc) (bfc : zB 0 10 fc) (hq : zRq Γ F pn co fa T V d fc) (kto : zfld F th 10 = .ref to) (hto : Γ to = some 9) (ksz_ : zfld F to 4 = .int sz_) (bsz_ : zB 0 12 sz_) (kmt : zfld F th 7 = .ref mt) (hmt : Γ mt = some 5) (knx_ : zfld F mt 14 = .int nx_) (hX : zMa Γ F mt X) : Met l yX10_tell zwX10_tell ({ frames := 5, cells := 0, slots := 0, locals := 114 }) (va_Pc [.ref th, .int f, .int x, .int y, .int z] (zP D k Γ L F sz)) (va_Qi (fun (r : Int32) (u : Nat → va_E) => (∃ (s9 : Int32), zfld u to 4 = .int s9 ∧ zB 0 12 s9 ∧ ((0 ≤ f.toInt ∧ f.toInt < fc.toInt ∧ sz_.toInt < 12 → r.toInt = sz_.toInt ∧ s9.toInt = sz_.toInt + 1) ∧ (f.toInt < 0 ∨ fc.toInt ≤ f.toInt ∨ 12 ≤ sz_.toInt → r.toInt = -1 ∧ s9.toInt = sz_.toInt))) ∧ (∀ a t, Γ a = some t → t ∈ zS5 → t ≠ 10 → a ∉ X → u a = F a)) (zQ D k Γ L F [500, 501, 502, 503, 504, 505, 506, 510, 511, 512, 513, 514, 515, 518, 904, 1013, 10800, 10900, 11000, 11100, 11200, 11500]) (zA L sz)) 0 0 (zA L sz) := by
  by_cases c : fc.toInt = 0
  · refine zMet_imp (zo_X10_tell l D k Γ L F sz th f x y z pn fc to sz_ hth kpn hpn kfc bfc kto hto ksz_ bsz_ c) (fun _ _ h => h) (fun a s o t _ h8 => ?_)
    obtain ⟨⟨r, u, e1, hp, b⟩, hF⟩ := h8
    obtain ⟨⟨s9, q1, q2, q3⟩, hp⟩ := hp
    exact ⟨⟨r, u, e1, ⟨⟨s9, q1, q2, fun g => by omega, fun _ => ⟨hp.1, q3⟩⟩, fun a t q1 q2 q3 _ => hp.2.1 a t q1 q2 q3⟩, b⟩, hF⟩
  · obtain ⟨⟨c1, c2⟩, ⟨c3, c4, c5⟩, c6⟩ := hq c
    refine zMet_imp (zm_X10_tell l D k Γ L F sz th f x y z pn fa (zPgd d) co (zAa T V d) (zac d) to sz_ mt nx_ X hth kpn hpn c2 c3 c4 c5 kto hto ksz_ bsz_ kmt hmt knx_ (zB.all nx_) hX c6.1) (fun _ _ h => h) (fun a s o t _ h8 => ?_)
    obtain ⟨⟨r, u, e1, hp, b⟩, hF⟩ := h8
    have e0 : ((zPgd d).1.1 : Int) = fc.toInt := c1.symm
    obtain ⟨⟨s9, q1, q2, q3, q4⟩, hp⟩ := hp
    exact ⟨⟨r, u, e1, ⟨⟨s9, q1, q2, fun g => q3 ⟨g.1, by omega, g.2.2⟩, fun g => q4 (by omega)⟩, hp.1⟩, b⟩, hF⟩
/-- two answers of run are one -/
theorem z_rnn {r1 r2 f fu fc iz nf : Int32} {e : Int} {n : Nat} (h1 : (fc.toInt ≠ 0 ∧ 0 ≤ f.toInt ∧ f.toInt < fc.toInt ∧ 1 ≤ fu.toInt ∧ fu.toInt ≤ 2000 → r1.toInt = e) ∧ (¬ (fc.toInt ≠ 0 ∧ 0 ≤ f.toInt ∧ f.toInt < fc.toInt ∧ 1 ≤ fu.toInt ∧ fu.toInt ≤ 2000) → r1.toInt = -1)) {P : Prop} (h2 : (iz.toInt ≠ 0 ∧ 0 ≤ f.toInt ∧ f.toInt < nf.toInt ∧ 1 ≤ fu.toInt ∧ fu.toInt ≤ 2000 → P ∧ r2.toInt = e) ∧ (¬ (iz.toInt ≠ 0 ∧ 0 ≤ f.toInt ∧ f.toInt < nf.toInt ∧ 1 ≤ fu.toInt ∧ fu.toInt ≤ 2000) → r2.toInt = -1)) (hd : (iz.toInt = 0 ∧ fc.toInt = 0) ∨ (iz.toInt ≠ 0 ∧ fc.toInt = (n : Int) ∧ 0 < fc.toInt)) (hn : iz.toInt ≠ 0 → nf.toInt = (n : Int)) : r1 = r2 := by
  by_cases c : fc.toInt ≠ 0 ∧ 0 ≤ f.toInt ∧ f.toInt < fc.toInt ∧ 1 ≤ fu.toInt ∧ fu.toInt ≤ 2000
  · rcases hd with ⟨g1, g2⟩ | ⟨g1, g2, g3⟩
    · exact absurd g2 c.1
    · have := hn g1
      exact Int32.toInt_inj.mp ((h1.1 c).trans (h2.1 ⟨g1, c.2.1, by omega, c.2.2.2⟩).2.symm)
  · refine Int32.toInt_inj.mp ((h1.2 c).trans (h2.2 (fun g => c ?_)).symm)
    rcases hd with ⟨g1, -⟩ | ⟨g1, g2, g3⟩
    · exact absurd g1 g.1
    · have := hn g1
      exact ⟨by omega, g.2.1, by omega, g.2.2.2⟩
theorem z_wrg {r1 r2 f ru fc iz nf : Int32} {e : Int32} {n : Nat} (h1 : (fc.toInt ≠ 0 ∧ 0 ≤ f.toInt ∧ f.toInt < fc.toInt ∧ 0 ≤ ru.toInt ∧ ru.toInt ≤ 3 → r1 = e) ∧ (¬ (fc.toInt ≠ 0 ∧ 0 ≤ f.toInt ∧ f.toInt < fc.toInt ∧ 0 ≤ ru.toInt ∧ ru.toInt ≤ 3) → r1.toInt = -1)) {P : Prop} (h2 : (iz.toInt ≠ 0 ∧ 0 ≤ f.toInt ∧ f.toInt < nf.toInt ∧ 0 ≤ ru.toInt ∧ ru.toInt ≤ 3 → P ∧ r2 = e) ∧ (¬ (iz.toInt ≠ 0 ∧ 0 ≤ f.toInt ∧ f.toInt < nf.toInt ∧ 0 ≤ ru.toInt ∧ ru.toInt ≤ 3) → r2.toInt = -1)) (hd : (iz.toInt = 0 ∧ fc.toInt = 0) ∨ (iz.toInt ≠ 0 ∧ fc.toInt = (n : Int) ∧ 0 < fc.toInt)) (hn : iz.toInt ≠ 0 → nf.toInt = (n : Int)) : r1 = r2 := by
  by_cases c : fc.toInt ≠ 0 ∧ 0 ≤ f.toInt ∧ f.toInt < fc.toInt ∧ 0 ≤ ru.toInt ∧ ru.toInt ≤ 3
  · rcases hd with ⟨g1, g2⟩ | ⟨g1, g2, g3⟩
    · exact absurd g2 c.1
    · have := hn g1
      exact (h1.1 c).trans (h2.1 ⟨g1, c.2.1, by omega, c.2.2.2⟩).2.symm
  · refine Int32.toInt_inj.mp ((h1.2 c).trans (h2.2 (fun g => c ?_)).symm)
    rcases hd with ⟨g1, -⟩ | ⟨g1, g2, g3⟩
    · exact absurd g1 g.1
    · have := hn g1
      exact ⟨by omega, g.2.1, by omega, g.2.2.2⟩
/-- the spare's rows of places, its Functions named otherwise -/
theorem zPD.cg {Γ : Nat → Option Nat} {F : Nat → va_E} {pr : Nat} {fa fb : Nat → Nat} (h : zPD Γ F fa) (h1 : zPS Γ F pr fa) (h2 : zPS Γ F pr fb) : zPD Γ F fb := by
  obtain ⟨ar, k, -, g, -⟩ := h1
  obtain ⟨ar', k', -, g', -⟩ := h2
  cases Value.ref.inj (k.symm.trans k')
  have e : ∀ f, f < 10 → fa f = fb f := fun f hf9 => Option.some.inj ((g f hf9).1.symm.trans (g' f hf9).1)
  obtain ⟨pa, q1, q2⟩ := h
  exact ⟨pa, fun f hf9 => by rw [← e f hf9]; exact q1 f hf9, q2⟩
theorem zRv.sp {Γ : Nat → Option Nat} {F : Nat → va_E} {th mo pn sn pr : Nat} {fa fb fb' la : Nat → Nat} {fc iz : Int32} (h : zRv Γ F th mo pn sn pr fa fb la fc iz) (h2 : zPS Γ F sn fb') : zRv Γ F th mo pn sn pr fa fb' la fc iz :=
  ⟨h.1, h.2.1, ⟨h.2.2.1.1, h2, h.2.2.1.2.2.1, h.2.2.1.2.2.2.1.cg h.2.2.1.2.1 h2, h.2.2.1.2.2.2.2⟩, h.2.2.2⟩
