/-! The class's functions, their first acts and places; its calls, joined. -/
/-- the rows of places: each Function has its own -/
def zPD (Γ : Nat → Option Nat) (F : Nat → va_E) (fa : Nat → Nat) : Prop := ∃ pa : Nat → Nat, (∀ f, f < 10 → zfld F (fa f) 8 = .ref (pa f) ∧ Γ (pa f) = some 103) ∧ ∀ f g, f < 10 → g < 10 → pa f = pa g → f = g
theorem zPD.fr {Γ : Nat → Option Nat} {M : List Nat} {F u : Nat → va_E} {fa : Nat → Nat} (h : zPD Γ F fa) (hf : zFr Γ M F u) (ht : ∀ f, f < 10 → Γ (fa f) = some 2) (hM : 208 ∉ M) : zPD Γ u fa := by
  obtain ⟨pa, h1, h2⟩ := h
  exact ⟨pa, fun f h => ⟨hf.f (ht f h) 8 ⟨by decide, hM⟩ (h1 f h).1, (h1 f h).2⟩, h2⟩
/-- all rows of places but one stand -/
def zOtA (Γ : Nat → Option Nat) (F u : Nat → va_E) (pa : Nat) : Prop := ∀ a, Γ a = some 103 → a ≠ pa → ∀ i, zel u a i = zel F a i
theorem zOtA.rf {Γ : Nat → Option Nat} {F : Nat → va_E} {pa : Nat} : zOtA Γ F F pa := fun _ _ _ _ => rfl
theorem zOtA.trans {Γ : Nat → Option Nat} {F u v : Nat → va_E} {pa : Nat} (h : zOtA Γ F u pa) (g : zOtA Γ u v pa) : zOtA Γ F v pa := fun a h1 h2 i => (g a h1 h2 i).trans (h a h1 h2 i)
theorem zOtA.fr {Γ : Nat → Option Nat} {M : List Nat} {F u v : Nat → va_E} {pa : Nat} (h : zOtA Γ F u pa) (hf : zFr Γ M u v) (hM : 10300 ∉ M) : zOtA Γ F v pa := fun a h1 h2 i => (congrFun (hf.elf h1 ⟨by decide, hM⟩) i).trans (h a h1 h2 i)
theorem zOtA.put {Γ : Nat → Option Nat} {F u v : Nat → va_E} {pa n : Nat} (h : zOtA Γ F u pa) (g : ∀ b j : Nat, (b ≠ pa ∨ j ≠ n) → zel v b j = zel u b j) : zOtA Γ F v pa := fun a h1 h2 i => (g a i (Or.inl h2)).trans (h a h1 h2 i)
/-- the first act of the function that is read -/
def zFx (F : Nat → va_E) (fu : Nat) (σ : zSg) : Prop := ∃ y : Int32, zfld F fu 5 = .int y ∧ ∀ i d, σ = .inl (i, d) → y.toInt = (zfa d (zfc d) : Int)
theorem zFx.fr {Γ : Nat → Option Nat} {M : List Nat} {F u : Nat → va_E} {fu : Nat} {σ : zSg} (h : zFx F fu σ) (hf : zFr Γ M F u) (hp : Γ fu = some 2) (hM : 205 ∉ M) : zFx u fu σ := by
  obtain ⟨y, h1, h2⟩ := h
  exact ⟨y, hf.f hp 5 ⟨by decide, hM⟩ h1, h2⟩
theorem zFx.st {F : Nat → va_E} {fu : Nat} {σ σ1 : zSg} (h : zFx F fu σ) (hs : ∀ j d', σ1 = .inl (j, d') → ∃ i d, σ = .inl (i, d) ∧ zfxR d d') : zFx F fu σ1 := by
  obtain ⟨y, h1, h2⟩ := h
  refine ⟨y, h1, fun j d' e => ?_⟩
  obtain ⟨i, d, e1, g1, g2⟩ := hs j d' e
  rw [g1, g2]
  exact h2 i d e1
theorem zFx.sm {F : Nat → va_E} {fu : Nat} {σ σ1 : zSg} (h : zFx F fu σ) (hs : zsm σ σ1) : zFx F fu σ1 := h.st (fun j d' e => by
  obtain ⟨i, e1, -⟩ := hs j d' e
  exact ⟨i, d', e1, rfl, rfl⟩)
theorem zFx.new {F : Nat → va_E} {fu : Nat} {σ : zSg} {y : Int32} (k : zfld F fu 5 = .int y) (hy : ∀ i d, σ = .inl (i, d) → y.toInt = (zac d : Int)) : zFx F fu (zadv (zmap (fun i d => zaddb d i) σ)) := ⟨y, k, fun j d' e => by
  obtain ⟨i, d, e1, -, e3⟩ := zadm e
  rw [e3, za_zfa_addb, za_zfc_addb, zup_self]
  exact hy i d e1⟩
/-- the Functions' first acts and places -/
def zC5 (Γ : Nat → Option Nat) (F : Nat → va_E) (fa : Nat → Nat) (σ : zSg) : Prop := ∀ i d, σ = .inl (i, d) → ∀ f, f < zfc d → (∃ y : Int32, zfld F (fa f) 5 = .int y ∧ y.toInt = (zfa d f : Int)) ∧ zAd Γ F (fa f) 8 103 ∧ ∀ j, j < zpc d f → (zar F (fa f) 8 j).toInt = zpl d f j
theorem zC5.sm {Γ : Nat → Option Nat} {F : Nat → va_E} {fa : Nat → Nat} {σ σ1 : zSg} (h : zC5 Γ F fa σ) (hs : zsm σ σ1) : zC5 Γ F fa σ1 := fun j d' e => by
  obtain ⟨i, e1, -⟩ := hs j d' e
  exact h i d' e1
theorem zC5.fr {Γ : Nat → Option Nat} {M : List Nat} {F u : Nat → va_E} {pr : Nat} {fa : Nat → Nat} {σ : zSg} (h : zC5 Γ F fa σ) (hf : zFr Γ M F u) (h3 : zPS Γ F pr fa ∧ ∀ i d, σ = .inl (i, d) → zfc d ≤ 10) (hM : 205 ∉ M ∧ 208 ∉ M ∧ 10300 ∉ M) : zC5 Γ u fa σ := fun i d e f hfc => by
  obtain ⟨⟨y, a1, a2⟩, a3, a4⟩ := h i d e f hfc
  have g := h3.1.ty (f := f) (by have := h3.2 i d e; omega)
  refine ⟨⟨y, hf.f g 5 ⟨by decide, hM.1⟩ a1, a2⟩, a3.fr hf g ⟨by decide, hM.2.1⟩, fun j hj => ?_⟩
  rw [a3.ar hf g ⟨by decide, hM.2.1⟩ ⟨by decide, hM.2.2⟩]
  exact a4 j hj
theorem zC5.add {Γ : Nat → Option Nat} {F u : Nat → va_E} {pr fu pl N : Nat} {fa : Nat → Nat} {T : zTS} {σ σb : zSg} {x : Int32} (h : zC5 Γ F fa σ) (hd : zPD Γ F fa) (h3 : zC3 Γ F pr fa T N σ) (kx : zfld F pr 4 = .int x) (hx : 0 ≤ x.toInt ∧ x.toInt < 10) (hfu : fu = fa x.toInt.toNat) (kpl : zfld F fu 8 = .ref pl) (ho : zOth Γ F u fu) (hA : zOtA Γ F u pl) (hfx : zFx u fu σb) (hpl : zPl Γ u fu σb) (hog : ∀ j d', σb = .inl (j, d') → ∃ i d, σ = .inl (i, d) ∧ zogR d d') (hc : zsC σ σb) : zC5 Γ u fa (zmap (fun i d => zaddf d i) σb) := fun j d9 e f hf => by
  obtain ⟨d', e1, e2⟩ := zmapm e
  obtain ⟨i, d, e3, e4⟩ := hog j d' e1
  obtain ⟨i', d0, e5, e6⟩ := hc j d' e1
  cases e3.symm.trans e5
  obtain ⟨hk, h10⟩ := h3.k kx i d e3
  rw [e2, za_zfc_addf] at hf
  rw [e2, za_zfa_addf, za_zpc_addf, za_zpl_addf]
  have efu : fa (zfc d) = fu := by rw [hfu, show x.toInt.toNat = zfc d by omega]
  by_cases c : f = zfc d
  · subst c
    obtain ⟨y, k1, k2⟩ := hfx
    have k2 := k2 j d' e1
    obtain ⟨q1, q2⟩ := hpl
    obtain ⟨-, q3⟩ := q2 j d' e1
    rw [e6] at k2 q3
    rw [efu]
    exact ⟨⟨y, k1, k2⟩, q1, q3⟩
  · have hf2 : f < zfc d := by omega
    obtain ⟨g1, g2, g3⟩ := e4.2 f hf2
    obtain ⟨⟨y, a1, a2⟩, ⟨b, b1, b2⟩, a4⟩ := h i d e3 f hf2
    have ty := h3.1.1.ty (f := f) (by omega)
    have hne : fa f ≠ fu := fun h9 => by
      obtain ⟨ar, -, -, -, q4⟩ := h3.1.1
      have := q4 f (zfc d) (by omega) (by omega) (h9.trans efu.symm)
      omega
    have hb : zfld u (fa f) 8 = .ref b := (ho _ 8 ty hne (by decide)).trans b1
    have hnb : b ≠ pl := fun h9 => by
      obtain ⟨pa, p1, p2⟩ := hd
      have m1 := (p1 f (by omega)).1
      have m2 := (p1 (zfc d) (by omega)).1
      rw [efu] at m2
      have m3 := Value.ref.inj (m1.symm.trans b1)
      have m4 := Value.ref.inj (m2.symm.trans kpl)
      have := p2 f (zfc d) (by omega) (by omega) (by rw [m3, m4, h9])
      omega
    rw [g1, g2, g3]
    refine ⟨⟨y, (ho _ 5 ty hne (by decide)).trans a1, a2⟩, ⟨b, hb, b2⟩, fun q hq => ?_⟩
    have a5 := a4 q hq
    rw [zar_eq b1] at a5
    rw [zar_eq hb, hA b b2 hnb q]
    exact a5
/-- an act's number, the calls joined -/
def zKn (T : zTS) (V : Nat → Int) (d : zDat) (q : Nat) : Int := if (zaf d q).1 = 9 then zfi (zfind T.2.2 (znm d) (T.2.2 (zaf d q).2.1) (zfc d)) else znu T V d q
/-- the calls joined so far -/
def zJa (F u : Nat → va_E) (th co : Nat) (T : zTS) (V : Nat → Int) (d : zDat) (i : Int) : Prop := ∀ p, p < zac d → ((∃ q : Nat, (q : Int) < i ∧ (zar F th 9 q).toInt = (p : Int)) → (zar u co 1 p).toInt = zKn T V d p) ∧ ((¬ ∃ q : Nat, (q : Int) < i ∧ (zar F th 9 q).toInt = (p : Int)) → zar u co 1 p = zar F co 1 p)
theorem zJa.st {F u : Nat → va_E} {th co : Nat} {T : zTS} {V : Nat → Int} {d : zDat} {i : Int} (hi : i = 0) (e : zar u co 1 = zar F co 1) : zJa F u th co T V d i := fun p hp => ⟨fun ⟨q, h1, _⟩ => by omega, fun _ => by rw [e]⟩
theorem zJa.cg {F u v : Nat → va_E} {th co : Nat} {T : zTS} {V : Nat → Int} {d : zDat} {i : Int} (h : zJa F u th co T V d i) (e : zar v co 1 = zar u co 1) : zJa F v th co T V d i := fun p hp => by
  rw [e]
  exact h p hp
theorem zJa.add {F u v : Nat → va_E} {th co n : Nat} {T : zTS} {V : Nat → Int} {d : zDat} {i j : Int} {x7 x9 y : Int32} (h : zJa F u th co T V d i) (hn : (n : Int) = i) (hj : j = i + 1) (e9 : zar F th 9 n = x9) (e7 : zar F th 7 n = x7) (hc : ∃ p : Nat, (zar F th 9 n).toInt = (p : Int) ∧ p < zac d ∧ (zaf d p).1 = 9 ∧ ((zaf d p).2.1 : Int) = (zar F th 7 n).toInt) (hy : y.toInt = zfi (zfind T.2.2 (znm d) (T.2.2 x7.toInt.toNat) (zfc d))) (sz : Int32) (hs : sz.toInt = (zac d : Int)) (e : 0 ≤ x9.toInt ∧ x9.toInt < sz.toInt → zar v co 1 = upd (zar u co 1) x9.toNatClampNeg y) : zJa F v th co T V d j := fun p hp => by
  obtain ⟨p0, c1, c2, c3, c4⟩ := hc
  rw [e9] at c1
  rw [e7] at c4
  have e := e ⟨by omega, by omega⟩
  have hz : x9.toNatClampNeg = p0 := by rw [Int32.toNatClampNeg]; omega
  rw [hz] at e
  rw [e]
  by_cases c : p = p0
  · subst c
    rw [show upd (zar u co 1) p y p = y from if_pos rfl]
    refine ⟨fun _ => ?_, fun h9 => absurd ⟨n, by omega, by rw [e9]; exact c1⟩ h9⟩
    unfold zKn
    rw [if_pos c3, hy, show x7.toInt.toNat = (zaf d p).2.1 by omega]
  · rw [show upd (zar u co 1) p0 y p = zar u co 1 p from if_neg c]
    obtain ⟨h1, h2⟩ := h p hp
    refine ⟨fun ⟨q, g1, g2⟩ => h1 ⟨q, ?_, g2⟩, fun h9 => h2 (fun ⟨q, g1, g2⟩ => h9 ⟨q, by omega, g2⟩)⟩
    apply Classical.byContradiction
    intro h9
    have : q = n := by omega
    subst this
    rw [e9] at g2
    omega
theorem zJa.end {Γ : Nat → Option Nat} {F u : Nat → va_E} {th co k : Nat} {T : zTS} {V : Nat → Int} {d : zDat} {i : Int} (h : zJa F u th co T V d i) (hx : zCx Γ F co T V (.inl (k, d))) (h1 : ∀ q : Nat, (q : Int) < i → ∃ p : Nat, (zar F th 9 q).toInt = (p : Int) ∧ p < zac d ∧ (zaf d p).1 = 9 ∧ ((zaf d p).2.1 : Int) = (zar F th 7 q).toInt) (h2 : ∀ p, p < zac d → (zaf d p).1 = 9 → ∃ q : Nat, (q : Int) < i ∧ (zar F th 9 q).toInt = (p : Int)) : ∀ p, p < zac d → (zar u co 1 p).toInt = zKn T V d p := fun p hp => by
  by_cases c : (zaf d p).1 = 9
  · exact (h p hp).1 (h2 p hp c)
  · rw [(h p hp).2 (fun ⟨q, g1, g2⟩ => by
      obtain ⟨p', b1, b2, b3, b4⟩ := h1 q g1
      rw [show p' = p by omega] at b3
      exact c b3)]
    unfold zKn
    rw [if_neg c]
    exact ((hx.2 k d rfl).2 p hp).2.1
/-- the class's code and what a call asks of its functions -/
def zRK (Γ : Nat → Option Nat) (F : Nat → va_E) (pr : Nat) (fa : Nat → Nat) (T : zTS) (V : Nat → Int) (d : zDat) : Prop := (∃ co, zfld F pr 1 = .ref co ∧ Γ co = some 1 ∧ zCA Γ F co ∧ (∃ s : Int32, zfld F co 3 = .int s ∧ s.toInt = (zac d : Int)) ∧ ∀ q, q < zac d → (zar F co 0 q).toInt = ((zaf d q).1 : Int) ∧ (zar F co 1 q).toInt = zKn T V d q ∧ (zar F co 2 q).toInt = ((zaf d q).2.2 : Int)) ∧ ∀ f, f < zfc d → (∃ y : Int32, zfld F (fa f) 5 = .int y ∧ y.toInt = (zfa d f : Int)) ∧ zAd Γ F (fa f) 8 103 ∧ ∀ j, j < zpc d f → (zar F (fa f) 8 j).toInt = zpl d f j
theorem zRK.mk {Γ : Nat → Option Nat} {M M1 : List Nat} {F u v : Nat → va_E} {pr co k : Nat} {fa : Nat → Nat} {T : zTS} {V : Nat → Int} {d : zDat} (hx : zCx Γ F co T V (.inl (k, d))) (hf : zFr Γ M F u) (hf1 : zFr Γ M1 u v) (hc : Γ co = some 1) (hM : (100 ∉ M ∧ 101 ∉ M ∧ 102 ∉ M) ∧ 103 ∉ M ∧ 10200 ∉ M ∧ 15900 ∉ M) (hM1 : (100 ∉ M1 ∧ 101 ∉ M1 ∧ 102 ∉ M1) ∧ 103 ∉ M1 ∧ 10200 ∉ M1 ∧ 15800 ∉ M1 ∧ 15900 ∉ M1) (hk : ∀ p, p < zac d → (zar u co 1 p).toInt = zKn T V d p) (kc : zfld v pr 1 = .ref co) (h5 : zC5 Γ v fa (.inl (k, d))) : zRK Γ v pr fa T V d := by
  refine ⟨⟨co, kc, hc, (hx.1.fr hf hc hM.1).fr hf1 hc hM1.1, ?_, fun q hq => ?_⟩, fun f hf9 => h5 k d rfl f hf9⟩
  · obtain ⟨⟨s, h1, h2⟩, -⟩ := hx.2 k d rfl
    exact ⟨s, hf1.f hc 3 ⟨by decide, hM1.2.1⟩ (hf.f hc 3 ⟨by decide, hM.2.1⟩ h1), h2⟩
  · obtain ⟨a0, -, a2⟩ := (hx.2 k d rfl).2 q hq
    have b := hx.1.fr hf hc hM.1
    rw [b.1.ar hf1 hc ⟨by decide, hM1.1.1⟩ ⟨by decide, hM1.2.2.1⟩, b.2.1.ar hf1 hc ⟨by decide, hM1.1.2.1⟩ ⟨by decide, hM1.2.2.2.1⟩, b.2.2.ar hf1 hc ⟨by decide, hM1.1.2.2⟩ ⟨by decide, hM1.2.2.2.2⟩, hx.1.1.ar hf hc ⟨by decide, hM.1.1⟩ ⟨by decide, hM.2.2.1⟩, hx.1.2.2.ar hf hc ⟨by decide, hM.1.2.2⟩ ⟨by decide, hM.2.2.2⟩]
    exact ⟨a0, hk q hq, a2⟩
