/-! The names that a Program holds, by its own table of tokens. -/
def zNa (F : Nat → va_E) (fa : Nat → Nat) (B : Nat → Int32) (n N : Nat) (fc : Int) (nw : Nat → Int) : Prop := ∀ f : Nat, (f : Int) < fc → ∃ y : Int32, zfld F (fa f) 0 = .int y ∧ (0 ≤ y.toInt ∧ y.toInt < N) ∧ (zTo B n).1 y.toInt.toNat = 4 ∧ (zTo B n).2.2 y.toInt.toNat = nw f
def zNp (Γ : Nat → Option Nat) (F : Nat → va_E) (pr tk : Nat) (fa : Nat → Nat) (B : Nat → Int32) (n N : Nat) (fc : Int) (nw : Nat → Int) : Prop := zfld F pr 0 = .ref tk ∧ Γ tk = some 8 ∧ zTb Γ F tk B n N ∧ zPS Γ F pr fa ∧ zNa F fa B n N fc nw
theorem zNa.mv {F u : Nat → va_E} {fa : Nat → Nat} {B : Nat → Int32} {n N : Nat} {fc : Int} {nw : Nat → Int} (h : zNa F fa B n N fc nw) (hc : ∀ f : Nat, (f : Int) < fc → zfld u (fa f) 0 = zfld F (fa f) 0) : zNa u fa B n N fc nw := fun f hf => by
  obtain ⟨y, h1, h2⟩ := h f hf
  exact ⟨y, (hc f hf).trans h1, h2⟩
def zNpM (M : List Nat) : Prop := (600 ∉ M ∧ 602 ∉ M ∧ 10400 ∉ M) ∧ 200 ∉ M ∧ (800 ∉ M ∧ 801 ∉ M ∧ 15700 ∉ M) ∧ ((802 ∉ M ∧ 803 ∉ M ∧ 804 ∉ M) ∧ 10100 ∉ M ∧ 15500 ∉ M ∧ 15600 ∉ M) ∧ 805 ∉ M
theorem zNp.fr {Γ : Nat → Option Nat} {M : List Nat} {F u : Nat → va_E} {pr tk : Nat} {fa : Nat → Nat} {B : Nat → Int32} {n N : Nat} {fc : Int} {nw : Nat → Int} (h : zNp Γ F pr tk fa B n N fc nw) (hf : zFr Γ M F u) (hpr : Γ pr = some 6) (h10 : fc ≤ 10) (hM : zNpM M) : zNp Γ u pr tk fa B n N fc nw := by
  obtain ⟨h1, h2, h3, h4, h5⟩ := h
  exact ⟨hf.f hpr 0 ⟨by decide, hM.1.1⟩ h1, h2, h3.fr hf h2 hM.2.2, h4.fr hf hpr hM.1.2, h5.mv (fun f hf9 => (hf.1 _ 2 (h4.ty (by omega))).1 (by decide) 0 hM.2.1)⟩
theorem zSm.a {Γ : Nat → Option Nat} {X : List Nat} {F u : Nat → va_E} {a t : Nat} (h : zSm Γ X F u) (ha : a ∈ X) (e : Γ a = some t) (ht : 100 ≤ t) : u a = F a := (h a ha t e).2 ht
theorem zSm.ad {Γ : Nat → Option Nat} {X : List Nat} {F u : Nat → va_E} {a j b c t : Nat} (h : zSm Γ X F u) (ha : a ∈ X) (e : Γ a = some t) (hj : t < 100 ∧ j < 100) (hb : zfld F a j = .ref b) (hbX : b ∈ X) (hc : Γ b = some c) (h1 : 100 ≤ c) : zar u a j = zar F a j := by
  rw [zar_eq hb, zar_eq (h.f ha e j hj hb)]
  unfold zel
  rw [h.a hbX hc h1]
/-- what a closed family holds beside an object -/
theorem zCv.in {Γ : Nat → Option Nat} {F : Nat → va_E} {X : List Nat} {a j b t : Nat} {q : Nat × Int × Int} (h : zCv Γ F X) (ha : a ∈ X) (e : Γ a = some t) (ht : t < 100) (hq : (zsp t)[j]? = some q) (hk : q.1 = 2 ∨ q.1 = 3) (hb : zfld F a j = .ref b) : b ∈ X := by
  obtain ⟨t', -, e', h1, -⟩ := h a ha
  cases Option.some.inj (e.symm.trans e')
  exact h1 ht j q b hq hk hb
theorem zTb.sm {Γ : Nat → Option Nat} {X : List Nat} {F0 F u : Nat → va_E} {tk n N : Nat} {B : Nat → Int32} (h : zTb Γ F tk B n N) (hs : zSm Γ X F u) (hX : zCv Γ F X) (htX : tk ∈ X) (ht : Γ tk = some 8) : zTb Γ u tk B n N := by
  obtain ⟨⟨⟨b0, k0, g0⟩, ⟨ln, k1, l1⟩, l6, hB⟩, ⟨⟨b2, k2, g2⟩, ⟨b3, k3, g3⟩, ⟨b4, k4, g4⟩⟩, ⟨sz, k5, s5⟩, h5, h6⟩ := h
  have i0 := hX.in htX ht (by decide) (j := 0) rfl (by decide) k0
  have i2 := hX.in htX ht (by decide) (j := 2) rfl (by decide) k2
  have i3 := hX.in htX ht (by decide) (j := 3) rfl (by decide) k3
  have i4 := hX.in htX ht (by decide) (j := 4) rfl (by decide) k4
  refine ⟨⟨⟨b0, hs.f htX ht 0 ⟨by decide, by decide⟩ k0, g0⟩, ⟨ln, hs.f htX ht 1 ⟨by decide, by decide⟩ k1, l1⟩, l6, fun i hi => ?_⟩, ⟨⟨b2, hs.f htX ht 2 ⟨by decide, by decide⟩ k2, g2⟩, ⟨b3, hs.f htX ht 3 ⟨by decide, by decide⟩ k3, g3⟩, ⟨b4, hs.f htX ht 4 ⟨by decide, by decide⟩ k4, g4⟩⟩, ⟨sz, hs.f htX ht 5 ⟨by decide, by decide⟩ k5, s5⟩, h5, fun t ht9 => ?_⟩
  · rw [hs.ad htX ht ⟨by decide, by decide⟩ k0 i0 g0 (by decide)]
    exact hB i hi
  · rw [hs.ad htX ht ⟨by decide, by decide⟩ k2 i2 g2 (by decide), hs.ad htX ht ⟨by decide, by decide⟩ k3 i3 g3 (by decide), hs.ad htX ht ⟨by decide, by decide⟩ k4 i4 g4 (by decide)]
    exact h6 t ht9
theorem zPS.sm {Γ : Nat → Option Nat} {X : List Nat} {F u : Nat → va_E} {pr : Nat} {fa : Nat → Nat} (h : zPS Γ F pr fa) (hs : zSm Γ X F u) (hX : zCv Γ F X) (hpX : pr ∈ X) (hp : Γ pr = some 6) : zPS Γ u pr fa ∧ ∀ f, f < 10 → fa f ∈ X := by
  obtain ⟨ar, k, ha, hf, hd⟩ := h
  have ia := hX.in hpX hp (by decide) (j := 2) rfl (by decide) k
  have ea := hs.a ia ha (by decide)
  refine ⟨⟨ar, hs.f hpX hp 2 ⟨by decide, by decide⟩ k, ha, fun f hf9 => ⟨?_, (hf f hf9).2⟩, hd⟩, fun f hf9 => ?_⟩
  · have h9 := (hf f hf9).1
    unfold zre at h9 ⊢
    rw [ea]
    exact h9
  · obtain ⟨t', -, e', -, q2⟩ := hX ar ia
    cases Option.some.inj (ha.symm.trans e')
    exact q2 (by decide) (by decide) f (fa f) hf9 (hf f hf9).1
theorem zNp.sm {Γ : Nat → Option Nat} {X : List Nat} {F u : Nat → va_E} {pr tk : Nat} {fa : Nat → Nat} {B : Nat → Int32} {n N : Nat} {fc : Int} {nw : Nat → Int} (h : zNp Γ F pr tk fa B n N fc nw) (hs : zSm Γ X F u) (hX : zFc Γ F X pr) (h10 : fc ≤ 10) : zNp Γ u pr tk fa B n N fc nw := by
  obtain ⟨h1, h2, h3, h4, h5⟩ := h
  obtain ⟨p1, p2⟩ := h4.sm hs hX.2.2 hX.1 hX.2.1
  have it := hX.2.2.in hX.1 hX.2.1 (by decide) (j := 0) rfl (by decide) h1
  exact ⟨hs.f hX.1 hX.2.1 0 ⟨by decide, by decide⟩ h1, h2, h3.sm (F0 := F) hs hX.2.2 it h2, p1, h5.mv (fun f hf9 => (hs (fa f) (p2 f (by omega)) 2 (h4.ty (by omega))).1 (by decide) 0 (by decide))⟩
/-- the table of a text that was read, and its names -/
def zTn (Γ : Nat → Option Nat) (F : Nat → va_E) (pr : Nat) (B : Nat → Int32) (n : Nat) (d : zDat) : Prop := ∃ tk N : Nat, zfld F pr 0 = .ref tk ∧ Γ tk = some 8 ∧ zTb Γ F tk B n N ∧ ∀ f, f < zfc d → (zTo B n).1 (znm d f) = 4 ∧ znm d f < N
theorem zTb.vo {Γ : Nat → Option Nat} {X : List Nat} {F : Nat → va_E} {tk n N : Nat} {B : Nat → Int32} (h : zTb (zVy Γ X) F tk B n N) : zTb Γ F tk B n N := by
  obtain ⟨⟨⟨b0, k0, g0⟩, h1⟩, ⟨⟨b2, k2, g2⟩, ⟨b3, k3, g3⟩, ⟨b4, k4, g4⟩⟩, h5⟩ := h
  exact ⟨⟨⟨b0, k0, (zVy.of g0).1⟩, h1⟩, ⟨⟨b2, k2, (zVy.of g2).1⟩, ⟨b3, k3, (zVy.of g3).1⟩, ⟨b4, k4, (zVy.of g4).1⟩⟩, h5⟩
theorem zTn.vo {Γ : Nat → Option Nat} {X : List Nat} {F : Nat → va_E} {pr n : Nat} {B : Nat → Int32} {d : zDat} (h : zTn (zVy Γ X) F pr B n d) : zTn Γ F pr B n d := by
  obtain ⟨tk, N, h1, h2, h3, h4⟩ := h
  exact ⟨tk, N, h1, (zVy.of h2).1, h3.vo, h4⟩
theorem zTn.fr {Γ : Nat → Option Nat} {M : List Nat} {F u : Nat → va_E} {pr n : Nat} {B : Nat → Int32} {d : zDat} (h : zTn Γ F pr B n d) (hf : zFr Γ M F u) (hpr : Γ pr = some 6) (hM : zNpM M) : zTn Γ u pr B n d := by
  obtain ⟨tk, N, h1, h2, h3, h4⟩ := h
  exact ⟨tk, N, hf.f hpr 0 ⟨by decide, hM.1.1⟩ h1, h2, h3.fr hf h2 hM.2.2, h4⟩
theorem zTn.np {Γ : Nat → Option Nat} {F : Nat → va_E} {pr n : Nat} {fa la : Nat → Nat} {B : Nat → Int32} {d : zDat} (h : zTn Γ F pr B n d) (hr : zRC F pr fa la (zTo B n) d) (hp : zPS Γ F pr fa) : ∃ tk N : Nat, zNp Γ F pr tk fa B n N (zfc d : Int) (fun f => (zTo B n).2.2 (znm d f)) := by
  obtain ⟨tk, N, h1, h2, h3, h4⟩ := h
  refine ⟨tk, N, h1, h2, h3, hp, fun f hf => ?_⟩
  obtain ⟨-, -, -, -, -, h9, -⟩ := hr
  obtain ⟨⟨y, k, e⟩, -⟩ := h9 f (by omega)
  have h8 := h4 f (by omega)
  have e9 : y.toInt.toNat = znm d f := by omega
  exact ⟨y, k, ⟨by omega, by omega⟩, by rw [e9]; exact h8.1, by rw [e9]⟩
/-- how many of the names b are none of the names a -/
noncomputable def zgn (fc : Int) (a b : Nat → Int) : Nat → Int
  | 0 => 0
  | g + 1 => zgn fc a b g + @ite _ (∃ f : Nat, (f : Int) < fc ∧ a f = b g) (Classical.propDecidable _) 0 1
theorem zgn_y {fc : Int} {a b : Nat → Int} {g : Nat} (h : ∃ f : Nat, (f : Int) < fc ∧ a f = b g) : zgn fc a b (g + 1) = zgn fc a b g := by
  show zgn fc a b g + @ite _ (∃ f : Nat, (f : Int) < fc ∧ a f = b g) (Classical.propDecidable _) 0 1 = _
  rw [if_pos h]
  omega
theorem zgn_n {fc : Int} {a b : Nat → Int} {g : Nat} (h : ∀ f : Nat, (f : Int) < fc → a f ≠ b g) : zgn fc a b (g + 1) = zgn fc a b g + 1 := by
  show zgn fc a b g + @ite _ (∃ f : Nat, (f : Int) < fc ∧ a f = b g) (Classical.propDecidable _) 0 1 = _
  rw [if_neg (fun ⟨f, h1, h2⟩ => h f h1 h2)]
theorem zgn_cg {fc : Int} {a a' b b' : Nat → Int} : ∀ {m : Nat}, (∀ f : Nat, (f : Int) < fc → a f = a' f) → (∀ g, g < m → b g = b' g) → zgn fc a b m = zgn fc a' b' m
  | 0, _, _ => rfl
  | m + 1, h1, h2 => by
    have ih := zgn_cg (m := m) h1 (fun g hg => h2 g (by omega))
    have e : (∃ f : Nat, (f : Int) < fc ∧ a f = b m) ↔ (∃ f : Nat, (f : Int) < fc ∧ a' f = b' m) := ⟨fun ⟨f, x, y⟩ => ⟨f, x, (h1 f x).symm.trans (y.trans (h2 m (by omega)))⟩, fun ⟨f, x, y⟩ => ⟨f, x, (h1 f x).trans (y.trans (h2 m (by omega)).symm)⟩⟩
    by_cases c : ∃ f : Nat, (f : Int) < fc ∧ a f = b m
    · rw [zgn_y c, zgn_y (e.mp c), ih]
    · rw [zgn_n (fun f x y => c ⟨f, x, y⟩), zgn_n (fun f x y => c (e.mpr ⟨f, x, y⟩)), ih]
theorem zgn_b (fc : Int) (a b : Nat → Int) : ∀ m : Nat, 0 ≤ zgn fc a b m ∧ zgn fc a b m ≤ m
  | 0 => ⟨Int.le_refl _, Int.le_refl _⟩
  | m + 1 => by
    have ih := zgn_b fc a b m
    by_cases c : ∃ f : Nat, (f : Int) < fc ∧ a f = b m
    · rw [zgn_y c]
      omega
    · rw [zgn_n (fun f x y => c ⟨f, x, y⟩)]
      omega
/-- what program leaves of the names and of what is gone -/
def zCg (Γ : Nat → Option Nat) (u : Nat → va_E) (gr sp : Nat) (B : Nat → Int32) (n : Nat) (d : zDat) (nb : Nat → Int) (m : Nat) : Prop := zTn Γ u sp B n d ∧ ∃ x : Int32, zfld u gr 2 = .int x ∧ x.toInt = zgn (zfc d : Int) (fun f => (zTo B n).2.2 (znm d f)) nb m
/-- a name's letters, by its number -/
theorem zname_zs {B : Nat → Int32} {n t : Nat} (h : (zTo B n).1 t = 4) : zwa B n (zpo B n t) = zsz ((zTo B n).2.2 t) ∧ ∀ i : Int, 0 ≤ i → i < zsz ((zTo B n).2.2 t) → zby B n (zpo B n t + i) = zdg ((zTo B n).2.2 t) i ∧ 97 ≤ zby B n (zpo B n t + i) := by
  obtain ⟨h1, h2⟩ := zname_t h
  have hk : 4 ≤ zka B n (zpo B n t) ∧ zka B n (zpo B n t) ≤ 10 := by
    have h' : zka B n (zpo B n t) = 4 := h
    omega
  obtain ⟨h3, h4, -⟩ := zka_lt (Or.inr hk)
  have hw := zword h3
  have e : zsz ((zTo B n).2.2 t) = ((zte B n (zpo B n t) - zpo B n t).toNat : Int) := zsz_I hw (by omega)
  refine ⟨by rw [e, h1]; omega, fun i h5 h6 => ?_⟩
  rw [e] at h6
  have h7 := hw i.toNat (by omega)
  have e7 : zpo B n t + ((i.toNat : Nat) : Int) = zpo B n t + i := by omega
  rw [e7] at h7
  exact ⟨(zdg_I hw (by omega) ⟨h5, h6⟩).symm, h7.1⟩
theorem zAd.sm {Γ : Nat → Option Nat} {X : List Nat} {F u : Nat → va_E} {a j c t : Nat} {q : Nat × Int × Int} (h : zAd Γ F a j c) (hs : zSm Γ X F u) (hX : zCv Γ F X) (ha : a ∈ X) (e : Γ a = some t) (ht : t < 100 ∧ j < 100) (hq : (zsp t)[j]? = some q) (hk : q.1 = 2 ∨ q.1 = 3) (hc : 100 ≤ c) : zAd Γ u a j c ∧ zar u a j = zar F a j := by
  obtain ⟨b, k, g⟩ := h
  have ib := hX.in ha e ht.1 hq hk k
  exact ⟨⟨b, hs.f ha e j ht k, g⟩, hs.ad ha e ht k ib g hc⟩
theorem zRK.sm {Γ : Nat → Option Nat} {X : List Nat} {F u : Nat → va_E} {pr : Nat} {fa : Nat → Nat} {T : zTS} {V : Nat → Int} {d : zDat} (h : zRK Γ F pr fa T V d) (hs : zSm Γ X F u) (hX : zFc Γ F X pr) (hps : zPS Γ F pr fa) (h10 : zfc d ≤ 10) : zRK Γ u pr fa T V d := by
  obtain ⟨⟨co, h1, h2, h3, ⟨s, h4, h4'⟩, h6⟩, h5⟩ := h
  have ico := hX.2.2.in hX.1 hX.2.1 (by decide) (j := 1) rfl (by decide) h1
  obtain ⟨c0, e0⟩ := h3.1.sm hs hX.2.2 ico h2 ⟨by decide, by decide⟩ (q := (2, 102, 0)) rfl (by decide) (by decide)
  obtain ⟨c1, e1⟩ := h3.2.1.sm hs hX.2.2 ico h2 ⟨by decide, by decide⟩ (q := (2, 158, 0)) rfl (by decide) (by decide)
  obtain ⟨c2, e2⟩ := h3.2.2.sm hs hX.2.2 ico h2 ⟨by decide, by decide⟩ (q := (2, 159, 0)) rfl (by decide) (by decide)
  have hin := (hps.sm hs hX.2.2 hX.1 hX.2.1).2
  refine ⟨⟨co, hs.f hX.1 hX.2.1 1 ⟨by decide, by decide⟩ h1, h2, ⟨c0, c1, c2⟩, ⟨s, hs.f ico h2 3 ⟨by decide, by decide⟩ h4, h4'⟩, fun q hq => ?_⟩, fun f hf9 => ?_⟩
  · rw [e0, e1, e2]
    exact h6 q hq
  · obtain ⟨⟨y, a1, a2⟩, a3, a4⟩ := h5 f hf9
    have g := hps.ty (f := f) (by omega)
    have ia := hin f (by omega)
    obtain ⟨b0, b1⟩ := a3.sm hs hX.2.2 ia g ⟨by decide, by decide⟩ (q := (2, 103, 0)) rfl (by decide) (by decide)
    refine ⟨⟨y, hs.f ia g 5 ⟨by decide, by decide⟩ a1, a2⟩, b0, fun j hj => ?_⟩
    rw [b1]
    exact a4 j hj
theorem zPD.sm {Γ : Nat → Option Nat} {X : List Nat} {F u : Nat → va_E} {pr : Nat} {fa : Nat → Nat} (h : zPD Γ F fa) (hs : zSm Γ X F u) (hX : zFc Γ F X pr) (hps : zPS Γ F pr fa) : zPD Γ u fa := by
  obtain ⟨pa, h1, h2⟩ := h
  have hin := (hps.sm hs hX.2.2 hX.1 hX.2.1).2
  exact ⟨pa, fun f hf => ⟨hs.f (hin f hf) (hps.ty hf) 8 ⟨by decide, by decide⟩ (h1 f hf).1, (h1 f hf).2⟩, h2⟩
