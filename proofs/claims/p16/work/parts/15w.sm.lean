/-! A family that stands still; what program leaves of the class. -/
def zSm (Γ : Nat → Option Nat) (X : List Nat) (F u : Nat → va_E) : Prop := ∀ a ∈ X, ∀ t, Γ a = some t → (t < 100 → ∀ j, j < 100 → zfld u a j = zfld F a j) ∧ (100 ≤ t → u a = F a)
theorem zSm.rf {Γ : Nat → Option Nat} {X : List Nat} {F : Nat → va_E} : zSm Γ X F F := fun _ _ _ _ => ⟨fun _ _ _ => rfl, fun _ => rfl⟩
theorem zSm.trans {Γ : Nat → Option Nat} {X : List Nat} {F u v : Nat → va_E} (h : zSm Γ X F u) (h' : zSm Γ X u v) : zSm Γ X F v := fun a ha t e => ⟨fun c j hj => ((h' a ha t e).1 c j hj).trans ((h a ha t e).1 c j hj), fun c => ((h' a ha t e).2 c).trans ((h a ha t e).2 c)⟩
theorem zSm.ofFr {Γ : Nat → Option Nat} {X M : List Nat} {F0 F u : Nat → va_E} (hX : zCv Γ F0 X) (hf : zFr Γ M F u) (hM : ∀ m ∈ M, m / 100 ∉ zS6) : zSm Γ X F u := fun a ha t e => by
  obtain ⟨t', ht, e', -⟩ := hX a ha
  cases Option.some.inj (e.symm.trans e')
  refine ⟨fun c j hj => (hf.1 a t e).1 c j (fun hm => hM _ hm ?_), fun c => (hf.1 a t e).2 c (fun hm => hM _ hm ?_)⟩
  · rw [show (100 * t + j) / 100 = t by omega]
    exact ht
  · rw [show 100 * t / 100 = t by omega]
    exact ht
theorem zSm.ofSt {Γ : Nat → Option Nat} {X Y : List Nat} {F0 F u : Nat → va_E} (hX : zCv Γ F0 X) (hd : ∀ a ∈ X, a ∉ Y) (h : ∀ a t, Γ a = some t → t ∈ zS6 → a ∉ Y → u a = F a) : zSm Γ X F u := fun a ha t e => by
  obtain ⟨t', ht, e', -⟩ := hX a ha
  cases Option.some.inj (e.symm.trans e')
  have e9 := h a t e ht (hd a ha)
  exact ⟨fun _ j _ => by unfold zfld; rw [e9], fun _ => e9⟩
theorem zSm.f {Γ : Nat → Option Nat} {X : List Nat} {F u : Nat → va_E} {a t : Nat} (h : zSm Γ X F u) (ha : a ∈ X) (e : Γ a = some t) (j : Nat) (hj : t < 100 ∧ j < 100) {v : Value} (hv : zfld F a j = v) : zfld u a j = v := ((h a ha t e).1 hj.1 j hj.2).trans hv
def zFc (Γ : Nat → Option Nat) (F : Nat → va_E) (X : List Nat) (pr : Nat) : Prop := pr ∈ X ∧ Γ pr = some 6 ∧ zCv Γ F X
def zF2 (Γ : Nat → Option Nat) (F : Nat → va_E) (pn sn : Nat) (Ln Ls : List Nat) : Prop := zFc Γ F Ln pn ∧ zFc Γ F Ls sn ∧ ∀ a ∈ Ln, a ∉ Ls
theorem zFc.fr {Γ : Nat → Option Nat} {M X : List Nat} {F u : Nat → va_E} {pr : Nat} (h : zFc Γ F X pr) (hf : zFr Γ M F u) (hM : ∀ m ∈ zR6, m ∉ M) : zFc Γ u X pr := ⟨h.1, h.2.1, h.2.2.fr hf hM⟩
theorem zF2.fr {Γ : Nat → Option Nat} {M : List Nat} {F u : Nat → va_E} {pn sn : Nat} {Ln Ls : List Nat} (h : zF2 Γ F pn sn Ln Ls) (hf : zFr Γ M F u) (hM : ∀ m ∈ zR6, m ∉ M) : zF2 Γ u pn sn Ln Ls := ⟨h.1.fr hf hM, h.2.1.fr hf hM, h.2.2⟩
theorem zF2.sw {Γ : Nat → Option Nat} {F : Nat → va_E} {pn sn : Nat} {Ln Ls : List Nat} (h : zF2 Γ F pn sn Ln Ls) : zF2 Γ F sn pn Ls Ln := ⟨h.2.1, h.1, fun a ha hb => h.2.2 a hb ha⟩
theorem zFc.mk0 {Γ : Nat → Option Nat} {k : Nat → ClassId} {L : List Nat} {F : Nat → va_E} {q : Nat} (hI : zInv Γ k L F) (hq : Γ q = some 6) : zFc Γ F (L.filter (fun a => z6 (Γ a))) q :=
  ⟨List.mem_filter.mpr ⟨(hI q _ hq).1, by show z6 (Γ q) = true; rw [hq]; rfl⟩, hq, zCv.mk0 hI⟩
theorem zFc.mv {Γ Γ' : Nat → Option Nat} {X : List Nat} {F F' : Nat → va_E} {pr : Nat} (h : zFc Γ F X pr) (hk : ∀ a ∈ X, Γ' a = Γ a ∧ F' a = F a) : zFc Γ' F' X pr := ⟨h.1, (hk _ h.1).1.trans h.2.1, h.2.2.mv hk⟩
theorem zFc.sub {Γ : Nat → Option Nat} {k : Nat → ClassId} {L X : List Nat} {F : Nat → va_E} {pr : Nat} (h : zFc Γ F X pr) (hI : zInv Γ k L F) : ∀ a ∈ X, a ∈ L := fun a ha => by
  obtain ⟨t, -, e, -⟩ := h.2.2 a ha
  exact (hI a t e).1
theorem zfld_e {F F' : Nat → va_E} {a j : Nat} {v : Value} (e : F' a = F a) (h : zfld F a j = v) : zfld F' a j = v := by
  unfold zfld at h ⊢
  rw [e]
  exact h
theorem zFc.no {Γ : Nat → Option Nat} {X : List Nat} {F : Nat → va_E} {pr h0 : Nat} (h : zFc Γ F X pr) (h0Γ : Γ h0 = none) : ∀ a ∈ X, a ≠ h0 := fun a ha e => by
  obtain ⟨t, -, e', -⟩ := h.2.2 a ha
  rw [e, h0Γ] at e'
  cases e'
theorem zF2.mv {Γ Γ' : Nat → Option Nat} {F F' : Nat → va_E} {pn sn : Nat} {Ln Ls : List Nat} (h : zF2 Γ F pn sn Ln Ls) (hk : ∀ a t, Γ a = some t → Γ' a = some t ∧ F' a = F a) : zF2 Γ' F' pn sn Ln Ls := by
  have g : ∀ {X : List Nat} {q : Nat}, zFc Γ F X q → ∀ a ∈ X, Γ' a = Γ a ∧ F' a = F a := fun hX a ha => by
    obtain ⟨t, -, e, -⟩ := hX.2.2 a ha
    exact ⟨(hk a t e).1.trans e.symm, (hk a t e).2⟩
  exact ⟨h.1.mv (g h.1), h.2.1.mv (g h.2.1), h.2.2⟩
theorem zPS.vs {Γ : Nat → Option Nat} {F : Nat → va_E} {pr : Nat} {fa : Nat → Nat} {Y : List Nat} (h : zPS Γ F pr fa) (hc : zCv Γ F Y) (hm : pr ∈ Y) (hpr : Γ pr = some 6) : zPS (zVy Γ Y) F pr fa := by
  obtain ⟨ar, k, ha, hf, hd⟩ := h
  obtain ⟨t, -, e, q1, -⟩ := hc pr hm
  cases Option.some.inj (hpr.symm.trans e)
  have har : ar ∈ Y := q1 (by decide) 2 (2, 104, 0) ar rfl (Or.inl rfl) k
  obtain ⟨t', -, e', -, q2⟩ := hc ar har
  cases Option.some.inj (ha.symm.trans e')
  exact ⟨ar, k, zVy.to ha (fun _ => har), fun f hf9 => ⟨(hf f hf9).1, zVy.to (hf f hf9).2 (fun _ => q2 (by decide) (by decide) f (fa f) hf9 (hf f hf9).1)⟩, hd⟩
theorem zLS.vs {Γ : Nat → Option Nat} {F : Nat → va_E} {pr : Nat} {la : Nat → Nat} {Y : List Nat} (h : zLS Γ F pr la) (hc : zCv Γ F Y) (hm : pr ∈ Y) (hpr : Γ pr = some 6) : zLS (zVy Γ Y) F pr la := by
  obtain ⟨ar, k, ha, hf, hd⟩ := h
  obtain ⟨t, -, e, q1, -⟩ := hc pr hm
  cases Option.some.inj (hpr.symm.trans e)
  have har : ar ∈ Y := q1 (by decide) 3 (2, 105, 0) ar rfl (Or.inl rfl) k
  obtain ⟨t', -, e', -, q2⟩ := hc ar har
  cases Option.some.inj (ha.symm.trans e')
  exact ⟨ar, k, zVy.to ha (fun _ => har), fun f hf9 => ⟨(hf f hf9).1, zVy.to (hf f hf9).2 (fun _ => q2 (by decide) (by decide) f (la f) hf9 (hf f hf9).1)⟩, hd⟩
def zCok (u : Nat → va_E) (th to ch pn sp : Nat) (fa la : Nat → Nat) (T : zTS) (d : zDat) : Prop := zfld u th 2 = .ref sp ∧ zfld u th 3 = .ref pn ∧ (∃ x : Int32, zfld u to 4 = .int x ∧ x.toInt = 0) ∧ (∃ x : Int32, zfld u ch 2 = .int x ∧ x.toInt = 0) ∧ zRC u sp fa la T d
def zCno (Γ : Nat → Option Nat) (F u : Nat → va_E) (th to ch pn sp : Nat) (Ln : List Nat) : Prop := zfld u th 2 = .ref pn ∧ zfld u th 3 = .ref sp ∧ zfld u to 4 = zfld F to 4 ∧ zfld u ch 2 = zfld F ch 2 ∧ zSm Γ Ln F u
/-! The rows of places, the code: in views, and where a family stands still. -/
theorem zPD.vs {Γ : Nat → Option Nat} {F : Nat → va_E} {pr : Nat} {fa : Nat → Nat} {Y : List Nat} (h : zPD Γ F fa) (hs : zPS Γ F pr fa) (hc : zCv Γ F Y) (hm : pr ∈ Y) (hpr : Γ pr = some 6) : zPD (zVy Γ Y) F fa := by
  obtain ⟨pa, h1, h2⟩ := h
  obtain ⟨ar, k, ha, hf, hd⟩ := hs
  obtain ⟨t, -, e, q1, -⟩ := hc pr hm
  cases Option.some.inj (hpr.symm.trans e)
  have har : ar ∈ Y := q1 (by decide) 2 (2, 104, 0) ar rfl (Or.inl rfl) k
  obtain ⟨t', -, e', -, q2⟩ := hc ar har
  cases Option.some.inj (ha.symm.trans e')
  refine ⟨pa, fun f hf9 => ⟨(h1 f hf9).1, zVy.to (h1 f hf9).2 (fun _ => ?_)⟩, h2⟩
  have hfa := q2 (by decide) (by decide) f (fa f) hf9 (hf f hf9).1
  obtain ⟨t2, -, e2, q3, -⟩ := hc (fa f) hfa
  cases Option.some.inj ((hf f hf9).2.symm.trans e2)
  exact q3 (by decide) 8 (2, 103, 0) (pa f) rfl (Or.inl rfl) (h1 f hf9).1
theorem zAd.vo {Γ : Nat → Option Nat} {X : List Nat} {F : Nat → va_E} {a j c : Nat} (h : zAd (zVy Γ X) F a j c) : zAd Γ F a j c := by
  obtain ⟨b, h1, h2⟩ := h
  exact ⟨b, h1, (zVy.of h2).1⟩
theorem zRK.vo {Γ : Nat → Option Nat} {X : List Nat} {F : Nat → va_E} {pr : Nat} {fa : Nat → Nat} {T : zTS} {V : Nat → Int} {d : zDat} (h : zRK (zVy Γ X) F pr fa T V d) : zRK Γ F pr fa T V d := by
  obtain ⟨⟨co, h1, h2, h3, h4⟩, h5⟩ := h
  exact ⟨⟨co, h1, (zVy.of h2).1, ⟨h3.1.vo, h3.2.1.vo, h3.2.2.vo⟩, h4⟩, fun f hf => ⟨(h5 f hf).1, (h5 f hf).2.1.vo, (h5 f hf).2.2⟩⟩
def zMK (M : List Nat) : Prop := 601 ∉ M ∧ ((100 ∉ M ∧ 101 ∉ M ∧ 102 ∉ M) ∧ 103 ∉ M ∧ 10200 ∉ M ∧ 15800 ∉ M ∧ 15900 ∉ M) ∧ 205 ∉ M ∧ 208 ∉ M ∧ 10300 ∉ M
theorem zRK.fr {Γ : Nat → Option Nat} {M : List Nat} {F u : Nat → va_E} {pr : Nat} {fa : Nat → Nat} {T : zTS} {V : Nat → Int} {d : zDat} (h : zRK Γ F pr fa T V d) (hf : zFr Γ M F u) (hp : Γ pr = some 6) (ht : ∀ f, f < zfc d → Γ (fa f) = some 2) (hM : zMK M) : zRK Γ u pr fa T V d := by
  obtain ⟨⟨co, h1, h2, h3, ⟨s, h4, h4'⟩, h6⟩, h5⟩ := h
  obtain ⟨m1, ⟨m2, m3, m4, m5, m6⟩, m7, m8, m9⟩ := hM
  refine ⟨⟨co, hf.f hp 1 ⟨by decide, m1⟩ h1, h2, h3.fr hf h2 m2, ⟨s, hf.f h2 3 ⟨by decide, m3⟩ h4, h4'⟩, fun q hq => ?_⟩, fun f hf9 => ?_⟩
  · rw [h3.1.ar hf h2 ⟨by decide, m2.1⟩ ⟨by decide, m4⟩, h3.2.1.ar hf h2 ⟨by decide, m2.2.1⟩ ⟨by decide, m5⟩, h3.2.2.ar hf h2 ⟨by decide, m2.2.2⟩ ⟨by decide, m6⟩]
    exact h6 q hq
  · obtain ⟨⟨y, a1, a2⟩, a3, a4⟩ := h5 f hf9
    have g := ht f hf9
    refine ⟨⟨y, hf.f g 5 ⟨by decide, m7⟩ a1, a2⟩, a3.fr hf g ⟨by decide, m8⟩, fun j hj => ?_⟩
    rw [a3.ar hf g ⟨by decide, m8⟩ ⟨by decide, m9⟩]
    exact a4 j hj
