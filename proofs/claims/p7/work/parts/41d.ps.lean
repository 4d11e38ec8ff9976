/-! The class's Programs: their Functions are ten different ones. -/
def zPa (Γ : Nat → Option Nat) (F : Nat → va_E) (ar : Nat) (fa : Nat → Nat) : Prop := Γ ar = some 104 ∧ (∀ f, f < 10 → zre F ar f = some (fa f) ∧ Γ (fa f) = some 2) ∧ ∀ f g, f < 10 → g < 10 → fa f = fa g → f = g
theorem zPa.mv {Γ Γ' : Nat → Option Nat} {F F' : Nat → va_E} {ar : Nat} {fa : Nat → Nat} (h : zPa Γ F ar fa) (hm : ∀ a t, Γ a = some t → Γ' a = some t ∧ F' a = F a) : zPa Γ' F' ar fa := by
  obtain ⟨h1, h2, h3⟩ := h
  refine ⟨(hm _ _ h1).1, fun f hf => ⟨?_, (hm _ _ (h2 f hf).2).1⟩, h3⟩
  have e := (hm _ _ h1).2
  unfold zre
  rw [e]
  exact (h2 f hf).1
theorem zPa.mk {Γ : Nat → Option Nat} {F : Nat → va_E} {ar : Nat} {kc : ClassId} {f : Nat → Option Nat} (hF : F ar = .inl (kc, 10, .inr (.inr (.inr (.inr f))))) (hg : Γ ar = some 104) (hf : ∀ j, j < 10 → ∃ b, f j = some b ∧ Γ b = some 2) (hd : ∀ i j, i < 10 → j < 10 → f i = f j → i = j) : ∃ fa, zPa Γ F ar fa := by
  refine ⟨fun j => (f j).getD 0, hg, fun j hj => ?_, fun i j hi hj e => ?_⟩
  · obtain ⟨b, h1, h2⟩ := hf j hj
    refine ⟨?_, ?_⟩
    · unfold zre
      rw [hF]
      show f j = some ((f j).getD 0)
      rw [h1]
      rfl
    · show Γ ((f j).getD 0) = some 2
      rw [h1]
      exact h2
  · obtain ⟨b, h1, -⟩ := hf i hi
    obtain ⟨b', h2, -⟩ := hf j hj
    have e : (f i).getD 0 = (f j).getD 0 := e
    rw [h1, h2] at e
    have e : b = b' := e
    exact hd i j hi hj (by rw [h1, h2, e])
theorem zPS.of {Γ : Nat → Option Nat} {F : Nat → va_E} {pr ar : Nat} {fa : Nat → Nat} (h : zPa Γ F ar fa) (k : zfld F pr 2 = .ref ar) : zPS Γ F pr fa := ⟨ar, k, h.1, h.2.1, h.2.2⟩
theorem zPS.mv {Γ Γ' : Nat → Option Nat} {F F' : Nat → va_E} {pr : Nat} {fa : Nat → Nat} (h : zPS Γ F pr fa) (hp : Γ pr = some 6) (hm : ∀ a t, Γ a = some t → Γ' a = some t ∧ F' a = F a) : zPS Γ' F' pr fa := by
  obtain ⟨ar, h1, h2⟩ := h
  have e : zfld F' pr 2 = zfld F pr 2 := by
    unfold zfld
    rw [(hm _ _ hp).2]
  exact zPS.of (zPa.mv (F := F) (Γ := Γ) ⟨h2.1, h2.2.1, h2.2.2⟩ hm) (e.trans h1)
def zPq (Γ : Nat → Option Nat) (F : Nat → va_E) (ar : Nat) (fa : Nat → Nat) : Prop := Γ ar = some 105 ∧ (∀ f, f < 60 → zre F ar f = some (fa f) ∧ Γ (fa f) = some 4) ∧ ∀ f g, f < 60 → g < 60 → fa f = fa g → f = g
theorem zPq.mv {Γ Γ' : Nat → Option Nat} {F F' : Nat → va_E} {ar : Nat} {fa : Nat → Nat} (h : zPq Γ F ar fa) (hm : ∀ a t, Γ a = some t → Γ' a = some t ∧ F' a = F a) : zPq Γ' F' ar fa := by
  obtain ⟨h1, h2, h3⟩ := h
  refine ⟨(hm _ _ h1).1, fun f hf => ⟨?_, (hm _ _ (h2 f hf).2).1⟩, h3⟩
  have e := (hm _ _ h1).2
  unfold zre
  rw [e]
  exact (h2 f hf).1
theorem zPq.mk {Γ : Nat → Option Nat} {F : Nat → va_E} {ar : Nat} {kc : ClassId} {f : Nat → Option Nat} (hF : F ar = .inl (kc, 60, .inr (.inr (.inr (.inr f))))) (hg : Γ ar = some 105) (hf : ∀ j, j < 60 → ∃ b, f j = some b ∧ Γ b = some 4) (hd : ∀ i j, i < 60 → j < 60 → f i = f j → i = j) : ∃ fa, zPq Γ F ar fa := by
  refine ⟨fun j => (f j).getD 0, hg, fun j hj => ?_, fun i j hi hj e => ?_⟩
  · obtain ⟨b, h1, h2⟩ := hf j hj
    refine ⟨?_, ?_⟩
    · unfold zre
      rw [hF]
      show f j = some ((f j).getD 0)
      rw [h1]
      rfl
    · show Γ ((f j).getD 0) = some 4
      rw [h1]
      exact h2
  · obtain ⟨b, h1, -⟩ := hf i hi
    obtain ⟨b', h2, -⟩ := hf j hj
    have e : (f i).getD 0 = (f j).getD 0 := e
    rw [h1, h2] at e
    have e : b = b' := e
    exact hd i j hi hj (by rw [h1, h2, e])
theorem zLS.of {Γ : Nat → Option Nat} {F : Nat → va_E} {pr ar : Nat} {la : Nat → Nat} (h : zPq Γ F ar la) (k : zfld F pr 3 = .ref ar) : zLS Γ F pr la := ⟨ar, k, h.1, h.2.1, h.2.2⟩
theorem zLS.mv {Γ Γ' : Nat → Option Nat} {F F' : Nat → va_E} {pr : Nat} {la : Nat → Nat} (h : zLS Γ F pr la) (hp : Γ pr = some 6) (hm : ∀ a t, Γ a = some t → Γ' a = some t ∧ F' a = F a) : zLS Γ' F' pr la := by
  obtain ⟨ar, h1, h2⟩ := h
  have e : zfld F' pr 3 = zfld F pr 3 := by
    unfold zfld
    rw [(hm _ _ hp).2]
  exact zLS.of (zPq.mv (F := F) (Γ := Γ) ⟨h2.1, h2.2.1, h2.2.2⟩ hm) (e.trans h1)
