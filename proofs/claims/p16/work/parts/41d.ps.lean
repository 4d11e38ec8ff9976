/-! The class's Programs: their Functions are ten different ones. -/
def zPa (Γ : Nat → Option Nat) (F : Nat → va_E) (ar : Nat) (fa : Nat → Nat) : Prop := Γ ar = some 104 ∧ (∀ f, f < 10 → zre F ar f = some (fa f) ∧ Γ (fa f) = some 2) ∧ ∀ f g, f < 10 → g < 10 → fa f = fa g → f = g
theorem zPa.mv {Γ Γ' : Nat → Option Nat} {F F' : Nat → va_E} {ar : Nat} {fa : Nat → Nat} (h : zPa Γ F ar fa) (hm : ∀ a t, Γ a = some t → Γ' a = some t ∧ F' a = F a) : zPa Γ' F' ar fa := by
  obtain ⟨h1, h2, h3⟩ := h
  refine ⟨(hm _ _ h1).1, fun f hf => ⟨?_, (hm _ _ (h2 f hf).2).1⟩, h3⟩
  have e := (hm _ _ h1).2
  unfold zre
  rw [e]
  exact (h2 f hf).1
theorem zPa.mk {Γ : Nat → Option Nat} {F : Nat → va_E} {ar : Nat} {kc : ClassId} {f : Nat → Option Nat} (hF : F ar = .inl (kc, 10, .inr (.inr (.inr (.inr f))))) (hg : Γ ar = some 104) (hf : ∀ j, j < 10 → ∃ b, f j = some b ∧ Γ b = some 2) (hd : ∀ i j, i < 10 → j < 10 → f i = f j → i = j) : ∃ fa, zPa Γ F ar fa := by
  refine ⟨fun j => (f j).getD 0, hg, fun j hj => ?_, fun i j hi hj e => ?_⟩
  · obtain ⟨b, h1, h2⟩ := hf j hj
    refine ⟨?_, ?_⟩
    · unfold zre
      rw [hF]
      show f j = some ((f j).getD 0)
      rw [h1]
      rfl
    · show Γ ((f j).getD 0) = some 2
      rw [h1]
      exact h2
  · obtain ⟨b, h1, -⟩ := hf i hi
    obtain ⟨b', h2, -⟩ := hf j hj
    have e : (f i).getD 0 = (f j).getD 0 := e
    rw [h1, h2] at e
    have e : b = b' := e
    exact hd i j hi hj (by rw [h1, h2, e])
theorem zPS.of {Γ : Nat → Option Nat} {F : Nat → va_E} {pr ar : Nat} {fa : Nat → Nat} (h : zPa Γ F ar fa) (k : zfld F pr 2 = .ref ar) : zPS Γ F pr fa := ⟨ar, k, h.1, h.2.1, h.2.2⟩
theorem zPS.mv {Γ Γ' : Nat → Option Nat} {F F' : Nat → va_E} {pr : Nat} {fa : Nat → Nat} (h : zPS Γ F pr fa) (hp : Γ pr = some 6) (hm : ∀ a t, Γ a = some t → Γ' a = some t ∧ F' a = F a) : zPS Γ' F' pr fa := by
  obtain ⟨ar, h1, h2⟩ := h
  have e : zfld F' pr 2 = zfld F pr 2 := by
    unfold zfld
    rw [(hm _ _ hp).2]
  exact zPS.of (zPa.mv (F := F) (Γ := Γ) ⟨h2.1, h2.2.1, h2.2.2⟩ hm) (e.trans h1)
def zPq (Γ : Nat → Option Nat) (F : Nat → va_E) (ar : Nat) (fa : Nat → Nat) : Prop := Γ ar = some 105 ∧ (∀ f, f < 60 → zre F ar f = some (fa f) ∧ Γ (fa f) = some 4) ∧ ∀ f g, f < 60 → g < 60 → fa f = fa g → f = g
theorem zPq.mv {Γ Γ' : Nat → Option Nat} {F F' : Nat → va_E} {ar : Nat} {fa : Nat → Nat} (h : zPq Γ F ar fa) (hm : ∀ a t, Γ a = some t → Γ' a = some t ∧ F' a = F a) : zPq Γ' F' ar fa := by
  obtain ⟨h1, h2, h3⟩ := h
  refine ⟨(hm _ _ h1).1, fun f hf => ⟨?_, (hm _ _ (h2 f hf).2).1⟩, h3⟩
  have e := (hm _ _ h1).2
  unfold zre
  rw [e]
  exact (h2 f hf).1
theorem zPq.mk {Γ : Nat → Option Nat} {F : Nat → va_E} {ar : Nat} {kc : ClassId} {f : Nat → Option Nat} (hF : F ar = .inl (kc, 60, .inr (.inr (.inr (.inr f))))) (hg : Γ ar = some 105) (hf : ∀ j, j < 60 → ∃ b, f j = some b ∧ Γ b = some 4) (hd : ∀ i j, i < 60 → j < 60 → f i = f j → i = j) : ∃ fa, zPq Γ F ar fa := by
  refine ⟨fun j => (f j).getD 0, hg, fun j hj => ?_, fun i j hi hj e => ?_⟩
  · obtain ⟨b, h1, h2⟩ := hf j hj
    refine ⟨?_, ?_⟩
    · unfold zre
      rw [hF]
      show f j = some ((f j).getD 0)
      rw [h1]
      rfl
    · show Γ ((f j).getD 0) = some 4
      rw [h1]
      exact h2
  · obtain ⟨b, h1, -⟩ := hf i hi
    obtain ⟨b', h2, -⟩ := hf j hj
    have e : (f i).getD 0 = (f j).getD 0 := e
    rw [h1, h2] at e
    have e : b = b' := e
    exact hd i j hi hj (by rw [h1, h2, e])
theorem zLS.of {Γ : Nat → Option Nat} {F : Nat → va_E} {pr ar : Nat} {la : Nat → Nat} (h : zPq Γ F ar la) (k : zfld F pr 3 = .ref ar) : zLS Γ F pr la := ⟨ar, k, h.1, h.2.1, h.2.2⟩
theorem zLS.mv {Γ Γ' : Nat → Option Nat} {F F' : Nat → va_E} {pr : Nat} {la : Nat → Nat} (h : zLS Γ F pr la) (hp : Γ pr = some 6) (hm : ∀ a t, Γ a = some t → Γ' a = some t ∧ F' a = F a) : zLS Γ' F' pr la := by
  obtain ⟨ar, h1, h2⟩ := h
  have e : zfld F' pr 3 = zfld F pr 3 := by
    unfold zfld
    rw [(hm _ _ hp).2]
  exact zLS.of (zPq.mv (F := F) (Γ := Γ) ⟨h2.1, h2.2.1, h2.2.2⟩ hm) (e.trans h1)

/-- the Functions so far have different rows of places -/
def zPe (Γ : Nat → Option Nat) (F : Nat → va_E) (f : Nat → Option Nat) (i : Nat) : Prop := ∃ pa : Nat → Nat, (∀ j b, j < i → f j = some b → Γ b = some 2 ∧ zfld F b 8 = .ref (pa j) ∧ Γ (pa j) = some 103) ∧ ∀ j1 j2, j1 < i → j2 < i → pa j1 = pa j2 → j1 = j2
theorem zPe.nil {Γ : Nat → Option Nat} {F : Nat → va_E} {f : Nat → Option Nat} : zPe Γ F f 0 := ⟨fun _ => 0, fun j b h => absurd h (Nat.not_lt_zero _), fun j1 j2 h => absurd h (Nat.not_lt_zero _)⟩
theorem zPe.mv {Γ Γ' : Nat → Option Nat} {F F' : Nat → va_E} {f : Nat → Option Nat} {i : Nat} (h : zPe Γ F f i) (hm : ∀ a t, Γ a = some t → Γ' a = some t ∧ F' a = F a) : zPe Γ' F' f i := by
  obtain ⟨pa, h1, h2⟩ := h
  refine ⟨pa, fun j b hj hb => ?_, h2⟩
  obtain ⟨g1, g2, g3⟩ := h1 j b hj hb
  exact ⟨(hm _ _ g1).1, zfld_e (hm _ _ g1).2 g2, (hm _ _ g3).1⟩
theorem zPe.step {Γ Γ' : Nat → Option Nat} {F F' : Nat → va_E} {f : Nat → Option Nat} {i n v pv : Nat} {L9 : List Nat} (h : zPe Γ F f i) (hf9 : ∀ j, j < i → ∃ b, f j = some b ∧ Γ b = some 2) (hm : ∀ a t, Γ a = some t → Γ' a = some t ∧ F' a = F a ∧ a ∉ L9) (hv : Γ' v = some 2) (h1 : zfld F' v 8 = .ref pv) (h2 : Γ' pv = some 103) (h3 : pv ∈ L9) (hn : n = i) : zPe Γ' F' (va_up f n (some v)) (i + 1) := by
  subst hn
  obtain ⟨pa, g1, g2⟩ := h
  refine ⟨fun j => if j = n then pv else pa j, fun j b hj hb => ?_, fun j1 j2 q1 q2 e => ?_⟩
  · by_cases c : j = n
    · subst c
      rw [va_up_self] at hb
      cases hb
      show Γ' v = _ ∧ zfld F' v 8 = .ref (if j = j then pv else pa j) ∧ Γ' (if j = j then pv else pa j) = _
      rw [if_pos rfl]
      exact ⟨hv, h1, h2⟩
    · rw [va_up_ne _ _ c] at hb
      obtain ⟨a1, a2, a3⟩ := g1 j b (by omega) hb
      show Γ' b = _ ∧ zfld F' b 8 = .ref (if j = n then pv else pa j) ∧ Γ' (if j = n then pv else pa j) = _
      rw [if_neg c]
      exact ⟨(hm _ _ a1).1, zfld_e (hm _ _ a1).2.1 a2, (hm _ _ a3).1⟩
  · have old : ∀ j, j < n → pa j ≠ pv := fun j hj e9 => by
      obtain ⟨b, b1, b2⟩ := hf9 j hj
      obtain ⟨-, -, a3⟩ := g1 j b hj b1
      exact (hm _ _ a3).2.2 (by rw [e9]; exact h3)
    have e : (if j1 = n then pv else pa j1) = (if j2 = n then pv else pa j2) := e
    by_cases c1 : j1 = n <;> by_cases c2 : j2 = n
    · omega
    · rw [if_pos c1, if_neg c2] at e
      exact absurd e.symm (old j2 (by omega))
    · rw [if_neg c1, if_pos c2] at e
      exact absurd e (old j1 (by omega))
    · rw [if_neg c1, if_neg c2] at e
      exact g2 j1 j2 (by omega) (by omega) e
def zPa2 (Γ : Nat → Option Nat) (F : Nat → va_E) (ar : Nat) (fa : Nat → Nat) : Prop := zPa Γ F ar fa ∧ zPD Γ F fa
theorem zPD.mv {Γ Γ' : Nat → Option Nat} {F F' : Nat → va_E} {fa : Nat → Nat} (h : zPD Γ F fa) (ht : ∀ f, f < 10 → Γ (fa f) = some 2) (hm : ∀ a t, Γ a = some t → Γ' a = some t ∧ F' a = F a) : zPD Γ' F' fa := by
  obtain ⟨pa, h1, h2⟩ := h
  exact ⟨pa, fun f hf => ⟨zfld_e (hm _ _ (ht f hf)).2 (h1 f hf).1, (hm _ _ (h1 f hf).2).1⟩, h2⟩
theorem zPa2.mv {Γ Γ' : Nat → Option Nat} {F F' : Nat → va_E} {ar : Nat} {fa : Nat → Nat} (h : zPa2 Γ F ar fa) (hm : ∀ a t, Γ a = some t → Γ' a = some t ∧ F' a = F a) : zPa2 Γ' F' ar fa := ⟨h.1.mv hm, h.2.mv (fun f hf => (h.1.2.1 f hf).2) hm⟩
theorem zPa2.mk {Γ : Nat → Option Nat} {F : Nat → va_E} {ar : Nat} {fa : Nat → Nat} {kc : ClassId} {f : Nat → Option Nat} (h : zPa Γ F ar fa) (hF : F ar = .inl (kc, 10, .inr (.inr (.inr (.inr f))))) (hp : zPe Γ F f 10) : zPa2 Γ F ar fa := by
  obtain ⟨pa, g1, g2⟩ := hp
  refine ⟨h, pa, fun j hj => ?_, g2⟩
  have e := (h.2.1 j hj).1
  unfold zre at e
  rw [hF] at e
  have e : f j = some (fa j) := e
  exact (g1 j _ hj e).2
