/-! Types of worlds, moved. -/
theorem zV.rf {Γ : Nat → Option Nat} {q : Nat × Int × Int} {b : Nat} (h : zV Γ q (.ref b)) (hk : q.1 = 2 ∨ q.1 = 3) : Γ b = some q.2.1.toNat := by
  obtain ⟨κ, x, y⟩ := q
  have hk : κ = 2 ∨ κ = 3 := hk
  rcases hk with rfl | rfl
  · obtain ⟨b', e, h'⟩ := h
    cases e
    exact h'
  · rcases h with e | ⟨b', e, h'⟩
    · cases e
    · cases e
      exact h'
theorem zV.mono {Γ Γ' : Nat → Option Nat} {q : Nat × Int × Int} {v : Value} (h : zV Γ q v) (hm : ∀ b, (q.1 = 2 ∨ q.1 = 3) → v = .ref b → Γ b = some q.2.1.toNat → Γ' b = some q.2.1.toNat) : zV Γ' q v := by
  obtain ⟨k, x, y⟩ := q
  match k, h, hm with
  | 0, h, _ => exact h
  | 1, h, _ => exact h
  | 2, h, hm =>
    obtain ⟨b, h1, h2⟩ := h
    exact ⟨b, h1, hm b (Or.inl rfl) h1 h2⟩
  | 3, h, hm =>
    rcases h with h | ⟨b, h1, h2⟩
    · exact Or.inl h
    · exact Or.inr ⟨b, h1, hm b (Or.inr rfl) h1 h2⟩
  | k + 4, _, _ => exact trivial
theorem zAr.mono2 {Γ Γ' : Nat → Option Nat} {k : Nat → ClassId} {F F' : Nat → va_E} {a t : Nat} (h : zAr Γ k F a t) (e : F' a = F a) (hm : ∀ i b, i < (zas t).2.1 → 3 ≤ (zas t).1 → zre F a i = some b → Γ b = some (zas t).2.2.1.toNat → Γ' b = some (zas t).2.2.1.toNat) : zAr Γ' k F' a t := by
  unfold zAr at h ⊢
  rw [e]
  generalize zas t = q at h hm ⊢
  obtain ⟨κ, n, x, y⟩ := q
  match κ, h, hm with
  | 0, h, _ => exact h
  | 1, h, _ => exact h
  | 2, h, _ => exact h
  | 3, h, hm =>
    obtain ⟨f, h1, h2⟩ := h
    exact ⟨f, h1, fun i hi => (h2 i hi).elim (fun b hb => ⟨b, hb.1, hm i b hi (Nat.le_refl _) (by unfold zre; rw [h1]; exact hb.1) hb.2⟩)⟩
  | κ + 4, h, hm =>
    obtain ⟨f, h1, h2⟩ := h
    exact ⟨f, h1, fun i hi => (h2 i hi).elim (fun b hb => ⟨b, hb.1, hm i b hi (Nat.le_add_left 3 (κ + 1)) (by unfold zre; rw [h1]; exact hb.1) hb.2⟩)⟩
theorem zAr.mono {Γ Γ' : Nat → Option Nat} {k : Nat → ClassId} {F F' : Nat → va_E} {a t : Nat} (h : zAr Γ k F a t) (e : F' a = F a) (hm : ∀ b, 3 ≤ (zas t).1 → Γ b = some (zas t).2.2.1.toNat → Γ' b = some (zas t).2.2.1.toNat) : zAr Γ' k F' a t :=
  zAr.mono2 h e (fun _ b _ h3 _ hb => hm b h3 hb)
theorem zAr.at {Γ : Nat → Option Nat} {k : Nat → ClassId} {F : Nat → va_E} {a t i b : Nat} (h : zAr Γ k F a t) (h3 : 3 ≤ (zas t).1) (hi : i < (zas t).2.1) (hb : zre F a i = some b) : Γ b = some (zas t).2.2.1.toNat := by
  unfold zAr at h
  generalize zas t = q at h h3 hi ⊢
  obtain ⟨κ, n, x, y⟩ := q
  match κ, h, h3 with
  | 0, _, h3 => exact absurd (show 3 ≤ 0 from h3) (by decide)
  | 1, _, h3 => exact absurd (show 3 ≤ 1 from h3) (by decide)
  | 2, _, h3 => exact absurd (show 3 ≤ 2 from h3) (by decide)
  | 3, h, _ =>
    obtain ⟨f, h1, h2⟩ := h
    obtain ⟨b', e1, e2⟩ := h2 i hi
    unfold zre at hb
    rw [h1] at hb
    have hb : f i = some b := hb
    rw [e1] at hb
    cases hb
    exact e2
  | κ + 4, h, _ =>
    obtain ⟨f, h1, h2⟩ := h
    obtain ⟨b', e1, e2⟩ := h2 i hi
    unfold zre at hb
    rw [h1] at hb
    have hb : f i = some b := hb
    rw [e1] at hb
    cases hb
    exact e2
theorem zO.mono {Γ Γ' : Nat → Option Nat} {F F' : Nat → va_E} {a t : Nat} (h : zO Γ F a t) (e : F' a = F a) (hm : ∀ (j : Nat) (q : Nat × Int × Int) (b : Nat), (zsp t)[j]? = some q → (q.1 = 2 ∨ q.1 = 3) → zfld F a j = .ref b → Γ b = some q.2.1.toNat → Γ' b = some q.2.1.toNat) : zO Γ' F' a t := by
  obtain ⟨fs, h1, h2, h3⟩ := h
  refine ⟨fs, e.trans h1, h2, fun j q hq => ?_⟩
  have ef : zfld F' a j = zfld F a j := by
    unfold zfld
    rw [e]
  rw [ef]
  exact (h3 j q hq).mono (fun b hk hv hb => hm j q b hq hk hv hb)
theorem zMet_imp {l : Launch} {y : MethodName} {ws : List Cond} {rm : Room} {P P' : Array Value → State → Prop} {Q Q' : Array Value → State → Outcome → State → Prop} {mc ms : Nat} {free : Addr → Prop} (h : Met l y ws rm P Q mc ms free) (hp : ∀ a s, P' a s → P a s) (hq : ∀ a s o t, P' a s → Q a s o t → Q' a s o t) : Met l y ws rm P' Q' mc ms free := by
  intro p e ha hc hk s m args below hf happ hP hK
  obtain ⟨n, o, h1, h2, h3, h4, h5⟩ := h p e ha hc hk s m args below hf happ (hp _ _ hP) hK
  exact ⟨n, o, h1, h2, h3, hq _ _ _ _ hP h4, h5⟩
