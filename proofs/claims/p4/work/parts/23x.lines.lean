/-! The reference's lines, beside the steps: how many. -/
def zD4 (F : Nat → va_E) (sp : Nat) (σ : zSg) : Prop := ∀ i d, σ = .inl (i, d) → ∃ x : Int32, zfld F sp 1 = .int x ∧ x.toInt = (zlc d : Int)
theorem zD4.fr {Γ : Nat → Option Nat} {M : List Nat} {F u : Nat → va_E} {sp : Nat} {σ : zSg} (h : zD4 F sp σ) (hf : zFr Γ M F u) (hp : Γ sp = some 11) (hM : 1101 ∉ M) : zD4 u sp σ := fun i d e => by
  obtain ⟨x, h1, h2⟩ := h i d e
  exact ⟨x, hf.f hp 1 ⟨by decide, hM⟩ h1, h2⟩
theorem zD4.ss {F : Nat → va_E} {sp : Nat} {σ σ1 : zSg} (h : zD4 F sp σ) (hs : zss σ σ1) : zD4 F sp σ1 := fun j d' e => by
  obtain ⟨i, d, e1, -, -, -, -, -, -, q, -⟩ := hs j d' e
  obtain ⟨x, h1, h2⟩ := h i d e1
  exact ⟨x, h1, by rw [q]; exact h2⟩
theorem zD4.sm {F : Nat → va_E} {sp : Nat} {σ σ1 : zSg} (h : zD4 F sp σ) (hs : zsm σ σ1) : zD4 F sp σ1 := h.ss hs.ss
theorem zD4.k {F : Nat → va_E} {sp : Nat} {σ : zSg} {x : Int32} (h : zD4 F sp σ) (k : zfld F sp 1 = .int x) : ∀ i d, σ = .inl (i, d) → x.toInt = (zlc d : Int) := fun i d e => by
  obtain ⟨y, h1, h2⟩ := h i d e
  cases z_vi k h1
  exact h2
theorem zD4.add {F : Nat → va_E} {sp a : Nat} {σ : zSg} {k : Int} {x y : Int32} (h : ∀ i d, σ = .inl (i, d) → x.toInt = (zlc d : Int)) (ky : zfld F sp 1 = .int y) (e : y.toInt = x.toInt + 1) : zD4 F sp (zadv (zmap (fun i d => zaddl d k i a) σ)) := fun j d' h9 => by
  match σ, h, h9 with
  | .inr q, _, h9 => cases h9
  | .inl (i, d), h, h9 =>
    have h9 : (Sum.inl (i + 1, zaddl d k i a) : zSg) = .inl (j, d') := h9
    injection h9 with h9
    injection h9 with h8 h7
    subst h7
    refine ⟨y, ky, ?_⟩
    have := h i d rfl
    show y.toInt = ((zlc d + 1 : Nat) : Int)
    omega
theorem zlk_no {k : Int} (h3 : k ≠ 3) (h6 : k ≠ 6) (h7 : k ≠ 7) (h8 : k ≠ 8) (h10 : k ≠ 10) : zlk k = -1 := by
  unfold zlk
  rw [if_neg h3, if_neg h6, if_neg h7, if_neg h8, if_neg h10]
