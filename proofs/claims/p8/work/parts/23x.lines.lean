/-! The reference's lines, beside the steps: how many. -/
/-- a line as it was read -/
def zM4 (F : Nat → va_E) (sp l : Nat) (q : Int × Nat × Nat × Nat) (T : zTS) : Prop := (zar F sp 13 l).toInt = q.1 ∧ (zar F sp 14 l).toInt = (q.2.1 : Int) ∧ (zar F sp 15 l).toInt = T.2.1 q.2.2.1 ∧ (zar F sp 16 l).toInt = (q.2.2.2 : Int)
def zD4 (Γ : Nat → Option Nat) (F : Nat → va_E) (sp : Nat) (T : zTS) (σ : zSg) : Prop := zSA Γ F sp ∧ ∀ i d, σ = .inl (i, d) → (∃ x : Int32, zfld F sp 1 = .int x ∧ x.toInt = (zlc d : Int)) ∧ zlc d ≤ 60 ∧ ∀ l, l < zlc d → zM4 F sp l (zln d l) T
theorem zM4.cg {F u : Nat → va_E} {sp l : Nat} {q : Int × Nat × Nat × Nat} {T : zTS} (h : zM4 F sp l q T) (e0 : zar u sp 13 = zar F sp 13) (e1 : zar u sp 14 = zar F sp 14) (e2 : zar u sp 15 = zar F sp 15) (e3 : zar u sp 16 = zar F sp 16) : zM4 u sp l q T := by
  unfold zM4
  rw [e0, e1, e2, e3]
  exact h
theorem zD4.fr {Γ : Nat → Option Nat} {M : List Nat} {F u : Nat → va_E} {sp : Nat} {T : zTS} {σ : zSg} (h : zD4 Γ F sp T σ) (hf : zFr Γ M F u) (hp : Γ sp = some 11) (hM : (∀ j, j < 30 → 4 ≤ j → 1100 + j ∉ M) ∧ 1101 ∉ M ∧ 13300 ∉ M ∧ 13400 ∉ M ∧ 13500 ∉ M ∧ 13600 ∉ M) : zD4 Γ u sp T σ := by
  obtain ⟨m, m1, n0, n1, n2, n3⟩ := hM
  refine ⟨h.1.fr hf m, fun i d e => ?_⟩
  obtain ⟨⟨x, h1, h2⟩, h3, h4⟩ := h.2 i d e
  exact ⟨⟨x, hf.f hp 1 ⟨by decide, m1⟩ h1, h2⟩, h3, fun l hl => (h4 l hl).cg (h.1.ar hf 13 ⟨by decide, by decide, m 13 (by decide) (by decide), n0⟩) (h.1.ar hf 14 ⟨by decide, by decide, m 14 (by decide) (by decide), n1⟩) (h.1.ar hf 15 ⟨by decide, by decide, m 15 (by decide) (by decide), n2⟩) (h.1.ar hf 16 ⟨by decide, by decide, m 16 (by decide) (by decide), n3⟩)⟩
theorem zD4.st {Γ : Nat → Option Nat} {F : Nat → va_E} {sp : Nat} {T : zTS} {σ σ1 : zSg} (h : zD4 Γ F sp T σ) (hs : ∀ j d', σ1 = .inl (j, d') → ∃ i d, σ = .inl (i, d) ∧ zlc d' = zlc d ∧ zln d' = zln d) : zD4 Γ F sp T σ1 := by
  refine ⟨h.1, fun j d' e => ?_⟩
  obtain ⟨i, d, e1, g1, g2⟩ := hs j d' e
  rw [g1, g2]
  exact h.2 i d e1
theorem zD4.ss {Γ : Nat → Option Nat} {F : Nat → va_E} {sp : Nat} {T : zTS} {σ σ1 : zSg} (h : zD4 Γ F sp T σ) (hs : zss σ σ1) : zD4 Γ F sp T σ1 := h.st (fun j d' e => by
  obtain ⟨i, d, e1, -, e2⟩ := hs j d' e
  exact ⟨i, d, e1, e2.2.2.2.2.2.1, e2.2.2.2.2.2.2⟩)
theorem zD4.sm {Γ : Nat → Option Nat} {F : Nat → va_E} {sp : Nat} {T : zTS} {σ σ1 : zSg} (h : zD4 Γ F sp T σ) (hs : zsm σ σ1) : zD4 Γ F sp T σ1 := h.ss hs.ss
theorem zD4.k {Γ : Nat → Option Nat} {F : Nat → va_E} {sp : Nat} {T : zTS} {σ : zSg} {x : Int32} (h : zD4 Γ F sp T σ) (k : zfld F sp 1 = .int x) : ∀ i d, σ = .inl (i, d) → x.toInt = (zlc d : Int) := fun i d e => by
  obtain ⟨⟨y, h1, h2⟩, -⟩ := h.2 i d e
  cases z_vi k h1
  exact h2
theorem zD4.add {Γ : Nat → Option Nat} {F u : Nat → va_E} {sp a n : Nat} {T : zTS} {σ : zSg} {k : Int} {x y v0 v1 v2 v3 : Int32} (h : zD4 Γ F sp T σ) (kx : zfld F sp 1 = .int x) (hsa : zSA Γ u sp) (ky : zfld u sp 1 = .int y) (e : y.toInt = x.toInt + 1) (h0 : 0 ≤ x.toInt ∧ x.toInt < 60) (e0 : zar u sp 13 = upd (zar F sp 13) n v0) (e1 : zar u sp 14 = upd (zar F sp 14) n v1) (e2 : zar u sp 15 = upd (zar F sp 15) n v2) (e3 : zar u sp 16 = upd (zar F sp 16) n v3) (hn : (n : Int) = x.toInt) (hb : ∀ i d, σ = .inl (i, d) → v0.toInt = k ∧ v1.toInt = (zfc d : Int) ∧ v2.toInt = T.2.1 i ∧ v3.toInt = (a : Int)) : zD4 Γ u sp T (zadv (zmap (fun i d => zaddl d k i a) σ)) := by
  refine ⟨hsa, fun j d' h9 => ?_⟩
  obtain ⟨i, d, q1, q2, q3⟩ := zadm h9
  have hk := h.k kx i d q1
  obtain ⟨-, g3, g4⟩ := h.2 i d q1
  have ec : zlc d' = zlc d + 1 := by
    rw [q3]
    rfl
  have en : zln d' = zup (zln d) (zlc d) (k, zfc d, i, a) := by
    rw [q3]
    rfl
  refine ⟨⟨y, ky, by rw [ec]; omega⟩, by omega, fun l hl => ?_⟩
  unfold zM4
  rw [en, e0, e1, e2, e3]
  unfold upd
  by_cases c : l = zlc d
  · have c2 : l = n := by omega
    rw [if_pos c2, if_pos c2, if_pos c2, if_pos c2, c, zup_self]
    exact hb i d q1
  · have c2 : ¬ l = n := by omega
    rw [if_neg c2, if_neg c2, if_neg c2, if_neg c2, zup_ne _ _ c]
    exact g4 l (by omega)
theorem zD1.pl {F : Nat → va_E} {th n : Nat} {B : Nat → Int32} {σ : zSg} {x : Int32} (h : zD1 F th B n σ) (k : zfld F th 15 = .int x) : ∀ i d, σ = .inl (i, d) → x.toInt = zpo B n i := fun i d e => by
  obtain ⟨i', d', e', a, so, pl, mk, le, wd, -, -, k3, -, -, -, -, g, -⟩ := h
  rw [e] at e'
  injection e' with e'
  injection e' with e1 e2
  subst e1
  cases z_vi k k3
  exact g
/-- what the reference's Program holds of what was read -/
def zRM (F : Nat → va_E) (sp : Nat) (T : zTS) (d : zDat) : Prop := (∃ x : Int32, zfld F sp 0 = .int x ∧ x.toInt = (zfc d : Int)) ∧ (∃ x : Int32, zfld F sp 1 = .int x ∧ x.toInt = (zlc d : Int)) ∧ zlc d ≤ 60 ∧ ∀ l, l < zlc d → zM4 F sp l (zln d l) T
theorem zRM.fcE {F : Nat → va_E} {sp : Nat} {T : zTS} {d : zDat} {x : Int32} (h : zRM F sp T d) (k : zfld F sp 0 = .int x) : x.toInt = (zfc d : Int) := by
  obtain ⟨⟨y, h1, h2⟩, -⟩ := h
  cases z_vi k h1
  exact h2
theorem zRM.fr {Γ : Nat → Option Nat} {M : List Nat} {F u : Nat → va_E} {sp : Nat} {T : zTS} {d : zDat} (h : zRM F sp T d) (hsa : zSA Γ F sp) (hf : zFr Γ M F u) (hp : Γ sp = some 11) (hM : (∀ j, j < 30 → 4 ≤ j → 1100 + j ∉ M) ∧ (1100 ∉ M ∧ 1101 ∉ M) ∧ 13300 ∉ M ∧ 13400 ∉ M ∧ 13500 ∉ M ∧ 13600 ∉ M) : zRM u sp T d := by
  obtain ⟨m, ⟨m0, m1⟩, n0, n1, n2, n3⟩ := hM
  obtain ⟨⟨x, h1, h2⟩, ⟨y, h3, h4⟩, h5, h6⟩ := h
  exact ⟨⟨x, hf.f hp 0 ⟨by decide, m0⟩ h1, h2⟩, ⟨y, hf.f hp 1 ⟨by decide, m1⟩ h3, h4⟩, h5, fun l hl => (h6 l hl).cg (hsa.ar hf 13 ⟨by decide, by decide, m 13 (by decide) (by decide), n0⟩) (hsa.ar hf 14 ⟨by decide, by decide, m 14 (by decide) (by decide), n1⟩) (hsa.ar hf 15 ⟨by decide, by decide, m 15 (by decide) (by decide), n2⟩) (hsa.ar hf 16 ⟨by decide, by decide, m 16 (by decide) (by decide), n3⟩)⟩
theorem zlk_no {k : Int} (h3 : k ≠ 3) (h6 : k ≠ 6) (h7 : k ≠ 7) (h8 : k ≠ 8) (h10 : k ≠ 10) : zlk k = -1 := by
  unfold zlk
  rw [if_neg h3, if_neg h6, if_neg h7, if_neg h8, if_neg h10]
