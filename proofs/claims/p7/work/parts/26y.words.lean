/-! The reference's calls: all of them, and which are good. -/
theorem zMc.all {Γ : Nat → Option Nat} {F u : Nat → va_E} {sp iq : Nat} {T : zTS} {σ σ1 : zSg} {c : Int32} {dq : zDat} (h : zMc Γ F u sp T σ σ1) (k0 : zfld F sp 2 = .int 0) (k : zfld u sp 2 = .int c) (h0 : σ = .inl (0, zd0)) (h1 : σ1 = .inl (iq, dq)) : (∀ e ∈ zcs dq, ∃ q : Nat, (q : Int) < c.toInt ∧ zar u sp 24 q = 5 ∧ (zal u sp 28 q).toInt = T.2.2 e.1 ∧ (zar u sp 26 q).toInt = (e.2.1 : Int)) ∧ ∀ q : Nat, (q : Int) < c.toInt → zar u sp 24 q = 5 → ∃ e ∈ zcs dq, (zal u sp 28 q).toInt = T.2.2 e.1 ∧ (zar u sp 26 q).toInt = (e.2.1 : Int) := by
  obtain ⟨it, it', k1, k2, k3, -, -, k6⟩ := h
  cases z_vi k0 k1
  cases z_vi k k2
  obtain ⟨i, d, new, e1, e2, e3, e4⟩ := k6 iq dq h1
  rw [h0] at e1
  injection e1 with e1
  injection e1 with _ e5
  subst e5
  have ez : zcs zd0 = [] := rfl
  rw [ez, List.nil_append] at e2
  have ec : (0 : Int32).toInt = 0 := by decide
  rw [e2]
  refine ⟨fun e he => ?_, fun q hq h5 => e4 q (by omega) hq h5⟩
  obtain ⟨q, -, a2, a3⟩ := e3 e he
  exact ⟨q, a2, a3⟩
def zGq (F : Nat → va_E) (sp : Nat) (T : zTS) (d : zDat) (q : Nat) : Prop := ∃ f, zfind T.2.2 (znm d) (zal F sp 28 q).toInt (zfc d) = some f ∧ (zpc d f : Int) = (zar F sp 26 q).toInt
theorem zGq.good {F : Nat → va_E} {sp q : Nat} {T : zTS} {d : zDat} {e : Nat × Nat × Nat} (h : zGq F sp T d q) (h1 : (zal F sp 28 q).toInt = T.2.2 e.1) (h2 : (zar F sp 26 q).toInt = (e.2.1 : Int)) : zgood T d e := by
  obtain ⟨f, a1, a2⟩ := h
  rw [h1] at a1
  exact ⟨f, a1, by omega⟩
theorem zfi_some {o : Option Nat} {r : Int} (h : r = zfi o) (hr : r ≠ -1) : ∃ g : Nat, o = some g ∧ (g : Int) = r := by
  match o, h with
  | none, h => exact absurd h hr
  | some g, h => exact ⟨g, rfl, h.symm⟩
theorem zfi_none {o : Option Nat} {r : Int} (h : r = zfi o) (hr : r = -1) : o = none := by
  match o, h with
  | none, _ => rfl
  | some g, h =>
    exfalso
    have h : r = (g : Int) := h
    omega
