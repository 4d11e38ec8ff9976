/-! The reference's calls: all of them, and which are good. -/
theorem zMc.all {Γ : Nat → Option Nat} {F u : Nat → va_E} {sp iq : Nat} {T : zTS} {σ σ1 : zSg} {c : Int32} {dq : zDat} (h : zMc Γ F u sp T σ σ1) (k0 : zfld F sp 2 = .int 0) (k : zfld u sp 2 = .int c) (h0 : σ = .inl (0, zd0)) (h1 : σ1 = .inl (iq, dq)) : (∀ e ∈ zcs dq, ∃ q : Nat, (q : Int) < c.toInt ∧ zar u sp 24 q = 5 ∧ (zal u sp 28 q).toInt = T.2.2 e.1 ∧ (zar u sp 26 q).toInt = (e.2.1 : Int)) ∧ ∀ q : Nat, (q : Int) < c.toInt → zar u sp 24 q = 5 → ∃ e ∈ zcs dq, (zal u sp 28 q).toInt = T.2.2 e.1 ∧ (zar u sp 26 q).toInt = (e.2.1 : Int) := by
  obtain ⟨it, it', k1, k2, k3, -, -, k6⟩ := h
  cases z_vi k0 k1
  cases z_vi k k2
  obtain ⟨i, d, new, e1, e2, e3, e4⟩ := k6 iq dq h1
  rw [h0] at e1
  injection e1 with e1
  injection e1 with _ e5
  subst e5
  have ez : zcs zd0 = [] := rfl
  rw [ez, List.nil_append] at e2
  have ec : (0 : Int32).toInt = 0 := by decide
  rw [e2]
  refine ⟨fun e he => ?_, fun q hq h5 => e4 q (by omega) hq h5⟩
  obtain ⟨q, -, a2, a3⟩ := e3 e he
  exact ⟨q, a2, a3⟩
def zGq (F : Nat → va_E) (sp : Nat) (T : zTS) (d : zDat) (q : Nat) : Prop := ∃ f, zfind T.2.2 (znm d) (zal F sp 28 q).toInt (zfc d) = some f ∧ (zpc d f : Int) = (zar F sp 26 q).toInt
theorem zGq.good {F : Nat → va_E} {sp q : Nat} {T : zTS} {d : zDat} {e : Nat × Nat × Nat} (h : zGq F sp T d q) (h1 : (zal F sp 28 q).toInt = T.2.2 e.1) (h2 : (zar F sp 26 q).toInt = (e.2.1 : Int)) : zgood T d e := by
  obtain ⟨f, a1, a2⟩ := h
  rw [h1] at a1
  exact ⟨f, a1, by omega⟩
theorem zfi_some {o : Option Nat} {r : Int} (h : r = zfi o) (hr : r ≠ -1) : ∃ g : Nat, o = some g ∧ (g : Int) = r := by
  match o, h with
  | none, h => exact absurd h hr
  | some g, h => exact ⟨g, rfl, h.symm⟩
theorem zfi_none {o : Option Nat} {r : Int} (h : r = zfi o) (hr : r = -1) : o = none := by
  match o, h with
  | none, _ => rfl
  | some g, h =>
    exfalso
    have h : r = (g : Int) := h
    omega
/-- what the reference's Program holds for the runs: items, rows of lines, places -/
def zRX (F : Nat → va_E) (sp : Nat) (T : zTS) (V : Nat → Int) (d : zDat) : Prop := (∃ x : Int32, zfld F sp 2 = .int x ∧ x.toInt = (zic d : Int)) ∧ (∀ q, q < zic d → (zar F sp 24 q).toInt = ((zitf d q).1 : Int) ∧ ((zitf d q).1 ≠ 5 → (zar F sp 25 q).toInt = zin T V (zitf d q)) ∧ ((zitf d q).1 = 5 → (zar F sp 25 q).toInt = zfi (zfind T.2.2 (znm d) (T.2.2 (zitf d q).2.1) (zfc d)))) ∧ (∀ l, l < zlc d → zM6 F sp l T (zln d l) (zrw d l)) ∧ ∀ f, f < zfc d → ∀ j, j < 3 → j < zpc d f → (zar F sp 12 (3 * f + j)).toInt = zpl d f j
def zXM (M : List Nat) : Prop := (∀ j, j < 30 → 4 ≤ j → 1100 + j ∉ M) ∧ 1102 ∉ M ∧ (14400 ∉ M ∧ 14500 ∉ M ∧ 13200 ∉ M) ∧ 13700 ∉ M ∧ 13800 ∉ M ∧ 13900 ∉ M ∧ 14000 ∉ M ∧ 14100 ∉ M ∧ 14200 ∉ M ∧ 14300 ∉ M
theorem zRX.fr {Γ : Nat → Option Nat} {M : List Nat} {F u : Nat → va_E} {sp : Nat} {T : zTS} {V : Nat → Int} {d : zDat} (h : zRX F sp T V d) (hsa : zSA Γ F sp) (hf : zFr Γ M F u) (hp : Γ sp = some 11) (hM : zXM M) : zRX u sp T V d := by
  obtain ⟨m, m2, ⟨q4, q5, q12⟩, n7, n8, n9, n0, n1, n2, n3⟩ := hM
  obtain ⟨⟨x, h1, h2⟩, h3, h4, h5⟩ := h
  have e24 := hsa.ar hf 24 ⟨by decide, by decide, m 24 (by decide) (by decide), q4⟩
  have e25 := hsa.ar hf 25 ⟨by decide, by decide, m 25 (by decide) (by decide), q5⟩
  have e12 := hsa.ar hf 12 ⟨by decide, by decide, m 12 (by decide) (by decide), q12⟩
  have h6 := (show zD6 Γ F sp T (.inl (0, d)) from ⟨hsa, fun i d' e l hl => by
    injection e with e
    injection e with _ e
    subst e
    exact h4 l hl⟩).fr hf ⟨m, n7, n8, n9, n0, n1, n2, n3⟩
  unfold zRX
  rw [e24, e25, e12]
  exact ⟨⟨x, hf.f hp 2 ⟨by decide, m2⟩ h1, h2⟩, h3, fun l hl => h6.2 0 d rfl l hl, h5⟩
theorem zRX.mk {Γ : Nat → Option Nat} {M : List Nat} {B u : Nat → va_E} {sp i : Nat} {T : zTS} {V : Nat → Int} {d : zDat} {it : Int32} (hi : zDi Γ B sp T V (.inl (i, d))) (h6 : zD6 Γ B sp T (.inl (i, d))) (h8 : zD8 Γ B sp (.inl (i, d))) (hf : zFr Γ M B u) (hp : Γ sp = some 11) (kit : zfld B sp 2 = .int it) (hM : (∀ j, j < 30 → 4 ≤ j → 1100 + j ∉ M) ∧ 1102 ∉ M ∧ (14400 ∉ M ∧ 13200 ∉ M) ∧ 13700 ∉ M ∧ 13800 ∉ M ∧ 13900 ∉ M ∧ 14000 ∉ M ∧ 14100 ∉ M ∧ 14200 ∉ M ∧ 14300 ∉ M) (v1 : ∀ q, zar B sp 24 q ≠ 5 → zar u sp 25 q = zar B sp 25 q) (v3 : ∀ q : Nat, (q : Int) < it.toInt → zar B sp 24 q = 5 → (zar u sp 25 q).toInt = zfi (zfind T.2.2 (znm d) (zal B sp 28 q).toInt (zfc d))) : zRX u sp T V d := by
  obtain ⟨m, m2, ⟨q4, q12⟩, n⟩ := hM
  have hsa := hi.1
  obtain ⟨⟨x, h1, h2⟩, h3⟩ := hi.2 i d rfl
  cases z_vi kit h1
  have e24 := hsa.ar hf 24 ⟨by decide, by decide, m 24 (by decide) (by decide), q4⟩
  have e12 := hsa.ar hf 12 ⟨by decide, by decide, m 12 (by decide) (by decide), q12⟩
  have g6 := h6.fr hf ⟨m, n⟩
  have i5 : (5 : Int32).toInt = 5 := by decide
  unfold zRX
  rw [e24, e12]
  refine ⟨⟨it, hf.f hp 2 ⟨by decide, m2⟩ kit, h2⟩, fun q hq => ?_, fun l hl => g6.2 i d rfl l hl, h8.2 i d rfl⟩
  obtain ⟨a1, a2, a3⟩ := h3 q hq
  refine ⟨a1, fun h9 => ?_, fun h9 => ?_⟩
  · rw [v1 q (fun e => by rw [e, i5] at a1; omega)]
    exact a2
  · rw [v3 q (by omega) (Int32.toInt_inj.mp (by rw [a1, i5]; omega)), a3 h9]
