/-! Functions of the reference's Program; a Program that is whole. -/
def zFn (F : Nat → va_E) (tp sp nf ln : Nat) (pl : Int) : Prop := (∀ g, g < nf → (zar F sp 7 g).toInt < ln ∧ 0 ≤ (zar F sp 10 g).toInt ∧ zTT F tp sp g (zar F sp 10 g).toInt pl) ∧ ∀ g, g + 1 < nf → (zar F sp 11 g).toInt ≤ (zar F sp 10 (g + 1)).toInt
theorem zFn.z {F : Nat → va_E} {tp sp nf ln : Nat} {pl : Int} (h : nf = 0) : zFn F tp sp nf ln pl := ⟨fun g hg => by omega, fun g hg => by omega⟩
theorem zFn.cn {F : Nat → va_E} {tp sp nf ln nf' : Nat} {pl : Int} (h : zFn F tp sp nf ln pl) (h1 : nf' = nf) : zFn F tp sp nf' ln pl := by
  subst h1
  exact h
theorem zFn.fun {F u : Nat → va_E} {tp sp nf ln l9 : Nat} {pl pB p9 : Int} {x7 x10 : Int32} (h : zFn F tp sp nf ln pl) (e7 : zar u sp 7 = upd (zar F sp 7) nf x7) (e10 : zar u sp 10 = upd (zar F sp 10) nf x10) (k11 : zK F u sp 11 nf) (tt : zTT u tp sp nf pB p9) (et : zel u tp = zel F tp) (h7 : x7.toInt < l9) (hl : ln ≤ l9) (h10 : x10.toInt = pl) (h0 : 0 ≤ pl) (hp : pl ≤ pB) (hq : pl ≤ p9) : zFn u tp sp (nf + 1) l9 p9 := by
  refine ⟨fun g hg => ?_, fun g hg => ?_⟩
  · by_cases c : g = nf
    · subst c
      rw [e7, e10, z_upe, z_upe]
      exact ⟨h7, by omega, tt.w rfl rfl ⟨by omega, Int.le_refl _⟩⟩
    · obtain ⟨a1, a2, a3⟩ := h.1 g (by omega)
      rw [e7, e10, z_upn c, z_upn c]
      exact ⟨by omega, a2, a3.w (k11 g c) et ⟨Int.le_refl _, hq⟩⟩
  · by_cases c : g + 1 = nf
    · have a := (h.1 g (by omega)).2.2.2.1
      rw [c, e10, z_upe, k11 g (by omega)]
      omega
    · rw [e10, z_upn c, k11 g (by omega)]
      exact h.2 g (by omega)
def zWv (F : Nat → va_E) (sp : Nat) (nf : Int) (k : Nat) (v : Int32) : Prop := 0 ≤ v.toInt ∧ v.toInt < nf ∧ zar F sp 6 (Int32.toNatClampNeg v) = zar F sp 26 k
theorem zWv.s {B : Nat → va_E} {sp k k' : Nat} {nf : Int} {g g' : Nat → Int32} {x : Int32} (h : ∀ q, q < k → zar B sp 24 q = 5 → zWv B sp nf q (g q)) (e : g' = upd g k x) (hx : zWv B sp nf k x) (hk : k' = k + 1) : ∀ q, q < k' → zar B sp 24 q = 5 → zWv B sp nf q (g' q) := by
  intro q hq h5
  rw [e]
  by_cases c : q = k
  · subst c
    rw [z_upe]
    exact hx
  · rw [z_upn c]
    exact h q (by omega) h5
theorem zWv.n {B : Nat → va_E} {sp k k' : Nat} {nf : Int} {g : Nat → Int32} (h : ∀ q, q < k → zar B sp 24 q = 5 → zWv B sp nf q (g q)) (hn : zar B sp 24 k ≠ 5) (hk : k' = k + 1) : ∀ q, q < k' → zar B sp 24 q = 5 → zWv B sp nf q (g q) := by
  intro q hq h5
  by_cases c : q = k
  · subst c
    exact absurd h5 hn
  · exact h q (by omega) h5
def zWF (F : Nat → va_E) (sp : Nat) : Prop := ∃ nf ln it : Int32, zfld F sp 0 = .int nf ∧ zfld F sp 1 = .int ln ∧ zfld F sp 2 = .int it ∧ (∀ g, g < Int32.toNatClampNeg nf → (zar F sp 7 g).toInt < ln.toInt) ∧ zRL F sp (Int32.toNatClampNeg ln) (Int32.toNatClampNeg it) ∧ ∀ k, k < Int32.toNatClampNeg it → zar F sp 24 k = 5 → zWv F sp nf.toInt k (zar F sp 25 k)
theorem zWF.fr {Γ : Nat → Option Nat} {M : List Nat} {F u : Nat → va_E} {sp : Nat} (h : zWF F sp) (hA : zSA Γ F sp) (hf : zFr Γ M F u) (hM : (∀ j ∈ [0, 1, 2], 1100 + j ∉ M) ∧ ∀ j ∈ [6, 7, 13, 17, 18, 19, 20, 21, 22, 23, 24, 25, 26], 1100 + j ∉ M ∧ 100 * (120 + j) ∉ M) : zWF u sp := by
  have hr : ∀ j ∈ [6, 7, 13, 17, 18, 19, 20, 21, 22, 23, 24, 25, 26], 4 ≤ j ∧ j < 30 := by decide
  have e : ∀ j ∈ [6, 7, 13, 17, 18, 19, 20, 21, 22, 23, 24, 25, 26], zar u sp j = zar F sp j := fun j hj => hA.ar hf j ⟨(hr j hj).1, (hr j hj).2, (hM.2 j hj).1, (hM.2 j hj).2⟩
  obtain ⟨nf, ln, it, k1, k2, k3, k4, k5, k6⟩ := h
  refine ⟨nf, ln, it, hf.f hA.1 0 ⟨by decide, hM.1 0 (by decide)⟩ k1, hf.f hA.1 1 ⟨by decide, hM.1 1 (by decide)⟩ k2, hf.f hA.1 2 ⟨by decide, hM.1 2 (by decide)⟩ k3, ?_, k5.fr hA hf (fun j hj => hM.2 j ?_), ?_⟩
  · rw [e 7 (by decide)]
    exact k4
  · revert j
    decide
  · unfold zWv
    rw [e 24 (by decide), e 25 (by decide), e 6 (by decide), e 26 (by decide)]
    exact k6
theorem zRL.val {Γ : Nat → Option Nat} {F u : Nat → va_E} {sp n it : Nat} (h : zRL F sp n it) (hA : zSA Γ F sp) (hf : zFr Γ [14500] F u) (ev : ∀ q, zar F sp 24 q ≠ 5 → zar u sp 25 q = zar F sp 25 q) : zRL u sp n it := by
  intro q hq
  obtain ⟨a1, a2, a, b, a3, a4, a5, a6, a7⟩ := h q hq
  unfold zLn
  rw [hA.ar hf 13 (by decide), hA.ar hf 17 (by decide), hA.ar hf 18 (by decide), hA.ar hf 19 (by decide), hA.ar hf 20 (by decide), hA.ar hf 21 (by decide), hA.ar hf 22 (by decide), hA.ar hf 23 (by decide), hA.ar hf 24 (by decide), hA.ar hf 26 (by decide)]
  exact ⟨a1, a2, a, b, a3, a4, a5, a6, a7.as (fun k _ _ => ⟨rfl, fun h1 => ev k (by rw [h1]; decide), rfl⟩)⟩
theorem zWF.mk {Γ : Nat → Option Nat} {B u : Nat → va_E} {tp sp n : Nat} {nf ln it : Int32} {pl : Int} (hA : zSA Γ B sp) (hf : zFr Γ [14500] B u) (k1 : zfld u sp 0 = .int nf) (k2 : zfld u sp 1 = .int ln) (k3 : zfld u sp 2 = .int it) (hfn : zFn B tp sp (Int32.toNatClampNeg nf) (Int32.toNatClampNeg ln) pl) (hl : 0 ≤ ln.toInt) (hrl : zRL B sp (Int32.toNatClampNeg ln) (Int32.toNatClampNeg it)) (v1 : ∀ q, zar B sp 24 q ≠ 5 → zar u sp 25 q = zar B sp 25 q) (v2 : ∀ q, q < n → zar B sp 24 q = 5 → zWv B sp nf.toInt q (zar u sp 25 q)) (hn : Int32.toNatClampNeg it ≤ n) : zWF u sp := by
  refine ⟨nf, ln, it, k1, k2, k3, fun g hg => ?_, hrl.val hA hf v1, fun k hk h5 => ?_⟩
  · rw [hA.ar hf 7 (by decide)]
    have := (hfn.1 g hg).1
    have e := z_cl hl
    omega
  · rw [hA.ar hf 24 (by decide)] at h5
    have := v2 k (by omega) h5
    unfold zWv at this ⊢
    rw [hA.ar hf 6 (by decide), hA.ar hf 26 (by decide)]
    exact this
theorem zRL.z {F : Nat → va_E} {sp n it : Nat} (h : n = 0) : zRL F sp n it := fun l hl => by omega
theorem zFn.fr {Γ : Nat → Option Nat} {M : List Nat} {F u : Nat → va_E} {tp sp nf ln : Nat} {pl : Int} (h : zFn F tp sp nf ln pl) (hA : zSA Γ F sp) (htp : Γ tp = some 152) (hf : zFr Γ M F u) (hM : (1107 ∉ M ∧ 12700 ∉ M) ∧ (1110 ∉ M ∧ 13000 ∉ M) ∧ (1111 ∉ M ∧ 13100 ∉ M) ∧ 15200 ∉ M) : zFn u tp sp nf ln pl := by
  have e7 := hA.ar hf 7 ⟨by decide, by decide, hM.1.1, hM.1.2⟩
  have e10 := hA.ar hf 10 ⟨by decide, by decide, hM.2.1.1, hM.2.1.2⟩
  have e11 := hA.ar hf 11 ⟨by decide, by decide, hM.2.2.1.1, hM.2.2.1.2⟩
  have et := hf.elf htp ⟨by decide, hM.2.2.2⟩
  unfold zFn zTT
  rw [e7, e10, e11, et]
  exact h
