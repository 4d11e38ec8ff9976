/-! A whole Program, as runs use it. -/
def zWG (Γ : Nat → Option Nat) (F : Nat → va_E) (pr : Nat) : Prop := zSA Γ F pr ∧ zWF F pr
theorem zWG.fr {Γ : Nat → Option Nat} {M : List Nat} {F u : Nat → va_E} {pr : Nat} (h : zWG Γ F pr) (hf : zFr Γ M F u) (hM : (∀ j, j < 30 → 4 ≤ j → 1100 + j ∉ M) ∧ ((∀ j ∈ [0, 1, 2], 1100 + j ∉ M) ∧ ∀ j ∈ [6, 7, 13, 17, 18, 19, 20, 21, 22, 23, 24, 25, 26], 1100 + j ∉ M ∧ 100 * (120 + j) ∉ M)) : zWG Γ u pr := ⟨h.1.fr hf hM.1, h.2.fr h.1 hf hM.2⟩
theorem zWG.first {Γ : Nat → Option Nat} {F : Nat → va_E} {pr : Nat} (h : zWG Γ F pr) {nf ln f : Int32} (k0 : zfld F pr 0 = .int nf) (k1 : zfld F pr 1 = .int ln) (h0 : 0 ≤ f.toInt) (hf : f.toInt < nf.toInt) : (zar F pr 7 (Int32.toNatClampNeg f)).toInt < ln.toInt := by
  obtain ⟨-, nf', ln', it', g0, g1, g2, g3, -⟩ := h
  cases z_vi k0 g0
  cases z_vi k1 g1
  exact g3 _ (by rw [Int32.toNatClampNeg, Int32.toNatClampNeg]; omega)
theorem zWG.ln {Γ : Nat → Option Nat} {F : Nat → va_E} {pr : Nat} (h : zWG Γ F pr) {ln l : Int32} (k1 : zfld F pr 1 = .int ln) (h0 : 0 ≤ l.toInt) (hl : l.toInt < ln.toInt) : (zar F pr 13 (Int32.toNatClampNeg l) = 0 → 0 ≤ (zar F pr 17 (Int32.toNatClampNeg l)).toInt) ∧ (zar F pr 18 (Int32.toNatClampNeg l)).toInt < ln.toInt ∧ (zar F pr 20 (Int32.toNatClampNeg l)).toInt < ln.toInt ∧ (zar F pr 21 (Int32.toNatClampNeg l)).toInt < ln.toInt ∧ (zar F pr 19 (Int32.toNatClampNeg l)).toInt < l.toInt := by
  obtain ⟨-, nf', ln', it', g0, g1, g2, g3, g4, -⟩ := h
  cases z_vi k1 g1
  have e1 := z_cl (x := l) h0
  have e2 := z_cl (x := ln) (by omega)
  obtain ⟨a1, ⟨a2, a3, a4, a5⟩, -⟩ := g4 _ (show Int32.toNatClampNeg l < Int32.toNatClampNeg ln by omega)
  exact ⟨a1, by omega, by omega, by omega, by omega⟩
theorem z_clN {x : Int32} {n : Nat} (h : x.toInt = n) : Int32.toNatClampNeg x = n := by
  rw [Int32.toNatClampNeg]
  omega
theorem zWG.seg {Γ : Nat → Option Nat} {F : Nat → va_E} {pr : Nat} (h : zWG Γ F pr) {ln it l : Int32} (k1 : zfld F pr 1 = .int ln) (k2 : zfld F pr 2 = .int it) (h0 : 0 ≤ l.toInt) (hl : l.toInt < ln.toInt) {x y : Int32} (hx : zar F pr 22 (Int32.toNatClampNeg l) = x) (hy : zar F pr 23 (Int32.toNatClampNeg l) = y) : ∃ hs : Nat → Nat, hs (Int32.toNatClampNeg x) = 0 ∧ hs (Int32.toNatClampNeg y) = 1 ∧ (∀ k, Int32.toNatClampNeg x ≤ k → k ≤ Int32.toNatClampNeg y → hs k ≤ 31) ∧ (∀ k, Int32.toNatClampNeg x ≤ k → k < Int32.toNatClampNeg y → zStep (zar F pr 24 k) (zar F pr 25 k) (zar F pr 26 k) (hs k) (hs (k + 1))) ∧ Int32.toNatClampNeg x ≤ Int32.toNatClampNeg y ∧ Int32.toNatClampNeg y ≤ Int32.toNatClampNeg it := by
  obtain ⟨-, nf', ln', it', g0, g1, g2, g3, g4, -⟩ := h
  cases z_vi k1 g1
  cases z_vi k2 g2
  have e1 := z_cl (x := l) h0
  have e2 := z_cl (x := ln) (by omega)
  obtain ⟨-, -, a, b, b1, b2, b3, b4, hs, c1, c2, c3, c4⟩ := g4 _ (show Int32.toNatClampNeg l < Int32.toNatClampNeg ln by omega)
  rw [hx] at b1
  rw [hy] at b2
  rw [z_clN b1, z_clN b2]
  exact ⟨hs, c1, c2, c3, c4, b3, b4⟩
theorem zWG.call {Γ : Nat → Option Nat} {F : Nat → va_E} {pr : Nat} (h : zWG Γ F pr) {nf it : Int32} (k0 : zfld F pr 0 = .int nf) (k2 : zfld F pr 2 = .int it) {k : Nat} (hk : k < Int32.toNatClampNeg it) (h5 : zar F pr 24 k = 5) : zWv F pr nf.toInt k (zar F pr 25 k) := by
  obtain ⟨-, nf', ln', it', g0, g1, g2, g3, g4, g5⟩ := h
  cases z_vi k0 g0
  cases z_vi k2 g2
  exact g5 k hk h5
theorem zStep.push {s v m : Int32} {h h' : Nat} (q : zStep s v m h h') (hs : s.toInt = 0 ∨ s.toInt = 1) : h' = h + 1 := by
  rcases q with ⟨a, b⟩ | ⟨a, b, c, d⟩ | ⟨a, k, b, c, d⟩ | ⟨a, b, c, d, e⟩
  · exact b
  · exact d
  · subst a
    exact absurd hs (by decide)
  · rcases hs with hs | hs
    · exact absurd (Int32.toInt_inj.mp hs : s = 0) a
    · exact absurd (Int32.toInt_inj.mp hs : s = 1) b
theorem zStep.place {s v m : Int32} {h h' : Nat} (q : zStep s v m h h') (hs : s.toInt = 1) : 0 ≤ v.toInt ∧ v.toInt ≤ 7 := by
  rcases q with ⟨a, b⟩ | ⟨a, b, c, d⟩ | ⟨a, k, b, c, d⟩ | ⟨a, b, c, d, e⟩
  · subst a
    exact absurd hs (by decide)
  · exact ⟨b, c⟩
  · subst a
    exact absurd hs (by decide)
  · exact absurd (Int32.toInt_inj.mp hs : s = 1) b
theorem zStep.call {s v m : Int32} {h h' : Nat} (q : zStep s v m h h') (hs : s.toInt = 5) : ∃ n : Nat, m.toInt = n ∧ n ≤ h ∧ h' + n = h + 1 := by
  rcases q with ⟨a, b⟩ | ⟨a, b, c, d⟩ | ⟨a, k, b, c, d⟩ | ⟨a, b, c, d, e⟩
  · subst a
    exact absurd hs (by decide)
  · subst a
    exact absurd hs (by decide)
  · exact ⟨k, b, c, d⟩
  · exact absurd (Int32.toInt_inj.mp hs : s = 5) c
theorem zStep.bin {s v m : Int32} {h h' : Nat} (q : zStep s v m h h') (h0 : s.toInt ≠ 0) (h1 : s.toInt ≠ 1) (h5 : s.toInt ≠ 5) : 2 ≤ h ∧ h' + 1 = h := by
  rcases q with ⟨a, b⟩ | ⟨a, b, c, d⟩ | ⟨a, k, b, c, d⟩ | ⟨a, b, c, d, e⟩
  · subst a
    exact absurd rfl h0
  · subst a
    exact absurd rfl h1
  · subst a
    exact absurd rfl h5
  · exact ⟨d, e⟩
