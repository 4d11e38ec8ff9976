/-! What stands between the reference's calls: no Program, or a whole one, and runs told of its functions. -/
def zMI (Γ : Nat → Option Nat) (F : Nat → va_E) (th pr : Nat) : Prop := zSA Γ F pr ∧ ∃ (i n : Int32) (ro : Nat), zfld F th 7 = .int i ∧ zfld F th 32 = .int n ∧ zfld F th 34 = .ref ro ∧ Γ ro = some 151 ∧ (i.toInt = 0 → n.toInt = 0) ∧ (i.toInt ≠ 0 → zWF F pr ∧ ∃ nf : Int32, zfld F pr 0 = .int nf ∧ ∀ k, k < Int32.toNatClampNeg n → (zel F ro k).toInt < nf.toInt)
theorem zMI.fr {Γ : Nat → Option Nat} {M : List Nat} {F u : Nat → va_E} {th pr : Nat} (h : zMI Γ F th pr) (hf : zFr Γ M F u) (hth : Γ th = some 14) (hM : ((∀ j, j < 30 → 4 ≤ j → 1100 + j ∉ M) ∧ ((∀ j ∈ [0, 1, 2], 1100 + j ∉ M) ∧ ∀ j ∈ [6, 7, 13, 17, 18, 19, 20, 21, 22, 23, 24, 25, 26], 1100 + j ∉ M ∧ 100 * (120 + j) ∉ M)) ∧ (1407 ∉ M ∧ 1432 ∉ M ∧ 1434 ∉ M ∧ 15100 ∉ M)) : zMI Γ u th pr := by
  obtain ⟨hA, i, n, ro, k1, k2, k3, k4, k5, k6⟩ := h
  refine ⟨hA.fr hf hM.1.1, i, n, ro, hf.f hth 7 ⟨by decide, hM.2.1⟩ k1, hf.f hth 32 ⟨by decide, hM.2.2.1⟩ k2, hf.f hth 34 ⟨by decide, hM.2.2.2.1⟩ k3, k4, k5, fun hi => ?_⟩
  obtain ⟨w, nf, g1, g2⟩ := k6 hi
  refine ⟨w.fr hA hf hM.1.2, nf, hf.f hA.1 0 ⟨by decide, hM.1.2.1 0 (by decide)⟩ g1, ?_⟩
  rw [hf.elf k4 ⟨by decide, hM.2.2.2.2⟩]
  exact g2
theorem zMI.wf {Γ : Nat → Option Nat} {F : Nat → va_E} {th pr : Nat} (h : zMI Γ F th pr) {i : Int32} (k : zfld F th 7 = .int i) (hi : i.toInt ≠ 0) : zWG Γ F pr := by
  obtain ⟨hA, i', n, ro, k1, k2, k3, k4, k5, k6⟩ := h
  cases z_vi k k1
  exact ⟨hA, (k6 hi).1⟩
theorem zMI.at {Γ : Nat → Option Nat} {F : Nat → va_E} {th pr ro : Nat} (h : zMI Γ F th pr) {n k : Int32} (k2 : zfld F th 32 = .int n) (k3 : zfld F th 34 = .ref ro) (h0 : 0 ≤ k.toInt) (hk : k.toInt < n.toInt) : zWG Γ F pr ∧ ∃ nf : Int32, zfld F pr 0 = .int nf ∧ (zel F ro (Int32.toNatClampNeg k)).toInt < nf.toInt := by
  obtain ⟨hA, i, n', ro', g1, g2, g3, g4, g5, g6⟩ := h
  cases z_vi k2 g2
  cases Value.ref.inj (k3.symm.trans g3)
  obtain ⟨w, nf, q1, q2⟩ := g6 (fun q => by have := g5 q; omega)
  exact ⟨⟨hA, w⟩, nf, q1, q2 _ (by rw [Int32.toNatClampNeg, Int32.toNatClampNeg]; omega)⟩
theorem zel_st {F0 F1 : Nat → va_E} {b i : Nat} {x : Int32} (e : zel F1 b i = x) (g : ∀ b' j' : Nat, (b' ≠ b ∨ j' ≠ i) → zel F1 b' j' = zel F0 b' j') : zel F1 b = upd (zel F0 b) i x := by
  funext n
  unfold upd
  by_cases q : n = i
  · rw [if_pos q, q]
    exact e
  · rw [if_neg q]
    exact g b n (Or.inr q)
theorem zMI.tell {Γ : Nat → Option Nat} {M : List Nat} {F u : Nat → va_E} {th pr ro : Nat} {i n n' f nf : Int32} (h : zMI Γ F th pr) (hf : zFr Γ M F u) (hth : Γ th = some 14) (hM : ((∀ j, j < 30 → 4 ≤ j → 1100 + j ∉ M) ∧ ((∀ j ∈ [0, 1, 2], 1100 + j ∉ M) ∧ ∀ j ∈ [6, 7, 13, 17, 18, 19, 20, 21, 22, 23, 24, 25, 26], 1100 + j ∉ M ∧ 100 * (120 + j) ∉ M)) ∧ (1407 ∉ M ∧ 1434 ∉ M)) (k1 : zfld F th 7 = .int i) (hi : i.toInt ≠ 0) (k2 : zfld F th 32 = .int n) (k2' : zfld u th 32 = .int n') (h0 : 0 ≤ n.toInt) (hn : n'.toInt = n.toInt + 1) (k3 : zfld F th 34 = .ref ro) (e : zel u ro = upd (zel F ro) (Int32.toNatClampNeg n) f) (kf : zfld F pr 0 = .int nf) (hff : f.toInt < nf.toInt) : zMI Γ u th pr := by
  obtain ⟨hA, i', m, ro', g1, g2, g3, g4, g5, g6⟩ := h
  cases z_vi k1 g1
  cases z_vi k2 g2
  cases Value.ref.inj (k3.symm.trans g3)
  obtain ⟨w, nf', q1, q2⟩ := g6 hi
  cases z_vi kf q1
  refine ⟨hA.fr hf hM.1.1, i, n', ro, hf.f hth 7 ⟨by decide, hM.2.1⟩ k1, k2', hf.f hth 34 ⟨by decide, hM.2.2⟩ k3, g4, fun q => absurd q hi, fun _ => ⟨w.fr hA hf hM.1.2, nf, hf.f hA.1 0 ⟨by decide, hM.1.2.1 0 (by decide)⟩ q1, fun k hk => ?_⟩⟩
  rw [e]
  by_cases c : k = Int32.toNatClampNeg n
  · subst c
    rw [z_upe]
    exact hff
  · rw [z_upn c]
    have := z_cs h0 hn
    exact q2 k (by omega)
def zmu (a b : Int32) : Nat := 2 * (4294967296 - a.toBitVec.toNat) + (if a = b then 0 else 1)
theorem zmu_lt {m h m' : Int32} (h1 : m.toBitVec.toNat ≤ m'.toBitVec.toNat) (h2 : m.toInt ≠ h.toInt) : zmu m' m < zmu m h := by
  have q : m ≠ h := fun e => h2 (by rw [e])
  have l1 := m.toBitVec.isLt
  have l2 := m'.toBitVec.isLt
  unfold zmu
  rw [if_neg q]
  by_cases c : m' = m
  · subst c
    rw [if_pos rfl]
    omega
  · have : m'.toBitVec.toNat ≠ m.toBitVec.toNat := fun e => c (Int32.toBitVec_inj.mp (BitVec.eq_of_toNat_eq e))
    rw [if_neg c]
    omega
theorem z_or_le {x y z : Int32} {n : Nat} (e : z = x ||| y) (h : n ≤ x.toBitVec.toNat) : n ≤ z.toBitVec.toNat := by
  have e1 : z.toBitVec = x.toBitVec ||| y.toBitVec := by
    rw [e]
    rfl
  rw [e1, BitVec.toNat_or]
  exact Nat.le_trans h Nat.left_le_or
