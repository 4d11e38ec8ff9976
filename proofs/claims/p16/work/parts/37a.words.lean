/-! What runs tell: words of the class's side. -/
/-- two runs tell the same -/
def v_like (m n : zVm) : Prop := (ven m = ven n ∧ vvl m = vvl n ∧ vsc m = vsc n) ∧ ∀ j, j < vsc m → j < 60 → vsd m j = vsd n j
/-- one bit as a number -/
def zcvb (x l : Nat) : Int32 := if x.testBit l then 1 else 0
/-- a machine whose own objects stood still -/
theorem zVc.up {Γ : Nat → Option Nat} {k : Nat → ClassId} {L X : List Nat} {F u : Nat → va_E} {th : Nat} {m : zVm} (h : zVc F th m) (hI : zInv Γ k L F) (hX : zMa Γ F th X) (hu : ∀ a ∈ X, u a = F a) : zVc u th m := by
  have e : ∀ j, zfld u th j = zfld F th j := fun j => by
    unfold zfld
    rw [hu _ hX.1]
  have ea : ∀ (j c : Nat), (zsp 5)[j]? = some (2, (c : Int), 0) → zar u th j = zar F th j := fun j c q => by
    obtain ⟨t, -, et, q1, -⟩ := hX.2.2 th hX.1
    cases Option.some.inj (hX.2.1.symm.trans et)
    obtain ⟨fs, -, -, g⟩ := (hI th 5 hX.2.1).2.1 (by decide)
    obtain ⟨b, hb, -⟩ := g j _ q
    have hbX : b ∈ X := q1 (by decide) j _ b q (Or.inl rfl) hb
    rw [zar_eq hb, zar_eq ((e j).trans hb)]
    funext i
    unfold zel
    rw [hu b hbX]
  have ei : ∀ {j : Nat} {v : Int}, zFi F th j v → zFi u th j v := fun {j v} q => by
    obtain ⟨x, k1, k2⟩ := q
    exact ⟨x, (e j).trans k1, k2⟩
  refine ⟨⟨ei h.en, (e 1).trans h.vl, ei h.go⟩, ⟨ei h.st, (e 6).trans h.cv, ei h.sc, ?_, ei h.tc, ?_, ei h.mx⟩, ⟨?_, ei h.dp, ?_, fun j hj => ?_⟩, ei h.tp, ?_, h.lh⟩
  · rw [ea 7 108 rfl]; exact h.sd
  · rw [ea 8 109 rfl]; exact h.tr
  · obtain ⟨x, k1, k2⟩ := h.nx
    exact ⟨x, (e 14).trans k1, k2⟩
  · rw [ea 9 110 rfl]; exact h.pl
  · rw [ea 16 111 rfl]; exact h.bk j hj
  · rw [ea 17 112 rfl]; exact h.sk
/-- objects of one family stood still where another family's ran -/
theorem zMa.st {Γ : Nat → Option Nat} {F u : Nat → va_E} {ma : Nat} {X Y : List Nat} (h : zMa Γ F ma X) (hd : ∀ a ∈ X, a ∉ Y) (hs : ∀ a t, Γ a = some t → t ∈ zS5 → a ∉ Y → u a = F a) : ∀ a ∈ X, u a = F a := fun a ha => by
  obtain ⟨t, ht, e, -⟩ := h.2.2 a ha
  exact hs a t e (List.mem_cons.mpr (by
    rcases List.mem_cons.mp ht with q | q
    · exact Or.inl q
    · exact Or.inr (List.mem_cons_of_mem _ q))) (hd a ha)
/-- how many of the first n wrong rules tell otherwise -/
noncomputable def zuns (W : Int → zVm) (t : zVm) : Nat → Nat
  | 0 => 0
  | n + 1 => zuns W t n + (@ite _ (v_like (W (n : Int)) t) (Classical.propDecidable _) 0 1)
theorem zuns_le (W : Int → zVm) (t : zVm) : ∀ n, zuns W t n ≤ n
  | 0 => Nat.le_refl 0
  | n + 1 => by
    have h := zuns_le W t n
    show zuns W t n + _ ≤ n + 1
    by_cases c : v_like (W (n : Int)) t
    · rw [if_pos c]
      omega
    · rw [if_neg c]
      omega
theorem zuns_y {W : Int → zVm} {t : zVm} {n : Nat} (h : v_like (W (n : Int)) t) : zuns W t (n + 1) = zuns W t n := by
  show zuns W t n + _ = _
  rw [if_pos h]
  rfl
theorem zuns_n {W : Int → zVm} {t : zVm} {n : Nat} (h : ¬ v_like (W (n : Int)) t) : zuns W t (n + 1) = zuns W t n + 1 := by
  show zuns W t n + _ = _
  rw [if_neg h]
theorem v_like.eq {a a' b b' : zVm} (h : zEq a a') (g : zEq b b') : v_like a' b' ↔ v_like a b := by
  obtain ⟨-, ⟨-, -, s3, s4, -⟩, e1, e2, -⟩ := h
  obtain ⟨-, ⟨-, -, t3, t4, -⟩, k1, k2, -⟩ := g
  unfold v_like
  constructor
  · rintro ⟨⟨q1, q2, q3⟩, q4⟩
    exact ⟨⟨e1.symm.trans (q1.trans k1), e2.symm.trans (q2.trans k2), s3.symm.trans (q3.trans t3)⟩, fun j h1 h2 => (s4 j h1 h2).symm.trans ((q4 j (by omega) h2).trans (t4 j (by omega) h2))⟩
  · rintro ⟨⟨q1, q2, q3⟩, q4⟩
    exact ⟨⟨e1.trans (q1.trans k1.symm), e2.trans (q2.trans k2.symm), s3.trans (q3.trans t3.symm)⟩, fun j h1 h2 => (s4 j (by omega) h2).trans ((q4 j (by omega) h2).trans (t4 j (by omega) h2).symm)⟩

theorem zFr.wholeC {Γ : Nat → Option Nat} {k : Nat → ClassId} {L M : List Nat} {F u : Nat → va_E} (hI : zInv Γ k L F) (hI' : zInv Γ k L u) (hf : zFr Γ M F u) (hM : ∀ m ∈ M, m / 100 ≠ 5 ∧ (m / 100 < 108 ∨ 112 < m / 100)) : zStill Γ F u := fun a t e h1 h2 => by
  by_cases c : t < 100
  · have ht : t = 5 := by
      have h1 : t ∈ [5, 10, 108, 109, 110, 111, 112] := h1
      simp only [List.mem_cons, List.not_mem_nil, or_false] at h1
      omega
    subst ht
    obtain ⟨fs, g1, g2, -⟩ := (hI a 5 e).2.1 (by decide)
    obtain ⟨fs', g1', g2', -⟩ := (hI' a 5 e).2.1 (by decide)
    rw [g1, g1']
    have : fs' = fs := by
      apply List.ext_getElem (by rw [g2, g2'])
      intro j hj hj'
      have h9 := (hf.1 a 5 e).1 (by decide) j (fun q => by have := hM _ q; have h8 : j < 19 := (by rw [g2'] at hj; exact hj); omega)
      unfold zfld at h9
      rw [g1, g1'] at h9
      have h9 : fs'.getD j .null = fs.getD j .null := h9
      rw [List.getD_eq_getElem?_getD, List.getD_eq_getElem?_getD, List.getElem?_eq_getElem hj, List.getElem?_eq_getElem hj'] at h9
      exact h9
    rw [this]
  · exact (hf.1 a t e).2 (by omega) (fun q => by
      have h8 := hM _ q
      have h1 : t ∈ [5, 10, 108, 109, 110, 111, 112] := h1
      simp only [List.mem_cons, List.not_mem_nil, or_false] at h1
      omega)
