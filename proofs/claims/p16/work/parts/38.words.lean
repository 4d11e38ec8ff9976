/-! What runs tell: words of the reference's side. -/
/-- a Run that was made holds m's record -/
def zVt (F : Nat → va_E) (lt : Nat) (m : zVm) : Prop := zVe F lt m ∧ zFi F lt 0 (ven m) ∧ zfld F lt 1 = .int (vvl m)
theorem zVt.up {Γ : Nat → Option Nat} {k : Nat → ClassId} {L X : List Nat} {F u : Nat → va_E} {lt : Nat} {m : zVm} (h : zVt F lt m) (hI : zInv Γ k L F) (hX : zYm Γ F lt X) (hu : ∀ a ∈ X, u a = F a) : zVt u lt m := by
  have e : ∀ j, zfld u lt j = zfld F lt j := fun j => by
    unfold zfld
    rw [hu _ hX.1]
  have ea : ∀ (j c : Nat), (zsp 12)[j]? = some (2, (c : Int), 0) → zar u lt j = zar F lt j := fun j c q => by
    obtain ⟨t, -, et, q1, -⟩ := hX.2.2 lt hX.1
    cases Option.some.inj (hX.2.1.symm.trans et)
    obtain ⟨fs, -, -, g⟩ := (hI lt 12 hX.2.1).2.1 (by decide)
    obtain ⟨b, hb, -⟩ := g j _ q
    have hbX : b ∈ X := q1 (by decide) j _ b q (Or.inl rfl) hb
    rw [zar_eq hb, zar_eq ((e j).trans hb)]
    funext i
    unfold zel
    rw [hu b hbX]
  have ei : ∀ {j : Nat} {v : Int}, zFi F lt j v → zFi u lt j v := fun {j v} q => by
    obtain ⟨x, k1, k2⟩ := q
    exact ⟨x, (e j).trans k1, k2⟩
  obtain ⟨⟨h1, h2, h3, h4, h5, h6, h7, h8⟩, h9, h10⟩ := h
  exact ⟨⟨ei h1, (e 6).trans h2, ei h3, (ea 7 165 rfl).trans h4, ei h5, (ea 8 166 rfl).trans h6, ei h7, (ea 9 167 rfl).trans h8⟩, ei h9, (e 1).trans h10⟩
theorem zVt.fr {Γ : Nat → Option Nat} {k : Nat → ClassId} {L M : List Nat} {F u : Nat → va_E} {lt : Nat} {m : zVm} (h : zVt F lt m) (hI : zInv Γ k L F) (hf : zFr Γ M F u) (hw : Γ lt = some 12) (hM : (1200 ∉ M ∧ 1201 ∉ M) ∧ (1202 ∉ M ∧ 1203 ∉ M ∧ 1204 ∉ M ∧ 1205 ∉ M ∧ 1206 ∉ M) ∧ 1207 ∉ M ∧ 1208 ∉ M ∧ 1209 ∉ M ∧ 16500 ∉ M ∧ 16600 ∉ M ∧ 16700 ∉ M) : zVt u lt m := by
  obtain ⟨g2, g3, g4⟩ := h
  obtain ⟨hM0, hM, c7, c8, c9, a5, a6, a7⟩ := hM
  have hA : ∀ j c, (j = 7 ∧ c = 165) ∨ (j = 8 ∧ c = 166) ∨ (j = 9 ∧ c = 167) → zar u lt j = zar F lt j := fun j c q => by
    rcases q with ⟨q1, q2⟩ | ⟨q1, q2⟩ | ⟨q1, q2⟩
    · subst q1
      exact zVa (j := 7) (c := 165) hI hw hf ⟨by decide, rfl⟩ ⟨⟨by decide, c7⟩, by decide, a5⟩
    · subst q1
      exact zVa (j := 8) (c := 166) hI hw hf ⟨by decide, rfl⟩ ⟨⟨by decide, c8⟩, by decide, a6⟩
    · subst q1
      exact zVa (j := 9) (c := 167) hI hw hf ⟨by decide, rfl⟩ ⟨⟨by decide, c9⟩, by decide, a7⟩
  exact ⟨g2.fr hA hw hf hM, g3.fr hf hw ⟨by decide, hM0.1⟩, hf.f hw 1 ⟨by decide, hM0.2⟩ g4⟩
theorem zRz.vt {R fuel : Int} {d : zDat} {T : zTS} {V : Nat → Int} {u : Nat → va_E} {wk : Nat} {f : Int} {x y z : Int32} (h : zRz R fuel d T V u wk f x y z) : ∃ m, zEq m (zFx9 R fuel d T V f x y z) ∧ zVt u wk m := by
  obtain ⟨m, g1, g2, g3, g4, -⟩ := h
  exact ⟨m, g1, g2, g3, g4⟩
theorem zYm.st {Γ : Nat → Option Nat} {F u : Nat → va_E} {ma : Nat} {X Y : List Nat} (h : zYm Γ F ma X) (hd : ∀ a ∈ X, a ∉ Y) (hs : zYk Γ Y F u) : ∀ a ∈ X, u a = F a := fun a ha => by
  obtain ⟨t, ht, e, -⟩ := h.2.2 a ha
  exact hs a t e ht (hd a ha)
theorem v_like.eqr {a a' b b' : zVm} (h : zEq a' a) (g : zEq b' b) : v_like a' b' ↔ v_like a b := (v_like.eq h g).symm
