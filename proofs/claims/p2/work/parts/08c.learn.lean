/-- a number field's value, without a step -/
theorem z_learn {D : va_G} {k : Nat → ClassId} {Γ : Nat → Option Nat} {L : List Nat} {s : State} {F : Nat → va_E} {H : Heap} {locs : List Loc} {a t j : Nat} {lo hi : Int} (h : zH D k Γ L s F H locs) (ha : Γ a = some t) (ht : t < 100) (hq : (zsp t)[j]? = some (0, lo, hi)) : ∃ x : Int32, zfld F a j = .int x ∧ zB lo hi x := by
  obtain ⟨hP, hI, hS⟩ := h
  obtain ⟨hL, hO, -⟩ := hI a t ha
  obtain ⟨fs, hF, hlen, hall⟩ := hO ht
  exact hall j _ hq
