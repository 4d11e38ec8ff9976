/-! What stands between two steps of the law. -/
theorem zWF.cg {F u : Nat → va_E} {sp : Nat} (h : zWF F sp) (e0 : u sp = F sp) (e : ∀ j ∈ [6, 7, 13, 17, 18, 19, 20, 21, 22, 23, 24, 25, 26], zar u sp j = zar F sp j) : zWF u sp := by
  have ef : ∀ j, zfld u sp j = zfld F sp j := fun j => by
    unfold zfld
    rw [e0]
  obtain ⟨nf, ln, it, k1, k2, k3, k4, k5, k6⟩ := h
  refine ⟨nf, ln, it, (ef 0).trans k1, (ef 1).trans k2, (ef 2).trans k3, ?_, ?_, ?_⟩
  · rw [e 7 (by decide)]
    exact k4
  · intro q hq
    have := k5 q hq
    unfold zLn at this ⊢
    rw [e 13 (by decide), e 17 (by decide), e 18 (by decide), e 19 (by decide), e 20 (by decide), e 21 (by decide), e 22 (by decide), e 23 (by decide), e 24 (by decide), e 25 (by decide), e 26 (by decide)]
    exact this
  · unfold zWv
    rw [e 24 (by decide), e 25 (by decide), e 6 (by decide), e 26 (by decide)]
    exact k6
theorem zFm.fr {Γ : Nat → Option Nat} {M : List Nat} {F u : Nat → va_E} {X : List Nat} {pr : Nat} (h : zFm Γ F X pr) (hf : zFr Γ M F u) (hM : ∀ j, j < 30 → 4 ≤ j → 1100 + j ∉ M) : zFm Γ u X pr := by
  refine ⟨h.1, h.2.1, h.2.2.1, fun j h1 h2 => ?_⟩
  obtain ⟨b, g1, g2, g3⟩ := h.2.2.2 j h1 h2
  exact ⟨b, hf.f h.2.1 j ⟨by decide, hM j h2 h1⟩ g1, g2, g3⟩
def zFP (Γ : Nat → Option Nat) (F : Nat → va_E) (pr pq sp : Nat) (Lp Lq Ls : List Nat) : Prop := zFm Γ F Lp pr ∧ zFm Γ F Lq pq ∧ zFm Γ F Ls sp ∧ (∀ a ∈ Lp, a ∉ Lq) ∧ (∀ a ∈ Lp, a ∉ Ls) ∧ (∀ a ∈ Lq, a ∉ Ls) ∧ ∀ a, Γ a = some 11 → a = pr ∨ a = pq ∨ a = sp
def zIw (Γ : Nat → Option Nat) (F : Nat → va_E) (th mo o : Nat) : Prop := Γ th = some 10 ∧ Γ mo = some 14 ∧ Γ o = some 154 ∧ ∃ (pr pq sp : Nat) (Lp Lq Ls : List Nat), zfld F mo 4 = .ref pr ∧ zfld F mo 5 = .ref pq ∧ zfld F mo 6 = .ref sp ∧ zFP Γ F pr pq sp Lp Lq Ls ∧ zMI Γ F mo pr
def zFe (F : Nat → va_E) (th mo : Nat) (fe : Int32) : Prop := zfld F th 1 = .int fe ∧ zfld F mo 11 = .int fe ∧ zB 0 600 fe
def zMok (M : List Nat) : Prop := (((∀ j, j < 30 → 4 ≤ j → 1100 + j ∉ M) ∧ ((∀ j ∈ [0, 1, 2], 1100 + j ∉ M) ∧ ∀ j ∈ [6, 7, 13, 17, 18, 19, 20, 21, 22, 23, 24, 25, 26], 1100 + j ∉ M ∧ 100 * (120 + j) ∉ M)) ∧ (1407 ∉ M ∧ 1432 ∉ M ∧ 1434 ∉ M ∧ 15100 ∉ M)) ∧ 1404 ∉ M ∧ 1405 ∉ M ∧ 1406 ∉ M
theorem zFP.fr {Γ : Nat → Option Nat} {M : List Nat} {F u : Nat → va_E} {pr pq sp : Nat} {Lp Lq Ls : List Nat} (h : zFP Γ F pr pq sp Lp Lq Ls) (hf : zFr Γ M F u) (hM : ∀ j, j < 30 → 4 ≤ j → 1100 + j ∉ M) : zFP Γ u pr pq sp Lp Lq Ls :=
  ⟨h.1.fr hf hM, h.2.1.fr hf hM, h.2.2.1.fr hf hM, h.2.2.2⟩
theorem zIw.fr {Γ : Nat → Option Nat} {M : List Nat} {F u : Nat → va_E} {th mo o : Nat} (h : zIw Γ F th mo o) (hf : zFr Γ M F u) (hM : zMok M) : zIw Γ u th mo o := by
  obtain ⟨h1, h2, h3, pr, pq, sp, Lp, Lq, Ls, k1, k2, k3, k4, k5⟩ := h
  exact ⟨h1, h2, h3, pr, pq, sp, Lp, Lq, Ls, hf.f h2 4 ⟨by decide, hM.2.1⟩ k1, hf.f h2 5 ⟨by decide, hM.2.2.1⟩ k2, hf.f h2 6 ⟨by decide, hM.2.2.2⟩ k3, k4.fr hf hM.1.1.1, k5.fr hf h2 hM.1⟩
theorem zFe.fr {Γ : Nat → Option Nat} {M : List Nat} {F u : Nat → va_E} {th mo : Nat} {fe : Int32} (h : zFe F th mo fe) (hf : zFr Γ M F u) (h1 : Γ th = some 10) (h2 : Γ mo = some 14) (hM : 1001 ∉ M ∧ 1411 ∉ M) : zFe u th mo fe :=
  ⟨hf.f h1 1 ⟨by decide, hM.1⟩ h.1, hf.f h2 11 ⟨by decide, hM.2⟩ h.2.1, h.2.2⟩
/-- the world without the Programs p and past -/
def zVw (Γ : Nat → Option Nat) (X : List Nat) : Nat → Option Nat := fun a => if a ∈ X then none else Γ a
theorem zVw.of {Γ : Nat → Option Nat} {X : List Nat} {a t : Nat} (h : zVw Γ X a = some t) : a ∉ X ∧ Γ a = some t := by
  unfold zVw at h
  split at h
  · cases h
  · exact ⟨by assumption, h⟩
theorem zVw.to {Γ : Nat → Option Nat} {X : List Nat} {a t : Nat} (h : Γ a = some t) (hx : a ∉ X) : zVw Γ X a = some t := by
  unfold zVw
  rw [if_neg hx]
  exact h
abbrev zNo (t : Nat) : Prop := t ≠ 11 ∧ ¬ (124 ≤ t ∧ t ≤ 149)
theorem zNo_sp0 : ∀ t, t < 15 → t ≠ 11 → (zsp t).all (fun q => !(q.1 == 2 || q.1 == 3) || decide (zNo q.2.1.toNat)) = true := by decide +kernel
theorem zNo_sp (t : Nat) (ht : t < 15) (h11 : t ≠ 11) (q : Nat × Int × Int) (hq : q ∈ zsp t) (hk : q.1 = 2 ∨ q.1 = 3) : zNo q.2.1.toNat := by
  have h := List.all_eq_true.mp (zNo_sp0 t ht h11) q hq
  rcases hk with hk | hk
  · rw [hk] at h
    exact of_decide_eq_true h
  · rw [hk] at h
    exact of_decide_eq_true h
theorem zNo_sp' (t : Nat) (ht : t ≠ 11) (q : Nat × Int × Int) (hq : q ∈ zsp t) (hk : q.1 = 2 ∨ q.1 = 3) : zNo q.2.1.toNat := by
  by_cases c : t < 15
  · exact zNo_sp t c ht q hq hk
  · have e : zsp t = [] := by
      unfold zsp
      rw [List.getD_eq_getElem?_getD, List.getElem?_eq_none (by have : zspec.length = 15 := (by decide +kernel); omega)]
      rfl
    rw [e] at hq
    cases hq
theorem zNo_ar0 : ∀ q ∈ zarrs, 3 ≤ q.1 → zNo q.2.2.1.toNat := by decide +kernel
theorem zNo_ar (t : Nat) (h : 3 ≤ (zas t).1) : zNo (zas t).2.2.1.toNat := by
  unfold zas at h ⊢
  rw [List.getD_eq_getElem?_getD] at h ⊢
  cases e : zarrs[t - 100]? with
  | none => decide
  | some q =>
    rw [e] at h
    exact zNo_ar0 q (List.mem_of_getElem? e) h
theorem zFm.no2 {Γ : Nat → Option Nat} {F : Nat → va_E} {X : List Nat} {pr b t : Nat} (h : zFm Γ F X pr) (hb : Γ b = some t) (ht : zNo t) : b ∉ X := fun hx => by
  rcases h.2.2.1 b hx with q | ⟨t', q, q2⟩
  · have q1 := h.2.1
    rw [← q, hb] at q1
    injection q1 with q1
    exact ht.1 q1
  · rw [hb] at q
    injection q with q
    exact ht.2 (by omega)
theorem zview1 {Γ : Nat → Option Nat} {k : Nat → ClassId} {L : List Nat} {F : Nat → va_E} {pr pq sp : Nat} {Lp Lq Ls : List Nat} (hI : zInv Γ k L F) (h : zFP Γ F pr pq sp Lp Lq Ls) : zInv (zVw Γ (Lp ++ Lq)) k L F := by
  obtain ⟨f1, f2, f3, d1, d2, d3, h11⟩ := h
  have hno : ∀ b t, Γ b = some t → zNo t → b ∉ Lp ++ Lq := fun b t hb ht hx => (List.mem_append.mp hx).elim (f1.no2 hb ht) (f2.no2 hb ht)
  intro a t hat
  obtain ⟨hx, ha⟩ := zVw.of hat
  obtain ⟨g1, g2, g3⟩ := hI a t ha
  refine ⟨g1, fun ht => (g2 ht).mono rfl (fun j q b hq hk hv hb => ?_), fun ht => (g3 ht).mono rfl (fun b hk hb => zVw.to hb (hno b _ hb (zNo_ar t hk)))⟩
  by_cases c : t = 11
  · subst c
    have hasp : a = sp := by
      rcases h11 a ha with q | q | q
      · exact absurd (List.mem_append_left _ (by rw [q]; exact f1.1)) hx
      · exact absurd (List.mem_append_right _ (by rw [q]; exact f2.1)) hx
      · exact q
    subst hasp
    have hj : 4 ≤ j ∧ j < 30 := by
      have : ∀ j, j < 30 → j < 4 → ∀ q, (zsp 11)[j]? = some q → ¬ (q.1 = 2 ∨ q.1 = 3) := by decide +kernel
      have hl := (List.getElem?_eq_some_iff.mp hq).1
      have hl9 : (zsp 11).length = 30 := by decide +kernel
      exact ⟨Nat.le_of_not_lt (fun h4 => this j (by omega) h4 q hq hk), by omega⟩
    obtain ⟨b', e1, e2, e3⟩ := f3.2.2.2 j hj.1 hj.2
    cases Value.ref.inj (hv.symm.trans e1)
    exact zVw.to hb (fun hx9 => (List.mem_append.mp hx9).elim (fun h9 => d2 b h9 e2) (fun h9 => d3 b h9 e2))
  · exact zVw.to hb (hno b _ hb (zNo_sp' t c q (List.mem_of_getElem? hq) hk))
theorem zview2 {Γ : Nat → Option Nat} {k : Nat → ClassId} {L X M : List Nat} {F u : Nat → va_E} (hI : zInv Γ k L F) (hI' : zInv (zVw Γ X) k L u) (hf : zFr (zVw Γ X) M F u) : zInv Γ k L u ∧ zFr Γ M F u := by
  have hu : ∀ a, a ∈ X → u a = F a := fun a ha => hf.2 a (by unfold zVw; rw [if_pos ha])
  have hm : ∀ b t, zVw Γ X b = some t → Γ b = some t := fun b t h => (zVw.of h).2
  refine ⟨fun a t ha => ?_, fun a t ha => ?_, fun a ha => ?_⟩
  · by_cases c : a ∈ X
    · obtain ⟨g1, g2, g3⟩ := hI a t ha
      exact ⟨g1, fun ht => (g2 ht).mono (hu a c) (fun _ _ _ _ _ _ hb => hb), fun ht => (g3 ht).mono (hu a c) (fun _ _ hb => hb)⟩
    · obtain ⟨g1, g2, g3⟩ := hI' a t (zVw.to ha c)
      exact ⟨g1, fun ht => (g2 ht).mono rfl (fun _ _ b _ _ _ hb => hm b _ hb), fun ht => (g3 ht).mono rfl (fun b _ hb => hm b _ hb)⟩
  · by_cases c : a ∈ X
    · exact ⟨fun _ j _ => by unfold zfld; rw [hu a c], fun _ _ => hu a c⟩
    · exact hf.1 a t (zVw.to ha c)
  · refine hf.2 a ?_
    unfold zVw
    split
    · rfl
    · exact ha
