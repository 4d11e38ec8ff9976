/-! Typed worlds that grow: constructors. -/
def zA0 (h0 sz : Nat) : Nat → Prop := fun q => q = h0 ∨ sz ≤ q
abbrev zW3 := (Nat → Option Nat) × List Nat × (Nat → va_E)
/-- a constructor's start: its object's cell alone -/
def zPi (D : va_G) (k : Nat → ClassId) (t : Nat) (fs : List Value) (h0 sz : Nat) (U : State) : Prop := U.heap.size = sz ∧ va_P D z_Cl [(h0, .inr (t, fs))] U.heap ∧ va_K D z_Cl (zT k) U ∧ z_N U ∧ z_st (zA0 h0 sz) U U.heap
/-- its end: a typed world that holds it -/
def zQi (D : va_G) (k : Nat → ClassId) (A : Nat → Prop) (u : zW3) (U : State) : Prop := va_P D z_Cl (va_pl u.2.1 u.2.2) U.heap ∧ u.2.1.Nodup ∧ (∀ a ∈ u.2.1, A a) ∧ zInv u.1 k u.2.1 u.2.2
def zY (p : Program) (m : MethodId) (c : Code) (cc : ByteArray) (nL : Nat) (s : State) (args : Array Value) (Ts : List Cond) (own : String) (D : va_G) (k : Nat → ClassId) (A : Nat → Prop) : Prop := CallFix p m c cc nL s args Ts own ∧ va_K D z_Cl (zT k) s ∧ z_N s ∧ z_st A s s.heap ∧ ∀ q, s.heap.size ≤ q → A q
def zU (D : va_G) (k : Nat → ClassId) (A : Nat → Prop) (s : State) (Γ : Nat → Option Nat) (L : List Nat) (F : Nat → va_E) (H : Heap) (locs : List Loc) : Prop := va_P D z_Cl (va_pl L F) H ∧ L.Nodup ∧ (∀ a ∈ L, A a) ∧ zInv Γ k L F ∧ va_S A s.heap H locs
theorem zj_D {A : Nat → Prop} {L : List Nat} {F : Nat → va_E} (h : L.Nodup) (hA : ∀ a ∈ L, A a) : va_D A (va_pl L F) := by
  refine ⟨fun i j p q hi hj hpq => ?_, fun k q hk => ?_⟩
  · simp only [va_pl, List.getElem?_map] at hi hj
    cases h1 : L[i]? with
    | none => rw [h1] at hi; cases hi
    | some a =>
      cases h2 : L[j]? with
      | none => rw [h2] at hj; cases hj
      | some b =>
        rw [h1] at hi; rw [h2] at hj
        cases Option.some.inj hi; cases Option.some.inj hj
        have hab : a = b := hpq
        subst hab
        exact (List.getElem?_inj (List.getElem?_eq_some_iff.mp h1).1 h).mp (h1.trans h2.symm)
  · have h9 := List.mem_of_getElem? hk
    simp only [va_pl, List.mem_map] at h9
    obtain ⟨b, hb, rfl⟩ := h9
    exact hA b hb
theorem zj_nd {A : Nat → Prop} {L : List Nat} {F : Nat → va_E} {q : Nat} {e : va_E} (h : va_D A (va_pl L F ++ [(q, e)])) : q ∉ L ∧ A q := by
  have hl : (va_pl L F ++ [(q, e)])[(va_pl L F).length]? = some (q, e) := by simp
  refine ⟨fun hq => ?_, h.2 _ _ hl⟩
  obtain ⟨j, hj⟩ := List.getElem?_of_mem hq
  have hj2 : (va_pl L F ++ [(q, e)])[j]? = some (q, F q) := by
    have hlt : j < L.length := (List.getElem?_eq_some_iff.mp hj).1
    rw [List.getElem?_append_left (by simp [va_pl]; exact hlt)]
    simp [va_pl, hj]
  have := h.1 _ _ _ _ hj2 hl rfl
  have hlt : j < L.length := (List.getElem?_eq_some_iff.mp hj).1
  have hlen : (va_pl L F).length = L.length := by simp [va_pl]
  omega
theorem zj_eq {L : List Nat} {F G : Nat → va_E} (h : ∀ a ∈ L, G a = F a) : va_pl L G = va_pl L F := by
  unfold va_pl
  exact List.map_congr_left (fun a ha => by rw [h a ha])
theorem zj_app {L : List Nat} {F : Nat → va_E} {q : Nat} {e : va_E} (hq : q ∉ L) : va_pl (L ++ [q]) (va_up F q e) = va_pl L F ++ [(q, e)] := by
  have h1 : va_pl L (va_up F q e) = va_pl L F := zj_eq (fun a ha => va_up_ne F e (fun h => hq (h ▸ ha)))
  have h2 : va_pl (L ++ [q]) (va_up F q e) = va_pl L (va_up F q e) ++ [(q, va_up F q e q)] := by simp [va_pl]
  rw [h2, h1, va_up_self]
theorem zj_nodup {L : List Nat} {q : Nat} (h : L.Nodup) (hq : q ∉ L) : (L ++ [q]).Nodup := by
  rw [List.nodup_append]
  exact ⟨h, by simp, fun a ha b hb => by simp at hb; subst hb; exact fun e => hq (e ▸ ha)⟩
/-- a world where one address more is typed; all others as they were -/
theorem zInv.add {Γ : Nat → Option Nat} {k : Nat → ClassId} {L L' : List Nat} {F F' : Nat → va_E} {q tc : Nat} (hI : zInv Γ k L F) (hq : Γ q = none) (hL : ∀ a ∈ L, a ∈ L') (hqL : q ∈ L') (hF : ∀ a, a ≠ q → F' a = F a)
    (ho : tc < 100 → zO (fun a => if a = q then some tc else Γ a) F' q tc) (ha : 100 ≤ tc → zAr (fun a => if a = q then some tc else Γ a) k F' q tc) : zInv (fun a => if a = q then some tc else Γ a) k L' F' := by
  have up : ∀ a t, Γ a = some t → (if a = q then some tc else Γ a) = some t := fun a t h => by
    by_cases c : a = q
    · subst c
      rw [hq] at h
      cases h
    · rw [if_neg c]
      exact h
  have hv : ∀ (x : Nat × Int × Int) (v : Value), zV Γ x v → zV (fun a => if a = q then some tc else Γ a) x v := by
    intro x v h
    obtain ⟨n, lo, hi⟩ := x
    unfold zV at h ⊢
    match n, h with
    | 0, h => exact h
    | 1, h => exact h
    | 2, ⟨b, h1, h2⟩ => exact ⟨b, h1, up _ _ h2⟩
    | 3, Or.inl h => exact Or.inl h
    | 3, Or.inr ⟨b, h1, h2⟩ => exact Or.inr ⟨b, h1, up _ _ h2⟩
    | n + 4, h => exact trivial
  intro a t hat
  by_cases c : a = q
  · subst c
    have e : t = tc := by
      have h9 : (if a = a then some tc else Γ a) = some t := hat
      rw [if_pos rfl] at h9
      exact (Option.some.inj h9).symm
    subst e
    exact ⟨hqL, ho, ha⟩
  · have h9 : (if a = q then some tc else Γ a) = some t := hat
    rw [if_neg c] at h9
    obtain ⟨g1, g2, g3⟩ := hI a t h9
    refine ⟨hL a g1, fun ht => ?_, fun ht => ?_⟩
    · obtain ⟨fs, k1, k2, k3⟩ := g2 ht
      refine ⟨fs, by rw [hF a c]; exact k1, k2, fun j x hx => ?_⟩
      have e : zfld F' a j = zfld F a j := by
        unfold zfld
        rw [hF a c]
      rw [e]
      exact hv x _ (k3 j x hx)
    · have := g3 ht
      unfold zAr at this ⊢
      rw [hF a c]
      generalize (zas t) = z at this ⊢
      obtain ⟨n, z2⟩ := z
      match n, this with
      | 0, h => exact h
      | 1, h => exact h
      | 2, h => exact h
      | 3, ⟨f, h1, h2⟩ => exact ⟨f, h1, fun i hi => (h2 i hi).elim (fun b hb => ⟨b, hb.1, up _ _ hb.2⟩)⟩
      | n + 4, ⟨f, h1, h2⟩ => exact ⟨f, h1, fun i hi => (h2 i hi).elim (fun b hb => ⟨b, hb.1, up _ _ hb.2⟩)⟩
/-- two worlds apart, as one -/
def zmg {α : Type} (L2 : List Nat) (f g : Nat → α) : Nat → α := fun a => if a ∈ L2 then g a else f a
theorem zInv.join {Γ Γ2 : Nat → Option Nat} {k : Nat → ClassId} {L L2 : List Nat} {F F2 : Nat → va_E} (hI : zInv Γ k L F) (hI2 : zInv Γ2 k L2 F2) (hd : ∀ a ∈ L, a ∉ L2) : zInv (zmg L2 Γ Γ2) k (L ++ L2) (zmg L2 F F2) ∧ (∀ a t, Γ a = some t → zmg L2 Γ Γ2 a = some t) ∧ (∀ a t, Γ2 a = some t → zmg L2 Γ Γ2 a = some t) := by
  have up1 : ∀ a t, Γ a = some t → zmg L2 Γ Γ2 a = some t := fun a t h => by
    unfold zmg
    rw [if_neg (hd a (hI a t h).1)]
    exact h
  have up2 : ∀ a t, Γ2 a = some t → zmg L2 Γ Γ2 a = some t := fun a t h => by
    unfold zmg
    rw [if_pos (hI2 a t h).1]
    exact h
  have hv : ∀ (Γ1 : Nat → Option Nat), (∀ a t, Γ1 a = some t → zmg L2 Γ Γ2 a = some t) → ∀ (x : Nat × Int × Int) (v : Value), zV Γ1 x v → zV (zmg L2 Γ Γ2) x v := by
    intro Γ1 up x v h
    obtain ⟨n, lo, hi⟩ := x
    unfold zV at h ⊢
    match n, h with
    | 0, h => exact h
    | 1, h => exact h
    | 2, ⟨b, h1, h2⟩ => exact ⟨b, h1, up _ _ h2⟩
    | 3, Or.inl h => exact Or.inl h
    | 3, Or.inr ⟨b, h1, h2⟩ => exact Or.inr ⟨b, h1, up _ _ h2⟩
    | n + 4, h => exact trivial
  have core : ∀ (Γ1 : Nat → Option Nat) (L1 : List Nat) (F1 : Nat → va_E), (∀ a t, Γ1 a = some t → zmg L2 Γ Γ2 a = some t) → zInv Γ1 k L1 F1 → ∀ a t, Γ1 a = some t → zmg L2 F F2 a = F1 a → (t < 100 → zO (zmg L2 Γ Γ2) (zmg L2 F F2) a t) ∧ (100 ≤ t → zAr (zmg L2 Γ Γ2) k (zmg L2 F F2) a t) := by
    intro Γ1 L1 F1 up h1 a t ht hF
    obtain ⟨g1, g2, g3⟩ := h1 a t ht
    refine ⟨fun h => ?_, fun h => ?_⟩
    · obtain ⟨fs, k1, k2, k3⟩ := g2 h
      refine ⟨fs, by rw [hF]; exact k1, k2, fun j x hx => ?_⟩
      have e : zfld (zmg L2 F F2) a j = zfld F1 a j := by
        unfold zfld
        rw [hF]
      rw [e]
      exact hv Γ1 up x _ (k3 j x hx)
    · have := g3 h
      unfold zAr at this ⊢
      rw [hF]
      generalize (zas t) = z at this ⊢
      obtain ⟨n, z2⟩ := z
      match n, this with
      | 0, h => exact h
      | 1, h => exact h
      | 2, h => exact h
      | 3, ⟨f, h1, h2⟩ => exact ⟨f, h1, fun i hi => (h2 i hi).elim (fun b hb => ⟨b, hb.1, up _ _ hb.2⟩)⟩
      | n + 4, ⟨f, h1, h2⟩ => exact ⟨f, h1, fun i hi => (h2 i hi).elim (fun b hb => ⟨b, hb.1, up _ _ hb.2⟩)⟩
  refine ⟨fun a t hat => ?_, up1, up2⟩
  by_cases c : a ∈ L2
  · have h9 : Γ2 a = some t := by
      have : zmg L2 Γ Γ2 a = some t := hat
      unfold zmg at this
      rw [if_pos c] at this
      exact this
    obtain ⟨q1, q2⟩ := core Γ2 L2 F2 up2 hI2 a t h9 (by unfold zmg; rw [if_pos c])
    exact ⟨List.mem_append_right _ c, q1, q2⟩
  · have h9 : Γ a = some t := by
      have : zmg L2 Γ Γ2 a = some t := hat
      unfold zmg at this
      rw [if_neg c] at this
      exact this
    obtain ⟨q1, q2⟩ := core Γ L F up1 hI a t h9 (by unfold zmg; rw [if_neg c])
    exact ⟨List.mem_append_left _ (hI a t h9).1, q1, q2⟩
