/-! Views: a world in which the Programs' objects outside a closed family are untyped, so that they stand still. -/
def zS6 : List Nat := [1, 2, 4, 6, 8, 101, 102, 103, 104, 105, 155, 156, 157, 158, 159]
def zR6 : List Nat := [600, 601, 602, 603, 800, 802, 803, 804, 100, 101, 102, 208, 10400, 10500]
def z6 (o : Option Nat) : Bool := match o with
  | some t => decide (t ∈ zS6)
  | none => false
def zVy (Γ : Nat → Option Nat) (X : List Nat) : Nat → Option Nat := fun a => if z6 (Γ a) = true ∧ a ∉ X then none else Γ a
theorem zVy.of {Γ : Nat → Option Nat} {X : List Nat} {a t : Nat} (h : zVy Γ X a = some t) : Γ a = some t ∧ (t ∈ zS6 → a ∈ X) := by
  unfold zVy at h
  by_cases c : z6 (Γ a) = true ∧ a ∉ X
  · rw [if_pos c] at h
    cases h
  · rw [if_neg c] at h
    refine ⟨h, fun ht => ?_⟩
    by_cases hx : a ∈ X
    · exact hx
    · exact absurd ⟨by rw [h]; exact decide_eq_true ht, hx⟩ c
theorem zVy.to {Γ : Nat → Option Nat} {X : List Nat} {a t : Nat} (h : Γ a = some t) (hx : t ∈ zS6 → a ∈ X) : zVy Γ X a = some t := by
  unfold zVy
  by_cases c : z6 (Γ a) = true ∧ a ∉ X
  · obtain ⟨c1, c2⟩ := c
    rw [h] at c1
    exact absurd (hx (of_decide_eq_true c1)) c2
  · rw [if_neg c]
    exact h
theorem zVy.no {Γ : Nat → Option Nat} {X : List Nat} {a t : Nat} (h : Γ a = some t) (ht : t ∈ zS6) (hx : a ∉ X) : zVy Γ X a = none := by
  unfold zVy
  exact if_pos ⟨by rw [h]; exact decide_eq_true ht, hx⟩
theorem zVy.un {Γ : Nat → Option Nat} {X : List Nat} {a : Nat} (h : Γ a = none) : zVy Γ X a = none := by
  unfold zVy
  rw [h]
  split
  · rfl
  · rfl
theorem z6_sa0 : ∀ t ∈ zS6, t < 100 → ∀ j, j < 12 → ((zsp t)[j]?.all fun q => !(q.1 == 2 || q.1 == 3) || decide (100 * t + j ∈ zR6)) = true := by decide +kernel
theorem z6_sb0 : ∀ t ∈ zS6, t < 100 → ∀ j, j < 12 → ((zsp t)[j]?.all fun q => !(q.1 == 2 || q.1 == 3) || decide (q.2.1.toNat ∈ zS6)) = true := by decide +kernel
theorem z6_ln : ∀ t ∈ zS6, t < 100 → (zsp t).length ≤ 12 := by decide +kernel
theorem z6_sa {t j : Nat} {q : Nat × Int × Int} (ht : t ∈ zS6) (h1 : t < 100) (hq : (zsp t)[j]? = some q) (hk : q.1 = 2 ∨ q.1 = 3) : 100 * t + j ∈ zR6 := by
  have hj := (List.getElem?_eq_some_iff.mp hq).1
  have h := z6_sa0 t ht h1 j (by have := z6_ln t ht h1; omega)
  rw [hq] at h
  have h : (!(q.1 == 2 || q.1 == 3) || decide (100 * t + j ∈ zR6)) = true := h
  rcases hk with hk | hk
  · rw [hk] at h
    exact of_decide_eq_true h
  · rw [hk] at h
    exact of_decide_eq_true h
theorem z6_sb {t j : Nat} {q : Nat × Int × Int} (ht : t ∈ zS6) (h1 : t < 100) (hq : (zsp t)[j]? = some q) (hk : q.1 = 2 ∨ q.1 = 3) : q.2.1.toNat ∈ zS6 := by
  have hj := (List.getElem?_eq_some_iff.mp hq).1
  have h := z6_sb0 t ht h1 j (by have := z6_ln t ht h1; omega)
  rw [hq] at h
  have h : (!(q.1 == 2 || q.1 == 3) || decide (q.2.1.toNat ∈ zS6)) = true := h
  rcases hk with hk | hk
  · rw [hk] at h
    exact of_decide_eq_true h
  · rw [hk] at h
    exact of_decide_eq_true h
theorem z6_no0 : ∀ t, t < 15 → t ∉ zS6 → (zsp t).all (fun q => !(q.1 == 2 || q.1 == 3) || decide (q.2.1.toNat ∉ zS6)) = true := by decide +kernel
theorem z6_no (t : Nat) (ht : t ∉ zS6) (q : Nat × Int × Int) (hq : q ∈ zsp t) (hk : q.1 = 2 ∨ q.1 = 3) : q.2.1.toNat ∉ zS6 := by
  by_cases c : t < 15
  · have h := List.all_eq_true.mp (z6_no0 t c ht) q hq
    rcases hk with hk | hk
    · rw [hk] at h
      exact of_decide_eq_true h
    · rw [hk] at h
      exact of_decide_eq_true h
  · have e : zsp t = [] := by
      unfold zsp
      rw [List.getD_eq_getElem?_getD, List.getElem?_eq_none (by have : zspec.length = 15 := (by decide +kernel); omega)]
      rfl
    rw [e] at hq
    cases hq
theorem z6_ar0 : ∀ t, t < 200 → (decide (t < 100) || (decide (t ∈ zS6) || (decide ((zas t).1 < 3) || decide (¬ (zas t).2.2.1.toNat ∈ zS6)))) = true := by decide +kernel
theorem z6_ar (t : Nat) (h1 : 100 ≤ t) (ht : t ∉ zS6) (h3 : 3 ≤ (zas t).1) : (zas t).2.2.1.toNat ∉ zS6 := by
  by_cases c : t < 200
  · have h := z6_ar0 t c
    rw [decide_eq_false (show ¬ t < 100 by omega), decide_eq_false ht, decide_eq_false (show ¬ (zas t).1 < 3 by omega)] at h
    exact of_decide_eq_true h
  · have e : zas t = (9, 0, 0, 0) := by
      unfold zas
      rw [List.getD_eq_getElem?_getD, List.getElem?_eq_none (by have : zarrs.length ≤ 100 := (by decide +kernel); omega)]
      rfl
    rw [e]
    decide
theorem z6_ar1 : ∀ t ∈ zS6, 100 ≤ t → 3 ≤ (zas t).1 → 100 * t ∈ zR6 ∧ (zas t).2.2.1.toNat ∈ zS6 := by decide +kernel
/-- X is closed: what its objects point at is in X -/
def zCv (Γ : Nat → Option Nat) (F : Nat → va_E) (X : List Nat) : Prop := ∀ a ∈ X, ∃ t ∈ zS6, Γ a = some t ∧ (t < 100 → ∀ (j : Nat) (q : Nat × Int × Int) (b : Nat), (zsp t)[j]? = some q → (q.1 = 2 ∨ q.1 = 3) → zfld F a j = .ref b → b ∈ X) ∧ (100 ≤ t → 3 ≤ (zas t).1 → ∀ i b : Nat, i < (zas t).2.1 → zre F a i = some b → b ∈ X)
theorem zCv.mk0 {Γ : Nat → Option Nat} {k : Nat → ClassId} {L : List Nat} {F : Nat → va_E} (hI : zInv Γ k L F) : zCv Γ F (L.filter (fun a => z6 (Γ a))) := by
  intro a ha
  obtain ⟨-, h2⟩ := List.mem_filter.mp ha
  have h2 : z6 (Γ a) = true := h2
  cases e : Γ a with
  | none =>
    rw [e] at h2
    exact absurd h2 (by decide)
  | some t =>
    rw [e] at h2
    have ht : t ∈ zS6 := of_decide_eq_true h2
    refine ⟨t, ht, rfl, fun h1 j q b hq hk hv => ?_, fun h1 h3 i b hi hb => ?_⟩
    · obtain ⟨fs, -, -, g⟩ := (hI a t e).2.1 h1
      have gv := g j q hq
      rw [hv] at gv
      have hb := zV.rf gv hk
      exact List.mem_filter.mpr ⟨(hI b _ hb).1, by show z6 (Γ b) = true; rw [hb]; exact decide_eq_true (z6_sb ht h1 hq hk)⟩
    · have hb := zAr.at ((hI a t e).2.2 h1) h3 hi hb
      exact List.mem_filter.mpr ⟨(hI b _ hb).1, by show z6 (Γ b) = true; rw [hb]; exact decide_eq_true (z6_ar1 t ht h1 h3).2⟩
theorem zCv.fr {Γ : Nat → Option Nat} {M X : List Nat} {F u : Nat → va_E} (h : zCv Γ F X) (hf : zFr Γ M F u) (hM : ∀ m ∈ zR6, m ∉ M) : zCv Γ u X := by
  intro a ha
  obtain ⟨t, ht, e, g1, g2⟩ := h a ha
  refine ⟨t, ht, e, fun h1 j q b hq hk hv => g1 h1 j q b hq hk ?_, fun h1 h3 i b hi hb => g2 h1 h3 i b hi ?_⟩
  · rw [← (hf.1 a t e).1 h1 j (hM _ (z6_sa ht h1 hq hk))]
    exact hv
  · have e2 := (hf.1 a t e).2 h1 (hM _ (z6_ar1 t ht h1 h3).1)
    unfold zre at hb ⊢
    rw [← e2]
    exact hb
theorem zCv.mv {Γ Γ' : Nat → Option Nat} {X : List Nat} {F F' : Nat → va_E} (h : zCv Γ F X) (hk : ∀ a ∈ X, Γ' a = Γ a ∧ F' a = F a) : zCv Γ' F' X := by
  intro a ha
  obtain ⟨t, ht, e, g1, g2⟩ := h a ha
  refine ⟨t, ht, (hk a ha).1.trans e, fun h1 j q b hq hk' hv => g1 h1 j q b hq hk' ?_, fun h1 h3 i b hi hb => g2 h1 h3 i b hi ?_⟩
  · unfold zfld at hv ⊢
    rw [← (hk a ha).2]
    exact hv
  · unfold zre at hb ⊢
    rw [← (hk a ha).2]
    exact hb
theorem zviewc1 {Γ : Nat → Option Nat} {k : Nat → ClassId} {L X : List Nat} {F : Nat → va_E} (hI : zInv Γ k L F) (h : zCv Γ F X) : zInv (zVy Γ X) k L F := by
  intro a t hat
  obtain ⟨ha, hx⟩ := zVy.of hat
  obtain ⟨g1, g2, g3⟩ := hI a t ha
  refine ⟨g1, fun ht => (g2 ht).mono rfl (fun j q b hq hk hv hb => zVy.to hb (fun h6 => ?_)), fun ht => (g3 ht).mono2 rfl (fun i b hi h3 hr hb => zVy.to hb (fun h6 => ?_))⟩
  · by_cases c : t ∈ zS6
    · obtain ⟨t', -, e, q1, -⟩ := h a (hx c)
      cases Option.some.inj (ha.symm.trans e)
      exact q1 ht j q b hq hk hv
    · exact absurd h6 (z6_no t c q (List.mem_of_getElem? hq) hk)
  · by_cases c : t ∈ zS6
    · obtain ⟨t', -, e, -, q2⟩ := h a (hx c)
      cases Option.some.inj (ha.symm.trans e)
      exact q2 ht h3 i b hi hr
    · exact absurd h6 (z6_ar t ht c h3)
theorem zviewc2 {Γ : Nat → Option Nat} {k : Nat → ClassId} {L X M : List Nat} {F u : Nat → va_E} (hI : zInv Γ k L F) (hI' : zInv (zVy Γ X) k L u) (hf : zFr (zVy Γ X) M F u) : zInv Γ k L u ∧ zFr Γ M F u := by
  have hm : ∀ b t, zVy Γ X b = some t → Γ b = some t := fun b t h => (zVy.of h).1
  refine ⟨fun a t ha => ?_, fun a t ha => ?_, fun a ha => hf.2 a (zVy.un ha)⟩
  · by_cases c : t ∈ zS6 ∧ a ∉ X
    · have hu : u a = F a := hf.2 a (zVy.no ha c.1 c.2)
      obtain ⟨g1, g2, g3⟩ := hI a t ha
      exact ⟨g1, fun ht => (g2 ht).mono hu (fun _ _ _ _ _ _ hb => hb), fun ht => (g3 ht).mono hu (fun _ _ hb => hb)⟩
    · obtain ⟨g1, g2, g3⟩ := hI' a t (zVy.to ha (fun h6 => Decidable.byContradiction (fun hx => c ⟨h6, hx⟩)))
      exact ⟨g1, fun ht => (g2 ht).mono rfl (fun _ _ b _ _ _ hb => hm b _ hb), fun ht => (g3 ht).mono rfl (fun b _ hb => hm b _ hb)⟩
  · by_cases c : t ∈ zS6 ∧ a ∉ X
    · have hu : u a = F a := hf.2 a (zVy.no ha c.1 c.2)
      exact ⟨fun _ j _ => by unfold zfld; rw [hu], fun _ _ => hu⟩
    · exact hf.1 a t (zVy.to ha (fun h6 => Decidable.byContradiction (fun hx => c ⟨h6, hx⟩)))
theorem zMet_vi {l : Launch} {y : MethodName} {ws : List Cond} {rm : Room} {D : va_G} {k : Nat → ClassId} {Γ : Nat → Option Nat} {L X M : List Nat} {F : Nat → va_E} {sz mc ms : Nat} {av : List Value} {post post' : Int32 → (Nat → va_E) → Prop} {A : Nat → Prop} {free : Addr → Prop} (h : Met l y ws rm (va_Pc av (zP D k (zVy Γ X) L F sz)) (va_Qi post (zQ D k (zVy Γ X) L F M) A) mc ms free) (hX : zCv Γ F X) (hp : ∀ r u, post r u → (∀ a t, Γ a = some t → t ∈ zS6 → a ∉ X → u a = F a) → post' r u) : Met l y ws rm (va_Pc av (zP D k Γ L F sz)) (va_Qi post' (zQ D k Γ L F M) A) mc ms free := by
  refine zMet_imp h ?_ ?_
  · intro a s h9
    obtain ⟨e, h1, h2, h3, h4, h5, h6⟩ := h9
    exact ⟨e, h1, h2, h3, h4, h5, zviewc1 h6 hX⟩
  · intro a s o t h9 h8
    obtain ⟨e, h1, h2, h3, h4, h5, h6⟩ := h9
    obtain ⟨⟨r, u, e1, hq, b1, b2, b3⟩, hF⟩ := h8
    obtain ⟨c1, c2⟩ := zviewc2 h6 b2 b3
    exact ⟨⟨r, u, e1, hp r u hq (fun a t ha ht hx => b3.2 a (zVy.no ha ht hx)), b1, c1, c2⟩, hF⟩
