/-! Views: a world in which the Programs' objects outside a closed family are untyped, so that they stand still. -/
def zS5 : List Nat := [5, 10, 108, 109, 110, 111, 112]
def zT5 : List Nat := [5, 108, 109, 110, 111, 112]
def zR5 : List Nat := [507, 508, 509, 516, 517]
def z5 (o : Option Nat) : Bool := match o with
  | some t => decide (t ∈ zS5)
  | none => false
def zVx (Γ : Nat → Option Nat) (X : List Nat) : Nat → Option Nat := fun a => if z5 (Γ a) = true ∧ a ∉ X then none else Γ a
theorem zVx.of {Γ : Nat → Option Nat} {X : List Nat} {a t : Nat} (h : zVx Γ X a = some t) : Γ a = some t ∧ (t ∈ zS5 → a ∈ X) := by
  unfold zVx at h
  by_cases c : z5 (Γ a) = true ∧ a ∉ X
  · rw [if_pos c] at h
    cases h
  · rw [if_neg c] at h
    refine ⟨h, fun ht => ?_⟩
    by_cases hx : a ∈ X
    · exact hx
    · exact absurd ⟨by rw [h]; exact decide_eq_true ht, hx⟩ c
theorem zVx.to {Γ : Nat → Option Nat} {X : List Nat} {a t : Nat} (h : Γ a = some t) (hx : t ∈ zS5 → a ∈ X) : zVx Γ X a = some t := by
  unfold zVx
  by_cases c : z5 (Γ a) = true ∧ a ∉ X
  · obtain ⟨c1, c2⟩ := c
    rw [h] at c1
    exact absurd (hx (of_decide_eq_true c1)) c2
  · rw [if_neg c]
    exact h
theorem zVx.no {Γ : Nat → Option Nat} {X : List Nat} {a t : Nat} (h : Γ a = some t) (ht : t ∈ zS5) (hx : a ∉ X) : zVx Γ X a = none := by
  unfold zVx
  exact if_pos ⟨by rw [h]; exact decide_eq_true ht, hx⟩
theorem zVx.un {Γ : Nat → Option Nat} {X : List Nat} {a : Nat} (h : Γ a = none) : zVx Γ X a = none := by
  unfold zVx
  rw [h]
  split
  · rfl
  · rfl
theorem z5_no0 : ∀ t, t < 15 → t ∉ zS5 → (zsp t).all (fun q => !(q.1 == 2 || q.1 == 3) || decide (q.2.1.toNat ∉ zS5)) = true := by decide +kernel
theorem z5_no (t : Nat) (ht : t ∉ zS5) (q : Nat × Int × Int) (hq : q ∈ zsp t) (hk : q.1 = 2 ∨ q.1 = 3) : q.2.1.toNat ∉ zS5 := by
  by_cases c : t < 15
  · have h := List.all_eq_true.mp (z5_no0 t c ht) q hq
    rcases hk with hk | hk
    · rw [hk] at h
      exact of_decide_eq_true h
    · rw [hk] at h
      exact of_decide_eq_true h
  · have e : zsp t = [] := by
      unfold zsp
      rw [List.getD_eq_getElem?_getD, List.getElem?_eq_none (by have : zspec.length = 15 := (by decide +kernel); omega)]
      rfl
    rw [e] at hq
    cases hq
theorem z5_ar0 : ∀ t, t < 200 → (decide (t < 100) || (decide (t ∈ zS5) || (decide ((zas t).1 < 3) || decide (¬ (zas t).2.2.1.toNat ∈ zS5)))) = true := by decide +kernel
theorem z5_ar (t : Nat) (h1 : 100 ≤ t) (ht : t ∉ zS5) (h3 : 3 ≤ (zas t).1) : (zas t).2.2.1.toNat ∉ zS5 := by
  by_cases c : t < 200
  · have h := z5_ar0 t c
    rw [decide_eq_false (show ¬ t < 100 by omega), decide_eq_false ht, decide_eq_false (show ¬ (zas t).1 < 3 by omega)] at h
    exact of_decide_eq_true h
  · have e : zas t = (9, 0, 0, 0) := by
      unfold zas
      rw [List.getD_eq_getElem?_getD, List.getElem?_eq_none (by have : zarrs.length ≤ 100 := (by decide +kernel); omega)]
      rfl
    rw [e]
    decide
theorem z5_sa0 : ∀ t ∈ zT5, t < 100 → ∀ j, j < 20 → ((zsp t)[j]?.all fun q => !(q.1 == 2 || q.1 == 3) || decide (100 * t + j ∈ zR5)) = true := by decide +kernel
theorem z5_ln : ∀ t ∈ zT5, t < 100 → (zsp t).length ≤ 20 := by decide +kernel
theorem z5_sa {t j : Nat} {q : Nat × Int × Int} (ht : t ∈ zT5) (h1 : t < 100) (hq : (zsp t)[j]? = some q) (hk : q.1 = 2 ∨ q.1 = 3) : 100 * t + j ∈ zR5 := by
  have hj := (List.getElem?_eq_some_iff.mp hq).1
  have h := z5_sa0 t ht h1 j (by have := z5_ln t ht h1; omega)
  rw [hq] at h
  have h : (!(q.1 == 2 || q.1 == 3) || decide (100 * t + j ∈ zR5)) = true := h
  rcases hk with hk | hk
  · rw [hk] at h
    exact of_decide_eq_true h
  · rw [hk] at h
    exact of_decide_eq_true h
theorem z5_ar1 : ∀ t ∈ zT5, 100 ≤ t → 3 ≤ (zas t).1 → 100 * t ∈ zR5 := by decide +kernel
/-- X is closed: what its objects point at is in X -/
def zCu (Γ : Nat → Option Nat) (F : Nat → va_E) (X : List Nat) : Prop := ∀ a ∈ X, ∃ t ∈ zT5, Γ a = some t ∧ (t < 100 → ∀ (j : Nat) (q : Nat × Int × Int) (b : Nat), (zsp t)[j]? = some q → (q.1 = 2 ∨ q.1 = 3) → zfld F a j = .ref b → b ∈ X) ∧ (100 ≤ t → 3 ≤ (zas t).1 → ∀ i b : Nat, i < (zas t).2.1 → zre F a i = some b → b ∈ X)
theorem zCu.fr {Γ : Nat → Option Nat} {M X : List Nat} {F u : Nat → va_E} (h : zCu Γ F X) (hf : zFr Γ M F u) (hM : ∀ m ∈ zR5, m ∉ M) : zCu Γ u X := by
  intro a ha
  obtain ⟨t, ht, e, g1, g2⟩ := h a ha
  refine ⟨t, ht, e, fun h1 j q b hq hk hv => g1 h1 j q b hq hk ?_, fun h1 h3 i b hi hb => g2 h1 h3 i b hi ?_⟩
  · rw [← (hf.1 a t e).1 h1 j (hM _ (z5_sa ht h1 hq hk))]
    exact hv
  · have e2 := (hf.1 a t e).2 h1 (hM _ (z5_ar1 t ht h1 h3))
    unfold zre at hb ⊢
    rw [← e2]
    exact hb
theorem zCu.mv {Γ Γ' : Nat → Option Nat} {X : List Nat} {F F' : Nat → va_E} (h : zCu Γ F X) (hk : ∀ a ∈ X, Γ' a = Γ a ∧ F' a = F a) : zCu Γ' F' X := by
  intro a ha
  obtain ⟨t, ht, e, g1, g2⟩ := h a ha
  refine ⟨t, ht, (hk a ha).1.trans e, fun h1 j q b hq hk' hv => g1 h1 j q b hq hk' ?_, fun h1 h3 i b hi hb => g2 h1 h3 i b hi ?_⟩
  · unfold zfld at hv ⊢
    rw [← (hk a ha).2]
    exact hv
  · unfold zre at hb ⊢
    rw [← (hk a ha).2]
    exact hb
theorem zviewd1 {Γ : Nat → Option Nat} {k : Nat → ClassId} {L X : List Nat} {F : Nat → va_E} (hI : zInv Γ k L F) (h : zCu Γ F X) : zInv (zVx Γ X) k L F := by
  intro a t hat
  obtain ⟨ha, hx⟩ := zVx.of hat
  obtain ⟨g1, g2, g3⟩ := hI a t ha
  refine ⟨g1, fun ht => (g2 ht).mono rfl (fun j q b hq hk hv hb => zVx.to hb (fun h6 => ?_)), fun ht => (g3 ht).mono2 rfl (fun i b hi h3 hr hb => zVx.to hb (fun h6 => ?_))⟩
  · by_cases c : t ∈ zS5
    · obtain ⟨t', -, e, q1, -⟩ := h a (hx c)
      cases Option.some.inj (ha.symm.trans e)
      exact q1 ht j q b hq hk hv
    · exact absurd h6 (z5_no t c q (List.mem_of_getElem? hq) hk)
  · by_cases c : t ∈ zS5
    · obtain ⟨t', -, e, -, q2⟩ := h a (hx c)
      cases Option.some.inj (ha.symm.trans e)
      exact q2 ht h3 i b hi hr
    · exact absurd h6 (z5_ar t ht c h3)
theorem zviewd2 {Γ : Nat → Option Nat} {k : Nat → ClassId} {L X M : List Nat} {F u : Nat → va_E} (hI : zInv Γ k L F) (hI' : zInv (zVx Γ X) k L u) (hf : zFr (zVx Γ X) M F u) : zInv Γ k L u ∧ zFr Γ M F u := by
  have hm : ∀ b t, zVx Γ X b = some t → Γ b = some t := fun b t h => (zVx.of h).1
  refine ⟨fun a t ha => ?_, fun a t ha => ?_, fun a ha => hf.2 a (zVx.un ha)⟩
  · by_cases c : t ∈ zS5 ∧ a ∉ X
    · have hu : u a = F a := hf.2 a (zVx.no ha c.1 c.2)
      obtain ⟨g1, g2, g3⟩ := hI a t ha
      exact ⟨g1, fun ht => (g2 ht).mono hu (fun _ _ _ _ _ _ hb => hb), fun ht => (g3 ht).mono hu (fun _ _ hb => hb)⟩
    · obtain ⟨g1, g2, g3⟩ := hI' a t (zVx.to ha (fun h6 => Decidable.byContradiction (fun hx => c ⟨h6, hx⟩)))
      exact ⟨g1, fun ht => (g2 ht).mono rfl (fun _ _ b _ _ _ hb => hm b _ hb), fun ht => (g3 ht).mono rfl (fun b _ hb => hm b _ hb)⟩
  · by_cases c : t ∈ zS5 ∧ a ∉ X
    · have hu : u a = F a := hf.2 a (zVx.no ha c.1 c.2)
      exact ⟨fun _ j _ => by unfold zfld; rw [hu], fun _ _ => hu⟩
    · exact hf.1 a t (zVx.to ha (fun h6 => Decidable.byContradiction (fun hx => c ⟨h6, hx⟩)))
theorem zMet_vj {l : Launch} {y : MethodName} {ws : List Cond} {rm : Room} {D : va_G} {k : Nat → ClassId} {Γ : Nat → Option Nat} {L X M : List Nat} {F : Nat → va_E} {sz mc ms : Nat} {av : List Value} {post post' : Int32 → (Nat → va_E) → Prop} {A : Nat → Prop} {free : Addr → Prop} (h : Met l y ws rm (va_Pc av (zP D k (zVx Γ X) L F sz)) (va_Qi post (zQ D k (zVx Γ X) L F M) A) mc ms free) (hX : zCu Γ F X) (hp : ∀ r u, post r u → (∀ a t, Γ a = some t → t ∈ zS5 → a ∉ X → u a = F a) → post' r u) : Met l y ws rm (va_Pc av (zP D k Γ L F sz)) (va_Qi post' (zQ D k Γ L F M) A) mc ms free := by
  refine zMet_imp h ?_ ?_
  · intro a s h9
    obtain ⟨e, h1, h2, h3, h4, h5, h6⟩ := h9
    exact ⟨e, h1, h2, h3, h4, h5, zviewd1 h6 hX⟩
  · intro a s o t h9 h8
    obtain ⟨e, h1, h2, h3, h4, h5, h6⟩ := h9
    obtain ⟨⟨r, u, e1, hq, b1, b2, b3⟩, hF⟩ := h8
    obtain ⟨c1, c2⟩ := zviewd2 h6 b2 b3
    exact ⟨⟨r, u, e1, hp r u hq (fun a t ha ht hx => b3.2 a (zVx.no ha ht hx)), b1, c1, c2⟩, hF⟩
theorem zMet_vjV {l : Launch} {y : MethodName} {ws : List Cond} {rm : Room} {D : va_G} {k : Nat → ClassId} {Γ : Nat → Option Nat} {L X M : List Nat} {F : Nat → va_E} {sz mc ms : Nat} {av : List Value} {post post' : (Nat → va_E) → Prop} {A : Nat → Prop} {free : Addr → Prop} (h : Met l y ws rm (va_Pc av (zP D k (zVx Γ X) L F sz)) (va_Qv post (zQ D k (zVx Γ X) L F M) A) mc ms free) (hX : zCu Γ F X) (hp : ∀ u, post u → (∀ a t, Γ a = some t → t ∈ zS5 → a ∉ X → u a = F a) → post' u) : Met l y ws rm (va_Pc av (zP D k Γ L F sz)) (va_Qv post' (zQ D k Γ L F M) A) mc ms free := by
  refine zMet_imp h ?_ ?_
  · intro a s h9
    obtain ⟨e, h1, h2, h3, h4, h5, h6⟩ := h9
    exact ⟨e, h1, h2, h3, h4, h5, zviewd1 h6 hX⟩
  · intro a s o t h9 h8
    obtain ⟨e, h1, h2, h3, h4, h5, h6⟩ := h9
    obtain ⟨⟨u, e1, hq, b1, b2, b3⟩, hF⟩ := h8
    obtain ⟨c1, c2⟩ := zviewd2 h6 b2 b3
    exact ⟨⟨u, e1, hp u hq (fun a t ha ht hx => b3.2 a (zVx.no ha ht hx)), b1, c1, c2⟩, hF⟩
theorem zVx.nf {Γ : Nat → Option Nat} {X : List Nat} {a t : Nat} (h : Γ a = some t) (ht : t ∉ zS5) : zVx Γ X a = some t := zVx.to h (fun q => absurd q ht)
theorem zVp.vx {Γ : Nat → Option Nat} {F : Nat → va_E} {X : List Nat} {pr : Nat} {fa : Nat → Nat} {pg : zPg} (h : zVp Γ F pr fa pg) : zVp (zVx Γ X) F pr fa pg := by
  obtain ⟨⟨ar, h1, h2, h3, h4⟩, g2, g3, g4⟩ := h
  refine ⟨⟨ar, h1, zVx.nf h2 (by decide), fun f hf => ⟨(h3 f hf).1, zVx.nf (h3 f hf).2 (by decide)⟩, h4⟩, g2, g3, fun f hf => ?_⟩
  obtain ⟨q1, q2, q3, ⟨b, q4, q5⟩, q6⟩ := g4 f hf
  exact ⟨q1, q2, q3, ⟨b, q4, zVx.nf q5 (by decide)⟩, q6⟩
theorem zVq.vx {Γ : Nat → Option Nat} {F : Nat → va_E} {X : List Nat} {co n : Nat} {A : Nat → Nat × Int × Nat} (h : zVq Γ F co A n) : zVq (zVx Γ X) F co A n := by
  obtain ⟨h1, h2, ⟨⟨a, a1, a2⟩, ⟨b, b1, b2⟩, ⟨c, c1, c2⟩⟩, h4⟩ := h
  exact ⟨h1, h2, ⟨⟨a, a1, zVx.nf a2 (by decide)⟩, ⟨b, b1, zVx.nf b2 (by decide)⟩, ⟨c, c1, zVx.nf c2 (by decide)⟩⟩, h4⟩
/-- a machine and its own arrays -/
def zMa (Γ : Nat → Option Nat) (F : Nat → va_E) (ma : Nat) (X : List Nat) : Prop := ma ∈ X ∧ Γ ma = some 5 ∧ zCu Γ F X
/-- of machines and LessonMakers: what stands still when a LessonMaker's own fields change -/
def zStill (Γ : Nat → Option Nat) (F u : Nat → va_E) : Prop := ∀ a t, Γ a = some t → t ∈ zS5 → t ≠ 10 → u a = F a
theorem zStill.rf {Γ : Nat → Option Nat} {F : Nat → va_E} : zStill Γ F F := fun _ _ _ _ _ => rfl
theorem zFr.whole {Γ : Nat → Option Nat} {k : Nat → ClassId} {L M : List Nat} {F u : Nat → va_E} (hI : zInv Γ k L F) (hI' : zInv Γ k L u) (hf : zFr Γ M F u) (hM : ∀ m ∈ M, m / 100 = 10) : zStill Γ F u := fun a t e h1 h2 => by
  by_cases c : t < 100
  · have ht : t = 5 := by
      have h1 : t ∈ [5, 10, 108, 109, 110, 111, 112] := h1
      simp only [List.mem_cons, List.not_mem_nil, or_false] at h1
      omega
    subst ht
    obtain ⟨fs, g1, g2, -⟩ := (hI a 5 e).2.1 (by decide)
    obtain ⟨fs', g1', g2', -⟩ := (hI' a 5 e).2.1 (by decide)
    rw [g1, g1']
    have : fs' = fs := by
      apply List.ext_getElem (by rw [g2, g2'])
      intro j hj hj'
      have h9 := (hf.1 a 5 e).1 (by decide) j (fun q => by have := hM _ q; have h8 : j < 19 := (by rw [g2'] at hj; exact hj); omega)
      unfold zfld at h9
      rw [g1, g1'] at h9
      have h9 : fs'.getD j .null = fs.getD j .null := h9
      rw [List.getD_eq_getElem?_getD, List.getD_eq_getElem?_getD, List.getElem?_eq_getElem hj, List.getElem?_eq_getElem hj'] at h9
      exact h9
    rw [this]
  · exact (hf.1 a t e).2 (by omega) (fun q => by
      have h8 := hM _ q
      have h1 : t ∈ [5, 10, 108, 109, 110, 111, 112] := h1
      simp only [List.mem_cons, List.not_mem_nil, or_false] at h1
      omega)
def z5t (o : Option Nat) : Bool := match o with
  | some t => decide (t ∈ zT5)
  | none => false
theorem z5_sb0 : ∀ t ∈ zT5, t < 100 → ∀ j, j < 20 → ((zsp t)[j]?.all fun q => !(q.1 == 2 || q.1 == 3) || decide (q.2.1.toNat ∈ zT5)) = true := by decide +kernel
theorem z5_sb {t j : Nat} {q : Nat × Int × Int} (ht : t ∈ zT5) (h1 : t < 100) (hq : (zsp t)[j]? = some q) (hk : q.1 = 2 ∨ q.1 = 3) : q.2.1.toNat ∈ zT5 := by
  have hj := (List.getElem?_eq_some_iff.mp hq).1
  have h := z5_sb0 t ht h1 j (by have := z5_ln t ht h1; omega)
  rw [hq] at h
  have h : (!(q.1 == 2 || q.1 == 3) || decide (q.2.1.toNat ∈ zT5)) = true := h
  rcases hk with hk | hk
  · rw [hk] at h
    exact of_decide_eq_true h
  · rw [hk] at h
    exact of_decide_eq_true h
theorem z5_ar2 : ∀ t ∈ zT5, 100 ≤ t → ¬ 3 ≤ (zas t).1 := by decide +kernel
theorem zCu.mk0 {Γ : Nat → Option Nat} {k : Nat → ClassId} {L : List Nat} {F : Nat → va_E} (hI : zInv Γ k L F) : zCu Γ F (L.filter (fun a => z5t (Γ a))) := by
  intro a ha
  obtain ⟨-, h2⟩ := List.mem_filter.mp ha
  have h2 : z5t (Γ a) = true := h2
  cases e : Γ a with
  | none =>
    rw [e] at h2
    exact absurd h2 (by decide)
  | some t =>
    rw [e] at h2
    have ht : t ∈ zT5 := of_decide_eq_true h2
    refine ⟨t, ht, rfl, fun h1 j q b hq hk hv => ?_, fun h1 h3 => absurd h3 (z5_ar2 t ht h1)⟩
    obtain ⟨fs, -, -, g⟩ := (hI a t e).2.1 h1
    have gv := g j q hq
    rw [hv] at gv
    have hb := zV.rf gv hk
    exact List.mem_filter.mpr ⟨(hI b _ hb).1, by show z5t (Γ b) = true; rw [hb]; exact decide_eq_true (z5_sb ht h1 hq hk)⟩
theorem zMa.mk0 {Γ : Nat → Option Nat} {k : Nat → ClassId} {L : List Nat} {F : Nat → va_E} {q : Nat} (hI : zInv Γ k L F) (hq : Γ q = some 5) : zMa Γ F q (L.filter (fun a => z5t (Γ a))) :=
  ⟨List.mem_filter.mpr ⟨(hI q _ hq).1, by show z5t (Γ q) = true; rw [hq]; rfl⟩, hq, zCu.mk0 hI⟩
theorem zMa.mv {Γ Γ' : Nat → Option Nat} {X : List Nat} {F F' : Nat → va_E} {ma : Nat} (h : zMa Γ F ma X) (hk : ∀ a ∈ X, Γ' a = Γ a ∧ F' a = F a) : zMa Γ' F' ma X := ⟨h.1, (hk _ h.1).1.trans h.2.1, h.2.2.mv hk⟩
theorem zMa.sub {Γ : Nat → Option Nat} {k : Nat → ClassId} {L X : List Nat} {F : Nat → va_E} {ma : Nat} (h : zMa Γ F ma X) (hI : zInv Γ k L F) : ∀ a ∈ X, a ∈ L := fun a ha => by
  obtain ⟨t, -, e, -⟩ := h.2.2 a ha
  exact (hI a t e).1
theorem zMa.no {Γ : Nat → Option Nat} {X : List Nat} {F : Nat → va_E} {ma h0 : Nat} (h : zMa Γ F ma X) (h0Γ : Γ h0 = none) : ∀ a ∈ X, a ≠ h0 := fun a ha e => by
  obtain ⟨t, -, e', -⟩ := h.2.2 a ha
  rw [e, h0Γ] at e'
  cases e'
theorem zMa.fr {Γ : Nat → Option Nat} {M X : List Nat} {F u : Nat → va_E} {ma : Nat} (h : zMa Γ F ma X) (hf : zFr Γ M F u) (hM : ∀ m ∈ zR5, m ∉ M) : zMa Γ u ma X := ⟨h.1, h.2.1, h.2.2.fr hf hM⟩
/-- the three machines of a LessonMaker -/
def zM3 (Γ : Nat → Option Nat) (F : Nat → va_E) (th : Nat) : Prop := ∃ (lm tm rm : Nat) (X1 X2 X3 : List Nat), (zfld F th 5 = .ref lm ∧ zfld F th 6 = .ref tm ∧ zfld F th 7 = .ref rm) ∧ (zMa Γ F lm X1 ∧ zMa Γ F tm X2 ∧ zMa Γ F rm X3) ∧ ((∀ a ∈ X1, a ∉ X2) ∧ (∀ a ∈ X1, a ∉ X3) ∧ ∀ a ∈ X2, a ∉ X3)
theorem zM3.fr {Γ : Nat → Option Nat} {M : List Nat} {F u : Nat → va_E} {th : Nat} (h : zM3 Γ F th) (hf : zFr Γ M F u) (hth : Γ th = some 10) (hM : (1005 ∉ M ∧ 1006 ∉ M ∧ 1007 ∉ M) ∧ ∀ m ∈ zR5, m ∉ M) : zM3 Γ u th := by
  obtain ⟨lm, tm, rm, X1, X2, X3, ⟨k1, k2, k3⟩, ⟨m1, m2, m3⟩, d⟩ := h
  obtain ⟨⟨q1, q2, q3⟩, q5⟩ := hM
  exact ⟨lm, tm, rm, X1, X2, X3, ⟨hf.f hth 5 ⟨by decide, q1⟩ k1, hf.f hth 6 ⟨by decide, q2⟩ k2, hf.f hth 7 ⟨by decide, q3⟩ k3⟩, ⟨m1.fr hf q5, m2.fr hf q5, m3.fr hf q5⟩, d⟩
/-- in a world that has grown -/
theorem zM3.mv {Γ Γ' : Nat → Option Nat} {F F' : Nat → va_E} {th : Nat} (h : zM3 Γ F th) (hth : Γ th = some 10) (hm : ∀ a t, Γ a = some t → Γ' a = Γ a ∧ F' a = F a) : zM3 Γ' F' th := by
  obtain ⟨lm, tm, rm, X1, X2, X3, ⟨k1, k2, k3⟩, ⟨m1, m2, m3⟩, d⟩ := h
  have e := (hm th _ hth).2
  have mv : ∀ {ma : Nat} {X : List Nat}, zMa Γ F ma X → zMa Γ' F' ma X := fun {ma X} g => g.mv (fun a ha => by
    obtain ⟨t, -, q, -⟩ := g.2.2 a ha
    exact hm a t q)
  have ef : ∀ j v, zfld F th j = v → zfld F' th j = v := fun j v q => by
    unfold zfld at q ⊢
    rw [e]
    exact q
  exact ⟨lm, tm, rm, X1, X2, X3, ⟨ef _ _ k1, ef _ _ k2, ef _ _ k3⟩, ⟨mv m1, mv m2, mv m3⟩, d⟩
