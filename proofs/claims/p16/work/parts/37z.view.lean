/-! The reference's Runs: a view in which those outside a closed family are untyped, so that they stand still. -/
def zYs : List Nat := [12, 165, 166, 167]
def zYt : List Nat := [12, 165, 166, 167]
def zYr : List Nat := [1207, 1208, 1209]
def zYf (o : Option Nat) : Bool := match o with
  | some t => decide (t ∈ zYs)
  | none => false
def zYv (Γ : Nat → Option Nat) (X : List Nat) : Nat → Option Nat := fun a => if zYf (Γ a) = true ∧ a ∉ X then none else Γ a
theorem zYv.of {Γ : Nat → Option Nat} {X : List Nat} {a t : Nat} (h : zYv Γ X a = some t) : Γ a = some t ∧ (t ∈ zYs → a ∈ X) := by
  unfold zYv at h
  by_cases c : zYf (Γ a) = true ∧ a ∉ X
  · rw [if_pos c] at h
    cases h
  · rw [if_neg c] at h
    refine ⟨h, fun ht => ?_⟩
    by_cases hx : a ∈ X
    · exact hx
    · exact absurd ⟨by rw [h]; exact decide_eq_true ht, hx⟩ c
theorem zYv.to {Γ : Nat → Option Nat} {X : List Nat} {a t : Nat} (h : Γ a = some t) (hx : t ∈ zYs → a ∈ X) : zYv Γ X a = some t := by
  unfold zYv
  by_cases c : zYf (Γ a) = true ∧ a ∉ X
  · obtain ⟨c1, c2⟩ := c
    rw [h] at c1
    exact absurd (hx (of_decide_eq_true c1)) c2
  · rw [if_neg c]
    exact h
theorem zYv.no {Γ : Nat → Option Nat} {X : List Nat} {a t : Nat} (h : Γ a = some t) (ht : t ∈ zYs) (hx : a ∉ X) : zYv Γ X a = none := by
  unfold zYv
  exact if_pos ⟨by rw [h]; exact decide_eq_true ht, hx⟩
theorem zYv.un {Γ : Nat → Option Nat} {X : List Nat} {a : Nat} (h : Γ a = none) : zYv Γ X a = none := by
  unfold zYv
  rw [h]
  split
  · rfl
  · rfl
theorem zY_no0 : ∀ t, t < 15 → t ∉ zYs → (zsp t).all (fun q => !(q.1 == 2 || q.1 == 3) || decide (q.2.1.toNat ∉ zYs)) = true := by decide +kernel
theorem zY_no (t : Nat) (ht : t ∉ zYs) (q : Nat × Int × Int) (hq : q ∈ zsp t) (hk : q.1 = 2 ∨ q.1 = 3) : q.2.1.toNat ∉ zYs := by
  by_cases c : t < 15
  · have h := List.all_eq_true.mp (zY_no0 t c ht) q hq
    rcases hk with hk | hk
    · rw [hk] at h
      exact of_decide_eq_true h
    · rw [hk] at h
      exact of_decide_eq_true h
  · have e : zsp t = [] := by
      unfold zsp
      rw [List.getD_eq_getElem?_getD, List.getElem?_eq_none (by have : zspec.length = 15 := (by decide +kernel); omega)]
      rfl
    rw [e] at hq
    cases hq
theorem zY_ar0 : ∀ t, t < 200 → (decide (t < 100) || (decide (t ∈ zYs) || (decide ((zas t).1 < 3) || decide (¬ (zas t).2.2.1.toNat ∈ zYs)))) = true := by decide +kernel
theorem zY_ar (t : Nat) (h1 : 100 ≤ t) (ht : t ∉ zYs) (h3 : 3 ≤ (zas t).1) : (zas t).2.2.1.toNat ∉ zYs := by
  by_cases c : t < 200
  · have h := zY_ar0 t c
    rw [decide_eq_false (show ¬ t < 100 by omega), decide_eq_false ht, decide_eq_false (show ¬ (zas t).1 < 3 by omega)] at h
    exact of_decide_eq_true h
  · have e : zas t = (9, 0, 0, 0) := by
      unfold zas
      rw [List.getD_eq_getElem?_getD, List.getElem?_eq_none (by have : zarrs.length ≤ 100 := (by decide +kernel); omega)]
      rfl
    rw [e]
    decide
theorem zY_sa0 : ∀ t ∈ zYt, t < 100 → ∀ j, j < 20 → ((zsp t)[j]?.all fun q => !(q.1 == 2 || q.1 == 3) || decide (100 * t + j ∈ zYr)) = true := by decide +kernel
theorem zY_ln : ∀ t ∈ zYt, t < 100 → (zsp t).length ≤ 20 := by decide +kernel
theorem zY_sa {t j : Nat} {q : Nat × Int × Int} (ht : t ∈ zYt) (h1 : t < 100) (hq : (zsp t)[j]? = some q) (hk : q.1 = 2 ∨ q.1 = 3) : 100 * t + j ∈ zYr := by
  have hj := (List.getElem?_eq_some_iff.mp hq).1
  have h := zY_sa0 t ht h1 j (by have := zY_ln t ht h1; omega)
  rw [hq] at h
  have h : (!(q.1 == 2 || q.1 == 3) || decide (100 * t + j ∈ zYr)) = true := h
  rcases hk with hk | hk
  · rw [hk] at h
    exact of_decide_eq_true h
  · rw [hk] at h
    exact of_decide_eq_true h
theorem zY_ar1 : ∀ t ∈ zYt, 100 ≤ t → 3 ≤ (zas t).1 → 100 * t ∈ zYr := by decide +kernel
def zYc (Γ : Nat → Option Nat) (F : Nat → va_E) (X : List Nat) : Prop := ∀ a ∈ X, ∃ t ∈ zYt, Γ a = some t ∧ (t < 100 → ∀ (j : Nat) (q : Nat × Int × Int) (b : Nat), (zsp t)[j]? = some q → (q.1 = 2 ∨ q.1 = 3) → zfld F a j = .ref b → b ∈ X) ∧ (100 ≤ t → 3 ≤ (zas t).1 → ∀ i b : Nat, i < (zas t).2.1 → zre F a i = some b → b ∈ X)
theorem zYc.fr {Γ : Nat → Option Nat} {M X : List Nat} {F u : Nat → va_E} (h : zYc Γ F X) (hf : zFr Γ M F u) (hM : ∀ m ∈ zYr, m ∉ M) : zYc Γ u X := by
  intro a ha
  obtain ⟨t, ht, e, g1, g2⟩ := h a ha
  refine ⟨t, ht, e, fun h1 j q b hq hk hv => g1 h1 j q b hq hk ?_, fun h1 h3 i b hi hb => g2 h1 h3 i b hi ?_⟩
  · rw [← (hf.1 a t e).1 h1 j (hM _ (zY_sa ht h1 hq hk))]
    exact hv
  · have e2 := (hf.1 a t e).2 h1 (hM _ (zY_ar1 t ht h1 h3))
    unfold zre at hb ⊢
    rw [← e2]
    exact hb
theorem zYc.mv {Γ Γ' : Nat → Option Nat} {X : List Nat} {F F' : Nat → va_E} (h : zYc Γ F X) (hk : ∀ a ∈ X, Γ' a = Γ a ∧ F' a = F a) : zYc Γ' F' X := by
  intro a ha
  obtain ⟨t, ht, e, g1, g2⟩ := h a ha
  refine ⟨t, ht, (hk a ha).1.trans e, fun h1 j q b hq hk' hv => g1 h1 j q b hq hk' ?_, fun h1 h3 i b hi hb => g2 h1 h3 i b hi ?_⟩
  · unfold zfld at hv ⊢
    rw [← (hk a ha).2]
    exact hv
  · unfold zre at hb ⊢
    rw [← (hk a ha).2]
    exact hb
theorem zYview1 {Γ : Nat → Option Nat} {k : Nat → ClassId} {L X : List Nat} {F : Nat → va_E} (hI : zInv Γ k L F) (h : zYc Γ F X) : zInv (zYv Γ X) k L F := by
  intro a t hat
  obtain ⟨ha, hx⟩ := zYv.of hat
  obtain ⟨g1, g2, g3⟩ := hI a t ha
  refine ⟨g1, fun ht => (g2 ht).mono rfl (fun j q b hq hk hv hb => zYv.to hb (fun h6 => ?_)), fun ht => (g3 ht).mono2 rfl (fun i b hi h3 hr hb => zYv.to hb (fun h6 => ?_))⟩
  · by_cases c : t ∈ zYs
    · obtain ⟨t', -, e, q1, -⟩ := h a (hx c)
      cases Option.some.inj (ha.symm.trans e)
      exact q1 ht j q b hq hk hv
    · exact absurd h6 (zY_no t c q (List.mem_of_getElem? hq) hk)
  · by_cases c : t ∈ zYs
    · obtain ⟨t', -, e, -, q2⟩ := h a (hx c)
      cases Option.some.inj (ha.symm.trans e)
      exact q2 ht h3 i b hi hr
    · exact absurd h6 (zY_ar t ht c h3)
theorem zYview2 {Γ : Nat → Option Nat} {k : Nat → ClassId} {L X M : List Nat} {F u : Nat → va_E} (hI : zInv Γ k L F) (hI' : zInv (zYv Γ X) k L u) (hf : zFr (zYv Γ X) M F u) : zInv Γ k L u ∧ zFr Γ M F u := by
  have hm : ∀ b t, zYv Γ X b = some t → Γ b = some t := fun b t h => (zYv.of h).1
  refine ⟨fun a t ha => ?_, fun a t ha => ?_, fun a ha => hf.2 a (zYv.un ha)⟩
  · by_cases c : t ∈ zYs ∧ a ∉ X
    · have hu : u a = F a := hf.2 a (zYv.no ha c.1 c.2)
      obtain ⟨g1, g2, g3⟩ := hI a t ha
      exact ⟨g1, fun ht => (g2 ht).mono hu (fun _ _ _ _ _ _ hb => hb), fun ht => (g3 ht).mono hu (fun _ _ hb => hb)⟩
    · obtain ⟨g1, g2, g3⟩ := hI' a t (zYv.to ha (fun h6 => Decidable.byContradiction (fun hx => c ⟨h6, hx⟩)))
      exact ⟨g1, fun ht => (g2 ht).mono rfl (fun _ _ b _ _ _ hb => hm b _ hb), fun ht => (g3 ht).mono rfl (fun b _ hb => hm b _ hb)⟩
  · by_cases c : t ∈ zYs ∧ a ∉ X
    · have hu : u a = F a := hf.2 a (zYv.no ha c.1 c.2)
      exact ⟨fun _ j _ => by unfold zfld; rw [hu], fun _ _ => hu⟩
    · exact hf.1 a t (zYv.to ha (fun h6 => Decidable.byContradiction (fun hx => c ⟨h6, hx⟩)))
theorem zMet_vk {l : Launch} {y : MethodName} {ws : List Cond} {rm : Room} {D : va_G} {k : Nat → ClassId} {Γ : Nat → Option Nat} {L X M : List Nat} {F : Nat → va_E} {sz mc ms : Nat} {av : List Value} {post post' : Int32 → (Nat → va_E) → Prop} {A : Nat → Prop} {free : Addr → Prop} (h : Met l y ws rm (va_Pc av (zP D k (zYv Γ X) L F sz)) (va_Qi post (zQ D k (zYv Γ X) L F M) A) mc ms free) (hX : zYc Γ F X) (hp : ∀ r u, post r u → (∀ a t, Γ a = some t → t ∈ zYs → a ∉ X → u a = F a) → post' r u) : Met l y ws rm (va_Pc av (zP D k Γ L F sz)) (va_Qi post' (zQ D k Γ L F M) A) mc ms free := by
  refine zMet_imp h ?_ ?_
  · intro a s h9
    obtain ⟨e, h1, h2, h3, h4, h5, h6⟩ := h9
    exact ⟨e, h1, h2, h3, h4, h5, zYview1 h6 hX⟩
  · intro a s o t h9 h8
    obtain ⟨e, h1, h2, h3, h4, h5, h6⟩ := h9
    obtain ⟨⟨r, u, e1, hq, b1, b2, b3⟩, hF⟩ := h8
    obtain ⟨c1, c2⟩ := zYview2 h6 b2 b3
    exact ⟨⟨r, u, e1, hp r u hq (fun a t ha ht hx => b3.2 a (zYv.no ha ht hx)), b1, c1, c2⟩, hF⟩
theorem zMet_vkV {l : Launch} {y : MethodName} {ws : List Cond} {rm : Room} {D : va_G} {k : Nat → ClassId} {Γ : Nat → Option Nat} {L X M : List Nat} {F : Nat → va_E} {sz mc ms : Nat} {av : List Value} {post post' : (Nat → va_E) → Prop} {A : Nat → Prop} {free : Addr → Prop} (h : Met l y ws rm (va_Pc av (zP D k (zYv Γ X) L F sz)) (va_Qv post (zQ D k (zYv Γ X) L F M) A) mc ms free) (hX : zYc Γ F X) (hp : ∀ u, post u → (∀ a t, Γ a = some t → t ∈ zYs → a ∉ X → u a = F a) → post' u) : Met l y ws rm (va_Pc av (zP D k Γ L F sz)) (va_Qv post' (zQ D k Γ L F M) A) mc ms free := by
  refine zMet_imp h ?_ ?_
  · intro a s h9
    obtain ⟨e, h1, h2, h3, h4, h5, h6⟩ := h9
    exact ⟨e, h1, h2, h3, h4, h5, zYview1 h6 hX⟩
  · intro a s o t h9 h8
    obtain ⟨e, h1, h2, h3, h4, h5, h6⟩ := h9
    obtain ⟨⟨u, e1, hq, b1, b2, b3⟩, hF⟩ := h8
    obtain ⟨c1, c2⟩ := zYview2 h6 b2 b3
    exact ⟨⟨u, e1, hp u hq (fun a t ha ht hx => b3.2 a (zYv.no ha ht hx)), b1, c1, c2⟩, hF⟩
theorem zYv.nf {Γ : Nat → Option Nat} {X : List Nat} {a t : Nat} (h : Γ a = some t) (ht : t ∉ zYs) : zYv Γ X a = some t := zYv.to h (fun q => absurd q ht)
def zYm (Γ : Nat → Option Nat) (F : Nat → va_E) (ma : Nat) (X : List Nat) : Prop := ma ∈ X ∧ Γ ma = some 12 ∧ zYc Γ F X
def zYb (o : Option Nat) : Bool := match o with
  | some t => decide (t ∈ zYt)
  | none => false
theorem zY_sb0 : ∀ t ∈ zYt, t < 100 → ∀ j, j < 20 → ((zsp t)[j]?.all fun q => !(q.1 == 2 || q.1 == 3) || decide (q.2.1.toNat ∈ zYt)) = true := by decide +kernel
theorem zY_sb {t j : Nat} {q : Nat × Int × Int} (ht : t ∈ zYt) (h1 : t < 100) (hq : (zsp t)[j]? = some q) (hk : q.1 = 2 ∨ q.1 = 3) : q.2.1.toNat ∈ zYt := by
  have hj := (List.getElem?_eq_some_iff.mp hq).1
  have h := zY_sb0 t ht h1 j (by have := zY_ln t ht h1; omega)
  rw [hq] at h
  have h : (!(q.1 == 2 || q.1 == 3) || decide (q.2.1.toNat ∈ zYt)) = true := h
  rcases hk with hk | hk
  · rw [hk] at h
    exact of_decide_eq_true h
  · rw [hk] at h
    exact of_decide_eq_true h
theorem zY_ar2 : ∀ t ∈ zYt, 100 ≤ t → ¬ 3 ≤ (zas t).1 := by decide +kernel
theorem zYc.mk0 {Γ : Nat → Option Nat} {k : Nat → ClassId} {L : List Nat} {F : Nat → va_E} (hI : zInv Γ k L F) : zYc Γ F (L.filter (fun a => zYb (Γ a))) := by
  intro a ha
  obtain ⟨-, h2⟩ := List.mem_filter.mp ha
  have h2 : zYb (Γ a) = true := h2
  cases e : Γ a with
  | none =>
    rw [e] at h2
    exact absurd h2 (by decide)
  | some t =>
    rw [e] at h2
    have ht : t ∈ zYt := of_decide_eq_true h2
    refine ⟨t, ht, rfl, fun h1 j q b hq hk hv => ?_, fun h1 h3 => absurd h3 (zY_ar2 t ht h1)⟩
    obtain ⟨fs, -, -, g⟩ := (hI a t e).2.1 h1
    have gv := g j q hq
    rw [hv] at gv
    have hb := zV.rf gv hk
    exact List.mem_filter.mpr ⟨(hI b _ hb).1, by show zYb (Γ b) = true; rw [hb]; exact decide_eq_true (zY_sb ht h1 hq hk)⟩
theorem zYm.mk0 {Γ : Nat → Option Nat} {k : Nat → ClassId} {L : List Nat} {F : Nat → va_E} {q : Nat} (hI : zInv Γ k L F) (hq : Γ q = some 12) : zYm Γ F q (L.filter (fun a => zYb (Γ a))) :=
  ⟨List.mem_filter.mpr ⟨(hI q _ hq).1, by show zYb (Γ q) = true; rw [hq]; rfl⟩, hq, zYc.mk0 hI⟩
theorem zYm.mv {Γ Γ' : Nat → Option Nat} {X : List Nat} {F F' : Nat → va_E} {ma : Nat} (h : zYm Γ F ma X) (hk : ∀ a ∈ X, Γ' a = Γ a ∧ F' a = F a) : zYm Γ' F' ma X := ⟨h.1, (hk _ h.1).1.trans h.2.1, h.2.2.mv hk⟩
theorem zYm.sub {Γ : Nat → Option Nat} {k : Nat → ClassId} {L X : List Nat} {F : Nat → va_E} {ma : Nat} (h : zYm Γ F ma X) (hI : zInv Γ k L F) : ∀ a ∈ X, a ∈ L := fun a ha => by
  obtain ⟨t, -, e, -⟩ := h.2.2 a ha
  exact (hI a t e).1
theorem zYm.no {Γ : Nat → Option Nat} {X : List Nat} {F : Nat → va_E} {ma h0 : Nat} (h : zYm Γ F ma X) (h0Γ : Γ h0 = none) : ∀ a ∈ X, a ≠ h0 := fun a ha e => by
  obtain ⟨t, -, e', -⟩ := h.2.2 a ha
  rw [e, h0Γ] at e'
  cases e'
theorem zYm.fr {Γ : Nat → Option Nat} {M X : List Nat} {F u : Nat → va_E} {ma : Nat} (h : zYm Γ F ma X) (hf : zFr Γ M F u) (hM : ∀ m ∈ zYr, m ∉ M) : zYm Γ u ma X := ⟨h.1, h.2.1, h.2.2.fr hf hM⟩
theorem zYs_ne {t : Nat} (h : t < 12 ∨ (12 < t ∧ t < 165) ∨ 167 < t) : t ∉ zYs := by
  intro q
  have q : t ∈ [12, 165, 166, 167] := q
  simp only [List.mem_cons, List.not_mem_nil, or_false] at q
  omega
theorem zSA.vy {Γ : Nat → Option Nat} {F : Nat → va_E} {X : List Nat} {sp : Nat} (h : zSA Γ F sp) : zSA (zYv Γ X) F sp := ⟨zYv.nf h.1 (zYs_ne (Or.inl (by decide))), fun j h4 h30 => by
  obtain ⟨b, k1, k2⟩ := h.2 j h4 h30
  exact ⟨b, k1, zYv.nf k2 (zYs_ne (Or.inr (Or.inl ⟨by omega, by omega⟩)))⟩⟩
theorem zWG.vy {Γ : Nat → Option Nat} {F : Nat → va_E} {X : List Nat} {pr : Nat} (h : zWG Γ F pr) : zWG (zYv Γ X) F pr := ⟨h.1.vy, h.2⟩
theorem zRb.vy {Γ : Nat → Option Nat} {F : Nat → va_E} {X : List Nat} {pr : Nat} {T : zTS} {V : Nat → Int} {d : zDat} (h : zRb Γ F pr T V d) : zRb (zYv Γ X) F pr T V d := ⟨h.1.vy, h.2⟩
/-- what stands still when the model's own fields and the running Run change -/
def zYk (Γ : Nat → Option Nat) (X : List Nat) (F u : Nat → va_E) : Prop := ∀ a t, Γ a = some t → t ∈ zYs → a ∉ X → u a = F a
theorem zYk.rf {Γ : Nat → Option Nat} {X : List Nat} {F : Nat → va_E} : zYk Γ X F F := fun _ _ _ _ _ => rfl
theorem zYk.tr {Γ : Nat → Option Nat} {X : List Nat} {F u v : Nat → va_E} (h : zYk Γ X F u) (g : zYk Γ X u v) : zYk Γ X F v := fun a t e h1 h2 => (g a t e h1 h2).trans (h a t e h1 h2)
theorem zFr.wholeY {Γ : Nat → Option Nat} {k : Nat → ClassId} {L M X : List Nat} {F u : Nat → va_E} (hI : zInv Γ k L F) (hI' : zInv Γ k L u) (hf : zFr Γ M F u) (hM : ∀ m ∈ M, ¬ (m / 100 ∈ zYs)) : zYk Γ X F u := fun a t e h1 _ => by
  have h9 : t ∈ [12, 165, 166, 167] := h1
  simp only [List.mem_cons, List.not_mem_nil, or_false] at h9
  by_cases c : t < 100
  · have ht : t = 12 := by omega
    subst ht
    obtain ⟨fs, g1, g2, -⟩ := (hI a 12 e).2.1 (by decide)
    obtain ⟨fs', g1', g2', -⟩ := (hI' a 12 e).2.1 (by decide)
    rw [g1, g1']
    have : fs' = fs := by
      apply List.ext_getElem (by rw [g2, g2'])
      intro j hj hj'
      have h9 := (hf.1 a 12 e).1 (by decide) j (fun q => hM _ q (by
        have h8 : j < 10 := (by rw [g2'] at hj; exact hj)
        rw [show (100 * 12 + j) / 100 = 12 by omega]
        decide))
      unfold zfld at h9
      rw [g1, g1'] at h9
      have h9 : fs'.getD j .null = fs.getD j .null := h9
      rw [List.getD_eq_getElem?_getD, List.getD_eq_getElem?_getD, List.getElem?_eq_getElem hj, List.getElem?_eq_getElem hj'] at h9
      exact h9
    rw [this]
  · exact (hf.1 a t e).2 (by omega) (fun q => hM _ q (by rw [show 100 * t / 100 = t by omega]; exact h1))
/-- the two Runs of a model -/
def zYn (Γ : Nat → Option Nat) (F : Nat → va_E) (mo : Nat) : Prop := ∃ (lt wk : Nat) (Y1 Y2 : List Nat), (zfld F mo 22 = .ref lt ∧ zfld F mo 23 = .ref wk) ∧ (zYm Γ F lt Y1 ∧ zYm Γ F wk Y2) ∧ (∀ a ∈ Y1, a ∉ Y2) ∧ ∀ a ∈ Y2, a ∉ Y1
theorem zYn.fr {Γ : Nat → Option Nat} {M : List Nat} {F u : Nat → va_E} {mo : Nat} (h : zYn Γ F mo) (hf : zFr Γ M F u) (hmo : Γ mo = some 14) (hM : (1422 ∉ M ∧ 1423 ∉ M) ∧ ∀ m ∈ zYr, m ∉ M) : zYn Γ u mo := by
  obtain ⟨lt, wk, Y1, Y2, ⟨k1, k2⟩, ⟨m1, m2⟩, d⟩ := h
  exact ⟨lt, wk, Y1, Y2, ⟨hf.f hmo 22 ⟨by decide, hM.1.1⟩ k1, hf.f hmo 23 ⟨by decide, hM.1.2⟩ k2⟩, ⟨m1.fr hf hM.2, m2.fr hf hM.2⟩, d⟩
theorem zYn.mv {Γ Γ' : Nat → Option Nat} {F F' : Nat → va_E} {mo : Nat} (h : zYn Γ F mo) (hmo : Γ mo = some 14) (hm : ∀ a t, Γ a = some t → Γ' a = Γ a ∧ F' a = F a) : zYn Γ' F' mo := by
  obtain ⟨lt, wk, Y1, Y2, ⟨k1, k2⟩, ⟨m1, m2⟩, d⟩ := h
  have e := (hm mo _ hmo).2
  have mv : ∀ {ma : Nat} {X : List Nat}, zYm Γ F ma X → zYm Γ' F' ma X := fun {ma X} g => g.mv (fun a ha => by
    obtain ⟨t, -, q, -⟩ := g.2.2 a ha
    exact hm a t q)
  have ef : ∀ j v, zfld F mo j = v → zfld F' mo j = v := fun j v q => by
    unfold zfld at q ⊢
    rw [e]
    exact q
  exact ⟨lt, wk, Y1, Y2, ⟨ef _ _ k1, ef _ _ k2⟩, ⟨mv m1, mv m2⟩, d⟩
/-- the latest Run and the other one change their places -/
theorem zYn.sw {Γ : Nat → Option Nat} {M : List Nat} {F u : Nat → va_E} {mo lt wk : Nat} (h : zYn Γ F mo) (hf : zFr Γ M F u) (k1 : zfld F mo 22 = .ref lt) (k2 : zfld F mo 23 = .ref wk) (g1 : zfld u mo 22 = .ref wk) (g2 : zfld u mo 23 = .ref lt) (hM : ∀ m ∈ zYr, m ∉ M) : zYn Γ u mo := by
  obtain ⟨lt9, wk9, Y1, Y2, ⟨q1, q2⟩, ⟨m1, m2⟩, d1, d2⟩ := h
  cases Value.ref.inj (k1.symm.trans q1)
  cases Value.ref.inj (k2.symm.trans q2)
  exact ⟨wk, lt, Y2, Y1, ⟨g1, g2⟩, ⟨m2.fr hf hM, m1.fr hf hM⟩, d2, d1⟩
