/-! The class's functions, beside the steps. -/
section
variable {p : Program} {l : Launch} {e : Env} {R : Room} {s : State} {m : MethodId} {args : Array Value} {below : List Frame} {meth : Method} {c : Code} {H : Heap} {locs : List Loc} {cells slots : Nat} {Q : State → Prop}
variable {cc : ByteArray} {pc nL : Nat} {ls : Array Slot} {rest st0 : List Value} {D : va_G} {k : Nat → ClassId} {Γ : Nat → Option Nat} {L : List Nat} {F : Nat → va_E} {Ts : List Cond} {own ref C : String} {T : u_T} {N t a index : Nat}
theorem zt_pute (Z : zC p m c cc nL s args Ts own D k L) (h : zH D k Γ L s F H locs) (ha : Γ a = some t) (hin : ∀ w ∈ u_ws C T N, w ∈ Ts) (ty0 : Nat → FieldType) (hty : ∀ k, k < N → parseFieldDescriptor (T k).2.2.1 = some (ty0 k)) (hnm : ∀ a, a < N → ∀ b, b < N → a ≠ b → (T a).2.1 ≠ (T b).2.1) (hc : z_Cl[t]? = some (C, T, N)) (j : Nat) {q : Nat × Int × Int} (hq : (zsp t)[j]? = some q) (hn : t < 100 ∧ (zsp t).length = N) (hlink : Cond.fieldLink own index ref (T j).2.1 (T j).2.2.1 ∈ Ts) (hsame : ∀ x, s.fieldFound? (T j).1 (T j).2.1 (T j).2.2.1 = some x → s.fieldFound? ref (T j).2.1 (T j).2.2.1 = some x) (hfin : (T j).2.2.2 = false)
    {v : Value} (hv : zV Γ q v) (hnar : narrow (ty0 j) v = v) (hfit : fits (ty0 j) v = true) (hdg : decode cc pc = .ok (.putfield index, 3))
    (kk : ∀ (H1 : Heap) (locs1 : List Loc) (F1 : Nat → va_E), zH D k Γ L s F1 H1 locs1 → zFr Γ [100 * t + j] F F1 → zfld F1 a j = v → (∀ b, b ≠ a → F1 b = F b) → W p l e R s m args below meth c H1 locs1 cells slots Q (F0 m (pc + 3) ls rest)) : W p l e R s m args below meth c H locs cells slots Q (F0 m pc ls (v :: .ref a :: rest)) := by
  obtain ⟨⟨hx, hb, hml, hown, hts⟩, hK, hLn, hE⟩ := Z
  obtain ⟨hP, hI, hS⟩ := h
  obtain ⟨hL, hO, -⟩ := hI a t ha
  obtain ⟨fs, hF, hlen, hall⟩ := hO hn.1
  have hj : j < N := by rw [← hn.2]; exact (List.getElem?_eq_some_iff.mp hq).1
  obtain ⟨g1, g2, g3⟩ := zO_put hI ha hF hn.1 hq hv
  exact zf_put hx hb hts hin ty0 hty hnm hown hK hP (zD hLn) hS hL hF hc j hj (hts _ hlink) hsame hfin (hty j hj) hnar hfit (by rw [hlen, hn.2]; exact hj) hdg (fun H1 locs1 q1 _ q3 => kk H1 locs1 _ ⟨q1, g1, q3⟩ g2 g3 (fun b hb => va_up_ne F _ hb))
end
/-- all Functions but fu stand as they were -/
def zOth (Γ : Nat → Option Nat) (F u : Nat → va_E) (fu : Nat) : Prop := ∀ b j : Nat, Γ b = some 2 → b ≠ fu → j < 9 → zfld u b j = zfld F b j
theorem zOth.rf {Γ : Nat → Option Nat} {F : Nat → va_E} {fu : Nat} : zOth Γ F F fu := fun _ _ _ _ _ => rfl
theorem zOth.trans {Γ : Nat → Option Nat} {F u v : Nat → va_E} {fu : Nat} (h : zOth Γ F u fu) (h1 : zOth Γ u v fu) : zOth Γ F v fu := fun b j a1 a2 a3 => (h1 b j a1 a2 a3).trans (h b j a1 a2 a3)
theorem zOth.fr {Γ : Nat → Option Nat} {M : List Nat} {F u v : Nat → va_E} {fu : Nat} (h : zOth Γ F u fu) (hf : zFr Γ M u v) (hM : ∀ j, j < 9 → 200 + j ∉ M) : zOth Γ F v fu := fun b j a1 a2 a3 => (((hf.1 b 2 a1).1 (by decide) j (hM j a3))).trans (h b j a1 a2 a3)
theorem zOth.put {Γ : Nat → Option Nat} {F u v : Nat → va_E} {fu : Nat} (h : zOth Γ F u fu) (hg : ∀ b, b ≠ fu → v b = u b) : zOth Γ F v fu := fun b j a1 a2 a3 => by
  have e : zfld v b j = zfld u b j := by
    unfold zfld
    rw [hg b a2]
  exact e.trans (h b j a1 a2 a3)
/-- the Functions of a Program: where they stand -/
def zPS (Γ : Nat → Option Nat) (F : Nat → va_E) (pr : Nat) (fa : Nat → Nat) : Prop := ∃ ar, zfld F pr 2 = .ref ar ∧ Γ ar = some 104 ∧ (∀ f, f < 10 → zre F ar f = some (fa f) ∧ Γ (fa f) = some 2) ∧ ∀ f g, f < 10 → g < 10 → fa f = fa g → f = g
theorem zPS.fr {Γ : Nat → Option Nat} {M : List Nat} {F u : Nat → va_E} {pr : Nat} {fa : Nat → Nat} (h : zPS Γ F pr fa) (hf : zFr Γ M F u) (hp : Γ pr = some 6) (hM : 602 ∉ M ∧ 10400 ∉ M) : zPS Γ u pr fa := by
  obtain ⟨ar, h1, h2, h3, h4⟩ := h
  refine ⟨ar, hf.f hp 2 ⟨by decide, hM.1⟩ h1, h2, fun f hf9 => ⟨?_, (h3 f hf9).2⟩, h4⟩
  have e : u ar = F ar := (hf.1 ar 104 h2).2 (by decide) hM.2
  unfold zre
  rw [e]
  exact (h3 f hf9).1
theorem zPS.at {Γ : Nat → Option Nat} {F : Nat → va_E} {pr ar b : Nat} {fa : Nat → Nat} {i : Int32} (h : zPS Γ F pr fa) (k : zfld F pr 2 = .ref ar) (e : zre F ar i.toNatClampNeg = some b) (hi : 0 ≤ i.toInt ∧ i.toInt < 10) : b = fa i.toInt.toNat := by
  obtain ⟨ar', h1, h2, h3, h4⟩ := h
  cases Value.ref.inj (h1.symm.trans k)
  have h5 := (h3 i.toNatClampNeg (by rw [Int32.toNatClampNeg]; omega)).1
  rw [e] at h5
  injection h5
/-- a Function's first token, last token, first line, how many lines -/
def zF4 (F : Nat → va_E) (b : Nat) (p q : Nat × Nat) : Prop := ∃ t1 t2 l3 l4 : Int32, (zfld F b 1 = .int t1 ∧ zfld F b 2 = .int t2 ∧ zfld F b 3 = .int l3 ∧ zfld F b 4 = .int l4) ∧ t1.toInt = (p.1 : Int) ∧ t2.toInt = (q.1 : Int) - 1 ∧ l3.toInt = (p.2 : Int) ∧ l4.toInt = (q.2 : Int) - (p.2 : Int)
theorem zF4.cg {F u : Nat → va_E} {b : Nat} {p q : Nat × Nat} (h : zF4 F b p q) (e : ∀ j, 1 ≤ j → j < 5 → zfld u b j = zfld F b j) : zF4 u b p q := by
  obtain ⟨t1, t2, l3, l4, ⟨h1, h2, h3, h4⟩, h5⟩ := h
  exact ⟨t1, t2, l3, l4, ⟨(e 1 (by decide) (by decide)).trans h1, (e 2 (by decide) (by decide)).trans h2, (e 3 (by decide) (by decide)).trans h3, (e 4 (by decide) (by decide)).trans h4⟩, h5⟩
/-- the Functions that were read; their calls apart -/
def zC3w (Γ : Nat → Option Nat) (F : Nat → va_E) (pr : Nat) (fa : Nat → Nat) (T : zTS) (N : Nat) (σ : zSg) : Prop := zPS Γ F pr fa ∧ ∀ i d, σ = .inl (i, d) → (∃ x : Int32, zfld F pr 4 = .int x ∧ x.toInt = (zfc d : Int)) ∧ zfc d ≤ 10 ∧ ∀ f, f < zfc d → (∃ y : Int32, zfld F (fa f) 0 = .int y ∧ y.toInt = (znm d f : Int)) ∧ (∃ z : Int32, zfld F (fa f) 7 = .int z ∧ z.toInt = (zpc d f : Int)) ∧ (T.1 (znm d f) = 4 ∧ znm d f < N) ∧ zF4 F (fa f) (zff d f) (zfe d f)
def zC6 (F : Nat → va_E) (fa : Nat → Nat) (σ : zSg) : Prop := ∀ i d, σ = .inl (i, d) → ∀ f, f < zfc d → zfld F (fa f) 6 = .int 0
def zC3 (Γ : Nat → Option Nat) (F : Nat → va_E) (pr : Nat) (fa : Nat → Nat) (T : zTS) (N : Nat) (σ : zSg) : Prop := zC3w Γ F pr fa T N σ ∧ zC6 F fa σ
theorem zPS.ty {Γ : Nat → Option Nat} {F : Nat → va_E} {pr : Nat} {fa : Nat → Nat} (h : zPS Γ F pr fa) {f : Nat} (hf : f < 10) : Γ (fa f) = some 2 := by
  obtain ⟨ar, -, -, q3, -⟩ := h
  exact (q3 f hf).2
theorem zj5 {j : Nat} (h1 : 1 ≤ j) (h : j < 5) : j = 1 ∨ j = 2 ∨ j = 3 ∨ j = 4 := by omega
theorem zF4.fr {Γ : Nat → Option Nat} {M : List Nat} {F u : Nat → va_E} {b : Nat} {p q : Nat × Nat} (h : zF4 F b p q) (hf : zFr Γ M F u) (hb : Γ b = some 2) (hM : 201 ∉ M ∧ 202 ∉ M ∧ 203 ∉ M ∧ 204 ∉ M) : zF4 u b p q := h.cg (fun j h1 h2 => by
  rcases zj5 h1 h2 with rfl | rfl | rfl | rfl
  · exact hf.f hb 1 ⟨by decide, hM.1⟩ rfl
  · exact hf.f hb 2 ⟨by decide, hM.2.1⟩ rfl
  · exact hf.f hb 3 ⟨by decide, hM.2.2.1⟩ rfl
  · exact hf.f hb 4 ⟨by decide, hM.2.2.2⟩ rfl)
theorem zC3w.fr {Γ : Nat → Option Nat} {M : List Nat} {F u : Nat → va_E} {pr N : Nat} {fa : Nat → Nat} {T : zTS} {σ : zSg} (h : zC3w Γ F pr fa T N σ) (hf : zFr Γ M F u) (hp : Γ pr = some 6) (hM : (602 ∉ M ∧ 10400 ∉ M) ∧ 604 ∉ M ∧ 200 ∉ M ∧ 207 ∉ M ∧ 201 ∉ M ∧ 202 ∉ M ∧ 203 ∉ M ∧ 204 ∉ M) : zC3w Γ u pr fa T N σ := by
  refine ⟨h.1.fr hf hp hM.1, fun i d e => ?_⟩
  obtain ⟨⟨x, h1, h2⟩, h3, h4⟩ := h.2 i d e
  refine ⟨⟨x, hf.f hp 4 ⟨by decide, hM.2.1⟩ h1, h2⟩, h3, fun f hfc => ?_⟩
  obtain ⟨⟨y, a1, a2⟩, ⟨z, a3, a4⟩, a5, a6⟩ := h4 f hfc
  have g := h.1.ty (f := f) (by omega)
  exact ⟨⟨y, hf.f g 0 ⟨by decide, hM.2.2.1⟩ a1, a2⟩, ⟨z, hf.f g 7 ⟨by decide, hM.2.2.2.1⟩ a3, a4⟩, a5, a6.fr hf g hM.2.2.2.2⟩
theorem zC3.fr {Γ : Nat → Option Nat} {M : List Nat} {F u : Nat → va_E} {pr N : Nat} {fa : Nat → Nat} {T : zTS} {σ : zSg} (h : zC3 Γ F pr fa T N σ) (hf : zFr Γ M F u) (hp : Γ pr = some 6) (hM : ((602 ∉ M ∧ 10400 ∉ M) ∧ 604 ∉ M ∧ 200 ∉ M ∧ 207 ∉ M ∧ 201 ∉ M ∧ 202 ∉ M ∧ 203 ∉ M ∧ 204 ∉ M) ∧ 206 ∉ M) : zC3 Γ u pr fa T N σ :=
  ⟨h.1.fr hf hp hM.1, fun i d e f hfc => hf.f (h.1.1.ty (by have := (h.1.2 i d e).2.1; omega)) 6 ⟨by decide, hM.2⟩ (h.2 i d e f hfc)⟩
/-- steps of a FUNCTION's head: of its beginning, its name, its places -/
def zOf (d d' : zDat) : Prop := ∀ f, f < zfc d → znm d' f = znm d f ∧ zpc d' f = zpc d f ∧ zff d' f = zff d f ∧ zfe d' f = zfe d f
theorem zOf.rf {d : zDat} : zOf d d := fun _ _ => ⟨rfl, rfl, rfl, rfl⟩
theorem zOf.trans {a b c : zDat} (h : zOf a b) (g : zOf b c) (e : zfc b = zfc a) : zOf a c := fun f hf => by
  obtain ⟨a1, a2, a3, a4⟩ := h f hf
  obtain ⟨b1, b2, b3, b4⟩ := g f (by omega)
  exact ⟨b1.trans a1, b2.trans a2, b3.trans a3, b4.trans a4⟩
theorem zEF.of {d d' : zDat} (h : zEF d d') : zOf d d' := fun f _ => ⟨by rw [h.2.1], by rw [h.2.2.1], by rw [h.2.2.2.2.1], by rw [h.2.2.2.2.2.1]⟩
def zsB (σ σ' : zSg) : Prop := ∀ j d', σ' = .inl (j, d') → ∃ i d, σ = .inl (i, d) ∧ i ≤ j ∧ zfc d' = zfc d ∧ zlc d' = zlc d ∧ zOf d d' ∧ zln d' = zln d
def zsN (σ σ' : zSg) : Prop := ∀ j d', σ' = .inl (j, d') → ∃ i d, σ = .inl (i, d) ∧ i ≤ j ∧ zfc d' = zfc d ∧ zlc d' = zlc d ∧ zOf d d' ∧ zln d' = zln d ∧ zff d' = zff d
def zsP (σ σ' : zSg) : Prop := ∀ j d', σ' = .inl (j, d') → ∃ i d, σ = .inl (i, d) ∧ i ≤ j ∧ zfc d' = zfc d ∧ zlc d' = zlc d ∧ zOf d d' ∧ znm d' = znm d ∧ zln d' = zln d ∧ zff d' = zff d
theorem zsN.rf {σ : zSg} : zsN σ σ := fun j d' e => ⟨j, d', e, Nat.le_refl _, rfl, rfl, zOf.rf, rfl, rfl⟩
theorem zsP.rf {σ : zSg} : zsP σ σ := fun j d' e => ⟨j, d', e, Nat.le_refl _, rfl, rfl, zOf.rf, rfl, rfl, rfl⟩
theorem zsN.trans {σ σ1 σ2 : zSg} (h : zsN σ σ1) (h1 : zsN σ1 σ2) : zsN σ σ2 := fun j d' e => by
  obtain ⟨i, d, e1, g1, g2, g3, g4, g6, g7⟩ := h1 j d' e
  obtain ⟨q, b, e2, k1, k2, k3, k4, k6, k7⟩ := h i d e1
  exact ⟨q, b, e2, Nat.le_trans k1 g1, g2.trans k2, g3.trans k3, k4.trans g4 k2, g6.trans k6, g7.trans k7⟩
theorem zsP.trans {σ σ1 σ2 : zSg} (h : zsP σ σ1) (h1 : zsP σ1 σ2) : zsP σ σ2 := fun j d' e => by
  obtain ⟨i, d, e1, g1, g2, g3, g4, g5, g6, g7⟩ := h1 j d' e
  obtain ⟨q, b, e2, k1, k2, k3, k4, k5, k6, k7⟩ := h i d e1
  exact ⟨q, b, e2, Nat.le_trans k1 g1, g2.trans k2, g3.trans k3, k4.trans g4 k2, g5.trans k5, g6.trans k6, g7.trans k7⟩
theorem zss.sP {σ σ' : zSg} (h : zss σ σ') : zsP σ σ' := fun j d' e => by
  obtain ⟨i, d, e1, g1, g2⟩ := h j d' e
  exact ⟨i, d, e1, g1, g2.1, g2.2.2.2.2.2.1, g2.f.of, g2.2.1, g2.2.2.2.2.2.2.1, g2.2.2.2.2.1⟩
theorem zsP.sN {σ σ' : zSg} (h : zsP σ σ') : zsN σ σ' := fun j d' e => by
  obtain ⟨i, d, e1, g1, g2, g3, g4, -, g6, g7⟩ := h j d' e
  exact ⟨i, d, e1, g1, g2, g3, g4, g6, g7⟩
theorem zsN.sB {σ σ' : zSg} (h : zsN σ σ') : zsB σ σ' := fun j d' e => by
  obtain ⟨i, d, e1, g1, g2, g3, g4, g6, -⟩ := h j d' e
  exact ⟨i, d, e1, g1, g2, g3, g4, g6⟩
theorem zss.sN {σ σ' : zSg} (h : zss σ σ') : zsN σ σ' := h.sP.sN
theorem zsB.rf {σ : zSg} : zsB σ σ := zsN.rf.sB
theorem zsB.sB {σ σ1 σ2 : zSg} (h : zsB σ σ1) (h1 : zsB σ1 σ2) : zsB σ σ2 := fun j d' e => by
  obtain ⟨i, d, e1, g1, g2, g3, g4, g6⟩ := h1 j d' e
  obtain ⟨q, b, e2, k1, k2, k3, k4, k6⟩ := h i d e1
  exact ⟨q, b, e2, Nat.le_trans k1 g1, g2.trans k2, g3.trans k3, k4.trans g4 k2, g6.trans k6⟩
theorem zsB.sN {σ σ1 σ2 : zSg} (h : zsB σ σ1) (h1 : zsN σ1 σ2) : zsB σ σ2 := h.sB h1.sB
theorem zsB.sP {σ σ1 σ2 : zSg} (h : zsB σ σ1) (h1 : zsP σ1 σ2) : zsB σ σ2 := h.sB h1.sN.sB
theorem zsB.ss {σ σ1 σ2 : zSg} (h : zsB σ σ1) (h1 : zss σ1 σ2) : zsB σ σ2 := h.sB h1.sN.sB
theorem zsB.sm {σ σ1 σ2 : zSg} (h : zsB σ σ1) (h1 : zsm σ1 σ2) : zsB σ σ2 := h.ss h1.ss
theorem zsB.nx {N : Nat} {σ σ' : zSg} (h : zsB σ σ') (h1 : zok N σ) (h2 : zok N σ') : znx N σ ≤ znx N σ' := by
  match σ', h, h2 with
  | .inl (j, d'), h, h2 =>
    obtain ⟨i, d, e, g, -⟩ := h j d' rfl
    subst e
    show (i : Int) ≤ (j : Int)
    omega
  | .inr k, h, h2 =>
    match σ, h1 with
    | .inl (i, d), h1 =>
      have h1 : i < N := h1
      show (i : Int) ≤ (N : Int) - 1
      omega
    | .inr q, _ => exact Int.le_refl _
theorem zsN.nx {N : Nat} {σ σ' : zSg} (h : zsN σ σ') (h1 : zok N σ) (h2 : zok N σ') : znx N σ ≤ znx N σ' := h.sB.nx h1 h2
theorem zsP.nx {N : Nat} {σ σ' : zSg} (h : zsP σ σ') (h1 : zok N σ) (h2 : zok N σ') : znx N σ ≤ znx N σ' := h.sN.nx h1 h2
theorem zC4.sB {Γ : Nat → Option Nat} {F : Nat → va_E} {pr : Nat} {la : Nat → Nat} {T : zTS} {σ σ1 : zSg} (h : zC4 Γ F pr la T σ) (hs : zsB σ σ1) : zC4 Γ F pr la T σ1 := h.st (fun j d' e => by
  obtain ⟨i, d, e1, -, -, e2, -, e3⟩ := hs j d' e
  exact ⟨i, d, e1, e2, e3⟩)
theorem zC4.sN {Γ : Nat → Option Nat} {F : Nat → va_E} {pr : Nat} {la : Nat → Nat} {T : zTS} {σ σ1 : zSg} (h : zC4 Γ F pr la T σ) (hs : zsN σ σ1) : zC4 Γ F pr la T σ1 := h.sB hs.sB
theorem zC4.sP {Γ : Nat → Option Nat} {F : Nat → va_E} {pr : Nat} {la : Nat → Nat} {T : zTS} {σ σ1 : zSg} (h : zC4 Γ F pr la T σ) (hs : zsP σ σ1) : zC4 Γ F pr la T σ1 := h.sN hs.sN
/-- how many functions -/
def zFk (nf : Int32) (σ : zSg) : Prop := ∀ i d, σ = .inl (i, d) → nf.toInt = (zfc d : Int)
theorem zFk.sB {nf : Int32} {σ σ1 : zSg} (h : zFk nf σ) (hs : zsB σ σ1) : zFk nf σ1 := fun j d' e => by
  obtain ⟨i, d, e1, -, e2, -⟩ := hs j d' e
  rw [e2]
  exact h i d e1
theorem zFk.sN {nf : Int32} {σ σ1 : zSg} (h : zFk nf σ) (hs : zsN σ σ1) : zFk nf σ1 := h.sB hs.sB
theorem zFk.sP {nf : Int32} {σ σ1 : zSg} (h : zFk nf σ) (hs : zsP σ σ1) : zFk nf σ1 := h.sN hs.sN
theorem zFk.ss {nf : Int32} {σ σ1 : zSg} (h : zFk nf σ) (hs : zss σ σ1) : zFk nf σ1 := h.sN hs.sN
theorem zFk.sm {nf : Int32} {σ σ1 : zSg} (h : zFk nf σ) (hs : zsm σ σ1) : zFk nf σ1 := h.ss hs.ss
theorem zFk.sl {nf : Int32} {σ σ1 : zSg} (h : zFk nf σ) (hs : zsl σ σ1) : zFk nf σ1 := fun j d' e => by
  obtain ⟨i, d, e1, -, e2, -⟩ := hs j d' e
  rw [e2]
  exact h i d e1
theorem zC3w.st {Γ : Nat → Option Nat} {F : Nat → va_E} {pr N : Nat} {fa : Nat → Nat} {T : zTS} {σ σ1 : zSg} (h : zC3w Γ F pr fa T N σ) (hs : ∀ j d', σ1 = .inl (j, d') → ∃ i d, σ = .inl (i, d) ∧ zfc d' = zfc d ∧ zOf d d') : zC3w Γ F pr fa T N σ1 := by
  refine ⟨h.1, fun j d' e => ?_⟩
  obtain ⟨i, d, e1, g1, g2⟩ := hs j d' e
  obtain ⟨⟨x, h1, h2⟩, h3, h4⟩ := h.2 i d e1
  refine ⟨⟨x, h1, by rw [g1]; exact h2⟩, by omega, fun f hf => ?_⟩
  obtain ⟨b1, b2, b3, b4⟩ := g2 f (by omega)
  rw [b1, b2, b3, b4]
  exact h4 f (by omega)
theorem zC3.st {Γ : Nat → Option Nat} {F : Nat → va_E} {pr N : Nat} {fa : Nat → Nat} {T : zTS} {σ σ1 : zSg} (h : zC3 Γ F pr fa T N σ) (hs : ∀ j d', σ1 = .inl (j, d') → ∃ i d, σ = .inl (i, d) ∧ zfc d' = zfc d ∧ zOf d d') : zC3 Γ F pr fa T N σ1 := ⟨h.1.st hs, fun j d' e f hf => by
  obtain ⟨i, d, e1, g1, -⟩ := hs j d' e
  exact h.2 i d e1 f (by omega)⟩
theorem zC3.sB {Γ : Nat → Option Nat} {F : Nat → va_E} {pr N : Nat} {fa : Nat → Nat} {T : zTS} {σ σ1 : zSg} (h : zC3 Γ F pr fa T N σ) (hs : zsB σ σ1) : zC3 Γ F pr fa T N σ1 := h.st (fun j d' e => by
  obtain ⟨i, d, e1, -, g2, -, g4, -⟩ := hs j d' e
  exact ⟨i, d, e1, g2, g4⟩)
theorem zC3.sN {Γ : Nat → Option Nat} {F : Nat → va_E} {pr N : Nat} {fa : Nat → Nat} {T : zTS} {σ σ1 : zSg} (h : zC3 Γ F pr fa T N σ) (hs : zsN σ σ1) : zC3 Γ F pr fa T N σ1 := h.sB hs.sB
theorem zC3.sP {Γ : Nat → Option Nat} {F : Nat → va_E} {pr N : Nat} {fa : Nat → Nat} {T : zTS} {σ σ1 : zSg} (h : zC3 Γ F pr fa T N σ) (hs : zsP σ σ1) : zC3 Γ F pr fa T N σ1 := h.sN hs.sN
theorem zC3.sl {Γ : Nat → Option Nat} {F : Nat → va_E} {pr N : Nat} {fa : Nat → Nat} {T : zTS} {σ σ1 : zSg} (h : zC3 Γ F pr fa T N σ) (hs : zsl σ σ1) : zC3 Γ F pr fa T N σ1 := h.st (fun j d' e => by
  obtain ⟨i, d, e1, -, g⟩ := hs j d' e
  exact ⟨i, d, e1, g.1, g.of⟩)
theorem zC3.ss {Γ : Nat → Option Nat} {F : Nat → va_E} {pr N : Nat} {fa : Nat → Nat} {T : zTS} {σ σ1 : zSg} (h : zC3 Γ F pr fa T N σ) (hs : zss σ σ1) : zC3 Γ F pr fa T N σ1 := h.sl hs.sl
theorem zC3.sm {Γ : Nat → Option Nat} {F : Nat → va_E} {pr N : Nat} {fa : Nat → Nat} {T : zTS} {σ σ1 : zSg} (h : zC3 Γ F pr fa T N σ) (hs : zsm σ σ1) : zC3 Γ F pr fa T N σ1 := h.ss hs.ss
/-- the Functions but the one that is read: also while its own fields change -/
theorem zC3.oth {Γ : Nat → Option Nat} {F u : Nat → va_E} {pr fu N : Nat} {fa : Nat → Nat} {T : zTS} {σ : zSg} {x : Int32} (h : zC3 Γ F pr fa T N σ) (hps : zPS Γ u pr fa) (kx : zfld F pr 4 = .int x) (kx' : zfld u pr 4 = .int x) (ho : zOth Γ F u fu) (hfu : fu = fa x.toInt.toNat) (hx : 0 ≤ x.toInt ∧ x.toInt < 10) : zC3 Γ u pr fa T N σ := by
  have hne : ∀ i d, σ = .inl (i, d) → ∀ f, f < zfc d → fa f ≠ fu := fun i d e f hfc h9 => by
    obtain ⟨⟨x', h1, h2⟩, h3, -⟩ := h.1.2 i d e
    cases z_vi kx h1
    obtain ⟨ar, -, -, -, q4⟩ := h.1.1
    have := q4 f x.toInt.toNat (by omega) (by omega) (h9.trans hfu)
    omega
  refine ⟨⟨hps, fun i d e => ?_⟩, fun i d e f hfc => ?_⟩
  · obtain ⟨⟨x', h1, h2⟩, h3, h4⟩ := h.1.2 i d e
    cases z_vi kx h1
    refine ⟨⟨x, kx', h2⟩, h3, fun f hfc => ?_⟩
    obtain ⟨⟨y, a1, a2⟩, ⟨z, a3, a4⟩, a5, a6⟩ := h4 f hfc
    have g := h.1.1.ty (f := f) (by omega)
    have hn := hne i d e f hfc
    exact ⟨⟨y, (ho _ 0 g hn (by decide)).trans a1, a2⟩, ⟨z, (ho _ 7 g hn (by decide)).trans a3, a4⟩, a5, a6.cg (fun j _ hj => ho _ j g hn (by omega))⟩
  · have h3 := (h.1.2 i d e).2.1
    exact (ho _ 6 (h.1.1.ty (f := f) (by omega)) (hne i d e f hfc) (by decide)).trans (h.2 i d e f hfc)
/-- where the FUNCTION that is read begins; no calls yet -/
def zBg (F : Nat → va_E) (fu : Nat) (σ : zSg) : Prop := zfld F fu 6 = .int 0 ∧ ∃ t1 l3 : Int32, zfld F fu 1 = .int t1 ∧ zfld F fu 3 = .int l3 ∧ ∀ i d, σ = .inl (i, d) → t1.toInt = ((zff d (zfc d)).1 : Int) ∧ l3.toInt = ((zff d (zfc d)).2 : Int)
theorem zBg.fr {Γ : Nat → Option Nat} {M : List Nat} {F u : Nat → va_E} {fu : Nat} {σ : zSg} (h : zBg F fu σ) (hf : zFr Γ M F u) (hp : Γ fu = some 2) (hM : 201 ∉ M ∧ 203 ∉ M ∧ 206 ∉ M) : zBg u fu σ := by
  obtain ⟨h0, t1, l3, h1, h2, h3⟩ := h
  exact ⟨hf.f hp 6 ⟨by decide, hM.2.2⟩ h0, t1, l3, hf.f hp 1 ⟨by decide, hM.1⟩ h1, hf.f hp 3 ⟨by decide, hM.2.1⟩ h2, h3⟩
theorem zBg.st {F : Nat → va_E} {fu : Nat} {σ σ1 : zSg} (h : zBg F fu σ) (hs : ∀ j d', σ1 = .inl (j, d') → ∃ i d, σ = .inl (i, d) ∧ zfc d' = zfc d ∧ zff d' = zff d) : zBg F fu σ1 := by
  obtain ⟨h0, t1, l3, h1, h2, h3⟩ := h
  refine ⟨h0, t1, l3, h1, h2, fun j d' e => ?_⟩
  obtain ⟨i, d, e1, e2, e3⟩ := hs j d' e
  rw [e2, e3]
  exact h3 i d e1
theorem zBg.sN {F : Nat → va_E} {fu : Nat} {σ σ1 : zSg} (h : zBg F fu σ) (hs : zsN σ σ1) : zBg F fu σ1 := h.st (fun j d' e => by
  obtain ⟨i, d, e1, -, g2, -, -, -, g7⟩ := hs j d' e
  exact ⟨i, d, e1, g2, g7⟩)
theorem zBg.sP {F : Nat → va_E} {fu : Nat} {σ σ1 : zSg} (h : zBg F fu σ) (hs : zsP σ σ1) : zBg F fu σ1 := h.sN hs.sN
theorem zBg.sl {F : Nat → va_E} {fu : Nat} {σ σ1 : zSg} (h : zBg F fu σ) (hs : zsl σ σ1) : zBg F fu σ1 := h.st (fun j d' e => by
  obtain ⟨i, d, e1, -, g⟩ := hs j d' e
  exact ⟨i, d, e1, g.1, g.2.2.2.2.1⟩)
theorem zBg.ss {F : Nat → va_E} {fu : Nat} {σ σ1 : zSg} (h : zBg F fu σ) (hs : zss σ σ1) : zBg F fu σ1 := h.sl hs.sl
theorem zBg.sm {F : Nat → va_E} {fu : Nat} {σ σ1 : zSg} (h : zBg F fu σ) (hs : zsm σ σ1) : zBg F fu σ1 := h.ss hs.ss
theorem zBg.new {F : Nat → va_E} {fu : Nat} {σ : zSg} {t1 l3 : Int32} {x0 : Int32} (h0' : zfld F fu 6 = .int x0) (hx0 : zB 0 0 x0) (h1 : zfld F fu 1 = .int t1) (h3 : zfld F fu 3 = .int l3) (hv : ∀ i d, σ = .inl (i, d) → t1.toInt = (i : Int) ∧ l3.toInt = (zlc d : Int)) : zBg F fu (zadv (zmap (fun i d => zaddb d i) σ)) := ⟨by rw [h0', show x0 = 0 from Int32.toInt_inj.mp (by have := hx0.1; have := hx0.2; have : (0 : Int32).toInt = 0 := (by decide); omega)], t1, l3, h1, h3, fun j d' e => by
  obtain ⟨i, d, e1, -, e3⟩ := zadm e
  subst e3
  have e4 : zff (zaddb d i) (zfc (zaddb d i)) = (i, zlc d) := zup_self _ _ _
  rw [e4]
  exact hv i d e1⟩
/-- the name of the FUNCTION that is read -/
def zNm (F : Nat → va_E) (fu : Nat) (T : zTS) (N : Nat) (σ : zSg) : Prop := ∀ i d, σ = .inl (i, d) → (∃ y : Int32, zfld F fu 0 = .int y ∧ y.toInt = (znm d (zfc d) : Int)) ∧ T.1 (znm d (zfc d)) = 4 ∧ znm d (zfc d) < N
theorem zNm.fr {Γ : Nat → Option Nat} {M : List Nat} {F u : Nat → va_E} {fu N : Nat} {T : zTS} {σ : zSg} (h : zNm F fu T N σ) (hf : zFr Γ M F u) (hp : Γ fu = some 2) (hM : 200 ∉ M) : zNm u fu T N σ := fun i d e => by
  obtain ⟨⟨y, h1, h2⟩, h3⟩ := h i d e
  exact ⟨⟨y, hf.f hp 0 ⟨by decide, hM⟩ h1, h2⟩, h3⟩
theorem zNm.sP {F : Nat → va_E} {fu N : Nat} {T : zTS} {σ σ1 : zSg} (h : zNm F fu T N σ) (hs : zsP σ σ1) : zNm F fu T N σ1 := fun j d' e => by
  obtain ⟨i, d, e1, -, g2, -, -, g5, -, -⟩ := hs j d' e
  rw [g2, g5]
  exact h i d e1
theorem zNm.sl {F : Nat → va_E} {fu N : Nat} {T : zTS} {σ σ1 : zSg} (h : zNm F fu T N σ) (hs : zsl σ σ1) : zNm F fu T N σ1 := fun j d' e => by
  obtain ⟨i, d, e1, -, g⟩ := hs j d' e
  rw [g.1, g.2.1]
  exact h i d e1
theorem zNm.ss {F : Nat → va_E} {fu N : Nat} {T : zTS} {σ σ1 : zSg} (h : zNm F fu T N σ) (hs : zss σ σ1) : zNm F fu T N σ1 := h.sl hs.sl
theorem zNm.sm {F : Nat → va_E} {fu N : Nat} {T : zTS} {σ σ1 : zSg} (h : zNm F fu T N σ) (hs : zsm σ σ1) : zNm F fu T N σ1 := h.ss hs.ss
/-- its places -/
def zPl (Γ : Nat → Option Nat) (F : Nat → va_E) (fu : Nat) (σ : zSg) : Prop := zAd Γ F fu 8 103 ∧ ∀ i d, σ = .inl (i, d) → (∃ z : Int32, zfld F fu 7 = .int z ∧ z.toInt = (zpc d (zfc d) : Int)) ∧ ∀ j, j < zpc d (zfc d) → (zar F fu 8 j).toInt = zpl d (zfc d) j
theorem zPl.fr {Γ : Nat → Option Nat} {M : List Nat} {F u : Nat → va_E} {fu : Nat} {σ : zSg} (h : zPl Γ F fu σ) (hf : zFr Γ M F u) (hp : Γ fu = some 2) (hM : 207 ∉ M ∧ 208 ∉ M ∧ 10300 ∉ M) : zPl Γ u fu σ := by
  refine ⟨h.1.fr hf hp ⟨by decide, hM.2.1⟩, fun i d e => ?_⟩
  obtain ⟨⟨z, h1, h2⟩, h3⟩ := h.2 i d e
  rw [h.1.ar hf hp ⟨by decide, hM.2.1⟩ ⟨by decide, hM.2.2⟩]
  exact ⟨⟨z, hf.f hp 7 ⟨by decide, hM.1⟩ h1, h2⟩, h3⟩
theorem zPl.sl {Γ : Nat → Option Nat} {F : Nat → va_E} {fu : Nat} {σ σ1 : zSg} (h : zPl Γ F fu σ) (hs : zsl σ σ1) : zPl Γ F fu σ1 := ⟨h.1, fun j d' e => by
  obtain ⟨i, d, e1, -, g⟩ := hs j d' e
  rw [g.1, g.2.2.1, g.2.2.2.1]
  exact h.2 i d e1⟩
theorem zPl.ss {Γ : Nat → Option Nat} {F : Nat → va_E} {fu : Nat} {σ σ1 : zSg} (h : zPl Γ F fu σ) (hs : zss σ σ1) : zPl Γ F fu σ1 := h.sl hs.sl
theorem zPl.sm {Γ : Nat → Option Nat} {F : Nat → va_E} {fu : Nat} {σ σ1 : zSg} (h : zPl Γ F fu σ) (hs : zsm σ σ1) : zPl Γ F fu σ1 := h.ss hs.ss
theorem zPl.k {Γ : Nat → Option Nat} {F : Nat → va_E} {fu : Nat} {σ : zSg} {x : Int32} (h : zPl Γ F fu σ) (k : zfld F fu 7 = .int x) : ∀ i d, σ = .inl (i, d) → x.toInt = (zpc d (zfc d) : Int) := fun i d e => by
  obtain ⟨⟨z, h1, h2⟩, -⟩ := h.2 i d e
  cases z_vi k h1
  exact h2
theorem zPl.fl {Γ : Nat → Option Nat} {F : Nat → va_E} {fu : Nat} {σ : zSg} (h : zAd Γ F fu 8 103) {k : Int} : zPl Γ F fu (zfl k σ) := ⟨h, fun i d e => by
  obtain ⟨q, h⟩ := zfl_bad k σ
  rw [h] at e
  cases e⟩
theorem zPl.z {Γ : Nat → Option Nat} {F : Nat → va_E} {fu : Nat} {σ : zSg} {x : Int32} (h : zAd Γ F fu 8 103) (k : zfld F fu 7 = .int x) (e : x.toInt = 0) : zPl Γ F fu (zmap (fun _ d => zadd0 d) σ) := ⟨h, fun i d e1 => by
  match σ, e1 with
  | .inl (j, b), e1 =>
    have e1 : (Sum.inl (j, zadd0 b) : zSg) = .inl (i, d) := e1
    injection e1 with e1
    injection e1 with _ e2
    subst e2
    have ep : zpc (zadd0 b) (zfc (zadd0 b)) = 0 := zup_self _ _ _
    rw [ep]
    exact ⟨⟨x, k, e⟩, fun j hj => absurd hj (Nat.not_lt_zero _)⟩
  | .inr q, e1 => cases e1⟩
theorem zPl.add {Γ : Nat → Option Nat} {F u : Nat → va_E} {fu : Nat} {σ : zSg} {x y v : Int32} {K : Nat → Int} (h : zPl Γ F fu σ) (ha : zAd Γ u fu 8 103) (kx : zfld F fu 7 = .int x) (h0 : 0 ≤ x.toInt) (ky : zfld u fu 7 = .int y) (ey : y.toInt = x.toInt + 1) (e8 : zar u fu 8 = upd (zar F fu 8) x.toNatClampNeg v) (hv : ∀ i d, σ = .inl (i, d) → v.toInt = K i - 1) : zPl Γ u fu (zadv (zmap (fun i d => zaddp d (K i - 1)) σ)) := ⟨ha, fun j d' e => by
  obtain ⟨i, d, e1, e2, e3⟩ := zadm e
  have hx := h.k kx i d e1
  have hv := hv i d e1
  obtain ⟨-, g⟩ := h.2 i d e1
  subst e3
  have ef : zfc (zaddp d (K i - 1)) = zfc d := rfl
  have ep : zpc (zaddp d (K i - 1)) (zfc d) = zpc d (zfc d) + 1 := zup_self _ _ _
  have el : zpl (zaddp d (K i - 1)) (zfc d) = zup (zpl d (zfc d)) (zpc d (zfc d)) (K i - 1) := zup_self _ _ _
  rw [ef, ep, el]
  have ec : x.toNatClampNeg = zpc d (zfc d) := by rw [Int32.toNatClampNeg]; omega
  refine ⟨⟨y, ky, by omega⟩, fun q hq => ?_⟩
  rw [e8, ec]
  by_cases c : q = zpc d (zfc d)
  · subst c
    rw [zup_self]
    show (upd (zar F fu 8) _ v _).toInt = _
    rw [show upd (zar F fu 8) (zpc d (zfc d)) v (zpc d (zfc d)) = v from if_pos rfl]
    exact hv
  · rw [zup_ne _ _ c, show upd (zar F fu 8) (zpc d (zfc d)) v q = zar F fu 8 q from if_neg c]
    exact g q (by omega)⟩
/-- a FUNCTION stands -/
theorem zC3.add {Γ : Nat → Option Nat} {F u : Nat → va_E} {pr fu N : Nat} {fa : Nat → Nat} {T : zTS} {σ : zSg} {x y t2 l4 : Int32} (h : zC3 Γ F pr fa T N σ) (hnm : zNm F fu T N σ) (hpl : zPl Γ F fu σ) (hbg : zBg F fu σ) (kx : zfld F pr 4 = .int x) (hx : 0 ≤ x.toInt ∧ x.toInt < 10) (hfu : fu = fa x.toInt.toNat) (k2 : zfld F fu 2 = .int t2) (k4 : zfld F fu 4 = .int l4) (hv : ∀ i d, σ = .inl (i, d) → t2.toInt = (i : Int) - 1 ∧ l4.toInt = (zlc d : Int) - ((zff d (zfc d)).2 : Int)) (hps : zPS Γ u pr fa) (ky : zfld u pr 4 = .int y) (ey : y.toInt = x.toInt + 1) (hs : ∀ b j : Nat, Γ b = some 2 → j < 8 → zfld u b j = zfld F b j) : zC3 Γ u pr fa T N (zmap (fun i d => zaddf d i) σ) := by
  match σ, h, hnm, hpl, hbg, hv with
  | .inr q, _, _, _, _, _ => exact ⟨⟨hps, fun i d e => by cases e⟩, fun i d e => by cases e⟩
  | .inl (j, b), h, hnm, hpl, hbg, hv =>
    obtain ⟨⟨x', h1, h2⟩, h3, h4⟩ := h.1.2 j b rfl
    cases z_vi kx h1
    obtain ⟨⟨n1, m1, m2⟩, m3⟩ := hnm j b rfl
    obtain ⟨⟨n2, m5, m6⟩, -⟩ := hpl.2 j b rfl
    obtain ⟨b0, t1, l3, b1, b2, b3⟩ := hbg
    obtain ⟨c1, c2⟩ := b3 j b rfl
    obtain ⟨c3, c4⟩ := hv j b rfl
    have ef : zfc (zaddf b j) = zfc b + 1 := rfl
    have en : znm (zaddf b j) = znm b := rfl
    have ep : zpc (zaddf b j) = zpc b := rfl
    have eq1 : zff (zaddf b j) = zff b := rfl
    have eq2 : zfe (zaddf b j) = zup (zfe b) (zfc b) (j, zlc b) := rfl
    have ex : x.toInt.toNat = zfc b := by omega
    have efu : fa (zfc b) = fu := by rw [hfu, ex]
    refine ⟨⟨hps, fun i d e => ?_⟩, fun i d e f hf => ?_⟩
    · have e : (Sum.inl (j, zaddf b j) : zSg) = .inl (i, d) := e
      injection e with e
      injection e with _ e2
      subst e2
      rw [ef, en, ep, eq1, eq2]
      refine ⟨⟨y, ky, by omega⟩, by omega, fun f hf => ?_⟩
      have g := h.1.1.ty (f := f) (by omega)
      rw [hs _ 0 g (by decide), hs _ 7 g (by decide)]
      by_cases c : f = zfc b
      · subst c
        rw [zup_self, efu]
        rw [efu] at g
        exact ⟨⟨n1, m1, m2⟩, ⟨n2, m5, m6⟩, m3, t1, t2, l3, l4, ⟨(hs _ 1 g (by decide)).trans b1, (hs _ 2 g (by decide)).trans k2, (hs _ 3 g (by decide)).trans b2, (hs _ 4 g (by decide)).trans k4⟩, c1, c3, c2, c4⟩
      · rw [zup_ne _ _ c]
        obtain ⟨q1, q2, q3, q4⟩ := h4 f (by omega)
        exact ⟨q1, q2, q3, q4.cg (fun j _ hj => hs _ j g (by omega))⟩
    · have e : (Sum.inl (j, zaddf b j) : zSg) = .inl (i, d) := e
      injection e with e
      injection e with _ e2
      subst e2
      rw [ef] at hf
      have g := h.1.1.ty (f := f) (by omega)
      rw [hs _ 6 g (by decide)]
      by_cases c : f = zfc b
      · subst c
        rw [efu]
        exact b0
      · exact h.2 j b rfl f (by omega)
/-- the first Function of a name -/
theorem zfind_s {W : Nat → Int} {nm : Nat → Nat} {w : Int} {n : Nat} (h : zfind W nm w n = none) : zfind W nm w (n + 1) = if W (nm n) = w then some n else none := by
  show (match zfind W nm w n with | some f => some f | none => if W (nm n) = w then some n else none) = _
  rw [h]
theorem zfind_k {W : Nat → Int} {nm : Nat → Nat} {w : Int} {n f : Nat} (h : zfind W nm w n = some f) : ∀ m, n ≤ m → zfind W nm w m = some f := fun m hm => by
  obtain ⟨q, rfl⟩ := Nat.exists_eq_add_of_le hm
  clear hm
  induction q with
  | zero => exact h
  | succ q ih =>
    show (match zfind W nm w (n + q) with | some f => some f | none => if W (nm (n + q)) = w then some (n + q) else none) = _
    rw [ih]
theorem zfind_lt {W : Nat → Int} {nm : Nat → Nat} {w : Int} {f : Nat} : ∀ {n : Nat}, zfind W nm w n = some f → f < n ∧ W (nm f) = w
  | 0, h => by cases h
  | n + 1, h => by
    have h : (match zfind W nm w n with | some f => some f | none => if W (nm n) = w then some n else none) = some f := h
    cases e : zfind W nm w n with
    | some g =>
      rw [e] at h
      injection h with h
      subst h
      have := zfind_lt e
      exact ⟨by omega, this.2⟩
    | none =>
      rw [e] at h
      by_cases c : W (nm n) = w
      · have h : (if W (nm n) = w then some n else none) = some f := h
        rw [if_pos c] at h
        injection h with h
        subst h
        exact ⟨by omega, c⟩
      · have h : (if W (nm n) = w then some n else none) = some f := h
        rw [if_neg c] at h
        cases h
def zfi (o : Option Nat) : Int := match o with
  | some f => (f : Int)
  | none => -1
theorem zname_t {B : Nat → Int32} {n t : Nat} (h : (zTo B n).1 t = 4) : zwa B n (zpo B n t) = zte B n (zpo B n t) - zpo B n t ∧ 2 ≤ zwa B n (zpo B n t) := by
  have h : zka B n (zpo B n t) = 4 := h
  obtain ⟨h1, h2, h3, h4⟩ := zka_lt (Or.inr ⟨by omega, by omega⟩ : zka B n (zpo B n t) = 3 ∨ (4 ≤ zka B n (zpo B n t) ∧ zka B n (zpo B n t) ≤ 10))
  have h5 := zname_w h
  have h6 := (zwa_l (of_decide_eq_true h1) rfl).1 h2
  exact ⟨h6, by omega⟩
theorem zlet_t {B : Nat → Int32} {n t : Nat} (h : (zTo B n).1 t = 3) : zby B n (zpo B n t) - 97 = (zTo B n).2.2 t - 1 ∧ 97 ≤ zby B n (zpo B n t) := by
  have h : zka B n (zpo B n t) = 3 := h
  obtain ⟨h1, h2, h3, h4⟩ := zka_lt (Or.inl h)
  have h5 := (h3 h).1
  have h6 := of_decide_eq_true h1
  refine ⟨?_, h6.1⟩
  show _ = zwI (zby B n) (zpo B n t) (zte B n (zpo B n t) - zpo B n t).toNat - 1
  rw [h5]
  show zby B n (zpo B n t) - 97 = (32 * 0 + (zby B n (zpo B n t + ((0 : Nat) : Int)) - 96)) - 1
  have e : zpo B n t + ((0 : Nat) : Int) = zpo B n t := by omega
  rw [e]
  omega
theorem zwa_600 {B : Nat → Int32} {n t : Nat} (hn : n ≤ 600) : 0 ≤ zwa B n (zpo B n t) ∧ zwa B n (zpo B n t) ≤ 600 := by
  have h1 := zpo_n B n t
  have h2 := zte_le B n (zpo B n t)
  have h3 := zte_n (B := B) h1.2
  unfold zwa
  split <;> omega
theorem zinl {T : zTS} {N : Nat} {σ : zSg} (hL : zLs T N) (hk : zkd T N σ ≠ 0 ∧ zkd T N σ ≠ 1) : ∃ i d, σ = .inl (i, d) := by
  match σ, hk with
  | .inl (i, d), _ => exact ⟨i, d, rfl⟩
  | .inr q, hk => exact (hL.2.2.elim hk.1 hk.2).elim
theorem zsN.nm {σ : zSg} : zsN σ (zadv (zmap (fun i d => zaddn d i) σ)) := fun j d' h => by
  obtain ⟨i, d, e1, e2, e3⟩ := zadm h
  subst e3
  exact ⟨i, d, e1, by omega, rfl, rfl, fun f hf => ⟨zup_ne _ _ (by have : f < d.1 := hf; omega), rfl, rfl, rfl⟩, rfl, rfl⟩
theorem zsB.b {σ : zSg} : zsB σ (zadv (zmap (fun i d => zaddb d i) σ)) := fun j d' h => by
  obtain ⟨i, d, e1, e2, e3⟩ := zadm h
  subst e3
  exact ⟨i, d, e1, by omega, rfl, rfl, fun f hf => ⟨rfl, rfl, zup_ne _ _ (by have : f < d.1 := hf; omega), rfl⟩, rfl⟩
theorem zsP.pl {K : Nat → Int} {σ : zSg} : zsP σ (zadv (zmap (fun i d => zaddp d (K i - 1)) σ)) := fun j d' h => by
  obtain ⟨i, d, e1, e2, e3⟩ := zadm h
  subst e3
  exact ⟨i, d, e1, by omega, rfl, rfl, fun f hf => ⟨rfl, zup_ne _ _ (by have : f < d.1 := hf; omega), rfl, rfl⟩, rfl, rfl, rfl⟩
theorem zsP.z {σ : zSg} : zsP σ (zmap (fun _ d => zadd0 d) σ) := fun j d' h => by
  match σ, h with
  | .inl (i, d), h =>
    have h : (Sum.inl (i, zadd0 d) : zSg) = .inl (j, d') := h
    injection h with h
    injection h with h1 h2
    subst h2
    exact ⟨i, d, rfl, by omega, rfl, rfl, fun f hf => ⟨rfl, zup_ne _ _ (by have : f < d.1 := hf; omega), rfl, rfl⟩, rfl, rfl, rfl⟩
  | .inr k, h => cases h
theorem zNm.new {F : Nat → va_E} {fu N : Nat} {T : zTS} {σ : zSg} {x : Int32} (k : zfld F fu 0 = .int x) (hx : x.toInt = znx N σ) (hok : zok N σ) (hk : zkd T N σ = 4) : zNm F fu T N (zadv (zmap (fun i d => zaddn d i) σ)) := fun j d' h => by
  obtain ⟨i, d, e1, e2, e3⟩ := zadm h
  subst e3
  subst e1
  have ef : zfc (zaddn d i) = zfc d := rfl
  have en : znm (zaddn d i) (zfc d) = i := zup_self _ _ _
  rw [ef, en]
  exact ⟨⟨x, k, hx⟩, hk, hok⟩
theorem zNm.fl {F : Nat → va_E} {fu N : Nat} {T : zTS} {σ : zSg} {k : Int} : zNm F fu T N (zfl k σ) := fun i d e => by
  obtain ⟨q, h⟩ := zfl_bad k σ
  rw [h] at e
  cases e
def zsQ (σ σ' : zSg) : Prop := ∀ j d', σ' = .inl (j, d') → ∃ i d, σ = .inl (i, d) ∧ i ≤ j ∧ zlc d' = zlc d ∧ zln d' = zln d
theorem zsQ.nx {N : Nat} {σ σ' : zSg} (h : zsQ σ σ') (h1 : zok N σ) (h2 : zok N σ') : znx N σ ≤ znx N σ' := by
  match σ', h, h2 with
  | .inl (j, d'), h, h2 =>
    obtain ⟨i, d, e, g, -⟩ := h j d' rfl
    subst e
    show (i : Int) ≤ (j : Int)
    omega
  | .inr k, h, h2 =>
    match σ, h1 with
    | .inl (i, d), h1 =>
      have h1 : i < N := h1
      show (i : Int) ≤ (N : Int) - 1
      omega
    | .inr q, _ => exact Int.le_refl _
theorem zmapm {f : Nat → zDat → zDat} {σ : zSg} {j : Nat} {d' : zDat} (h : zmap f σ = .inl (j, d')) : ∃ d, σ = .inl (j, d) ∧ d' = f j d := by
  match σ, h with
  | .inl (i, d), h =>
    have h : (Sum.inl (i, f i d) : zSg) = .inl (j, d') := h
    injection h with h
    injection h with h1 h2
    subst h1
    exact ⟨d, rfl, h2.symm⟩
  | .inr k, h => cases h
theorem zsQ.f {σ : zSg} : zsQ σ (zmap (fun i d => zaddf d i) σ) := fun j d' h => by
  obtain ⟨d, e1, e2⟩ := zmapm h
  exact ⟨j, d, e1, Nat.le_refl _, by rw [e2]; rfl, by rw [e2]; rfl⟩
theorem zC4.sQ {Γ : Nat → Option Nat} {F : Nat → va_E} {pr : Nat} {la : Nat → Nat} {T : zTS} {σ σ1 : zSg} (h : zC4 Γ F pr la T σ) (hs : zsQ σ σ1) : zC4 Γ F pr la T σ1 := h.st (fun j d' e => by
  obtain ⟨i, d, e1, -, e2⟩ := hs j d' e
  exact ⟨i, d, e1, e2⟩)
/-- the number of Functions stands -/
def zsC (σ σ' : zSg) : Prop := ∀ j d', σ' = .inl (j, d') → ∃ i d, σ = .inl (i, d) ∧ zfc d' = zfc d
theorem zsC.rf {σ : zSg} : zsC σ σ := fun j d' e => ⟨j, d', e, rfl⟩
theorem zsC.trans {σ σ1 σ2 : zSg} (h : zsC σ σ1) (h1 : zsC σ1 σ2) : zsC σ σ2 := fun j d' e => by
  obtain ⟨i, d, e1, g1⟩ := h1 j d' e
  obtain ⟨q, b, e2, g2⟩ := h i d e1
  exact ⟨q, b, e2, g1.trans g2⟩
theorem zsB.c {σ σ' : zSg} (h : zsB σ σ') : zsC σ σ' := fun j d' e => by
  obtain ⟨i, d, e1, -, g, -⟩ := h j d' e
  exact ⟨i, d, e1, g⟩
theorem zsN.c {σ σ' : zSg} (h : zsN σ σ') : zsC σ σ' := h.sB.c
theorem zsP.c {σ σ' : zSg} (h : zsP σ σ') : zsC σ σ' := h.sN.c
theorem zss.c {σ σ' : zSg} (h : zss σ σ') : zsC σ σ' := h.sN.c
theorem zsm.c {σ σ' : zSg} (h : zsm σ σ') : zsC σ σ' := h.ss.c
theorem zsl.c {σ σ' : zSg} (h : zsl σ σ') : zsC σ σ' := fun j d' e => by
  obtain ⟨i, d, e1, -, g⟩ := h j d' e
  exact ⟨i, d, e1, g.1⟩
/-- a FUNCTION more -/
def zsU (σ σ' : zSg) : Prop := ∀ j d', σ' = .inl (j, d') → ∃ i d, σ = .inl (i, d) ∧ zfc d' = zfc d + 1
theorem zsU.f {σ σ1 : zSg} (h : zsC σ σ1) : zsU σ (zmap (fun i d => zaddf d i) σ1) := fun j d' e => by
  obtain ⟨d, e1, e2⟩ := zmapm e
  obtain ⟨i, b, e3, g⟩ := h j d e1
  exact ⟨i, b, e3, by rw [e2]; show zfc d + 1 = zfc b + 1; omega⟩
theorem zsU.fl {σ σ1 : zSg} {k : Int} : zsU σ (zfl k σ1) := fun j d' e => by
  obtain ⟨q, h⟩ := zfl_bad k σ1
  rw [h] at e
  cases e
theorem zC3.k {Γ : Nat → Option Nat} {F : Nat → va_E} {pr N : Nat} {fa : Nat → Nat} {T : zTS} {σ : zSg} {x : Int32} (h : zC3 Γ F pr fa T N σ) (k : zfld F pr 4 = .int x) : ∀ i d, σ = .inl (i, d) → x.toInt = (zfc d : Int) ∧ zfc d ≤ 10 := fun i d e => by
  obtain ⟨⟨y, h1, h2⟩, h3, -⟩ := h.1.2 i d e
  cases z_vi k h1
  exact ⟨h2, h3⟩
/-- a call's name is a FUNCTION's, with as many places -/
def zgood (T : zTS) (d : zDat) (e : Nat × Nat × Nat) : Prop := ∃ f, zfind T.2.2 (znm d) (T.2.2 e.1) (zfc d) = some f ∧ zpc d f = e.2.1
/-- nothing was read yet -/
def zx0 : zXt := (0, fun _ => (0, 0, 0), fun _ => 0, 0, fun _ => (0, 0, 0), fun _ => (0, 0, 0, 0, 0, 0, 0), fun _ => 0)
def zd0 : zDat := (0, fun _ => 0, fun _ => 0, fun _ _ => 0, 0, fun _ => (0, 0, 0, 0), [], fun _ => (0, 0), fun _ => (0, 0), zx0)
/-- what a text comes to: its fault, what was read -/
def zOut (T : zTS) (r : Int) (d : zDat) : Prop := (r ≠ 0 ∧ zRe T (.inl ([(1, 0, 0, 0), (0, 0, 0, 0)], 0, zd0)) (.inr r)) ∨ ∃ i, zRe T (.inl ([(1, 0, 0, 0), (0, 0, 0, 0)], 0, zd0)) (.inl ([], i, d)) ∧ ((r = 0 ∧ ∀ e ∈ zcs d, zgood T d e) ∨ (r = 4 ∧ ∃ e ∈ zcs d, ¬ zgood T d e))
theorem zOut.un {T : zTS} {r r' : Int} {d d' : zDat} (h : zOut T r d) (h' : zOut T r' d') : r = r' ∧ (r = 0 → d = d') := by
  rcases h with ⟨h1, h2⟩ | ⟨i, h1, h2⟩
  · rcases h' with ⟨g1, g2⟩ | ⟨i', g1, g2⟩
    · have e := zRe.det h2 g2 rfl rfl
      injection e with e
      exact ⟨e, fun h9 => absurd h9 h1⟩
    · have e := zRe.det h2 g1 rfl rfl
      cases e
  · rcases h' with ⟨g1, g2⟩ | ⟨i', g1, g2⟩
    · have e := zRe.det h1 g2 rfl rfl
      cases e
    · have e := zRe.det h1 g1 rfl rfl
      injection e with e
      injection e with _ e
      injection e with e1 e2
      subst e1
      subst e2
      rcases h2 with ⟨a1, a2⟩ | ⟨a1, e, b1, b2⟩
      · rcases g2 with ⟨c1, c2⟩ | ⟨c1, e', c2, c3⟩
        · exact ⟨a1.trans c1.symm, fun _ => rfl⟩
        · exact absurd (a2 e' c2) c3
      · rcases g2 with ⟨c1, c2⟩ | ⟨c1, e', c2, c3⟩
        · exact absurd (c2 e b1) b2
        · exact ⟨a1.trans c1.symm, fun h9 => by omega⟩
/-! Bits. -/
def zbg (x : Int32) (g : Nat) : Bool := x.toBitVec.getLsbD g
theorem zbg_ext {x y : Int32} (h : ∀ i, i < 32 → zbg x i = zbg y i) : x = y := Int32.toBitVec_inj.mp (BitVec.eq_of_getLsbD_eq (fun i hi => h i hi))
theorem zbg_or (x y : Int32) (i : Nat) : zbg (x ||| y) i = (zbg x i || zbg y i) := by
  unfold zbg
  rw [Int32.toBitVec_or, BitVec.getLsbD_or]
theorem zbg_0 (i : Nat) : zbg 0 i = false := BitVec.getLsbD_zero
theorem zbg_sh0 : ∀ l, l < 32 → ∀ i, i < 32 → zbg ((1 : Int32) <<< (Int32.ofNat l &&& 31)) i = decide (i = l) := by decide +kernel
theorem z_ofNat {y : Int32} (h : 0 ≤ y.toInt) : y = Int32.ofNat y.toInt.toNat := by
  apply Int32.toInt_inj.mp
  have h2 := y.toInt_lt
  rw [Int32.toInt_ofNat_of_lt (by omega)]
  omega
theorem zbg_sh {y : Int32} (h : 0 ≤ y.toInt ∧ y.toInt < 32) {i : Nat} (hi : i < 32) : zbg ((1 : Int32) <<< (y &&& 31)) i = decide (i = y.toInt.toNat) := by
  have e := z_ofNat h.1
  have k := zbg_sh0 y.toInt.toNat (by omega) i hi
  rw [← e] at k
  exact k
theorem zor0 (x : Int32) : x ||| 0 = x := zbg_ext (fun i _ => by rw [zbg_or, zbg_0, Bool.or_false])
def zBits (x : Int32) (S : Nat → Prop) : Prop := ∀ g, g < 32 → (zbg x g = true ↔ S g)
theorem zBits.ext {x y : Int32} {S S' : Nat → Prop} (h : zBits x S) (h' : zBits y S') (e : ∀ g, S g ↔ S' g) : x = y := zbg_ext (fun i hi => by
  have h1 := (h i hi).trans ((e i).trans (h' i hi).symm)
  cases h2 : zbg x i <;> cases h3 : zbg y i
  · rfl
  · rw [h2, h3] at h1
    exact absurd (h1.mpr rfl) (by decide)
  · rw [h2, h3] at h1
    exact absurd (h1.mp rfl) (by decide)
  · rfl)
theorem zBits.zero {S : Nat → Prop} (h : ∀ g, ¬ S g) : zBits 0 S := fun g _ => by
  rw [zbg_0]
  exact ⟨fun h9 => absurd h9 (by decide), fun h9 => absurd h9 (h g)⟩
theorem zBits.cg {x : Int32} {S S' : Nat → Prop} (h : zBits x S) (e : ∀ g, S' g ↔ S g) : zBits x S' := fun g hg => (h g hg).trans (e g).symm
theorem zBits.or {x y z w : Int32} {S S' : Nat → Prop} (h : zBits x S) (hy : 0 ≤ y.toInt ∧ y.toInt < 32) (ew : w = (1 : Int32) <<< (y &&& 31)) (ez : z = x ||| w) (hS : ∀ g, S' g ↔ S g ∨ g = y.toInt.toNat) : zBits z S' := fun g hg => by
  rw [ez, ew, zbg_or, zbg_sh hy hg, Bool.or_eq_true, h g hg, hS g, decide_eq_true_iff]
/-- what a function calls -/
def zcb (T : zTS) (d : zDat) (f g : Nat) : Prop := ∃ e ∈ zcs d, e.2.2 = f ∧ zfind T.2.2 (znm d) (T.2.2 e.1) (zfc d) = some g
/-- the calls joined so far, of the class's row -/
def zJn (F u : Nat → va_E) (th : Nat) (fa : Nat → Nat) (T : zTS) (d : zDat) (i : Int) : Prop := ∀ f, f < zfc d → ∃ x : Int32, zfld u (fa f) 6 = .int x ∧ zBits x (fun g => ∃ q : Nat, (q : Int) < i ∧ (zar F th 10 q).toInt = (f : Int) ∧ zfind T.2.2 (znm d) (T.2.2 (zar F th 7 q).toInt.toNat) (zfc d) = some g)
theorem zJn.st {F u : Nat → va_E} {th : Nat} {fa : Nat → Nat} {T : zTS} {d : zDat} (h : ∀ f, f < zfc d → zfld u (fa f) 6 = .int 0) : zJn F u th fa T d 0 := fun f hf => ⟨0, h f hf, zBits.zero (fun g ⟨q, h1, _⟩ => by omega)⟩
theorem zJn.fr {Γ : Nat → Option Nat} {M : List Nat} {F u v : Nat → va_E} {th : Nat} {fa : Nat → Nat} {T : zTS} {d : zDat} {i : Int} (h : zJn F u th fa T d i) (hf : zFr Γ M u v) (hg : ∀ f, f < zfc d → Γ (fa f) = some 2) (hM : 206 ∉ M) : zJn F v th fa T d i := fun f h9 => by
  obtain ⟨x, h1, h2⟩ := h f h9
  exact ⟨x, hf.f (hg f h9) 6 ⟨by decide, hM⟩ h1, h2⟩
/-- one call more -/
theorem zJn.add {F u v : Nat → va_E} {th i b : Nat} {fa : Nat → Nat} {T : zTS} {d : zDat} {j : Int} {x7 x10 y x z w : Int32} (h : zJn F u th fa T d i) (hj : j = (i : Int) + 1) (e7 : zar F th 7 i = x7) (e10 : zar F th 10 i = x10) (hy : 0 ≤ y.toInt ∧ y.toInt < 32) (hf : zfind T.2.2 (znm d) (T.2.2 x7.toInt.toNat) (zfc d) = some y.toInt.toNat) (hb : b = fa x10.toInt.toNat) (h0 : 0 ≤ x10.toInt) (kx : zfld u b 6 = .int x) (ew : w = (1 : Int32) <<< (y &&& 31)) (ez : z = x ||| w) (kz : zfld v b 6 = .int z) (ho : ∀ a, a ≠ b → v a = u a) (hi : ∀ f g, f < 10 → g < 10 → fa f = fa g → f = g) (h10 : zfc d ≤ 10 ∧ x10.toInt < 10) : zJn F v th fa T d j := fun f hf9 => by
  obtain ⟨x', h1, h2⟩ := h f hf9
  by_cases c : f = x10.toInt.toNat
  · have eb : fa f = b := by rw [c, hb]
    rw [eb] at h1 ⊢
    cases z_vi kx h1
    refine ⟨z, kz, h2.or hy ew ez (fun g => ⟨?_, ?_⟩)⟩
    · rintro ⟨q, q1, q2, q3⟩
      by_cases cq : q = i
      · subst cq
        rw [e7, hf] at q3
        injection q3 with q3
        exact Or.inr q3.symm
      · exact Or.inl ⟨q, by omega, q2, q3⟩
    · rintro (⟨q, q1, q2, q3⟩ | rfl)
      · exact ⟨q, by omega, q2, q3⟩
      · exact ⟨i, by omega, by rw [e10]; omega, by rw [e7]; exact hf⟩
  · have hne : fa f ≠ b := fun h9 => c (hi f x10.toInt.toNat (by omega) (by omega) (h9.trans hb))
    refine ⟨x', ?_, h2.cg (fun g => ⟨?_, ?_⟩)⟩
    · have := ho _ hne
      unfold zfld at h1 ⊢
      rw [this]
      exact h1
    · rintro ⟨q, q1, q2, q3⟩
      by_cases cq : q = i
      · subst cq
        rw [e10] at q2
        omega
      · exact ⟨q, by omega, q2, q3⟩
    · rintro ⟨q, q1, q2, q3⟩
      exact ⟨q, by omega, q2, q3⟩
theorem zJn.skip {F u : Nat → va_E} {th i : Nat} {fa : Nat → Nat} {T : zTS} {d : zDat} {j : Int} {x10 : Int32} (h : zJn F u th fa T d i) (hj : j = (i : Int) + 1) (e10 : zar F th 10 i = x10) (hc : ∀ f, f < zfc d → x10.toInt ≠ (f : Int)) : zJn F u th fa T d j := fun f hf9 => by
  obtain ⟨x', h1, h2⟩ := h f hf9
  refine ⟨x', h1, h2.cg (fun g => ⟨?_, ?_⟩)⟩
  · rintro ⟨q, q1, q2, q3⟩
    by_cases cq : q = i
    · subst cq
      rw [e10] at q2
      exact absurd q2 (hc f hf9)
    · exact ⟨q, by omega, q2, q3⟩
  · rintro ⟨q, q1, q2, q3⟩
    exact ⟨q, by omega, q2, q3⟩
theorem zJn.end {F u : Nat → va_E} {th : Nat} {fa : Nat → Nat} {T : zTS} {d : zDat} {c : Int} (h : zJn F u th fa T d c) (h1 : ∀ e : Nat × Nat × Nat, e ∈ zcs d ↔ ∃ q : Nat, (q : Int) < c ∧ zCe F th q e) (h2 : ∀ q : Nat, (q : Int) < c → ∃ e ∈ zcs d, zCe F th q e) : ∀ f, f < zfc d → ∃ x : Int32, zfld u (fa f) 6 = .int x ∧ zBits x (zcb T d f) := fun f hf => by
  obtain ⟨x, k1, k2⟩ := h f hf
  refine ⟨x, k1, k2.cg (fun g => ⟨?_, ?_⟩)⟩
  · rintro ⟨e, a1, a2, a3⟩
    obtain ⟨q, b1, b2, b3, b4⟩ := (h1 e).mp a1
    exact ⟨q, b1, by omega, by rw [show (zar F th 7 q).toInt.toNat = e.1 by omega]; exact a3⟩
  · rintro ⟨q, b1, b2, b3⟩
    obtain ⟨e, a1, a2, a3, a4⟩ := h2 q b1
    exact ⟨e, a1, by omega, by rw [show (zar F th 7 q).toInt.toNat = e.1 by omega] at b3; exact b3⟩
/-- what the class's Program holds of what was read -/
def zRF (F : Nat → va_E) (b : Nat) (T : zTS) (d : zDat) (f : Nat) : Prop := (∃ y : Int32, zfld F b 0 = .int y ∧ y.toInt = (znm d f : Int)) ∧ (∃ z : Int32, zfld F b 7 = .int z ∧ z.toInt = (zpc d f : Int)) ∧ zF4 F b (zff d f) (zfe d f) ∧ ∃ x : Int32, zfld F b 6 = .int x ∧ zBits x (zcb T d f)
theorem zRF.cg {F u : Nat → va_E} {b : Nat} {T : zTS} {d : zDat} {f : Nat} (h : zRF F b T d f) (e : ∀ j, j < 8 → zfld u b j = zfld F b j) : zRF u b T d f := by
  obtain ⟨⟨y, h1, h2⟩, ⟨z, h3, h4⟩, h5, ⟨x, h6, h7⟩⟩ := h
  exact ⟨⟨y, (e 0 (by decide)).trans h1, h2⟩, ⟨z, (e 7 (by decide)).trans h3, h4⟩, h5.cg (fun j _ hj => e j (by omega)), ⟨x, (e 6 (by decide)).trans h6, h7⟩⟩
theorem zRF.mk {Γ : Nat → Option Nat} {F u : Nat → va_E} {pr N : Nat} {fa : Nat → Nat} {T : zTS} {i : Nat} {d : zDat} (h : zC3w Γ F pr fa T N (.inl (i, d))) (hf : ∀ j, j < 8 → j ≠ 6 → ∀ f, f < zfc d → zfld u (fa f) j = zfld F (fa f) j) (h6 : ∀ f, f < zfc d → ∃ x : Int32, zfld u (fa f) 6 = .int x ∧ zBits x (zcb T d f)) : zfc d ≤ 10 ∧ ∀ f, f < zfc d → zRF u (fa f) T d f := by
  obtain ⟨-, h3, h4⟩ := h.2 i d rfl
  refine ⟨h3, fun f h9 => ?_⟩
  obtain ⟨⟨y, a1, a2⟩, ⟨z, a3, a4⟩, -, a6⟩ := h4 f h9
  exact ⟨⟨y, (hf 0 (by decide) (by decide) f h9).trans a1, a2⟩, ⟨z, (hf 7 (by decide) (by decide) f h9).trans a3, a4⟩, a6.cg (fun j _ hj => hf j (by omega) (by omega) f h9), h6 f h9⟩
def zRC (F : Nat → va_E) (pr : Nat) (fa la : Nat → Nat) (T : zTS) (d : zDat) : Prop := (∃ x : Int32, zfld F pr 4 = .int x ∧ x.toInt = (zfc d : Int)) ∧ (∃ x : Int32, zfld F pr 5 = .int x ∧ x.toInt = (zlc d : Int)) ∧ zlc d ≤ 60 ∧ (∀ l, l < zlc d → zL4 F (la l) (zln d l) T) ∧ zfc d ≤ 10 ∧ (∀ f, f < zfc d → zRF F (fa f) T d f) ∧ 0 < zfc d
theorem zRC.fcE {F : Nat → va_E} {pr : Nat} {fa la : Nat → Nat} {T : zTS} {d : zDat} {x : Int32} (h : zRC F pr fa la T d) (k : zfld F pr 4 = .int x) : x.toInt = (zfc d : Int) := by
  obtain ⟨⟨y, h1, h2⟩, -⟩ := h
  cases z_vi k h1
  exact h2
theorem zRC.lcE {F : Nat → va_E} {pr : Nat} {fa la : Nat → Nat} {T : zTS} {d : zDat} {x : Int32} (h : zRC F pr fa la T d) (k : zfld F pr 5 = .int x) : x.toInt = (zlc d : Int) := by
  obtain ⟨-, ⟨y, h1, h2⟩, -⟩ := h
  cases z_vi k h1
  exact h2
/-- .. wherever its own fields, its Functions' and its Lines' stand -/
theorem zRC.cg {F u : Nat → va_E} {pr : Nat} {fa la : Nat → Nat} {T : zTS} {d : zDat} (h : zRC F pr fa la T d) (e : ∀ j, 4 ≤ j → j < 6 → zfld u pr j = zfld F pr j) (ef : ∀ f, f < 10 → ∀ j, j < 8 → zfld u (fa f) j = zfld F (fa f) j) (el : ∀ l, l < 60 → ∀ j, j < 4 → zfld u (la l) j = zfld F (la l) j) : zRC u pr fa la T d := by
  obtain ⟨⟨x, h1, h2⟩, ⟨y, h3, h4⟩, h5, h6, h7, h8, h9⟩ := h
  exact ⟨⟨x, (e 4 (by decide) (by decide)).trans h1, h2⟩, ⟨y, (e 5 (by decide) (by decide)).trans h3, h4⟩, h5, fun l hl => (h6 l hl).cg (el l (by omega)), h7, fun f hf => (h8 f hf).cg (ef f (by omega)), h9⟩
def zMC (M : List Nat) : Prop := (604 ∉ M ∧ 605 ∉ M) ∧ (∀ j, j < 8 → 200 + j ∉ M) ∧ ∀ j, j < 4 → 400 + j ∉ M
theorem zRC.fr {Γ : Nat → Option Nat} {M : List Nat} {F0 F1 F u : Nat → va_E} {pr : Nat} {fa la : Nat → Nat} {T : zTS} {d : zDat} (h : zRC F pr fa la T d) (hf : zFr Γ M F u) (hs : zPS Γ F1 pr fa) (hl : zLS Γ F0 pr la) (hp : Γ pr = some 6) (hM : zMC M) : zRC u pr fa la T d := by
  obtain ⟨⟨m4, m5⟩, m2, n0⟩ := hM
  refine h.cg (fun j h1 h2 => ?_) (fun f hf9 j hj => (hf.1 _ 2 (hs.ty hf9)).1 (by decide) j (m2 j hj)) (fun l hl9 j hj => (hf.1 _ 4 (hl.ty hl9)).1 (by decide) j (n0 j hj))
  have hq : j = 4 ∨ j = 5 := by omega
  rcases hq with rfl | rfl
  · exact (hf.1 _ 6 hp).1 (by decide) 4 m4
  · exact (hf.1 _ 6 hp).1 (by decide) 5 m5
theorem zCc.all {Γ : Nat → Option Nat} {F u : Nat → va_E} {th N : Nat} {T : zTS} {σ σ1 : zSg} {dep : Int} {c : Int32} {iq : Nat} {dq : zDat} (h : zCc Γ F u th T σ σ1 dep) (k0 : zfld F th 11 = .int 0) (k : zfld u th 11 = .int c) (h0 : σ = .inl (0, zd0)) (h1 : σ1 = .inl (iq, dq)) (hi : iq < N) : (∀ e : Nat × Nat × Nat, e ∈ zcs dq ↔ ∃ q : Nat, (q : Int) < c.toInt ∧ zCe u th q e) ∧ (∀ q : Nat, (q : Int) < c.toInt → ∃ e ∈ zcs dq, zCe u th q e) ∧ (∀ e ∈ zcs dq, T.1 e.1 = 4 ∧ e.1 < N) ∧ (∀ q : Nat, (q : Int) < c.toInt → ∃ p : Nat, (zar u th 9 q).toInt = (p : Int) ∧ p < zac dq ∧ (zaf dq p).1 = 9 ∧ ((zaf dq p).2.1 : Int) = (zar u th 7 q).toInt) ∧ ∀ p, p < zac dq → (zaf dq p).1 = 9 → ∃ q : Nat, (q : Int) < c.toInt ∧ (zar u th 9 q).toInt = (p : Int) := by
  obtain ⟨c0, c1, k1, k2, k3, k4, k5⟩ := h
  cases z_vi k0 k1
  cases z_vi k k2
  obtain ⟨-, i, d, new, e1, e2, e3, w1, w2, w3, w4⟩ := k5 iq dq h1
  rw [h0] at e1
  injection e1 with e1
  injection e1 with e4 e5
  subst e5
  have ez : zcs zd0 = [] := rfl
  rw [ez, List.nil_append] at e2
  rw [e2]
  have ec : (0 : Int32).toInt = 0 := by decide
  refine ⟨fun e => ?_, fun q hq => w1 q (by omega) hq, fun e he => ⟨(w3 e he).1, by have := (w3 e he).2; omega⟩, fun q hq => ?_, fun p h9 h8 => ?_⟩
  rotate_left
  · obtain ⟨p, b1, -, b3, b4, b5⟩ := w4.2.2.1 q (by omega) hq
    exact ⟨p, b1, b3, b4, b5⟩
  · obtain ⟨q, b1, b2, b3⟩ := w4.2.2.2 p (Nat.zero_le _) h9 h8
    exact ⟨q, b2, b3⟩
  rw [e3.2.2 e]
  constructor
  · rintro ⟨q, a1, a2, a3⟩
    exact ⟨q, a2, a3⟩
  · rintro ⟨q, a2, a3⟩
    exact ⟨q, by omega, a2, a3⟩
/-- where what is asked of a Function stands -/
def zfj (w : Nat) : Nat := if w = 0 then 7 else if w = 1 then 3 else if w = 2 then 4 else 6
