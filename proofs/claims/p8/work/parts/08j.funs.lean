/-! The class's functions, beside the steps. -/
section
variable {p : Program} {l : Launch} {e : Env} {R : Room} {s : State} {m : MethodId} {args : Array Value} {below : List Frame} {meth : Method} {c : Code} {H : Heap} {locs : List Loc} {cells slots : Nat} {Q : State → Prop}
variable {cc : ByteArray} {pc nL : Nat} {ls : Array Slot} {rest st0 : List Value} {D : va_G} {k : Nat → ClassId} {Γ : Nat → Option Nat} {L : List Nat} {F : Nat → va_E} {Ts : List Cond} {own ref C : String} {T : u_T} {N t a index : Nat}
theorem zt_pute (Z : zC p m c cc nL s args Ts own D k L) (h : zH D k Γ L s F H locs) (ha : Γ a = some t) (hin : ∀ w ∈ u_ws C T N, w ∈ Ts) (ty0 : Nat → FieldType) (hty : ∀ k, k < N → parseFieldDescriptor (T k).2.2.1 = some (ty0 k)) (hnm : ∀ a, a < N → ∀ b, b < N → a ≠ b → (T a).2.1 ≠ (T b).2.1) (hc : z_Cl[t]? = some (C, T, N)) (j : Nat) {q : Nat × Int × Int} (hq : (zsp t)[j]? = some q) (hn : t < 100 ∧ (zsp t).length = N) (hlink : Cond.fieldLink own index ref (T j).2.1 (T j).2.2.1 ∈ Ts) (hsame : ∀ x, s.fieldFound? (T j).1 (T j).2.1 (T j).2.2.1 = some x → s.fieldFound? ref (T j).2.1 (T j).2.2.1 = some x) (hfin : (T j).2.2.2 = false)
    {v : Value} (hv : zV Γ q v) (hnar : narrow (ty0 j) v = v) (hfit : fits (ty0 j) v = true) (hdg : decode cc pc = .ok (.putfield index, 3))
    (kk : ∀ (H1 : Heap) (locs1 : List Loc) (F1 : Nat → va_E), zH D k Γ L s F1 H1 locs1 → zFr Γ [100 * t + j] F F1 → zfld F1 a j = v → (∀ b, b ≠ a → F1 b = F b) → W p l e R s m args below meth c H1 locs1 cells slots Q (F0 m (pc + 3) ls rest)) : W p l e R s m args below meth c H locs cells slots Q (F0 m pc ls (v :: .ref a :: rest)) := by
  obtain ⟨⟨hx, hb, hml, hown, hts⟩, hK, hLn, hE⟩ := Z
  obtain ⟨hP, hI, hS⟩ := h
  obtain ⟨hL, hO, -⟩ := hI a t ha
  obtain ⟨fs, hF, hlen, hall⟩ := hO hn.1
  have hj : j < N := by rw [← hn.2]; exact (List.getElem?_eq_some_iff.mp hq).1
  obtain ⟨g1, g2, g3⟩ := zO_put hI ha hF hn.1 hq hv
  exact zf_put hx hb hts hin ty0 hty hnm hown hK hP (zD hLn) hS hL hF hc j hj (hts _ hlink) hsame hfin (hty j hj) hnar hfit (by rw [hlen, hn.2]; exact hj) hdg (fun H1 locs1 q1 _ q3 => kk H1 locs1 _ ⟨q1, g1, q3⟩ g2 g3 (fun b hb => va_up_ne F _ hb))
end
/-- all Functions but fu stand as they were -/
def zOth (Γ : Nat → Option Nat) (F u : Nat → va_E) (fu : Nat) : Prop := ∀ b j : Nat, Γ b = some 2 → b ≠ fu → j < 9 → zfld u b j = zfld F b j
theorem zOth.rf {Γ : Nat → Option Nat} {F : Nat → va_E} {fu : Nat} : zOth Γ F F fu := fun _ _ _ _ _ => rfl
theorem zOth.trans {Γ : Nat → Option Nat} {F u v : Nat → va_E} {fu : Nat} (h : zOth Γ F u fu) (h1 : zOth Γ u v fu) : zOth Γ F v fu := fun b j a1 a2 a3 => (h1 b j a1 a2 a3).trans (h b j a1 a2 a3)
theorem zOth.fr {Γ : Nat → Option Nat} {M : List Nat} {F u v : Nat → va_E} {fu : Nat} (h : zOth Γ F u fu) (hf : zFr Γ M u v) (hM : ∀ j, j < 9 → 200 + j ∉ M) : zOth Γ F v fu := fun b j a1 a2 a3 => (((hf.1 b 2 a1).1 (by decide) j (hM j a3))).trans (h b j a1 a2 a3)
theorem zOth.put {Γ : Nat → Option Nat} {F u v : Nat → va_E} {fu : Nat} (h : zOth Γ F u fu) (hg : ∀ b, b ≠ fu → v b = u b) : zOth Γ F v fu := fun b j a1 a2 a3 => by
  have e : zfld v b j = zfld u b j := by
    unfold zfld
    rw [hg b a2]
  exact e.trans (h b j a1 a2 a3)
/-- the Functions of a Program: where they stand -/
def zPS (Γ : Nat → Option Nat) (F : Nat → va_E) (pr : Nat) (fa : Nat → Nat) : Prop := ∃ ar, zfld F pr 2 = .ref ar ∧ Γ ar = some 104 ∧ (∀ f, f < 10 → zre F ar f = some (fa f) ∧ Γ (fa f) = some 2) ∧ ∀ f g, f < 10 → g < 10 → fa f = fa g → f = g
theorem zPS.fr {Γ : Nat → Option Nat} {M : List Nat} {F u : Nat → va_E} {pr : Nat} {fa : Nat → Nat} (h : zPS Γ F pr fa) (hf : zFr Γ M F u) (hp : Γ pr = some 6) (hM : 602 ∉ M ∧ 10400 ∉ M) : zPS Γ u pr fa := by
  obtain ⟨ar, h1, h2, h3, h4⟩ := h
  refine ⟨ar, hf.f hp 2 ⟨by decide, hM.1⟩ h1, h2, fun f hf9 => ⟨?_, (h3 f hf9).2⟩, h4⟩
  have e : u ar = F ar := (hf.1 ar 104 h2).2 (by decide) hM.2
  unfold zre
  rw [e]
  exact (h3 f hf9).1
theorem zPS.at {Γ : Nat → Option Nat} {F : Nat → va_E} {pr ar b : Nat} {fa : Nat → Nat} {i : Int32} (h : zPS Γ F pr fa) (k : zfld F pr 2 = .ref ar) (e : zre F ar i.toNatClampNeg = some b) (hi : 0 ≤ i.toInt ∧ i.toInt < 10) : b = fa i.toInt.toNat := by
  obtain ⟨ar', h1, h2, h3, h4⟩ := h
  cases Value.ref.inj (h1.symm.trans k)
  have h5 := (h3 i.toNatClampNeg (by rw [Int32.toNatClampNeg]; omega)).1
  rw [e] at h5
  injection h5
/-- the Functions that were read -/
def zC3 (Γ : Nat → Option Nat) (F : Nat → va_E) (pr : Nat) (fa : Nat → Nat) (T : zTS) (N : Nat) (σ : zSg) : Prop := zPS Γ F pr fa ∧ ∀ i d, σ = .inl (i, d) → (∃ x : Int32, zfld F pr 4 = .int x ∧ x.toInt = (zfc d : Int)) ∧ zfc d ≤ 10 ∧ ∀ f, f < zfc d → (∃ y : Int32, zfld F (fa f) 0 = .int y ∧ y.toInt = (znm d f : Int)) ∧ (∃ z : Int32, zfld F (fa f) 7 = .int z ∧ z.toInt = (zpc d f : Int)) ∧ T.1 (znm d f) = 4 ∧ znm d f < N
theorem zC3.fr {Γ : Nat → Option Nat} {M : List Nat} {F u : Nat → va_E} {pr N : Nat} {fa : Nat → Nat} {T : zTS} {σ : zSg} (h : zC3 Γ F pr fa T N σ) (hf : zFr Γ M F u) (hp : Γ pr = some 6) (hM : (602 ∉ M ∧ 10400 ∉ M) ∧ 604 ∉ M ∧ 200 ∉ M ∧ 207 ∉ M) : zC3 Γ u pr fa T N σ := by
  refine ⟨h.1.fr hf hp hM.1, fun i d e => ?_⟩
  obtain ⟨⟨x, h1, h2⟩, h3, h4⟩ := h.2 i d e
  obtain ⟨ar, -, -, q3, -⟩ := h.1
  refine ⟨⟨x, hf.f hp 4 ⟨by decide, hM.2.1⟩ h1, h2⟩, h3, fun f hfc => ?_⟩
  obtain ⟨⟨y, a1, a2⟩, ⟨z, a3, a4⟩, a5⟩ := h4 f hfc
  have g := (q3 f (by omega)).2
  exact ⟨⟨y, hf.f g 0 ⟨by decide, hM.2.2.1⟩ a1, a2⟩, ⟨z, hf.f g 7 ⟨by decide, hM.2.2.2⟩ a3, a4⟩, a5⟩
/-- steps of a FUNCTION's head: of its name, its places -/
def zsN (σ σ' : zSg) : Prop := ∀ j d', σ' = .inl (j, d') → ∃ i d, σ = .inl (i, d) ∧ i ≤ j ∧ zfc d' = zfc d ∧ zlc d' = zlc d ∧ (∀ f, f < zfc d → znm d' f = znm d f ∧ zpc d' f = zpc d f) ∧ zln d' = zln d
def zsP (σ σ' : zSg) : Prop := ∀ j d', σ' = .inl (j, d') → ∃ i d, σ = .inl (i, d) ∧ i ≤ j ∧ zfc d' = zfc d ∧ zlc d' = zlc d ∧ (∀ f, f < zfc d → znm d' f = znm d f ∧ zpc d' f = zpc d f) ∧ znm d' = znm d ∧ zln d' = zln d
theorem zsN.rf {σ : zSg} : zsN σ σ := fun j d' e => ⟨j, d', e, Nat.le_refl _, rfl, rfl, fun _ _ => ⟨rfl, rfl⟩, rfl⟩
theorem zsP.rf {σ : zSg} : zsP σ σ := fun j d' e => ⟨j, d', e, Nat.le_refl _, rfl, rfl, fun _ _ => ⟨rfl, rfl⟩, rfl, rfl⟩
theorem zsN.trans {σ σ1 σ2 : zSg} (h : zsN σ σ1) (h1 : zsN σ1 σ2) : zsN σ σ2 := fun j d' e => by
  obtain ⟨i, d, e1, g1, g2, g3, g4, g6⟩ := h1 j d' e
  obtain ⟨q, b, e2, k1, k2, k3, k4, k6⟩ := h i d e1
  exact ⟨q, b, e2, Nat.le_trans k1 g1, g2.trans k2, g3.trans k3, fun f hf => ⟨(g4 f (by omega)).1.trans (k4 f hf).1, (g4 f (by omega)).2.trans (k4 f hf).2⟩, g6.trans k6⟩
theorem zsP.trans {σ σ1 σ2 : zSg} (h : zsP σ σ1) (h1 : zsP σ1 σ2) : zsP σ σ2 := fun j d' e => by
  obtain ⟨i, d, e1, g1, g2, g3, g4, g5, g6⟩ := h1 j d' e
  obtain ⟨q, b, e2, k1, k2, k3, k4, k5, k6⟩ := h i d e1
  exact ⟨q, b, e2, Nat.le_trans k1 g1, g2.trans k2, g3.trans k3, fun f hf => ⟨(g4 f (by omega)).1.trans (k4 f hf).1, (g4 f (by omega)).2.trans (k4 f hf).2⟩, g5.trans k5, g6.trans k6⟩
theorem zss.sP {σ σ' : zSg} (h : zss σ σ') : zsP σ σ' := fun j d' e => by
  obtain ⟨i, d, e1, g1, g2⟩ := h j d' e
  exact ⟨i, d, e1, g1, g2.1, g2.2.2.2.2.2.1, fun f _ => ⟨by rw [g2.2.1], by rw [g2.2.2.1]⟩, g2.2.1, g2.2.2.2.2.2.2⟩
theorem zsP.sN {σ σ' : zSg} (h : zsP σ σ') : zsN σ σ' := fun j d' e => by
  obtain ⟨i, d, e1, g1, g2, g3, g4, -, g6⟩ := h j d' e
  exact ⟨i, d, e1, g1, g2, g3, g4, g6⟩
theorem zss.sN {σ σ' : zSg} (h : zss σ σ') : zsN σ σ' := h.sP.sN
theorem zsN.nx {N : Nat} {σ σ' : zSg} (h : zsN σ σ') (h1 : zok N σ) (h2 : zok N σ') : znx N σ ≤ znx N σ' := by
  match σ', h, h2 with
  | .inl (j, d'), h, h2 =>
    obtain ⟨i, d, e, g, -⟩ := h j d' rfl
    subst e
    show (i : Int) ≤ (j : Int)
    omega
  | .inr k, h, h2 =>
    match σ, h1 with
    | .inl (i, d), h1 =>
      have h1 : i < N := h1
      show (i : Int) ≤ (N : Int) - 1
      omega
    | .inr q, _ => exact Int.le_refl _
theorem zsP.nx {N : Nat} {σ σ' : zSg} (h : zsP σ σ') (h1 : zok N σ) (h2 : zok N σ') : znx N σ ≤ znx N σ' := h.sN.nx h1 h2
theorem zC4.sN {Γ : Nat → Option Nat} {F : Nat → va_E} {pr : Nat} {la : Nat → Nat} {T : zTS} {σ σ1 : zSg} (h : zC4 Γ F pr la T σ) (hs : zsN σ σ1) : zC4 Γ F pr la T σ1 := h.st (fun j d' e => by
  obtain ⟨i, d, e1, -, -, e2, -, e3⟩ := hs j d' e
  exact ⟨i, d, e1, e2, e3⟩)
theorem zC4.sP {Γ : Nat → Option Nat} {F : Nat → va_E} {pr : Nat} {la : Nat → Nat} {T : zTS} {σ σ1 : zSg} (h : zC4 Γ F pr la T σ) (hs : zsP σ σ1) : zC4 Γ F pr la T σ1 := h.sN hs.sN
/-- how many functions -/
def zFk (nf : Int32) (σ : zSg) : Prop := ∀ i d, σ = .inl (i, d) → nf.toInt = (zfc d : Int)
theorem zFk.sN {nf : Int32} {σ σ1 : zSg} (h : zFk nf σ) (hs : zsN σ σ1) : zFk nf σ1 := fun j d' e => by
  obtain ⟨i, d, e1, -, e2, -⟩ := hs j d' e
  rw [e2]
  exact h i d e1
theorem zFk.sP {nf : Int32} {σ σ1 : zSg} (h : zFk nf σ) (hs : zsP σ σ1) : zFk nf σ1 := h.sN hs.sN
theorem zFk.ss {nf : Int32} {σ σ1 : zSg} (h : zFk nf σ) (hs : zss σ σ1) : zFk nf σ1 := h.sN hs.sN
theorem zFk.sm {nf : Int32} {σ σ1 : zSg} (h : zFk nf σ) (hs : zsm σ σ1) : zFk nf σ1 := h.ss hs.ss
theorem zFk.sl {nf : Int32} {σ σ1 : zSg} (h : zFk nf σ) (hs : zsl σ σ1) : zFk nf σ1 := fun j d' e => by
  obtain ⟨i, d, e1, -, e2, -⟩ := hs j d' e
  rw [e2]
  exact h i d e1
theorem zC3.st {Γ : Nat → Option Nat} {F : Nat → va_E} {pr N : Nat} {fa : Nat → Nat} {T : zTS} {σ σ1 : zSg} (h : zC3 Γ F pr fa T N σ) (hs : ∀ j d', σ1 = .inl (j, d') → ∃ i d, σ = .inl (i, d) ∧ zfc d' = zfc d ∧ ∀ f, f < zfc d → znm d' f = znm d f ∧ zpc d' f = zpc d f) : zC3 Γ F pr fa T N σ1 := by
  refine ⟨h.1, fun j d' e => ?_⟩
  obtain ⟨i, d, e1, g1, g2⟩ := hs j d' e
  obtain ⟨⟨x, h1, h2⟩, h3, h4⟩ := h.2 i d e1
  refine ⟨⟨x, h1, by rw [g1]; exact h2⟩, by omega, fun f hf => ?_⟩
  rw [(g2 f (by omega)).1, (g2 f (by omega)).2]
  exact h4 f (by omega)
theorem zC3.sN {Γ : Nat → Option Nat} {F : Nat → va_E} {pr N : Nat} {fa : Nat → Nat} {T : zTS} {σ σ1 : zSg} (h : zC3 Γ F pr fa T N σ) (hs : zsN σ σ1) : zC3 Γ F pr fa T N σ1 := h.st (fun j d' e => by
  obtain ⟨i, d, e1, -, g2, -, g4, -⟩ := hs j d' e
  exact ⟨i, d, e1, g2, g4⟩)
theorem zC3.sP {Γ : Nat → Option Nat} {F : Nat → va_E} {pr N : Nat} {fa : Nat → Nat} {T : zTS} {σ σ1 : zSg} (h : zC3 Γ F pr fa T N σ) (hs : zsP σ σ1) : zC3 Γ F pr fa T N σ1 := h.sN hs.sN
theorem zC3.sl {Γ : Nat → Option Nat} {F : Nat → va_E} {pr N : Nat} {fa : Nat → Nat} {T : zTS} {σ σ1 : zSg} (h : zC3 Γ F pr fa T N σ) (hs : zsl σ σ1) : zC3 Γ F pr fa T N σ1 := h.st (fun j d' e => by
  obtain ⟨i, d, e1, -, g⟩ := hs j d' e
  exact ⟨i, d, e1, g.1, fun f _ => ⟨by rw [g.2.1], by rw [g.2.2.1]⟩⟩)
theorem zC3.ss {Γ : Nat → Option Nat} {F : Nat → va_E} {pr N : Nat} {fa : Nat → Nat} {T : zTS} {σ σ1 : zSg} (h : zC3 Γ F pr fa T N σ) (hs : zss σ σ1) : zC3 Γ F pr fa T N σ1 := h.sl hs.sl
/-- the Functions but the one that is read: also while its own fields change -/
theorem zC3.oth {Γ : Nat → Option Nat} {F u : Nat → va_E} {pr fu N : Nat} {fa : Nat → Nat} {T : zTS} {σ : zSg} {x : Int32} (h : zC3 Γ F pr fa T N σ) (hps : zPS Γ u pr fa) (kx : zfld F pr 4 = .int x) (kx' : zfld u pr 4 = .int x) (ho : zOth Γ F u fu) (hfu : fu = fa x.toInt.toNat) (hx : 0 ≤ x.toInt ∧ x.toInt < 10) : zC3 Γ u pr fa T N σ := by
  refine ⟨hps, fun i d e => ?_⟩
  obtain ⟨⟨x', h1, h2⟩, h3, h4⟩ := h.2 i d e
  cases z_vi kx h1
  obtain ⟨ar, -, -, q3, q4⟩ := h.1
  refine ⟨⟨x, kx', h2⟩, h3, fun f hfc => ?_⟩
  obtain ⟨⟨y, a1, a2⟩, ⟨z, a3, a4⟩, a5⟩ := h4 f hfc
  have g := (q3 f (by omega)).2
  have hne : fa f ≠ fu := fun h9 => by
    have := q4 f x.toInt.toNat (by omega) (by omega) (h9.trans hfu)
    omega
  exact ⟨⟨y, (ho _ 0 g hne (by decide)).trans a1, a2⟩, ⟨z, (ho _ 7 g hne (by decide)).trans a3, a4⟩, a5⟩
/-- the name of the FUNCTION that is read -/
def zNm (F : Nat → va_E) (fu : Nat) (T : zTS) (N : Nat) (σ : zSg) : Prop := ∀ i d, σ = .inl (i, d) → (∃ y : Int32, zfld F fu 0 = .int y ∧ y.toInt = (znm d (zfc d) : Int)) ∧ T.1 (znm d (zfc d)) = 4 ∧ znm d (zfc d) < N
theorem zNm.fr {Γ : Nat → Option Nat} {M : List Nat} {F u : Nat → va_E} {fu N : Nat} {T : zTS} {σ : zSg} (h : zNm F fu T N σ) (hf : zFr Γ M F u) (hp : Γ fu = some 2) (hM : 200 ∉ M) : zNm u fu T N σ := fun i d e => by
  obtain ⟨⟨y, h1, h2⟩, h3⟩ := h i d e
  exact ⟨⟨y, hf.f hp 0 ⟨by decide, hM⟩ h1, h2⟩, h3⟩
theorem zNm.sP {F : Nat → va_E} {fu N : Nat} {T : zTS} {σ σ1 : zSg} (h : zNm F fu T N σ) (hs : zsP σ σ1) : zNm F fu T N σ1 := fun j d' e => by
  obtain ⟨i, d, e1, -, g2, -, -, g5, -⟩ := hs j d' e
  rw [g2, g5]
  exact h i d e1
theorem zNm.sl {F : Nat → va_E} {fu N : Nat} {T : zTS} {σ σ1 : zSg} (h : zNm F fu T N σ) (hs : zsl σ σ1) : zNm F fu T N σ1 := fun j d' e => by
  obtain ⟨i, d, e1, -, g⟩ := hs j d' e
  rw [g.1, g.2.1]
  exact h i d e1
theorem zNm.ss {F : Nat → va_E} {fu N : Nat} {T : zTS} {σ σ1 : zSg} (h : zNm F fu T N σ) (hs : zss σ σ1) : zNm F fu T N σ1 := h.sl hs.sl
/-- its places -/
def zPl (Γ : Nat → Option Nat) (F : Nat → va_E) (fu : Nat) (σ : zSg) : Prop := zAd Γ F fu 8 103 ∧ ∀ i d, σ = .inl (i, d) → (∃ z : Int32, zfld F fu 7 = .int z ∧ z.toInt = (zpc d (zfc d) : Int)) ∧ ∀ j, j < zpc d (zfc d) → (zar F fu 8 j).toInt = zpl d (zfc d) j
theorem zPl.fr {Γ : Nat → Option Nat} {M : List Nat} {F u : Nat → va_E} {fu : Nat} {σ : zSg} (h : zPl Γ F fu σ) (hf : zFr Γ M F u) (hp : Γ fu = some 2) (hM : 207 ∉ M ∧ 208 ∉ M ∧ 10300 ∉ M) : zPl Γ u fu σ := by
  refine ⟨h.1.fr hf hp ⟨by decide, hM.2.1⟩, fun i d e => ?_⟩
  obtain ⟨⟨z, h1, h2⟩, h3⟩ := h.2 i d e
  rw [h.1.ar hf hp ⟨by decide, hM.2.1⟩ ⟨by decide, hM.2.2⟩]
  exact ⟨⟨z, hf.f hp 7 ⟨by decide, hM.1⟩ h1, h2⟩, h3⟩
theorem zPl.sl {Γ : Nat → Option Nat} {F : Nat → va_E} {fu : Nat} {σ σ1 : zSg} (h : zPl Γ F fu σ) (hs : zsl σ σ1) : zPl Γ F fu σ1 := ⟨h.1, fun j d' e => by
  obtain ⟨i, d, e1, -, g⟩ := hs j d' e
  rw [g.1, g.2.2.1, g.2.2.2.1]
  exact h.2 i d e1⟩
theorem zPl.ss {Γ : Nat → Option Nat} {F : Nat → va_E} {fu : Nat} {σ σ1 : zSg} (h : zPl Γ F fu σ) (hs : zss σ σ1) : zPl Γ F fu σ1 := h.sl hs.sl
theorem zPl.k {Γ : Nat → Option Nat} {F : Nat → va_E} {fu : Nat} {σ : zSg} {x : Int32} (h : zPl Γ F fu σ) (k : zfld F fu 7 = .int x) : ∀ i d, σ = .inl (i, d) → x.toInt = (zpc d (zfc d) : Int) := fun i d e => by
  obtain ⟨⟨z, h1, h2⟩, -⟩ := h.2 i d e
  cases z_vi k h1
  exact h2
theorem zPl.fl {Γ : Nat → Option Nat} {F : Nat → va_E} {fu : Nat} {σ : zSg} (h : zAd Γ F fu 8 103) {k : Int} : zPl Γ F fu (zfl k σ) := ⟨h, fun i d e => by
  obtain ⟨q, h⟩ := zfl_bad k σ
  rw [h] at e
  cases e⟩
theorem zPl.z {Γ : Nat → Option Nat} {F : Nat → va_E} {fu : Nat} {σ : zSg} {x : Int32} (h : zAd Γ F fu 8 103) (k : zfld F fu 7 = .int x) (e : x.toInt = 0) : zPl Γ F fu (zmap (fun _ d => zadd0 d) σ) := ⟨h, fun i d e1 => by
  match σ, e1 with
  | .inl (j, b), e1 =>
    have e1 : (Sum.inl (j, zadd0 b) : zSg) = .inl (i, d) := e1
    injection e1 with e1
    injection e1 with _ e2
    subst e2
    have ep : zpc (zadd0 b) (zfc (zadd0 b)) = 0 := zup_self _ _ _
    rw [ep]
    exact ⟨⟨x, k, e⟩, fun j hj => absurd hj (Nat.not_lt_zero _)⟩
  | .inr q, e1 => cases e1⟩
theorem zPl.add {Γ : Nat → Option Nat} {F u : Nat → va_E} {fu : Nat} {σ : zSg} {x y v : Int32} {K : Nat → Int} (h : zPl Γ F fu σ) (ha : zAd Γ u fu 8 103) (kx : zfld F fu 7 = .int x) (h0 : 0 ≤ x.toInt) (ky : zfld u fu 7 = .int y) (ey : y.toInt = x.toInt + 1) (e8 : zar u fu 8 = upd (zar F fu 8) x.toNatClampNeg v) (hv : ∀ i d, σ = .inl (i, d) → v.toInt = K i - 1) : zPl Γ u fu (zadv (zmap (fun i d => zaddp d (K i - 1)) σ)) := ⟨ha, fun j d' e => by
  obtain ⟨i, d, e1, e2, e3⟩ := zadm e
  have hx := h.k kx i d e1
  have hv := hv i d e1
  obtain ⟨-, g⟩ := h.2 i d e1
  subst e3
  have ef : zfc (zaddp d (K i - 1)) = zfc d := rfl
  have ep : zpc (zaddp d (K i - 1)) (zfc d) = zpc d (zfc d) + 1 := zup_self _ _ _
  have el : zpl (zaddp d (K i - 1)) (zfc d) = zup (zpl d (zfc d)) (zpc d (zfc d)) (K i - 1) := zup_self _ _ _
  rw [ef, ep, el]
  have ec : x.toNatClampNeg = zpc d (zfc d) := by rw [Int32.toNatClampNeg]; omega
  refine ⟨⟨y, ky, by omega⟩, fun q hq => ?_⟩
  rw [e8, ec]
  by_cases c : q = zpc d (zfc d)
  · subst c
    rw [zup_self]
    show (upd (zar F fu 8) _ v _).toInt = _
    rw [show upd (zar F fu 8) (zpc d (zfc d)) v (zpc d (zfc d)) = v from if_pos rfl]
    exact hv
  · rw [zup_ne _ _ c, show upd (zar F fu 8) (zpc d (zfc d)) v q = zar F fu 8 q from if_neg c]
    exact g q (by omega)⟩
/-- a FUNCTION stands -/
theorem zC3.add {Γ : Nat → Option Nat} {F u : Nat → va_E} {pr fu N : Nat} {fa : Nat → Nat} {T : zTS} {σ : zSg} {x y : Int32} (h : zC3 Γ F pr fa T N σ) (hnm : zNm F fu T N σ) (hpl : zPl Γ F fu σ) (kx : zfld F pr 4 = .int x) (hx : 0 ≤ x.toInt ∧ x.toInt < 10) (hfu : fu = fa x.toInt.toNat) (hps : zPS Γ u pr fa) (ky : zfld u pr 4 = .int y) (ey : y.toInt = x.toInt + 1) (hs : ∀ b j : Nat, Γ b = some 2 → j = 0 ∨ j = 7 → zfld u b j = zfld F b j) : zC3 Γ u pr fa T N (zmap (fun _ d => zaddf d) σ) := by
  refine ⟨hps, fun i d e => ?_⟩
  match σ, h, hnm, hpl, e with
  | .inr q, _, _, _, e => cases e
  | .inl (j, b), h, hnm, hpl, e =>
    have e : (Sum.inl (j, zaddf b) : zSg) = .inl (i, d) := e
    injection e with e
    injection e with _ e2
    subst e2
    obtain ⟨⟨x', h1, h2⟩, h3, h4⟩ := h.2 j b rfl
    cases z_vi kx h1
    obtain ⟨⟨n1, m1, m2⟩, m3, m4⟩ := hnm j b rfl
    obtain ⟨⟨n2, m5, m6⟩, -⟩ := hpl.2 j b rfl
    obtain ⟨ar, -, -, q3, q4⟩ := h.1
    have ef : zfc (zaddf b) = zfc b + 1 := rfl
    have en : znm (zaddf b) = znm b := rfl
    have ep : zpc (zaddf b) = zpc b := rfl
    have ex : x.toInt.toNat = zfc b := by omega
    rw [ef, en, ep]
    refine ⟨⟨y, ky, by omega⟩, by omega, fun f hf => ?_⟩
    have g := (q3 f (by omega)).2
    rw [hs _ 0 g (Or.inl rfl), hs _ 7 g (Or.inr rfl)]
    by_cases c : f = zfc b
    · subst c
      have efu : fa (zfc b) = fu := by rw [hfu, ex]
      rw [efu]
      exact ⟨⟨n1, m1, m2⟩, ⟨n2, m5, m6⟩, m3, m4⟩
    · exact h4 f (by omega)
/-- the first Function of a name -/
theorem zfind_s {W : Nat → Int} {nm : Nat → Nat} {w : Int} {n : Nat} (h : zfind W nm w n = none) : zfind W nm w (n + 1) = if W (nm n) = w then some n else none := by
  show (match zfind W nm w n with | some f => some f | none => if W (nm n) = w then some n else none) = _
  rw [h]
theorem zfind_k {W : Nat → Int} {nm : Nat → Nat} {w : Int} {n f : Nat} (h : zfind W nm w n = some f) : ∀ m, n ≤ m → zfind W nm w m = some f := fun m hm => by
  obtain ⟨q, rfl⟩ := Nat.exists_eq_add_of_le hm
  clear hm
  induction q with
  | zero => exact h
  | succ q ih =>
    show (match zfind W nm w (n + q) with | some f => some f | none => if W (nm (n + q)) = w then some (n + q) else none) = _
    rw [ih]
theorem zfind_lt {W : Nat → Int} {nm : Nat → Nat} {w : Int} {f : Nat} : ∀ {n : Nat}, zfind W nm w n = some f → f < n ∧ W (nm f) = w
  | 0, h => by cases h
  | n + 1, h => by
    have h : (match zfind W nm w n with | some f => some f | none => if W (nm n) = w then some n else none) = some f := h
    cases e : zfind W nm w n with
    | some g =>
      rw [e] at h
      injection h with h
      subst h
      have := zfind_lt e
      exact ⟨by omega, this.2⟩
    | none =>
      rw [e] at h
      by_cases c : W (nm n) = w
      · have h : (if W (nm n) = w then some n else none) = some f := h
        rw [if_pos c] at h
        injection h with h
        subst h
        exact ⟨by omega, c⟩
      · have h : (if W (nm n) = w then some n else none) = some f := h
        rw [if_neg c] at h
        cases h
def zfi (o : Option Nat) : Int := match o with
  | some f => (f : Int)
  | none => -1
theorem zname_t {B : Nat → Int32} {n t : Nat} (h : (zTo B n).1 t = 4) : zwa B n (zpo B n t) = zte B n (zpo B n t) - zpo B n t ∧ 2 ≤ zwa B n (zpo B n t) := by
  have h : zka B n (zpo B n t) = 4 := h
  obtain ⟨h1, h2, h3, h4⟩ := zka_lt (Or.inr ⟨by omega, by omega⟩ : zka B n (zpo B n t) = 3 ∨ (4 ≤ zka B n (zpo B n t) ∧ zka B n (zpo B n t) ≤ 10))
  have h5 := zname_w h
  have h6 := (zwa_l (of_decide_eq_true h1) rfl).1 h2
  exact ⟨h6, by omega⟩
theorem zlet_t {B : Nat → Int32} {n t : Nat} (h : (zTo B n).1 t = 3) : zby B n (zpo B n t) - 97 = (zTo B n).2.2 t - 1 ∧ 97 ≤ zby B n (zpo B n t) := by
  have h : zka B n (zpo B n t) = 3 := h
  obtain ⟨h1, h2, h3, h4⟩ := zka_lt (Or.inl h)
  have h5 := (h3 h).1
  have h6 := of_decide_eq_true h1
  refine ⟨?_, h6.1⟩
  show _ = zwI (zby B n) (zpo B n t) (zte B n (zpo B n t) - zpo B n t).toNat - 1
  rw [h5]
  show zby B n (zpo B n t) - 97 = (32 * 0 + (zby B n (zpo B n t + ((0 : Nat) : Int)) - 96)) - 1
  have e : zpo B n t + ((0 : Nat) : Int) = zpo B n t := by omega
  rw [e]
  omega
theorem zwa_600 {B : Nat → Int32} {n t : Nat} (hn : n ≤ 600) : 0 ≤ zwa B n (zpo B n t) ∧ zwa B n (zpo B n t) ≤ 600 := by
  have h1 := zpo_n B n t
  have h2 := zte_le B n (zpo B n t)
  have h3 := zte_n (B := B) h1.2
  unfold zwa
  split <;> omega
theorem zinl {T : zTS} {N : Nat} {σ : zSg} (hL : zLs T N) (hk : zkd T N σ ≠ 0 ∧ zkd T N σ ≠ 1) : ∃ i d, σ = .inl (i, d) := by
  match σ, hk with
  | .inl (i, d), _ => exact ⟨i, d, rfl⟩
  | .inr q, hk => exact (hL.2.2.elim hk.1 hk.2).elim
theorem zsN.nm {σ : zSg} : zsN σ (zadv (zmap (fun i d => zaddn d i) σ)) := fun j d' h => by
  obtain ⟨i, d, e1, e2, e3⟩ := zadm h
  subst e3
  exact ⟨i, d, e1, by omega, rfl, rfl, fun f hf => ⟨zup_ne _ _ (by have : f < d.1 := hf; omega), rfl⟩, rfl⟩
theorem zsN.b {σ : zSg} : zsN σ (zadv (zmap (fun i d => zaddb d i) σ)) := fun j d' h => by
  obtain ⟨i, d, e1, e2, e3⟩ := zadm h
  subst e3
  exact ⟨i, d, e1, by omega, rfl, rfl, fun f hf => ⟨rfl, rfl⟩, rfl⟩
theorem zsP.pl {K : Nat → Int} {σ : zSg} : zsP σ (zadv (zmap (fun i d => zaddp d (K i - 1)) σ)) := fun j d' h => by
  obtain ⟨i, d, e1, e2, e3⟩ := zadm h
  subst e3
  exact ⟨i, d, e1, by omega, rfl, rfl, fun f hf => ⟨rfl, zup_ne _ _ (by have : f < d.1 := hf; omega)⟩, rfl, rfl⟩
theorem zsP.z {σ : zSg} : zsP σ (zmap (fun _ d => zadd0 d) σ) := fun j d' h => by
  match σ, h with
  | .inl (i, d), h =>
    have h : (Sum.inl (i, zadd0 d) : zSg) = .inl (j, d') := h
    injection h with h
    injection h with h1 h2
    subst h2
    exact ⟨i, d, rfl, by omega, rfl, rfl, fun f hf => ⟨rfl, zup_ne _ _ (by have : f < d.1 := hf; omega)⟩, rfl, rfl⟩
  | .inr k, h => cases h
theorem zNm.new {F : Nat → va_E} {fu N : Nat} {T : zTS} {σ : zSg} {x : Int32} (k : zfld F fu 0 = .int x) (hx : x.toInt = znx N σ) (hok : zok N σ) (hk : zkd T N σ = 4) : zNm F fu T N (zadv (zmap (fun i d => zaddn d i) σ)) := fun j d' h => by
  obtain ⟨i, d, e1, e2, e3⟩ := zadm h
  subst e3
  subst e1
  have ef : zfc (zaddn d i) = zfc d := rfl
  have en : znm (zaddn d i) (zfc d) = i := zup_self _ _ _
  rw [ef, en]
  exact ⟨⟨x, k, hx⟩, hk, hok⟩
theorem zNm.fl {F : Nat → va_E} {fu N : Nat} {T : zTS} {σ : zSg} {k : Int} : zNm F fu T N (zfl k σ) := fun i d e => by
  obtain ⟨q, h⟩ := zfl_bad k σ
  rw [h] at e
  cases e
def zsQ (σ σ' : zSg) : Prop := ∀ j d', σ' = .inl (j, d') → ∃ i d, σ = .inl (i, d) ∧ i ≤ j ∧ zlc d' = zlc d ∧ zln d' = zln d
theorem zsQ.nx {N : Nat} {σ σ' : zSg} (h : zsQ σ σ') (h1 : zok N σ) (h2 : zok N σ') : znx N σ ≤ znx N σ' := by
  match σ', h, h2 with
  | .inl (j, d'), h, h2 =>
    obtain ⟨i, d, e, g, -⟩ := h j d' rfl
    subst e
    show (i : Int) ≤ (j : Int)
    omega
  | .inr k, h, h2 =>
    match σ, h1 with
    | .inl (i, d), h1 =>
      have h1 : i < N := h1
      show (i : Int) ≤ (N : Int) - 1
      omega
    | .inr q, _ => exact Int.le_refl _
theorem zmapm {f : Nat → zDat → zDat} {σ : zSg} {j : Nat} {d' : zDat} (h : zmap f σ = .inl (j, d')) : ∃ d, σ = .inl (j, d) ∧ d' = f j d := by
  match σ, h with
  | .inl (i, d), h =>
    have h : (Sum.inl (i, f i d) : zSg) = .inl (j, d') := h
    injection h with h
    injection h with h1 h2
    subst h1
    exact ⟨d, rfl, h2.symm⟩
  | .inr k, h => cases h
theorem zsQ.f {σ : zSg} : zsQ σ (zmap (fun _ d => zaddf d) σ) := fun j d' h => by
  obtain ⟨d, e1, e2⟩ := zmapm h
  exact ⟨j, d, e1, Nat.le_refl _, by rw [e2]; rfl, by rw [e2]; rfl⟩
theorem zC4.sQ {Γ : Nat → Option Nat} {F : Nat → va_E} {pr : Nat} {la : Nat → Nat} {T : zTS} {σ σ1 : zSg} (h : zC4 Γ F pr la T σ) (hs : zsQ σ σ1) : zC4 Γ F pr la T σ1 := h.st (fun j d' e => by
  obtain ⟨i, d, e1, -, e2⟩ := hs j d' e
  exact ⟨i, d, e1, e2⟩)
/-- the number of Functions stands -/
def zsC (σ σ' : zSg) : Prop := ∀ j d', σ' = .inl (j, d') → ∃ i d, σ = .inl (i, d) ∧ zfc d' = zfc d
theorem zsC.rf {σ : zSg} : zsC σ σ := fun j d' e => ⟨j, d', e, rfl⟩
theorem zsC.trans {σ σ1 σ2 : zSg} (h : zsC σ σ1) (h1 : zsC σ1 σ2) : zsC σ σ2 := fun j d' e => by
  obtain ⟨i, d, e1, g1⟩ := h1 j d' e
  obtain ⟨q, b, e2, g2⟩ := h i d e1
  exact ⟨q, b, e2, g1.trans g2⟩
theorem zsN.c {σ σ' : zSg} (h : zsN σ σ') : zsC σ σ' := fun j d' e => by
  obtain ⟨i, d, e1, -, g, -⟩ := h j d' e
  exact ⟨i, d, e1, g⟩
theorem zsP.c {σ σ' : zSg} (h : zsP σ σ') : zsC σ σ' := h.sN.c
theorem zss.c {σ σ' : zSg} (h : zss σ σ') : zsC σ σ' := h.sN.c
theorem zsl.c {σ σ' : zSg} (h : zsl σ σ') : zsC σ σ' := fun j d' e => by
  obtain ⟨i, d, e1, -, g⟩ := h j d' e
  exact ⟨i, d, e1, g.1⟩
/-- a FUNCTION more -/
def zsU (σ σ' : zSg) : Prop := ∀ j d', σ' = .inl (j, d') → ∃ i d, σ = .inl (i, d) ∧ zfc d' = zfc d + 1
theorem zsU.f {σ σ1 : zSg} (h : zsC σ σ1) : zsU σ (zmap (fun _ d => zaddf d) σ1) := fun j d' e => by
  obtain ⟨d, e1, e2⟩ := zmapm e
  obtain ⟨i, b, e3, g⟩ := h j d e1
  exact ⟨i, b, e3, by rw [e2]; show zfc d + 1 = zfc b + 1; omega⟩
theorem zsU.fl {σ σ1 : zSg} {k : Int} : zsU σ (zfl k σ1) := fun j d' e => by
  obtain ⟨q, h⟩ := zfl_bad k σ1
  rw [h] at e
  cases e
theorem zC3.k {Γ : Nat → Option Nat} {F : Nat → va_E} {pr N : Nat} {fa : Nat → Nat} {T : zTS} {σ : zSg} {x : Int32} (h : zC3 Γ F pr fa T N σ) (k : zfld F pr 4 = .int x) : ∀ i d, σ = .inl (i, d) → x.toInt = (zfc d : Int) ∧ zfc d ≤ 10 := fun i d e => by
  obtain ⟨⟨y, h1, h2⟩, h3, -⟩ := h.2 i d e
  cases z_vi k h1
  exact ⟨h2, h3⟩
/-- a call's name is a FUNCTION's, with as many places -/
def zgood (T : zTS) (d : zDat) (e : Nat × Nat) : Prop := ∃ f, zfind T.2.2 (znm d) (T.2.2 e.1) (zfc d) = some f ∧ zpc d f = e.2
/-- nothing was read yet -/
def zd0 : zDat := (0, fun _ => 0, fun _ => 0, fun _ _ => 0, 0, fun _ => (0, 0, 0, 0), [], fun _ => (0, 0))
/-- what a text comes to: its fault, what was read -/
def zOut (T : zTS) (r : Int) (d : zDat) : Prop := (r ≠ 0 ∧ zRe T (.inl ([(1, 0, 0, 0), (0, 0, 0, 0)], 0, zd0)) (.inr r)) ∨ ∃ i, zRe T (.inl ([(1, 0, 0, 0), (0, 0, 0, 0)], 0, zd0)) (.inl ([], i, d)) ∧ ((r = 0 ∧ ∀ e ∈ zcs d, zgood T d e) ∨ (r = 4 ∧ ∃ e ∈ zcs d, ¬ zgood T d e))
theorem zOut.un {T : zTS} {r r' : Int} {d d' : zDat} (h : zOut T r d) (h' : zOut T r' d') : r = r' ∧ (r = 0 → d = d') := by
  rcases h with ⟨h1, h2⟩ | ⟨i, h1, h2⟩
  · rcases h' with ⟨g1, g2⟩ | ⟨i', g1, g2⟩
    · have e := zRe.det h2 g2 rfl rfl
      injection e with e
      exact ⟨e, fun h9 => absurd h9 h1⟩
    · have e := zRe.det h2 g1 rfl rfl
      cases e
  · rcases h' with ⟨g1, g2⟩ | ⟨i', g1, g2⟩
    · have e := zRe.det h1 g2 rfl rfl
      cases e
    · have e := zRe.det h1 g1 rfl rfl
      injection e with e
      injection e with _ e
      injection e with e1 e2
      subst e1
      subst e2
      rcases h2 with ⟨a1, a2⟩ | ⟨a1, e, b1, b2⟩
      · rcases g2 with ⟨c1, c2⟩ | ⟨c1, e', c2, c3⟩
        · exact ⟨a1.trans c1.symm, fun _ => rfl⟩
        · exact absurd (a2 e' c2) c3
      · rcases g2 with ⟨c1, c2⟩ | ⟨c1, e', c2, c3⟩
        · exact absurd (c2 e b1) b2
        · exact ⟨a1.trans c1.symm, fun h9 => by omega⟩
/-- what the class's Program holds of what was read -/
def zRC (F : Nat → va_E) (pr : Nat) (la : Nat → Nat) (T : zTS) (d : zDat) : Prop := (∃ x : Int32, zfld F pr 4 = .int x ∧ x.toInt = (zfc d : Int)) ∧ (∃ x : Int32, zfld F pr 5 = .int x ∧ x.toInt = (zlc d : Int)) ∧ zlc d ≤ 60 ∧ ∀ l, l < zlc d → zL4 F (la l) (zln d l) T
theorem zRC.fcE {F : Nat → va_E} {pr : Nat} {la : Nat → Nat} {T : zTS} {d : zDat} {x : Int32} (h : zRC F pr la T d) (k : zfld F pr 4 = .int x) : x.toInt = (zfc d : Int) := by
  obtain ⟨⟨y, h1, h2⟩, -⟩ := h
  cases z_vi k h1
  exact h2
theorem zRC.fr {Γ : Nat → Option Nat} {M : List Nat} {F0 F u : Nat → va_E} {pr : Nat} {la : Nat → Nat} {T : zTS} {d : zDat} (h : zRC F pr la T d) (hf : zFr Γ M F u) (hl : zLS Γ F0 pr la) (hp : Γ pr = some 6) (hM : (604 ∉ M ∧ 605 ∉ M) ∧ 400 ∉ M ∧ 401 ∉ M ∧ 402 ∉ M ∧ 403 ∉ M) : zRC u pr la T d := by
  obtain ⟨⟨m4, m5⟩, n0, n1, n2, n3⟩ := hM
  obtain ⟨⟨x, h1, h2⟩, ⟨y, h3, h4⟩, h5, h6⟩ := h
  refine ⟨⟨x, hf.f hp 4 ⟨by decide, m4⟩ h1, h2⟩, ⟨y, hf.f hp 5 ⟨by decide, m5⟩ h3, h4⟩, h5, fun l hl9 => (h6 l hl9).cg (fun j hj => ?_)⟩
  have hq : j = 0 ∨ j = 1 ∨ j = 2 ∨ j = 3 := by omega
  have ht := hl.ty (l := l) (by omega)
  rcases hq with rfl | rfl | rfl | rfl
  · exact hf.f ht 0 ⟨by decide, n0⟩ rfl
  · exact hf.f ht 1 ⟨by decide, n1⟩ rfl
  · exact hf.f ht 2 ⟨by decide, n2⟩ rfl
  · exact hf.f ht 3 ⟨by decide, n3⟩ rfl
theorem zCc.all {Γ : Nat → Option Nat} {F u : Nat → va_E} {th N : Nat} {T : zTS} {σ σ1 : zSg} {dep : Int} {c : Int32} {iq : Nat} {dq : zDat} (h : zCc Γ F u th T σ σ1 dep) (k0 : zfld F th 11 = .int 0) (k : zfld u th 11 = .int c) (h0 : σ = .inl (0, zd0)) (h1 : σ1 = .inl (iq, dq)) (hi : iq < N) : (∀ e : Nat × Nat, e ∈ zcs dq ↔ ∃ q : Nat, (q : Int) < c.toInt ∧ (zar u th 7 q).toInt = (e.1 : Int) ∧ (zar u th 8 q).toInt = (e.2 : Int)) ∧ (∀ q : Nat, (q : Int) < c.toInt → ∃ e ∈ zcs dq, (zar u th 7 q).toInt = (e.1 : Int) ∧ (zar u th 8 q).toInt = (e.2 : Int)) ∧ ∀ e ∈ zcs dq, T.1 e.1 = 4 ∧ e.1 < N := by
  obtain ⟨c0, c1, k1, k2, k3, k4, k5⟩ := h
  cases z_vi k0 k1
  cases z_vi k k2
  obtain ⟨-, i, d, new, e1, e2, e3, w1, w2, w3⟩ := k5 iq dq h1
  rw [h0] at e1
  injection e1 with e1
  injection e1 with e4 e5
  subst e5
  have ez : zcs zd0 = [] := rfl
  rw [ez, List.nil_append] at e2
  rw [e2]
  have ec : (0 : Int32).toInt = 0 := by decide
  refine ⟨fun e => ?_, fun q hq => w1 q (by omega) hq, fun e he => ⟨(w3 e he).1, by have := (w3 e he).2; omega⟩⟩
  rw [e3.2.2 e]
  constructor
  · rintro ⟨q, a1, a2, a3, a4⟩
    exact ⟨q, a2, a3, a4⟩
  · rintro ⟨q, a2, a3, a4⟩
    exact ⟨q, by omega, a2, a3, a4⟩
