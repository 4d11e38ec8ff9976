/-! The reference's functions, beside the steps. -/
theorem zD4.sB {Γ : Nat → Option Nat} {F : Nat → va_E} {sp : Nat} {T : zTS} {σ σ1 : zSg} (h : zD4 Γ F sp T σ) (hs : zsB σ σ1) : zD4 Γ F sp T σ1 := h.st (fun j d' e => by
  obtain ⟨i, d, e1, -, -, e2, -, e3⟩ := hs j d' e
  exact ⟨i, d, e1, e2, e3⟩)
theorem zD4.sN {Γ : Nat → Option Nat} {F : Nat → va_E} {sp : Nat} {T : zTS} {σ σ1 : zSg} (h : zD4 Γ F sp T σ) (hs : zsN σ σ1) : zD4 Γ F sp T σ1 := h.sB hs.sB
theorem zD4.sP {Γ : Nat → Option Nat} {F : Nat → va_E} {sp : Nat} {T : zTS} {σ σ1 : zSg} (h : zD4 Γ F sp T σ) (hs : zsP σ σ1) : zD4 Γ F sp T σ1 := h.sN hs.sN
theorem zD4.sQ {Γ : Nat → Option Nat} {F : Nat → va_E} {sp : Nat} {T : zTS} {σ σ1 : zSg} (h : zD4 Γ F sp T σ) (hs : zsQ σ σ1) : zD4 Γ F sp T σ1 := h.st (fun j d' e => by
  obtain ⟨i, d, e1, -, e2⟩ := hs j d' e
  exact ⟨i, d, e1, e2⟩)
def zD0 (F : Nat → va_E) (sp : Nat) (σ : zSg) : Prop := ∀ i d, σ = .inl (i, d) → ∃ x : Int32, zfld F sp 0 = .int x ∧ x.toInt = (zfc d : Int)
theorem zD0.k {F : Nat → va_E} {sp : Nat} {σ : zSg} {x : Int32} (h : zD0 F sp σ) (k : zfld F sp 0 = .int x) : zFk x σ := fun i d e => by
  obtain ⟨y, h1, h2⟩ := h i d e
  cases z_vi k h1
  exact h2
theorem zD0.fr {Γ : Nat → Option Nat} {M : List Nat} {F u : Nat → va_E} {sp : Nat} {σ : zSg} (h : zD0 F sp σ) (hf : zFr Γ M F u) (hp : Γ sp = some 11) (hM : 1100 ∉ M) : zD0 u sp σ := fun i d e => by
  obtain ⟨x, h1, h2⟩ := h i d e
  exact ⟨x, hf.f hp 0 ⟨by decide, hM⟩ h1, h2⟩
theorem zD0.end {F : Nat → va_E} {sp : Nat} {σ : zSg} {x y : Int32} (h : zFk x σ) (k : zfld F sp 0 = .int y) (e : y.toInt = x.toInt + 1) : zD0 F sp (zmap (fun i d => zaddf d i) σ) := fun j d' e1 => by
  obtain ⟨d, e2, rfl⟩ := zmapm e1
  refine ⟨y, k, ?_⟩
  have := h j d e2
  show y.toInt = ((zfc d + 1 : Nat) : Int)
  omega
/-- the name that is read -/
def zNd (T : zTS) (w : Int64) (σ : zSg) : Prop := ∀ i d, σ = .inl (i, d) → w.toInt = T.2.2 (znm d (zfc d))
theorem zNd.sP {T : zTS} {w : Int64} {σ σ1 : zSg} (h : zNd T w σ) (hs : zsP σ σ1) : zNd T w σ1 := fun j d' e => by
  obtain ⟨i, d, e1, -, e2, -, -, e3, -, -⟩ := hs j d' e
  rw [e2, e3]
  exact h i d e1
theorem zNd.ss {T : zTS} {w : Int64} {σ σ1 : zSg} (h : zNd T w σ) (hs : zss σ σ1) : zNd T w σ1 := h.sP hs.sP
theorem zNd.sm {T : zTS} {w : Int64} {σ σ1 : zSg} (h : zNd T w σ) (hs : zsm σ σ1) : zNd T w σ1 := h.ss hs.ss
theorem zNd.sl {T : zTS} {w : Int64} {σ σ1 : zSg} (h : zNd T w σ) (hs : zsl σ σ1) : zNd T w σ1 := fun j d' e => by
  obtain ⟨i, d, e1, -, e2, e3, -⟩ := hs j d' e
  rw [e2, e3]
  exact h i d e1
theorem zNd.new {T : zTS} {w : Int64} {σ : zSg} (hw : ∀ i d, σ = .inl (i, d) → w.toInt = T.2.2 i) : zNd T w (zadv (zmap (fun i d => zaddn d i) σ)) := fun j d' h => by
  match σ, hw, h with
  | .inr q, _, h => cases h
  | .inl (i, d), hw, h =>
    have h : (Sum.inl (i + 1, zaddn d i) : zSg) = .inl (j, d') := h
    injection h with h
    injection h with _ h2
    subst h2
    have e : znm (zaddn d i) (zfc (zaddn d i)) = i := zup_self _ _ _
    rw [e]
    exact hw i d rfl
/-- the places of the function that is read -/
def zPd (Γ : Nat → Option Nat) (F : Nat → va_E) (sp : Nat) (nf : Int32) (σ : zSg) : Prop := zSA Γ F sp ∧ ∀ i d, σ = .inl (i, d) → (zar F sp 6 nf.toNatClampNeg).toInt = (zpc d (zfc d) : Int) ∧ ∀ j, j < zpc d (zfc d) → (zar F sp 12 (3 * nf.toNatClampNeg + j)).toInt = zpl d (zfc d) j
theorem zPd.fr {Γ : Nat → Option Nat} {M : List Nat} {F u : Nat → va_E} {sp : Nat} {nf : Int32} {σ : zSg} (h : zPd Γ F sp nf σ) (hf : zFr Γ M F u) (hM : (∀ j, j < 30 → 4 ≤ j → 1100 + j ∉ M) ∧ 12600 ∉ M ∧ 13200 ∉ M) : zPd Γ u sp nf σ := by
  refine ⟨h.1.fr hf hM.1, fun i d e => ?_⟩
  rw [h.1.ar hf 6 ⟨by decide, by decide, hM.1 6 (by decide) (by decide), hM.2.1⟩, h.1.ar hf 12 ⟨by decide, by decide, hM.1 12 (by decide) (by decide), hM.2.2⟩]
  exact h.2 i d e
theorem zPd.sl {Γ : Nat → Option Nat} {F : Nat → va_E} {sp : Nat} {nf : Int32} {σ σ1 : zSg} (h : zPd Γ F sp nf σ) (hs : zsl σ σ1) : zPd Γ F sp nf σ1 := ⟨h.1, fun j d' e => by
  obtain ⟨i, d, e1, -, e2, -, e3, e4, -⟩ := hs j d' e
  rw [e2, e3, e4]
  exact h.2 i d e1⟩
theorem zPd.ss {Γ : Nat → Option Nat} {F : Nat → va_E} {sp : Nat} {nf : Int32} {σ σ1 : zSg} (h : zPd Γ F sp nf σ) (hs : zss σ σ1) : zPd Γ F sp nf σ1 := h.sl hs.sl
theorem zPd.sm {Γ : Nat → Option Nat} {F : Nat → va_E} {sp : Nat} {nf : Int32} {σ σ1 : zSg} (h : zPd Γ F sp nf σ) (hs : zsm σ σ1) : zPd Γ F sp nf σ1 := h.ss hs.ss
theorem zPd.z {Γ : Nat → Option Nat} {F : Nat → va_E} {sp : Nat} {nf : Int32} {σ : zSg} (h : zSA Γ F sp) (e : (zar F sp 6 nf.toNatClampNeg).toInt = 0) : zPd Γ F sp nf (zmap (fun _ d => zadd0 d) σ) := ⟨h, fun i d e1 => by
  obtain ⟨d0, e2, rfl⟩ := zmapm e1
  have q : zpc (zadd0 d0) (zfc (zadd0 d0)) = 0 := zup_self _ _ _
  rw [q, e]
  exact ⟨rfl, fun j hj => absurd hj (Nat.not_lt_zero _)⟩⟩
theorem zPd.add {Γ : Nat → Option Nat} {F u : Nat → va_E} {sp : Nat} {nf x y v : Int32} {K : Nat → Int} {σ : zSg} {q : Nat} (h : zPd Γ F sp nf σ) (hA : zSA Γ u sp) (ex : zar F sp 6 nf.toNatClampNeg = x) (h0 : 0 ≤ x.toInt) (e6 : zar u sp 6 = upd (zar F sp 6) nf.toNatClampNeg y) (ey : y.toInt = x.toInt + 1) (e12 : zar u sp 12 = upd (zar F sp 12) q v) (hq : (q : Int) = 3 * (nf.toNatClampNeg : Int) + x.toInt) (hv : ∀ i d, σ = .inl (i, d) → v.toInt = K i - 1) : zPd Γ u sp nf (zadv (zmap (fun i d => zaddp d (K i - 1)) σ)) := ⟨hA, fun j d' e => by
  match σ, h, hv, e with
  | .inr q, _, _, e => cases e
  | .inl (i, d), h, hv, e =>
    have e : (Sum.inl (i + 1, zaddp d (K i - 1)) : zSg) = .inl (j, d') := e
    injection e with e
    injection e with _ e2
    subst e2
    obtain ⟨h1, h2⟩ := h.2 i d rfl
    rw [ex] at h1
    have f1 : zfc (zaddp d (K i - 1)) = zfc d := rfl
    have f2 : zpc (zaddp d (K i - 1)) (zfc d) = zpc d (zfc d) + 1 := zup_self _ _ _
    have f3 : zpl (zaddp d (K i - 1)) (zfc d) = zup (zpl d (zfc d)) (zpc d (zfc d)) (K i - 1) := zup_self _ _ _
    rw [f1, f2, f3, e6, z_upe, e12]
    refine ⟨by omega, fun m hm => ?_⟩
    by_cases c : m = zpc d (zfc d)
    · subst c
      rw [zup_self, show 3 * nf.toNatClampNeg + zpc d (zfc d) = q by omega, z_upe]
      exact hv i d rfl
    · rw [zup_ne _ _ c, z_upn (by omega)]
      exact h2 m (by omega)⟩
/-- the line with which the function that is read begins -/
def zBf (ln : Int32) (σ : zSg) : Prop := ∀ i d, σ = .inl (i, d) → ((zff d (zfc d)).2 : Int) = ln.toInt
theorem zBf.st {ln : Int32} {σ σ1 : zSg} (h : zBf ln σ) (hs : ∀ j d', σ1 = .inl (j, d') → ∃ i d, σ = .inl (i, d) ∧ zfc d' = zfc d ∧ zff d' = zff d) : zBf ln σ1 := fun j d' e => by
  obtain ⟨i, d, e1, e2, e3⟩ := hs j d' e
  rw [e2, e3]
  exact h i d e1
theorem zBf.sN {ln : Int32} {σ σ1 : zSg} (h : zBf ln σ) (hs : zsN σ σ1) : zBf ln σ1 := h.st (fun j d' e => by
  obtain ⟨i, d, e1, -, g2, -, -, -, g7⟩ := hs j d' e
  exact ⟨i, d, e1, g2, g7⟩)
theorem zBf.sP {ln : Int32} {σ σ1 : zSg} (h : zBf ln σ) (hs : zsP σ σ1) : zBf ln σ1 := h.sN hs.sN
theorem zBf.ss {ln : Int32} {σ σ1 : zSg} (h : zBf ln σ) (hs : zss σ σ1) : zBf ln σ1 := h.sN hs.sN
theorem zBf.sm {ln : Int32} {σ σ1 : zSg} (h : zBf ln σ) (hs : zsm σ σ1) : zBf ln σ1 := h.ss hs.ss
theorem zBf.sl {ln : Int32} {σ σ1 : zSg} (h : zBf ln σ) (hs : zsl σ σ1) : zBf ln σ1 := h.st (fun j d' e => by
  obtain ⟨i, d, e1, -, g⟩ := hs j d' e
  exact ⟨i, d, e1, g.1, g.2.2.2.2.1⟩)
theorem zBf.new {ln : Int32} {σ : zSg} (h : ∀ i d, σ = .inl (i, d) → ln.toInt = (zlc d : Int)) : zBf ln (zadv (zmap (fun i d => zaddb d i) σ)) := fun j d' e => by
  obtain ⟨i, d, e1, -, e3⟩ := zadm e
  subst e3
  have e4 : zff (zaddb d i) (zfc (zaddb d i)) = (i, zlc d) := zup_self _ _ _
  rw [e4]
  exact (h i d e1).symm
/-- the functions that stand -/
def zD3 (Γ : Nat → Option Nat) (F : Nat → va_E) (sp : Nat) (T : zTS) (σ : zSg) : Prop := zSA Γ F sp ∧ ∀ i d, σ = .inl (i, d) → ∀ f, f < zfc d → zRN F sp T d f
theorem zRN.of {F : Nat → va_E} {sp : Nat} {T : zTS} {d d' : zDat} {f : Nat} (h : zRN F sp T d f) (ho : zOf d d') (hf : f < zfc d) : zRN F sp T d' f := by
  obtain ⟨e1, e2, e3, e4⟩ := ho f hf
  unfold zRN at h ⊢
  rw [e1, e2, e3, e4]
  exact h
theorem zD3.sB {Γ : Nat → Option Nat} {F : Nat → va_E} {sp : Nat} {T : zTS} {σ σ1 : zSg} (h : zD3 Γ F sp T σ) (hs : zsB σ σ1) : zD3 Γ F sp T σ1 := ⟨h.1, fun j d' e f hf => by
  obtain ⟨i, d, e1, -, e2, -, e4, -⟩ := hs j d' e
  rw [e2] at hf
  exact (h.2 i d e1 f hf).of e4 hf⟩
theorem zD3.sN {Γ : Nat → Option Nat} {F : Nat → va_E} {sp : Nat} {T : zTS} {σ σ1 : zSg} (h : zD3 Γ F sp T σ) (hs : zsN σ σ1) : zD3 Γ F sp T σ1 := h.sB hs.sB
theorem zD3.sP {Γ : Nat → Option Nat} {F : Nat → va_E} {sp : Nat} {T : zTS} {σ σ1 : zSg} (h : zD3 Γ F sp T σ) (hs : zsP σ σ1) : zD3 Γ F sp T σ1 := h.sN hs.sN
theorem zD3.ss {Γ : Nat → Option Nat} {F : Nat → va_E} {sp : Nat} {T : zTS} {σ σ1 : zSg} (h : zD3 Γ F sp T σ) (hs : zss σ σ1) : zD3 Γ F sp T σ1 := h.sN hs.sN
theorem zD3.sm {Γ : Nat → Option Nat} {F : Nat → va_E} {sp : Nat} {T : zTS} {σ σ1 : zSg} (h : zD3 Γ F sp T σ) (hs : zsm σ σ1) : zD3 Γ F sp T σ1 := h.ss hs.ss
theorem zD3.sl {Γ : Nat → Option Nat} {F : Nat → va_E} {sp : Nat} {T : zTS} {σ σ1 : zSg} (h : zD3 Γ F sp T σ) (hs : zsl σ σ1) : zD3 Γ F sp T σ1 := ⟨h.1, fun j d' e f hf => by
  obtain ⟨i, d, e1, -, g⟩ := hs j d' e
  rw [g.1] at hf
  exact (h.2 i d e1 f hf).of g.of hf⟩
theorem zD3.fr {Γ : Nat → Option Nat} {M : List Nat} {F u : Nat → va_E} {sp : Nat} {T : zTS} {σ : zSg} (h : zD3 Γ F sp T σ) (hf : zFr Γ M F u) (hM : (∀ j, j < 30 → 4 ≤ j → 1100 + j ∉ M) ∧ 12400 ∉ M ∧ 12600 ∉ M ∧ 12700 ∉ M ∧ 12800 ∉ M ∧ 12500 ∉ M) : zD3 Γ u sp T σ := by
  refine ⟨h.1.fr hf hM.1, fun i d e f hf' => ?_⟩
  unfold zRN
  rw [h.1.al hf 4 ⟨by decide, by decide, hM.1 4 (by decide) (by decide), hM.2.1⟩, h.1.ar hf 6 ⟨by decide, by decide, hM.1 6 (by decide) (by decide), hM.2.2.1⟩, h.1.ar hf 7 ⟨by decide, by decide, hM.1 7 (by decide) (by decide), hM.2.2.2.1⟩, h.1.ar hf 8 ⟨by decide, by decide, hM.1 8 (by decide) (by decide), hM.2.2.2.2.1⟩, h.1.ar hf 5 ⟨by decide, by decide, hM.1 5 (by decide) (by decide), hM.2.2.2.2.2⟩]
  exact h.2 i d e f hf'
theorem zD3.end {Γ : Nat → Option Nat} {F u : Nat → va_E} {sp : Nat} {T : zTS} {σ : zSg} {nf x7 x8 x5 : Int32} {w : Int64} (h : zD3 Γ F sp T σ) (fk : zFk nf σ) (nd : zNd T w σ) (pd : zPd Γ u sp nf σ) (k6 : zK F u sp 6 nf.toNatClampNeg) (a4 : zal u sp 4 nf.toNatClampNeg = w ∧ ∀ n, n ≠ nf.toNatClampNeg → zal u sp 4 n = zal F sp 4 n) (e7 : zar u sp 7 = upd (zar F sp 7) nf.toNatClampNeg x7) (e8 : zar u sp 8 = upd (zar F sp 8) nf.toNatClampNeg x8) (e5 : zar u sp 5 = upd (zar F sp 5) nf.toNatClampNeg x5) (h5 : x5.toInt = zsz w.toInt) (hv : ∀ i d, σ = .inl (i, d) → x7.toInt = ((zff d (zfc d)).2 : Int) ∧ x8.toInt = (zlc d : Int) - ((zff d (zfc d)).2 : Int)) : zD3 Γ u sp T (zmap (fun i d => zaddf d i) σ) := ⟨pd.1, fun j d' e f hf => by
  obtain ⟨d, e2, rfl⟩ := zmapm e
  have hf : f < zfc d + 1 := hf
  have e3 := fk j d e2
  have e4 : nf.toNatClampNeg = zfc d := by
    have : (nf.toNatClampNeg : Int) = nf.toInt := z_cl (by omega)
    omega
  obtain ⟨v7, v8⟩ := hv j d e2
  show (zal u sp 4 f).toInt = T.2.2 (znm d f) ∧ (zar u sp 6 f).toInt = (zpc d f : Int) ∧ (zar u sp 7 f).toInt = ((zff d f).2 : Int) ∧ (zar u sp 8 f).toInt = ((zup (zfe d) (zfc d) (j, zlc d) f).2 : Int) - ((zff d f).2 : Int) ∧ (zar u sp 5 f).toInt = zsz (T.2.2 (znm d f))
  rw [e4] at e7 e8 e5
  by_cases c : f = zfc d
  · subst c
    have p := (pd.2 j d e2).1
    rw [e4] at p a4
    refine ⟨by rw [a4.1]; exact nd j d e2, p, ?_, ?_, by rw [e5, z_upe, h5, nd j d e2]⟩
    · rw [e7, z_upe]
      exact v7
    · rw [e8, z_upe, zup_self]
      exact v8
  · rw [a4.2 f (by omega), k6 f (by omega), e7, e8, e5, z_upn c, z_upn c, z_upn c, zup_ne _ _ c]
    exact h.2 j d e2 f (by omega)⟩
theorem zsN.ss_ {σ σ' : zSg} (h : zss σ σ') : zsN σ σ' := h.sN
/-- the places of all functions that were read -/
def zD8 (Γ : Nat → Option Nat) (F : Nat → va_E) (sp : Nat) (σ : zSg) : Prop := zSA Γ F sp ∧ ∀ i d, σ = .inl (i, d) → ∀ f, f < zfc d → ∀ j, j < 3 → j < zpc d f → (zar F sp 12 (3 * f + j)).toInt = zpl d f j
theorem zD8.fr {Γ : Nat → Option Nat} {M : List Nat} {F u : Nat → va_E} {sp : Nat} {σ : zSg} (h : zD8 Γ F sp σ) (hf : zFr Γ M F u) (hM : (∀ j, j < 30 → 4 ≤ j → 1100 + j ∉ M) ∧ 13200 ∉ M) : zD8 Γ u sp σ := by
  refine ⟨h.1.fr hf hM.1, fun i d e => ?_⟩
  rw [h.1.ar hf 12 ⟨by decide, by decide, hM.1 12 (by decide) (by decide), hM.2⟩]
  exact h.2 i d e
theorem zD8.end {Γ : Nat → Option Nat} {F u : Nat → va_E} {sp : Nat} {nf : Int32} {σ σ1 : zSg} (h : zD8 Γ F sp σ) (og : ∀ j d9, σ1 = .inl (j, d9) → ∃ i d, σ = .inl (i, d) ∧ zogR d d9) (fk : zFk nf σ) (fk1 : zFk nf σ1) (pd : zPd Γ u sp nf σ1) (k : ∀ g : Nat, g < 3 * nf.toNatClampNeg → zar u sp 12 g = zar F sp 12 g) : zD8 Γ u sp (zmap (fun i d => zaddf d i) σ1) := ⟨pd.1, fun j d' e f hf n hn hp => by
  obtain ⟨d1, e1, e2⟩ := zmapm e
  subst e2
  rw [za_zfc_addf] at hf
  rw [za_zpc_addf] at hp
  rw [za_zpl_addf]
  have g1 := fk1 j d1 e1
  obtain ⟨i, d, e3, e4⟩ := og j d1 e1
  have g0 := fk i d e3
  have e5 : nf.toNatClampNeg = zfc d1 := by
    have : (nf.toNatClampNeg : Int) = nf.toInt := z_cl (by omega)
    omega
  rw [e5] at k
  by_cases c : f = zfc d1
  · subst c
    have h2 := (pd.2 j d1 e1).2 n hp
    rw [e5] at h2
    exact h2
  · have hfd : f < zfc d := by omega
    obtain ⟨a1, a2, -⟩ := e4.2 f hfd
    rw [a2] at hp
    rw [k (3 * f + n) (by omega), a1]
    exact h.2 i d e3 f hfd n hn hp⟩
