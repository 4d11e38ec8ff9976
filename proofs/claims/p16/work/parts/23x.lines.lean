/-! The reference's lines, beside the steps: how many. -/
/-- a line as it was read -/
def zM4 (F : Nat → va_E) (sp l : Nat) (q : Int × Nat × Nat × Nat) (T : zTS) : Prop := (zar F sp 13 l).toInt = q.1 ∧ (zar F sp 14 l).toInt = (q.2.1 : Int) ∧ (zar F sp 15 l).toInt = T.2.1 q.2.2.1 ∧ (zar F sp 16 l).toInt = (q.2.2.2 : Int)
def zD4 (Γ : Nat → Option Nat) (F : Nat → va_E) (sp : Nat) (T : zTS) (σ : zSg) : Prop := zSA Γ F sp ∧ ∀ i d, σ = .inl (i, d) → (∃ x : Int32, zfld F sp 1 = .int x ∧ x.toInt = (zlc d : Int)) ∧ zlc d ≤ 60 ∧ ∀ l, l < zlc d → zM4 F sp l (zln d l) T
theorem zM4.cg {F u : Nat → va_E} {sp l : Nat} {q : Int × Nat × Nat × Nat} {T : zTS} (h : zM4 F sp l q T) (e0 : zar u sp 13 = zar F sp 13) (e1 : zar u sp 14 = zar F sp 14) (e2 : zar u sp 15 = zar F sp 15) (e3 : zar u sp 16 = zar F sp 16) : zM4 u sp l q T := by
  unfold zM4
  rw [e0, e1, e2, e3]
  exact h
theorem zD4.fr {Γ : Nat → Option Nat} {M : List Nat} {F u : Nat → va_E} {sp : Nat} {T : zTS} {σ : zSg} (h : zD4 Γ F sp T σ) (hf : zFr Γ M F u) (hp : Γ sp = some 11) (hM : (∀ j, j < 30 → 4 ≤ j → 1100 + j ∉ M) ∧ 1101 ∉ M ∧ 13300 ∉ M ∧ 13400 ∉ M ∧ 13500 ∉ M ∧ 13600 ∉ M) : zD4 Γ u sp T σ := by
  obtain ⟨m, m1, n0, n1, n2, n3⟩ := hM
  refine ⟨h.1.fr hf m, fun i d e => ?_⟩
  obtain ⟨⟨x, h1, h2⟩, h3, h4⟩ := h.2 i d e
  exact ⟨⟨x, hf.f hp 1 ⟨by decide, m1⟩ h1, h2⟩, h3, fun l hl => (h4 l hl).cg (h.1.ar hf 13 ⟨by decide, by decide, m 13 (by decide) (by decide), n0⟩) (h.1.ar hf 14 ⟨by decide, by decide, m 14 (by decide) (by decide), n1⟩) (h.1.ar hf 15 ⟨by decide, by decide, m 15 (by decide) (by decide), n2⟩) (h.1.ar hf 16 ⟨by decide, by decide, m 16 (by decide) (by decide), n3⟩)⟩
theorem zD4.st {Γ : Nat → Option Nat} {F : Nat → va_E} {sp : Nat} {T : zTS} {σ σ1 : zSg} (h : zD4 Γ F sp T σ) (hs : ∀ j d', σ1 = .inl (j, d') → ∃ i d, σ = .inl (i, d) ∧ zlc d' = zlc d ∧ zln d' = zln d) : zD4 Γ F sp T σ1 := by
  refine ⟨h.1, fun j d' e => ?_⟩
  obtain ⟨i, d, e1, g1, g2⟩ := hs j d' e
  rw [g1, g2]
  exact h.2 i d e1
theorem zD4.ss {Γ : Nat → Option Nat} {F : Nat → va_E} {sp : Nat} {T : zTS} {σ σ1 : zSg} (h : zD4 Γ F sp T σ) (hs : zss σ σ1) : zD4 Γ F sp T σ1 := h.st (fun j d' e => by
  obtain ⟨i, d, e1, -, e2⟩ := hs j d' e
  exact ⟨i, d, e1, e2.2.2.2.2.2.1, e2.2.2.2.2.2.2.1⟩)
theorem zD4.sm {Γ : Nat → Option Nat} {F : Nat → va_E} {sp : Nat} {T : zTS} {σ σ1 : zSg} (h : zD4 Γ F sp T σ) (hs : zsm σ σ1) : zD4 Γ F sp T σ1 := h.ss hs.ss
theorem zD4.k {Γ : Nat → Option Nat} {F : Nat → va_E} {sp : Nat} {T : zTS} {σ : zSg} {x : Int32} (h : zD4 Γ F sp T σ) (k : zfld F sp 1 = .int x) : ∀ i d, σ = .inl (i, d) → x.toInt = (zlc d : Int) := fun i d e => by
  obtain ⟨⟨y, h1, h2⟩, -⟩ := h.2 i d e
  cases z_vi k h1
  exact h2
theorem zD4.add {Γ : Nat → Option Nat} {F u : Nat → va_E} {sp a n b : Nat} {T : zTS} {σ : zSg} {k : Int} {x y v0 v1 v2 v3 : Int32} (h : zD4 Γ F sp T σ) (kx : zfld F sp 1 = .int x) (hsa : zSA Γ u sp) (ky : zfld u sp 1 = .int y) (e : y.toInt = x.toInt + 1) (h0 : 0 ≤ x.toInt ∧ x.toInt < 60) (e0 : zar u sp 13 = upd (zar F sp 13) n v0) (e1 : zar u sp 14 = upd (zar F sp 14) n v1) (e2 : zar u sp 15 = upd (zar F sp 15) n v2) (e3 : zar u sp 16 = upd (zar F sp 16) n v3) (hn : (n : Int) = x.toInt) (hb : ∀ i d, σ = .inl (i, d) → v0.toInt = k ∧ v1.toInt = (zfc d : Int) ∧ v2.toInt = T.2.1 i ∧ v3.toInt = (a : Int)) : zD4 Γ u sp T (zadv (zmap (fun i d => zaddl d k i a b) σ)) := by
  refine ⟨hsa, fun j d' h9 => ?_⟩
  obtain ⟨i, d, q1, q2, q3⟩ := zadm h9
  have hk := h.k kx i d q1
  obtain ⟨-, g3, g4⟩ := h.2 i d q1
  have ec : zlc d' = zlc d + 1 := by
    rw [q3]
    rfl
  have en : zln d' = zup (zln d) (zlc d) (k, zfc d, i, a) := by
    rw [q3]
    rfl
  refine ⟨⟨y, ky, by rw [ec]; omega⟩, by omega, fun l hl => ?_⟩
  unfold zM4
  rw [en, e0, e1, e2, e3]
  unfold upd
  by_cases c : l = zlc d
  · have c2 : l = n := by omega
    rw [if_pos c2, if_pos c2, if_pos c2, if_pos c2, c, zup_self]
    exact hb i d q1
  · have c2 : ¬ l = n := by omega
    rw [if_neg c2, if_neg c2, if_neg c2, if_neg c2, zup_ne _ _ c]
    exact g4 l (by omega)
theorem zD1.pl {F : Nat → va_E} {th n : Nat} {B : Nat → Int32} {σ : zSg} {x : Int32} (h : zD1 F th B n σ) (k : zfld F th 15 = .int x) : ∀ i d, σ = .inl (i, d) → x.toInt = zpo B n i := fun i d e => by
  obtain ⟨i', d', e', ⟨a, so, pl, mk, le, wd, -, -, k3, -, -, -, -, g, -⟩, -⟩ := h
  rw [e] at e'
  injection e' with e'
  injection e' with e1 e2
  subst e1
  cases z_vi k k3
  exact g
/-- the calls, by their lines -/
def zK5 (F : Nat → va_E) (sp q : Nat) (e : Nat × Nat × Nat) (T : zTS) : Prop := (zal F sp 28 q).toInt = T.2.2 e.1 ∧ (zar F sp 26 q).toInt = (e.2.1 : Int)
def zIn (F : Nat → va_E) (sp l q : Nat) : Prop := (zar F sp 22 l).toInt ≤ (q : Int) ∧ (q : Int) < (zar F sp 23 l).toInt
def zD5 (Γ : Nat → Option Nat) (F : Nat → va_E) (sp : Nat) (T : zTS) (σ : zSg) : Prop := zSA Γ F sp ∧ ∀ i d, σ = .inl (i, d) → (∃ it : Int32, zfld F sp 2 = .int it ∧ 0 ≤ it.toInt ∧ ∀ l, l < zlc d → (zar F sp 23 l).toInt ≤ it.toInt) ∧ (∀ e ∈ zcs d, ∃ l q : Nat, l < zlc d ∧ zIn F sp l q ∧ zar F sp 24 q = 5 ∧ zK5 F sp q e T ∧ (zln d l).2.1 = e.2.2) ∧ ∀ l q : Nat, l < zlc d → zIn F sp l q → zar F sp 24 q = 5 → ∃ e ∈ zcs d, zK5 F sp q e T ∧ (zln d l).2.1 = e.2.2
def zM5 (M : List Nat) : Prop := (∀ j, j < 30 → 4 ≤ j → 1100 + j ∉ M) ∧ 1102 ∉ M ∧ 14200 ∉ M ∧ 14300 ∉ M ∧ 14400 ∉ M ∧ 14600 ∉ M ∧ 14800 ∉ M
theorem zD5.fr {Γ : Nat → Option Nat} {M : List Nat} {F u : Nat → va_E} {sp : Nat} {T : zTS} {σ : zSg} (h : zD5 Γ F sp T σ) (hf : zFr Γ M F u) (hp : Γ sp = some 11) (hM : (∀ j, j < 30 → 4 ≤ j → 1100 + j ∉ M) ∧ 1102 ∉ M ∧ 14200 ∉ M ∧ 14300 ∉ M ∧ 14400 ∉ M ∧ 14600 ∉ M ∧ 14800 ∉ M) : zD5 Γ u sp T σ := by
  obtain ⟨m, m2, n2, n3, n4, n6, n8⟩ := hM
  have e2 := h.1.ar hf 22 ⟨by decide, by decide, m 22 (by decide) (by decide), n2⟩
  have e3 := h.1.ar hf 23 ⟨by decide, by decide, m 23 (by decide) (by decide), n3⟩
  have e4 := h.1.ar hf 24 ⟨by decide, by decide, m 24 (by decide) (by decide), n4⟩
  have e6 := h.1.ar hf 26 ⟨by decide, by decide, m 26 (by decide) (by decide), n6⟩
  have e8 := h.1.al hf 28 ⟨by decide, by decide, m 28 (by decide) (by decide), n8⟩
  refine ⟨h.1.fr hf m, fun i d e => ?_⟩
  obtain ⟨⟨it, h1, h2, h3⟩, h4, h5⟩ := h.2 i d e
  unfold zIn zK5 at h4 h5 ⊢
  rw [e2, e3, e4, e6, e8]
  exact ⟨⟨it, hf.f hp 2 ⟨by decide, m2⟩ h1, h2, h3⟩, h4, h5⟩
theorem zD5.st {Γ : Nat → Option Nat} {F : Nat → va_E} {sp : Nat} {T : zTS} {σ σ1 : zSg} (h : zD5 Γ F sp T σ) (hs : ∀ j d', σ1 = .inl (j, d') → ∃ i d, σ = .inl (i, d) ∧ zcs d' = zcs d ∧ zlc d' = zlc d ∧ zln d' = zln d) : zD5 Γ F sp T σ1 := ⟨h.1, fun j d' e => by
  obtain ⟨i, d, e1, g0, g1, g2⟩ := hs j d' e
  rw [g0, g1, g2]
  exact h.2 i d e1⟩
theorem zD5.sm {Γ : Nat → Option Nat} {F : Nat → va_E} {sp : Nat} {T : zTS} {σ σ1 : zSg} (h : zD5 Γ F sp T σ) (hs : zsm σ σ1) : zD5 Γ F sp T σ1 := h.st (fun j d' e => by
  obtain ⟨i, e1, -⟩ := hs j d' e
  exact ⟨i, d', e1, rfl, rfl, rfl⟩)
theorem zD5.mp {Γ : Nat → Option Nat} {F : Nat → va_E} {sp : Nat} {T : zTS} {σ : zSg} {f : Nat → zDat → zDat} (h : zD5 Γ F sp T σ) (hf : ∀ i d, zcs (f i d) = zcs d ∧ zlc (f i d) = zlc d ∧ zln (f i d) = zln d) : zD5 Γ F sp T (zmap f σ) := h.st (fun j d' e => by
  obtain ⟨d, e1, e2⟩ := zmapm e
  subst e2
  exact ⟨j, d, e1, hf j d⟩)
/-- no item since, no line -/
theorem zD5.hd {Γ : Nat → Option Nat} {M : List Nat} {F u : Nat → va_E} {sp : Nat} {T : zTS} {σ σ1 : zSg} {it : Int32} (h : zD5 Γ F sp T σ) (cc : zMc Γ F u sp T σ σ1) (k : zfld F sp 2 = .int it) (k' : zfld u sp 2 = .int it) (hs : zsB σ σ1) (hf : zFr Γ M F u) (hp : Γ sp = some 11) (hM : (∀ j, j < 30 → 4 ≤ j → 1100 + j ∉ M) ∧ 1102 ∉ M ∧ 14200 ∉ M ∧ 14300 ∉ M ∧ 14400 ∉ M ∧ 14600 ∉ M ∧ 14800 ∉ M) : zD5 Γ u sp T σ1 := by
  refine (h.fr hf hp hM).st (fun j d' e => ?_)
  obtain ⟨i, d, e1, -, -, g1, -, g2⟩ := hs j d' e
  obtain ⟨i0, i1, k1, k2, -, -, -, k6⟩ := cc
  cases z_vi k k1
  cases z_vi k' k2
  obtain ⟨i', d0, new, f1, f2, f3, -⟩ := k6 j d' e
  cases e1.symm.trans f1
  refine ⟨i, d, e1, ?_, g1, g2⟩
  match new, f2, f3 with
  | [], f2, _ => exact f2.trans (List.append_nil _)
  | e :: t, _, f3 =>
    obtain ⟨q, a1, a2, -⟩ := f3 e List.mem_cons_self
    omega
/-- a line more: its calls -/
def zsL (σ σ1 : zSg) : Prop := ∀ j d', σ1 = .inl (j, d') → ∃ i d, σ = .inl (i, d) ∧ zlc d' = zlc d + 1 ∧ (∀ l, l < zlc d → zln d' l = zln d l) ∧ (zln d' (zlc d)).2.1 = zfc d
theorem zsL.ss {σ σ1 σ2 : zSg} (h : zsL σ σ1) (hs : zss σ1 σ2) : zsL σ σ2 := fun j d' e => by
  obtain ⟨i, d, e1, -, e2⟩ := hs j d' e
  obtain ⟨i0, d0, f1, f2, f3, f4⟩ := h i d e1
  rw [e2.2.2.2.2.2.1, e2.2.2.2.2.2.2.1]
  exact ⟨i0, d0, f1, f2, f3, f4⟩
theorem zsL.sm {σ σ1 σ2 : zSg} (h : zsL σ σ1) (hs : zsm σ1 σ2) : zsL σ σ2 := h.ss hs.ss
theorem zsL.new {σ : zSg} {k : Int} {a b : Nat} : zsL σ (zadv (zmap (fun i d => zaddl d k i a b) σ)) := fun j d' e => by
  obtain ⟨i, d, e1, -, e3⟩ := zadm e
  subst e3
  have ec : zlc (zaddl d k i a b) = zlc d + 1 := rfl
  have en : zln (zaddl d k i a b) = zup (zln d) (zlc d) (k, zfc d, i, a) := rfl
  rw [ec, en]
  exact ⟨i, d, e1, rfl, fun l hl => zup_ne _ _ (by omega), by rw [zup_self]⟩
theorem zD5.line {Γ : Nat → Option Nat} {F u : Nat → va_E} {sp n : Nat} {T : zTS} {σ σ1 : zSg} {it i9 ln : Int32} (h : zD5 Γ F sp T σ) (cc : zMc Γ F u sp T σ σ1) (sl : zsl σ σ1) (hL : zsL σ σ1) (k : zfld F sp 2 = .int it) (k' : zfld u sp 2 = .int i9) (hn : (n : Int) = ln.toInt) (h4 : ∀ i d, σ = .inl (i, d) → ln.toInt = (zlc d : Int)) (e2 : zar u sp 22 = upd (zar F sp 22) n it) (e3 : zar u sp 23 = upd (zar F sp 23) n i9) : zD5 Γ u sp T σ1 := by
  obtain ⟨it0, it1, k1, k2, k3, k4, k5, k6⟩ := cc
  cases z_vi k k1
  cases z_vi k' k2
  refine ⟨k4, fun j d' e => ?_⟩
  obtain ⟨i, d, f1, f2, f3, f4⟩ := hL j d' e
  obtain ⟨i', d0, new, g1, g2, g3, g4⟩ := k6 j d' e
  cases f1.symm.trans g1
  obtain ⟨i', d0, r1, -, r2⟩ := sl j d' e
  cases f1.symm.trans r1
  obtain ⟨-, -, -, -, -, -, new', s1, s2⟩ := r2
  have en : new' = new := List.append_cancel_left (s1.symm.trans g2)
  subst en
  obtain ⟨⟨it0, h1, h2, h3⟩, h5, h6⟩ := h.2 i d f1
  cases z_vi k h1
  have hc : n = zlc d := by
    have := h4 i d f1
    omega
  have v2 : zar u sp 22 n = it := by
    rw [e2]
    exact if_pos rfl
  have v3 : zar u sp 23 n = i9 := by
    rw [e3]
    exact if_pos rfl
  have w2 : ∀ l, l < zlc d → zar u sp 22 l = zar F sp 22 l := fun l hl => by
    rw [e2]
    exact if_neg (by omega)
  have w3 : ∀ l, l < zlc d → zar u sp 23 l = zar F sp 23 l := fun l hl => by
    rw [e3]
    exact if_neg (by omega)
  have old : ∀ l q : Nat, l < zlc d → zIn F sp l q → zar u sp 24 q = zar F sp 24 q ∧ zar u sp 26 q = zar F sp 26 q ∧ zal u sp 28 q = zal F sp 28 q := fun l q hl hq => k5 q (by have := h3 l hl; have := hq.2; omega)
  refine ⟨⟨i9, k', by omega, fun l hl => ?_⟩, fun e9 h9 => ?_, fun l q hl hq h5' => ?_⟩
  · by_cases c : l = zlc d
    · rw [c, ← hc, v3]
      exact Int.le_refl _
    · rw [w3 l (by omega)]
      have := h3 l (by omega)
      omega
  · rw [g2] at h9
    rcases List.mem_append.mp h9 with h9 | h9
    · obtain ⟨l, q, a1, a2, a3, a4, a5⟩ := h5 e9 h9
      obtain ⟨b1, b2, b3⟩ := old l q a1 a2
      refine ⟨l, q, by omega, ?_, b1.trans a3, ?_, by rw [f3 l a1]; exact a5⟩
      · unfold zIn
        rw [w2 l a1, w3 l a1]
        exact a2
      · unfold zK5
        rw [b2, b3]
        exact a4
    · obtain ⟨q, a1, a2, a3, a4, a5⟩ := g3 e9 h9
      refine ⟨zlc d, q, by omega, ?_, a3, ⟨a4, a5⟩, by rw [f4]; exact (s2 e9 h9).symm⟩
      unfold zIn
      rw [← hc, v2, v3]
      exact ⟨a1, a2⟩
  · by_cases c : l = zlc d
    · subst c
      unfold zIn at hq
      rw [← hc, v2, v3] at hq
      obtain ⟨e9, a1, a2, a3⟩ := g4 q hq.1 hq.2 h5'
      exact ⟨e9, by rw [g2]; exact List.mem_append_right _ a1, ⟨a2, a3⟩, by rw [f4]; exact (s2 e9 a1).symm⟩
    · have hl' : l < zlc d := by omega
      have hq' : zIn F sp l q := by
        unfold zIn at hq ⊢
        rw [w2 l hl', w3 l hl'] at hq
        exact hq
      obtain ⟨b1, b2, b3⟩ := old l q hl' hq'
      obtain ⟨e9, a1, a2, a3⟩ := h6 l q hl' hq' (b1.symm.trans h5')
      refine ⟨e9, by rw [g2]; exact List.mem_append_left _ a1, ?_, by rw [f3 l hl']; exact a3⟩
      unfold zK5
      rw [b2, b3]
      exact a2
/-- what the reference's Program holds of what was read -/
def zRN (F : Nat → va_E) (sp : Nat) (T : zTS) (d : zDat) (f : Nat) : Prop := (zal F sp 4 f).toInt = T.2.2 (znm d f) ∧ (zar F sp 6 f).toInt = (zpc d f : Int) ∧ (zar F sp 7 f).toInt = ((zff d f).2 : Int) ∧ (zar F sp 8 f).toInt = ((zfe d f).2 : Int) - ((zff d f).2 : Int) ∧ (zar F sp 5 f).toInt = zsz (T.2.2 (znm d f))
def zRM (F : Nat → va_E) (sp : Nat) (T : zTS) (d : zDat) : Prop := (∃ x : Int32, zfld F sp 0 = .int x ∧ x.toInt = (zfc d : Int)) ∧ (∃ x : Int32, zfld F sp 1 = .int x ∧ x.toInt = (zlc d : Int)) ∧ zlc d ≤ 60 ∧ (∀ l, l < zlc d → zM4 F sp l (zln d l) T) ∧ ∀ f, f < zfc d → zRN F sp T d f
theorem zRM.fcE {F : Nat → va_E} {sp : Nat} {T : zTS} {d : zDat} {x : Int32} (h : zRM F sp T d) (k : zfld F sp 0 = .int x) : x.toInt = (zfc d : Int) := by
  obtain ⟨⟨y, h1, h2⟩, -⟩ := h
  cases z_vi k h1
  exact h2
theorem zRM.lcE {F : Nat → va_E} {sp : Nat} {T : zTS} {d : zDat} {x : Int32} (h : zRM F sp T d) (k : zfld F sp 1 = .int x) : x.toInt = (zlc d : Int) := by
  obtain ⟨-, ⟨y, h1, h2⟩, -⟩ := h
  cases z_vi k h1
  exact h2
def zMR (M : List Nat) : Prop := (∀ j, j < 30 → 4 ≤ j → 1100 + j ∉ M) ∧ (1100 ∉ M ∧ 1101 ∉ M) ∧ (13300 ∉ M ∧ 13400 ∉ M ∧ 13500 ∉ M ∧ 13600 ∉ M) ∧ 12400 ∉ M ∧ 12600 ∉ M ∧ 12700 ∉ M ∧ 12800 ∉ M ∧ 12500 ∉ M
theorem zRM.fr {Γ : Nat → Option Nat} {M : List Nat} {F u : Nat → va_E} {sp : Nat} {T : zTS} {d : zDat} (h : zRM F sp T d) (hsa : zSA Γ F sp) (hf : zFr Γ M F u) (hp : Γ sp = some 11) (hM : zMR M) : zRM u sp T d := by
  obtain ⟨m, ⟨m0, m1⟩, ⟨n0, n1, n2, n3⟩, q4, q6, q7, q8, q5⟩ := hM
  obtain ⟨⟨x, h1, h2⟩, ⟨y, h3, h4⟩, h5, h6, h7⟩ := h
  refine ⟨⟨x, hf.f hp 0 ⟨by decide, m0⟩ h1, h2⟩, ⟨y, hf.f hp 1 ⟨by decide, m1⟩ h3, h4⟩, h5, fun l hl => (h6 l hl).cg (hsa.ar hf 13 ⟨by decide, by decide, m 13 (by decide) (by decide), n0⟩) (hsa.ar hf 14 ⟨by decide, by decide, m 14 (by decide) (by decide), n1⟩) (hsa.ar hf 15 ⟨by decide, by decide, m 15 (by decide) (by decide), n2⟩) (hsa.ar hf 16 ⟨by decide, by decide, m 16 (by decide) (by decide), n3⟩), fun f hf9 => ?_⟩
  unfold zRN
  rw [hsa.al hf 4 ⟨by decide, by decide, m 4 (by decide) (by decide), q4⟩, hsa.ar hf 6 ⟨by decide, by decide, m 6 (by decide) (by decide), q6⟩, hsa.ar hf 7 ⟨by decide, by decide, m 7 (by decide) (by decide), q7⟩, hsa.ar hf 8 ⟨by decide, by decide, m 8 (by decide) (by decide), q8⟩, hsa.ar hf 5 ⟨by decide, by decide, m 5 (by decide) (by decide), q5⟩]
  exact h7 f hf9
/-- the calls, found -/
def zRI (F : Nat → va_E) (sp : Nat) (T : zTS) (d : zDat) : Prop := (∀ e ∈ zcs d, ∃ l q : Nat, l < zlc d ∧ zIn F sp l q ∧ zar F sp 24 q = 5 ∧ (zar F sp 25 q).toInt = zfi (zfind T.2.2 (znm d) (T.2.2 e.1) (zfc d)) ∧ (zln d l).2.1 = e.2.2) ∧ ∀ l q : Nat, l < zlc d → zIn F sp l q → zar F sp 24 q = 5 → ∃ e ∈ zcs d, (zar F sp 25 q).toInt = zfi (zfind T.2.2 (znm d) (T.2.2 e.1) (zfc d)) ∧ (zln d l).2.1 = e.2.2
theorem zD5.ri {Γ : Nat → Option Nat} {F : Nat → va_E} {sp i : Nat} {T : zTS} {d : zDat} {it : Int32} (h : zD5 Γ F sp T (.inl (i, d))) (k : zfld F sp 2 = .int it) (hv : ∀ q : Nat, (q : Int) < it.toInt → zar F sp 24 q = 5 → (zar F sp 25 q).toInt = zfi (zfind T.2.2 (znm d) (zal F sp 28 q).toInt (zfc d))) : zRI F sp T d := by
  obtain ⟨⟨i0, h1, h2, h3⟩, h4, h5⟩ := h.2 i d rfl
  cases z_vi k h1
  refine ⟨fun e he => ?_, fun l q hl hq h9 => ?_⟩
  · obtain ⟨l, q, a1, a2, a3, a4, a5⟩ := h4 e he
    have := hv q (by have := h3 l a1; have := a2.2; omega) a3
    rw [a4.1] at this
    exact ⟨l, q, a1, a2, a3, this, a5⟩
  · obtain ⟨e, a1, a2, a3⟩ := h5 l q hl hq h9
    have := hv q (by have := h3 l hl; have := hq.2; omega) h9
    rw [a2.1] at this
    exact ⟨e, a1, this, a3⟩
theorem zRI.fr {Γ : Nat → Option Nat} {M : List Nat} {F u : Nat → va_E} {sp : Nat} {T : zTS} {d : zDat} (h : zRI F sp T d) (hsa : zSA Γ F sp) (hf : zFr Γ M F u) (hM : (∀ j, j < 30 → 4 ≤ j → 1100 + j ∉ M) ∧ 14200 ∉ M ∧ 14300 ∉ M ∧ 14400 ∉ M ∧ 14500 ∉ M) : zRI u sp T d := by
  obtain ⟨m, n2, n3, n4, n5⟩ := hM
  unfold zRI zIn at h ⊢
  rw [hsa.ar hf 22 ⟨by decide, by decide, m 22 (by decide) (by decide), n2⟩, hsa.ar hf 23 ⟨by decide, by decide, m 23 (by decide) (by decide), n3⟩, hsa.ar hf 24 ⟨by decide, by decide, m 24 (by decide) (by decide), n4⟩, hsa.ar hf 25 ⟨by decide, by decide, m 25 (by decide) (by decide), n5⟩]
  exact h
theorem zRI.v {F : Nat → va_E} {sp : Nat} {T : zTS} {d : zDat} (h : zRI F sp T d) (hg : ∀ e ∈ zcs d, zgood T d e) (h10 : zfc d ≤ 10) : ∀ l q : Nat, l < zlc d → zIn F sp l q → zar F sp 24 q = 5 → 0 ≤ (zar F sp 25 q).toInt ∧ (zar F sp 25 q).toInt < 10 := fun l q h1 h2 h3 => by
  obtain ⟨e, a1, a2, -⟩ := h.2 l q h1 h2 h3
  obtain ⟨f, b1, -⟩ := hg e a1
  rw [b1] at a2
  have a2 : (zar F sp 25 q).toInt = (f : Int) := a2
  have := (zfind_lt b1).1
  omega
/-- the lines' calls so far, of one function -/
def zTq (F : Nat → va_E) (sp : Nat) (l : Int) (f g : Nat) : Prop := ∃ l' q : Nat, (l' : Int) < l ∧ zIn F sp l' q ∧ zar F sp 24 q = 5 ∧ (zar F sp 25 q).toInt = (g : Int) ∧ (zar F sp 14 l').toInt = (f : Int)
/-- .. and of the line that is read on -/
def zTr (F : Nat → va_E) (sp l : Nat) (k : Int) (f g : Nat) : Prop := zTq F sp (l : Int) f g ∨ ∃ q : Nat, (zar F sp 22 l).toInt ≤ (q : Int) ∧ (q : Int) < k ∧ zar F sp 24 q = 5 ∧ (zar F sp 25 q).toInt = (g : Int) ∧ (zar F sp 14 l).toInt = (f : Int)
theorem zTq.z {F : Nat → va_E} {sp f g : Nat} : ¬ zTq F sp 0 f g := fun ⟨l, _, h, _⟩ => by omega
theorem zTr.st {F : Nat → va_E} {sp l f g : Nat} {k : Int} (hk : k = (zar F sp 22 l).toInt) : zTr F sp l k f g ↔ zTq F sp (l : Int) f g := ⟨fun h => h.elim id (fun ⟨q, h1, h2, _⟩ => by omega), Or.inl⟩
theorem zTr.en {F : Nat → va_E} {sp l f g : Nat} {k j : Int} (hk : (zar F sp 23 l).toInt ≤ k ∧ (k ≤ (zar F sp 23 l).toInt ∨ k ≤ (zar F sp 22 l).toInt)) (hj : j = (l : Int) + 1) : zTq F sp j f g ↔ zTr F sp l k f g := by
  constructor
  · rintro ⟨l', q, h1, h2, h3, h4, h5⟩
    by_cases c : l' = l
    · subst c
      exact Or.inr ⟨q, h2.1, by have := h2.2; omega, h3, h4, h5⟩
    · exact Or.inl ⟨l', q, by omega, h2, h3, h4, h5⟩
  · rintro (⟨l', q, h1, h2⟩ | ⟨q, h1, h2, h3⟩)
    · exact ⟨l', q, by omega, h2⟩
    · exact ⟨l, q, by omega, ⟨h1, by omega⟩, h3⟩
theorem zTr.n {F : Nat → va_E} {sp l n f g : Nat} {k j : Int} (hn : (n : Int) = k) (hj : j = k + 1) (h : zar F sp 24 n ≠ 5 ∨ (zar F sp 14 l).toInt ≠ (f : Int)) : zTr F sp l j f g ↔ zTr F sp l k f g := by
  constructor
  · rintro (h1 | ⟨q, h1, h2, h3, h4, h5⟩)
    · exact Or.inl h1
    · by_cases c : q = n
      · subst c
        exact absurd h3 (h.elim id (fun h6 => absurd h5 h6))
      · exact Or.inr ⟨q, h1, by omega, h3, h4, h5⟩
  · rintro (h1 | ⟨q, h1, h2, h3⟩)
    · exact Or.inl h1
    · exact Or.inr ⟨q, h1, by omega, h3⟩
theorem zTr.s {F : Nat → va_E} {sp l n f g : Nat} {k j : Int} (hn : (n : Int) = k) (hj : j = k + 1) (h0 : (zar F sp 22 l).toInt ≤ k) (h5 : zar F sp 24 n = 5) (hf : (zar F sp 14 l).toInt = (f : Int)) (hv : 0 ≤ (zar F sp 25 n).toInt) : zTr F sp l j f g ↔ zTr F sp l k f g ∨ g = (zar F sp 25 n).toInt.toNat := by
  constructor
  · rintro (h1 | ⟨q, h1, h2, h3, h4, h5⟩)
    · exact Or.inl (Or.inl h1)
    · by_cases c : q = n
      · subst c
        exact Or.inr (by omega)
      · exact Or.inl (Or.inr ⟨q, h1, by omega, h3, h4, h5⟩)
  · rintro ((h1 | ⟨q, h1, h2, h3⟩) | h9)
    · exact Or.inl h1
    · exact Or.inr ⟨q, h1, by omega, h3⟩
    · exact Or.inr ⟨n, by omega, by omega, h5, by omega, hf⟩
theorem zTq.cb {F : Nat → va_E} {sp f g : Nat} {T : zTS} {d : zDat} {l : Int} (h : zRI F sp T d) (hM : zRM F sp T d) (hl : l = (zlc d : Int)) : zcb T d f g ↔ zTq F sp l f g := by
  obtain ⟨h1, h2⟩ := h
  constructor
  · rintro ⟨e, a1, a2, a3⟩
    obtain ⟨l', q, b1, b2, b3, b4, b5⟩ := h1 e a1
    rw [a3] at b4
    have b4 : (zar F sp 25 q).toInt = (g : Int) := b4
    have b6 := (hM.2.2.2.1 l' b1).2.1
    exact ⟨l', q, by omega, b2, b3, b4, by rw [b6, b5, a2]⟩
  · rintro ⟨l', q, b1, b2, b3, b4, b5⟩
    obtain ⟨e, a1, a2, a3⟩ := h2 l' q (by omega) b2 b3
    have b6 := (hM.2.2.2.1 l' (by omega)).2.1
    refine ⟨e, a1, by rw [← a3]; omega, ?_⟩
    rw [b4] at a2
    match hz : zfind T.2.2 (znm d) (T.2.2 e.1) (zfc d), a2 with
    | some g', a2 =>
      have a2 : (g : Int) = (g' : Int) := a2
      rw [show g = g' by omega]
    | none, a2 =>
      have a2 : (g : Int) = -1 := a2
      omega
theorem zlk_no {k : Int} (h3 : k ≠ 3) (h6 : k ≠ 6) (h7 : k ≠ 7) (h8 : k ≠ 8) (h10 : k ≠ 10) : zlk k = -1 := by
  unfold zlk
  rw [if_neg h3, if_neg h6, if_neg h7, if_neg h8, if_neg h10]
/-- a line more: its row -/
def zsR (b : Nat) (P : Int → Prop) (σ σ1 : zSg) : Prop := ∀ j d1, σ1 = .inl (j, d1) → ∃ i d, σ = .inl (i, d) ∧ zlc d1 = zlc d + 1 ∧ zrw d1 = zup (zrw d) (zlc d) (zac d, zic d, 0, 0, b, 0, 0) ∧ (∀ l, l < zlc d → zln d1 l = zln d l) ∧ P (zln d1 (zlc d)).1 ∧ (zln d1 (zlc d)).2.2.1 = i
theorem zsR.new {σ : zSg} {k : Int} {a b : Nat} {P : Int → Prop} (hP : P k) : zsR b P σ (zadv (zmap (fun i d => zaddl d k i a b) σ)) := fun j d' e => by
  obtain ⟨i, d, e1, -, e3⟩ := zadm e
  subst e3
  rw [za_zlc_addl, za_zln_addl, za_zrw_addl]
  exact ⟨i, d, e1, rfl, rfl, fun l hl => zup_ne _ _ (by omega), by rw [zup_self]; exact hP, by rw [zup_self]⟩
theorem zsR.sm {b : Nat} {P : Int → Prop} {σ σ1 σ2 : zSg} (h : zsR b P σ σ1) (hs : zsm σ1 σ2) : zsR b P σ σ2 := fun j d' e => by
  obtain ⟨i, e1, -⟩ := hs j d' e
  exact h i d' e1
theorem zsR.map {b : Nat} {P : Int → Prop} {σ σ1 : zSg} {f : Nat → zDat → zDat} (h : zsR b P σ σ1) (hf : ∀ i d, zlc (f i d) = zlc d ∧ zrw (f i d) = zrw d ∧ zln (f i d) = zln d) : zsR b P σ (zmap f σ1) := fun j d' e => by
  obtain ⟨d, e1, e2⟩ := zmapm e
  subst e2
  obtain ⟨g1, g2, g3⟩ := hf j d
  rw [g1, g2, g3]
  exact h j d e1
theorem zsR.su {b : Nat} {P : Int → Prop} {σ σ1 σ2 : zSg} (h : zsR b P σ σ1) (hs : zss σ1 σ2) (hu : ∀ j d9, σ2 = .inl (j, d9) → ∃ i d, σ1 = .inl (i, d) ∧ zsuR d d9) : zsR b P σ σ2 := fun j d' e => by
  obtain ⟨i, d, e1, -, e2⟩ := hs j d' e
  obtain ⟨i', d0, f1, f2, f3⟩ := hu j d' e
  cases e1.symm.trans f1
  rw [f2, f3, e2.2.2.2.2.2.2.1]
  exact h i d e1
theorem zRc.zs13 {T : zTS} {σ σ1 : zSg} {a b m : Nat} {Ys : List zSy} (h : zRc T σ [(13, a, b, m)] σ1 Ys) : ∀ j d9, σ1 = .inl (j, d9) → ∃ i d, σ = .inl (i, d) ∧ zsuR d d9 := h.zsu (fun z hz => by
  rw [List.mem_singleton.mp hz]
  exact Or.inr (Or.inl ⟨Nat.le_refl _, show (13 : Nat) ≤ 21 by decide⟩))
/-- the reference's row of a line -/
def zM6 (F : Nat → va_E) (sp l : Nat) (T : zTS) (q : Int × Nat × Nat × Nat) (r : zRo) : Prop := (zar F sp 22 l).toInt = (r.2.1 : Int) ∧ (zar F sp 23 l).toInt = (r.2.2.1 : Int) ∧ (zar F sp 18 l).toInt + 1 = (r.2.2.2.1 : Int) ∧ (zar F sp 19 l).toInt + 1 = (r.2.2.2.2.1 : Int) ∧ (zar F sp 20 l).toInt + 1 = (r.2.2.2.2.2.1 : Int) ∧ (zar F sp 21 l).toInt + 1 = (r.2.2.2.2.2.2 : Int) ∧ (q.1 = 0 → (zar F sp 17 l).toInt = T.2.2 q.2.2.1 - 1) ∧ (q.1 ≠ 0 → (zar F sp 17 l).toInt = -1)
theorem zM6.cg {F u : Nat → va_E} {sp l : Nat} {T : zTS} {q : Int × Nat × Nat × Nat} {r : zRo} (h : zM6 F sp l T q r) (e7 : zar u sp 17 l = zar F sp 17 l) (e8 : zar u sp 18 l = zar F sp 18 l) (e9 : zar u sp 19 l = zar F sp 19 l) (e0 : zar u sp 20 l = zar F sp 20 l) (e1 : zar u sp 21 l = zar F sp 21 l) (e2 : zar u sp 22 l = zar F sp 22 l) (e3 : zar u sp 23 l = zar F sp 23 l) : zM6 u sp l T q r := by
  unfold zM6
  rw [e7, e8, e9, e0, e1, e2, e3]
  exact h
def zD6 (Γ : Nat → Option Nat) (F : Nat → va_E) (sp : Nat) (T : zTS) (σ : zSg) : Prop := zSA Γ F sp ∧ ∀ i d, σ = .inl (i, d) → ∀ l, l < zlc d → zM6 F sp l T (zln d l) (zrw d l)
def zN6 (M : List Nat) : Prop := (∀ j, j < 30 → 4 ≤ j → 1100 + j ∉ M) ∧ 13700 ∉ M ∧ 13800 ∉ M ∧ 13900 ∉ M ∧ 14000 ∉ M ∧ 14100 ∉ M ∧ 14200 ∉ M ∧ 14300 ∉ M
theorem zD6.fr {Γ : Nat → Option Nat} {M : List Nat} {F u : Nat → va_E} {sp : Nat} {T : zTS} {σ : zSg} (h : zD6 Γ F sp T σ) (hf : zFr Γ M F u) (hM : (∀ j, j < 30 → 4 ≤ j → 1100 + j ∉ M) ∧ 13700 ∉ M ∧ 13800 ∉ M ∧ 13900 ∉ M ∧ 14000 ∉ M ∧ 14100 ∉ M ∧ 14200 ∉ M ∧ 14300 ∉ M) : zD6 Γ u sp T σ := by
  obtain ⟨m, n7, n8, n9, n0, n1, n2, n3⟩ := hM
  refine ⟨h.1.fr hf m, fun i d e l hl => (h.2 i d e l hl).cg ?_ ?_ ?_ ?_ ?_ ?_ ?_⟩
  · rw [h.1.ar hf 17 ⟨by decide, by decide, m 17 (by decide) (by decide), n7⟩]
  · rw [h.1.ar hf 18 ⟨by decide, by decide, m 18 (by decide) (by decide), n8⟩]
  · rw [h.1.ar hf 19 ⟨by decide, by decide, m 19 (by decide) (by decide), n9⟩]
  · rw [h.1.ar hf 20 ⟨by decide, by decide, m 20 (by decide) (by decide), n0⟩]
  · rw [h.1.ar hf 21 ⟨by decide, by decide, m 21 (by decide) (by decide), n1⟩]
  · rw [h.1.ar hf 22 ⟨by decide, by decide, m 22 (by decide) (by decide), n2⟩]
  · rw [h.1.ar hf 23 ⟨by decide, by decide, m 23 (by decide) (by decide), n3⟩]
theorem zD6.st {Γ : Nat → Option Nat} {F : Nat → va_E} {sp : Nat} {T : zTS} {σ σ1 : zSg} (h : zD6 Γ F sp T σ) (hs : ∀ j d', σ1 = .inl (j, d') → ∃ i d, σ = .inl (i, d) ∧ zlc d' = zlc d ∧ zln d' = zln d ∧ zrw d' = zrw d) : zD6 Γ F sp T σ1 := ⟨h.1, fun j d' e => by
  obtain ⟨i, d, e1, g1, g2, g3⟩ := hs j d' e
  rw [g1, g2, g3]
  exact h.2 i d e1⟩
theorem zD6.sm {Γ : Nat → Option Nat} {F : Nat → va_E} {sp : Nat} {T : zTS} {σ σ1 : zSg} (h : zD6 Γ F sp T σ) (hs : zsm σ σ1) : zD6 Γ F sp T σ1 := h.st (fun j d' e => by
  obtain ⟨i, e1, -⟩ := hs j d' e
  exact ⟨i, d', e1, rfl, rfl, rfl⟩)
theorem zD6.map {Γ : Nat → Option Nat} {F : Nat → va_E} {sp : Nat} {T : zTS} {σ : zSg} {f : Nat → zDat → zDat} (h : zD6 Γ F sp T σ) (hf : ∀ i d, zlc (f i d) = zlc d ∧ zln (f i d) = zln d ∧ zrw (f i d) = zrw d) : zD6 Γ F sp T (zmap f σ) := h.st (fun j d' e => by
  obtain ⟨d, e1, e2⟩ := zmapm e
  exact ⟨j, d, e1, by rw [e2]; exact hf j d⟩)
theorem zD6.adm {Γ : Nat → Option Nat} {F : Nat → va_E} {sp : Nat} {T : zTS} {σ : zSg} {f : Nat → zDat → zDat} (h : zD6 Γ F sp T σ) (hf : ∀ i d, zlc (f i d) = zlc d ∧ zln (f i d) = zln d ∧ zrw (f i d) = zrw d) : zD6 Γ F sp T (zadv (zmap f σ)) := (h.map hf).sm zsm.adv
/-- the line's sum or test stands -/
theorem zD6.line {Γ : Nat → Option Nat} {F u : Nat → va_E} {sp n b : Nat} {T : zTS} {P : Int → Prop} {σ σ1 : zSg} {it i9 to ar : Int32} {e : Nat × Nat × Nat} (h : zD6 Γ F sp T σ) (hR : zsR b P σ σ1) (hA : zSA Γ u sp) (hn : ∀ i d, σ = .inl (i, d) → n = zlc d) (e7 : zar u sp 17 = upd (zar F sp 17) n to) (e8 : zar u sp 18 = upd (zar F sp 18) n (-1)) (e9 : zar u sp 19 = upd (zar F sp 19) n ar) (e0 : zar u sp 20 = upd (zar F sp 20) n (-1)) (e1 : zar u sp 21 = upd (zar F sp 21) n (-1)) (e2 : zar u sp 22 = upd (zar F sp 22) n it) (e3 : zar u sp 23 = upd (zar F sp 23) n i9) (hit : ∀ i d, σ = .inl (i, d) → it.toInt = (zic d : Int)) (hi9 : ∀ j d1, σ1 = .inl (j, d1) → i9.toInt = (zic d1 : Int)) (hto : ∀ i d, σ = .inl (i, d) → P 0 → to.toInt = T.2.2 i - 1) (hto2 : ∀ k, P k → k ≠ 0 → to.toInt = -1) (har : ar.toInt + 1 = (b : Int)) : zD6 Γ u sp T (zmap (fun _ d => zende d n e) σ1) := by
  refine ⟨hA, fun j d' h9 l hl => ?_⟩
  obtain ⟨d1, q1, q2⟩ := zmapm h9
  obtain ⟨i, d, r1, r2, r3, r4, r5, r6⟩ := hR j d1 q1
  have hc := hn i d r1
  subst q2
  rw [za_zlc_ende] at hl
  rw [za_zln_ende, za_zrw_ende]
  have m1 : (-1 : Int32).toInt = -1 := by decide
  by_cases c : l = n
  · subst c
    rw [zup_self, r3, hc, zup_self]
    refine ⟨?_, ?_, ?_, ?_, ?_, ?_, fun h0 => ?_, fun h0 => ?_⟩
    · rw [e2, ← hc, show upd (zar F sp 22) l it l = it from if_pos rfl]
      exact hit i d r1
    · rw [e3, ← hc, show upd (zar F sp 23) l i9 l = i9 from if_pos rfl]
      exact hi9 j d1 q1
    · rw [e8, ← hc, show upd (zar F sp 18) l (-1) l = -1 from if_pos rfl, m1]
      rfl
    · rw [e9, ← hc, show upd (zar F sp 19) l ar l = ar from if_pos rfl]
      exact har
    · rw [e0, ← hc, show upd (zar F sp 20) l (-1) l = -1 from if_pos rfl, m1]
      rfl
    · rw [e1, ← hc, show upd (zar F sp 21) l (-1) l = -1 from if_pos rfl, m1]
      rfl
    · rw [e7, ← hc, show upd (zar F sp 17) l to l = to from if_pos rfl, hc, r6]
      rw [h0] at r5
      exact hto i d r1 r5
    · rw [e7, ← hc, show upd (zar F sp 17) l to l = to from if_pos rfl]
      exact hto2 _ r5 h0
  · rw [zup_ne _ _ c, r3, zup_ne _ _ (by omega), r4 l (by omega)]
    refine (h.2 i d r1 l (by omega)).cg ?_ ?_ ?_ ?_ ?_ ?_ ?_
    · rw [e7]; exact if_neg c
    · rw [e8]; exact if_neg c
    · rw [e9]; exact if_neg c
    · rw [e0]; exact if_neg c
    · rw [e1]; exact if_neg c
    · rw [e2]; exact if_neg c
    · rw [e3]; exact if_neg c
theorem zD6.next {Γ : Nat → Option Nat} {F u : Nat → va_E} {sp n m : Nat} {T : zTS} {σ : zSg} {v : Int32} (h : zD6 Γ F sp T σ) (hf : zFr Γ [13800] F u) (e8 : zar u sp 18 = upd (zar F sp 18) n v) (hv : v.toInt = (m : Int)) : zD6 Γ u sp T (zmap (fun _ d => znext d n m) σ) := by
  refine ⟨h.1.fr hf (by decide), fun j d' h9 l hl => ?_⟩
  obtain ⟨d, q1, q2⟩ := zmapm h9
  subst q2
  rw [za_zlc_next] at hl
  rw [za_zln_next, za_zrw_next]
  have h1 := h.2 j d q1 l hl
  have a7 := h.1.ar hf 17 (by decide)
  have a9 := h.1.ar hf 19 (by decide)
  have a0 := h.1.ar hf 20 (by decide)
  have a1 := h.1.ar hf 21 (by decide)
  have a2 := h.1.ar hf 22 (by decide)
  have a3 := h.1.ar hf 23 (by decide)
  by_cases c : l = n
  · subst c
    rw [zup_self]
    obtain ⟨b2, b3, b8, b9, b0, b1, b7⟩ := h1
    unfold zM6
    rw [a7, e8, a9, a0, a1, a2, a3, show upd (zar F sp 18) l v l = v from if_pos rfl]
    exact ⟨b2, b3, by show v.toInt + 1 = ((m + 1 : Nat) : Int); omega, b9, b0, b1, b7⟩
  · rw [zup_ne _ _ c]
    exact h1.cg (by rw [a7]) (by rw [e8]; exact if_neg c) (by rw [a9]) (by rw [a0]) (by rw [a1]) (by rw [a2]) (by rw [a3])
theorem zD6.body {Γ : Nat → Option Nat} {F u : Nat → va_E} {sp n m : Nat} {T : zTS} {σ : zSg} {v : Int32} (h : zD6 Γ F sp T σ) (hf : zFr Γ [14000] F u) (e8 : zar u sp 20 = upd (zar F sp 20) n v) (hv : v.toInt = (m : Int)) : zD6 Γ u sp T (zmap (fun _ d => zbody d n m) σ) := by
  refine ⟨h.1.fr hf (by decide), fun j d' h9 l hl => ?_⟩
  obtain ⟨d, q1, q2⟩ := zmapm h9
  subst q2
  rw [za_zlc_body] at hl
  rw [za_zln_body, za_zrw_body]
  have h1 := h.2 j d q1 l hl
  have a7 := h.1.ar hf 17 (by decide)
  have a9 := h.1.ar hf 19 (by decide)
  have a0 := h.1.ar hf 18 (by decide)
  have a1 := h.1.ar hf 21 (by decide)
  have a2 := h.1.ar hf 22 (by decide)
  have a3 := h.1.ar hf 23 (by decide)
  by_cases c : l = n
  · subst c
    rw [zup_self]
    obtain ⟨b2, b3, b8, b9, b0, b1, b7⟩ := h1
    unfold zM6
    rw [a7, e8, a9, a0, a1, a2, a3, show upd (zar F sp 20) l v l = v from if_pos rfl]
    exact ⟨b2, b3, b8, b9, by show v.toInt + 1 = ((m + 1 : Nat) : Int); omega, b1, b7⟩
  · rw [zup_ne _ _ c]
    exact h1.cg (by rw [a7]) (by rw [a0]) (by rw [a9]) (by rw [e8]; exact if_neg c) (by rw [a1]) (by rw [a2]) (by rw [a3])
theorem zD6.othr {Γ : Nat → Option Nat} {F u : Nat → va_E} {sp q n m : Nat} {T : zTS} {σ : zSg} {v : Int32} (h : zD6 Γ F sp T σ) (hf : zFr Γ [14100] F u) (e8 : zar u sp 21 = upd (zar F sp 21) n v) (hv : v.toInt = (m : Int)) : zD6 Γ u sp T (zmap (fun _ d => zothr d q n m) σ) := by
  refine ⟨h.1.fr hf (by decide), fun j d' h9 l hl => ?_⟩
  obtain ⟨d, q1, q2⟩ := zmapm h9
  subst q2
  rw [za_zlc_othr] at hl
  rw [za_zln_othr, za_zrw_othr]
  have h1 := h.2 j d q1 l hl
  have a7 := h.1.ar hf 17 (by decide)
  have a9 := h.1.ar hf 19 (by decide)
  have a0 := h.1.ar hf 18 (by decide)
  have a1 := h.1.ar hf 20 (by decide)
  have a2 := h.1.ar hf 22 (by decide)
  have a3 := h.1.ar hf 23 (by decide)
  by_cases c : l = n
  · subst c
    rw [zup_self]
    obtain ⟨b2, b3, b8, b9, b0, b1, b7⟩ := h1
    unfold zM6
    rw [a7, e8, a9, a0, a1, a2, a3, show upd (zar F sp 21) l v l = v from if_pos rfl]
    exact ⟨b2, b3, b8, b9, b0, by show v.toInt + 1 = ((m + 1 : Nat) : Int); omega, b7⟩
  · rw [zup_ne _ _ c]
    exact h1.cg (by rw [a7]) (by rw [a0]) (by rw [a9]) (by rw [a1]) (by rw [e8]; exact if_neg c) (by rw [a2]) (by rw [a3])
