/-! Lines of the reference's Program: what each refers to, and that its items are a whole sum. -/
def zK (F u : Nat → va_E) (sp j f : Nat) : Prop := ∀ g, g ≠ f → zar u sp j g = zar F sp j g
theorem zK.rf {F : Nat → va_E} {sp j f : Nat} : zK F F sp j f := fun _ _ => rfl
theorem zK.comp {F u w : Nat → va_E} {sp j f : Nat} (h : zK F u sp j f) (g : zK u w sp j f) : zK F w sp j f := fun q hq => (g q hq).trans (h q hq)
theorem zK.eq {F u : Nat → va_E} {sp j f : Nat} (e : zar u sp j = zar F sp j) : zK F u sp j f := fun q _ => by rw [e]
theorem zK.st {F u : Nat → va_E} {sp j f : Nat} {x : Int32} (e : zar u sp j = upd (zar F sp j) f x) : zK F u sp j f := fun q hq => by
  rw [e]
  exact if_neg hq
theorem z_upe {f : Nat → Int32} {i : Nat} {x : Int32} : upd f i x i = x := if_pos rfl
theorem z_upn {f : Nat → Int32} {i q : Nat} {x : Int32} (h : q ≠ i) : upd f i x q = f q := if_neg h
/-- where a function's text ends: behind a } -/
def zTT (F : Nat → va_E) (tp sp f : Nat) (lo hi : Int) : Prop := lo ≤ (zar F sp 11 f).toInt ∧ (zar F sp 11 f).toInt ≤ hi ∧ 1 ≤ (zar F sp 11 f).toInt ∧ zel F tp ((zar F sp 11 f).toInt.toNat - 1) &&& 255 = 125
theorem zTT.mk {F : Nat → va_E} {tp sp f : Nat} {lo hi : Int} {g : Nat → Int32} {a p : Int32} (e : zar F sp 11 = upd g f a) (h : lo ≤ a.toInt ∧ a.toInt ≤ hi ∧ 0 ≤ p.toInt ∧ a.toInt = p.toInt + 1) (hz : zel F tp p.toNatClampNeg &&& 255 = 125) : zTT F tp sp f lo hi := by
  unfold zTT
  rw [e, z_upe]
  refine ⟨h.1, h.2.1, by omega, ?_⟩
  have : a.toInt.toNat - 1 = p.toNatClampNeg := by
    rw [Int32.toNatClampNeg]
    omega
  rw [this]
  exact hz
theorem zTT.w {F u : Nat → va_E} {tp sp f : Nat} {lo hi lo' hi' : Int} (h : zTT F tp sp f lo hi) (e : zar u sp 11 f = zar F sp 11 f) (et : zel u tp = zel F tp) (hl : lo' ≤ lo ∧ hi ≤ hi') : zTT u tp sp f lo' hi' := by
  unfold zTT at h ⊢
  rw [e, et]
  exact ⟨by omega, by omega, h.2.2.1, h.2.2.2⟩
def zLn (F : Nat → va_E) (sp n it l : Nat) : Prop := (zar F sp 13 l = 0 → 0 ≤ (zar F sp 17 l).toInt) ∧ ((zar F sp 18 l).toInt < n ∧ (zar F sp 20 l).toInt < n ∧ (zar F sp 21 l).toInt < n ∧ (zar F sp 19 l).toInt < l) ∧ ∃ a b : Nat, (zar F sp 22 l).toInt = a ∧ (zar F sp 23 l).toInt = b ∧ a ≤ b ∧ b ≤ it ∧ zSeg (zar F sp 24) (zar F sp 25) (zar F sp 26) a b 1 31
def zRL (F : Nat → va_E) (sp n it : Nat) : Prop := ∀ l, l < n → zLn F sp n it l
theorem zRL.fr {Γ : Nat → Option Nat} {M : List Nat} {F u : Nat → va_E} {sp n it : Nat} (h : zRL F sp n it) (hA : zSA Γ F sp) (hf : zFr Γ M F u) (hM : ∀ j ∈ [13, 17, 18, 19, 20, 21, 22, 23, 24, 25, 26], 1100 + j ∉ M ∧ 100 * (120 + j) ∉ M) : zRL u sp n it := by
  have hr : ∀ j ∈ [13, 17, 18, 19, 20, 21, 22, 23, 24, 25, 26], 4 ≤ j ∧ j < 30 := by decide
  have e : ∀ j ∈ [13, 17, 18, 19, 20, 21, 22, 23, 24, 25, 26], zar u sp j = zar F sp j := fun j hj => hA.ar hf j ⟨(hr j hj).1, (hr j hj).2, (hM j hj).1, (hM j hj).2⟩
  unfold zRL zLn
  rw [e 13 (by decide), e 17 (by decide), e 18 (by decide), e 19 (by decide), e 20 (by decide), e 21 (by decide), e 22 (by decide), e 23 (by decide), e 24 (by decide), e 25 (by decide), e 26 (by decide)]
  exact h
theorem zRL.cn {F : Nat → va_E} {sp n it n' it' : Nat} (h : zRL F sp n it) (hn : n' = n) (hi : it' = it) : zRL F sp n' it' := by
  subst hn
  subst hi
  exact h
theorem zRL.line {F u : Nat → va_E} {sp l it it' : Nat} {wh to ar x22 x23 : Int32} (h : zRL F sp l it) (em : zEm F u sp it it' 1 31) (e13 : zar u sp 13 = upd (zar F sp 13) l wh) (e17 : zar u sp 17 = upd (zar F sp 17) l to) (e18 : zar u sp 18 = upd (zar F sp 18) l (-1 : Int32)) (e19 : zar u sp 19 = upd (zar F sp 19) l ar) (e20 : zar u sp 20 = upd (zar F sp 20) l (-1 : Int32)) (e21 : zar u sp 21 = upd (zar F sp 21) l (-1 : Int32)) (e22 : zar u sp 22 = upd (zar F sp 22) l x22) (e23 : zar u sp 23 = upd (zar F sp 23) l x23) (h17 : wh = 0 → 0 ≤ to.toInt) (har : ar.toInt < l) (h22 : x22.toInt = it) (h23 : x23.toInt = it') : zRL u sp (l + 1) it' := by
  have em1 : (-1 : Int32).toInt = -1 := by decide
  intro q hq
  by_cases c : q = l
  · subst c
    unfold zLn
    rw [e13, e17, e18, e19, e20, e21, e22, e23, z_upe, z_upe, z_upe, z_upe, z_upe, z_upe, z_upe, z_upe, em1]
    exact ⟨h17, ⟨by omega, by omega, by omega, har⟩, it, it', h22, h23, em.1, Nat.le_refl _, em.2.2⟩
  · obtain ⟨a1, ⟨a2, a3, a4, a5⟩, a, b, a6, a7, a8, a9, a10⟩ := h q (by omega)
    unfold zLn
    rw [e13, e17, e18, e19, e20, e21, e22, e23, z_upn c, z_upn c, z_upn c, z_upn c, z_upn c, z_upn c, z_upn c, z_upn c]
    have h1 := em.1
    exact ⟨a1, ⟨by omega, by omega, by omega, a5⟩, a, b, a6, a7, a8, by omega, a10.as (fun k q1 q2 => by
      obtain ⟨z1, z2, z3⟩ := em.2.1 k (by omega)
      exact ⟨z1, fun _ => z2, z3⟩)⟩
theorem zRL.s18 {Γ : Nat → Option Nat} {F u : Nat → va_E} {sp n it i : Nat} {x : Int32} (h : zRL F sp n it) (hA : zSA Γ F sp) (hf : zFr Γ [13800] F u) (e : zar u sp 18 = upd (zar F sp 18) i x) (hx : x.toInt < n) : zRL u sp n it := by
  intro q hq
  obtain ⟨a1, ⟨a2, a3, a4, a5⟩, a6⟩ := h q hq
  unfold zLn
  rw [hA.ar hf 13 (by decide), hA.ar hf 17 (by decide), hA.ar hf 19 (by decide), hA.ar hf 20 (by decide), hA.ar hf 21 (by decide), hA.ar hf 22 (by decide), hA.ar hf 23 (by decide), hA.ar hf 24 (by decide), hA.ar hf 25 (by decide), hA.ar hf 26 (by decide), e]
  by_cases c : q = i
  · subst c
    rw [z_upe]
    exact ⟨a1, ⟨hx, a3, a4, a5⟩, a6⟩
  · rw [z_upn c]
    exact ⟨a1, ⟨a2, a3, a4, a5⟩, a6⟩
theorem zRL.s20 {Γ : Nat → Option Nat} {F u : Nat → va_E} {sp n it i : Nat} {x : Int32} (h : zRL F sp n it) (hA : zSA Γ F sp) (hf : zFr Γ [14000] F u) (e : zar u sp 20 = upd (zar F sp 20) i x) (hx : x.toInt < n) : zRL u sp n it := by
  intro q hq
  obtain ⟨a1, ⟨a2, a3, a4, a5⟩, a6⟩ := h q hq
  unfold zLn
  rw [hA.ar hf 13 (by decide), hA.ar hf 17 (by decide), hA.ar hf 18 (by decide), hA.ar hf 19 (by decide), hA.ar hf 21 (by decide), hA.ar hf 22 (by decide), hA.ar hf 23 (by decide), hA.ar hf 24 (by decide), hA.ar hf 25 (by decide), hA.ar hf 26 (by decide), e]
  by_cases c : q = i
  · subst c
    rw [z_upe]
    exact ⟨a1, ⟨a2, hx, a4, a5⟩, a6⟩
  · rw [z_upn c]
    exact ⟨a1, ⟨a2, a3, a4, a5⟩, a6⟩
theorem zRL.s21 {Γ : Nat → Option Nat} {F u : Nat → va_E} {sp n it i : Nat} {x : Int32} (h : zRL F sp n it) (hA : zSA Γ F sp) (hf : zFr Γ [14100] F u) (e : zar u sp 21 = upd (zar F sp 21) i x) (hx : x.toInt < n) : zRL u sp n it := by
  intro q hq
  obtain ⟨a1, ⟨a2, a3, a4, a5⟩, a6⟩ := h q hq
  unfold zLn
  rw [hA.ar hf 13 (by decide), hA.ar hf 17 (by decide), hA.ar hf 18 (by decide), hA.ar hf 19 (by decide), hA.ar hf 20 (by decide), hA.ar hf 22 (by decide), hA.ar hf 23 (by decide), hA.ar hf 24 (by decide), hA.ar hf 25 (by decide), hA.ar hf 26 (by decide), e]
  by_cases c : q = i
  · subst c
    rw [z_upe]
    exact ⟨a1, ⟨a2, a3, hx, a5⟩, a6⟩
  · rw [z_upn c]
    exact ⟨a1, ⟨a2, a3, a4, a5⟩, a6⟩
