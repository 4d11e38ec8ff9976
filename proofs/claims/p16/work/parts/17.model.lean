/-! The reference: what its arrays hold, its tokens, its items as heights of a pile, its lines; methods that throw its Stop. -/
/-- a Program of the reference and its arrays -/
def zSA (Γ : Nat → Option Nat) (F : Nat → va_E) (sp : Nat) : Prop := Γ sp = some 11 ∧ ∀ j, 4 ≤ j → j < 30 → ∃ b, zfld F sp j = .ref b ∧ Γ b = some (120 + j)
theorem zspA : ∀ j, j < 30 → 4 ≤ j → (zsp 11)[j]? = some (2, ((120 + j : Nat) : Int), 0) := by decide +kernel
theorem z_SA {Γ : Nat → Option Nat} {k : Nat → ClassId} {L : List Nat} {F : Nat → va_E} (hI : zInv Γ k L F) {sp : Nat} (h : Γ sp = some 11) : zSA Γ F sp := by
  refine ⟨h, fun j h1 h2 => ?_⟩
  obtain ⟨-, hO, -⟩ := hI sp 11 h
  obtain ⟨fs, hF, hlen, hall⟩ := hO (by decide)
  obtain ⟨b, hb, hg⟩ := hall j _ (zspA j h2 h1)
  exact ⟨b, hb, hg⟩
theorem zSA.fr {Γ : Nat → Option Nat} {M : List Nat} {F F1 : Nat → va_E} {sp : Nat} (h : zSA Γ F sp) (hf : zFr Γ M F F1) (hM : ∀ j, j < 30 → 4 ≤ j → 1100 + j ∉ M) : zSA Γ F1 sp := by
  refine ⟨h.1, fun j h1 h2 => ?_⟩
  obtain ⟨b, hb, hg⟩ := h.2 j h1 h2
  exact ⟨b, hf.f h.1 j ⟨by decide, hM j h2 h1⟩ hb, hg⟩
theorem zSA.ar {Γ : Nat → Option Nat} {M : List Nat} {F F1 : Nat → va_E} {sp : Nat} (h : zSA Γ F sp) (hf : zFr Γ M F F1) (j : Nat) (hj : 4 ≤ j ∧ j < 30 ∧ 1100 + j ∉ M ∧ 100 * (120 + j) ∉ M) : zar F1 sp j = zar F sp j := by
  obtain ⟨b, hb, hg⟩ := h.2 j hj.1 hj.2.1
  rw [zar_eq hb, zar_eq (hf.f h.1 j ⟨by decide, hj.2.2.1⟩ hb)]
  exact hf.elf hg ⟨by omega, hj.2.2.2⟩
/-- the signs that are tokens, the bytes that may stand in a text without a fault of form -/
def zmk (c : Int32) : Prop := c = 40 ∨ c = 41 ∨ c = 123 ∨ c = 125 ∨ c = 44 ∨ c = 59 ∨ c = 61 ∨ c = 60 ∨ c = 62 ∨ c = 43 ∨ c = 45 ∨ c = 42
def zokr (r : Int32) : Prop := r = 32 ∨ r = 10 ∨ (97 ≤ r.toInt ∧ r.toInt ≤ 122) ∨ (48 ≤ r.toInt ∧ r.toInt ≤ 57) ∨ zmk r
def zOK (F : Nat → va_E) (tp : Nat) (a : Int32) : Prop := ∀ i : Nat, (i : Int) < a.toInt → zokr (zel F tp i &&& 255)
theorem zOK.s {F : Nat → va_E} {tp : Nat} {a a' r : Int32} (h : zOK F tp a) (e : r = zel F tp a.toNatClampNeg &&& 255) (hr : zokr r) (h0 : 0 ≤ a.toInt) (ha : a'.toInt = a.toInt + 1) : zOK F tp a' := by
  intro i hi
  by_cases q : (i : Int) < a.toInt
  · exact h i q
  · have e2 : i = a.toNatClampNeg := by rw [Int32.toNatClampNeg]; omega
    rw [e2, ← e]
    exact hr
theorem zOK.fr {F F1 : Nat → va_E} {tp : Nat} {a : Int32} (h : zOK F tp a) (e : zel F1 tp = zel F tp) : zOK F1 tp a := fun i hi => by
  rw [e]
  exact h i hi
/-- where the reading stands: the token from pl to at, of sort so -/
def zTk (F : Nat → va_E) (th tp : Nat) : Prop := ∃ (sz a so pl mk le : Int32) (wd : Int64), zfld F th 12 = .int sz ∧ zfld F th 13 = .int a ∧ zfld F th 14 = .int so ∧ zfld F th 15 = .int pl ∧ zfld F th 16 = .int mk ∧ zfld F th 18 = .int le ∧ zfld F th 21 = .long wd ∧ a.toInt ≤ sz.toInt ∧ pl.toInt ≤ a.toInt ∧ (2 ≤ so.toInt → pl.toInt + 1 ≤ a.toInt) ∧ (so.toInt = 2 → le.toInt = 1 → 1 ≤ wd.toInt) ∧ (so.toInt = 4 → a.toInt = pl.toInt + 1 ∧ mk = zel F tp pl.toNatClampNeg &&& 255) ∧ zOK F tp a ∧ (pl.toInt < sz.toInt → zokr (zel F tp pl.toNatClampNeg &&& 255) → pl.toInt + 1 ≤ a.toInt) ∧ ∀ i : Nat, pl.toInt ≤ (i : Int) → (i : Int) < a.toInt → zel F tp i &&& 255 = 125 → a.toInt ≤ (i : Int) + 1
theorem zTk.fr {Γ : Nat → Option Nat} {M : List Nat} {F F1 : Nat → va_E} {th tp : Nat} (h : zTk F th tp) (hf : zFr Γ M F F1) (hth : Γ th = some 14) (htp : Γ tp = some 152) (hM : (∀ j ∈ [12, 13, 14, 15, 16, 18, 21], 1400 + j ∉ M) ∧ 15200 ∉ M) : zTk F1 th tp := by
  obtain ⟨sz, a, so, pl, mk, le, wd, e1, e2, e3, e4, e5, e6, e7, r1, r2, r3, r4, r5, r6, r7, r8⟩ := h
  have f : ∀ (j : Nat) (v : Value), j ∈ [12, 13, 14, 15, 16, 18, 21] → zfld F th j = v → zfld F1 th j = v := fun j v hj hv => hf.f hth j ⟨by decide, hM.1 j hj⟩ hv
  have g : zel F1 tp = zel F tp := hf.elf htp ⟨by decide, hM.2⟩
  exact ⟨sz, a, so, pl, mk, le, wd, f _ _ (by decide) e1, f _ _ (by decide) e2, f _ _ (by decide) e3, f _ _ (by decide) e4, f _ _ (by decide) e5, f _ _ (by decide) e6, f _ _ (by decide) e7, r1, r2, r3, r4, fun q => by rw [g]; exact r5 q, r6.fr g, by rw [g]; exact r7, by rw [g]; exact r8⟩
/-- what a call of next() needs: place, the end of the token, its sort -/
theorem zTk.adv {F : Nat → va_E} {th tp : Nat} (h : zTk F th tp) {sz a so pl : Int32} (e1 : zfld F th 12 = .int sz) (e2 : zfld F th 13 = .int a) (e3 : zfld F th 14 = .int so) (e4 : zfld F th 15 = .int pl) : a.toInt ≤ sz.toInt ∧ pl.toInt ≤ a.toInt ∧ (2 ≤ so.toInt → pl.toInt + 1 ≤ a.toInt) := by
  obtain ⟨sz', a', so', pl', mk, le, wd, g1, g2, g3, g4, -, -, -, r1, r2, r3, -⟩ := h
  cases z_vi e1 g1
  cases z_vi e2 g2
  cases z_vi e3 g3
  cases z_vi e4 g4
  exact ⟨r1, r2, r3⟩
theorem zTk.ok {F : Nat → va_E} {th tp : Nat} (h : zTk F th tp) {a : Int32} (e2 : zfld F th 13 = .int a) : zOK F tp a := by
  obtain ⟨sz', a', so', pl', mk, le, wd, g1, g2, g3, g4, -, -, -, r1, r2, r3, -, -, r6, -⟩ := h
  cases z_vi e2 g2
  exact r6
theorem zTk.word {F : Nat → va_E} {th tp : Nat} (h : zTk F th tp) {so le : Int32} {wd : Int64} (e3 : zfld F th 14 = .int so) (e6 : zfld F th 18 = .int le) (e7 : zfld F th 21 = .long wd) (h1 : so.toInt = 2) (h2 : le.toInt = 1) : 1 ≤ wd.toInt := by
  obtain ⟨sz', a', so', pl', mk, le', wd', g1, g2, g3, g4, -, g6, g7, r1, r2, r3, r4, -⟩ := h
  cases z_vi e3 g3
  cases z_vi e6 g6
  cases z_vl e7 g7
  exact r4 h1 h2
theorem zTk.mark {F : Nat → va_E} {th tp : Nat} (h : zTk F th tp) {so a pl mk : Int32} (e2 : zfld F th 13 = .int a) (e3 : zfld F th 14 = .int so) (e4 : zfld F th 15 = .int pl) (e5 : zfld F th 16 = .int mk) (h1 : so.toInt = 4) : a.toInt = pl.toInt + 1 ∧ mk = zel F tp pl.toNatClampNeg &&& 255 := by
  obtain ⟨sz', a', so', pl', mk', le', wd', g1, g2, g3, g4, g5, g6, g7, r1, r2, r3, r4, r5, -⟩ := h
  cases z_vi e2 g2
  cases z_vi e3 g3
  cases z_vi e4 g4
  cases z_vi e5 g5
  exact r5 h1
/-- a step of the pile's height h by an item -/
def zStep (s v m : Int32) (h h' : Nat) : Prop := (s = 0 ∧ h' = h + 1) ∨ (s = 1 ∧ 0 ≤ v.toInt ∧ v.toInt ≤ 7 ∧ h' = h + 1) ∨ (s = 5 ∧ ∃ n : Nat, m.toInt = n ∧ n ≤ h ∧ h' + n = h + 1) ∨ (s ≠ 0 ∧ s ≠ 1 ∧ s ≠ 5 ∧ 2 ≤ h ∧ h' + 1 = h)
theorem zStep.up {s v m : Int32} {h h' : Nat} (q : zStep s v m h h') (n : Nat) : zStep s v m (n + h) (n + h') := by
  rcases q with ⟨a, b⟩ | ⟨a, b, c, d⟩ | ⟨a, k, b, c, d⟩ | ⟨a, b, c, d, e⟩
  · exact Or.inl ⟨a, by omega⟩
  · exact Or.inr (Or.inl ⟨a, b, c, by omega⟩)
  · exact Or.inr (Or.inr (Or.inl ⟨a, k, b, by omega, by omega⟩))
  · exact Or.inr (Or.inr (Or.inr ⟨a, b, c, by omega, by omega⟩))
/-- the items a .. b - 1 lift the pile by d, never by more than cap -/
def zSeg (sg vl mn : Nat → Int32) (a b d cap : Nat) : Prop := ∃ hs : Nat → Nat, hs a = 0 ∧ hs b = d ∧ (∀ k, a ≤ k → k ≤ b → hs k ≤ cap) ∧ ∀ k, a ≤ k → k < b → zStep (sg k) (vl k) (mn k) (hs k) (hs (k + 1))
theorem zSeg.rf {sg vl mn : Nat → Int32} {a cap : Nat} : zSeg sg vl mn a a 0 cap := ⟨fun _ => 0, rfl, rfl, fun _ _ _ => Nat.zero_le _, fun k h1 h2 => by omega⟩
theorem zSeg.w {sg vl mn : Nat → Int32} {a b d c c' : Nat} (h : zSeg sg vl mn a b d c) (hc : c ≤ c') : zSeg sg vl mn a b d c' := by
  obtain ⟨hs, h1, h2, h3, h4⟩ := h
  exact ⟨hs, h1, h2, fun k q1 q2 => Nat.le_trans (h3 k q1 q2) hc, h4⟩
theorem zSeg.as {sg vl mn sg' vl' mn' : Nat → Int32} {a b d c : Nat} (h : zSeg sg vl mn a b d c) (e : ∀ k, a ≤ k → k < b → sg' k = sg k ∧ (sg k = 1 → vl' k = vl k) ∧ mn' k = mn k) : zSeg sg' vl' mn' a b d c := by
  obtain ⟨hs, h1, h2, h3, h4⟩ := h
  refine ⟨hs, h1, h2, h3, fun k q1 q2 => ?_⟩
  obtain ⟨e1, e2, e3⟩ := e k q1 q2
  rw [e1, e3]
  rcases h4 k q1 q2 with ⟨a, b⟩ | ⟨a, b, c, d⟩ | ⟨a, k, b, c, d⟩ | ⟨a, b, c, d, e⟩
  · exact Or.inl ⟨a, b⟩
  · exact Or.inr (Or.inl ⟨a, by rw [e2 a]; exact b, by rw [e2 a]; exact c, d⟩)
  · exact Or.inr (Or.inr (Or.inl ⟨a, k, b, c, d⟩))
  · exact Or.inr (Or.inr (Or.inr ⟨a, b, c, d, e⟩))
theorem zSeg.app {sg vl mn : Nat → Int32} {a b c d1 d2 c1 c2 cap : Nat} (h : zSeg sg vl mn a b d1 c1) (g : zSeg sg vl mn b c d2 c2) (hab : a ≤ b) (hbc : b ≤ c) (h1 : c1 ≤ cap) (h2 : d1 + c2 ≤ cap) : zSeg sg vl mn a c (d1 + d2) cap := by
  obtain ⟨hs, p1, p2, p3, p4⟩ := h
  obtain ⟨gs, q1, q2, q3, q4⟩ := g
  refine ⟨fun k => if k < b then hs k else d1 + gs k, ?_, ?_, fun k r1 r2 => ?_, fun k r1 r2 => ?_⟩
  · by_cases q : a < b
    · simp only [q, if_true]; exact p1
    · have : a = b := by omega
      subst this
      simp only [q, if_false]
      omega
  · have q : ¬ c < b := by omega
    simp only [q, if_false]
    omega
  · by_cases q : k < b
    · simp only [q, if_true]; exact Nat.le_trans (p3 k r1 (by omega)) h1
    · simp only [q, if_false]
      have := q3 k (by omega) r2
      omega
  · by_cases q : k < b
    · by_cases q9 : k + 1 < b
      · simp only [q, q9, if_true]; exact p4 k r1 q
      · have e : k + 1 = b := by omega
        have z := p4 k r1 q
        simp only [q, q9, if_true, if_false]
        rw [e] at z ⊢
        rw [p2] at z
        rw [q1]
        exact z
    · have q9 : ¬ k + 1 < b := by omega
      simp only [q, q9, if_false]
      exact (q4 k (by omega) r2).up d1
/-- one item more -/
theorem zSeg.one {sg vl mn : Nat → Int32} {a b d d' c : Nat} (h : zSeg sg vl mn a b d c) (hab : a ≤ b) (hd : d' ≤ c) (st : zStep (sg b) (vl b) (mn b) d d') : zSeg sg vl mn a (b + 1) d' c := by
  obtain ⟨hs, p1, p2, p3, p4⟩ := h
  refine ⟨fun k => if k ≤ b then hs k else d', ?_, ?_, fun k r1 r2 => ?_, fun k r1 r2 => ?_⟩
  · simp only [hab, if_true]; exact p1
  · have q : ¬ b + 1 ≤ b := by omega
    simp only [q, if_false]
  · by_cases q : k ≤ b
    · simp only [q, if_true]; exact p3 k r1 q
    · simp only [q, if_false]; exact hd
  · have q : k ≤ b := by omega
    by_cases q9 : k + 1 ≤ b
    · simp only [q, q9, if_true]; exact p4 k r1 (by omega)
    · have e : k = b := by omega
      subst e
      simp only [q, q9, if_true, if_false]
      rw [p2]
      exact st
/-- from F to u: items a .. b - 1 have come, those below a stand as they were -/
def zEm (F u : Nat → va_E) (sp a b d cap : Nat) : Prop := a ≤ b ∧ (∀ k, k < a → zar u sp 24 k = zar F sp 24 k ∧ zar u sp 25 k = zar F sp 25 k ∧ zar u sp 26 k = zar F sp 26 k) ∧ zSeg (zar u sp 24) (zar u sp 25) (zar u sp 26) a b d cap
theorem zEm.rf {F : Nat → va_E} {sp a cap : Nat} : zEm F F sp a a 0 cap := ⟨Nat.le_refl _, fun _ _ => ⟨rfl, rfl, rfl⟩, zSeg.rf⟩
theorem zEm.w {F u : Nat → va_E} {sp a b d c c' : Nat} (h : zEm F u sp a b d c) (hc : c ≤ c') : zEm F u sp a b d c' := ⟨h.1, h.2.1, h.2.2.w hc⟩
theorem zEm.comp {F u w : Nat → va_E} {sp a b c d1 d2 d c1 c2 cap : Nat} (h : zEm F u sp a b d1 c1) (g : zEm u w sp b c d2 c2) (hd : d = d1 + d2) (hc : c1 ≤ cap ∧ d1 + c2 ≤ cap) : zEm F w sp a c d cap := by
  obtain ⟨h1, h2, h3⟩ := h
  obtain ⟨g1, g2, g3⟩ := g
  subst hd
  refine ⟨Nat.le_trans h1 g1, fun k hk => ?_, zSeg.app (h3.as (fun k q1 q2 => ?_)) g3 h1 g1 hc.1 hc.2⟩
  · obtain ⟨a1, a2, a3⟩ := g2 k (by omega)
    obtain ⟨b1, b2, b3⟩ := h2 k hk
    exact ⟨a1.trans b1, a2.trans b2, a3.trans b3⟩
  · obtain ⟨a1, a2, a3⟩ := g2 k q2
    exact ⟨a1, fun _ => a2, a3⟩
theorem zEm.fr {Γ : Nat → Option Nat} {M : List Nat} {F u w : Nat → va_E} {sp a b d c : Nat} (h : zEm F u sp a b d c) (hA : zSA Γ u sp) (hf : zFr Γ M u w) (hM : 1124 ∉ M ∧ 1125 ∉ M ∧ 1126 ∉ M ∧ 14400 ∉ M ∧ 14500 ∉ M ∧ 14600 ∉ M) : zEm F w sp a b d c := by
  have e4 := hA.ar hf 24 ⟨by decide, by decide, hM.1, hM.2.2.2.1⟩
  have e5 := hA.ar hf 25 ⟨by decide, by decide, hM.2.1, hM.2.2.2.2.1⟩
  have e6 := hA.ar hf 26 ⟨by decide, by decide, hM.2.2.1, hM.2.2.2.2.2⟩
  unfold zEm
  rw [e4, e5, e6]
  exact h
/-- put() -/
theorem zEm.put {F u w : Nat → va_E} {sp a b d d' c : Nat} {s v : Int32} (h : zEm F u sp a b d c) (e4 : zar w sp 24 = upd (zar u sp 24) b s) (e5 : zar w sp 25 = upd (zar u sp 25) b v) (e6 : zar w sp 26 = zar u sp 26) (hd : d' ≤ c) (st : zStep s v (zar u sp 26 b) d d') : zEm F w sp a (b + 1) d' c := by
  obtain ⟨h1, h2, h3⟩ := h
  have n4 : ∀ k, k < b → zar w sp 24 k = zar u sp 24 k := fun k hk => by rw [e4]; exact if_neg (by omega)
  have n5 : ∀ k, k < b → zar w sp 25 k = zar u sp 25 k := fun k hk => by rw [e5]; exact if_neg (by omega)
  refine ⟨by omega, fun k hk => ?_, zSeg.one (h3.as (fun k q1 q2 => ⟨n4 k q2, fun _ => n5 k q2, by rw [e6]⟩)) h1 hd ?_⟩
  · obtain ⟨b1, b2, b3⟩ := h2 k hk
    exact ⟨(n4 k (by omega)).trans b1, (n5 k (by omega)).trans b2, by rw [e6]; exact b3⟩
  · rw [e4, e5, e6]
    have z4 : upd (zar u sp 24) b s b = s := if_pos rfl
    have z5 : upd (zar u sp 25) b v b = v := if_pos rfl
    rw [z4, z5]
    exact st
/-- many2 at the end of the items -/
theorem zEm.many {F u w : Nat → va_E} {sp a b d c : Nat} {x : Int32} (h : zEm F u sp a b d c) (e4 : zar w sp 24 = zar u sp 24) (e5 : zar w sp 25 = zar u sp 25) (e6 : zar w sp 26 = upd (zar u sp 26) b x) : zEm F w sp a b d c := by
  obtain ⟨h1, h2, h3⟩ := h
  have n6 : ∀ k, k < b → zar w sp 26 k = zar u sp 26 k := fun k hk => by rw [e6]; exact if_neg (by omega)
  refine ⟨h1, fun k hk => ?_, h3.as (fun k q1 q2 => ⟨by rw [e4], fun _ => by rw [e5], n6 k q2⟩)⟩
  obtain ⟨b1, b2, b3⟩ := h2 k hk
  exact ⟨by rw [e4]; exact b1, by rw [e5]; exact b2, (n6 k (by omega)).trans b3⟩
theorem zTk.txt {F : Nat → va_E} {th tp : Nat} (h : zTk F th tp) {sz a pl : Int32} (e1 : zfld F th 12 = .int sz) (e2 : zfld F th 13 = .int a) (e4 : zfld F th 15 = .int pl) : (pl.toInt < sz.toInt → zokr (zel F tp pl.toNatClampNeg &&& 255) → pl.toInt + 1 ≤ a.toInt) ∧ ∀ i : Nat, pl.toInt ≤ (i : Int) → (i : Int) < a.toInt → zel F tp i &&& 255 = 125 → a.toInt ≤ (i : Int) + 1 := by
  obtain ⟨sz', a', so', pl', mk', le', wd', g1, g2, g3, g4, g5, g6, g7, r1, r2, r3, r4, r5, r6, r7, r8⟩ := h
  cases z_vi e1 g1
  cases z_vi e2 g2
  cases z_vi e4 g4
  exact ⟨r7, r8⟩
theorem znb.s {f : Nat → Int32} {p : Int} {a a' r : Int32} (h : ∀ i : Nat, p ≤ (i : Int) → (i : Int) < a.toInt → f i &&& 255 ≠ 125) (e : r = f (Int32.toNatClampNeg a) &&& 255) (hr : r.toInt ≠ 125) (h0 : 0 ≤ a.toInt) (ha : a'.toInt = a.toInt + 1) : ∀ i : Nat, p ≤ (i : Int) → (i : Int) < a'.toInt → f i &&& 255 ≠ 125 := by
  intro i h1 h2
  by_cases q : (i : Int) < a.toInt
  · exact h i h1 q
  · have e2 : i = a.toNatClampNeg := by rw [Int32.toNatClampNeg]; omega
    rw [e2, ← e]
    intro q9
    exact hr (by rw [q9]; decide)
theorem znok {r : Int32} (h1 : r.toInt ≠ 32) (h2 : r.toInt ≠ 10) (h3 : r.toInt < 97 ∨ 122 < r.toInt) (h4 : r.toInt < 48 ∨ 57 < r.toInt) (h5 : ¬ zmk r) : ¬ zokr r := by
  rintro (h | h | h | h | h)
  · exact h1 (by rw [h]; decide)
  · exact h2 (by rw [h]; decide)
  · omega
  · omega
  · exact h5 h
theorem zOK.z {F : Nat → va_E} {tp : Nat} {a : Int32} (h : a.toInt ≤ 0) : zOK F tp a := fun i hi => by omega
theorem zOK.le {F : Nat → va_E} {tp : Nat} {a b : Int32} (h : zOK F tp a) (hb : b.toInt ≤ a.toInt) : zOK F tp b := fun i hi => h i (by omega)
theorem zmk_no {c : Int32} (h : c.toInt ≠ 40 ∧ c.toInt ≠ 41 ∧ c.toInt ≠ 123 ∧ c.toInt ≠ 125 ∧ c.toInt ≠ 44 ∧ c.toInt ≠ 59 ∧ c.toInt ≠ 61 ∧ c.toInt ≠ 60 ∧ c.toInt ≠ 62 ∧ c.toInt ≠ 43 ∧ c.toInt ≠ 45 ∧ c.toInt ≠ 42) : ¬ zmk c := by
  rintro (q | q | q | q | q | q | q | q | q | q | q | q) <;> subst q <;> revert h <;> decide
section
variable {p : Program} {l : Launch} {e : Env} {R : Room} {s : State} {m : MethodId} {args : Array Value} {below : List Frame} {meth : Method} {c : Code} {H : Heap} {locs : List Loc} {cells slots : Nat} {Q : State → Prop}
variable {mc ms : Nat} {free : Addr → Prop} {A0 A1 : Nat → Prop} {H0 : Heap} {a : Array Value} {pc : Nat} {ls : Array Slot} {st0 rest : List Value}
theorem vy_calli {S SX : Type} {post : Int32 → S → Prop} {px : SX → Prop} {B : S → State → Prop} {BX : String → Addr → SX → State → Prop} {AX : Nat → Prop} (hr : vy_Run p l e R s m args below meth c H locs cells slots mc ms (F0 m pc ls st0) rest (va_Qi post B A1 a) (vy_X px BX AX) free) (hS : va_S A0 H0 H locs) (hA : ∀ q, q < H.size → A1 q → A0 q) (hf : ∀ q, free q → A0 q) (hAX : ∀ q, q < H.size → AX q → A0 q)
    (kx : ∀ (E : String) (ce : Cell) (q9 : Addr) (u : SX) (t : State) (H1 : Heap) (locs1 : List Loc), t.heap = H1 → s.vm.Alike t.vm → px u → BX E q9 u t → H.size ≤ H1.size → (∀ q : Nat, q < H.size → ¬ AX q → H1[q]? = H[q]?) → va_S A0 H0 H1 locs1 → H1[q9]? = some ce → ce.vm = .none → s.vm.findClass E = some ce.cls → vx_W p l e R s m args below meth c H1 locs1 (cells + mc) (slots + ms) Q (F0 m pc ls rest) q9)
    (kk : ∀ (r : Int32) (u : S) (t : State) (H1 : Heap) (locs1 : List Loc), t.heap = H1 → s.vm.Alike t.vm → post r u → B u t → H.size ≤ H1.size → (∀ q : Nat, q < H.size → ¬ A1 q → H1[q]? = H[q]?) → va_S A0 H0 H1 locs1 → W p l e R s m args below meth c H1 locs1 (cells + mc) (slots + ms) Q (F0 m (pc + 3) ls (.int r :: rest))) : W p l e R s m args below meth c H locs cells slots Q (F0 m pc ls st0) := by
  intro T hT X
  rcases hr T hT X with ⟨v, st₀, t, T', L, h0, X', hL, e1, e2, ⟨⟨r, u, hv, hp, hb⟩, hF⟩, st⟩ | ⟨q, st₀, t, T', L, E, ce, h0, X', hL, e1, e2, ⟨u, hp, hb, hF⟩, hce, hcv, hcl, st⟩
  · cases hv
    obtain ⟨k1, k2, k3⟩ := vx_keep h0 e1 hS hA hf hL hF
    obtain ⟨t2, a1, b1⟩ := kk r u t T'.heap (locs ++ L) e1.symm (by rw [← e2]; exact X'.warmed.alike) hp hb k1 k2 k3 T' rfl X'
    exact ⟨t2, st t2 a1, b1⟩
  · obtain ⟨k1, k2, k3⟩ := vx_keep h0 e1 hS hAX hf hL hF
    obtain ⟨t2, a1, b1⟩ := kx E ce q u t T'.heap (locs ++ L) e1.symm (by rw [← e2]; exact X'.warmed.alike) hp hb k1 k2 k3 (by rw [e1]; exact hce) hcv hcl T' rfl X'
    exact ⟨t2, st.trans a1, b1⟩
end
section
variable {p : Program} {l : Launch} {e : Env} {R : Room} {s : State} {m : MethodId} {args : Array Value} {below : List Frame} {meth : Method} {c : Code} {H : Heap} {locs : List Loc} {cells slots : Nat} {Q : State → Prop}
variable {mc ms : Nat} {free : Addr → Prop} {Qc : Array Value → State → Outcome → State → Prop} {XC : String → Addr → State → State → Prop}
theorem vy_ret {g : JFrame} {mc ms : Nat} (k : W p l e R s m args below meth c H locs cells slots (MQ below Qc args s mc ms free) g) : W p l e R s m args below meth c H locs cells slots (vy_MQ below Qc XC args s mc ms free) g := by
  intro T hT X
  obtain ⟨t, a1, o, b1, b2, b3, b4⟩ := k T hT X
  exact ⟨t, a1, o, b1, b2, Or.inl ⟨b3, b4⟩⟩
end
/-- what is known when the Stop at st is thrown -/
def zX (D : va_G) (k : Nat → ClassId) (Γ : Nat → Option Nat) (L : List Nat) (F : Nat → va_E) (M : List Nat) (st : Nat) : String → Addr → (Nat → va_E) → State → Prop := fun E q u t => E = RX13 ∧ q = st ∧ zQ D k Γ L F M u t
section
variable {p : Program} {l : Launch} {e : Env} {R : Room} {s : State} {m : MethodId} {args : Array Value} {below : List Frame} {meth : Method} {c : Code} {H : Heap} {locs : List Loc} {cells slots : Nat} {Q : State → Prop}
variable {cc : ByteArray} {pc nL : Nat} {ls : Array Slot} {rest st0 : List Value} {D : va_G} {k : Nat → ClassId} {Γ : Nat → Option Nat} {L : List Nat} {F F1 : Nat → va_E} {Ts : List Cond} {own C : String} {t b n index maxL st : Nat} {y : MethodName} {ws : List Cond} {rm : Room} {bytes : ByteArray} {ret : Option FieldType} {As : List Value} {M : List Nat} {q : u_T × Nat}
theorem z_cell (Z : zC p m c cc nL s args Ts own D k L) (h : zH D k Γ L s F H locs) (hst : Γ st = some 13) : ∃ ce : Cell, H[st]? = some ce ∧ ce.vm = .none ∧ s.vm.findClass RX13 = some ce.cls := by
  obtain ⟨-, hK, hLn, hE⟩ := Z
  obtain ⟨hP, hI, hS⟩ := h
  obtain ⟨hL, hO, -⟩ := hI st 13 hst
  obtain ⟨fs, hF, -, -⟩ := hO (by decide)
  obtain ⟨j, hj⟩ := va_pl_get (X := []) (f := F) hL
  rw [hF] at hj
  obtain ⟨r9, hr9, ce, hce, hcc, hcv, -⟩ := hP j _ hj
  exact ⟨ce, hce, hcv, by rw [hcc]; exact (hK.1 13 _ rfl).2.1⟩
theorem zx_out {Qc : Array Value → State → Outcome → State → Prop} {PX : (Nat → va_E) → Prop} (hpx : PX F1) (ht9 : ∀ x ∈ c.exceptionTable.toList, False) (hlocks : meth.locks = false) (h : zH D k Γ L s F1 H locs) (hf : zFr Γ M F F1) {ce : Cell} (hce : H[st]? = some ce) (hcv : ce.vm = .none) (hcl : s.vm.findClass RX13 = some ce.cls) :
    vx_W p l e R s m args below meth c H locs 0 0 (vy_MQ below Qc (vy_X PX (zX D k Γ L F M st) (zA L s.heap.size)) args s 0 0 (zA L s.heap.size)) (F0 m pc ls rest) st :=
  vy_out (E := RX13) (fun x hx => (ht9 x hx).elim) hlocks hce hcv hcl (fun t ht hW => ⟨F1, hpx, ⟨rfl, rfl, by rw [ht]; exact h.1, h.2.1, hf⟩, h.2.2.F ht⟩) h.2.2.2.2 (Nat.le_refl _) (Nat.le_refl _)
theorem zx_Vi {post : Int32 → (Nat → va_E) → Prop} {PX : (Nat → va_E) → Prop} (Z : zC p m c cc nL s args Ts own D k L) (h : zH D k Γ L s F H locs) (hM : vy_Met l y ws rm (va_Pc (.ref b :: As) (zP D k Γ L F H.size)) (va_Qi post (zQ D k Γ L F M) (zA L H.size)) (vy_X PX (zX D k Γ L F M st) (zA L H.size)) 0 0 (zA L H.size)) (cw : CallW R s args own C index y bytes maxL ret ws rm 0 0 n) (hb : Γ b = some t) (ht : t < 100) (hc : z_Cl[t]? = some (C, q)) (hn : As.length = n) (hsz : ls.size = nL) (hst : st0 = As.reverse ++ .ref b :: rest) (hW : (rest.map fun v => v.category).sum ≤ 8) (hdg : decode cc pc = .ok (.invokevirtual index, 3)) (hf : cells ≤ R.cells ∧ slots ≤ R.slots)
    (kx : ∀ (F1 : Nat → va_E) (H1 : Heap) (locs1 : List Loc), PX F1 → zH D k Γ L s F1 H1 locs1 → zFr Γ M F F1 → ∀ ce : Cell, H1[st]? = some ce → ce.vm = .none → s.vm.findClass RX13 = some ce.cls → vx_W p l e R s m args below meth c H1 locs1 cells slots Q (F0 m pc ls rest) st)
    (kk : ∀ (r : Int32) (F1 : Nat → va_E) (H1 : Heap) (locs1 : List Loc), post r F1 → zH D k Γ L s F1 H1 locs1 → zFr Γ M F F1 → W p l e R s m args below meth c H1 locs1 cells slots Q (F0 m (pc + 3) ls (.int r :: rest))) : W p l e R s m args below meth c H locs cells slots Q (F0 m pc ls st0) :=
  vy_calli (vy_runV (As := As) (rest := rest) Z.1 hM cw ⟨zP_blind, zP_recv Z h hb ht hc, zP_pre Z h⟩ rfl hn hsz hst (lv_room hW) hdg hf) h.2.2 (fun q _ g => zA_in h.2.2 q g) (zA_in h.2.2) (fun q _ g => zA_in h.2.2 q g)
    (fun E ce q9 u t H1 locs1 ht' _ hpx hBX _ _ hS hce hcv hcl => by
      obtain ⟨rfl, rfl, hB⟩ := hBX
      exact kx u H1 locs1 hpx ⟨by rw [← ht']; exact hB.1, hB.2.1, hS⟩ hB.2.2 ce hce hcv hcl)
    (fun r u t H1 locs1 ht _ hp hB _ _ hS => kk r u H1 locs1 hp ⟨by rw [← ht]; exact hB.1, hB.2.1, hS⟩ hB.2.2)
theorem zx_Vv {post : (Nat → va_E) → Prop} {PX : (Nat → va_E) → Prop} (Z : zC p m c cc nL s args Ts own D k L) (h : zH D k Γ L s F H locs) (hM : vy_Met l y ws rm (va_Pc (.ref b :: As) (zP D k Γ L F H.size)) (va_Qv post (zQ D k Γ L F M) (zA L H.size)) (vy_X PX (zX D k Γ L F M st) (zA L H.size)) 0 0 (zA L H.size)) (cw : CallW R s args own C index y bytes maxL ret ws rm 0 0 n) (hb : Γ b = some t) (ht : t < 100) (hc : z_Cl[t]? = some (C, q)) (hn : As.length = n) (hsz : ls.size = nL) (hst : st0 = As.reverse ++ .ref b :: rest) (hW : (rest.map fun v => v.category).sum ≤ 8) (hdg : decode cc pc = .ok (.invokevirtual index, 3)) (hf : cells ≤ R.cells ∧ slots ≤ R.slots)
    (kx : ∀ (F1 : Nat → va_E) (H1 : Heap) (locs1 : List Loc), PX F1 → zH D k Γ L s F1 H1 locs1 → zFr Γ M F F1 → ∀ ce : Cell, H1[st]? = some ce → ce.vm = .none → s.vm.findClass RX13 = some ce.cls → vx_W p l e R s m args below meth c H1 locs1 cells slots Q (F0 m pc ls rest) st)
    (kk : ∀ (F1 : Nat → va_E) (H1 : Heap) (locs1 : List Loc), post F1 → zH D k Γ L s F1 H1 locs1 → zFr Γ M F F1 → W p l e R s m args below meth c H1 locs1 cells slots Q (F0 m (pc + 3) ls (rest))) : W p l e R s m args below meth c H locs cells slots Q (F0 m pc ls st0) :=
  vy_callv (vy_runV (As := As) (rest := rest) Z.1 hM cw ⟨zP_blind, zP_recv Z h hb ht hc, zP_pre Z h⟩ rfl hn hsz hst (lv_room hW) hdg hf) h.2.2 (fun q _ g => zA_in h.2.2 q g) (zA_in h.2.2) (fun q _ g => zA_in h.2.2 q g)
    (fun E ce q9 u t H1 locs1 ht' _ hpx hBX _ _ hS hce hcv hcl => by
      obtain ⟨rfl, rfl, hB⟩ := hBX
      exact kx u H1 locs1 hpx ⟨by rw [← ht']; exact hB.1, hB.2.1, hS⟩ hB.2.2 ce hce hcv hcl)
    (fun u t H1 locs1 ht _ hp hB _ _ hS => kk u H1 locs1 hp ⟨by rw [← ht]; exact hB.1, hB.2.1, hS⟩ hB.2.2)
theorem zk_Vr {post : (Nat → va_E) → Prop} (Z : zC p m c cc nL s args Ts own D k L) (h : zH D k Γ L s F H locs) (hM : Met l y ws rm (va_Pc (.ref b :: As) (zP D k Γ L F H.size)) (va_Qr post (fun u a t => a = st ∧ zQ D k Γ L F M u t) (zA L H.size)) 0 0 (zA L H.size)) (cw : CallW R s args own C index y bytes maxL ret ws rm 0 0 n) (hb : Γ b = some t) (ht : t < 100) (hc : z_Cl[t]? = some (C, q)) (hn : As.length = n) (hsz : ls.size = nL) (hst : st0 = As.reverse ++ .ref b :: rest) (hW : (rest.map fun v => v.category).sum ≤ 8) (hdg : decode cc pc = .ok (.invokevirtual index, 3)) (hf : cells ≤ R.cells ∧ slots ≤ R.slots)
    (kk : ∀ (F1 : Nat → va_E) (H1 : Heap) (locs1 : List Loc), post F1 → zH D k Γ L s F1 H1 locs1 → zFr Γ M F F1 → W p l e R s m args below meth c H1 locs1 cells slots Q (F0 m (pc + 3) ls (.ref st :: rest))) : W p l e R s m args below meth c H locs cells slots Q (F0 m pc ls st0) :=
  va_callr (va_runV (As := As) (rest := rest) Z.1 hM cw ⟨zP_blind, zP_recv Z h hb ht hc, zP_pre Z h⟩ rfl hn hsz hst (lv_room hW) hdg hf) h.2.2 (fun q _ g => zA_in h.2.2 q g) (zA_in h.2.2) (fun u ra t H1 locs1 ht _ hp hB _ _ hS => by
    obtain ⟨rfl, hB⟩ := hB
    exact kk u H1 locs1 hp ⟨by rw [← ht]; exact hB.1, hB.2.1, hS⟩ hB.2.2)
theorem zk_VHv {post : (Nat → va_E) → Prop} {hh : List (Nat × Nat × Nat × Nat)} (Z : zC p m c cc nL s args Ts own D k L) (h : zH D k Γ L s F H locs) (hM : Met l y ws rm (va_Pc (.ref b :: As) (zP D k Γ L F H.size)) (va_Qv post (zQ D k Γ L F M) (zA L H.size)) 0 0 (zA L H.size)) (cw : vx_CVW R s args own C index y bytes maxL ret hh ws rm 0 0 n) (hb : Γ b = some t) (ht : t < 100) (hc : z_Cl[t]? = some (C, q)) (hn : As.length = n) (hsz : ls.size = nL) (hst : st0 = As.reverse ++ .ref b :: rest) (hW : (rest.map fun v => v.category).sum ≤ 8) (hdg : decode cc pc = .ok (.invokevirtual index, 3)) (hf : cells ≤ R.cells ∧ slots ≤ R.slots)
    (kk : ∀ (F1 : Nat → va_E) (H1 : Heap) (locs1 : List Loc), post F1 → zH D k Γ L s F1 H1 locs1 → zFr Γ M F F1 → W p l e R s m args below meth c H1 locs1 cells slots Q (F0 m (pc + 3) ls rest)) : W p l e R s m args below meth c H locs cells slots Q (F0 m pc ls st0) :=
  va_callv (vx_runVW (As := As) (rest := rest) Z.1 hM cw ⟨zP_blind, zP_recv Z h hb ht hc, zP_pre Z h⟩ rfl hn hsz hst (lv_room hW) hdg hf) h.2.2 (fun q _ g => zA_in h.2.2 q g) (zA_in h.2.2) (fun u t H1 locs1 ht _ hp hB _ _ hS => kk u H1 locs1 hp ⟨by rw [← ht]; exact hB.1, hB.2.1, hS⟩ hB.2.2)
end
section
variable {p : Program} {l : Launch} {e : Env} {R : Room} {s : State} {m : MethodId} {args : Array Value} {below : List Frame} {meth : Method} {c : Code} {H : Heap} {locs : List Loc} {cells slots : Nat} {Q : State → Prop}
variable {cc : ByteArray} {pc : Nat} {ls : Array Slot} {rest : List Value} {D : va_G} {cl : List vw_C} {A : Nat → Prop} {a : Nat} {tys : List (ClassId × FieldType)} {L : List Nat} {F : Nat → va_E} {H0 : Heap}
theorem zf_getN (hexec : p.tables.exec = Jvm.exec) (hb : c.code = cc) {own ref C host : String} {T : u_T} {N ci index : Nat} {Ts : List Cond} (hts : ∀ w ∈ Ts, w.before args s = true) (hin : ∀ w ∈ u_ws C T N, w ∈ Ts) (hown : s.vm.findClass own = some m.cls) (hK : va_K D cl tys s) (hP : va_P D cl (va_pl L F) H) (hm : a ∈ L) {fs : List Value} (hF : F a = .inr (ci, fs)) (hc : cl[ci]? = some (C, T, N)) (k : Nat) (hk : k < N) (hlink : (Cond.fieldLinkNest own index ref (T k).2.1 (T k).2.2.1 host).before args s = true) (hsame : ∀ x, s.fieldFound? (T k).1 (T k).2.1 (T k).2.2.1 = some x → s.fieldFound? ref (T k).2.1 (T k).2.2.1 = some x) {v : Value} (hv : fs[k]? = some v) (hdg : decode cc pc = .ok (.getfield index, 3))
    (kk : W p l e R s m args below meth c H locs cells slots Q (F0 m (pc + 3) ls (v :: rest))) : W p l e R s m args below meth c H locs cells slots Q (F0 m pc ls (.ref a :: rest)) := by
  obtain ⟨j, hj⟩ := va_pl_get (X := []) (f := F) hm
  rw [hF] at hj
  exact va_getN (ws := va_pl L F) hexec hb hts hin hown hK hP j hj hc k hk hlink hsame hv hdg kk
theorem zf_putN (hexec : p.tables.exec = Jvm.exec) (hb : c.code = cc) {own ref C host : String} {T : u_T} {N ci index : Nat} {Ts : List Cond} (hts : ∀ w ∈ Ts, w.before args s = true) (hin : ∀ w ∈ u_ws C T N, w ∈ Ts) (ty0 : Nat → FieldType) (hty : ∀ k, k < N → parseFieldDescriptor (T k).2.2.1 = some (ty0 k)) (hnm : ∀ a, a < N → ∀ b, b < N → a ≠ b → (T a).2.1 ≠ (T b).2.1) (hown : s.vm.findClass own = some m.cls) (hK : va_K D cl tys s) (hP : va_P D cl (va_pl L F) H) (hD : va_D A (va_pl L F)) (hS0 : va_S A H0 H locs) (hm : a ∈ L) {fs : List Value} (hF : F a = .inr (ci, fs)) (hc : cl[ci]? = some (C, T, N)) (k : Nat) (hk : k < N) (hlink : (Cond.fieldLinkNest own index ref (T k).2.1 (T k).2.2.1 host).before args s = true) (hsame : ∀ x, s.fieldFound? (T k).1 (T k).2.1 (T k).2.2.1 = some x → s.fieldFound? ref (T k).2.1 (T k).2.2.1 = some x) (hfin : (T k).2.2.2 = false) {ty : FieldType} {v : Value} (hd : parseFieldDescriptor (T k).2.2.1 = some ty) (hn : narrow ty v = v) (hfit : fits ty v = true) (hl : k < fs.length)
    (hdg : decode cc pc = .ok (.putfield index, 3)) (kk : ∀ (H1 : Heap) (locs1 : List Loc), va_P D cl (va_pl L (va_up F a (.inr (ci, fs.set k v)))) H1 → va_D A (va_pl L (va_up F a (.inr (ci, fs.set k v)))) → va_S A H0 H1 locs1 → W p l e R s m args below meth c H1 locs1 cells slots Q (F0 m (pc + 3) ls rest)) : W p l e R s m args below meth c H locs cells slots Q (F0 m pc ls (v :: .ref a :: rest)) := by
  obtain ⟨j, hj⟩ := va_pl_get (X := []) (f := F) hm
  have he := va_pl_set (X := []) (e := .inr (ci, fs.set k v)) hD hm hj
  rw [hF] at hj
  rw [List.nil_append, List.nil_append] at he
  exact va_putN (ws := va_pl L F) hexec hb hts hin ty0 hty hnm hown hK hP hD hS0 j hj hc k hk hlink hsame hfin hd hn hfit hl hdg (fun H1 locs1 g1 g2 g3 => kk H1 locs1 (by rw [← he]; exact g1) (by rw [← he]; exact g2) g3)
end
section
variable {p : Program} {l : Launch} {e : Env} {R : Room} {s : State} {m : MethodId} {args : Array Value} {below : List Frame} {meth : Method} {c : Code} {H : Heap} {locs : List Loc} {cells slots : Nat} {Q : State → Prop}
variable {cc : ByteArray} {pc nL : Nat} {ls : Array Slot} {rest st0 : List Value} {D : va_G} {k : Nat → ClassId} {Γ : Nat → Option Nat} {L : List Nat} {F : Nat → va_E} {Ts : List Cond} {own ref C host : String} {T : u_T} {N t a index : Nat} {lo hi : Int}
theorem zt_getN (Z : zC p m c cc nL s args Ts own D k L) (h : zH D k Γ L s F H locs) (ha : Γ a = some t) (hin : ∀ w ∈ u_ws C T N, w ∈ Ts) (hc : z_Cl[t]? = some (C, T, N)) (j : Nat) {q : Nat × Int × Int} (hq : (zsp t)[j]? = some q) (hn : t < 100 ∧ (zsp t).length = N) (hlink : va_Nw (Cond.fieldLinkNest own index ref (T j).2.1 (T j).2.2.1 host) s) (hsame : ∀ x, s.fieldFound? (T j).1 (T j).2.1 (T j).2.2.1 = some x → s.fieldFound? ref (T j).2.1 (T j).2.2.1 = some x) (hdg : decode cc pc = .ok (.getfield index, 3))
    (kk : ∀ v : Value, zfld F a j = v → zV Γ q v → W p l e R s m args below meth c H locs cells slots Q (F0 m (pc + 3) ls (v :: rest))) : W p l e R s m args below meth c H locs cells slots Q (F0 m pc ls (.ref a :: rest)) := by
  obtain ⟨⟨hx, hb, hml, hown, hts⟩, hK, hLn, hE⟩ := Z
  obtain ⟨hP, hI, hS⟩ := h
  obtain ⟨hL, hO, -⟩ := hI a t ha
  obtain ⟨fs, hF, hlen, hall⟩ := hO hn.1
  have hj : j < N := by rw [← hn.2]; exact (List.getElem?_eq_some_iff.mp hq).1
  exact zf_getN hx hb hts hin hown hK hP hL hF hc j hj (va_Nw.use rfl hlink) hsame (zfld_of hF (by rw [hlen, hn.2]; exact hj)) hdg (kk _ rfl (hall j q hq))
theorem zt_getkN (Z : zC p m c cc nL s args Ts own D k L) (h : zH D k Γ L s F H locs) (ha : Γ a = some t) (hin : ∀ w ∈ u_ws C T N, w ∈ Ts) (hc : z_Cl[t]? = some (C, T, N)) (j : Nat) {v : Value} (hv : zfld F a j = v) (hn : t < 100 ∧ (zsp t).length = N ∧ j < N) (hlink : va_Nw (Cond.fieldLinkNest own index ref (T j).2.1 (T j).2.2.1 host) s) (hsame : ∀ x, s.fieldFound? (T j).1 (T j).2.1 (T j).2.2.1 = some x → s.fieldFound? ref (T j).2.1 (T j).2.2.1 = some x) (hdg : decode cc pc = .ok (.getfield index, 3))
    (kk : W p l e R s m args below meth c H locs cells slots Q (F0 m (pc + 3) ls (v :: rest))) : W p l e R s m args below meth c H locs cells slots Q (F0 m pc ls (.ref a :: rest)) := by
  obtain ⟨⟨hx, hb, hml, hown, hts⟩, hK, hLn, hE⟩ := Z
  obtain ⟨hP, hI, hS⟩ := h
  obtain ⟨hL, hO, -⟩ := hI a t ha
  obtain ⟨fs, hF, hlen, hall⟩ := hO hn.1
  exact zf_getN hx hb hts hin hown hK hP hL hF hc j hn.2.2 (va_Nw.use rfl hlink) hsame (by rw [← hv]; exact zfld_of hF (by rw [hlen, hn.2.1]; exact hn.2.2)) hdg kk
theorem zt_putN (Z : zC p m c cc nL s args Ts own D k L) (h : zH D k Γ L s F H locs) (ha : Γ a = some t) (hin : ∀ w ∈ u_ws C T N, w ∈ Ts) (ty0 : Nat → FieldType) (hty : ∀ k, k < N → parseFieldDescriptor (T k).2.2.1 = some (ty0 k)) (hnm : ∀ a, a < N → ∀ b, b < N → a ≠ b → (T a).2.1 ≠ (T b).2.1) (hc : z_Cl[t]? = some (C, T, N)) (j : Nat) {q : Nat × Int × Int} (hq : (zsp t)[j]? = some q) (hn : t < 100 ∧ (zsp t).length = N) (hlink : va_Nw (Cond.fieldLinkNest own index ref (T j).2.1 (T j).2.2.1 host) s) (hsame : ∀ x, s.fieldFound? (T j).1 (T j).2.1 (T j).2.2.1 = some x → s.fieldFound? ref (T j).2.1 (T j).2.2.1 = some x) (hfin : (T j).2.2.2 = false)
    {v : Value} (hv : zV Γ q v) (hnar : narrow (ty0 j) v = v) (hfit : fits (ty0 j) v = true) (hdg : decode cc pc = .ok (.putfield index, 3))
    (kk : ∀ (H1 : Heap) (locs1 : List Loc) (F1 : Nat → va_E), zH D k Γ L s F1 H1 locs1 → zFr Γ [100 * t + j] F F1 → zfld F1 a j = v → W p l e R s m args below meth c H1 locs1 cells slots Q (F0 m (pc + 3) ls rest)) : W p l e R s m args below meth c H locs cells slots Q (F0 m pc ls (v :: .ref a :: rest)) := by
  obtain ⟨⟨hx, hb, hml, hown, hts⟩, hK, hLn, hE⟩ := Z
  obtain ⟨hP, hI, hS⟩ := h
  obtain ⟨hL, hO, -⟩ := hI a t ha
  obtain ⟨fs, hF, hlen, hall⟩ := hO hn.1
  have hj : j < N := by rw [← hn.2]; exact (List.getElem?_eq_some_iff.mp hq).1
  obtain ⟨g1, g2, g3⟩ := zO_put hI ha hF hn.1 hq hv
  exact zf_putN hx hb hts hin ty0 hty hnm hown hK hP (zD hLn) hS hL hF hc j hj (va_Nw.use rfl hlink) hsame hfin (hty j hj) hnar hfit (by rw [hlen, hn.2]; exact hj) hdg (fun H1 locs1 q1 _ q3 => kk H1 locs1 _ ⟨q1, g1, q3⟩ g2 g3)
theorem zt_getiN (Z : zC p m c cc nL s args Ts own D k L) (h : zH D k Γ L s F H locs) (ha : Γ a = some t) (hin : ∀ w ∈ u_ws C T N, w ∈ Ts) (hc : z_Cl[t]? = some (C, T, N)) (j : Nat) (hq : (zsp t)[j]? = some (0, lo, hi)) (hn : t < 100 ∧ (zsp t).length = N) (hlink : va_Nw (Cond.fieldLinkNest own index ref (T j).2.1 (T j).2.2.1 host) s) (hsame : ∀ x, s.fieldFound? (T j).1 (T j).2.1 (T j).2.2.1 = some x → s.fieldFound? ref (T j).2.1 (T j).2.2.1 = some x) (hdg : decode cc pc = .ok (.getfield index, 3))
    (kk : ∀ x : Int32, zfld F a j = .int x → zB lo hi x → W p l e R s m args below meth c H locs cells slots Q (F0 m (pc + 3) ls (.int x :: rest))) : W p l e R s m args below meth c H locs cells slots Q (F0 m pc ls (.ref a :: rest)) :=
  zt_getN Z h ha hin hc j hq hn hlink hsame hdg (fun v hv hz => by
    obtain ⟨x, rfl, bx⟩ := hz
    exact kk x hv bx)
theorem zt_getlN (Z : zC p m c cc nL s args Ts own D k L) (h : zH D k Γ L s F H locs) (ha : Γ a = some t) (hin : ∀ w ∈ u_ws C T N, w ∈ Ts) (hc : z_Cl[t]? = some (C, T, N)) (j : Nat) (hq : (zsp t)[j]? = some (1, lo, hi)) (hn : t < 100 ∧ (zsp t).length = N) (hlink : va_Nw (Cond.fieldLinkNest own index ref (T j).2.1 (T j).2.2.1 host) s) (hsame : ∀ x, s.fieldFound? (T j).1 (T j).2.1 (T j).2.2.1 = some x → s.fieldFound? ref (T j).2.1 (T j).2.2.1 = some x) (hdg : decode cc pc = .ok (.getfield index, 3))
    (kk : ∀ x : Int64, zfld F a j = .long x → W p l e R s m args below meth c H locs cells slots Q (F0 m (pc + 3) ls (.long x :: rest))) : W p l e R s m args below meth c H locs cells slots Q (F0 m pc ls (.ref a :: rest)) :=
  zt_getN Z h ha hin hc j hq hn hlink hsame hdg (fun v hv hz => by
    obtain ⟨x, rfl⟩ := hz
    exact kk x hv)
theorem zt_getrN {t1 : Nat} (Z : zC p m c cc nL s args Ts own D k L) (h : zH D k Γ L s F H locs) (ha : Γ a = some t) (hin : ∀ w ∈ u_ws C T N, w ∈ Ts) (hc : z_Cl[t]? = some (C, T, N)) (j : Nat) (hq : (zsp t)[j]? = some (2, (t1 : Int), hi)) (hn : t < 100 ∧ (zsp t).length = N) (hlink : va_Nw (Cond.fieldLinkNest own index ref (T j).2.1 (T j).2.2.1 host) s) (hsame : ∀ x, s.fieldFound? (T j).1 (T j).2.1 (T j).2.2.1 = some x → s.fieldFound? ref (T j).2.1 (T j).2.2.1 = some x) (hdg : decode cc pc = .ok (.getfield index, 3))
    (kk : ∀ b : Nat, zfld F a j = .ref b → Γ b = some t1 → W p l e R s m args below meth c H locs cells slots Q (F0 m (pc + 3) ls (.ref b :: rest))) : W p l e R s m args below meth c H locs cells slots Q (F0 m pc ls (.ref a :: rest)) :=
  zt_getN Z h ha hin hc j hq hn hlink hsame hdg (fun v hv hz => by
    obtain ⟨b, rfl, hb⟩ := hz
    exact kk b hv hb)
theorem zt_getnN {t1 : Nat} (Z : zC p m c cc nL s args Ts own D k L) (h : zH D k Γ L s F H locs) (ha : Γ a = some t) (hin : ∀ w ∈ u_ws C T N, w ∈ Ts) (hc : z_Cl[t]? = some (C, T, N)) (j : Nat) (hq : (zsp t)[j]? = some (3, (t1 : Int), hi)) (hn : t < 100 ∧ (zsp t).length = N) (hlink : va_Nw (Cond.fieldLinkNest own index ref (T j).2.1 (T j).2.2.1 host) s) (hsame : ∀ x, s.fieldFound? (T j).1 (T j).2.1 (T j).2.2.1 = some x → s.fieldFound? ref (T j).2.1 (T j).2.2.1 = some x) (hdg : decode cc pc = .ok (.getfield index, 3))
    (kn : zfld F a j = .null → W p l e R s m args below meth c H locs cells slots Q (F0 m (pc + 3) ls (.null :: rest))) (kk : ∀ b : Nat, zfld F a j = .ref b → Γ b = some t1 → W p l e R s m args below meth c H locs cells slots Q (F0 m (pc + 3) ls (.ref b :: rest))) : W p l e R s m args below meth c H locs cells slots Q (F0 m pc ls (.ref a :: rest)) :=
  zt_getN Z h ha hin hc j hq hn hlink hsame hdg (fun v hv hz => by
    rcases hz with rfl | ⟨b, rfl, hb⟩
    · exact kn hv
    · exact kk b hv hb)
end
theorem zn_0 {p : Program} {m : MethodId} {c : Code} {cc : ByteArray} {nL : Nat} {s : State} {args : Array Value} {Ts : List Cond} {own : String} {D : va_G} {k : Nat → ClassId} {L : List Nat} (Z : zC p m c cc nL s args Ts own D k L) : va_Nw (Cond.fieldLinkNest RX14 82 "LessonMakerModel$Stop" "kind" "I" "LessonMakerModel") s := Z.2.2.2.2.1 (Cond.fieldLinkNest RX14 82 "LessonMakerModel$Stop" "kind" "I" "LessonMakerModel") (List.mem_of_getElem? (i := 0) rfl)
theorem zn_1 {p : Program} {m : MethodId} {c : Code} {cc : ByteArray} {nL : Nat} {s : State} {args : Array Value} {Ts : List Cond} {own : String} {D : va_G} {k : Nat → ClassId} {L : List Nat} (Z : zC p m c cc nL s args Ts own D k L) : va_Nw (Cond.fieldLinkNest RX14 85 "LessonMakerModel$Stop" "place" "I" "LessonMakerModel") s := Z.2.2.2.2.1 (Cond.fieldLinkNest RX14 85 "LessonMakerModel$Stop" "place" "I" "LessonMakerModel") (List.mem_of_getElem? (i := 1) rfl)
theorem zn_2 {p : Program} {m : MethodId} {c : Code} {cc : ByteArray} {nL : Nat} {s : State} {args : Array Value} {Ts : List Cond} {own : String} {D : va_G} {k : Nat → ClassId} {L : List Nat} (Z : zC p m c cc nL s args Ts own D k L) : va_Nw (Cond.fieldLinkNest RX14 168 "LessonMakerModel$Program" "functions" "I" "LessonMakerModel") s := Z.2.2.2.2.1 (Cond.fieldLinkNest RX14 168 "LessonMakerModel$Program" "functions" "I" "LessonMakerModel") (List.mem_of_getElem? (i := 2) rfl)
theorem zn_3 {p : Program} {m : MethodId} {c : Code} {cc : ByteArray} {nL : Nat} {s : State} {args : Array Value} {Ts : List Cond} {own : String} {D : va_G} {k : Nat → ClassId} {L : List Nat} (Z : zC p m c cc nL s args Ts own D k L) : va_Nw (Cond.fieldLinkNest RX14 171 "LessonMakerModel$Program" "lines" "I" "LessonMakerModel") s := Z.2.2.2.2.1 (Cond.fieldLinkNest RX14 171 "LessonMakerModel$Program" "lines" "I" "LessonMakerModel") (List.mem_of_getElem? (i := 3) rfl)
theorem zn_4 {p : Program} {m : MethodId} {c : Code} {cc : ByteArray} {nL : Nat} {s : State} {args : Array Value} {Ts : List Cond} {own : String} {D : va_G} {k : Nat → ClassId} {L : List Nat} (Z : zC p m c cc nL s args Ts own D k L) : va_Nw (Cond.fieldLinkNest RX14 174 "LessonMakerModel$Program" "items" "I" "LessonMakerModel") s := Z.2.2.2.2.1 (Cond.fieldLinkNest RX14 174 "LessonMakerModel$Program" "items" "I" "LessonMakerModel") (List.mem_of_getElem? (i := 4) rfl)
theorem zn_5 {p : Program} {m : MethodId} {c : Code} {cc : ByteArray} {nL : Nat} {s : State} {args : Array Value} {Ts : List Cond} {own : String} {D : va_G} {k : Nat → ClassId} {L : List Nat} (Z : zC p m c cc nL s args Ts own D k L) : va_Nw (Cond.fieldLinkNest RX14 186 "LessonMakerModel$Program" "sign" "[I" "LessonMakerModel") s := Z.2.2.2.2.1 (Cond.fieldLinkNest RX14 186 "LessonMakerModel$Program" "sign" "[I" "LessonMakerModel") (List.mem_of_getElem? (i := 5) rfl)
theorem zn_6 {p : Program} {m : MethodId} {c : Code} {cc : ByteArray} {nL : Nat} {s : State} {args : Array Value} {Ts : List Cond} {own : String} {D : va_G} {k : Nat → ClassId} {L : List Nat} (Z : zC p m c cc nL s args Ts own D k L) : va_Nw (Cond.fieldLinkNest RX14 189 "LessonMakerModel$Program" "called" "[J" "LessonMakerModel") s := Z.2.2.2.2.1 (Cond.fieldLinkNest RX14 189 "LessonMakerModel$Program" "called" "[J" "LessonMakerModel") (List.mem_of_getElem? (i := 6) rfl)
theorem zn_7 {p : Program} {m : MethodId} {c : Code} {cc : ByteArray} {nL : Nat} {s : State} {args : Array Value} {Ts : List Cond} {own : String} {D : va_G} {k : Nat → ClassId} {L : List Nat} (Z : zC p m c cc nL s args Ts own D k L) : va_Nw (Cond.fieldLinkNest RX14 196 "LessonMakerModel$Program" "has" "[I" "LessonMakerModel") s := Z.2.2.2.2.1 (Cond.fieldLinkNest RX14 196 "LessonMakerModel$Program" "has" "[I" "LessonMakerModel") (List.mem_of_getElem? (i := 7) rfl)
theorem zn_8 {p : Program} {m : MethodId} {c : Code} {cc : ByteArray} {nL : Nat} {s : State} {args : Array Value} {Ts : List Cond} {own : String} {D : va_G} {k : Nat → ClassId} {L : List Nat} (Z : zC p m c cc nL s args Ts own D k L) : va_Nw (Cond.fieldLinkNest RX14 199 "LessonMakerModel$Program" "many2" "[I" "LessonMakerModel") s := Z.2.2.2.2.1 (Cond.fieldLinkNest RX14 199 "LessonMakerModel$Program" "many2" "[I" "LessonMakerModel") (List.mem_of_getElem? (i := 8) rfl)
theorem zn_9 {p : Program} {m : MethodId} {c : Code} {cc : ByteArray} {nL : Nat} {s : State} {args : Array Value} {Ts : List Cond} {own : String} {D : va_G} {k : Nat → ClassId} {L : List Nat} (Z : zC p m c cc nL s args Ts own D k L) : va_Nw (Cond.fieldLinkNest RX14 202 "LessonMakerModel$Program" "spot" "[I" "LessonMakerModel") s := Z.2.2.2.2.1 (Cond.fieldLinkNest RX14 202 "LessonMakerModel$Program" "spot" "[I" "LessonMakerModel") (List.mem_of_getElem? (i := 9) rfl)
theorem zn_10 {p : Program} {m : MethodId} {c : Code} {cc : ByteArray} {nL : Nat} {s : State} {args : Array Value} {Ts : List Cond} {own : String} {D : va_G} {k : Nat → ClassId} {L : List Nat} (Z : zC p m c cc nL s args Ts own D k L) : va_Nw (Cond.fieldLinkNest RX14 205 "LessonMakerModel$Program" "value" "[I" "LessonMakerModel") s := Z.2.2.2.2.1 (Cond.fieldLinkNest RX14 205 "LessonMakerModel$Program" "value" "[I" "LessonMakerModel") (List.mem_of_getElem? (i := 10) rfl)
theorem zn_11 {p : Program} {m : MethodId} {c : Code} {cc : ByteArray} {nL : Nat} {s : State} {args : Array Value} {Ts : List Cond} {own : String} {D : va_G} {k : Nat → ClassId} {L : List Nat} (Z : zC p m c cc nL s args Ts own D k L) : va_Nw (Cond.fieldLinkNest RX14 208 "LessonMakerModel$Program" "textFrom" "[I" "LessonMakerModel") s := Z.2.2.2.2.1 (Cond.fieldLinkNest RX14 208 "LessonMakerModel$Program" "textFrom" "[I" "LessonMakerModel") (List.mem_of_getElem? (i := 11) rfl)
theorem zn_12 {p : Program} {m : MethodId} {c : Code} {cc : ByteArray} {nL : Nat} {s : State} {args : Array Value} {Ts : List Cond} {own : String} {D : va_G} {k : Nat → ClassId} {L : List Nat} (Z : zC p m c cc nL s args Ts own D k L) : va_Nw (Cond.fieldLinkNest RX14 215 "LessonMakerModel$Program" "name" "[J" "LessonMakerModel") s := Z.2.2.2.2.1 (Cond.fieldLinkNest RX14 215 "LessonMakerModel$Program" "name" "[J" "LessonMakerModel") (List.mem_of_getElem? (i := 12) rfl)
theorem zn_13 {p : Program} {m : MethodId} {c : Code} {cc : ByteArray} {nL : Nat} {s : State} {args : Array Value} {Ts : List Cond} {own : String} {D : va_G} {k : Nat → ClassId} {L : List Nat} (Z : zC p m c cc nL s args Ts own D k L) : va_Nw (Cond.fieldLinkNest RX14 218 "LessonMakerModel$Program" "nameSize" "[I" "LessonMakerModel") s := Z.2.2.2.2.1 (Cond.fieldLinkNest RX14 218 "LessonMakerModel$Program" "nameSize" "[I" "LessonMakerModel") (List.mem_of_getElem? (i := 13) rfl)
theorem zn_14 {p : Program} {m : MethodId} {c : Code} {cc : ByteArray} {nL : Nat} {s : State} {args : Array Value} {Ts : List Cond} {own : String} {D : va_G} {k : Nat → ClassId} {L : List Nat} (Z : zC p m c cc nL s args Ts own D k L) : va_Nw (Cond.fieldLinkNest RX14 228 "LessonMakerModel$Program" "place" "[I" "LessonMakerModel") s := Z.2.2.2.2.1 (Cond.fieldLinkNest RX14 228 "LessonMakerModel$Program" "place" "[I" "LessonMakerModel") (List.mem_of_getElem? (i := 14) rfl)
theorem zn_15 {p : Program} {m : MethodId} {c : Code} {cc : ByteArray} {nL : Nat} {s : State} {args : Array Value} {Ts : List Cond} {own : String} {D : va_G} {k : Nat → ClassId} {L : List Nat} (Z : zC p m c cc nL s args Ts own D k L) : va_Nw (Cond.fieldLinkNest RX14 230 "LessonMakerModel$Program" "first" "[I" "LessonMakerModel") s := Z.2.2.2.2.1 (Cond.fieldLinkNest RX14 230 "LessonMakerModel$Program" "first" "[I" "LessonMakerModel") (List.mem_of_getElem? (i := 15) rfl)
theorem zn_16 {p : Program} {m : MethodId} {c : Code} {cc : ByteArray} {nL : Nat} {s : State} {args : Array Value} {Ts : List Cond} {own : String} {D : va_G} {k : Nat → ClassId} {L : List Nat} (Z : zC p m c cc nL s args Ts own D k L) : va_Nw (Cond.fieldLinkNest RX14 237 "LessonMakerModel$Program" "many" "[I" "LessonMakerModel") s := Z.2.2.2.2.1 (Cond.fieldLinkNest RX14 237 "LessonMakerModel$Program" "many" "[I" "LessonMakerModel") (List.mem_of_getElem? (i := 16) rfl)
theorem zn_17 {p : Program} {m : MethodId} {c : Code} {cc : ByteArray} {nL : Nat} {s : State} {args : Array Value} {Ts : List Cond} {own : String} {D : va_G} {k : Nat → ClassId} {L : List Nat} (Z : zC p m c cc nL s args Ts own D k L) : va_Nw (Cond.fieldLinkNest RX14 243 "LessonMakerModel$Program" "next" "[I" "LessonMakerModel") s := Z.2.2.2.2.1 (Cond.fieldLinkNest RX14 243 "LessonMakerModel$Program" "next" "[I" "LessonMakerModel") (List.mem_of_getElem? (i := 17) rfl)
theorem zn_18 {p : Program} {m : MethodId} {c : Code} {cc : ByteArray} {nL : Nat} {s : State} {args : Array Value} {Ts : List Cond} {own : String} {D : va_G} {k : Nat → ClassId} {L : List Nat} (Z : zC p m c cc nL s args Ts own D k L) : va_Nw (Cond.fieldLinkNest RX14 245 "LessonMakerModel$Program" "textTo" "[I" "LessonMakerModel") s := Z.2.2.2.2.1 (Cond.fieldLinkNest RX14 245 "LessonMakerModel$Program" "textTo" "[I" "LessonMakerModel") (List.mem_of_getElem? (i := 18) rfl)
theorem zn_19 {p : Program} {m : MethodId} {c : Code} {cc : ByteArray} {nL : Nat} {s : State} {args : Array Value} {Ts : List Cond} {own : String} {D : va_G} {k : Nat → ClassId} {L : List Nat} (Z : zC p m c cc nL s args Ts own D k L) : va_Nw (Cond.fieldLinkNest RX14 248 "LessonMakerModel$Program" "kind" "[I" "LessonMakerModel") s := Z.2.2.2.2.1 (Cond.fieldLinkNest RX14 248 "LessonMakerModel$Program" "kind" "[I" "LessonMakerModel") (List.mem_of_getElem? (i := 19) rfl)
theorem zn_20 {p : Program} {m : MethodId} {c : Code} {cc : ByteArray} {nL : Nat} {s : State} {args : Array Value} {Ts : List Cond} {own : String} {D : va_G} {k : Nat → ClassId} {L : List Nat} (Z : zC p m c cc nL s args Ts own D k L) : va_Nw (Cond.fieldLinkNest RX14 250 "LessonMakerModel$Program" "function" "[I" "LessonMakerModel") s := Z.2.2.2.2.1 (Cond.fieldLinkNest RX14 250 "LessonMakerModel$Program" "function" "[I" "LessonMakerModel") (List.mem_of_getElem? (i := 20) rfl)
theorem zn_21 {p : Program} {m : MethodId} {c : Code} {cc : ByteArray} {nL : Nat} {s : State} {args : Array Value} {Ts : List Cond} {own : String} {D : va_G} {k : Nat → ClassId} {L : List Nat} (Z : zC p m c cc nL s args Ts own D k L) : va_Nw (Cond.fieldLinkNest RX14 253 "LessonMakerModel$Program" "at" "[I" "LessonMakerModel") s := Z.2.2.2.2.1 (Cond.fieldLinkNest RX14 253 "LessonMakerModel$Program" "at" "[I" "LessonMakerModel") (List.mem_of_getElem? (i := 21) rfl)
theorem zn_22 {p : Program} {m : MethodId} {c : Code} {cc : ByteArray} {nL : Nat} {s : State} {args : Array Value} {Ts : List Cond} {own : String} {D : va_G} {k : Nat → ClassId} {L : List Nat} (Z : zC p m c cc nL s args Ts own D k L) : va_Nw (Cond.fieldLinkNest RX14 255 "LessonMakerModel$Program" "within" "[I" "LessonMakerModel") s := Z.2.2.2.2.1 (Cond.fieldLinkNest RX14 255 "LessonMakerModel$Program" "within" "[I" "LessonMakerModel") (List.mem_of_getElem? (i := 22) rfl)
theorem zn_23 {p : Program} {m : MethodId} {c : Code} {cc : ByteArray} {nL : Nat} {s : State} {args : Array Value} {Ts : List Cond} {own : String} {D : va_G} {k : Nat → ClassId} {L : List Nat} (Z : zC p m c cc nL s args Ts own D k L) : va_Nw (Cond.fieldLinkNest RX14 258 "LessonMakerModel$Program" "around" "[I" "LessonMakerModel") s := Z.2.2.2.2.1 (Cond.fieldLinkNest RX14 258 "LessonMakerModel$Program" "around" "[I" "LessonMakerModel") (List.mem_of_getElem? (i := 23) rfl)
theorem zn_24 {p : Program} {m : MethodId} {c : Code} {cc : ByteArray} {nL : Nat} {s : State} {args : Array Value} {Ts : List Cond} {own : String} {D : va_G} {k : Nat → ClassId} {L : List Nat} (Z : zC p m c cc nL s args Ts own D k L) : va_Nw (Cond.fieldLinkNest RX14 261 "LessonMakerModel$Program" "body" "[I" "LessonMakerModel") s := Z.2.2.2.2.1 (Cond.fieldLinkNest RX14 261 "LessonMakerModel$Program" "body" "[I" "LessonMakerModel") (List.mem_of_getElem? (i := 24) rfl)
theorem zn_25 {p : Program} {m : MethodId} {c : Code} {cc : ByteArray} {nL : Nat} {s : State} {args : Array Value} {Ts : List Cond} {own : String} {D : va_G} {k : Nat → ClassId} {L : List Nat} (Z : zC p m c cc nL s args Ts own D k L) : va_Nw (Cond.fieldLinkNest RX14 264 "LessonMakerModel$Program" "other" "[I" "LessonMakerModel") s := Z.2.2.2.2.1 (Cond.fieldLinkNest RX14 264 "LessonMakerModel$Program" "other" "[I" "LessonMakerModel") (List.mem_of_getElem? (i := 25) rfl)
theorem zn_26 {p : Program} {m : MethodId} {c : Code} {cc : ByteArray} {nL : Nat} {s : State} {args : Array Value} {Ts : List Cond} {own : String} {D : va_G} {k : Nat → ClassId} {L : List Nat} (Z : zC p m c cc nL s args Ts own D k L) : va_Nw (Cond.fieldLinkNest RX14 267 "LessonMakerModel$Program" "to" "[I" "LessonMakerModel") s := Z.2.2.2.2.1 (Cond.fieldLinkNest RX14 267 "LessonMakerModel$Program" "to" "[I" "LessonMakerModel") (List.mem_of_getElem? (i := 26) rfl)
theorem zn_27 {p : Program} {m : MethodId} {c : Code} {cc : ByteArray} {nL : Nat} {s : State} {args : Array Value} {Ts : List Cond} {own : String} {D : va_G} {k : Nat → ClassId} {L : List Nat} (Z : zC p m c cc nL s args Ts own D k L) : va_Nw (Cond.fieldLinkNest RX14 270 "LessonMakerModel$Program" "from" "[I" "LessonMakerModel") s := Z.2.2.2.2.1 (Cond.fieldLinkNest RX14 270 "LessonMakerModel$Program" "from" "[I" "LessonMakerModel") (List.mem_of_getElem? (i := 27) rfl)
theorem zn_28 {p : Program} {m : MethodId} {c : Code} {cc : ByteArray} {nL : Nat} {s : State} {args : Array Value} {Ts : List Cond} {own : String} {D : va_G} {k : Nat → ClassId} {L : List Nat} (Z : zC p m c cc nL s args Ts own D k L) : va_Nw (Cond.fieldLinkNest RX14 280 "LessonMakerModel$Program" "end" "[I" "LessonMakerModel") s := Z.2.2.2.2.1 (Cond.fieldLinkNest RX14 280 "LessonMakerModel$Program" "end" "[I" "LessonMakerModel") (List.mem_of_getElem? (i := 28) rfl)
theorem zn_29 {p : Program} {m : MethodId} {c : Code} {cc : ByteArray} {nL : Nat} {s : State} {args : Array Value} {Ts : List Cond} {own : String} {D : va_G} {k : Nat → ClassId} {L : List Nat} (Z : zC p m c cc nL s args Ts own D k L) : va_Nw (Cond.fieldLinkNest RX14 295 "LessonMakerModel$Program" "texts" "I" "LessonMakerModel") s := Z.2.2.2.2.1 (Cond.fieldLinkNest RX14 295 "LessonMakerModel$Program" "texts" "I" "LessonMakerModel") (List.mem_of_getElem? (i := 29) rfl)
theorem zn_30 {p : Program} {m : MethodId} {c : Code} {cc : ByteArray} {nL : Nat} {s : State} {args : Array Value} {Ts : List Cond} {own : String} {D : va_G} {k : Nat → ClassId} {L : List Nat} (Z : zC p m c cc nL s args Ts own D k L) : va_Nw (Cond.fieldLinkNest RX14 298 "LessonMakerModel$Program" "text" "[B" "LessonMakerModel") s := Z.2.2.2.2.1 (Cond.fieldLinkNest RX14 298 "LessonMakerModel$Program" "text" "[B" "LessonMakerModel") (List.mem_of_getElem? (i := 30) rfl)
theorem zn_31 {p : Program} {m : MethodId} {c : Code} {cc : ByteArray} {nL : Nat} {s : State} {args : Array Value} {Ts : List Cond} {own : String} {D : va_G} {k : Nat → ClassId} {L : List Nat} (Z : zC p m c cc nL s args Ts own D k L) : va_Nw (Cond.fieldLinkNest RX14 301 "LessonMakerModel$Program" "calls" "[I" "LessonMakerModel") s := Z.2.2.2.2.1 (Cond.fieldLinkNest RX14 301 "LessonMakerModel$Program" "calls" "[I" "LessonMakerModel") (List.mem_of_getElem? (i := 31) rfl)
theorem zn_32 {p : Program} {m : MethodId} {c : Code} {cc : ByteArray} {nL : Nat} {s : State} {args : Array Value} {Ts : List Cond} {own : String} {D : va_G} {k : Nat → ClassId} {L : List Nat} (Z : zC p m c cc nL s args Ts own D k L) : va_Nw (Cond.fieldLinkNest RX14 350 "LessonMakerModel$Run" "end" "I" "LessonMakerModel") s := Z.2.2.2.2.1 (Cond.fieldLinkNest RX14 350 "LessonMakerModel$Run" "end" "I" "LessonMakerModel") (List.mem_of_getElem? (i := 32) rfl)
theorem zn_33 {p : Program} {m : MethodId} {c : Code} {cc : ByteArray} {nL : Nat} {s : State} {args : Array Value} {Ts : List Cond} {own : String} {D : va_G} {k : Nat → ClassId} {L : List Nat} (Z : zC p m c cc nL s args Ts own D k L) : va_Nw (Cond.fieldLinkNest RX14 352 "LessonMakerModel$Run" "value" "I" "LessonMakerModel") s := Z.2.2.2.2.1 (Cond.fieldLinkNest RX14 352 "LessonMakerModel$Run" "value" "I" "LessonMakerModel") (List.mem_of_getElem? (i := 33) rfl)
theorem zn_34 {p : Program} {m : MethodId} {c : Code} {cc : ByteArray} {nL : Nat} {s : State} {args : Array Value} {Ts : List Cond} {own : String} {D : va_G} {k : Nat → ClassId} {L : List Nat} (Z : zC p m c cc nL s args Ts own D k L) : va_Nw (Cond.fieldLinkNest RX14 354 "LessonMakerModel$Run" "steps" "I" "LessonMakerModel") s := Z.2.2.2.2.1 (Cond.fieldLinkNest RX14 354 "LessonMakerModel$Run" "steps" "I" "LessonMakerModel") (List.mem_of_getElem? (i := 34) rfl)
theorem zn_35 {p : Program} {m : MethodId} {c : Code} {cc : ByteArray} {nL : Nat} {s : State} {args : Array Value} {Ts : List Cond} {own : String} {D : va_G} {k : Nat → ClassId} {L : List Nat} (Z : zC p m c cc nL s args Ts own D k L) : va_Nw (Cond.fieldLinkNest RX14 357 "LessonMakerModel$Run" "saids" "I" "LessonMakerModel") s := Z.2.2.2.2.1 (Cond.fieldLinkNest RX14 357 "LessonMakerModel$Run" "saids" "I" "LessonMakerModel") (List.mem_of_getElem? (i := 35) rfl)
theorem zn_36 {p : Program} {m : MethodId} {c : Code} {cc : ByteArray} {nL : Nat} {s : State} {args : Array Value} {Ts : List Cond} {own : String} {D : va_G} {k : Nat → ClassId} {L : List Nat} (Z : zC p m c cc nL s args Ts own D k L) : va_Nw (Cond.fieldLinkNest RX14 360 "LessonMakerModel$Run" "traces" "I" "LessonMakerModel") s := Z.2.2.2.2.1 (Cond.fieldLinkNest RX14 360 "LessonMakerModel$Run" "traces" "I" "LessonMakerModel") (List.mem_of_getElem? (i := 36) rfl)
theorem zn_37 {p : Program} {m : MethodId} {c : Code} {cc : ByteArray} {nL : Nat} {s : State} {args : Array Value} {Ts : List Cond} {own : String} {D : va_G} {k : Nat → ClassId} {L : List Nat} (Z : zC p m c cc nL s args Ts own D k L) : va_Nw (Cond.fieldLinkNest RX14 363 "LessonMakerModel$Run" "most" "I" "LessonMakerModel") s := Z.2.2.2.2.1 (Cond.fieldLinkNest RX14 363 "LessonMakerModel$Run" "most" "I" "LessonMakerModel") (List.mem_of_getElem? (i := 37) rfl)
theorem zn_38 {p : Program} {m : MethodId} {c : Code} {cc : ByteArray} {nL : Nat} {s : State} {args : Array Value} {Ts : List Cond} {own : String} {D : va_G} {k : Nat → ClassId} {L : List Nat} (Z : zC p m c cc nL s args Ts own D k L) : va_Nw (Cond.fieldLinkNest RX14 366 "LessonMakerModel$Run" "covered" "J" "LessonMakerModel") s := Z.2.2.2.2.1 (Cond.fieldLinkNest RX14 366 "LessonMakerModel$Run" "covered" "J" "LessonMakerModel") (List.mem_of_getElem? (i := 38) rfl)
theorem zn_39 {p : Program} {m : MethodId} {c : Code} {cc : ByteArray} {nL : Nat} {s : State} {args : Array Value} {Ts : List Cond} {own : String} {D : va_G} {k : Nat → ClassId} {L : List Nat} (Z : zC p m c cc nL s args Ts own D k L) : va_Nw (Cond.fieldLinkNest RX14 382 "LessonMakerModel$Run" "places" "[I" "LessonMakerModel") s := Z.2.2.2.2.1 (Cond.fieldLinkNest RX14 382 "LessonMakerModel$Run" "places" "[I" "LessonMakerModel") (List.mem_of_getElem? (i := 39) rfl)
theorem zn_40 {p : Program} {m : MethodId} {c : Code} {cc : ByteArray} {nL : Nat} {s : State} {args : Array Value} {Ts : List Cond} {own : String} {D : va_G} {k : Nat → ClassId} {L : List Nat} (Z : zC p m c cc nL s args Ts own D k L) : va_Nw (Cond.fieldLinkNest RX14 397 "LessonMakerModel$Run" "said" "[I" "LessonMakerModel") s := Z.2.2.2.2.1 (Cond.fieldLinkNest RX14 397 "LessonMakerModel$Run" "said" "[I" "LessonMakerModel") (List.mem_of_getElem? (i := 40) rfl)
theorem zn_41 {p : Program} {m : MethodId} {c : Code} {cc : ByteArray} {nL : Nat} {s : State} {args : Array Value} {Ts : List Cond} {own : String} {D : va_G} {k : Nat → ClassId} {L : List Nat} (Z : zC p m c cc nL s args Ts own D k L) : va_Nw (Cond.fieldLinkNest RX14 400 "LessonMakerModel$Run" "trace" "[I" "LessonMakerModel") s := Z.2.2.2.2.1 (Cond.fieldLinkNest RX14 400 "LessonMakerModel$Run" "trace" "[I" "LessonMakerModel") (List.mem_of_getElem? (i := 41) rfl)
section
variable {p : Program} {l : Launch} {e : Env} {R : Room} {s : State} {m : MethodId} {args : Array Value} {below : List Frame} {meth : Method} {c : Code} {H : Heap} {locs : List Loc} {cells slots : Nat} {Q : State → Prop}
variable {cc : ByteArray} {pc nL : Nat} {ls : Array Slot} {rest st0 : List Value} {D : va_G} {k : Nat → ClassId} {Γ : Nat → Option Nat} {L : List Nat} {F : Nat → va_E} {Ts : List Cond} {own : String} {t a n : Nat} {lo hi : Int} {i : Int32} {b0 b1 : Int}
end
theorem zmk_of {c : Int32} (h : c.toInt = 40 ∨ c.toInt = 41 ∨ c.toInt = 123 ∨ c.toInt = 125 ∨ c.toInt = 44 ∨ c.toInt = 59 ∨ c.toInt = 61 ∨ c.toInt = 60 ∨ c.toInt = 62 ∨ c.toInt = 43 ∨ c.toInt = 45 ∨ c.toInt = 42) : zmk c := by
  have k : ∀ v : Int32, c.toInt = v.toInt → c = v := fun v e => Int32.toInt_inj.mp e
  unfold zmk
  rcases h with h | h | h | h | h | h | h | h | h | h | h | h
  · exact Or.inl (k 40 h)
  · exact Or.inr (Or.inl (k 41 h))
  · exact Or.inr (Or.inr (Or.inl (k 123 h)))
  · exact Or.inr (Or.inr (Or.inr (Or.inl (k 125 h))))
  · exact Or.inr (Or.inr (Or.inr (Or.inr (Or.inl (k 44 h)))))
  · exact Or.inr (Or.inr (Or.inr (Or.inr (Or.inr (Or.inl (k 59 h))))))
  · exact Or.inr (Or.inr (Or.inr (Or.inr (Or.inr (Or.inr (Or.inl (k 61 h)))))))
  · exact Or.inr (Or.inr (Or.inr (Or.inr (Or.inr (Or.inr (Or.inr (Or.inl (k 60 h))))))))
  · exact Or.inr (Or.inr (Or.inr (Or.inr (Or.inr (Or.inr (Or.inr (Or.inr (Or.inl (k 62 h)))))))))
  · exact Or.inr (Or.inr (Or.inr (Or.inr (Or.inr (Or.inr (Or.inr (Or.inr (Or.inr (Or.inl (k 43 h))))))))))
  · exact Or.inr (Or.inr (Or.inr (Or.inr (Or.inr (Or.inr (Or.inr (Or.inr (Or.inr (Or.inr (Or.inl (k 45 h)))))))))))
  · exact Or.inr (Or.inr (Or.inr (Or.inr (Or.inr (Or.inr (Or.inr (Or.inr (Or.inr (Or.inr (Or.inr (k 42 h)))))))))))
theorem zokr_ws {r : Int32} (h : r.toInt = 32 ∨ r.toInt = 10) : zokr r := by
  rcases h with h | h
  · exact Or.inl (Int32.toInt_inj.mp h)
  · exact Or.inr (Or.inl (Int32.toInt_inj.mp h))
theorem zokr_le {r : Int32} (h : 97 ≤ r.toInt ∧ r.toInt ≤ 122) : zokr r := Or.inr (Or.inr (Or.inl h))
theorem zokr_di {r : Int32} (h : 48 ≤ r.toInt ∧ r.toInt ≤ 57) : zokr r := Or.inr (Or.inr (Or.inr (Or.inl h)))
theorem zokr_mk {r : Int32} (h : zmk r) : zokr r := Or.inr (Or.inr (Or.inr (Or.inr h)))
theorem z_again {f : Nat → Int32} {a b c r : Int32} (e1 : c = f (Int32.toNatClampNeg b) &&& 255) (e2 : r = f (Int32.toNatClampNeg a) &&& 255) (h : a.toInt = b.toInt) : r.toInt = c.toInt := by
  have : a = b := Int32.toInt_inj.mp h
  rw [e2, e1, this]
theorem z_nec {lo hi : Int} {x c : Int32} (h : zB lo hi x) (hc : c.toInt < lo ∨ hi < c.toInt) : x ≠ c := fun q => by
  have h1 := h.1
  have h2 := h.2
  rw [q] at h1 h2
  omega
theorem z_l2i {x : Int64} {y : Int32} (e : y = x.toInt32) (h : -2147483648 ≤ x.toInt ∧ x.toInt ≤ 2147483647) : y.toInt = x.toInt := by
  rw [e, Int64.toInt_toInt32]
  exact z_bmod h
theorem z_lle {x y : Int64} {z : Int32} (e : z = lg_cmp x y) (h : z.toInt ≤ 0) : x.toInt ≤ y.toInt := by
  have h1 : lg_cmp x y ≤ 0 := by
    rw [Int32.le_iff_toInt_le, ← e]
    exact h
  exact Int64.le_iff_toInt_le.mp ((lg_cmp_le x y).mp h1)
theorem z_word1 {g0 g1 g2 g : Int64} {x : Int32} (h0 : g0 = 0) (e1 : g1 = 32 * g0) (e2 : g2 = x.toInt64) (e3 : g = g1 + g2) (bx : zB 1 26 x) : 1 ≤ g.toInt := by
  subst h0
  subst e1
  subst e2
  have e : g = x.toInt64 := by
    rw [e3]
    apply Int64.toInt_inj.mp
    simp
  rw [e, Int32.toInt_toInt64]
  exact bx.1
theorem z_bitm {k x1 x2 : Int32} (h1 : x1 = k - 1) (h2 : x2 = k &&& x1) (hc : k.toInt ≠ (0 : Int32).toInt) : x2.toBitVec.toNat < k.toBitVec.toNat := by
  have hk : k.toBitVec.toNat ≠ 0 := fun q => hc (by
    have : k = 0 := Int32.toBitVec_inj.mp (BitVec.eq_of_toNat_eq (by rw [q]; rfl))
    rw [this])
  have e : x2.toBitVec = k.toBitVec &&& (k.toBitVec - 1) := by
    rw [h2, h1]
    rfl
  rw [e, BitVec.toNat_and]
  have h9 : (k.toBitVec - 1).toNat = k.toBitVec.toNat - 1 := by
    have := k.toBitVec.isLt
    rw [BitVec.toNat_sub]
    have e1 : (1 : BitVec 32).toNat = 1 := rfl
    rw [e1]
    omega
  rw [h9]
  have := Nat.and_le_right (n := k.toBitVec.toNat) (m := k.toBitVec.toNat - 1)
  omega
theorem zEm.cd {F u : Nat → va_E} {sp a b b' d d' c c' : Nat} (h : zEm F u sp a b d c) (hb : b' = b) (hd : d' = d) (hc : c ≤ c') : zEm F u sp a b' d' c' := by
  subst hb
  subst hd
  exact h.w hc
theorem zSt0 {v m : Int32} {h : Nat} : zStep 0 v m h (h + 1) := Or.inl ⟨rfl, rfl⟩
theorem zSt1 {v m : Int32} {h : Nat} (b : zB 0 7 v) : zStep 1 v m h (h + 1) := Or.inr (Or.inl ⟨rfl, b.1, b.2, rfl⟩)
theorem zSt5 {v m : Int32} {h h' n : Nat} (e : m.toInt = n) (h1 : n ≤ h) (h2 : h' + n = h + 1) : zStep 5 v m h h' := Or.inr (Or.inr (Or.inl ⟨rfl, n, e, h1, h2⟩))
theorem zSt5u {g f : Nat → Int32} {i : Nat} {x v : Int32} {h h' : Nat} (e : g = upd f i x) (h0 : 0 ≤ x.toInt) (h1 : x.toNatClampNeg ≤ h) (h2 : h' + x.toNatClampNeg = h + 1) : zStep 5 v (g i) h h' := by
  have e1 : g i = x := by
    rw [e]
    exact if_pos rfl
  rw [e1]
  exact zSt5 (z_cl h0).symm h1 h2
theorem zSt2 {s v m : Int32} {h h' : Nat} {lo hi : Int} (b : zB lo hi s) (hl : 1 < lo) (hx : hi < 5 ∨ 5 < lo) (h1 : 2 ≤ h) (h2 : h' + 1 = h) : zStep s v m h h' := by
  have e0 : (0 : Int32).toInt = 0 := by decide
  have e1 : (1 : Int32).toInt = 1 := by decide
  have e5 : (5 : Int32).toInt = 5 := by decide
  exact Or.inr (Or.inr (Or.inr ⟨z_nec b (by omega), z_nec b (by omega), z_nec b (by omega), h1, h2⟩))
