/-- the calls among the items that were read since -/
def zMc (Γ : Nat → Option Nat) (F u : Nat → va_E) (sp : Nat) (T : zTS) (σ σ' : zSg) : Prop := ∃ it it' : Int32, zfld F sp 2 = .int it ∧ zfld u sp 2 = .int it' ∧ (0 ≤ it.toInt ∧ it.toInt ≤ it'.toInt) ∧ zSA Γ u sp ∧ (∀ q : Nat, (q : Int) < it.toInt → zar u sp 24 q = zar F sp 24 q ∧ zar u sp 26 q = zar F sp 26 q ∧ zal u sp 28 q = zal F sp 28 q) ∧ ∀ j d', σ' = .inl (j, d') → ∃ i d new, σ = .inl (i, d) ∧ zcs d' = zcs d ++ new ∧ (∀ e ∈ new, ∃ q : Nat, it.toInt ≤ (q : Int) ∧ (q : Int) < it'.toInt ∧ zar u sp 24 q = 5 ∧ (zal u sp 28 q).toInt = T.2.2 e.1 ∧ (zar u sp 26 q).toInt = (e.2.1 : Int)) ∧ ∀ q : Nat, it.toInt ≤ (q : Int) → (q : Int) < it'.toInt → zar u sp 24 q = 5 → ∃ e ∈ new, (zal u sp 28 q).toInt = T.2.2 e.1 ∧ (zar u sp 26 q).toInt = (e.2.1 : Int)
theorem zMc.rf {Γ : Nat → Option Nat} {F : Nat → va_E} {sp : Nat} {T : zTS} {σ : zSg} {it : Int32} (k : zfld F sp 2 = .int it) (h0 : 0 ≤ it.toInt) (hA : zSA Γ F sp) : zMc Γ F F sp T σ σ :=
  ⟨it, it, k, k, ⟨h0, Int.le_refl _⟩, hA, fun _ _ => ⟨rfl, rfl, rfl⟩, fun j d' e => ⟨j, d', [], e, (List.append_nil _).symm, fun e he => (by cases he), fun q h1 h2 => by omega⟩⟩
theorem zMc.call {Γ : Nat → Option Nat} {F u v : Nat → va_E} {sp : Nat} {T : zTS} {σ σ1 σ2 : zSg} (h : zMc Γ F u sp T σ σ1) (h1 : zMc Γ u v sp T σ1 σ2) : zMc Γ F v sp T σ σ2 := by
  obtain ⟨it, i1, k1, k2, k3, k4, k5, k6⟩ := h
  obtain ⟨i1', i2, g1, g2, g3, g4, g5, g6⟩ := h1
  cases z_vi k2 g1
  refine ⟨it, i2, k1, g2, ⟨k3.1, by omega⟩, g4, fun q hq => ?_, fun j d' e => ?_⟩
  · obtain ⟨a1, a2, a3⟩ := k5 q hq
    obtain ⟨b1, b2, b3⟩ := g5 q (by omega)
    exact ⟨b1.trans a1, b2.trans a2, b3.trans a3⟩
  · obtain ⟨i, d, new, e1, e2, e3, e4⟩ := g6 j d' e
    obtain ⟨i', d0, new', f1, f2, f3, f4⟩ := k6 i d e1
    refine ⟨i', d0, new' ++ new, f1, by rw [e2, f2, List.append_assoc], fun e9 h9 => ?_, fun q h1 h2 h3 => ?_⟩
    · rcases List.mem_append.mp h9 with h9 | h9
      · obtain ⟨q, a1, a2, a3, a4, a5⟩ := f3 e9 h9
        obtain ⟨b1, b2, b3⟩ := g5 q a2
        exact ⟨q, a1, by omega, b1.trans a3, by rw [b3]; exact a4, by rw [b2]; exact a5⟩
      · obtain ⟨q, a1, a2, a3⟩ := e3 e9 h9
        exact ⟨q, by omega, a2, a3⟩
    · by_cases c : (q : Int) < i1.toInt
      · obtain ⟨b1, b2, b3⟩ := g5 q c
        obtain ⟨e9, a1, a2, a3⟩ := f4 q h1 c (b1.symm.trans h3)
        exact ⟨e9, List.mem_append_left _ a1, by rw [b3]; exact a2, by rw [b2]; exact a3⟩
      · obtain ⟨e9, a1, a2⟩ := e4 q (by omega) h2 h3
        exact ⟨e9, List.mem_append_right _ a1, a2⟩
theorem zMc.mv {Γ : Nat → Option Nat} {M : List Nat} {F u v : Nat → va_E} {sp : Nat} {T : zTS} {σ σ1 σ2 : zSg} (h : zMc Γ F u sp T σ σ1) (hA : zSA Γ u sp) (hf : zFr Γ M u v) (hM : (∀ j, j < 30 → 4 ≤ j → 1100 + j ∉ M) ∧ 1102 ∉ M ∧ 14400 ∉ M ∧ 14600 ∉ M ∧ 14800 ∉ M) (hs : ∀ j d', σ2 = .inl (j, d') → ∃ i d, σ1 = .inl (i, d) ∧ i ≤ j ∧ zcs d' = zcs d ∧ zNc d d') : zMc Γ F v sp T σ σ2 := by
  obtain ⟨it, i1, k1, k2, k3, k4, k5, k6⟩ := h
  have e4 := k4.ar hf 24 ⟨by decide, by decide, hM.1 24 (by decide) (by decide), hM.2.2.1⟩
  have e6 := k4.ar hf 26 ⟨by decide, by decide, hM.1 26 (by decide) (by decide), hM.2.2.2.1⟩
  have e8 := k4.al hf 28 ⟨by decide, by decide, hM.1 28 (by decide) (by decide), hM.2.2.2.2⟩
  refine ⟨it, i1, k1, hf.f k4.1 2 ⟨by decide, hM.2.1⟩ k2, k3, k4.fr hf hM.1, fun q hq => ?_, fun j d' e => ?_⟩
  · rw [e4, e6, e8]
    exact k5 q hq
  · obtain ⟨i, d, e1, -, ec, -⟩ := hs j d' e
    obtain ⟨i', d0, new', f1, f2, f3, f4⟩ := k6 i d e1
    rw [e4, e6, e8]
    exact ⟨i', d0, new', f1, ec.trans f2, f3, f4⟩
theorem zMc.fr {Γ : Nat → Option Nat} {M : List Nat} {F u v : Nat → va_E} {sp : Nat} {T : zTS} {σ σ1 : zSg} (h : zMc Γ F u sp T σ σ1) (hA : zSA Γ u sp) (hf : zFr Γ M u v) (hM : (∀ j, j < 30 → 4 ≤ j → 1100 + j ∉ M) ∧ 1102 ∉ M ∧ 14400 ∉ M ∧ 14600 ∉ M ∧ 14800 ∉ M) : zMc Γ F v sp T σ σ1 := h.mv hA hf hM zsm.rf.cs
/-- an item that is no call -/
theorem zMc.put {Γ : Nat → Option Nat} {F u v : Nat → va_E} {sp : Nat} {T : zTS} {σ σ1 : zSg} {i i' s9 : Int32} (h : zMc Γ F u sp T σ σ1) (k : zfld u sp 2 = .int i) (k' : zfld v sp 2 = .int i') (ei : i'.toInt = i.toInt + 1) (hA : zSA Γ v sp) (e4 : zar v sp 24 = upd (zar u sp 24) i.toNatClampNeg s9) (e6 : zar v sp 26 = zar u sp 26) (e8 : zal v sp 28 = zal u sp 28) (hs : s9 ≠ 5) : zMc Γ F v sp T σ σ1 := by
  obtain ⟨it, i1, k1, k2, k3, k4, k5, k6⟩ := h
  cases z_vi k k2
  have ec : (i.toNatClampNeg : Int) = i.toInt := z_cl (by omega)
  have n4 : ∀ q : Nat, q ≠ i.toNatClampNeg → zar v sp 24 q = zar u sp 24 q := fun q hq => by
    rw [e4]
    exact if_neg hq
  refine ⟨it, i', k1, k', ⟨k3.1, by omega⟩, hA, fun q hq => ?_, fun j d' e => ?_⟩
  · rw [e6, e8, n4 q (by omega)]
    exact k5 q hq
  · obtain ⟨i', d0, new', f1, f2, f3, f4⟩ := k6 j d' e
    rw [e6, e8]
    refine ⟨i', d0, new', f1, f2, fun e9 h9 => ?_, fun q h1 h2 h3 => ?_⟩
    · obtain ⟨q, a1, a2, a3, a4, a5⟩ := f3 e9 h9
      exact ⟨q, a1, by omega, by rw [n4 q (by omega)]; exact a3, a4, a5⟩
    · by_cases c : q = i.toNatClampNeg
      · subst c
        rw [e4] at h3
        exact absurd ((show upd (zar u sp 24) i.toNatClampNeg s9 i.toNatClampNeg = s9 from if_pos rfl).symm.trans h3) hs
      · rw [n4 q c] at h3
        exact f4 q h1 (by omega) h3
/-- a call's item -/
theorem zMc.putc {Γ : Nat → Option Nat} {F u v : Nat → va_E} {sp tn rn : Nat} {T : zTS} {σ σ1 : zSg} {i i' r9 : Int32} {w : Int64} (h : zMc Γ F u sp T σ σ1) (k : zfld u sp 2 = .int i) (k' : zfld v sp 2 = .int i') (ei : i'.toInt = i.toInt + 1) (hA : zSA Γ v sp) (e4 : zar v sp 24 = upd (zar u sp 24) i.toNatClampNeg 5) (e6 : zar v sp 26 = upd (zar u sp 26) i.toNatClampNeg r9) (e8 : zal v sp 28 i.toNatClampNeg = w ∧ ∀ n, n ≠ i.toNatClampNeg → zal v sp 28 n = zal u sp 28 n) (hw : w.toInt = T.2.2 tn) (hr : r9.toInt = (rn : Int)) : zMc Γ F v sp T σ (zmap (fun _ d => zemi (zaddc d [(tn, rn, zfc d)]) 5 tn rn) σ1) := by
  obtain ⟨it, i1, k1, k2, k3, k4, k5, k6⟩ := h
  cases z_vi k k2
  have ec : (i.toNatClampNeg : Int) = i.toInt := z_cl (by omega)
  have n4 : ∀ q : Nat, q ≠ i.toNatClampNeg → zar v sp 24 q = zar u sp 24 q := fun q hq => by
    rw [e4]
    exact if_neg hq
  have n6 : ∀ q : Nat, q ≠ i.toNatClampNeg → zar v sp 26 q = zar u sp 26 q := fun q hq => by
    rw [e6]
    exact if_neg hq
  have v4 : zar v sp 24 i.toNatClampNeg = 5 := by
    rw [e4]
    exact if_pos rfl
  have v6 : zar v sp 26 i.toNatClampNeg = r9 := by
    rw [e6]
    exact if_pos rfl
  refine ⟨it, i', k1, k', ⟨k3.1, by omega⟩, hA, fun q hq => ?_, fun j d' e => ?_⟩
  · rw [n4 q (by omega), n6 q (by omega), e8.2 q (by omega)]
    exact k5 q hq
  · match σ1, k6, e with
    | .inr k, _, e => cases e
    | .inl (j1, d1), k6, e =>
      have e : (Sum.inl (j1, zemi (zaddc d1 [(tn, rn, zfc d1)]) 5 tn rn) : zSg) = .inl (j, d') := e
      injection e with e
      injection e with ej ed
      subst ej
      subst ed
      obtain ⟨ii, d0, new', f1, f2, f3, f4⟩ := k6 j1 d1 rfl
      refine ⟨ii, d0, new' ++ [(tn, rn, zfc d1)], f1, ?_, fun e9 h9 => ?_, fun q h1 h2 h3 => ?_⟩
      · show zcs d1 ++ [(tn, rn, zfc d1)] = zcs d0 ++ (new' ++ [(tn, rn, zfc d1)])
        rw [f2, List.append_assoc]
      · rcases List.mem_append.mp h9 with h9 | h9
        · obtain ⟨q, a1, a2, a3, a4, a5⟩ := f3 e9 h9
          exact ⟨q, a1, by omega, by rw [n4 q (by omega)]; exact a3, by rw [e8.2 q (by omega)]; exact a4, by rw [n6 q (by omega)]; exact a5⟩
        · rw [List.mem_singleton.mp h9]
          exact ⟨i.toNatClampNeg, by omega, by omega, v4, by rw [e8.1]; exact hw, by rw [v6]; exact hr⟩
      · by_cases c : q = i.toNatClampNeg
        · subst c
          exact ⟨(tn, rn, zfc d1), List.mem_append_right _ (List.mem_singleton.mpr rfl), by rw [e8.1]; exact hw, by rw [v6]; exact hr⟩
        · rw [n4 q c] at h3
          obtain ⟨e9, b1, b2, b3⟩ := f4 q h1 (by omega) h3
          exact ⟨e9, List.mem_append_left _ b1, by rw [e8.2 q c]; exact b2, by rw [n6 q c]; exact b3⟩
/-- an item's value as it was read -/
def zin (T : zTS) (V : Nat → Int) (e : Nat × Nat × Nat) : Int := if e.1 = 0 then V e.2.1 else if e.1 = 1 then T.2.2 e.2.1 - 1 else if e.1 = 5 then -1 else 0
theorem zin_op {T : zTS} {V : Nat → Int} {s : Nat} (h : 2 ≤ s ∧ s ≠ 5) : zin T V (s, 0, 0) = 0 := by
  unfold zin
  rw [if_neg (show ¬ s = 0 by omega), if_neg (show ¬ s = 1 by omega), if_neg (show ¬ s = 5 by omega)]
theorem zia_9 {s : Nat} (h : s ≠ 5 ∧ s < 9) : zia s ≠ 9 := by
  unfold zia
  repeat' (first | split | omega)
/-- the reference's items are what was put out -/
def zDi (Γ : Nat → Option Nat) (F : Nat → va_E) (sp : Nat) (T : zTS) (V : Nat → Int) (σ : zSg) : Prop := zSA Γ F sp ∧ ∀ i d, σ = .inl (i, d) → (∃ x : Int32, zfld F sp 2 = .int x ∧ x.toInt = (zic d : Int)) ∧ ∀ q, q < zic d → (zar F sp 24 q).toInt = ((zitf d q).1 : Int) ∧ (zar F sp 25 q).toInt = zin T V (zitf d q) ∧ ((zitf d q).1 = 5 → (zal F sp 28 q).toInt = T.2.2 (zitf d q).2.1)
theorem zDi.fr {Γ : Nat → Option Nat} {M : List Nat} {F u : Nat → va_E} {sp : Nat} {T : zTS} {V : Nat → Int} {σ : zSg} (h : zDi Γ F sp T V σ) (hf : zFr Γ M F u) (hM : (∀ j, j < 30 → 4 ≤ j → 1100 + j ∉ M) ∧ 1102 ∉ M ∧ 14400 ∉ M ∧ 14500 ∉ M ∧ 14800 ∉ M) : zDi Γ u sp T V σ := by
  refine ⟨h.1.fr hf hM.1, fun i d e => ?_⟩
  obtain ⟨⟨x, h1, h2⟩, h3⟩ := h.2 i d e
  rw [h.1.ar hf 24 ⟨by decide, by decide, hM.1 24 (by decide) (by decide), hM.2.2.1⟩, h.1.ar hf 25 ⟨by decide, by decide, hM.1 25 (by decide) (by decide), hM.2.2.2.1⟩, h.1.al hf 28 ⟨by decide, by decide, hM.1 28 (by decide) (by decide), hM.2.2.2.2⟩]
  exact ⟨⟨x, hf.f h.1.1 2 ⟨by decide, hM.2.1⟩ h1, h2⟩, h3⟩
theorem zDi.st {Γ : Nat → Option Nat} {F : Nat → va_E} {sp : Nat} {T : zTS} {V : Nat → Int} {σ σ1 : zSg} (h : zDi Γ F sp T V σ) (hs : ∀ j d', σ1 = .inl (j, d') → ∃ i d, σ = .inl (i, d) ∧ zic d' = zic d ∧ zitf d' = zitf d) : zDi Γ F sp T V σ1 := by
  refine ⟨h.1, fun j d' e => ?_⟩
  obtain ⟨i, d, e1, g1, g2⟩ := hs j d' e
  rw [g1, g2]
  exact h.2 i d e1
theorem zDi.sm {Γ : Nat → Option Nat} {F : Nat → va_E} {sp : Nat} {T : zTS} {V : Nat → Int} {σ σ1 : zSg} (h : zDi Γ F sp T V σ) (hs : zsm σ σ1) : zDi Γ F sp T V σ1 := h.st (fun j d' e => by
  obtain ⟨i, e1, -⟩ := hs j d' e
  exact ⟨i, d', e1, rfl, rfl⟩)
theorem zDi.map {Γ : Nat → Option Nat} {F : Nat → va_E} {sp : Nat} {T : zTS} {V : Nat → Int} {σ : zSg} {f : Nat → zDat → zDat} (h : zDi Γ F sp T V σ) (hf : ∀ i d, zic (f i d) = zic d ∧ zitf (f i d) = zitf d) : zDi Γ F sp T V (zmap f σ) := h.st (fun j d' e => by
  obtain ⟨d, e1, e2⟩ := zmapm e
  exact ⟨j, d, e1, by rw [e2]; exact hf j d⟩)
theorem zDi.adm {Γ : Nat → Option Nat} {F : Nat → va_E} {sp : Nat} {T : zTS} {V : Nat → Int} {σ : zSg} {f : Nat → zDat → zDat} (h : zDi Γ F sp T V σ) (hf : ∀ i d, zic (f i d) = zic d ∧ zitf (f i d) = zitf d) : zDi Γ F sp T V (zadv (zmap f σ)) := (h.map hf).sm zsm.adv
theorem zDi.k {Γ : Nat → Option Nat} {F : Nat → va_E} {sp : Nat} {T : zTS} {V : Nat → Int} {σ : zSg} {x : Int32} (h : zDi Γ F sp T V σ) (k : zfld F sp 2 = .int x) : ∀ i d, σ = .inl (i, d) → x.toInt = (zic d : Int) := fun i d e => by
  obtain ⟨⟨y, h1, h2⟩, -⟩ := h.2 i d e
  cases z_vi k h1
  exact h2
theorem zDi.put {Γ : Nat → Option Nat} {F u : Nat → va_E} {sp : Nat} {T : zTS} {V : Nat → Int} {σ σ1 : zSg} {i i' s9 v9 : Int32} (h : zDi Γ F sp T V σ) (k : zfld F sp 2 = .int i) (k' : zfld u sp 2 = .int i') (ei : i'.toInt = i.toInt + 1) (hA : zSA Γ u sp) (e4 : zar u sp 24 = upd (zar F sp 24) i.toNatClampNeg s9) (e5 : zar u sp 25 = upd (zar F sp 25) i.toNatClampNeg v9) (e8 : ∀ n, n ≠ i.toNatClampNeg → zal u sp 28 n = zal F sp 28 n) {e : Nat → zDat → Nat × Nat × Nat} (hs : ∀ j d', σ1 = .inl (j, d') → ∃ i0 d, σ = .inl (i0, d) ∧ zic d' = zic d + 1 ∧ zitf d' = zup (zitf d) (zic d) (e i0 d)) (hn : ∀ i0 d, σ = .inl (i0, d) → s9.toInt = ((e i0 d).1 : Int) ∧ v9.toInt = zin T V (e i0 d) ∧ ((e i0 d).1 = 5 → (zal u sp 28 i.toNatClampNeg).toInt = T.2.2 (e i0 d).2.1)) : zDi Γ u sp T V σ1 := by
  refine ⟨hA, fun j d' e1 => ?_⟩
  obtain ⟨i0, d, g1, g3, g4⟩ := hs j d' e1
  obtain ⟨g6, g7, g8⟩ := hn i0 d g1
  have hk := h.k k i0 d g1
  obtain ⟨-, h2⟩ := h.2 i0 d g1
  have hz : i.toNatClampNeg = zic d := by rw [Int32.toNatClampNeg]; omega
  rw [hz] at e4 e5 e8 g8
  refine ⟨⟨i', k', by omega⟩, fun q hq => ?_⟩
  rw [e4, e5, g4]
  by_cases c : q = zic d
  · subst c
    rw [zup_self, show upd (zar F sp 24) (zic d) s9 (zic d) = s9 from if_pos rfl, show upd (zar F sp 25) (zic d) v9 (zic d) = v9 from if_pos rfl]
    exact ⟨g6, g7, g8⟩
  · rw [zup_ne _ _ c, show upd (zar F sp 24) (zic d) s9 q = zar F sp 24 q from if_neg c, show upd (zar F sp 25) (zic d) v9 q = zar F sp 25 q from if_neg c, e8 q c]
    exact h2 q (by omega)
theorem zby_m {F : Nat → va_E} {tp n : Nat} {B : Nat → Int32} {q x z : Int32} (hB : zel F tp = B) (e : zel F tp q.toNatClampNeg = x) (b : zB (-128) 127 x) (ez : z = x &&& 255) (hq : 0 ≤ q.toInt ∧ q.toInt < n) : (-128 ≤ zby B n q.toInt ∧ zby B n q.toInt ≤ 127) ∧ ((0 ≤ zby B n q.toInt ∧ z.toInt = zby B n q.toInt) ∨ (zby B n q.toInt < 0 ∧ z.toInt = zby B n q.toInt + 256)) := by
  have e1 : zby B n q.toInt = x.toInt := by
    rw [zby_in hq, ← hB, ← e]
    rw [Int32.toNatClampNeg]
  rw [e1]
  exact ⟨b, z255b b ez⟩
section
variable {so mk le wd K W : Int}
theorem zMk.sg (h : zMk so mk le wd K W) : (so = 4 ∧ mk = K ∧ 40 ≤ K ∧ K ≤ 125) ∨ (so ≠ 4 ∧ 0 ≤ K ∧ K ≤ 10) := by
  rcases h with h | h | h | h | ⟨h, -, -, h1 | ⟨-, h1⟩⟩
  · omega
  · omega
  · omega
  · exact Or.inl h
  · omega
  · rcases h1 with h1 | h1 | h1 | h1 | h1 | h1 | ⟨-, -, -, -, -, -, h1⟩ <;> omega
theorem zMk.en (h : zMk so mk le wd K W) : (so = 1 ∧ K = 0) ∨ (so ≠ 1 ∧ K ≠ 0) := by
  rcases h with h | h | h | h | ⟨h, -, -, h1 | ⟨-, h1⟩⟩
  · omega
  · omega
  · omega
  · omega
  · omega
  · rcases h1 with h1 | h1 | h1 | h1 | h1 | h1 | ⟨-, -, -, -, -, -, h1⟩ <;> omega
theorem zMk.nu (h : zMk so mk le wd K W) : (so = 3 ∧ K = 2) ∨ (so ≠ 3 ∧ K ≠ 2) := by
  rcases h with h | h | h | h | ⟨h, -, -, h1 | ⟨-, h1⟩⟩
  · omega
  · omega
  · omega
  · omega
  · omega
  · rcases h1 with h1 | h1 | h1 | h1 | h1 | h1 | ⟨-, -, -, -, -, -, h1⟩ <;> omega
theorem zMk.pl (h : zMk so mk le wd K W) : (so = 2 ∧ le = 1 ∧ wd ≤ 8 ∧ K = 3) ∨ ((so ≠ 2 ∨ le ≠ 1 ∨ 8 < wd) ∧ K ≠ 3) := by
  rcases h with h | h | h | h | ⟨h, h0, -, h1 | ⟨h2, h1⟩⟩
  · omega
  · omega
  · omega
  · omega
  · omega
  · rcases h1 with h1 | h1 | h1 | h1 | h1 | h1 | ⟨-, -, -, -, -, -, h1⟩ <;> omega
theorem zMk.nb (h : zMk so mk le wd K W) : (so = 2 ∧ 2 ≤ le ∧ 4 ≤ K ∧ K ≤ 10) ∨ ((so ≠ 2 ∨ le ≤ 1) ∧ (K < 4 ∨ 10 < K)) := by
  rcases h with h | h | h | h | ⟨h, h0, -, h1 | ⟨h2, h1⟩⟩
  · exact Or.inr ⟨by omega, by omega⟩
  · exact Or.inr ⟨by omega, by omega⟩
  · exact Or.inr ⟨by omega, by omega⟩
  · exact Or.inr ⟨by omega, by omega⟩
  · exact Or.inr ⟨by omega, by omega⟩
  · exact Or.inl ⟨h, h2, by rcases h1 with h1 | h1 | h1 | h1 | h1 | h1 | ⟨-, -, -, -, -, -, h1⟩ <;> omega, by rcases h1 with h1 | h1 | h1 | h1 | h1 | h1 | ⟨-, -, -, -, -, -, h1⟩ <;> omega⟩
end
/-- the kind of a text's word -/
def zcd (i : Nat) : Int := (i : Int) - 1
theorem zMk.wo {so mk le wd K W : Int} {i : Nat} (h : zMk so mk le wd K W) (hi : 6 ≤ i ∧ i < 12) : (so = 2 ∧ wd = zws i ∧ K = zcd i) ∨ ((so ≠ 2 ∨ wd ≠ zws i) ∧ K ≠ zcd i) := by
  have e6 := zws_6
  have e7 := zws_7
  have e8 := zws_8
  have e9 := zws_9
  have e10 := zws_10
  have e11 := zws_11
  have key : ∀ (v c : Int), ((v = 4262 ∧ c = 5) ∨ (v = 19513 ∧ c = 6) ∨ (v = 609900110 ∧ c = 7) ∨ (v = 294 ∧ c = 8) ∨ (v = 176741 ∧ c = 9) ∨ (v = 24388997 ∧ c = 10)) → (so = 2 ∧ wd = v ∧ K = c) ∨ ((so ≠ 2 ∨ wd ≠ v) ∧ K ≠ c) := by
    intro v c hv
    rcases h with h | h | h | h | ⟨h, h0, -, h1 | ⟨h2, h1⟩⟩
    · exact Or.inr ⟨by omega, by omega⟩
    · exact Or.inr ⟨by omega, by omega⟩
    · exact Or.inr ⟨by omega, by omega⟩
    · exact Or.inr ⟨by omega, by omega⟩
    · exact Or.inr ⟨by omega, by omega⟩
    · rcases h1 with h1 | h1 | h1 | h1 | h1 | h1 | ⟨a1, a2, a3, a4, a5, a6, h1⟩
      · omega
      · omega
      · omega
      · omega
      · omega
      · omega
      · exact Or.inr ⟨by omega, by omega⟩
  have hc : i = 6 ∨ i = 7 ∨ i = 8 ∨ i = 9 ∨ i = 10 ∨ i = 11 := by omega
  rcases hc with rfl | rfl | rfl | rfl | rfl | rfl
  · exact key _ _ (by rw [e6]; exact Or.inl ⟨rfl, rfl⟩)
  · exact key _ _ (by rw [e7]; exact Or.inr (Or.inl ⟨rfl, rfl⟩))
  · exact key _ _ (by rw [e8]; exact Or.inr (Or.inr (Or.inl ⟨rfl, rfl⟩)))
  · exact key _ _ (by rw [e9]; exact Or.inr (Or.inr (Or.inr (Or.inl ⟨rfl, rfl⟩))))
  · exact key _ _ (by rw [e10]; exact Or.inr (Or.inr (Or.inr (Or.inr (Or.inl ⟨rfl, rfl⟩)))))
  · exact key _ _ (by rw [e11]; exact Or.inr (Or.inr (Or.inr (Or.inr (Or.inr ⟨rfl, rfl⟩)))))
theorem z_lcmp {x y : Int64} {z : Int32} (e : z = lg_cmp x y) : (z.toInt = 0 ∧ x.toInt = y.toInt) ∨ (z.toInt ≠ 0 ∧ x.toInt ≠ y.toInt) := by
  have e0 : (0 : Int32).toInt = 0 := by decide
  have hle := lg_cmp_le x y
  have heq := lg_cmp_eq x y
  rw [← e] at heq
  by_cases c : z = 0
  · exact Or.inl ⟨by rw [c]; decide, by rw [heq.mp c]⟩
  · exact Or.inr ⟨fun h => c (Int32.toInt_inj.mp (by rw [h]; rfl)), fun h => c (heq.mpr (Int64.toInt_inj.mp h))⟩
theorem z_lcmp2 {x y : Int64} {z : Int32} (e : z = lg_cmp x y) : (z.toInt ≤ 0 ∧ x.toInt ≤ y.toInt) ∨ (0 < z.toInt ∧ y.toInt < x.toInt) := by
  have e0 : (0 : Int32).toInt = 0 := by decide
  have hle := lg_cmp_le x y
  rw [← e, Int32.le_iff_toInt_le, e0, Int64.le_iff_toInt_le] at hle
  by_cases c : z.toInt ≤ 0
  · exact Or.inl ⟨c, hle.mp c⟩
  · exact Or.inr ⟨by omega, by have := fun h => c (hle.mpr h); omega⟩
theorem zmk.sg {c : Int32} (h : zmk c) : zsg c.toInt := by
  unfold zmk at h
  rcases h with rfl | rfl | rfl | rfl | rfl | rfl | rfl | rfl | rfl | rfl | rfl | rfl <;> (unfold zsg; decide)
