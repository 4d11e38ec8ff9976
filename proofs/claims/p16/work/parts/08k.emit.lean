/-! What the steps put out: acts, items, rows of lines. -/
theorem zac_emi {d : zDat} {s i m : Nat} : zac (zemi d s i m) = zac d + 1 := rfl
theorem zac_ende {d : zDat} {l : Nat} {e : Nat × Nat × Nat} : zac (zende d l e) = zac d + 1 := rfl
theorem zac_next {d : zDat} {l n : Nat} : zac (znext d l n) = zac d := rfl
theorem zac_body {d : zDat} {l n : Nat} : zac (zbody d l n) = zac d := rfl
theorem zac_othr {d : zDat} {q l n : Nat} : zac (zothr d q l n) = zac d := rfl
theorem zac_tgt {d : zDat} {q : Nat} : zac (ztgt d q) = zac d := rfl
theorem zac_go {d : zDat} {q : Nat} {e : Nat × Nat × Nat} : zac (zgo d q e) = zac d + 1 := rfl
theorem zac_addn {d : zDat} {q : Nat} : zac (zaddn d q) = zac d := rfl
theorem zac_add0 {d : zDat} : zac (zadd0 d) = zac d := rfl
theorem zac_addp {d : zDat} {x : Int} : zac (zaddp d x) = zac d := rfl
theorem zac_addl {d : zDat} {k : Int} {t n b : Nat} : zac (zaddl d k t n b) = zac d + 1 := rfl
theorem zac_addc {d : zDat} {l : List (Nat × Nat × Nat)} : zac (zaddc d l) = zac d := rfl
theorem zac_addf {d : zDat} {i : Nat} : zac (zaddf d i) = zac d + 1 := rfl
theorem zac_addb {d : zDat} {i : Nat} : zac (zaddb d i) = zac d := rfl
def zem (d : zDat) (e : Nat × Nat × Nat) : zDat := zsX d (zxe (zxd d) e)
theorem zem_c {d : zDat} {e : Nat × Nat × Nat} : zac (zem d e) = zac d + 1 := rfl
theorem zem_f {d : zDat} {e : Nat × Nat × Nat} : zaf (zem d e) = zup (zaf d) (zac d) e := rfl
theorem zem_t {d : zDat} {e : Nat × Nat × Nat} : ztg (zem d e) = zup (ztg d) (zac d) 0 := rfl
theorem zgo_f {d : zDat} {q : Nat} {e : Nat × Nat × Nat} : zaf (zgo d q e) = zup (zaf d) (zac d) e := rfl
theorem zgo_t {d : zDat} {q : Nat} {e : Nat × Nat × Nat} : ztg (zgo d q e) = zup (zup (ztg d) (zac d) 0) q (zac d + 1 + 1) := rfl
theorem zk_go {d : zDat} {q : Nat} {e : Nat × Nat × Nat} : zac (zgo d q e) = zac (zem d e) ∧ zaf (zgo d q e) = zaf (zem d e) ∧ ztg (zgo d q e) = zup (ztg (zem d e)) q (zac (zem d e) + 1) := ⟨zac_go.trans zem_c.symm, zgo_f.trans zem_f.symm, by rw [zgo_t, zem_t, zem_c]⟩
/-- room: every act is paid by a token that was read, two by each -/
def zwt (y : Nat) : Int := if y = 7 then -1 else if 19 ≤ y ∧ y ≤ 27 then 1 else 0
def zpn : List zSy → Int
  | [] => 0
  | y :: κ => zwt y.1 + zpn κ
theorem zpn_app : ∀ κ κ' : List zSy, zpn (κ ++ κ') = zpn κ + zpn κ'
  | [], κ' => by rw [List.nil_append, zpn]; omega
  | y :: κ, κ' => by
    rw [List.cons_append, zpn, zpn, zpn_app κ κ']
    omega
theorem zst_pn {T : zTS} {y a b m : Nat} {κ κ' : List zSy} {i i' : Nat} {d d' : zDat} (h : zst T y a b m κ i d = .inl (κ', i', d')) (hp : (zac d : Int) + zwt y + zpn κ ≤ 2 * i) : (zac d' : Int) + zpn κ' ≤ 2 * i' ∧ i ≤ i' := by
  unfold zst at h
  split at h
  all_goals (try split at h)
  all_goals (try split at h)
  all_goals (try split at h)
  all_goals (try split at h)
  all_goals (try split at h)
  all_goals (first | (cases h; done) | (injection h with h; injection h with h1 h2; injection h2 with h2 h3; subst h1; subst h2; subst h3; simp [zpn, zwt, zac_emi, zac_ende, zac_next, zac_body, zac_othr, zac_tgt, zac_go, zac_addn, zac_add0, zac_addp, zac_addl, zac_addc, zac_addf, zac_addb] at hp ⊢; omega))
theorem zit_pn {T : zTS} : ∀ (n : Nat) {κ κ' : List zSy} {i i' : Nat} {d d' : zDat}, zit T n (.inl (κ, i, d)) = .inl (κ', i', d') → (zac d : Int) + zpn κ ≤ 2 * i → (zac d' : Int) + zpn κ' ≤ 2 * i' ∧ i ≤ i'
  | 0, κ, κ', i, i', d, d', h, hp => by
    have h : (Sum.inl (κ, i, d) : zCf) = .inl (κ', i', d') := h
    injection h with h
    injection h with h1 h2
    injection h2 with h2 h3
    subst h1
    subst h2
    subst h3
    exact ⟨hp, Nat.le_refl _⟩
  | n + 1, [], κ', i, i', d, d', h, hp => zit_pn (T := T) n (κ := []) h hp
  | n + 1, (y, a, b, m) :: κ, κ', i, i', d, d', h, hp => by
    have h : zit T n (zst T y a b m κ i d) = .inl (κ', i', d') := h
    match hq : zst T y a b m κ i d, h with
    | .inr k, h =>
      exfalso
      have e : ∀ n, zit T n (.inr k) = .inr k := fun n => zit_fix rfl n
      rw [e] at h
      cases h
    | .inl (κ1, i1, d1), h =>
      have h1 := zst_pn hq (by have : zpn ((y, a, b, m) :: κ) = zwt y + zpn κ := rfl; omega)
      have h2 := zit_pn n h h1.1
      exact ⟨h2.1, Nat.le_trans h1.2 h2.2⟩
theorem zRc.pn {T : zTS} {σ σ1 : zSg} {Xs Ys : List zSy} (h : zRc T σ Xs σ1 Ys) {W0 W : Int} (hp : ∀ i d, σ = .inl (i, d) → (zac d : Int) + W0 ≤ 2 * i) (h0 : zpn Xs = W0) (hW : W ≤ zpn Ys) : ∀ i d, σ1 = .inl (i, d) → (zac d : Int) + W ≤ 2 * i := fun i d e => by
  subst e
  obtain ⟨n, hn⟩ := h []
  rw [List.append_nil, List.append_nil] at hn
  match σ, hp, hn with
  | .inr k, _, hn =>
    exfalso
    have e : zit T n (.inr k) = .inr k := zit_fix rfl n
    have hn : zit T n (.inr k) = .inl (Ys, i, d) := hn
    rw [e] at hn
    cases hn
  | .inl (i0, d0), hp, hn =>
    have hn : zit T n (.inl (Xs, i0, d0)) = .inl (Ys, i, d) := hn
    have h1 := (zit_pn n hn (by have := hp i0 d0 rfl; omega)).1
    omega
/-- room for an act more: while a token is there that is not the last -/
theorem zroom {T : zTS} {N : Nat} {σ : zSg} (hL : zLs T N) (hok : zok N σ) (hk : zkd T N σ ≠ 0 ∧ zkd T N σ ≠ 1) (hp : ∀ i d, σ = .inl (i, d) → (zac d : Int) ≤ 2 * i) : ∀ i d, σ = .inl (i, d) → zac d < 1200 := fun i d e => by
  have h1 := hp i d e
  subst e
  have h2 : i < N := hok
  have h3 : T.1 i ≠ 0 ∧ T.1 i ≠ 1 := hk
  have h4 := hL.2.1
  have h5 : i ≠ N - 1 := fun h9 => by
    rw [h9] at h3
    exact hL.2.2.elim h3.1 h3.2
  omega
theorem zroom1 {T : zTS} {N : Nat} {σ : zSg} (hL : zLs T N) (hok : zok N σ) (hp : ∀ i d, σ = .inl (i, d) → (zac d : Int) + 1 ≤ 2 * i) : ∀ i d, σ = .inl (i, d) → zac d < 1200 := fun i d e => by
  have h1 := hp i d e
  subst e
  have h2 : i < N := hok
  have h4 := hL.2.1
  omega
/-- what an act's number is: of a WHOLE its value, of a PLACE which, of AGAIN where the test begins -/
def zcn (T : zTS) (V : Nat → Int) (e : Nat × Nat × Nat) : Int := if e.1 = 1 then V e.2.1 else if e.1 = 2 ∨ e.1 = 10 then T.2.2 e.2.1 - 1 else if e.1 = 14 then (e.2.1 : Int) else 0
def znu (T : zTS) (V : Nat → Int) (d : zDat) (q : Nat) : Int := if ztg d q = 0 then zcn T V (zaf d q) else (ztg d q : Int) - 1
def zCA (Γ : Nat → Option Nat) (F : Nat → va_E) (co : Nat) : Prop := zAd Γ F co 0 102 ∧ zAd Γ F co 1 158 ∧ zAd Γ F co 2 159
/-- the class's code is what was put out -/
def zCx (Γ : Nat → Option Nat) (F : Nat → va_E) (co : Nat) (T : zTS) (V : Nat → Int) (σ : zSg) : Prop := zCA Γ F co ∧ ∀ i d, σ = .inl (i, d) → (∃ s : Int32, zfld F co 3 = .int s ∧ s.toInt = (zac d : Int)) ∧ ∀ q, q < zac d → (zar F co 0 q).toInt = ((zaf d q).1 : Int) ∧ (zar F co 1 q).toInt = znu T V d q ∧ (zar F co 2 q).toInt = ((zaf d q).2.2 : Int)
theorem zCA.fr {Γ : Nat → Option Nat} {M : List Nat} {F u : Nat → va_E} {co : Nat} (h : zCA Γ F co) (hf : zFr Γ M F u) (hc : Γ co = some 1) (hM : 100 ∉ M ∧ 101 ∉ M ∧ 102 ∉ M) : zCA Γ u co := ⟨h.1.fr hf hc ⟨by decide, hM.1⟩, h.2.1.fr hf hc ⟨by decide, hM.2.1⟩, h.2.2.fr hf hc ⟨by decide, hM.2.2⟩⟩
theorem zCx.fr {Γ : Nat → Option Nat} {M : List Nat} {F u : Nat → va_E} {co : Nat} {T : zTS} {V : Nat → Int} {σ : zSg} (h : zCx Γ F co T V σ) (hf : zFr Γ M F u) (hc : Γ co = some 1) (hM : (100 ∉ M ∧ 101 ∉ M ∧ 102 ∉ M) ∧ 103 ∉ M ∧ 10200 ∉ M ∧ 15800 ∉ M ∧ 15900 ∉ M) : zCx Γ u co T V σ := by
  refine ⟨h.1.fr hf hc hM.1, fun i d e => ?_⟩
  obtain ⟨⟨s, h1, h2⟩, h3⟩ := h.2 i d e
  refine ⟨⟨s, hf.f hc 3 ⟨by decide, hM.2.1⟩ h1, h2⟩, fun q hq => ?_⟩
  rw [h.1.1.ar hf hc ⟨by decide, hM.1.1⟩ ⟨by decide, hM.2.2.1⟩, h.1.2.1.ar hf hc ⟨by decide, hM.1.2.1⟩ ⟨by decide, hM.2.2.2.1⟩, h.1.2.2.ar hf hc ⟨by decide, hM.1.2.2⟩ ⟨by decide, hM.2.2.2.2⟩]
  exact h3 q hq
theorem zCx.st {Γ : Nat → Option Nat} {F : Nat → va_E} {co : Nat} {T : zTS} {V : Nat → Int} {σ σ1 : zSg} (h : zCx Γ F co T V σ) (hs : ∀ j d', σ1 = .inl (j, d') → ∃ i d, σ = .inl (i, d) ∧ zac d' = zac d ∧ zaf d' = zaf d ∧ ztg d' = ztg d) : zCx Γ F co T V σ1 := by
  refine ⟨h.1, fun j d' e => ?_⟩
  obtain ⟨i, d, e1, g1, g2, g3⟩ := hs j d' e
  obtain ⟨h1, h2⟩ := h.2 i d e1
  unfold znu
  rw [g1, g2, g3]
  exact ⟨h1, h2⟩
theorem zCx.sm {Γ : Nat → Option Nat} {F : Nat → va_E} {co : Nat} {T : zTS} {V : Nat → Int} {σ σ1 : zSg} (h : zCx Γ F co T V σ) (hs : zsm σ σ1) : zCx Γ F co T V σ1 := h.st (fun j d' e => by
  obtain ⟨i, e1, -⟩ := hs j d' e
  exact ⟨i, d', e1, rfl, rfl, rfl⟩)
theorem zCx.map {Γ : Nat → Option Nat} {F : Nat → va_E} {co : Nat} {T : zTS} {V : Nat → Int} {σ : zSg} {f : Nat → zDat → zDat} (h : zCx Γ F co T V σ) (hf : ∀ i d, zac (f i d) = zac d ∧ zaf (f i d) = zaf d ∧ ztg (f i d) = ztg d) : zCx Γ F co T V (zmap f σ) := h.st (fun j d' e => by
  obtain ⟨d, e1, e2⟩ := zmapm e
  exact ⟨j, d, e1, by rw [e2]; exact hf j d⟩)
theorem zCx.adm {Γ : Nat → Option Nat} {F : Nat → va_E} {co : Nat} {T : zTS} {V : Nat → Int} {σ : zSg} {f : Nat → zDat → zDat} (h : zCx Γ F co T V σ) (hf : ∀ i d, zac (f i d) = zac d ∧ zaf (f i d) = zaf d ∧ ztg (f i d) = ztg d) : zCx Γ F co T V (zadv (zmap f σ)) := (h.map hf).sm zsm.adv
theorem zCx.fl {Γ : Nat → Option Nat} {F : Nat → va_E} {co : Nat} {T : zTS} {V : Nat → Int} {σ : zSg} (h : zCA Γ F co) (hb : ∃ q, σ = .inr q) : zCx Γ F co T V σ := ⟨h, fun i d e => by
  obtain ⟨q, hb⟩ := hb
  rw [hb] at e
  cases e⟩
theorem zCx.k {Γ : Nat → Option Nat} {F : Nat → va_E} {co : Nat} {T : zTS} {V : Nat → Int} {σ : zSg} {x : Int32} (h : zCx Γ F co T V σ) (k : zfld F co 3 = .int x) : ∀ i d, σ = .inl (i, d) → x.toInt = (zac d : Int) := fun i d e => by
  obtain ⟨⟨y, h1, h2⟩, -⟩ := h.2 i d e
  cases z_vi k h1
  exact h2
/-- an act more -/
theorem zCx.add {Γ : Nat → Option Nat} {F u : Nat → va_E} {co : Nat} {T : zTS} {V : Nat → Int} {σ σ1 : zSg} {sz s9 ac nu li : Int32} (h : zCx Γ F co T V σ) (hf : zFr Γ [103, 10200, 15800, 15900] F u) (hc : Γ co = some 1) (kx : zfld F co 3 = .int sz) (ky : zfld u co 3 = .int s9) (e9 : sz.toInt < 1200 → s9.toInt = sz.toInt + 1) (hu : sz.toInt < 1200 → zar u co 0 = upd (zar F co 0) sz.toNatClampNeg ac ∧ zar u co 1 = upd (zar F co 1) sz.toNatClampNeg nu ∧ zar u co 2 = upd (zar F co 2) sz.toNatClampNeg li) (hr : ∀ i d, σ = .inl (i, d) → zac d < 1200) {e : Nat → zDat → Nat × Nat × Nat} (hs : ∀ j d', σ1 = .inl (j, d') → ∃ i d, σ = .inl (i, d) ∧ zac d' = zac d + 1 ∧ zaf d' = zup (zaf d) (zac d) (e i d) ∧ ztg d' = zup (ztg d) (zac d) 0) (hn : ∀ i d, σ = .inl (i, d) → ac.toInt = ((e i d).1 : Int) ∧ nu.toInt = zcn T V (e i d) ∧ li.toInt = ((e i d).2.2 : Int)) : zCx Γ u co T V σ1 := by
  refine ⟨h.1.fr hf hc (by decide), fun j d' e1 => ?_⟩
  obtain ⟨i, d, g1, g3, g4, g5⟩ := hs j d' e1
  have g2 := hr i d g1
  obtain ⟨g6, g7, g8⟩ := hn i d g1
  have hk := h.k kx i d g1
  obtain ⟨-, h2⟩ := h.2 i d g1
  have hz : sz.toNatClampNeg = zac d := by rw [Int32.toNatClampNeg]; omega
  obtain ⟨a0, a1, a2⟩ := hu (by omega)
  rw [hz] at a0 a1 a2
  refine ⟨⟨s9, ky, by have := e9 (by omega); omega⟩, fun q hq => ?_⟩
  unfold znu
  rw [a0, a1, a2, g4, g5]
  by_cases c : q = zac d
  · subst c
    rw [zup_self, zup_self]
    rw [show upd (zar F co 0) (zac d) ac (zac d) = ac from if_pos rfl, show upd (zar F co 1) (zac d) nu (zac d) = nu from if_pos rfl, show upd (zar F co 2) (zac d) li (zac d) = li from if_pos rfl]
    exact ⟨g6, g7, g8⟩
  · rw [zup_ne _ _ c, zup_ne _ _ c]
    rw [show upd (zar F co 0) (zac d) ac q = zar F co 0 q from if_neg c, show upd (zar F co 1) (zac d) nu q = zar F co 1 q from if_neg c, show upd (zar F co 2) (zac d) li q = zar F co 2 q from if_neg c]
    exact h2 q (by omega)
/-- where act q leads -/
theorem zCx.tgt {Γ : Nat → Option Nat} {F u : Nat → va_E} {co : Nat} {T : zTS} {V : Nat → Int} {σ σ1 : zSg} {sz q nu : Int32} (h : zCx Γ F co T V σ) (hf : zFr Γ [15800] F u) (hc : Γ co = some 1) (kx : zfld F co 3 = .int sz) (hu : 0 ≤ q.toInt ∧ q.toInt < sz.toInt → zar u co 1 = upd (zar F co 1) q.toNatClampNeg nu) (hq : ∀ i d, σ = .inl (i, d) → 0 ≤ q.toInt ∧ q.toInt < (zac d : Int) ∧ nu.toInt = (zac d : Int)) (hs : ∀ j d', σ1 = .inl (j, d') → ∃ i d, σ = .inl (i, d) ∧ zac d' = zac d ∧ zaf d' = zaf d ∧ ztg d' = zup (ztg d) q.toInt.toNat (zac d + 1)) : zCx Γ u co T V σ1 := by
  refine ⟨h.1.fr hf hc (by decide), fun j d' e1 => ?_⟩
  obtain ⟨i, d, g1, g3, g4, g5⟩ := hs j d' e1
  obtain ⟨q1, q2, q3⟩ := hq i d g1
  have hk := h.k kx i d g1
  obtain ⟨⟨s, h1, h1'⟩, h2⟩ := h.2 i d g1
  have a1 := hu ⟨q1, by omega⟩
  have hz : q.toNatClampNeg = q.toInt.toNat := rfl
  rw [hz] at a1
  rw [h.1.1.ar hf hc ⟨by decide, by decide⟩ ⟨by decide, by decide⟩, h.1.2.2.ar hf hc ⟨by decide, by decide⟩ ⟨by decide, by decide⟩, a1]
  refine ⟨⟨s, hf.f hc 3 ⟨by decide, by decide⟩ h1, by omega⟩, fun p hp => ?_⟩
  obtain ⟨b0, b1, b2⟩ := h2 p (by omega)
  unfold znu
  rw [g4, g5]
  refine ⟨b0, ?_, b2⟩
  by_cases c : p = q.toInt.toNat
  · subst c
    rw [zup_self, if_neg (by omega), show upd (zar F co 1) q.toInt.toNat nu q.toInt.toNat = nu from if_pos rfl]
    omega
  · rw [zup_ne _ _ c, show upd (zar F co 1) q.toInt.toNat nu p = zar F co 1 p from if_neg c]
    exact b1
/-- the value of a WHOLE -/
def zdI (f : Int → Int) (a : Int) : Nat → Int
  | 0 => 0
  | m + 1 => 10 * zdI f a m + (f (a + m) - 48)
theorem zdI_b {f : Int → Int} {a : Int} : ∀ {m : Nat}, (∀ j : Nat, j < m → 48 ≤ f (a + j) ∧ f (a + j) ≤ 57) → 0 ≤ zdI f a m ∧ zdI f a m < (10 : Int) ^ m
  | 0, _ => ⟨Int.le_refl _, by show (0 : Int) < 1; decide⟩
  | m + 1, h => by
    have h1 := zdI_b (f := f) (a := a) (m := m) (fun j hj => h j (by omega))
    have h2 := h m (by omega)
    rw [Int.pow_succ]
    show 0 ≤ 10 * zdI f a m + (f (a + m) - 48) ∧ 10 * zdI f a m + (f (a + m) - 48) < _
    have h3 := h1.2
    generalize (10 : Int) ^ m = q at h3 ⊢
    omega
theorem zdI_5 {f : Int → Int} {a : Int} {m : Nat} (h : ∀ j : Nat, j < m → 48 ≤ f (a + j) ∧ f (a + j) ≤ 57) (hm : m ≤ 5) : 0 ≤ zdI f a m ∧ zdI f a m < 100000 := by
  have h1 := zdI_b h
  have : ∀ m : Nat, m < 6 → (10 : Int) ^ m ≤ 100000 := by decide
  have := this m (by omega)
  omega
noncomputable def zvl (B : Nat → Int32) (n t : Nat) : Int := zdI (zby B n) (zpo B n t) (zwa B n (zpo B n t)).toNat
/-- a WHOLE's digits -/
theorem zwhole {B : Nat → Int32} {n t : Nat} (h : (zTo B n).1 t = 2) : 1 ≤ zwa B n (zpo B n t) ∧ zwa B n (zpo B n t) ≤ 5 ∧ zwa B n (zpo B n t) = zte B n (zpo B n t) - zpo B n t ∧ ∀ j : Nat, j < (zwa B n (zpo B n t)).toNat → 48 ≤ zby B n (zpo B n t + j) ∧ zby B n (zpo B n t + j) ≤ 57 := by
  have h : zka B n (zpo B n t) = 2 := h
  generalize zpo B n t = a at h ⊢
  unfold zka at h
  by_cases c0 : (n : Int) ≤ a
  · rw [if_pos c0] at h
    omega
  · rw [if_neg c0] at h
    by_cases c1 : zLt B n a = true
    · rw [if_pos c1] at h
      exfalso
      have := zwk_r (zwI (zby B n) a (zte B n a - a).toNat)
      repeat' (first | split at h | omega)
    · rw [if_neg c1] at h
      by_cases c2 : zDg B n a = true
      · rw [if_pos c2] at h
        have c3 : ¬ zte B n a - a > 5 := fun h9 => by
          rw [if_pos h9] at h
          omega
        have e : zwa B n a = zte B n a - a := if_neg (by omega)
        have et : zte B n a = zend (zDg B n) n a := by
          unfold zte
          rw [if_neg c1, if_pos c2]
        have h1 : a + 1 ≤ zte B n a := by
          rw [et, zend_step zDg_n c2]
          exact zend_le _ _ _
        rw [e]
        refine ⟨by omega, by omega, rfl, fun j hj => ?_⟩
        rw [et] at hj
        exact of_decide_eq_true (zend_in (p := zDg B n) (n := n) (a := a) (by omega) (by omega))
      · rw [if_neg c2] at h
        by_cases c3 : zsg (zby B n a)
        · rw [if_pos c3] at h
          unfold zsg at c3
          omega
        · rw [if_neg c3] at h
          omega
/-- acts only grow in number -/
theorem zst_mo {T : zTS} {y a b m : Nat} {κ κ' : List zSy} {i i' : Nat} {d d' : zDat} (h : zst T y a b m κ i d = .inl (κ', i', d')) : zac d ≤ zac d' := by
  unfold zst at h
  split at h
  all_goals (try split at h)
  all_goals (try split at h)
  all_goals (try split at h)
  all_goals (try split at h)
  all_goals (try split at h)
  all_goals (first | (cases h; done) | (injection h with h; injection h with h1 h2; injection h2 with h2 h3; subst h1; subst h2; subst h3; simp [zac_emi, zac_ende, zac_next, zac_body, zac_othr, zac_tgt, zac_go, zac_addn, zac_add0, zac_addp, zac_addl, zac_addc, zac_addf, zac_addb]))
theorem zit_mo {T : zTS} : ∀ (n : Nat) {κ κ' : List zSy} {i i' : Nat} {d d' : zDat}, zit T n (.inl (κ, i, d)) = .inl (κ', i', d') → zac d ≤ zac d'
  | 0, κ, κ', i, i', d, d', h => by
    have h : (Sum.inl (κ, i, d) : zCf) = .inl (κ', i', d') := h
    injection h with h
    injection h with h1 h2
    injection h2 with h2 h3
    subst h3
    exact Nat.le_refl _
  | n + 1, [], κ', i, i', d, d', h => zit_mo (T := T) n (κ := []) h
  | n + 1, (y, a, b, m) :: κ, κ', i, i', d, d', h => by
    have h : zit T n (zst T y a b m κ i d) = .inl (κ', i', d') := h
    match hq : zst T y a b m κ i d, h with
    | .inr k, h =>
      exfalso
      have e : ∀ n, zit T n (.inr k) = .inr k := fun n => zit_fix rfl n
      rw [e] at h
      cases h
    | .inl (κ1, i1, d1), h => exact Nat.le_trans (zst_mo hq) (zit_mo n h)
theorem zRc.mo {T : zTS} {σ σ1 : zSg} {Xs Ys : List zSy} (h : zRc T σ Xs σ1 Ys) : ∀ j d9, σ1 = .inl (j, d9) → ∃ i d, σ = .inl (i, d) ∧ zac d ≤ zac d9 := fun j d9 e => by
  subst e
  obtain ⟨n, hn⟩ := h []
  rw [List.append_nil, List.append_nil] at hn
  match σ, hn with
  | .inr k, hn =>
    exfalso
    have e : zit T n (.inr k) = .inr k := zit_fix rfl n
    have hn : zit T n (.inr k) = .inl (Ys, j, d9) := hn
    rw [e] at hn
    cases hn
  | .inl (i0, d0), hn => exact ⟨i0, d0, rfl, zit_mo n hn⟩
