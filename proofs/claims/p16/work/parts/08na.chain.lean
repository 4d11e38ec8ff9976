/-! Which line a line's next, body and other have around them. -/
/-- the line around that the coming line will have -/
def zjh : List zSy → Option Nat
  | (7, _, b, _) :: _ => some b
  | (8, _, b, _) :: _ => some b
  | _ => none
def zja (o : Option Nat) (d : zDat) (z b : Nat) : Prop := (z < zlc d ∧ zro d z = b) ∨ (z = zlc d ∧ o = some b)
/-- what an awaited symbol knows -/
def zjx (o : Option Nat) (d : zDat) (s : zSy) : Prop :=
  (s.1 = 9 → zja o d s.2.2.2 s.2.2.1) ∧ (s.1 = 30 → s.2.1 < zlc d ∧ zja o d s.2.2.1 (zro d s.2.1)) ∧ (s.1 = 29 → s.2.1 < zlc d ∧ zja o d s.2.2.1 (s.2.1 + 1)) ∧
  (s.1 = 28 → s.2.2.1 < zlc d ∧ zja o d s.2.2.2 (s.2.2.1 + 1)) ∧ (s.1 = 25 ∨ s.1 = 26 ∨ s.1 = 10 → s.2.2.1 < zlc d) ∧ (s.1 = 7 ∨ s.1 = 8 ∨ s.1 = 9 → s.2.2.1 ≤ zlc d)
theorem zjx.tr {o : Option Nat} {d : zDat} {y a b m : Nat} (h : y ≠ 9 ∧ y ≠ 30 ∧ y ≠ 29 ∧ y ≠ 28 ∧ y ≠ 25 ∧ y ≠ 26 ∧ y ≠ 10 ∧ ((y = 7 ∨ y = 8) → b = 0)) : zjx o d (y, a, b, m) := ⟨fun e => absurd e h.1, fun e => absurd e h.2.1, fun e => absurd e h.2.2.1, fun e => absurd e h.2.2.2.1, fun e => by rcases e with e | e | e; exact absurd e h.2.2.2.2.1; exact absurd e h.2.2.2.2.2.1; exact absurd e h.2.2.2.2.2.2.1, fun e => by rcases e with e | e | e; (show b ≤ zlc d; have := h.2.2.2.2.2.2.2 (Or.inl e); omega); (show b ≤ zlc d; have := h.2.2.2.2.2.2.2 (Or.inr e); omega); exact absurd e h.1⟩
def zjk (d : zDat) : Prop := ∀ l, l < zlc d → zro d l ≤ l ∧ (∀ z, znl d l = z + 1 → z < zlc d ∧ zro d z = zro d l) ∧ (∀ z, zbo d l = z + 1 → z < zlc d ∧ zro d z = l + 1) ∧ ∀ z, zot d l = z + 1 → z < zlc d ∧ zro d z = l + 1
/-- lines stand -/
def zjr (d d' : zDat) : Prop := zlc d' = zlc d ∧ ∀ l, l < zlc d → zro d' l = zro d l
theorem zja.mv {o' : Option Nat} {d d' : zDat} {z b : Nat} (h : zja none d z b) (hr : zlc d ≤ zlc d' ∧ ∀ l, l < zlc d → zro d' l = zro d l) : zja o' d' z b := by
  rcases h with ⟨h1, h2⟩ | ⟨-, h2⟩
  · exact Or.inl ⟨by omega, (hr.2 z h1).trans h2⟩
  · cases h2
theorem zja.sm {o : Option Nat} {d d' : zDat} {z b : Nat} (h : zja o d z b) (hr : zjr d d') : zja o d' z b := by
  rcases h with ⟨h1, h2⟩ | ⟨h1, h2⟩
  · exact Or.inl ⟨by rw [hr.1]; exact h1, (hr.2 z h1).trans h2⟩
  · exact Or.inr ⟨by rw [hr.1]; exact h1, h2⟩
theorem zja.nw {o' : Option Nat} {d d' : zDat} {z b b' : Nat} (h : zja (some b') d z b) (hr : zlc d' = zlc d + 1 ∧ (∀ l, l < zlc d → zro d' l = zro d l) ∧ zro d' (zlc d) = b') : zja o' d' z b := by
  rcases h with ⟨h1, h2⟩ | ⟨h1, h2⟩
  · exact Or.inl ⟨by omega, (hr.2.1 z h1).trans h2⟩
  · exact Or.inl ⟨by omega, by rw [h1, hr.2.2]; exact Option.some.inj h2⟩
theorem zjx.map {o o' : Option Nat} {d d' : zDat} {s : zSy} (h : zjx o d s) (hl : zlc d ≤ zlc d') (hro : ∀ l, l < zlc d → zro d' l = zro d l) (ha : ∀ z b, zja o d z b → zja o' d' z b) : zjx o' d' s := by
  obtain ⟨h1, h2, h3, h4, h5, h6⟩ := h
  refine ⟨fun e => ha _ _ (h1 e), fun e => ?_, fun e => ?_, fun e => ?_, fun e => ?_, fun e => ?_⟩
  · obtain ⟨g1, g2⟩ := h2 e
    rw [hro _ g1]
    exact ⟨by omega, ha _ _ g2⟩
  · obtain ⟨g1, g2⟩ := h3 e
    exact ⟨by omega, ha _ _ g2⟩
  · obtain ⟨g1, g2⟩ := h4 e
    exact ⟨by omega, ha _ _ g2⟩
  · have := h5 e
    omega
  · have := h6 e
    omega
theorem zjx.mv {o' : Option Nat} {d d' : zDat} {s : zSy} (h : zjx none d s) (hr : zlc d ≤ zlc d' ∧ ∀ l, l < zlc d → zro d' l = zro d l) : zjx o' d' s := h.map hr.1 hr.2 (fun _ _ q => q.mv hr)
def zjJ (κ : List zSy) (d : zDat) : Prop := ∀ s ∈ κ, zjx (zjh κ) d s
theorem zjh_no {y a b m : Nat} {κ : List zSy} (h7 : y ≠ 7) (h8 : y ≠ 8) : zjh ((y, a, b, m) :: κ) = none := by
  unfold zjh
  split
  · rename_i h; injection h with h; injection h with h; exact absurd h h7
  · rename_i h; injection h with h; injection h with h; exact absurd h h8
  · rfl
/-- symbols of no account are put ahead -/
theorem zjJ.put {o : Option Nat} {κ κ1 : List zSy} {d d' : zDat} (h : ∀ s ∈ κ, zjx none d s) (h1 : ∀ s ∈ κ1, zjx (zjh (κ1 ++ κ)) d' s) (hr : zlc d ≤ zlc d' ∧ ∀ l, l < zlc d → zro d' l = zro d l) : zjJ (κ1 ++ κ) d' := fun s hs => by
  rcases List.mem_append.mp hs with hs | hs
  · exact h1 s hs
  · exact (h s hs).mv hr
theorem zjk.sm {d d' : zDat} (h : zjk d) (hc : zlc d' = zlc d) (hw : zrw d' = zrw d) : zjk d' := by
  unfold zjk znl zbo zot zro
  rw [hc, hw]
  exact h
theorem zj_ende {d : zDat} {l : Nat} {e : Nat × Nat × Nat} : znl (zende d l e) = znl d ∧ zro (zende d l e) = zro d ∧ zbo (zende d l e) = zbo d ∧ zot (zende d l e) = zot d := by
  refine ⟨funext fun x => ?_, funext fun x => ?_, funext fun x => ?_, funext fun x => ?_⟩ <;> (first | unfold znl | unfold zro | unfold zbo | unfold zot) <;> rw [za_zrw_ende] <;> (by_cases c : x = l; (subst c; rw [zup_self]); rw [zup_ne _ _ c])
theorem zj_next {d : zDat} {l n : Nat} : znl (znext d l n) = zup (znl d) l (n + 1) ∧ zro (znext d l n) = zro d ∧ zbo (znext d l n) = zbo d ∧ zot (znext d l n) = zot d := by
  refine ⟨funext fun x => ?_, funext fun x => ?_, funext fun x => ?_, funext fun x => ?_⟩ <;> (first | unfold znl | unfold zro | unfold zbo | unfold zot) <;> rw [za_zrw_next] <;> (by_cases c : x = l; (subst c; rw [zup_self]; try rw [zup_self]); (rw [zup_ne _ _ c]; try rw [zup_ne _ _ c]))
theorem zj_body {d : zDat} {l n : Nat} : znl (zbody d l n) = znl d ∧ zro (zbody d l n) = zro d ∧ zbo (zbody d l n) = zup (zbo d) l (n + 1) ∧ zot (zbody d l n) = zot d := by
  refine ⟨funext fun x => ?_, funext fun x => ?_, funext fun x => ?_, funext fun x => ?_⟩ <;> (first | unfold znl | unfold zro | unfold zbo | unfold zot) <;> rw [za_zrw_body] <;> (by_cases c : x = l; (subst c; rw [zup_self]; try rw [zup_self]); (rw [zup_ne _ _ c]; try rw [zup_ne _ _ c]))
theorem zj_othr {d : zDat} {q l n : Nat} : znl (zothr d q l n) = znl d ∧ zro (zothr d q l n) = zro d ∧ zbo (zothr d q l n) = zbo d ∧ zot (zothr d q l n) = zup (zot d) l (n + 1) := by
  refine ⟨funext fun x => ?_, funext fun x => ?_, funext fun x => ?_, funext fun x => ?_⟩ <;> (first | unfold znl | unfold zro | unfold zbo | unfold zot) <;> rw [za_zrw_othr] <;> (by_cases c : x = l; (subst c; rw [zup_self]; try rw [zup_self]); (rw [zup_ne _ _ c]; try rw [zup_ne _ _ c]))
theorem zj_addl {d : zDat} {k : Int} {t n b : Nat} : znl (zaddl d k t n b) = zup (znl d) (zlc d) 0 ∧ zro (zaddl d k t n b) = zup (zro d) (zlc d) b ∧ zbo (zaddl d k t n b) = zup (zbo d) (zlc d) 0 ∧ zot (zaddl d k t n b) = zup (zot d) (zlc d) 0 := by
  refine ⟨funext fun x => ?_, funext fun x => ?_, funext fun x => ?_, funext fun x => ?_⟩ <;> (first | unfold znl | unfold zro | unfold zbo | unfold zot) <;> rw [za_zrw_addl] <;> (by_cases c : x = zlc d; (subst c; rw [zup_self, zup_self]); (rw [zup_ne _ _ c, zup_ne _ _ c]))
theorem zjk.eq {d d' : zDat} (h : zjk d) (hc : zlc d' = zlc d) (h1 : znl d' = znl d) (h2 : zro d' = zro d) (h3 : zbo d' = zbo d) (h4 : zot d' = zot d) : zjk d' := by
  unfold zjk
  rw [hc, h1, h2, h3, h4]
  exact h
/-- one step -/
theorem zj_st {T : zTS} {y a b m i : Nat} {d : zDat} {κ κ1 : List zSy} {i' : Nat} {d' : zDat} (hJ : zjJ ((y, a, b, m) :: κ) d) (hK : zjk d) (h : zst T y a b m [] i d = .inl (κ1, i', d')) : zjJ (κ1 ++ κ) d' ∧ zjk d' := by
  have hrf : ∀ {d' : zDat}, zlc d' = zlc d → zro d' = zro d → zlc d ≤ zlc d' ∧ ∀ l, l < zlc d → zro d' l = zro d l := fun h1 h2 => ⟨by omega, fun l _ => by rw [h2]⟩
  have hd := hJ _ List.mem_cons_self
  have ht : y ≠ 7 → y ≠ 8 → ∀ s ∈ κ, zjx none d s := fun h7 h8 s hs => by
    have := hJ s (List.mem_cons_of_mem _ hs)
    rw [zjh_no h7 h8] at this
    exact this
  have plain : ∀ {κ1 : List zSy} {d1 : zDat}, y ≠ 7 → y ≠ 8 → zlc d1 = zlc d → zrw d1 = zrw d → (∀ s ∈ κ1, s.1 ≠ 9 ∧ s.1 ≠ 30 ∧ s.1 ≠ 29 ∧ s.1 ≠ 28 ∧ s.1 ≠ 25 ∧ s.1 ≠ 26 ∧ s.1 ≠ 10 ∧ ((s.1 = 7 ∨ s.1 = 8) → s.2.2.1 = 0)) → zjJ (κ1 ++ κ) d1 ∧ zjk d1 := fun h7 h8 e1 e2 hκ => ⟨zjJ.put (o := none) (ht h7 h8) (fun s hs => zjx.tr (hκ s hs)) (hrf e1 (by unfold zro; rw [e2])), hK.sm e1 e2⟩
  have tr : ∀ {o : Option Nat} {d : zDat} {y a b m : Nat}, y ≠ 9 ∧ y ≠ 30 ∧ y ≠ 29 ∧ y ≠ 28 ∧ y ≠ 25 ∧ y ≠ 26 ∧ y ≠ 10 ∧ y ≠ 7 ∧ y ≠ 8 → zjx o d (y, a, b, m) := fun h => zjx.tr ⟨h.1, h.2.1, h.2.2.1, h.2.2.2.1, h.2.2.2.2.1, h.2.2.2.2.2.1, h.2.2.2.2.2.2.1, fun e => by rcases e with e | e; exact absurd e h.2.2.2.2.2.2.2.1; exact absurd e h.2.2.2.2.2.2.2.2⟩
  have mk : ∀ {κ1 : List zSy} {d1 : zDat}, y ≠ 7 → y ≠ 8 → zlc d1 = zlc d → zro d1 = zro d → (∀ s ∈ κ1, zjx (zjh (κ1 ++ κ)) d1 s) → zjk d1 → zjJ (κ1 ++ κ) d1 ∧ zjk d1 := fun h7 h8 e1 e2 hκ h9 => ⟨zjJ.put (o := none) (ht h7 h8) hκ (hrf e1 e2), h9⟩
  have inj : ∀ {a a' : List zSy} {b b' : Nat} {c c' : zDat}, (Sum.inl (a, b, c) : zCf) = .inl (a', b', c') → a = a' ∧ b = b' ∧ c = c' := fun h => by injection h with h; injection h with h1 h2; injection h2 with h2 h3; exact ⟨h1, h2, h3⟩
  have hS : y = 7 ∨ y = 8 ∨ y = 9 ∨ y = 10 ∨ y = 25 ∨ y = 26 ∨ y = 24 ∨ y = 28 ∨ y = 29 ∨ y = 30 ∨ (y ≠ 7 ∧ y ≠ 8 ∧ y ≠ 9 ∧ y ≠ 10 ∧ y ≠ 25 ∧ y ≠ 26 ∧ y ≠ 24 ∧ y ≠ 28 ∧ y ≠ 29 ∧ y ≠ 30) := by omega
  rcases hS with e | e | e | e | e | e | e | e | e | e | e
  · -- a block begins
    subst e
    simp only [zst] at h
    split at h
    · split at h
      · obtain ⟨h1, -, h3⟩ := inj h
        subst h1
        subst h3
        refine ⟨fun s hs => ?_, hK⟩
        rcases List.mem_append.mp hs with hs | hs
        · simp only [List.mem_cons, List.not_mem_nil, or_false] at hs
          rcases hs with hs | hs | hs
          · rw [hs]
            exact ⟨fun q => (by simp at q), fun q => (by simp at q), fun q => (by simp at q), fun q => (by simp at q), fun q => (by simp at q), fun _ => hd.2.2.2.2.2 (Or.inl rfl)⟩
          · rw [hs]
            exact ⟨fun _ => Or.inr ⟨rfl, rfl⟩, fun q => (by simp at q), fun q => (by simp at q), fun q => (by simp at q), fun q => (by simp at q), fun _ => hd.2.2.2.2.2 (Or.inl rfl)⟩
          · rw [hs]; exact tr (by decide)
        · exact hJ s (List.mem_cons_of_mem _ hs)
      · cases h
    · cases h
  · -- a line begins
    subst e
    have key : ∀ {κ1 : List zSy} {k : Int} {t n : Nat}, (∀ s ∈ κ1, (s.1 ≠ 9 ∧ s.1 ≠ 30 ∧ s.1 ≠ 29 ∧ s.1 ≠ 28 ∧ s.1 ≠ 7 ∧ s.1 ≠ 8) ∧ (s.1 = 25 ∨ s.1 = 26 ∨ s.1 = 10 → s.2.2.1 = zlc d)) → zjJ (κ1 ++ κ) (zaddl d k t n b) ∧ zjk (zaddl d k t n b) := fun {κ1 k t n} hκ => by
      obtain ⟨r1, r2, r3, r4⟩ := zj_addl (d := d) (k := k) (t := t) (n := n) (b := b)
      have hc : zlc (zaddl d k t n b) = zlc d + 1 := za_zlc_addl
      have hro : ∀ l, l < zlc d → zro (zaddl d k t n b) l = zro d l := fun l hl => by rw [r2, zup_ne _ _ (by omega)]
      refine ⟨fun s hs => ?_, fun l hl => ?_⟩
      · rcases List.mem_append.mp hs with hs | hs
        · obtain ⟨⟨g1, g2, g3, g4, g6, g7⟩, g5⟩ := hκ s hs
          exact ⟨fun q => absurd q g1, fun q => absurd q g2, fun q => absurd q g3, fun q => absurd q g4, fun q => by rw [g5 q, hc]; omega, fun q => by rcases q with q | q | q; exact absurd q g6; exact absurd q g7; exact absurd q g1⟩
        · have h9 := hJ s (List.mem_cons_of_mem _ hs)
          exact h9.map (by omega) hro (fun z b' q => zja.nw (b' := b) q ⟨hc, hro, by rw [r2, zup_self]⟩)
      · rw [hc] at hl
        rw [r1, r2, r3, r4]
        by_cases c : l = zlc d
        · rw [c, zup_self (znl d), zup_self (zbo d), zup_self (zot d)]
          refine ⟨?_, fun z q => by omega, fun z q => by omega, fun z q => by omega⟩
          rw [zup_self]
          exact hd.2.2.2.2.2 (Or.inr (Or.inl rfl))
        · obtain ⟨g0, g1, g2, g3⟩ := hK l (by omega)
          rw [zup_ne (znl d) _ c, zup_ne (zbo d) _ c, zup_ne (zot d) _ c]
          refine ⟨by rw [zup_ne (zro d) _ c]; exact g0, fun z q => ?_, fun z q => ?_, fun z q => ?_⟩
          · obtain ⟨q1, q2⟩ := g1 z q
            rw [zup_ne (zro d) _ c, zup_ne (zro d) _ (show z ≠ zlc d by omega)]
            exact ⟨by omega, q2⟩
          · obtain ⟨q1, q2⟩ := g2 z q
            rw [zup_ne (zro d) _ (show z ≠ zlc d by omega)]
            exact ⟨by omega, q2⟩
          · obtain ⟨q1, q2⟩ := g3 z q
            rw [zup_ne (zro d) _ (show z ≠ zlc d by omega)]
            exact ⟨by omega, q2⟩
    simp only [zst] at h
    split at h
    · cases h
    · split at h
      · repeat' split at h
        all_goals
          obtain ⟨h1, -, h3⟩ := inj h
          subst h1
          subst h3
          exact key (by simp)
      · cases h
  · -- the next line
    subst e
    simp only [zst] at h
    split at h
    · obtain ⟨h1, -, h3⟩ := inj h
      subst h1
      subst h3
      have h9 : zja none d m b := by
        have := hd.1 rfl
        rw [zjh_no (by decide) (by decide)] at this
        exact this
      rcases h9 with ⟨g1, g2⟩ | ⟨-, g2⟩
      · refine mk (by decide) (by decide) rfl rfl (fun s hs => ?_) hK
        simp only [List.mem_cons, List.not_mem_nil, or_false] at hs
        rcases hs with hs | hs | hs
        · rw [hs]
          exact ⟨fun q => (by simp at q), fun q => (by simp at q), fun q => (by simp at q), fun q => (by simp at q), fun q => (by simp at q), fun _ => hd.2.2.2.2.2 (Or.inr (Or.inr rfl))⟩
        · rw [hs]
          exact ⟨fun q => (by simp at q), fun _ => ⟨g1, Or.inr ⟨rfl, by rw [g2]; rfl⟩⟩, fun q => (by simp at q), fun q => (by simp at q), fun q => (by simp at q), fun q => (by simp at q)⟩
        · rw [hs]
          exact ⟨fun _ => Or.inr ⟨rfl, rfl⟩, fun q => (by simp at q), fun q => (by simp at q), fun q => (by simp at q), fun q => (by simp at q), fun _ => hd.2.2.2.2.2 (Or.inr (Or.inr rfl))⟩
      · cases g2
    · obtain ⟨h1, -, h3⟩ := inj h
      subst h1
      subst h3
      exact plain (by decide) (by decide) rfl rfl (by simp)
  · -- the other block
    subst e
    have g := hd.2.2.2.2.1 (Or.inr (Or.inr rfl))
    simp only [zst] at h
    split at h
    · obtain ⟨h1, -, h3⟩ := inj h
      subst h1
      subst h3
      have e1 : zrw (zgo d m (15, 0, b)) = zrw d := za_zrw_go
      have ec : zlc (zgo d m (15, 0, b)) = zlc d := za_zlc_go
      refine mk (by decide) (by decide) ec (by unfold zro; rw [e1]) (fun s hs => ?_) (hK.sm ec e1)
      simp only [List.mem_cons, List.not_mem_nil, or_false] at hs
      rcases hs with hs | hs
      · rw [hs]
        exact ⟨fun q => (by simp at q), fun q => (by simp at q), fun q => (by simp at q), fun q => (by simp at q), fun q => (by simp at q), fun _ => by rw [ec]; exact g⟩
      · rw [hs]
        exact ⟨fun q => (by simp at q), fun q => (by simp at q), fun q => (by simp at q), fun _ => ⟨by rw [ec]; exact g, Or.inr ⟨ec.symm, rfl⟩⟩, fun q => (by simp at q), fun q => (by simp at q)⟩
    · obtain ⟨h1, -, h3⟩ := inj h
      subst h1
      subst h3
      exact plain (by decide) (by decide) za_zlc_tgt za_zrw_tgt (by simp)
  · -- a test stands: if
    subst e
    have g := hd.2.2.2.2.1 (Or.inl rfl)
    simp only [zst] at h
    obtain ⟨h1, -, h3⟩ := inj h
    subst h1
    subst h3
    obtain ⟨e1, e2, e3, e4⟩ := zj_ende (d := d) (l := b) (e := (13, 0, b))
    have ec : zlc (zende d b (13, 0, b)) = zlc d := za_zlc_ende
    refine mk (by decide) (by decide) ec e2 (fun s hs => ?_) (hK.eq ec e1 e2 e3 e4)
    simp only [List.mem_cons, List.not_mem_nil, or_false] at hs
    rcases hs with hs | hs | hs
    · rw [hs]
      exact ⟨fun q => (by simp at q), fun q => (by simp at q), fun q => (by simp at q), fun q => (by simp at q), fun q => (by simp at q), fun _ => by rw [ec]; exact g⟩
    · rw [hs]
      exact ⟨fun q => (by simp at q), fun q => (by simp at q), fun _ => ⟨by rw [ec]; exact g, Or.inr ⟨ec.symm, rfl⟩⟩, fun q => (by simp at q), fun q => (by simp at q), fun q => (by simp at q)⟩
    · rw [hs]
      exact ⟨fun q => (by simp at q), fun q => (by simp at q), fun q => (by simp at q), fun q => (by simp at q), (fun _ => by rw [ec]; exact g), fun q => (by simp at q)⟩
  · -- while
    subst e
    have g := hd.2.2.2.2.1 (Or.inr (Or.inl rfl))
    simp only [zst] at h
    obtain ⟨h1, -, h3⟩ := inj h
    subst h1
    subst h3
    obtain ⟨e1, e2, e3, e4⟩ := zj_ende (d := d) (l := b) (e := (13, 0, b))
    have ec : zlc (zende d b (13, 0, b)) = zlc d := za_zlc_ende
    refine mk (by decide) (by decide) ec e2 (fun s hs => ?_) (hK.eq ec e1 e2 e3 e4)
    simp only [List.mem_cons, List.not_mem_nil, or_false] at hs
    rcases hs with hs | hs | hs
    · rw [hs]
      exact ⟨fun q => (by simp at q), fun q => (by simp at q), fun q => (by simp at q), fun q => (by simp at q), fun q => (by simp at q), fun _ => by rw [ec]; exact g⟩
    · rw [hs]
      exact ⟨fun q => (by simp at q), fun q => (by simp at q), fun _ => ⟨by rw [ec]; exact g, Or.inr ⟨ec.symm, rfl⟩⟩, fun q => (by simp at q), fun q => (by simp at q), fun q => (by simp at q)⟩
    · rw [hs]; exact tr (by decide)
  · -- a line's end
    subst e
    simp only [zst] at h
    obtain ⟨h1, -, h3⟩ := inj h
    subst h1
    subst h3
    obtain ⟨e1, e2, e3, e4⟩ := zj_ende (d := d) (l := b) (e := (10 + m, a, b))
    exact mk (κ1 := []) (by decide) (by decide) za_zlc_ende e2 (fun s hs => absurd hs List.not_mem_nil) (hK.eq za_zlc_ende e1 e2 e3 e4)
  · -- the other block stands
    subst e
    have g := hd.2.2.2.1 rfl
    rw [zjh_no (by decide) (by decide)] at g
    simp only [zst] at h
    obtain ⟨h1, -, h3⟩ := inj h
    subst h1
    subst h3
    obtain ⟨e1, e2, e3, e4⟩ := zj_othr (d := d) (q := a) (l := b) (n := m)
    have ec : zlc (zothr d a b m) = zlc d := za_zlc_othr
    refine mk (κ1 := []) (by decide) (by decide) ec e2 (fun s hs => absurd hs List.not_mem_nil) (fun l hl => ?_)
    rw [ec] at hl
    obtain ⟨q0, q1, q2, q3⟩ := hK l hl
    rw [ec, e1, e2, e3, e4]
    refine ⟨q0, q1, q2, fun z q => ?_⟩
    by_cases c : l = b
    · subst c
      rw [zup_self] at q
      rw [show z = m by omega]
      rcases g.2 with g2 | ⟨-, g2⟩
      · exact g2
      · cases g2
    · rw [zup_ne _ _ c] at q
      exact q3 z q
  · subst e
    have g := hd.2.2.1 rfl
    rw [zjh_no (by decide) (by decide)] at g
    simp only [zst] at h
    obtain ⟨h1, -, h3⟩ := inj h
    subst h1
    subst h3
    obtain ⟨e1, e2, e3, e4⟩ := zj_body (d := d) (l := a) (n := b)
    have ec : zlc (zbody d a b) = zlc d := za_zlc_body
    refine mk (κ1 := []) (by decide) (by decide) ec e2 (fun s hs => absurd hs List.not_mem_nil) (fun l hl => ?_)
    rw [ec] at hl
    obtain ⟨q0, q1, q2, q3⟩ := hK l hl
    rw [ec, e1, e2, e3, e4]
    refine ⟨q0, q1, fun z q => ?_, q3⟩
    by_cases c : l = a
    · subst c
      rw [zup_self] at q
      rw [show z = b by omega]
      rcases g.2 with g2 | ⟨-, g2⟩
      · exact g2
      · cases g2
    · rw [zup_ne _ _ c] at q
      exact q2 z q
  · subst e
    have g := hd.2.1 rfl
    rw [zjh_no (by decide) (by decide)] at g
    simp only [zst] at h
    obtain ⟨h1, -, h3⟩ := inj h
    subst h1
    subst h3
    obtain ⟨e1, e2, e3, e4⟩ := zj_next (d := d) (l := a) (n := b)
    have ec : zlc (znext d a b) = zlc d := za_zlc_next
    refine mk (κ1 := []) (by decide) (by decide) ec e2 (fun s hs => absurd hs List.not_mem_nil) (fun l hl => ?_)
    rw [ec] at hl
    obtain ⟨q0, q1, q2, q3⟩ := hK l hl
    rw [ec, e1, e2, e3, e4]
    refine ⟨q0, fun z q => ?_, q2, q3⟩
    by_cases c : l = a
    · subst c
      rw [zup_self] at q
      rw [show z = b by omega]
      rcases g.2 with g2 | ⟨-, g2⟩
      · exact g2
      · cases g2
    · rw [zup_ne _ _ c] at q
      exact q1 z q
  · obtain ⟨n7, n8, n9, n10, n25, n26, n24, n28, n29, n30⟩ := e
    unfold zst at h
    split at h
    all_goals (try split at h)
    all_goals (try split at h)
    all_goals (try split at h)
    all_goals (try split at h)
    all_goals (try split at h)
    all_goals first
      | (cases h; done)
      | (exact absurd rfl n7)
      | (exact absurd rfl n8)
      | (exact absurd rfl n9)
      | (exact absurd rfl n10)
      | (exact absurd rfl n25)
      | (exact absurd rfl n26)
      | (exact absurd rfl n24)
      | (exact absurd rfl n28)
      | (exact absurd rfl n29)
      | (exact absurd rfl n30)
      | (obtain ⟨h1, -, h3⟩ := inj h; subst h1; subst h3; exact plain (by decide) (by decide) rfl rfl (by simp))
theorem zj_it {T : zTS} : ∀ (n : Nat) (κ κ' : List zSy) (i i' : Nat) (d d' : zDat), zjJ κ d → zjk d → zit T n (.inl (κ, i, d)) = .inl (κ', i', d') → zjk d'
  | 0, κ, κ', i, i', d, d', _, hK, h => by
    have h : (Sum.inl (κ, i, d) : zCf) = .inl (κ', i', d') := h
    injection h with h
    injection h with h1 h2
    injection h2 with h2 h3
    subst h3
    exact hK
  | n + 1, [], κ', i, i', d, d', hJ, hK, h => zj_it n [] κ' i i' d d' hJ hK h
  | n + 1, (y, a, b, m) :: κ, κ', i, i', d, d', hJ, hK, h => by
    have h : zit T n (zst T y a b m κ i d) = .inl (κ', i', d') := h
    rw [zst_app] at h
    match hq : zst T y a b m [] i d, h with
    | .inr k, h =>
      exfalso
      have e : ∀ n, zit T n (.inr k) = .inr k := fun n => zit_fix rfl n
      have h : zit T n (.inr k) = .inl (κ', i', d') := h
      rw [e] at h
      cases h
    | .inl (κ1, i1, d1), h =>
      obtain ⟨h1, h2⟩ := zj_st hJ hK hq
      have h : zit T n (.inl (κ1 ++ κ, i1, d1)) = .inl (κ', i', d') := h
      exact zj_it n _ κ' i1 i' d1 d' h1 h2 h
/-- of a text that was read to its end -/
theorem zjk.of {T : zTS} {i : Nat} {d : zDat} (h : zRe T (.inl ([(1, 0, 0, 0), (0, 0, 0, 0)], 0, zd0)) (.inl ([], i, d))) : zjk d := by
  obtain ⟨n, hn⟩ := h
  refine zj_it n _ _ _ _ _ _ (fun s hs => ?_) (fun l hl => absurd hl (Nat.not_lt_zero _)) hn
  simp only [List.mem_cons, List.not_mem_nil, or_false] at hs
  rcases hs with hs | hs
  · rw [hs]; exact zjx.tr (by decide)
  · rw [hs]; exact zjx.tr (by decide)
/-- a function's places are all different -/
def zdi (d : zDat) : Prop := ∀ f i j, i < j → j < zpc d f → zpl d f i ≠ zpl d f j
theorem zdi.eq {d d' : zDat} (h1 : zpc d' = zpc d) (h2 : zpl d' = zpl d) : zdi d → zdi d' := fun h => by
  unfold zdi
  rw [h1, h2]
  exact h
theorem zdi_st (T : zTS) (y a b m i : Nat) (d : zDat) (κ' : List zSy) (i' : Nat) (d' : zDat) (_ : True) (h : zst T y a b m [] i d = .inl (κ', i', d')) : (∀ z ∈ κ', True) ∧ (zdi d → zdi d') := by
  refine ⟨fun _ _ => trivial, ?_⟩
  have inj : ∀ {a a' : List zSy} {b b' : Nat} {c c' : zDat}, (Sum.inl (a, b, c) : zCf) = .inl (a', b', c') → c = c' := fun h => by injection h with h; injection h with h1 h2; injection h2 with h2 h3
  have hS : y = 3 ∨ y = 4 ∨ (y ≠ 3 ∧ y ≠ 4) := by omega
  rcases hS with e | e | ⟨n3, n4⟩
  · subst e
    have key : zdi d → zdi (zadd0 d) := fun g f i j hij hj => by
      rw [za_zpc_add0] at hj
      rw [za_zpl_add0]
      by_cases c : f = zfc d
      · rw [c, zup_self] at hj
        omega
      · rw [zup_ne _ _ c] at hj
        exact g f i j hij hj
    simp only [zst] at h
    split at h
    · rw [← inj h]; exact key
    · rw [← inj h]; exact key
  · subst e
    simp only [zst] at h
    split at h
    · split at h
      · cases h
      · rename_i hh
        split at h
        · rw [← inj h]
          intro g f i j hij hj
          rw [za_zpc_addp] at hj
          rw [za_zpl_addp]
          by_cases c : f = zfc d
          · subst c
            rw [zup_self] at hj
            rw [zup_self]
            by_cases c2 : j = zpc d (zfc d)
            · rw [c2, zup_self, zup_ne _ _ (by omega)]
              exact fun q => hh ⟨i, by omega, q⟩
            · rw [zup_ne _ _ c2, zup_ne _ _ (by omega)]
              exact g _ i j hij (by omega)
          · rw [zup_ne _ _ c] at hj
            rw [zup_ne _ _ c]
            exact g f i j hij hj
        · cases h
    · cases h
  · unfold zst at h
    split at h
    all_goals (try split at h)
    all_goals (try split at h)
    all_goals (try split at h)
    all_goals (try split at h)
    all_goals (try split at h)
    all_goals first
      | (cases h; done)
      | (exact absurd rfl n3)
      | (exact absurd rfl n4)
      | (rw [← inj h]; exact zdi.eq rfl rfl)
theorem zdi.of {T : zTS} {i : Nat} {d : zDat} (h : zRe T (.inl ([(1, 0, 0, 0), (0, 0, 0, 0)], 0, zd0)) (.inl ([], i, d))) : zdi d := by
  obtain ⟨n, hn⟩ := h
  exact zit_clS (P := fun _ => True) (R := fun d d' => zdi d → zdi d') (fun _ h => h) (fun _ _ _ h g q => g (h q)) (zdi_st T) n _ _ _ _ _ _ (fun _ _ => trivial) hn (fun f i j hij hj => by
    have : zpc zd0 f = 0 := rfl
    omega)
