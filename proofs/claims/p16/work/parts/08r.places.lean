/-! A text's acts: what they are, whose places they name. -/
def zao (T : zTS) (d : zDat) : Prop := ∀ q, q < zac d → (zaf d q).1 ≤ 16 ∧ ((zaf d q).1 = 2 ∨ (zaf d q).1 = 10 → T.1 (zaf d q).2.1 = 3)
def zaoP (T : zTS) (s : zSy) : Prop := (s.1 = 23 → 2 ≤ s.2.1 ∧ s.2.1 < 9) ∧ (s.1 = 24 → s.2.2.2 ≤ 2 ∧ (s.2.2.2 = 0 → T.1 s.2.1 = 3))
theorem zao.eq {T : zTS} {d d' : zDat} (h1 : zac d' = zac d) (h2 : zaf d' = zaf d) : zao T d → zao T d' := fun h => by
  unfold zao
  rw [h1, h2]
  exact h
theorem zao.add {T : zTS} {d d' : zDat} {e : Nat × Nat × Nat} (h1 : zac d' = zac d + 1) (h2 : zaf d' = zup (zaf d) (zac d) e) (he : e.1 ≤ 16 ∧ (e.1 = 2 ∨ e.1 = 10 → T.1 e.2.1 = 3)) : zao T d → zao T d' := fun h q hq => by
  rw [h1] at hq
  rw [h2]
  by_cases c : q = zac d
  · rw [c, zup_self]
    exact he
  · rw [zup_ne _ _ c]
    exact h q (by omega)
theorem zao_st (T : zTS) (y a b m i : Nat) (d : zDat) (κ' : List zSy) (i' : Nat) (d' : zDat) (hP : zaoP T (y, a, b, m)) (h : zst T y a b m [] i d = .inl (κ', i', d')) : (∀ z ∈ κ', zaoP T z) ∧ (zao T d → zao T d') := by
  have inj : ∀ {a a' : List zSy} {b b' : Nat} {c c' : zDat}, (Sum.inl (a, b, c) : zCf) = .inl (a', b', c') → a = a' ∧ c = c' := fun h => by injection h with h; injection h with h1 h2; injection h2 with h2 h3; exact ⟨h1, h3⟩
  have hS : y = 8 ∨ y = 12 ∨ y = 14 ∨ y = 17 ∨ y = 21 ∨ y = 22 ∨ y = 23 ∨ y = 24 ∨ y = 25 ∨ y = 26 ∨ y = 27 ∨ y = 10 ∨ y = 16 ∨ (y ≠ 16 ∧ y ≠ 8 ∧ y ≠ 12 ∧ y ≠ 14 ∧ y ≠ 17 ∧ y ≠ 21 ∧ y ≠ 22 ∧ y ≠ 23 ∧ y ≠ 24 ∧ y ≠ 25 ∧ y ≠ 26 ∧ y ≠ 27 ∧ y ≠ 10) := by omega
  have tr : ∀ {κ : List zSy}, (∀ z ∈ κ, z.1 ≠ 23 ∧ z.1 ≠ 24) → ∀ z ∈ κ, zaoP T z := fun h z hz => ⟨fun e => absurd e (h z hz).1, fun e => absurd e (h z hz).2⟩
  rcases hS with e | e | e | e | e | e | e | e | e | e | e | e | e | e
  · subst e
    simp only [zst] at h
    have hl : ∀ {k t n b}, zao T d → zao T (zaddl d k t n b) := zao.add zac_addl za_zaf_addl ⟨by show 0 ≤ 16; decide, fun q => by have q : 0 = 2 ∨ 0 = 10 := q; exact absurd q (by decide)⟩
    split at h
    · cases h
    · rename_i h0
      split at h
      · split at h
        · rename_i h3
          obtain ⟨h1, h2⟩ := inj h
          subst h1
          subst h2
          refine ⟨fun z hz => ?_, hl⟩
          simp only [List.mem_cons, List.not_mem_nil, or_false] at hz
          rcases hz with hz | hz | hz
          · rw [hz]; exact ⟨fun q => (by simp at q), fun q => (by simp at q)⟩
          · rw [hz]; exact ⟨fun q => (by simp at q), fun q => (by simp at q)⟩
          · rw [hz]; exact ⟨fun q => (by simp at q), fun _ => ⟨by show 0 ≤ 2; decide, fun _ => h3⟩⟩
        · split at h
          · obtain ⟨h1, h2⟩ := inj h
            subst h1
            subst h2
            exact ⟨tr (by simp), hl⟩
          · split at h
            · obtain ⟨h1, h2⟩ := inj h
              subst h1
              subst h2
              exact ⟨tr (by simp), hl⟩
            · rename_i n3 n8 n10
              obtain ⟨h1, h2⟩ := inj h
              subst h1
              subst h2
              refine ⟨fun z hz => ?_, hl⟩
              have hk : zlk (T.1 i) = 1 ∨ zlk (T.1 i) = 2 := by
                unfold zlk at h0 ⊢
                rw [if_neg n3] at h0 ⊢
                by_cases c6 : T.1 i = 6
                · rw [if_pos c6]; exact Or.inl rfl
                · rw [if_neg c6] at h0 ⊢
                  by_cases c7 : T.1 i = 7
                  · rw [if_pos c7]; exact Or.inr rfl
                  · rw [if_neg c7, if_neg n8, if_neg n10] at h0
                    exact absurd rfl h0
              simp only [List.mem_cons, List.not_mem_nil, or_false] at hz
              rcases hz with hz | hz
              · rw [hz]; exact ⟨fun q => (by simp at q), fun q => (by simp at q)⟩
              · rw [hz]
                refine ⟨fun q => (by simp at q), fun _ => ?_⟩
                show (zlk (T.1 i)).toNat ≤ 2 ∧ ((zlk (T.1 i)).toNat = 0 → _)
                rcases hk with hk | hk <;> (rw [hk]; exact ⟨by decide, fun q => absurd q (by decide)⟩)
      · cases h
  · subst e
    simp only [zst] at h
    split at h
    · obtain ⟨h1, h2⟩ := inj h
      subst h1
      subst h2
      refine ⟨fun z hz => ?_, fun g => g⟩
      simp only [List.mem_cons, List.not_mem_nil, or_false] at hz
      rcases hz with hz | hz
      · rw [hz]; exact ⟨fun q => (by simp at q), fun q => (by simp at q)⟩
      · rw [hz]
        refine ⟨fun _ => ?_, fun q => (by simp at q)⟩
        show 2 ≤ zsgn (T.1 i) ∧ zsgn (T.1 i) < 9
        unfold zsgn
        split
        · decide
        · split <;> decide
    · cases h
  · subst e
    simp only [zst] at h
    split at h
    · obtain ⟨h1, h2⟩ := inj h
      subst h1
      subst h2
      refine ⟨fun z hz => ?_, fun g => g⟩
      simp only [List.mem_cons, List.not_mem_nil, or_false] at hz
      rcases hz with hz | hz | hz
      · rw [hz]; exact ⟨fun q => (by simp at q), fun q => (by simp at q)⟩
      · rw [hz]
        refine ⟨fun _ => ?_, fun q => (by simp at q)⟩
        show 2 ≤ (if T.1 i = 43 then 2 else 3) ∧ (if T.1 i = 43 then 2 else 3) < 9
        split <;> decide
      · rw [hz]; exact ⟨fun q => (by simp at q), fun q => (by simp at q)⟩
    · obtain ⟨h1, h2⟩ := inj h
      subst h1
      subst h2
      exact ⟨tr (by simp), fun g => g⟩
  · subst e
    simp only [zst] at h
    split at h
    · obtain ⟨h1, h2⟩ := inj h
      subst h1
      subst h2
      exact ⟨tr (by simp), zao.add zac_emi za_zaf_emi ⟨by show zia 0 ≤ 16; decide, fun q => by have q : zia 0 = 2 ∨ zia 0 = 10 := q; exact absurd q (by decide)⟩⟩
    · split at h
      · rename_i h3
        obtain ⟨h1, h2⟩ := inj h
        subst h1
        subst h2
        exact ⟨tr (by simp), zao.add zac_emi za_zaf_emi ⟨by show zia 1 ≤ 16; decide, fun _ => h3⟩⟩
      · split at h
        · obtain ⟨h1, h2⟩ := inj h
          subst h1
          subst h2
          exact ⟨tr (by simp), fun g => g⟩
        · split at h
          · obtain ⟨h1, h2⟩ := inj h
            subst h1
            subst h2
            exact ⟨tr (by simp), fun g => g⟩
          · cases h
  · subst e
    simp only [zst] at h
    obtain ⟨h1, h2⟩ := inj h
    subst h1
    subst h2
    refine ⟨tr (by simp), fun g => zao.add zac_emi za_zaf_emi ⟨by show zia 5 ≤ 16; decide, fun q => by have q : zia 5 = 2 ∨ zia 5 = 10 := q; exact absurd q (by decide)⟩ (zao.eq zac_addc za_zaf_addc g)⟩
  · subst e
    simp only [zst] at h
    obtain ⟨h1, h2⟩ := inj h
    subst h1
    subst h2
    exact ⟨tr (by simp), zao.add zac_addf za_zaf_addf ⟨by show 16 ≤ 16; decide, fun q => by have q : 16 = 2 ∨ 16 = 10 := q; exact absurd q (by decide)⟩⟩
  · subst e
    simp only [zst] at h
    obtain ⟨h1, h2⟩ := inj h
    subst h1
    subst h2
    have hp := hP.1 rfl
    have hz : zia a ≤ 16 ∧ zia a ≠ 2 ∧ zia a ≠ 10 := by
      have ha : a = 2 ∨ a = 3 ∨ a = 4 ∨ a = 5 ∨ a = 6 ∨ a = 7 ∨ a = 8 := by
        have h1 : 2 ≤ a := hp.1
        have h2 : a < 9 := hp.2
        omega
      rcases ha with h | h | h | h | h | h | h <;> (subst h; decide)
    exact ⟨tr (by simp), zao.add zac_emi za_zaf_emi ⟨hz.1, fun q => by rcases q with q | q; exact absurd q hz.2.1; exact absurd q hz.2.2⟩⟩
  · subst e
    simp only [zst] at h
    obtain ⟨h1, h2⟩ := inj h
    subst h1
    subst h2
    obtain ⟨p1, p2⟩ := hP.2 rfl
    have p1 : m ≤ 2 := p1
    refine ⟨tr (by simp), zao.add zac_ende za_zaf_ende ⟨by show 10 + m ≤ 16; omega, fun q => ?_⟩⟩
    have q : 10 + m = 2 ∨ 10 + m = 10 := q
    exact p2 (show m = 0 by omega)
  · subst e
    simp only [zst] at h
    obtain ⟨h1, h2⟩ := inj h
    subst h1
    subst h2
    exact ⟨tr (by simp), zao.add zac_ende za_zaf_ende ⟨by show 13 ≤ 16; decide, fun q => by have q : 13 = 2 ∨ 13 = 10 := q; exact absurd q (by decide)⟩⟩
  · subst e
    simp only [zst] at h
    obtain ⟨h1, h2⟩ := inj h
    subst h1
    subst h2
    exact ⟨tr (by simp), zao.add zac_ende za_zaf_ende ⟨by show 13 ≤ 16; decide, fun q => by have q : 13 = 2 ∨ 13 = 10 := q; exact absurd q (by decide)⟩⟩
  · subst e
    simp only [zst] at h
    obtain ⟨h1, h2⟩ := inj h
    subst h1
    subst h2
    exact ⟨tr (by simp), zao.add zac_go za_zaf_go ⟨by show 14 ≤ 16; decide, fun q => by have q : 14 = 2 ∨ 14 = 10 := q; exact absurd q (by decide)⟩⟩
  · subst e
    simp only [zst] at h
    split at h
    · obtain ⟨h1, h2⟩ := inj h
      subst h1
      subst h2
      exact ⟨tr (by simp), zao.add zac_go za_zaf_go ⟨by show 15 ≤ 16; decide, fun q => by have q : 15 = 2 ∨ 15 = 10 := q; exact absurd q (by decide)⟩⟩
    · obtain ⟨h1, h2⟩ := inj h
      subst h1
      subst h2
      exact ⟨tr (by simp), zao.eq zac_tgt za_zaf_tgt⟩
  · subst e
    simp only [zst] at h
    split at h
    · obtain ⟨h1, h2⟩ := inj h
      subst h1
      subst h2
      refine ⟨fun z hz => ?_, fun g => g⟩
      simp only [List.mem_cons, List.not_mem_nil, or_false] at hz
      rcases hz with hz | hz | hz
      · rw [hz]; exact ⟨fun q => (by simp at q), fun q => (by simp at q)⟩
      · rw [hz]
        exact ⟨fun _ => (show 2 ≤ 4 ∧ 4 < 9 by decide), fun q => (by simp at q)⟩
      · rw [hz]; exact ⟨fun q => (by simp at q), fun q => (by simp at q)⟩
    · obtain ⟨h1, h2⟩ := inj h
      subst h1
      subst h2
      exact ⟨tr (by simp), fun g => g⟩
  · obtain ⟨n16, n8, n12, n14, n17, n21, n22, n23, n24, n25, n26, n27, n10⟩ := e
    unfold zst at h
    split at h
    all_goals (try split at h)
    all_goals (try split at h)
    all_goals (try split at h)
    all_goals (try split at h)
    all_goals (try split at h)
    all_goals first
      | (cases h; done)
      | (exact absurd rfl n16)
      | (exact absurd rfl n8)
      | (exact absurd rfl n12)
      | (exact absurd rfl n14)
      | (exact absurd rfl n17)
      | (exact absurd rfl n21)
      | (exact absurd rfl n22)
      | (exact absurd rfl n23)
      | (exact absurd rfl n24)
      | (exact absurd rfl n25)
      | (exact absurd rfl n26)
      | (exact absurd rfl n27)
      | (exact absurd rfl n10)
      | (obtain ⟨h1, h2⟩ := inj h; subst h1; subst h2; exact ⟨tr (by simp), zao.eq rfl rfl⟩)
theorem zao.of {T : zTS} {i : Nat} {d : zDat} (h : zRe T (.inl ([(1, 0, 0, 0), (0, 0, 0, 0)], 0, zd0)) (.inl ([], i, d))) : zao T d := by
  obtain ⟨n, hn⟩ := h
  refine zit_clS (P := zaoP T) (R := fun d d' => zao T d → zao T d') (fun _ h => h) (fun _ _ _ h g q => g (h q)) (zao_st T) n _ _ _ _ _ _ (fun z hz => ?_) hn (fun q hq => by
    have e : zac zd0 = 0 := rfl
    omega)
  simp only [List.mem_cons, List.not_mem_nil, or_false] at hz
  rcases hz with hz | hz
  · rw [hz]; exact ⟨fun q => (by simp at q), fun q => (by simp at q)⟩
  · rw [hz]; exact ⟨fun q => (by simp at q), fun q => (by simp at q)⟩
theorem zTo3 {B : Nat → Int32} {n t : Nat} (h : (zTo B n).1 t = 3) : (zTo B n).2.2 t ≤ 8 := by
  have h : zka B n (zpo B n t) = 3 := h
  show zwI (zby B n) (zpo B n t) (zte B n (zpo B n t) - zpo B n t).toNat ≤ 8
  generalize zpo B n t = a at h
  unfold zka at h
  split at h
  · omega
  · split at h
    · split at h
      · omega
      · split at h
        · rename_i h1
          split at h
          · rename_i h2
            rw [h1]
            show 32 * 0 + (zby B n (a + ((0 : Nat) : Int)) - 96) ≤ 8
            rw [show a + ((0 : Nat) : Int) = a by omega]
            omega
          · omega
        · have := zwk_r (zwI (zby B n) a (zte B n a - a).toNat)
          omega
    · split at h
      · split at h <;> omega
      · split at h
        · rename_i hs
          unfold zsg at hs
          omega
        · omega
/-- only branches and jumps lead somewhere -/
def zta (d : zDat) : Prop := ∀ q, q < zac d → ztg d q ≠ 0 → (zaf d q).1 = 13 ∨ (zaf d q).1 = 15
def ztx (d : zDat) (s : zSy) : Prop := (s.1 = 10 → s.2.2.2 < zac d ∧ (zaf d s.2.2.2).1 = 13) ∧ (s.1 = 27 → s.2.2.1 < zac d ∧ (zaf d s.2.2.1).1 = 13) ∧ (s.1 = 28 → s.2.1 < zac d ∧ (zaf d s.2.1).1 = 15)
def ztm (d d' : zDat) : Prop := zac d ≤ zac d' ∧ ∀ q, q < zac d → zaf d' q = zaf d q
theorem ztx.mv {d d' : zDat} {s : zSy} (h : ztx d s) (g : ztm d d') : ztx d' s := by
  obtain ⟨h1, h2, h3⟩ := h
  obtain ⟨g1, g2⟩ := g
  refine ⟨fun e => ?_, fun e => ?_, fun e => ?_⟩
  · obtain ⟨a, b⟩ := h1 e
    exact ⟨by omega, by rw [g2 _ a]; exact b⟩
  · obtain ⟨a, b⟩ := h2 e
    exact ⟨by omega, by rw [g2 _ a]; exact b⟩
  · obtain ⟨a, b⟩ := h3 e
    exact ⟨by omega, by rw [g2 _ a]; exact b⟩
theorem ztm.add {d d' : zDat} {e : Nat × Nat × Nat} (h1 : zac d' = zac d + 1) (h2 : zaf d' = zup (zaf d) (zac d) e) : ztm d d' := ⟨by omega, fun q hq => by rw [h2, zup_ne _ _ (by omega)]⟩
theorem ztm.eq {d d' : zDat} (h1 : zac d' = zac d) (h2 : zaf d' = zaf d) : ztm d d' := ⟨by omega, fun q _ => by rw [h2]⟩
theorem zta.add {d d' : zDat} {e : Nat × Nat × Nat} (h : zta d) (h1 : zac d' = zac d + 1) (h2 : zaf d' = zup (zaf d) (zac d) e) (h3 : ztg d' = zup (ztg d) (zac d) 0) : zta d' := fun q hq ht => by
  rw [h1] at hq
  rw [h3] at ht
  rw [h2]
  by_cases c : q = zac d
  · rw [c, zup_self] at ht
    exact absurd rfl ht
  · rw [zup_ne _ _ c] at ht
    rw [zup_ne _ _ c]
    exact h q (by omega) ht
theorem zta.eq {d d' : zDat} (h : zta d) (h1 : zac d' = zac d) (h2 : zaf d' = zaf d) (h3 : ztg d' = ztg d) : zta d' := by
  unfold zta
  rw [h1, h2, h3]
  exact h
theorem zta.tgt {d d' : zDat} {m x : Nat} (h : zta d) (h1 : zac d' = zac d) (h2 : zaf d' = zaf d) (h3 : ztg d' = zup (ztg d) m x) (hm : (zaf d m).1 = 13 ∨ (zaf d m).1 = 15) : zta d' := fun q hq ht => by
  rw [h1] at hq
  rw [h3] at ht
  rw [h2]
  by_cases c : q = m
  · rw [c]
    exact hm
  · rw [zup_ne _ _ c] at ht
    exact h q hq ht
theorem zta.jmp {d d' : zDat} {m x : Nat} {e : Nat × Nat × Nat} (h : zta d) (h1 : zac d' = zac d + 1) (h2 : zaf d' = zup (zaf d) (zac d) e) (h3 : ztg d' = zup (zup (ztg d) (zac d) 0) m x) (hm : m < zac d ∧ (zaf d m).1 = 13) : zta d' := fun q hq ht => by
  rw [h1] at hq
  rw [h3] at ht
  rw [h2]
  by_cases c : q = m
  · rw [c, zup_ne _ _ (by omega)]
    exact Or.inl hm.2
  · rw [zup_ne _ _ c] at ht
    by_cases c2 : q = zac d
    · rw [c2, zup_self] at ht
      exact absurd rfl ht
    · rw [zup_ne _ _ c2] at ht
      rw [zup_ne _ _ c2]
      exact h q (by omega) ht
theorem zt_st {T : zTS} {y a b m i : Nat} {d : zDat} {κ κ1 : List zSy} {i' : Nat} {d' : zDat} (hJ : ∀ s ∈ (y, a, b, m) :: κ, ztx d s) (hK : zta d) (h : zst T y a b m [] i d = .inl (κ1, i', d')) : (∀ s ∈ κ1 ++ κ, ztx d' s) ∧ zta d' := by
  have inj : ∀ {a a' : List zSy} {b b' : Nat} {c c' : zDat}, (Sum.inl (a, b, c) : zCf) = .inl (a', b', c') → a = a' ∧ c = c' := fun h => by injection h with h; injection h with h1 h2; injection h2 with h2 h3; exact ⟨h1, h3⟩
  have hd := hJ _ List.mem_cons_self
  have mk : ∀ {κ1 : List zSy} {d1 : zDat}, ztm d d1 → (∀ s ∈ κ1, ztx d1 s) → zta d1 → (∀ s ∈ κ1 ++ κ, ztx d1 s) ∧ zta d1 := fun g g1 g2 => ⟨fun s hs => by
    rcases List.mem_append.mp hs with hs | hs
    · exact g1 s hs
    · exact (hJ s (List.mem_cons_of_mem _ hs)).mv g, g2⟩
  have tr : ∀ {κ1 : List zSy} {d1 : zDat}, (∀ z ∈ κ1, z.1 ≠ 10 ∧ z.1 ≠ 27 ∧ z.1 ≠ 28) → ∀ z ∈ κ1, ztx d1 z := fun h z hz => ⟨fun e => absurd e (h z hz).1, fun e => absurd e (h z hz).2.1, fun e => absurd e (h z hz).2.2⟩
  have hS : y = 8 ∨ y = 17 ∨ y = 21 ∨ y = 22 ∨ y = 23 ∨ y = 24 ∨ y = 25 ∨ y = 26 ∨ y = 27 ∨ y = 10 ∨ y = 28 ∨ (y ≠ 8 ∧ y ≠ 17 ∧ y ≠ 21 ∧ y ≠ 22 ∧ y ≠ 23 ∧ y ≠ 24 ∧ y ≠ 25 ∧ y ≠ 26 ∧ y ≠ 27 ∧ y ≠ 10 ∧ y ≠ 28) := by omega
  rcases hS with e | e | e | e | e | e | e | e | e | e | e | e
  · subst e
    simp only [zst] at h
    split at h
    · cases h
    · split at h
      · repeat' split at h
        all_goals
          obtain ⟨h1, h2⟩ := inj h
          subst h1
          subst h2
          exact mk (ztm.add zac_addl za_zaf_addl) (tr (by simp)) (hK.add zac_addl za_zaf_addl za_ztg_addl)
      · cases h
  · subst e
    simp only [zst] at h
    split at h
    · obtain ⟨h1, h2⟩ := inj h
      subst h1
      subst h2
      exact mk (ztm.add zac_emi za_zaf_emi) (tr (by simp)) (hK.add zac_emi za_zaf_emi za_ztg_emi)
    · split at h
      · obtain ⟨h1, h2⟩ := inj h
        subst h1
        subst h2
        exact mk (ztm.add zac_emi za_zaf_emi) (tr (by simp)) (hK.add zac_emi za_zaf_emi za_ztg_emi)
      · split at h
        · obtain ⟨h1, h2⟩ := inj h
          subst h1
          subst h2
          exact mk (ztm.eq rfl rfl) (tr (by simp)) hK
        · split at h
          · obtain ⟨h1, h2⟩ := inj h
            subst h1
            subst h2
            exact mk (ztm.eq rfl rfl) (tr (by simp)) hK
          · cases h
  · subst e
    simp only [zst] at h
    obtain ⟨h1, h2⟩ := inj h
    subst h1
    subst h2
    have g1 : ztm d (zaddc d [(a, b, zfc d)]) := ztm.eq zac_addc za_zaf_addc
    have g2 : zta (zaddc d [(a, b, zfc d)]) := hK.eq zac_addc za_zaf_addc za_ztg_addc
    have g3 : ztm (zaddc d [(a, b, zfc d)]) (zemi (zaddc d [(a, b, zfc d)]) 5 a b) := ztm.add zac_emi za_zaf_emi
    exact mk ⟨Nat.le_trans g1.1 g3.1, fun q hq => (g3.2 q (by have := g1.1; omega)).trans (g1.2 q hq)⟩ (tr (by simp)) (g2.add zac_emi za_zaf_emi za_ztg_emi)
  · subst e
    simp only [zst] at h
    obtain ⟨h1, h2⟩ := inj h
    subst h1
    subst h2
    exact mk (ztm.add zac_addf za_zaf_addf) (tr (by simp)) (hK.add zac_addf za_zaf_addf za_ztg_addf)
  · subst e
    simp only [zst] at h
    obtain ⟨h1, h2⟩ := inj h
    subst h1
    subst h2
    exact mk (ztm.add zac_emi za_zaf_emi) (tr (by simp)) (hK.add zac_emi za_zaf_emi za_ztg_emi)
  · subst e
    simp only [zst] at h
    obtain ⟨h1, h2⟩ := inj h
    subst h1
    subst h2
    exact mk (ztm.add zac_ende za_zaf_ende) (tr (by simp)) (hK.add zac_ende za_zaf_ende za_ztg_ende)
  · subst e
    simp only [zst] at h
    obtain ⟨h1, h2⟩ := inj h
    subst h1
    subst h2
    refine mk (ztm.add zac_ende za_zaf_ende) (fun z hz => ?_) (hK.add zac_ende za_zaf_ende za_ztg_ende)
    simp only [List.mem_cons, List.not_mem_nil, or_false] at hz
    rcases hz with hz | hz | hz
    · rw [hz]; exact ⟨fun q => (by simp at q), fun q => (by simp at q), fun q => (by simp at q)⟩
    · rw [hz]; exact ⟨fun q => (by simp at q), fun q => (by simp at q), fun q => (by simp at q)⟩
    · rw [hz]
      refine ⟨fun _ => ⟨?_, ?_⟩, fun q => (by simp at q), fun q => (by simp at q)⟩
      · rw [zac_ende]; exact Nat.lt_succ_self _
      · rw [za_zaf_ende]; show (zup (zaf d) (zac d) (13, 0, b) (zac d)).1 = 13; rw [zup_self]
  · subst e
    simp only [zst] at h
    obtain ⟨h1, h2⟩ := inj h
    subst h1
    subst h2
    refine mk (ztm.add zac_ende za_zaf_ende) (fun z hz => ?_) (hK.add zac_ende za_zaf_ende za_ztg_ende)
    simp only [List.mem_cons, List.not_mem_nil, or_false] at hz
    rcases hz with hz | hz | hz
    · rw [hz]; exact ⟨fun q => (by simp at q), fun q => (by simp at q), fun q => (by simp at q)⟩
    · rw [hz]; exact ⟨fun q => (by simp at q), fun q => (by simp at q), fun q => (by simp at q)⟩
    · rw [hz]
      refine ⟨fun q => (by simp at q), fun _ => ⟨?_, ?_⟩, fun q => (by simp at q)⟩
      · rw [zac_ende]; exact Nat.lt_succ_self _
      · rw [za_zaf_ende]; show (zup (zaf d) (zac d) (13, 0, b) (zac d)).1 = 13; rw [zup_self]
  · subst e
    simp only [zst] at h
    obtain ⟨h1, h2⟩ := inj h
    subst h1
    subst h2
    exact mk (ztm.add zac_go za_zaf_go) (tr (by simp)) (hK.jmp zac_go za_zaf_go za_ztg_go (hd.2.1 rfl))
  · subst e
    simp only [zst] at h
    split at h
    · obtain ⟨h1, h2⟩ := inj h
      subst h1
      subst h2
      refine mk (ztm.add zac_go za_zaf_go) (fun z hz => ?_) (hK.jmp zac_go za_zaf_go za_ztg_go (hd.1 rfl))
      simp only [List.mem_cons, List.not_mem_nil, or_false] at hz
      rcases hz with hz | hz
      · rw [hz]; exact ⟨fun q => (by simp at q), fun q => (by simp at q), fun q => (by simp at q)⟩
      · rw [hz]
        refine ⟨fun q => (by simp at q), fun q => (by simp at q), fun _ => ⟨?_, ?_⟩⟩
        · rw [zac_go]; exact Nat.lt_succ_self _
        · rw [za_zaf_go]; show (zup (zaf d) (zac d) (15, 0, b) (zac d)).1 = 15; rw [zup_self]
    · obtain ⟨h1, h2⟩ := inj h
      subst h1
      subst h2
      exact mk (ztm.eq zac_tgt za_zaf_tgt) (tr (by simp)) (hK.tgt zac_tgt za_zaf_tgt za_ztg_tgt (Or.inl (hd.1 rfl).2))
  · subst e
    simp only [zst] at h
    obtain ⟨h1, h2⟩ := inj h
    subst h1
    subst h2
    exact mk (ztm.eq zac_othr za_zaf_othr) (tr (by simp)) (hK.tgt zac_othr za_zaf_othr za_ztg_othr (Or.inr (hd.2.2 rfl).2))
  · obtain ⟨n8, n17, n21, n22, n23, n24, n25, n26, n27, n10, n28⟩ := e
    unfold zst at h
    split at h
    all_goals (try split at h)
    all_goals (try split at h)
    all_goals (try split at h)
    all_goals (try split at h)
    all_goals (try split at h)
    all_goals first
      | (cases h; done)
      | (exact absurd rfl n8)
      | (exact absurd rfl n17)
      | (exact absurd rfl n21)
      | (exact absurd rfl n22)
      | (exact absurd rfl n23)
      | (exact absurd rfl n24)
      | (exact absurd rfl n25)
      | (exact absurd rfl n26)
      | (exact absurd rfl n27)
      | (exact absurd rfl n10)
      | (exact absurd rfl n28)
      | (obtain ⟨h1, h2⟩ := inj h; subst h1; subst h2; exact mk (ztm.eq rfl rfl) (tr (by simp)) (hK.eq rfl rfl rfl))
theorem zt_it {T : zTS} : ∀ (n : Nat) (κ κ' : List zSy) (i i' : Nat) (d d' : zDat), (∀ s ∈ κ, ztx d s) → zta d → zit T n (.inl (κ, i, d)) = .inl (κ', i', d') → zta d'
  | 0, κ, κ', i, i', d, d', _, hK, h => by
    have h : (Sum.inl (κ, i, d) : zCf) = .inl (κ', i', d') := h
    injection h with h
    injection h with h1 h2
    injection h2 with h2 h3
    subst h3
    exact hK
  | n + 1, [], κ', i, i', d, d', hJ, hK, h => zt_it n [] κ' i i' d d' hJ hK h
  | n + 1, (y, a, b, m) :: κ, κ', i, i', d, d', hJ, hK, h => by
    have h : zit T n (zst T y a b m κ i d) = .inl (κ', i', d') := h
    rw [zst_app] at h
    match hq : zst T y a b m [] i d, h with
    | .inr k, h =>
      exfalso
      have e : ∀ n, zit T n (.inr k) = .inr k := fun n => zit_fix rfl n
      have h : zit T n (.inr k) = .inl (κ', i', d') := h
      rw [e] at h
      cases h
    | .inl (κ1, i1, d1), h =>
      obtain ⟨h1, h2⟩ := zt_st hJ hK hq
      have h : zit T n (.inl (κ1 ++ κ, i1, d1)) = .inl (κ', i', d') := h
      exact zt_it n _ κ' i1 i' d1 d' h1 h2 h
theorem zta.of {T : zTS} {i : Nat} {d : zDat} (h : zRe T (.inl ([(1, 0, 0, 0), (0, 0, 0, 0)], 0, zd0)) (.inl ([], i, d))) : zta d := by
  obtain ⟨n, hn⟩ := h
  refine zt_it n _ _ _ _ _ _ (fun z hz => ?_) (fun q hq => by
    have e : zac zd0 = 0 := rfl
    omega) hn
  simp only [List.mem_cons, List.not_mem_nil, or_false] at hz
  rcases hz with hz | hz
  · rw [hz]; exact ⟨fun q => (by simp at q), fun q => (by simp at q), fun q => (by simp at q)⟩
  · rw [hz]; exact ⟨fun q => (by simp at q), fun q => (by simp at q), fun q => (by simp at q)⟩
/-- the acts' numbers -/
def zAn (A : Nat → Nat × Int × Nat) (n : Nat) : Prop := (∀ q, q < n → (A q).1 ≤ 16 ∧ (13 ≤ (A q).1 → (A q).1 ≤ 15 → 0 ≤ (A q).2.1)) ∧ (∀ q, q < n → (A q).1 = 2 ∨ (A q).1 = 10 → (A q).2.1 < 8) ∧ ∀ q, q < n → (A q).1 = 0 → (A q).2.2 < 60
theorem zAn.of {B : Nat → Int32} {n i : Nat} {V : Nat → Int} {d : zDat} (h : zRe (zTo B n) (.inl ([(1, 0, 0, 0), (0, 0, 0, 0)], 0, zd0)) (.inl ([], i, d))) : zAn (zAa (zTo B n) V d) (zac d) := by
  have h1 := zao.of h
  have h2 := zta.of h
  refine ⟨fun q hq => ⟨(h1 q hq).1, fun g1 g2 => ?_⟩, fun q hq g => ?_, fun q hq g => zal9.of h q hq g⟩
  · show 0 ≤ zKn (zTo B n) V d q
    have g1 : 13 ≤ (zaf d q).1 := g1
    have g2 : (zaf d q).1 ≤ 15 := g2
    unfold zKn znu zcn
    rw [if_neg (by omega)]
    split
    · rw [if_neg (by omega), if_neg (by omega)]
      split
      · omega
      · omega
    · omega
  · have g : (zaf d q).1 = 2 ∨ (zaf d q).1 = 10 := g
    show zKn (zTo B n) V d q < 8
    have h3 := zTo3 ((h1 q hq).2 g)
    have h4 : ztg d q = 0 := Classical.byContradiction (fun h5 => by
      have := h2 q hq h5
      omega)
    unfold zKn znu zcn
    rw [if_neg (by omega), if_pos h4, if_neg (by omega), if_pos g]
    omega
