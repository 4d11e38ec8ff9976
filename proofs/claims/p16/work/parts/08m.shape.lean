/-! The shape of what was put out: of each line its acts, of each block where it leads. -/
/-- a run that ends takes off its symbols one after another -/
theorem zit_cut {T : zTS} : ∀ (n : Nat) (κ κ2 : List zSy) (i i' : Nat) (d d' : zDat), zit T n (.inl (κ ++ κ2, i, d)) = .inl ([], i', d') → ∃ n1 n2 i1 d1, n1 + n2 ≤ n ∧ zit T n1 (.inl (κ, i, d)) = .inl ([], i1, d1) ∧ zit T n2 (.inl (κ2, i1, d1)) = .inl ([], i', d')
  | n, [], κ2, i, i', d, d', h => ⟨0, n, i, d, by omega, rfl, h⟩
  | 0, y :: κ, κ2, i, i', d, d', h => by
    have h : (Sum.inl ((y :: κ) ++ κ2, i, d) : zCf) = .inl ([], i', d') := h
    injection h with h
    injection h with h _
    cases h
  | n + 1, (y, a, b, m) :: κ, κ2, i, i', d, d', h => by
    have h : zit T n (zst T y a b m (κ ++ κ2) i d) = .inl ([], i', d') := h
    rw [zst_app] at h
    match hq : zst T y a b m [] i d, h with
    | .inr k, h =>
      exfalso
      have e : zit T n (.inr k) = .inr k := zit_fix rfl n
      have h : zit T n (.inr k) = .inl ([], i', d') := h
      rw [e] at h
      cases h
    | .inl (κ1, i1, d1), h =>
      have h : zit T n (.inl (κ1 ++ (κ ++ κ2), i1, d1)) = .inl ([], i', d') := h
      rw [← List.append_assoc] at h
      obtain ⟨n1, n2, i2, d2, g1, g2, g3⟩ := zit_cut n (κ1 ++ κ) κ2 i1 i' d1 d' h
      refine ⟨n1 + 1, n2, i2, d2, by omega, ?_, g3⟩
      show zit T n1 (zst T y a b m κ i d) = .inl ([], i2, d2)
      rw [zst_app, hq]
      exact g2
/-- the first step of a run -/
theorem zit_one {T : zTS} {n y a b m i i' : Nat} {d d' : zDat} (h : zit T n (.inl ([(y, a, b, m)], i, d)) = .inl ([], i', d')) : ∃ n1, n1 + 1 = n ∧ ∃ κ1 i1 d1, zst T y a b m [] i d = .inl (κ1, i1, d1) ∧ zit T n1 (.inl (κ1, i1, d1)) = .inl ([], i', d') := by
  match n, h with
  | 0, h =>
    have h : (Sum.inl ([(y, a, b, m)], i, d) : zCf) = .inl ([], i', d') := h
    injection h with h
    injection h with h _
    cases h
  | n + 1, h =>
    have h : zit T n (zst T y a b m [] i d) = .inl ([], i', d') := h
    refine ⟨n, rfl, ?_⟩
    match hq : zst T y a b m [] i d, h with
    | .inr k, h =>
      exfalso
      have e : zit T n (.inr k) = .inr k := zit_fix rfl n
      rw [e] at h
      cases h
    | .inl (κ1, i1, d1), h => exact ⟨κ1, i1, d1, rfl, h⟩
/-- an item as an act -/
def zie (e : Nat × Nat × Nat) : Nat × Nat × Nat := (zia e.1, e.2.1, 0)
/-- a sum, a test: acts and items grow alike, nothing else changes -/
def zsaR (d d' : zDat) : Prop := zlc d' = zlc d ∧ zln d' = zln d ∧ zrw d' = zrw d ∧ zfa d' = zfa d ∧ zic d ≤ zic d' ∧ zac d' = zac d + (zic d' - zic d) ∧ (∀ p, p < zac d → zaf d' p = zaf d p ∧ ztg d' p = ztg d p) ∧ (∀ k, k < zic d → zitf d' k = zitf d k) ∧ ∀ k, k < zic d' - zic d → zaf d' (zac d + k) = zie (zitf d' (zic d + k)) ∧ ztg d' (zac d + k) = 0
theorem zsaR.rf {d : zDat} : zsaR d d := ⟨rfl, rfl, rfl, rfl, Nat.le_refl _, by omega, fun _ _ => ⟨rfl, rfl⟩, fun _ _ => rfl, fun k hk => by omega⟩
theorem zsaR.trans {a b c : zDat} (h : zsaR a b) (g : zsaR b c) : zsaR a c := by
  obtain ⟨h1, h2, h3, h4, h5, h6, h7, h8, h9⟩ := h
  obtain ⟨g1, g2, g3, g4, g5, g6, g7, g8, g9⟩ := g
  refine ⟨g1.trans h1, g2.trans h2, g3.trans h3, g4.trans h4, by omega, by omega, fun p hp => ?_, fun k hk => ?_, fun k hk => ?_⟩
  · obtain ⟨a1, a2⟩ := h7 p hp
    obtain ⟨b1, b2⟩ := g7 p (by omega)
    exact ⟨b1.trans a1, b2.trans a2⟩
  · rw [g8 k (by omega), h8 k hk]
  · by_cases c : k < zic b - zic a
    · obtain ⟨a1, a2⟩ := h9 k c
      obtain ⟨b1, b2⟩ := g7 (zac a + k) (by omega)
      rw [b1, b2, a1, a2, g8 (zic a + k) (by omega)]
      exact ⟨rfl, rfl⟩
    · obtain ⟨a1, a2⟩ := g9 (k - (zic b - zic a)) (by omega)
      rw [show zac b + (k - (zic b - zic a)) = zac a + k by omega, show zic b + (k - (zic b - zic a)) = zic a + k by omega] at a1
      rw [show zac b + (k - (zic b - zic a)) = zac a + k by omega] at a2
      exact ⟨a1, a2⟩
theorem zsaR.em {d d' : zDat} {s i m : Nat} (hl : zlc d' = zlc d) (hn : zln d' = zln d) (hr : zrw d' = zrw d) (hf : zfa d' = zfa d) (h1 : zac d' = zac d + 1) (h2 : zaf d' = zup (zaf d) (zac d) (zia s, i, 0)) (h3 : ztg d' = zup (ztg d) (zac d) 0) (h4 : zic d' = zic d + 1) (h5 : zitf d' = zup (zitf d) (zic d) (s, i, m)) : zsaR d d' := by
  refine ⟨hl, hn, hr, hf, by omega, by omega, fun p hp => ?_, fun k hk => ?_, fun k hk => ?_⟩
  · rw [h2, h3, zup_ne _ _ (by omega), zup_ne _ _ (by omega)]
    exact ⟨rfl, rfl⟩
  · rw [h5, zup_ne _ _ (by omega)]
  · have e : k = 0 := by omega
    subst e
    rw [h2, h3, h5, Nat.add_zero, Nat.add_zero, zup_self, zup_self, zup_self]
    exact ⟨rfl, rfl⟩
theorem zsaR.eq {d d' : zDat} (hl : zlc d' = zlc d) (hn : zln d' = zln d) (hr : zrw d' = zrw d) (hf : zfa d' = zfa d) (h1 : zac d' = zac d) (h2 : zaf d' = zaf d) (h3 : ztg d' = ztg d) (h4 : zic d' = zic d) (h5 : zitf d' = zitf d) : zsaR d d' := by
  refine ⟨hl, hn, hr, hf, by omega, by omega, fun p _ => ?_, fun k _ => ?_, fun k hk => by omega⟩
  · rw [h2, h3]
    exact ⟨rfl, rfl⟩
  · rw [h5]
def zsaP (y : Nat) : Prop := y = 6 ∨ (11 ≤ y ∧ y ≤ 21) ∨ y = 23
theorem zsa_em {d : zDat} {s i m : Nat} : zsaR d (zemi d s i m) := zsaR.em rfl rfl rfl rfl rfl rfl rfl rfl rfl
theorem zsa_addc {d : zDat} {l : List (Nat × Nat × Nat)} : zsaR d (zaddc d l) := zsaR.eq rfl rfl rfl rfl rfl rfl rfl rfl rfl
theorem zsa_st {T : zTS} (y a b m i : Nat) (d : zDat) (κ' : List zSy) (i' : Nat) (d' : zDat) (hP : zsaP y) (h : zst T y a b m [] i d = .inl (κ', i', d')) : (∀ z ∈ κ', zsaP z.1) ∧ zsaR d d' := by
  unfold zsaP at hP
  unfold zst at h
  split at h
  all_goals (try split at h)
  all_goals (try split at h)
  all_goals (try split at h)
  all_goals (try split at h)
  all_goals (try split at h)
  all_goals (first | (exfalso; omega) | (cases h; done) | (injection h with h; injection h with h1 h2; injection h2 with h2 h3; subst h1; subst h2; subst h3; exact ⟨by simp [zsaP], zsaR.rf⟩) | (injection h with h; injection h with h1 h2; injection h2 with h2 h3; subst h1; subst h2; subst h3; exact ⟨by simp [zsaP], zsa_em⟩) | (injection h with h; injection h with h1 h2; injection h2 with h2 h3; subst h1; subst h2; subst h3; exact ⟨by simp [zsaP], zsa_addc.trans zsa_em⟩))
theorem zsa_run {T : zTS} {n : Nat} {κ : List zSy} {i i' : Nat} {d d' : zDat} (h : zit T n (.inl (κ, i, d)) = .inl ([], i', d')) (hP : ∀ z ∈ κ, zsaP z.1) : zsaR d d' := zit_cl (P := zsaP) (R := zsaR) (fun _ => zsaR.rf) (fun _ _ _ h g => h.trans g) zsa_st n _ _ _ _ _ _ hP h
def zpa (d : zDat) (l : Nat) : Nat := (zrw d l).1
def zfr (d : zDat) (l : Nat) : Nat := (zrw d l).2.1
def ztn (d : zDat) (l : Nat) : Nat := (zrw d l).2.2.1
def znl (d : zDat) (l : Nat) : Nat := (zrw d l).2.2.2.1
def zro (d : zDat) (l : Nat) : Nat := (zrw d l).2.2.2.2.1
def zbo (d : zDat) (l : Nat) : Nat := (zrw d l).2.2.2.2.2.1
def zot (d : zDat) (l : Nat) : Nat := (zrw d l).2.2.2.2.2.2
def zkl (d : zDat) (l : Nat) : Int := (zln d l).1
def ztkn (d : zDat) (l : Nat) : Nat := (zln d l).2.2.1
/-- a line's last act; what comes behind the line -/
def zle (d : zDat) (l : Nat) : Nat := zpa d l + 1 + (ztn d l - zfr d l)
def zqe (d : zDat) (l : Nat) : Nat := if zkl d l = 3 then (if zot d l = 0 then ztg d (zle d l) - 1 else ztg d (ztg d (zle d l) - 2) - 1) else if zkl d l = 4 then ztg d (zle d l) - 1 else zle d l + 1
/-- a line's own acts -/
def zOw (A : Nat) (d : zDat) (l : Nat) : Prop := (A ≤ zpa d l ∧ zle d l < zac d ∧ zfr d l ≤ ztn d l ∧ ztn d l ≤ zic d) ∧ (zaf d (zpa d l) = (0, 0, l) ∧ (zkl d l ≠ 3 → zot d l = 0)) ∧ (∀ k, k < ztn d l - zfr d l → zaf d (zpa d l + 1 + k) = zie (zitf d (zfr d l + k)) ∧ ztg d (zpa d l + 1 + k) = 0) ∧ ((zkl d l = 0 ∧ zaf d (zle d l) = (10, ztkn d l, l) ∧ ztg d (zle d l) = 0) ∨ (zkl d l = 1 ∧ zaf d (zle d l) = (11, 0, l)) ∨ (zkl d l = 2 ∧ zaf d (zle d l) = (12, 0, l)) ∨ ((zkl d l = 3 ∨ zkl d l = 4) ∧ zaf d (zle d l) = (13, 0, l) ∧ (zfr d l < ztn d l ∧ 6 ≤ (zitf d (ztn d l - 1)).1 ∧ (zitf d (ztn d l - 1)).1 ≤ 8) ∧ ∃ m, zbo d l = m + 1 ∧ l < m ∧ m < zlc d ∧ zpa d m = zle d l + 1 ∧ ((zkl d l = 3 ∧ zot d l = 0 ∧ zle d l + 1 < ztg d (zle d l) ∧ ztg d (zle d l) ≤ zac d + 1) ∨ (zkl d l = 3 ∧ ∃ o, zot d l = o + 1 ∧ l < o ∧ o < zlc d ∧ zpa d o < zac d ∧ zle d l + 1 < zpa d o ∧ ztg d (zle d l) = zpa d o + 1 ∧ zaf d (zpa d o - 1) = (15, 0, l) ∧ 0 < ztg d (zpa d o - 1) ∧ ztg d (zpa d o - 1) ≤ zac d + 1) ∨ (zkl d l = 4 ∧ zle d l + 2 < ztg d (zle d l) ∧ ztg d (zle d l) ≤ zac d + 1 ∧ zaf d (ztg d (zle d l) - 2) = (14, zpa d l + 1, l)))))
/-- what stands -/
def zAg (L0 L1 A0 A1 I1 : Nat) (d d' : zDat) : Prop := (∀ l, L0 ≤ l → l < L1 → zpa d' l = zpa d l ∧ zfr d' l = zfr d l ∧ ztn d' l = ztn d l ∧ zro d' l = zro d l ∧ zbo d' l = zbo d l ∧ zot d' l = zot d l ∧ zln d' l = zln d l) ∧ (∀ p, A0 ≤ p → p < A1 → zaf d' p = zaf d p ∧ ztg d' p = ztg d p) ∧ ∀ k, k < I1 → zitf d' k = zitf d k
theorem zAg.le {L0 L1 A0 A1 I1 l : Nat} {d d' : zDat} (h : zAg L0 L1 A0 A1 I1 d d') (h0 : L0 ≤ l) (h1 : l < L1) : zle d' l = zle d l ∧ zkl d' l = zkl d l ∧ ztkn d' l = ztkn d l := by
  obtain ⟨a1, a2, a3, a4, a5, a6, a7⟩ := h.1 l h0 h1
  unfold zle zkl ztkn
  rw [a1, a2, a3, a7]
  exact ⟨rfl, rfl, rfl⟩
theorem zOw.qe {A L0 l : Nat} {d d' : zDat} (h : zOw A d l) (hg : zAg L0 (zlc d) A (zac d) (zic d) d d') (h0 : L0 ≤ l) (h1 : l < zlc d) : zqe d' l = zqe d l := by
  obtain ⟨⟨b1, b2, b3, b4⟩, b5, b6, b7⟩ := h
  obtain ⟨e1, e2, e3⟩ := hg.le h0 h1
  obtain ⟨a1, a2, a3, a4, a5, a6, a7⟩ := hg.1 l h0 h1
  have hE : A ≤ zle d l := by unfold zle; omega
  obtain ⟨t1, t2⟩ := hg.2.1 (zle d l) hE b2
  unfold zqe
  rw [e1, e2, a6, t2]
  rcases b7 with ⟨b7, -⟩ | ⟨b7, -⟩ | ⟨b7, -⟩ | ⟨-, -, -, m, -, -, -, -, c⟩
  · rw [if_neg (by omega), if_neg (by omega), if_neg (by omega)]
  · rw [if_neg (by omega), if_neg (by omega), if_neg (by omega)]
  · rw [if_neg (by omega), if_neg (by omega), if_neg (by omega)]
  · rcases c with ⟨c1, c2, -⟩ | ⟨c1, o, c2, c3, c4, c5, c6, c7, c8, c9⟩ | ⟨c1, -⟩
    · rw [if_pos c1, if_pos c2, if_pos c1, if_pos c2]
    · obtain ⟨-, t4⟩ := hg.2.1 (zpa d o - 1) (by omega) (by omega)
      rw [if_pos c1, if_neg (by omega), if_pos c1, if_neg (by omega), c7, show zpa d o + 1 - 2 = zpa d o - 1 by omega, t4]
    · rw [if_neg (by omega), if_pos c1, if_neg (by omega)]
theorem zOw.ag {A L0 l : Nat} {d d' : zDat} (h : zOw A d l) (hg : zAg L0 (zlc d) A (zac d) (zic d) d d') (hL : zlc d ≤ zlc d') (hA : zac d ≤ zac d') (hI : zic d ≤ zic d') (h0 : L0 ≤ l) (h1 : l < zlc d) : zOw A d' l := by
  obtain ⟨⟨b1, b2, b3, b4⟩, b5, b6, b7⟩ := h
  obtain ⟨e1, e2, e3⟩ := hg.le h0 h1
  obtain ⟨a1, a2, a3, a4, a5, a6, a7⟩ := hg.1 l h0 h1
  have hE : A ≤ zle d l := by unfold zle; omega
  have hE2 : zle d l = zpa d l + 1 + (ztn d l - zfr d l) := rfl
  obtain ⟨t1, t2⟩ := hg.2.1 (zle d l) hE b2
  unfold zOw
  rw [a1, a2, a3, a5, a6, e1, e2, e3, t1, t2]
  refine ⟨⟨b1, by omega, b3, by omega⟩, ?_, fun k hk => ?_, ?_⟩
  · rw [(hg.2.1 (zpa d l) b1 (by omega)).1]
    exact b5
  · rw [(hg.2.1 (zpa d l + 1 + k) (by omega) (by omega)).1, (hg.2.1 (zpa d l + 1 + k) (by omega) (by omega)).2, hg.2.2 (zfr d l + k) (by omega)]
    exact b6 k hk
  · rcases b7 with b7 | b7 | b7 | ⟨c0, c1, ⟨x1, x2, x3⟩, m, c2, c3, c4, c5, c⟩
    · exact Or.inl b7
    · exact Or.inr (Or.inl b7)
    · exact Or.inr (Or.inr (Or.inl b7))
    · refine Or.inr (Or.inr (Or.inr ⟨c0, c1, by rw [hg.2.2 (ztn d l - 1) (by omega)]; exact ⟨x1, x2, x3⟩, m, c2, c3, by omega, by rw [(hg.1 m (by omega) c4).1]; exact c5, ?_⟩))
      rcases c with ⟨g1, g2, g3, g4⟩ | ⟨g1, o, g2, g3, g4, g5, g6, g7, g8, g9, g10⟩ | ⟨g1, g2, g3, g4⟩
      · exact Or.inl ⟨g1, g2, g3, by omega⟩
      · obtain ⟨t3, t4⟩ := hg.2.1 (zpa d o - 1) (by omega) (by omega)
        have q := (hg.1 o (by omega) g4).1
        refine Or.inr (Or.inl ⟨g1, o, g2, g3, by omega, ?_, ?_, ?_, ?_, ?_, ?_⟩)
        · rw [q]; omega
        · rw [q]; exact g6
        · rw [q]; exact g7
        · rw [q, t3]; exact g8
        · rw [q, t4]; exact g9
        · rw [q, t4]; omega
      · refine Or.inr (Or.inr ⟨g1, g2, by omega, ?_⟩)
        rw [(hg.2.1 (ztg d (zle d l) - 2) (by omega) (by omega)).1]
        exact g4
theorem zOw.w {A A' l : Nat} {d : zDat} (h : zOw A d l) (hA : A' ≤ A) : zOw A' d l := ⟨⟨by have := h.1.1; omega, h.1.2⟩, h.2⟩
/-- what comes behind a line that is not its block's last, or whose line around stands -/
def zNx (L A : Nat) (d : zDat) (l : Nat) : Prop := (∃ m, znl d l = m + 1 ∧ L ≤ m ∧ m < zlc d ∧ zqe d l = zpa d m) ∨ (znl d l = 0 ∧ ∃ a, zro d l = a + 1 ∧ L ≤ a ∧ a < l ∧ ((zkl d a = 4 ∧ A ≤ zqe d l ∧ zqe d l < zac d ∧ zaf d (zqe d l) = (14, zpa d a + 1, a) ∧ zqe d a = zqe d l + 1 ∧ ztg d (zqe d l) = 0) ∨ (zkl d a = 3 ∧ (zqe d l = zqe d a ∨ (A ≤ zqe d l ∧ zqe d l < zac d ∧ (zaf d (zqe d l)).1 = 15 ∧ ztg d (zqe d l) = zqe d a + 1)))))
theorem zNx.ag {L A l : Nat} {d d' : zDat} (h : zNx L A d l) (hg : zAg L (zlc d) A (zac d) (zic d) d d') (hO : ∀ x, L ≤ x → x < zlc d → zOw A d x) (hn : znl d' l = znl d l) (hL : zlc d ≤ zlc d') (hA : zac d ≤ zac d') (h0 : L ≤ l) (h1 : l < zlc d) : zNx L A d' l := by
  have hq : ∀ x, L ≤ x → x < zlc d → zqe d' x = zqe d x := fun x g0 g1 => (hO x g0 g1).qe hg g0 g1
  unfold zNx
  rw [hn, hq l h0 h1, (hg.1 l h0 h1).2.2.2.1]
  rcases h with ⟨m, g1, g2, g3, g4⟩ | ⟨g0, a, g1, g2, g3, c⟩
  · exact Or.inl ⟨m, g1, g2, by omega, by rw [(hg.1 m g2 g3).1]; exact g4⟩
  · refine Or.inr ⟨g0, a, g1, g2, g3, ?_⟩
    rw [(hg.le g2 (by omega)).2.1, hq a g2 (by omega)]
    rcases c with ⟨c1, c2, c3, c4, c5⟩ | ⟨c1, c2 | ⟨c2, c3, c4, c5⟩⟩
    · refine Or.inl ⟨c1, c2, by omega, ?_, c5.1, by rw [(hg.2.1 _ c2 c3).2]; exact c5.2⟩
      rw [(hg.2.1 _ c2 c3).1, (hg.1 a g2 (by omega)).1]
      exact c4
    · exact Or.inr ⟨c1, Or.inl c2⟩
    · refine Or.inr ⟨c1, Or.inr ⟨c2, by omega, ?_, ?_⟩⟩
      · rw [(hg.2.1 _ c2 c3).1]; exact c4
      · rw [(hg.2.1 _ c2 c3).2]; exact c5
theorem zNx.w {L L' A A' l : Nat} {d : zDat} (h : zNx L A d l) (hL : L' ≤ L) (hA : A' ≤ A) : zNx L' A' d l := by
  rcases h with ⟨m, g1, g2, g3, g4⟩ | ⟨g0, a, g1, g2, g3, c⟩
  · exact Or.inl ⟨m, g1, by omega, g3, g4⟩
  · refine Or.inr ⟨g0, a, g1, by omega, g3, ?_⟩
    rcases c with ⟨c1, c2, c3, c4, c5⟩ | ⟨c1, c2 | ⟨c2, c3, c4, c5⟩⟩
    · exact Or.inl ⟨c1, by omega, c3, c4, c5⟩
    · exact Or.inr ⟨c1, Or.inl c2⟩
    · exact Or.inr ⟨c1, Or.inr ⟨by omega, c3, c4, c5⟩⟩
/-- a block's lines so far: the last one goes on -/
def zBk (L A b e : Nat) (d : zDat) : Prop := (L ≤ e ∧ e < zlc d) ∧ zro d e = b ∧ znl d e = 0 ∧ zqe d e = zac d ∧ (∀ x, L ≤ x → x < zlc d → zOw A d x) ∧ ∀ x, L ≤ x → x < zlc d → x ≠ e → zNx L A d x
/-- what stood before stands -/
def zOd (L A : Nat) (d d' : zDat) : Prop := (zlc d ≤ zlc d' ∧ zac d ≤ zac d' ∧ zic d ≤ zic d') ∧ (∀ x, x < L → zrw d' x = zrw d x ∧ zln d' x = zln d x) ∧ (∀ p, p < A → zaf d' p = zaf d p ∧ ztg d' p = ztg d p) ∧ ∀ k, k < zic d → zitf d' k = zitf d k
theorem zOd.rf {L A : Nat} {d : zDat} : zOd L A d d := ⟨⟨Nat.le_refl _, Nat.le_refl _, Nat.le_refl _⟩, fun _ _ => ⟨rfl, rfl⟩, fun _ _ => ⟨rfl, rfl⟩, fun _ _ => rfl⟩
theorem zOd.trans {L A L' A' : Nat} {a b c : zDat} (h : zOd L A a b) (g : zOd L' A' b c) (hL : L ≤ L') (hA : A ≤ A') : zOd L A a c := by
  obtain ⟨⟨h1, h2, h3⟩, h4, h5, h6⟩ := h
  obtain ⟨⟨g1, g2, g3⟩, g4, g5, g6⟩ := g
  refine ⟨⟨by omega, by omega, by omega⟩, fun x hx => ?_, fun p hp => ?_, fun k hk => ?_⟩
  · rw [(g4 x (by omega)).1, (g4 x (by omega)).2]
    exact h4 x hx
  · rw [(g5 p (by omega)).1, (g5 p (by omega)).2]
    exact h5 p hp
  · rw [g6 k (by omega)]
    exact h6 k hk
theorem zOd.ag {L0 L A A0 : Nat} {d d' : zDat} (h : zOd L A d d') : zAg L0 L A0 A (zic d) d d' := ⟨fun l _ h1 => by
  obtain ⟨a1, a2⟩ := h.2.1 l h1
  unfold zpa zfr ztn zro zbo zot
  rw [a1, a2]
  exact ⟨rfl, rfl, rfl, rfl, rfl, rfl, rfl⟩, fun p _ h1 => h.2.2.1 p h1, h.2.2.2⟩
theorem zsaR.od {d d' : zDat} (h : zsaR d d') : zOd (zlc d) (zac d) d d' := by
  obtain ⟨h1, h2, h3, h4, h5, h6, h7, h8, h9⟩ := h
  exact ⟨⟨by omega, by omega, h5⟩, fun x _ => by rw [h2, h3]; exact ⟨rfl, rfl⟩, h7, h8⟩
theorem zr_next {d : zDat} {l n x : Nat} : (zpa (znext d l n) x = zpa d x ∧ zfr (znext d l n) x = zfr d x ∧ ztn (znext d l n) x = ztn d x ∧ zro (znext d l n) x = zro d x ∧ zbo (znext d l n) x = zbo d x ∧ zot (znext d l n) x = zot d x) ∧ znl (znext d l n) x = if x = l then n + 1 else znl d x := by
  unfold zpa zfr ztn znl zro zbo zot
  rw [za_zrw_next]
  unfold zup
  by_cases c : x = l
  · subst c; simp
  · simp [c]
theorem zr_body {d : zDat} {l n x : Nat} : (zpa (zbody d l n) x = zpa d x ∧ zfr (zbody d l n) x = zfr d x ∧ ztn (zbody d l n) x = ztn d x ∧ zro (zbody d l n) x = zro d x ∧ znl (zbody d l n) x = znl d x ∧ zot (zbody d l n) x = zot d x) ∧ zbo (zbody d l n) x = if x = l then n + 1 else zbo d x := by
  unfold zpa zfr ztn znl zro zbo zot
  rw [za_zrw_body]
  unfold zup
  by_cases c : x = l
  · subst c; simp
  · simp [c]
theorem zr_othr {d : zDat} {q l n x : Nat} : (zpa (zothr d q l n) x = zpa d x ∧ zfr (zothr d q l n) x = zfr d x ∧ ztn (zothr d q l n) x = ztn d x ∧ zro (zothr d q l n) x = zro d x ∧ znl (zothr d q l n) x = znl d x ∧ zbo (zothr d q l n) x = zbo d x) ∧ zot (zothr d q l n) x = if x = l then n + 1 else zot d x := by
  unfold zpa zfr ztn znl zro zbo zot
  rw [za_zrw_othr]
  unfold zup
  by_cases c : x = l
  · subst c; simp
  · simp [c]
theorem zAg.trans {L0 L1 A0 A1 I1 L0' L1' A0' A1' I1' : Nat} {a b c : zDat} (h : zAg L0 L1 A0 A1 I1 a b) (g : zAg L0' L1' A0' A1' I1' b c) (h0 : L0' ≤ L0) (h1 : L1 ≤ L1') (h2 : A0' ≤ A0) (h3 : A1 ≤ A1') (h4 : I1 ≤ I1') : zAg L0 L1 A0 A1 I1 a c := by
  refine ⟨fun l q0 q1 => ?_, fun p q0 q1 => ?_, fun k hk => ?_⟩
  · obtain ⟨a1, a2, a3, a4, a5, a6, a7⟩ := h.1 l q0 q1
    obtain ⟨b1, b2, b3, b4, b5, b6, b7⟩ := g.1 l (by omega) (by omega)
    exact ⟨b1.trans a1, b2.trans a2, b3.trans a3, b4.trans a4, b5.trans a5, b6.trans a6, b7.trans a7⟩
  · obtain ⟨a1, a2⟩ := h.2.1 p q0 q1
    obtain ⟨b1, b2⟩ := g.2.1 p (by omega) (by omega)
    exact ⟨b1.trans a1, b2.trans a2⟩
  · exact (g.2.2 k (by omega)).trans (h.2.2 k hk)
theorem zAg_next {L0 L1 A0 A1 I1 l n : Nat} {d : zDat} : zAg L0 L1 A0 A1 I1 d (znext d l n) := ⟨fun x _ _ => by
  obtain ⟨⟨a1, a2, a3, a4, a5, a6⟩, -⟩ := zr_next (d := d) (l := l) (n := n) (x := x)
  exact ⟨a1, a2, a3, a4, a5, a6, by rw [za_zln_next]⟩, fun p _ _ => by rw [za_zaf_next, za_ztg_next]; exact ⟨rfl, rfl⟩, fun k _ => by rw [za_zitf_next]⟩
theorem zOw.b {A l : Nat} {d : zDat} (h : zOw A d l) : A < zac d := by
  have h1 := h.1
  have : zle d l = zpa d l + 1 + (ztn d l - zfr d l) := rfl
  omega
/-- a line more of the block -/
theorem zBk.grow {L A b last : Nat} {d d1 : zDat} (h : zBk L A b last d) (g : zBk (zlc d) (zac d) b (zlc d) d1) (o : zOd (zlc d) (zac d) d d1) (hp : zpa d1 (zlc d) = zac d) : zBk L A b (zlc d) (znext d1 last (zlc d)) := by
  obtain ⟨⟨h1, h2⟩, h3, h4, h5, h6, h7⟩ := h
  obtain ⟨⟨g1, g2⟩, g3, g4, g5, g6, g7⟩ := g
  have hA : A ≤ zac d := Nat.le_of_lt (h6 last h1 h2).b
  obtain ⟨⟨o1, o2, o3⟩, o4, -, -⟩ := id o
  have ag1 : zAg L (zlc d) A (zac d) (zic d) d (znext d1 last (zlc d)) := (o.ag (L0 := L) (A0 := A)).trans (zAg_next (L0 := L) (L1 := zlc d) (A0 := A) (A1 := zac d) (I1 := zic d)) (Nat.le_refl _) (Nat.le_refl _) (Nat.le_refl _) (Nat.le_refl _) (Nat.le_refl _)
  have ag2 : ∀ L' A', zAg L' (zlc d1) A' (zac d1) (zic d1) d1 (znext d1 last (zlc d)) := fun _ _ => zAg_next
  have c1 : zlc (znext d1 last (zlc d)) = zlc d1 := za_zlc_next
  have c2 : zac (znext d1 last (zlc d)) = zac d1 := zac_next
  have c3 : zic (znext d1 last (zlc d)) = zic d1 := za_zic_next
  have own : ∀ x, L ≤ x → x < zlc d1 → zOw A (znext d1 last (zlc d)) x := fun x q0 q1 => by
    by_cases c : x < zlc d
    · exact (h6 x q0 c).ag ag1 (by omega) (by omega) (by omega) q0 c
    · exact ((g6 x (by omega) q1).w hA).ag (ag2 (zlc d) A) (by omega) (by omega) (by omega) (by omega) q1
  refine ⟨⟨by omega, by omega⟩, ?_, ?_, ?_, fun x q0 q1 => own x q0 (by omega), fun x q0 q1 q2 => ?_⟩
  · rw [zr_next.1.2.2.2.1]
    exact g3
  · rw [zr_next.2, if_neg (by omega)]
    exact g4
  · rw [(g6 (zlc d) (Nat.le_refl _) g2).qe (ag2 (zlc d) (zac d)) (Nat.le_refl _) g2, g5, c2]
  · by_cases c : x < zlc d
    · by_cases c9 : x = last
      · subst c9
        refine Or.inl ⟨zlc d, ?_, by omega, by omega, ?_⟩
        · rw [zr_next.2, if_pos rfl]
        · rw [(h6 x h1 h2).qe ag1 h1 h2, h5, zr_next.1.1, hp]
      · refine (h7 x q0 c c9).ag ag1 h6 ?_ (by omega) (by omega) q0 c
        rw [zr_next.2, if_neg c9]
        unfold znl
        rw [(o4 x c).1]
    · refine ((g7 x (by omega) (by omega) q2).ag (ag2 (zlc d) (zac d)) g6 ?_ (by omega) (by omega) (by omega) (by omega)).w (by omega) hA
      rw [zr_next.2, if_neg (by omega)]
theorem zOd.next {L A l n : Nat} {d : zDat} (h : L ≤ l) : zOd L A d (znext d l n) := ⟨⟨Nat.le_of_eq za_zlc_next.symm, Nat.le_of_eq zac_next.symm, Nat.le_of_eq za_zic_next.symm⟩, fun x hx => by
  rw [za_zrw_next, za_zln_next, zup_ne _ _ (by omega)]
  exact ⟨rfl, rfl⟩, fun p _ => by rw [za_zaf_next, za_ztg_next]; exact ⟨rfl, rfl⟩, fun k _ => by rw [za_zitf_next]⟩
theorem zit_nil {T : zTS} {n i i' : Nat} {d d' : zDat} (h : zit T n (.inl ([], i, d)) = .inl ([], i', d')) : i' = i ∧ d' = d := by
  rw [zit_fix rfl n] at h
  injection h with h
  injection h with _ h
  injection h with h1 h2
  exact ⟨h1.symm, h2.symm⟩
theorem zit_6 {T : zTS} {n c i i' : Nat} {d d' : zDat} (h : zit T n (.inl ([(6, c, 0, 0)], i, d)) = .inl ([], i', d')) : d' = d := by
  obtain ⟨n1, -, κ1, i1, d1, h1, h2⟩ := zit_one h
  have h1 : (if T.1 i = (c : Int) then (Sum.inl ([], i + 1, d) : zCf) else .inr 1) = .inl (κ1, i1, d1) := h1
  split at h1
  · injection h1 with h1
    injection h1 with e1 e2
    injection e2 with e2 e3
    subst e1 e3
    exact (zit_nil h2).2
  · cases h1
theorem zit_30 {T : zTS} {n a b i i' : Nat} {d d' : zDat} (h : zit T n (.inl ([(30, a, b, 0)], i, d)) = .inl ([], i', d')) : d' = znext d a b := by
  obtain ⟨n1, -, κ1, i1, d1, h1, h2⟩ := zit_one h
  have h1 : (Sum.inl ([], i, znext d a b) : zCf) = .inl (κ1, i1, d1) := h1
  injection h1 with h1
  injection h1 with e1 e2
  injection e2 with e2 e3
  subst e1 e3
  exact (zit_nil h2).2
def zS8 (T : zTS) (n : Nat) : Prop := ∀ (a b i i' : Nat) (d d' : zDat), zit T n (.inl ([(8, a, b, 0)], i, d)) = .inl ([], i', d') → zBk (zlc d) (zac d) b (zlc d) d' ∧ zOd (zlc d) (zac d) d d' ∧ zpa d' (zlc d) = zac d
def zS9 (T : zTS) (n : Nat) : Prop := ∀ (a b last L A i i' : Nat) (d d' : zDat), zBk L A b last d → zit T n (.inl ([(9, a, b, last)], i, d)) = .inl ([], i', d') → ∃ e, zBk L A b e d' ∧ zOd L A d d' ∧ ∀ x, x < zlc d → zpa d' x = zpa d x ∧ zro d' x = zro d x
def zS7 (T : zTS) (n : Nat) : Prop := ∀ (a b i i' : Nat) (d d' : zDat), zit T n (.inl ([(7, a, b, 0)], i, d)) = .inl ([], i', d') → ∃ e, zBk (zlc d) (zac d) b e d' ∧ zOd (zlc d) (zac d) d d' ∧ zpa d' (zlc d) = zac d ∧ zro d' (zlc d) = b
theorem zS9.of {T : zTS} : ∀ n : Nat, (∀ k, k ≤ n → zS8 T k) → ∀ k, k ≤ n → zS9 T k
  | n, h8, 0 => fun _ a b last L A i i' d d' hb h => by
    exfalso
    have h : (Sum.inl ([(9, a, b, last)], i, d) : zCf) = .inl ([], i', d') := h
    injection h with h
    injection h with h _
    cases h
  | n, h8, k + 1 => fun hk a b last L A i i' d d' hb h => by
    obtain ⟨n1, hn1, κ1, i1, d1, h1, h2⟩ := zit_one h
    have h1 : (if T.1 i = 59 then (Sum.inl ([(8, a, b, 0), (30, last, zlc d, 0), (9, a, b, zlc d)], i + 1, d) : zCf) else .inl ([], i, d)) = .inl (κ1, i1, d1) := h1
    split at h1
    · injection h1 with h1
      injection h1 with e1 e2
      injection e2 with e2 e3
      subst e1 e2 e3
      obtain ⟨m1, m2, j1, c1, q0, q1, q2⟩ := zit_cut (κ := [(8, a, b, 0)]) (κ2 := [(30, last, zlc d, 0), (9, a, b, zlc d)]) n1 _ _ _ _ h2
      obtain ⟨m3, m4, j2, c2, r0, r1, r2⟩ := zit_cut (κ := [(30, last, zlc d, 0)]) (κ2 := [(9, a, b, zlc d)]) m2 _ _ _ _ q2
      obtain ⟨g1, g2, g3⟩ := h8 m1 (by omega) a b _ _ _ _ q1
      have e3 := zit_30 r1
      subst e3
      have hg := hb.grow g1 g2 g3
      obtain ⟨⟨hb1, hb2⟩, -⟩ := id hb
      have hA : A ≤ zac d := Nat.le_of_lt (hb.2.2.2.2.1 last hb1 hb2).b
      obtain ⟨e, f1, f2, f3⟩ := zS9.of n h8 m4 (by omega) a b (zlc d) L A _ _ _ _ hg r2
      have ho : zOd L A d (znext c1 last (zlc d)) := zOd.trans (L := L) (A := A) (L' := L) (A' := A) ⟨g2.1, fun x hx => g2.2.1 x (by omega), fun p hp => g2.2.2.1 p (by omega), g2.2.2.2⟩ (zOd.next hb1) (Nat.le_refl _) (Nat.le_refl _)
      refine ⟨e, f1, zOd.trans ho f2 (Nat.le_refl _) (Nat.le_refl _), fun x hx => ?_⟩
      obtain ⟨t1, t2⟩ := f3 x (by rw [za_zlc_next]; have := g2.1.1; omega)
      rw [t1, t2, zr_next.1.1, zr_next.1.2.2.2.1]
      unfold zpa zro
      rw [(g2.2.1 x hx).1]
      exact ⟨rfl, rfl⟩
    · injection h1 with h1
      injection h1 with e1 e2
      injection e2 with e2 e3
      subst e1 e3
      obtain ⟨-, e4⟩ := zit_nil h2
      subst e4
      exact ⟨last, hb, zOd.rf, fun _ _ => ⟨rfl, rfl⟩⟩
theorem zS7.of {T : zTS} {n : Nat} (h8 : ∀ k, k ≤ n → zS8 T k) : ∀ k, k ≤ n → zS7 T k := fun k hk a b i i' d d' h => by
  obtain ⟨n1, hn1, κ1, i1, d1, h1, h2⟩ := zit_one h
  have h1 : (if T.1 i = 123 then (if a ≤ 6 then (Sum.inl ([(8, a, b, 0), (9, a, b, zlc d), (6, 125, 0, 0)], i + 1, d) : zCf) else .inr 3) else .inr 1) = .inl (κ1, i1, d1) := h1
  split at h1
  · split at h1
    · injection h1 with h1
      injection h1 with e1 e2
      injection e2 with e2 e3
      subst e1 e2 e3
      obtain ⟨m1, m2, j1, c1, q0, q1, q2⟩ := zit_cut (κ := [(8, a, b, 0)]) (κ2 := [(9, a, b, zlc d), (6, 125, 0, 0)]) n1 _ _ _ _ h2
      obtain ⟨m3, m4, j2, c2, r0, r1, r2⟩ := zit_cut (κ := [(9, a, b, zlc d)]) (κ2 := [(6, 125, 0, 0)]) m2 _ _ _ _ q2
      have e3 := zit_6 r2
      subst e3
      obtain ⟨g1, g2, g3⟩ := h8 m1 (by omega) a b _ _ _ _ q1
      obtain ⟨e, f1, f2, f3⟩ := zS9.of n h8 m3 (by omega) a b (zlc d) (zlc d) (zac d) _ _ _ _ g1 r1
      obtain ⟨t1, t2⟩ := f3 (zlc d) g1.1.2
      exact ⟨e, f1, zOd.trans g2 f2 (Nat.le_refl _) (Nat.le_refl _), t1.trans g3, t2.trans g1.2.1⟩
    · cases h1
  · cases h1
/-- of the line that is read: its head, its items -/
def zLf (d : zDat) (m b : Nat) (k : Int) (t : Nat) (D : zDat) : Prop := (zpa D (zlc d) = zac d ∧ zfr D (zlc d) = zic d ∧ ztn D (zlc d) = zic d + m ∧ znl D (zlc d) = 0 ∧ zro D (zlc d) = b ∧ zkl D (zlc d) = k ∧ ztkn D (zlc d) = t) ∧ zaf D (zac d) = (0, 0, zlc d) ∧ (∀ j, j < m → zaf D (zac d + 1 + j) = zie (zitf D (zic d + j)) ∧ ztg D (zac d + 1 + j) = 0) ∧ zic d + m ≤ zic D ∧ zac d + 1 + m < zac D ∧ zlc d < zlc D
theorem zLf.le {d D : zDat} {m b t : Nat} {k : Int} (h : zLf d m b k t D) : zle D (zlc d) = zac d + 1 + m := by
  obtain ⟨⟨h1, h2, h3, -⟩, -⟩ := h
  unfold zle
  rw [h1, h2, h3]
  omega
theorem zLf.od {d D D' : zDat} {m b t : Nat} {k : Int} (h : zLf d m b k t D) (o : zOd (zlc d + 1) (zac d + 1 + m + 1) D D') : zLf d m b k t D' := by
  unfold zLf zpa zfr ztn znl zro zkl ztkn at h ⊢
  obtain ⟨⟨h1, h2, h3, h4, h5, h6, h7⟩, h8, h9, h10, h11, h12⟩ := h
  obtain ⟨⟨o1, o2, o3⟩, o4, o5, o6⟩ := o
  obtain ⟨r1, r2⟩ := o4 (zlc d) (by omega)
  rw [r1, r2]
  refine ⟨⟨h1, h2, h3, h4, h5, h6, h7⟩, ?_, fun j hj => ?_, by omega, by omega, by omega⟩
  · rw [(o5 (zac d) (by omega)).1]; exact h8
  · rw [(o5 (zac d + 1 + j) (by omega)).1, (o5 (zac d + 1 + j) (by omega)).2, o6 (zic d + j) (by omega)]; exact h9 j hj
/-- what changes neither acts below nor rows but for where a body begins -/
theorem zLf.cg {d D D' : zDat} {m b t : Nat} {k : Int} (h : zLf d m b k t D) (hr : zpa D' (zlc d) = zpa D (zlc d) ∧ zfr D' (zlc d) = zfr D (zlc d) ∧ ztn D' (zlc d) = ztn D (zlc d) ∧ zro D' (zlc d) = zro D (zlc d) ∧ znl D' (zlc d) = znl D (zlc d) ∧ zln D' = zln D) (ha : ∀ p, p < zac d + 1 + m → zaf D' p = zaf D p ∧ ztg D' p = ztg D p) (hi : zitf D' = zitf D) (hc : zlc D' = zlc D ∧ zac D ≤ zac D' ∧ zic D' = zic D) : zLf d m b k t D' := by
  obtain ⟨⟨h1, h2, h3, h4, h5, h6, h7⟩, h8, h9, h10, h11, h12⟩ := h
  obtain ⟨r1, r2, r3, r4, r5, r6⟩ := hr
  unfold zLf zkl ztkn
  unfold zkl at h6
  unfold ztkn at h7
  rw [r1, r2, r3, r4, r5, r6, hi]
  refine ⟨⟨h1, h2, h3, h4, h5, h6, h7⟩, ?_, fun j hj => ?_, by omega, by omega, by omega⟩
  · rw [(ha (zac d) (by omega)).1]; exact h8
  · rw [(ha (zac d + 1 + j) (by omega)).1, (ha (zac d + 1 + j) (by omega)).2]; exact h9 j hj
/-- the line's sum or test stands -/
theorem zline {d d2 : zDat} {k : Int} {t a b : Nat} {e : Nat × Nat × Nat} (hs : zsaR (zaddl d k t a b) d2) : zLf d (zic d2 - zic d) b k t (zende d2 (zlc d) e) ∧ zOd (zlc d) (zac d) d (zende d2 (zlc d) e) ∧ zac d2 = zac d + 1 + (zic d2 - zic d) ∧ zac (zende d2 (zlc d) e) = zac d2 + 1 ∧ zlc (zende d2 (zlc d) e) = zlc d + 1 ∧ zaf (zende d2 (zlc d) e) (zac d2) = e ∧ zot (zende d2 (zlc d) e) (zlc d) = 0 ∧ zic d ≤ zic d2 ∧ zitf (zende d2 (zlc d) e) = zitf d2 ∧ zic (zende d2 (zlc d) e) = zic d2 ∧ ztg (zende d2 (zlc d) e) (zac d2) = 0 := by
  obtain ⟨h1, h2, h3, h4, h5, h6, h7, h8, h9⟩ := hs
  rw [za_zlc_addl] at h1
  rw [za_zln_addl] at h2
  rw [za_zrw_addl] at h3
  rw [za_zic_addl] at h5 h6 h8 h9
  rw [zac_addl] at h6 h7 h9
  rw [za_zaf_addl, za_ztg_addl] at h7
  have e1 : zrw (zende d2 (zlc d) e) (zlc d) = (zac d, zic d, zic d2, 0, b, 0, 0) := by
    rw [za_zrw_ende, zup_self, h3, zup_self]
  have e2 : zln (zende d2 (zlc d) e) (zlc d) = (k, zfc d, t, a) := by
    rw [za_zln_ende, h2, zup_self]
  have c1 : zac (zende d2 (zlc d) e) = zac d2 + 1 := zac_ende
  have c2 : zlc (zende d2 (zlc d) e) = zlc d + 1 := za_zlc_ende.trans h1
  have c3 : zic (zende d2 (zlc d) e) = zic d2 := za_zic_ende
  have f0 : zaf (zende d2 (zlc d) e) = zup (zaf d2) (zac d2) e := za_zaf_ende
  have f1 : zitf (zende d2 (zlc d) e) = zitf d2 := za_zitf_ende
  have f2 : ztg (zende d2 (zlc d) e) = zup (ztg d2) (zac d2) 0 := za_ztg_ende
  refine ⟨?_, ⟨⟨by omega, by omega, by omega⟩, fun x hx => ?_, fun p hp => ?_, fun j hj => ?_⟩, by omega, c1, c2, by rw [f0, zup_self], by unfold zot; rw [e1], by omega, f1, c3, by rw [f2, zup_self]⟩
  · unfold zLf zpa zfr ztn znl zro zkl ztkn
    rw [e1, e2, f0, f1, f2]
    refine ⟨⟨rfl, rfl, by show zic d2 = zic d + (zic d2 - zic d); omega, rfl, rfl, rfl, rfl⟩, ?_, fun j hj => ?_, by omega, by omega, by omega⟩
    · rw [zup_ne _ _ (by omega), (h7 (zac d) (by omega)).1, zup_self]
    · rw [zup_ne _ _ (by omega), zup_ne _ _ (by omega)]
      exact h9 j hj
  · rw [za_zrw_ende, zup_ne _ _ (by omega), h3, zup_ne _ _ (by omega), za_zln_ende, h2, zup_ne _ _ (by omega)]
    exact ⟨rfl, rfl⟩
  · rw [f0, f2, zup_ne _ _ (by omega), zup_ne _ _ (by omega), (h7 p (by omega)).1, (h7 p (by omega)).2, zup_ne _ _ (by omega), zup_ne _ _ (by omega)]
    exact ⟨rfl, rfl⟩
  · rw [f1, h8 j hj, za_zitf_addl]
/-- set, say, return -/
theorem zline.s {d d2 : zDat} {k : Int} {t a b c u : Nat} (hs : zsaR (zaddl d k t a b) d2) (hk : (k = 0 ∧ c = 0 ∧ u = t) ∨ (k = 1 ∧ c = 1 ∧ u = 0) ∨ (k = 2 ∧ c = 2 ∧ u = 0)) : zBk (zlc d) (zac d) b (zlc d) (zende d2 (zlc d) (10 + c, u, zlc d)) ∧ zOd (zlc d) (zac d) d (zende d2 (zlc d) (10 + c, u, zlc d)) ∧ zpa (zende d2 (zlc d) (10 + c, u, zlc d)) (zlc d) = zac d := by
  obtain ⟨h1, h2, h3, h4, h5, h6, h7, h8, -, -, hz⟩ := zline (e := (10 + c, u, zlc d)) hs
  generalize zende d2 (zlc d) (10 + c, u, zlc d) = D at h1 h2 h4 h5 h6 h7 hz ⊢
  have hle := h1.le
  obtain ⟨⟨g1, g2, g3, g4, g5, g6, g7⟩, g8, g9, g10, g11, g12⟩ := id h1
  rw [h3] at h6 hz
  have own : zOw (zac d) D (zlc d) := by
    refine ⟨⟨by omega, by omega, by omega, by omega⟩, ⟨by rw [g1]; exact g8, fun _ => h7⟩, fun j hj => by rw [g1, g2]; exact g9 j (by omega), ?_⟩
    rw [g6, g7, hle, h6]
    rcases hk with ⟨k1, k2, k3⟩ | ⟨k1, k2, k3⟩ | ⟨k1, k2, k3⟩
    · exact Or.inl ⟨k1, by rw [k2, k3], hz⟩
    · exact Or.inr (Or.inl ⟨k1, by rw [k2, k3]⟩)
    · exact Or.inr (Or.inr (Or.inl ⟨k1, by rw [k2, k3]⟩))
  refine ⟨⟨⟨Nat.le_refl _, by omega⟩, g5, g4, ?_, fun x q0 q1 => ?_, fun x q0 q1 q2 => by omega⟩, h2, g1⟩
  · unfold zqe
    rw [g6, if_neg (by omega), if_neg (by omega)]
    omega
  · rw [show x = zlc d by omega]
    exact own
theorem zBk.in {L A b e : Nat} {d d' : zDat} (h : zBk L A b e d) (hg : zAg L (zlc d) A (zac d) (zic d) d d') (hL : zlc d ≤ zlc d') (hA : zac d ≤ zac d') (hI : zic d ≤ zic d') (hn : ∀ x, L ≤ x → x < zlc d → znl d' x = znl d x) : (∀ x, L ≤ x → x < zlc d → zOw A d' x) ∧ (∀ x, L ≤ x → x < zlc d → x ≠ e → zNx L A d' x) ∧ zqe d' e = zac d ∧ znl d' e = 0 ∧ zro d' e = b ∧ L ≤ e ∧ e < zlc d := by
  obtain ⟨⟨h1, h2⟩, h3, h4, h5, h6, h7⟩ := h
  exact ⟨fun x q0 q1 => (h6 x q0 q1).ag hg hL hA hI q0 q1, fun x q0 q1 q2 => (h7 x q0 q1 q2).ag hg h6 (hn x q0 q1) hL hA q0 q1, ((h6 e h1 h2).qe hg h1 h2).trans h5, (hn e h1 h2).trans h4, (hg.1 e h1 h2).2.2.2.1.trans h3, h1, h2⟩

/-- a line with a block, whose other acts are known -/
theorem zLf.ow {d D : zDat} {m b t : Nat} {k : Int} (h : zLf d m b k t D) (hk : k = 3 ∨ k = 4) (h13 : zaf D (zac d + 1 + m) = (13, 0, zlc d)) (ht : 0 < m ∧ 6 ≤ (zitf D (zic d + m - 1)).1 ∧ (zitf D (zic d + m - 1)).1 ≤ 8) (hz : k = 4 → zot D (zlc d) = 0) {n : Nat} (hb : zbo D (zlc d) = n + 1) (hn : zlc d < n ∧ n < zlc D) (hp : zpa D n = zac d + 1 + m + 1) (c : (k = 3 ∧ zot D (zlc d) = 0 ∧ zac d + 1 + m + 1 < ztg D (zac d + 1 + m) ∧ ztg D (zac d + 1 + m) ≤ zac D + 1) ∨ (k = 3 ∧ ∃ o, zot D (zlc d) = o + 1 ∧ zlc d < o ∧ o < zlc D ∧ zpa D o < zac D ∧ zac d + 1 + m + 1 < zpa D o ∧ ztg D (zac d + 1 + m) = zpa D o + 1 ∧ zaf D (zpa D o - 1) = (15, 0, zlc d) ∧ 0 < ztg D (zpa D o - 1) ∧ ztg D (zpa D o - 1) ≤ zac D + 1) ∨ (k = 4 ∧ zac d + 1 + m + 2 < ztg D (zac d + 1 + m) ∧ ztg D (zac d + 1 + m) ≤ zac D + 1 ∧ zaf D (ztg D (zac d + 1 + m) - 2) = (14, zac d + 1, zlc d))) : zOw (zac d) D (zlc d) := by
  have hle := h.le
  obtain ⟨⟨g1, g2, g3, g4, g5, g6, g7⟩, g8, g9, g10, g11, g12⟩ := h
  refine ⟨⟨by omega, by omega, by omega, by omega⟩, ⟨by rw [g1]; exact g8, fun h9 => hz (by omega)⟩, fun j hj => by rw [g1, g2]; exact g9 j (by omega), Or.inr (Or.inr (Or.inr ?_))⟩
  rw [g6, hle, g1]
  exact ⟨hk, h13, by rw [g2, g3]; exact ⟨by omega, ht.2⟩, n, hb, hn.1, hn.2, hp, c⟩
/-- an if without another block -/
theorem zline.i {d d2 d4 : zDat} {t a b e4 : Nat} (hs : zsaR (zaddl d 3 t a b) d2) (ht : zic d < zic d2 ∧ 6 ≤ (zitf d2 (zic d2 - 1)).1 ∧ (zitf d2 (zic d2 - 1)).1 ≤ 8) (h4 : zBk (zlc d + 1) (zac d2 + 1) (zlc d + 1) e4 d4) (o : zOd (zlc d + 1) (zac d2 + 1) (zende d2 (zlc d) (13, 0, zlc d)) d4) (hp : zpa d4 (zlc d + 1) = zac d2 + 1) : zBk (zlc d) (zac d) b (zlc d) (ztgt (zbody d4 (zlc d) (zlc d + 1)) (zac d2)) ∧ zOd (zlc d) (zac d) d (ztgt (zbody d4 (zlc d) (zlc d + 1)) (zac d2)) ∧ zpa (ztgt (zbody d4 (zlc d) (zlc d + 1)) (zac d2)) (zlc d) = zac d := by
  obtain ⟨h1, h2, h3, h5, h6, h7, h8, h9, h10, h11, -⟩ := zline (e := (13, 0, zlc d)) hs
  generalize zende d2 (zlc d) (13, 0, zlc d) = D3 at h1 h2 h5 h6 h7 h8 h10 h11 o
  generalize hm : zic d2 - zic d = m at h1 h3
  rw [h3] at h4 o hp h5 h7 ⊢
  have f4 := h1.od o
  have hA4 : zac d + 1 + m + 1 < zac d4 := (h4.2.2.2.2.1 e4 h4.1.1 h4.1.2).b
  have a13 : zaf d4 (zac d + 1 + m) = (13, 0, zlc d) := by rw [(o.2.2.1 _ (by omega)).1]; exact h7
  have ot4 : zot d4 (zlc d) = 0 := by unfold zot at h8 ⊢; rw [(o.2.1 (zlc d) (by omega)).1]; exact h8
  have rw6 : ∀ x, zrw (ztgt (zbody d4 (zlc d) (zlc d + 1)) (zac d + 1 + m)) x = zrw (zbody d4 (zlc d) (zlc d + 1)) x := fun x => by rw [za_zrw_tgt]
  have c1 : zlc (ztgt (zbody d4 (zlc d) (zlc d + 1)) (zac d + 1 + m)) = zlc d4 := by rw [za_zlc_tgt, za_zlc_body]
  have c2 : zac (ztgt (zbody d4 (zlc d) (zlc d + 1)) (zac d + 1 + m)) = zac d4 := by rw [zac_tgt, zac_body]
  have c3 : zic (ztgt (zbody d4 (zlc d) (zlc d + 1)) (zac d + 1 + m)) = zic d4 := by rw [za_zic_tgt, za_zic_body]
  have q1 : zaf (ztgt (zbody d4 (zlc d) (zlc d + 1)) (zac d + 1 + m)) = zaf d4 := by rw [za_zaf_tgt, za_zaf_body]
  have q2 : ztg (ztgt (zbody d4 (zlc d) (zlc d + 1)) (zac d + 1 + m)) = zup (ztg d4) (zac d + 1 + m) (zac d4 + 1) := by rw [za_ztg_tgt, za_ztg_body, zac_body]
  have q3 : zitf (ztgt (zbody d4 (zlc d) (zlc d + 1)) (zac d + 1 + m)) = zitf d4 := by rw [za_zitf_tgt, za_zitf_body]
  have q4 : zln (ztgt (zbody d4 (zlc d) (zlc d + 1)) (zac d + 1 + m)) = zln d4 := by rw [za_zln_tgt, za_zln_body]
  generalize ztgt (zbody d4 (zlc d) (zlc d + 1)) (zac d + 1 + m) = D at rw6 c1 c2 c3 q1 q2 q3 q4 ⊢
  have rr : ∀ x, (zpa D x = zpa d4 x ∧ zfr D x = zfr d4 x ∧ ztn D x = ztn d4 x ∧ zro D x = zro d4 x ∧ znl D x = znl d4 x ∧ zot D x = zot d4 x) ∧ zbo D x = if x = zlc d then zlc d + 1 + 1 else zbo d4 x := fun x => by
    have := zr_body (d := d4) (l := zlc d) (n := zlc d + 1) (x := x)
    unfold zpa zfr ztn zro znl zot zbo at this ⊢
    rw [rw6]
    exact this
  have fD : zLf d m b 3 t D := f4.cg ⟨(rr _).1.1, (rr _).1.2.1, (rr _).1.2.2.1, (rr _).1.2.2.2.1, (rr _).1.2.2.2.2.1, q4⟩ (fun p _ => ⟨by rw [q1], by rw [q2, zup_ne _ _ (by omega)]⟩) q3 ⟨c1, by omega, c3⟩
  have bD : zbo D (zlc d) = zlc d + 1 + 1 := by rw [(rr _).2, if_pos rfl]
  have tD : ztg D (zac d + 1 + m) = zac d4 + 1 := by rw [q2, zup_self]
  have oD : zot D (zlc d) = 0 := (rr _).1.2.2.2.2.2.trans ot4
  have eT : zitf D (zic d + m - 1) = zitf d2 (zic d2 - 1) := by rw [q3, o.2.2.2 _ (by omega), h10, show zic d + m - 1 = zic d2 - 1 by omega]
  have own : zOw (zac d) D (zlc d) := fD.ow (Or.inl rfl) (by rw [q1]; exact a13) (by rw [eT]; exact ⟨by omega, ht.2⟩) (fun h => absurd h (by decide)) bD ⟨by omega, by have := h4.1; omega⟩ ((rr _).1.1.trans hp) (Or.inl ⟨rfl, oD, by omega, by omega⟩)
  have hq : zqe D (zlc d) = zac d4 := by
    unfold zqe
    rw [fD.1.2.2.2.2.2.1, if_pos rfl, oD, if_pos rfl, fD.le, tD]
    rfl
  have ag : zAg (zlc d + 1) (zlc d4) (zac d + 1 + m + 1) (zac d4) (zic d4) d4 D := ⟨fun x g0 _ => ⟨(rr x).1.1, (rr x).1.2.1, (rr x).1.2.2.1, (rr x).1.2.2.2.1, by rw [(rr x).2, if_neg (by omega)], (rr x).1.2.2.2.2.2, by rw [q4]⟩, fun p g0 _ => by rw [q1, q2, zup_ne _ _ (by omega)]; exact ⟨rfl, rfl⟩, fun j _ => by rw [q3]⟩
  obtain ⟨k1, k2, k3, k4, k5, k6, k7⟩ := h4.in ag (by omega) (by omega) (by omega) (fun x _ _ => (rr x).1.2.2.2.2.1)
  refine ⟨⟨⟨Nat.le_refl _, by omega⟩, fD.1.2.2.2.2.1, fD.1.2.2.2.1, by rw [hq, c2], fun x g0 g1 => ?_, fun x g0 g1 g2 => ?_⟩, ?_, fD.1.1⟩
  · by_cases c : x = zlc d
    · rw [c]; exact own
    · exact (k1 x (by omega) (by omega)).w (by omega)
  · by_cases c : x = e4
    · subst c
      exact Or.inr ⟨k4, zlc d, k5, Nat.le_refl _, by omega, Or.inr ⟨fD.1.2.2.2.2.2.1, Or.inl (by rw [k3, hq])⟩⟩
    · exact (k2 x (by omega) (by omega) c).w (by omega) (by omega)
  · refine ⟨⟨by have := o.1; have := h2.1; omega, by have := o.1; have := h2.1; omega, by have := o.1; have := h2.1; omega⟩, fun x hx => ?_, fun p hp' => ?_, fun j hj => ?_⟩
    · rw [rw6, za_zrw_body, zup_ne _ _ (by omega), q4, (o.2.1 x (by omega)).1, (o.2.1 x (by omega)).2]
      exact h2.2.1 x hx
    · rw [q1, q2, zup_ne _ _ (by omega), (o.2.2.1 p (by omega)).1, (o.2.2.1 p (by omega)).2]
      exact h2.2.2.1 p hp'
    · rw [q3, o.2.2.2 j (by have := h2.1; omega)]
      exact h2.2.2.2 j hj
/-- while -/
theorem zline.w {d d2 d4 : zDat} {t a b e4 : Nat} (hs : zsaR (zaddl d 4 t a b) d2) (ht : zic d < zic d2 ∧ 6 ≤ (zitf d2 (zic d2 - 1)).1 ∧ (zitf d2 (zic d2 - 1)).1 ≤ 8) (h4 : zBk (zlc d + 1) (zac d2 + 1) (zlc d + 1) e4 d4) (o : zOd (zlc d + 1) (zac d2 + 1) (zende d2 (zlc d) (13, 0, zlc d)) d4) (hp : zpa d4 (zlc d + 1) = zac d2 + 1) : zBk (zlc d) (zac d) b (zlc d) (zgo (zbody d4 (zlc d) (zlc d + 1)) (zac d2) (14, zac d + 1, zlc d)) ∧ zOd (zlc d) (zac d) d (zgo (zbody d4 (zlc d) (zlc d + 1)) (zac d2) (14, zac d + 1, zlc d)) ∧ zpa (zgo (zbody d4 (zlc d) (zlc d + 1)) (zac d2) (14, zac d + 1, zlc d)) (zlc d) = zac d := by
  obtain ⟨h1, h2, h3, h5, h6, h7, h8, h9, h10, h11, -⟩ := zline (e := (13, 0, zlc d)) hs
  generalize zende d2 (zlc d) (13, 0, zlc d) = D3 at h1 h2 h5 h6 h7 h8 h10 h11 o
  generalize hm : zic d2 - zic d = m at h1 h3
  rw [h3] at h4 o hp h5 h7 ⊢
  have f4 := h1.od o
  have hA4 : zac d + 1 + m + 1 < zac d4 := (h4.2.2.2.2.1 e4 h4.1.1 h4.1.2).b
  have a13 : zaf d4 (zac d + 1 + m) = (13, 0, zlc d) := by rw [(o.2.2.1 _ (by omega)).1]; exact h7
  have ot4 : zot d4 (zlc d) = 0 := by unfold zot at h8 ⊢; rw [(o.2.1 (zlc d) (by omega)).1]; exact h8
  have rw6 : ∀ x, zrw (zgo (zbody d4 (zlc d) (zlc d + 1)) (zac d + 1 + m) (14, zac d + 1, zlc d)) x = zrw (zbody d4 (zlc d) (zlc d + 1)) x := fun x => by rw [za_zrw_go]
  have c1 : zlc (zgo (zbody d4 (zlc d) (zlc d + 1)) (zac d + 1 + m) (14, zac d + 1, zlc d)) = zlc d4 := by rw [za_zlc_go, za_zlc_body]
  have c2 : zac (zgo (zbody d4 (zlc d) (zlc d + 1)) (zac d + 1 + m) (14, zac d + 1, zlc d)) = zac d4 + 1 := by rw [zac_go, zac_body]
  have c3 : zic (zgo (zbody d4 (zlc d) (zlc d + 1)) (zac d + 1 + m) (14, zac d + 1, zlc d)) = zic d4 := by rw [za_zic_go, za_zic_body]
  have q1 : zaf (zgo (zbody d4 (zlc d) (zlc d + 1)) (zac d + 1 + m) (14, zac d + 1, zlc d)) = zup (zaf d4) (zac d4) (14, zac d + 1, zlc d) := by rw [za_zaf_go, za_zaf_body, zac_body]
  have q2 : ztg (zgo (zbody d4 (zlc d) (zlc d + 1)) (zac d + 1 + m) (14, zac d + 1, zlc d)) = zup (zup (ztg d4) (zac d4) 0) (zac d + 1 + m) (zac d4 + 1 + 1) := by rw [za_ztg_go, za_ztg_body, zac_body]
  have q3 : zitf (zgo (zbody d4 (zlc d) (zlc d + 1)) (zac d + 1 + m) (14, zac d + 1, zlc d)) = zitf d4 := by rw [za_zitf_go, za_zitf_body]
  have q4 : zln (zgo (zbody d4 (zlc d) (zlc d + 1)) (zac d + 1 + m) (14, zac d + 1, zlc d)) = zln d4 := by rw [za_zln_go, za_zln_body]
  generalize zgo (zbody d4 (zlc d) (zlc d + 1)) (zac d + 1 + m) (14, zac d + 1, zlc d) = D at rw6 c1 c2 c3 q1 q2 q3 q4 ⊢
  have rr : ∀ x, (zpa D x = zpa d4 x ∧ zfr D x = zfr d4 x ∧ ztn D x = ztn d4 x ∧ zro D x = zro d4 x ∧ znl D x = znl d4 x ∧ zot D x = zot d4 x) ∧ zbo D x = if x = zlc d then zlc d + 1 + 1 else zbo d4 x := fun x => by
    have := zr_body (d := d4) (l := zlc d) (n := zlc d + 1) (x := x)
    unfold zpa zfr ztn zro znl zot zbo at this ⊢
    rw [rw6]
    exact this
  have fD : zLf d m b 4 t D := f4.cg ⟨(rr _).1.1, (rr _).1.2.1, (rr _).1.2.2.1, (rr _).1.2.2.2.1, (rr _).1.2.2.2.2.1, q4⟩ (fun p hp => ⟨by rw [q1, zup_ne _ _ (by omega)], by rw [q2, zup_ne _ _ (by omega), zup_ne _ _ (by omega)]⟩) q3 ⟨c1, by omega, c3⟩
  have bD : zbo D (zlc d) = zlc d + 1 + 1 := by rw [(rr _).2, if_pos rfl]
  have tD : ztg D (zac d + 1 + m) = zac d4 + 1 + 1 := by rw [q2, zup_self]
  have eT : zitf D (zic d + m - 1) = zitf d2 (zic d2 - 1) := by rw [q3, o.2.2.2 _ (by omega), h10, show zic d + m - 1 = zic d2 - 1 by omega]
  have own : zOw (zac d) D (zlc d) := fD.ow (Or.inr rfl) (by rw [q1, zup_ne _ _ (by omega)]; exact a13) (by rw [eT]; exact ⟨by omega, ht.2⟩) (fun _ => (rr _).1.2.2.2.2.2.trans ot4) bD ⟨by omega, by have := h4.1; omega⟩ ((rr _).1.1.trans hp) (Or.inr (Or.inr ⟨rfl, by omega, by omega, by rw [tD, q1, show zac d4 + 1 + 1 - 2 = zac d4 by omega, zup_self]⟩))
  have hq : zqe D (zlc d) = zac d4 + 1 := by
    unfold zqe
    rw [fD.1.2.2.2.2.2.1, if_neg (by decide), if_pos rfl, fD.le, tD]
    rfl
  have ag : zAg (zlc d + 1) (zlc d4) (zac d + 1 + m + 1) (zac d4) (zic d4) d4 D := ⟨fun x g0 _ => ⟨(rr x).1.1, (rr x).1.2.1, (rr x).1.2.2.1, (rr x).1.2.2.2.1, by rw [(rr x).2, if_neg (by omega)], (rr x).1.2.2.2.2.2, by rw [q4]⟩, fun p g0 _ => by rw [q1, q2, zup_ne _ _ (by omega), zup_ne _ _ (by omega), zup_ne _ _ (by omega)]; exact ⟨rfl, rfl⟩, fun j _ => by rw [q3]⟩
  obtain ⟨k1, k2, k3, k4, k5, k6, k7⟩ := h4.in ag (by omega) (by omega) (by omega) (fun x _ _ => (rr x).1.2.2.2.2.1)
  refine ⟨⟨⟨Nat.le_refl _, by omega⟩, fD.1.2.2.2.2.1, fD.1.2.2.2.1, by rw [hq, c2], fun x g0 g1 => ?_, fun x g0 g1 g2 => ?_⟩, ?_, fD.1.1⟩
  · by_cases c : x = zlc d
    · rw [c]; exact own
    · exact (k1 x (by omega) (by omega)).w (by omega)
  · by_cases c : x = e4
    · subst c
      exact Or.inr ⟨k4, zlc d, k5, Nat.le_refl _, by omega, Or.inl ⟨fD.1.2.2.2.2.2.1, by omega, by omega, by rw [k3, q1, zup_self, fD.1.1], by rw [k3, hq], by rw [k3, q2, zup_ne _ _ (by omega), zup_self]⟩⟩
    · exact (k2 x (by omega) (by omega) c).w (by omega) (by omega)
  · refine ⟨⟨by have := o.1; have := h2.1; omega, by have := o.1; have := h2.1; omega, by have := o.1; have := h2.1; omega⟩, fun x hx => ?_, fun p hp' => ?_, fun j hj => ?_⟩
    · rw [rw6, za_zrw_body, zup_ne _ _ (by omega), q4, (o.2.1 x (by omega)).1, (o.2.1 x (by omega)).2]
      exact h2.2.1 x hx
    · rw [q1, q2, zup_ne _ _ (by omega), zup_ne _ _ (by omega), zup_ne _ _ (by omega), (o.2.2.1 p (by omega)).1, (o.2.2.1 p (by omega)).2]
      exact h2.2.2.1 p hp'
    · rw [q3, o.2.2.2 j (by have := h2.1; omega)]
      exact h2.2.2.2 j hj
/-- an if with another block -/
theorem zline.e {d d2 d4 d7 : zDat} {t a b e4 e7 : Nat} (hs : zsaR (zaddl d 3 t a b) d2) (ht : zic d < zic d2 ∧ 6 ≤ (zitf d2 (zic d2 - 1)).1 ∧ (zitf d2 (zic d2 - 1)).1 ≤ 8) (h4 : zBk (zlc d + 1) (zac d2 + 1) (zlc d + 1) e4 d4) (o : zOd (zlc d + 1) (zac d2 + 1) (zende d2 (zlc d) (13, 0, zlc d)) d4) (hp : zpa d4 (zlc d + 1) = zac d2 + 1) (h7 : zBk (zlc d4) (zac d4 + 1) (zlc d + 1) e7 d7) (o7 : zOd (zlc d4) (zac d4 + 1) (zgo (zbody d4 (zlc d) (zlc d + 1)) (zac d2) (15, 0, zlc d)) d7) (hp7 : zpa d7 (zlc d4) = zac d4 + 1) : zBk (zlc d) (zac d) b (zlc d) (zothr d7 (zac d4) (zlc d) (zlc d4)) ∧ zOd (zlc d) (zac d) d (zothr d7 (zac d4) (zlc d) (zlc d4)) ∧ zpa (zothr d7 (zac d4) (zlc d) (zlc d4)) (zlc d) = zac d := by
  obtain ⟨h1, h2, h3, h5, h6, h7', h8, h9, h10, h11, -⟩ := zline (e := (13, 0, zlc d)) hs
  generalize zende d2 (zlc d) (13, 0, zlc d) = D3 at h1 h2 h5 h6 h7' h8 h10 h11 o
  generalize hm : zic d2 - zic d = m at h1 h3
  rw [h3] at h4 o hp h5 h7' o7
  have f4 := h1.od o
  have hL4 := h4.1
  have hA4 : zac d + 1 + m + 1 < zac d4 := (h4.2.2.2.2.1 e4 h4.1.1 h4.1.2).b
  have a13 : zaf d4 (zac d + 1 + m) = (13, 0, zlc d) := by rw [(o.2.2.1 _ (by omega)).1]; exact h7'
  have rw6 : ∀ x, zrw (zgo (zbody d4 (zlc d) (zlc d + 1)) (zac d + 1 + m) (15, 0, zlc d)) x = zrw (zbody d4 (zlc d) (zlc d + 1)) x := fun x => by rw [za_zrw_go]
  have c1 : zlc (zgo (zbody d4 (zlc d) (zlc d + 1)) (zac d + 1 + m) (15, 0, zlc d)) = zlc d4 := by rw [za_zlc_go, za_zlc_body]
  have c2 : zac (zgo (zbody d4 (zlc d) (zlc d + 1)) (zac d + 1 + m) (15, 0, zlc d)) = zac d4 + 1 := by rw [zac_go, zac_body]
  have c3 : zic (zgo (zbody d4 (zlc d) (zlc d + 1)) (zac d + 1 + m) (15, 0, zlc d)) = zic d4 := by rw [za_zic_go, za_zic_body]
  have q1 : zaf (zgo (zbody d4 (zlc d) (zlc d + 1)) (zac d + 1 + m) (15, 0, zlc d)) = zup (zaf d4) (zac d4) (15, 0, zlc d) := by rw [za_zaf_go, za_zaf_body, zac_body]
  have q2 : ztg (zgo (zbody d4 (zlc d) (zlc d + 1)) (zac d + 1 + m) (15, 0, zlc d)) = zup (zup (ztg d4) (zac d4) 0) (zac d + 1 + m) (zac d4 + 1 + 1) := by rw [za_ztg_go, za_ztg_body, zac_body]
  have q3 : zitf (zgo (zbody d4 (zlc d) (zlc d + 1)) (zac d + 1 + m) (15, 0, zlc d)) = zitf d4 := by rw [za_zitf_go, za_zitf_body]
  have q4 : zln (zgo (zbody d4 (zlc d) (zlc d + 1)) (zac d + 1 + m) (15, 0, zlc d)) = zln d4 := by rw [za_zln_go, za_zln_body]
  generalize zgo (zbody d4 (zlc d) (zlc d + 1)) (zac d + 1 + m) (15, 0, zlc d) = D6 at rw6 c1 c2 c3 q1 q2 q3 q4 o7
  have rr : ∀ x, (zpa D6 x = zpa d4 x ∧ zfr D6 x = zfr d4 x ∧ ztn D6 x = ztn d4 x ∧ zro D6 x = zro d4 x ∧ znl D6 x = znl d4 x ∧ zot D6 x = zot d4 x) ∧ zbo D6 x = if x = zlc d then zlc d + 1 + 1 else zbo d4 x := fun x => by
    have := zr_body (d := d4) (l := zlc d) (n := zlc d + 1) (x := x)
    unfold zpa zfr ztn zro znl zot zbo at this ⊢
    rw [rw6]
    exact this
  have f6 : zLf d m b 3 t D6 := f4.cg ⟨(rr _).1.1, (rr _).1.2.1, (rr _).1.2.2.1, (rr _).1.2.2.2.1, (rr _).1.2.2.2.2.1, q4⟩ (fun p hp => ⟨by rw [q1, zup_ne _ _ (by omega)], by rw [q2, zup_ne _ _ (by omega), zup_ne _ _ (by omega)]⟩) q3 ⟨c1, by omega, c3⟩
  have o76 : zOd (zlc d + 1) (zac d + 1 + m + 1) D6 d7 := ⟨o7.1, fun x hx => o7.2.1 x (by omega), fun p hp => o7.2.2.1 p (by omega), o7.2.2.2⟩
  have f7 := f6.od o76
  have hA7 : zac d4 + 1 < zac d7 := (h7.2.2.2.2.1 e7 h7.1.1 h7.1.2).b
  have hL7 := h7.1
  have r7 : ∀ x, x < zlc d4 → zpa d7 x = zpa D6 x ∧ zfr d7 x = zfr D6 x ∧ ztn d7 x = ztn D6 x ∧ zro d7 x = zro D6 x ∧ znl d7 x = znl D6 x ∧ zot d7 x = zot D6 x ∧ zbo d7 x = zbo D6 x := fun x hx => by
    unfold zpa zfr ztn zro znl zot zbo
    rw [(o7.2.1 x hx).1]
    exact ⟨rfl, rfl, rfl, rfl, rfl, rfl, rfl⟩
  have p1 : zlc (zothr d7 (zac d4) (zlc d) (zlc d4)) = zlc d7 := za_zlc_othr
  have p2 : zac (zothr d7 (zac d4) (zlc d) (zlc d4)) = zac d7 := zac_othr
  have p3 : zic (zothr d7 (zac d4) (zlc d) (zlc d4)) = zic d7 := za_zic_othr
  have p4 : zaf (zothr d7 (zac d4) (zlc d) (zlc d4)) = zaf d7 := za_zaf_othr
  have p5 : ztg (zothr d7 (zac d4) (zlc d) (zlc d4)) = zup (ztg d7) (zac d4) (zac d7 + 1) := za_ztg_othr
  have p6 : zitf (zothr d7 (zac d4) (zlc d) (zlc d4)) = zitf d7 := za_zitf_othr
  have p7 : zln (zothr d7 (zac d4) (zlc d) (zlc d4)) = zln d7 := za_zln_othr
  have p8 : ∀ x, x ≠ zlc d → zrw (zothr d7 (zac d4) (zlc d) (zlc d4)) x = zrw d7 x := fun x hx => by rw [za_zrw_othr, zup_ne _ _ hx]
  have ro := fun x => zr_othr (d := d7) (q := zac d4) (l := zlc d) (n := zlc d4) (x := x)
  generalize zothr d7 (zac d4) (zlc d) (zlc d4) = D at p1 p2 p3 p4 p5 p6 p7 p8 ro ⊢
  have fD : zLf d m b 3 t D := f7.cg ⟨(ro _).1.1, (ro _).1.2.1, (ro _).1.2.2.1, (ro _).1.2.2.2.1, (ro _).1.2.2.2.2.1, p7⟩ (fun p _ => ⟨by rw [p4], by rw [p5, zup_ne _ _ (by omega)]⟩) p6 ⟨p1, by omega, p3⟩
  have bD : zbo D (zlc d) = zlc d + 1 + 1 := by rw [(ro _).1.2.2.2.2.2, (r7 _ (by omega)).2.2.2.2.2.2, (rr _).2, if_pos rfl]
  have oD : zot D (zlc d) = zlc d4 + 1 := by rw [(ro _).2, if_pos rfl]
  have tD : ztg D (zac d + 1 + m) = zac d4 + 1 + 1 := by rw [p5, zup_ne _ _ (by omega), (o7.2.2.1 _ (by omega)).2, q2, zup_self]
  have jD : zaf D (zac d4) = (15, 0, zlc d) := by rw [p4, (o7.2.2.1 _ (by omega)).1, q1, zup_self]
  have uD : ztg D (zac d4) = zac d7 + 1 := by rw [p5, zup_self]
  have pD : zpa D (zlc d4) = zac d4 + 1 := (ro _).1.1.trans hp7
  have eT : zitf D (zic d + m - 1) = zitf d2 (zic d2 - 1) := by rw [p6, o7.2.2.2 _ (by have := o.1; omega), q3, o.2.2.2 _ (by omega), h10, show zic d + m - 1 = zic d2 - 1 by omega]
  have own : zOw (zac d) D (zlc d) := by
    refine fD.ow (Or.inl rfl) ?_ (by rw [eT]; exact ⟨by omega, ht.2⟩) (fun h => absurd h (by decide)) bD ⟨by omega, by omega⟩ ?_ (Or.inr (Or.inl ⟨rfl, zlc d4, oD, by omega, by omega, by omega, by omega, by rw [tD, pD], ?_, ?_, ?_⟩))
    · rw [p4, (o7.2.2.1 _ (by omega)).1, q1, zup_ne _ _ (by omega)]
      exact a13
    · rw [(ro _).1.1, (r7 _ (by omega)).1, (rr _).1.1]
      exact hp
    · rw [pD, Nat.add_sub_cancel]; exact jD
    · rw [pD, Nat.add_sub_cancel, uD]; omega
    · rw [pD, Nat.add_sub_cancel, uD]; omega
  have hq : zqe D (zlc d) = zac d7 := by
    unfold zqe
    rw [fD.1.2.2.2.2.2.1, if_pos rfl, oD, if_neg (by omega), fD.le, tD, show zac d4 + 1 + 1 - 2 = zac d4 by omega, uD]
    rfl
  have ag1 : zAg (zlc d + 1) (zlc d4) (zac d + 1 + m + 1) (zac d4) (zic d4) d4 D := ⟨fun x g0 g1 => by
    obtain ⟨s1, s2, s3, s4, s5, s6, s7⟩ := r7 x g1
    obtain ⟨⟨t1, t2, t3, t4, t5, t6⟩, t7⟩ := rr x
    obtain ⟨⟨u1, u2, u3, u4, u5, u6⟩, u7⟩ := ro x
    rw [if_neg (by omega)] at t7 u7
    exact ⟨u1.trans (s1.trans t1), u2.trans (s2.trans t2), u3.trans (s3.trans t3), u4.trans (s4.trans t4), u6.trans (s7.trans t7), u7.trans (s6.trans t6), by rw [p7, (o7.2.1 x g1).2, q4]⟩, fun p g0 g1 => by
    rw [p4, p5, zup_ne _ _ (by omega), (o7.2.2.1 p (by omega)).1, (o7.2.2.1 p (by omega)).2, q1, q2, zup_ne _ _ (by omega), zup_ne _ _ (by omega), zup_ne _ _ (by omega)]
    exact ⟨rfl, rfl⟩, fun j hj => by rw [p6, o7.2.2.2 j (by omega), q3]⟩
  have ag2 : zAg (zlc d4) (zlc d7) (zac d4 + 1) (zac d7) (zic d7) d7 D := ⟨fun x g0 g1 => by
    obtain ⟨⟨u1, u2, u3, u4, u5, u6⟩, u7⟩ := ro x
    rw [if_neg (by omega)] at u7
    exact ⟨u1, u2, u3, u4, u6, u7, by rw [p7]⟩, fun p g0 g1 => by
    rw [p4, p5, zup_ne _ _ (by omega)]
    exact ⟨rfl, rfl⟩, fun j hj => by rw [p6]⟩
  have i7 := o7.1
  obtain ⟨k1, k2, k3, k4, k5, k6, k7⟩ := h4.in ag1 (by omega) (by omega) (by omega) (fun x g0 g1 => by rw [(ro x).1.2.2.2.2.1, (r7 x g1).2.2.2.2.1, (rr x).1.2.2.2.2.1])
  obtain ⟨m1, m2, m3, m4, m5, m6, m7⟩ := h7.in ag2 (by omega) (by omega) (by omega) (fun x _ _ => (ro x).1.2.2.2.2.1)
  refine ⟨⟨⟨Nat.le_refl _, by omega⟩, fD.1.2.2.2.2.1, fD.1.2.2.2.1, by rw [hq, p2], fun x g0 g1 => ?_, fun x g0 g1 g2 => ?_⟩, ?_, fD.1.1⟩
  · by_cases c : x = zlc d
    · rw [c]; exact own
    · by_cases c' : x < zlc d4
      · exact (k1 x (by omega) c').w (by omega)
      · exact (m1 x (by omega) (by omega)).w (by omega)
  · by_cases c' : x < zlc d4
    · by_cases c : x = e4
      · subst c
        exact Or.inr ⟨k4, zlc d, k5, Nat.le_refl _, by omega, Or.inr ⟨fD.1.2.2.2.2.2.1, Or.inr ⟨by omega, by omega, by rw [k3, jD], by rw [k3, uD, hq]⟩⟩⟩
      · exact (k2 x (by omega) c' c).w (by omega) (by omega)
    · by_cases c : x = e7
      · subst c
        exact Or.inr ⟨m4, zlc d, m5, Nat.le_refl _, by omega, Or.inr ⟨fD.1.2.2.2.2.2.1, Or.inl (by rw [m3, hq])⟩⟩
      · exact (m2 x (by omega) (by omega) c).w (by omega) (by omega)
  · have i4 := o.1
    have i2 := h2.1
    refine ⟨⟨by omega, by omega, by omega⟩, fun x hx => ?_, fun p hp' => ?_, fun j hj => ?_⟩
    · rw [p8 x (by omega), p7, (o7.2.1 x (by omega)).1, (o7.2.1 x (by omega)).2, rw6, za_zrw_body, zup_ne _ _ (by omega), q4, (o.2.1 x (by omega)).1, (o.2.1 x (by omega)).2]
      exact h2.2.1 x hx
    · rw [p4, p5, zup_ne _ _ (by omega), (o7.2.2.1 p (by omega)).1, (o7.2.2.1 p (by omega)).2, q1, q2, zup_ne _ _ (by omega), zup_ne _ _ (by omega), zup_ne _ _ (by omega), (o.2.2.1 p (by omega)).1, (o.2.2.1 p (by omega)).2]
      exact h2.2.2.1 p hp'
    · rw [p6, o7.2.2.2 j (by omega), q3, o.2.2.2 j (by omega)]
      exact h2.2.2.2 j hj
theorem zit_f {T : zTS} {n y a b m i i' : Nat} {d d' D : zDat} (h : zit T n (.inl ([(y, a, b, m)], i, d)) = .inl ([], i', d')) (hs : zst T y a b m [] i d = .inl ([], i, D)) : d' = D := by
  obtain ⟨n1, -, κ1, i1, d1, h1, h2⟩ := zit_one h
  rw [hs] at h1
  injection h1 with h1
  injection h1 with e1 e2
  injection e2 with e2 e3
  subst e1 e3
  exact (zit_nil h2).2
/-- a test ends with its sign -/
theorem zit_11 {T : zTS} {n i i' : Nat} {d d' : zDat} (h : zit T n (.inl ([(11, 0, 0, 0)], i, d)) = .inl ([], i', d')) : zic d < zic d' ∧ 6 ≤ (zitf d' (zic d' - 1)).1 ∧ (zitf d' (zic d' - 1)).1 ≤ 8 := by
  obtain ⟨n1, -, κ1, i1, d1, h1, h2⟩ := zit_one h
  have h1 : (Sum.inl ([(13, 0, 0, 0), (12, 0, 0, 0)], i, d) : zCf) = .inl (κ1, i1, d1) := h1
  injection h1 with h1
  injection h1 with e1 e2
  injection e2 with e2 e3
  subst e1 e2 e3
  obtain ⟨m1, m2, j1, d2, q0, q1, q2⟩ := zit_cut (κ := [(13, 0, 0, 0)]) (κ2 := [(12, 0, 0, 0)]) n1 _ _ _ _ h2
  have s1 := (zsa_run q1 (by simp [zsaP])).2.2.2.2.1
  obtain ⟨n2, -, κ2, i2, d3, g1, g2⟩ := zit_one q2
  have g1 : (if T.1 j1 = 60 ∨ T.1 j1 = 62 ∨ T.1 j1 = 61 then (Sum.inl ([(13, 0, 0, 0), (23, zsgn (T.1 j1), 0, 0)], j1 + 1, d2) : zCf) else .inr 1) = .inl (κ2, i2, d3) := g1
  by_cases c : T.1 j1 = 60 ∨ T.1 j1 = 62 ∨ T.1 j1 = 61
  case neg =>
    rw [if_neg c] at g1
    cases g1
  rw [if_pos c] at g1
  injection g1 with g1
  injection g1 with e1 e2
  injection e2 with e2 e3
  subst e1 e2 e3
  obtain ⟨m3, m4, j2, d4, r0, r1, r2⟩ := zit_cut (κ := [(13, 0, 0, 0)]) (κ2 := [(23, zsgn (T.1 j1), 0, 0)]) n2 _ _ _ _ g2
  have s2 := (zsa_run r1 (by simp [zsaP])).2.2.2.2.1
  have e := zit_f r2 rfl
  subst e
  have c1 : zic (zemi d4 (zsgn (T.1 j1)) 0 0) = zic d4 + 1 := za_zic_emi
  have c2 : zitf (zemi d4 (zsgn (T.1 j1)) 0 0) = zup (zitf d4) (zic d4) (zsgn (T.1 j1), 0, 0) := za_zitf_emi
  rw [c1, c2, Nat.add_sub_cancel, zup_self]
  refine ⟨by omega, ?_⟩
  show 6 ≤ zsgn (T.1 j1) ∧ zsgn (T.1 j1) ≤ 8
  unfold zsgn
  by_cases c3 : T.1 j1 = 60
  · rw [if_pos c3]; decide
  · rw [if_neg c3]
    by_cases c4 : T.1 j1 = 62
    · rw [if_pos c4]; decide
    · rw [if_neg c4]; decide
/-- a block of a line -/
theorem zS8.blk {T : zTS} {n k : Nat} (h8 : ∀ j, j ≤ n → zS8 T j) (hk : k ≤ n) {a b i i' : Nat} {d d' : zDat} {L A : Nat} (h : zit T k (.inl ([(7, a, b, 0)], i, d)) = .inl ([], i', d')) (hL : zlc d = L) (hA : zac d = A) : ∃ e, zBk L A b e d' ∧ zOd L A d d' ∧ zpa d' L = A := by
  subst hL hA
  obtain ⟨e, h1, h2, h3, -⟩ := zS7.of h8 k hk a b i i' d d' h
  exact ⟨e, h1, h2, h3⟩
theorem zS8.upto {T : zTS} : ∀ n k : Nat, k ≤ n → zS8 T k
  | 0, k, hk => fun a b i i' d d' h => by
    exfalso
    rw [show k = 0 by omega] at h
    have h : (Sum.inl ([(8, a, b, 0)], i, d) : zCf) = .inl ([], i', d') := h
    injection h with h
    injection h with h _
    cases h
  | n + 1, k, hk => fun a b i i' d d' h => by
    have ih : ∀ j, j ≤ n → zS8 T j := fun j hj => zS8.upto n j hj
    obtain ⟨n1, hn1, κ1, i1, d1, h1, h2⟩ := zit_one h
    have h1 : (if zlk (T.1 i) = -1 then (Sum.inr 1 : zCf) else if zlc d < 60 then
      (if T.1 i = 3 then .inl ([(6, 61, 0, 0), (13, 0, 0, 0), (24, i, zlc d, 0)], i + 1, zaddl d (zlk (T.1 i)) i a b)
       else if T.1 i = 8 then .inl ([(11, 0, 0, 0), (25, a, zlc d, 0)], i + 1, zaddl d (zlk (T.1 i)) i a b)
       else if T.1 i = 10 then .inl ([(11, 0, 0, 0), (26, a, zlc d, zac d + 1)], i + 1, zaddl d (zlk (T.1 i)) i a b)
       else .inl ([(13, 0, 0, 0), (24, 0, zlc d, (zlk (T.1 i)).toNat)], i + 1, zaddl d (zlk (T.1 i)) i a b)) else .inr 3) = .inl (κ1, i1, d1) := h1
    by_cases t0 : zlk (T.1 i) = -1
    · rw [if_pos t0] at h1
      cases h1
    rw [if_neg t0] at h1
    by_cases t1 : zlc d < 60
    case neg =>
      rw [if_neg t1] at h1
      cases h1
    rw [if_pos t1] at h1
    by_cases t3 : T.1 i = 3
    · rw [if_pos t3, t3] at h1
      injection h1 with h1
      injection h1 with e1 e2
      injection e2 with e2 e3
      subst e1 e2 e3
      obtain ⟨m1, m2, j1, c1, q0, q1, q2⟩ := zit_cut (κ := [(6, 61, 0, 0), (13, 0, 0, 0)]) (κ2 := [(24, i, zlc d, 0)]) n1 _ _ _ _ h2
      have hs := zsa_run q1 (by simp [zsaP])
      have e := zit_f q2 rfl
      subst e
      exact zline.s (c := 0) hs (Or.inl ⟨by decide, rfl, rfl⟩)
    rw [if_neg t3] at h1
    by_cases t8 : T.1 i = 8
    · rw [if_pos t8, t8] at h1
      injection h1 with h1
      injection h1 with e1 e2
      injection e2 with e2 e3
      subst e1 e2 e3
      obtain ⟨m1, m2, j1, c1, q0, q1, q2⟩ := zit_cut (κ := [(11, 0, 0, 0)]) (κ2 := [(25, a, zlc d, 0)]) n1 _ _ _ _ h2
      have hs := zsa_run q1 (by simp [zsaP])
      have hs : zsaR (zaddl d 3 i a b) c1 := hs
      have ht := zit_11 q1
      rw [za_zic_addl] at ht
      have hc : zlc c1 = zlc d + 1 := hs.1.trans za_zlc_addl
      obtain ⟨n2, hn2, κ2, i2, d2, g1, g2⟩ := zit_one q2
      have g1 : (Sum.inl ([(7, a + 1, zlc d + 1, 0), (29, zlc d, zlc c1, 0), (10, a, zlc d, zac c1)], j1, zende c1 (zlc d) (13, 0, zlc d)) : zCf) = .inl (κ2, i2, d2) := g1
      injection g1 with g1
      injection g1 with e1 e2
      injection e2 with e2 e3
      subst e1 e2 e3
      obtain ⟨m3, m4, j2, d4, r0, r1, r2⟩ := zit_cut (κ := [(7, a + 1, zlc d + 1, 0)]) (κ2 := [(29, zlc d, zlc c1, 0), (10, a, zlc d, zac c1)]) n2 _ _ _ _ g2
      obtain ⟨e4, h4, o4, p4⟩ := zS8.blk ih (by omega) r1 (za_zlc_ende.trans hc) zac_ende
      obtain ⟨m5, m6, j3, d5, s0, s1, s2⟩ := zit_cut (κ := [(29, zlc d, zlc c1, 0)]) (κ2 := [(10, a, zlc d, zac c1)]) m4 _ _ _ _ r2
      have e := zit_f s1 rfl
      subst e
      rw [hc] at s2
      obtain ⟨n3, hn3, κ3, i3, d6, f1, f2⟩ := zit_one s2
      have f1 : (if T.1 j3 = 9 then (Sum.inl ([(7, a + 1, zlc d + 1, 0), (28, zac (zbody d4 (zlc d) (zlc d + 1)), zlc d, zlc (zbody d4 (zlc d) (zlc d + 1)))], j3 + 1, zgo (zbody d4 (zlc d) (zlc d + 1)) (zac c1) (15, 0, zlc d)) : zCf) else .inl ([], j3, ztgt (zbody d4 (zlc d) (zlc d + 1)) (zac c1))) = .inl (κ3, i3, d6) := f1
      by_cases t9 : T.1 j3 = 9
      · rw [if_pos t9, zac_body, za_zlc_body] at f1
        injection f1 with f1
        injection f1 with e1 e2
        injection e2 with e2 e3
        subst e1 e2 e3
        obtain ⟨m7, m8, j4, d7, u0, u1, u2⟩ := zit_cut (κ := [(7, a + 1, zlc d + 1, 0)]) (κ2 := [(28, zac d4, zlc d, zlc d4)]) n3 _ _ _ _ f2
        obtain ⟨e7, h7, o7, p7⟩ := zS8.blk ih (by omega) u1 (by rw [za_zlc_go, za_zlc_body]) (by rw [zac_go, zac_body])
        have e := zit_f u2 rfl
        subst e
        exact zline.e hs ht h4 o4 p4 h7 o7 p7
      · rw [if_neg t9] at f1
        injection f1 with f1
        injection f1 with e1 e2
        injection e2 with e2 e3
        subst e1 e3
        rw [(zit_nil f2).2]
        exact zline.i hs ht h4 o4 p4
    rw [if_neg t8] at h1
    by_cases t10 : T.1 i = 10
    · rw [if_pos t10, t10] at h1
      injection h1 with h1
      injection h1 with e1 e2
      injection e2 with e2 e3
      subst e1 e2 e3
      obtain ⟨m1, m2, j1, c1, q0, q1, q2⟩ := zit_cut (κ := [(11, 0, 0, 0)]) (κ2 := [(26, a, zlc d, zac d + 1)]) n1 _ _ _ _ h2
      have hs := zsa_run q1 (by simp [zsaP])
      have hs : zsaR (zaddl d 4 i a b) c1 := hs
      have ht := zit_11 q1
      rw [za_zic_addl] at ht
      have hc : zlc c1 = zlc d + 1 := hs.1.trans za_zlc_addl
      obtain ⟨n2, hn2, κ2, i2, d2, g1, g2⟩ := zit_one q2
      have g1 : (Sum.inl ([(7, a + 1, zlc d + 1, 0), (29, zlc d, zlc c1, 0), (27, zlc d, zac c1, zac d + 1)], j1, zende c1 (zlc d) (13, 0, zlc d)) : zCf) = .inl (κ2, i2, d2) := g1
      injection g1 with g1
      injection g1 with e1 e2
      injection e2 with e2 e3
      subst e1 e2 e3
      obtain ⟨m3, m4, j2, d4, r0, r1, r2⟩ := zit_cut (κ := [(7, a + 1, zlc d + 1, 0)]) (κ2 := [(29, zlc d, zlc c1, 0), (27, zlc d, zac c1, zac d + 1)]) n2 _ _ _ _ g2
      obtain ⟨e4, h4, o4, p4⟩ := zS8.blk ih (by omega) r1 (za_zlc_ende.trans hc) zac_ende
      obtain ⟨m5, m6, j3, d5, s0, s1, s2⟩ := zit_cut (κ := [(29, zlc d, zlc c1, 0)]) (κ2 := [(27, zlc d, zac c1, zac d + 1)]) m4 _ _ _ _ r2
      have e := zit_f s1 rfl
      subst e
      rw [hc] at s2
      have e := zit_f s2 rfl
      subst e
      exact zline.w hs ht h4 o4 p4
    · rw [if_neg t10] at h1
      injection h1 with h1
      injection h1 with e1 e2
      injection e2 with e2 e3
      subst e1 e2 e3
      obtain ⟨m1, m2, j1, c1, q0, q1, q2⟩ := zit_cut (κ := [(13, 0, 0, 0)]) (κ2 := [(24, 0, zlc d, (zlk (T.1 i)).toNat)]) n1 _ _ _ _ h2
      have hs := zsa_run q1 (by simp [zsaP])
      have e := zit_f q2 rfl
      subst e
      refine zline.s (u := 0) hs (Or.inr ?_)
      have hz : zlk (T.1 i) = 1 ∨ zlk (T.1 i) = 2 := by
        unfold zlk at t0 ⊢
        rw [if_neg t3] at t0 ⊢
        by_cases t6 : T.1 i = 6
        · rw [if_pos t6]; exact Or.inl rfl
        · rw [if_neg t6] at t0 ⊢
          by_cases t7 : T.1 i = 7
          · rw [if_pos t7]; exact Or.inr rfl
          · rw [if_neg t7, if_neg t8, if_neg t10] at t0
            exact absurd rfl t0
      rcases hz with hz | hz
      · rw [hz]
        exact Or.inl ⟨rfl, rfl, rfl⟩
      · rw [hz]
        exact Or.inr ⟨rfl, rfl, rfl⟩
/-- a function's head: nothing is put out -/
def zhxR (d d' : zDat) : Prop := zac d' = zac d ∧ zaf d' = zaf d ∧ ztg d' = ztg d ∧ zic d' = zic d ∧ zitf d' = zitf d ∧ zrw d' = zrw d ∧ zlc d' = zlc d ∧ zln d' = zln d ∧ zff d' = zff d ∧ zfa d' = zfa d ∧ zfc d' = zfc d
theorem zhx_st {T : zTS} (y a b m i : Nat) (d : zDat) (κ' : List zSy) (i' : Nat) (d' : zDat) (hP : 2 ≤ y ∧ y ≤ 6) (h : zst T y a b m [] i d = .inl (κ', i', d')) : (∀ z ∈ κ', (fun y : Nat => 2 ≤ y ∧ y ≤ 6) z.1) ∧ zhxR d d' := by
  unfold zst at h
  split at h
  all_goals (try split at h)
  all_goals (try split at h)
  all_goals (try split at h)
  all_goals (try split at h)
  all_goals (try split at h)
  all_goals (first | (exfalso; omega) | (cases h; done) | (injection h with h; injection h with h1 h2; injection h2 with h2 h3; subst h1; subst h2; subst h3; exact ⟨by simp <;> omega, by simp [zhxR, zac_emi, zac_ende, zac_next, zac_body, zac_othr, zac_tgt, zac_go, zac_addn, zac_add0, zac_addp, zac_addl, zac_addc, zac_addf, zac_addb, za_zaf_emi, za_zaf_ende, za_zaf_next, za_zaf_body, za_zaf_othr, za_zaf_tgt, za_zaf_go, za_zaf_addn, za_zaf_add0, za_zaf_addp, za_zaf_addl, za_zaf_addc, za_zaf_addf, za_zaf_addb, za_ztg_emi, za_ztg_ende, za_ztg_next, za_ztg_body, za_ztg_othr, za_ztg_tgt, za_ztg_go, za_ztg_addn, za_ztg_add0, za_ztg_addp, za_ztg_addl, za_ztg_addc, za_ztg_addf, za_ztg_addb, za_zic_emi, za_zic_ende, za_zic_next, za_zic_body, za_zic_othr, za_zic_tgt, za_zic_go, za_zic_addn, za_zic_add0, za_zic_addp, za_zic_addl, za_zic_addc, za_zic_addf, za_zic_addb, za_zitf_emi, za_zitf_ende, za_zitf_next, za_zitf_body, za_zitf_othr, za_zitf_tgt, za_zitf_go, za_zitf_addn, za_zitf_add0, za_zitf_addp, za_zitf_addl, za_zitf_addc, za_zitf_addf, za_zitf_addb, za_zrw_emi, za_zrw_ende, za_zrw_next, za_zrw_body, za_zrw_othr, za_zrw_tgt, za_zrw_go, za_zrw_addn, za_zrw_add0, za_zrw_addp, za_zrw_addl, za_zrw_addc, za_zrw_addf, za_zrw_addb, za_zlc_emi, za_zlc_ende, za_zlc_next, za_zlc_body, za_zlc_othr, za_zlc_tgt, za_zlc_go, za_zlc_addn, za_zlc_add0, za_zlc_addp, za_zlc_addl, za_zlc_addc, za_zlc_addf, za_zlc_addb, za_zln_emi, za_zln_ende, za_zln_next, za_zln_body, za_zln_othr, za_zln_tgt, za_zln_go, za_zln_addn, za_zln_add0, za_zln_addp, za_zln_addl, za_zln_addc, za_zln_addf, za_zln_addb, za_zff_emi, za_zff_ende, za_zff_next, za_zff_body, za_zff_othr, za_zff_tgt, za_zff_go, za_zff_addn, za_zff_add0, za_zff_addp, za_zff_addl, za_zff_addc, za_zff_addf, za_zff_addb, za_zfa_emi, za_zfa_ende, za_zfa_next, za_zfa_body, za_zfa_othr, za_zfa_tgt, za_zfa_go, za_zfa_addn, za_zfa_add0, za_zfa_addp, za_zfa_addl, za_zfa_addc, za_zfa_addf, za_zfa_addb, za_zfc_emi, za_zfc_ende, za_zfc_next, za_zfc_body, za_zfc_othr, za_zfc_tgt, za_zfc_go, za_zfc_addn, za_zfc_add0, za_zfc_addp, za_zfc_addl, za_zfc_addc, za_zfc_addf, za_zfc_addb]⟩) | (injection h with h; injection h with h1 h2; injection h2 with h2 h3; subst h1; subst h2; subst h3; exact ⟨by simp, by simp [zhxR, zac_emi, zac_ende, zac_next, zac_body, zac_othr, zac_tgt, zac_go, zac_addn, zac_add0, zac_addp, zac_addl, zac_addc, zac_addf, zac_addb, za_zaf_emi, za_zaf_ende, za_zaf_next, za_zaf_body, za_zaf_othr, za_zaf_tgt, za_zaf_go, za_zaf_addn, za_zaf_add0, za_zaf_addp, za_zaf_addl, za_zaf_addc, za_zaf_addf, za_zaf_addb, za_ztg_emi, za_ztg_ende, za_ztg_next, za_ztg_body, za_ztg_othr, za_ztg_tgt, za_ztg_go, za_ztg_addn, za_ztg_add0, za_ztg_addp, za_ztg_addl, za_ztg_addc, za_ztg_addf, za_ztg_addb, za_zic_emi, za_zic_ende, za_zic_next, za_zic_body, za_zic_othr, za_zic_tgt, za_zic_go, za_zic_addn, za_zic_add0, za_zic_addp, za_zic_addl, za_zic_addc, za_zic_addf, za_zic_addb, za_zitf_emi, za_zitf_ende, za_zitf_next, za_zitf_body, za_zitf_othr, za_zitf_tgt, za_zitf_go, za_zitf_addn, za_zitf_add0, za_zitf_addp, za_zitf_addl, za_zitf_addc, za_zitf_addf, za_zitf_addb, za_zrw_emi, za_zrw_ende, za_zrw_next, za_zrw_body, za_zrw_othr, za_zrw_tgt, za_zrw_go, za_zrw_addn, za_zrw_add0, za_zrw_addp, za_zrw_addl, za_zrw_addc, za_zrw_addf, za_zrw_addb, za_zlc_emi, za_zlc_ende, za_zlc_next, za_zlc_body, za_zlc_othr, za_zlc_tgt, za_zlc_go, za_zlc_addn, za_zlc_add0, za_zlc_addp, za_zlc_addl, za_zlc_addc, za_zlc_addf, za_zlc_addb, za_zln_emi, za_zln_ende, za_zln_next, za_zln_body, za_zln_othr, za_zln_tgt, za_zln_go, za_zln_addn, za_zln_add0, za_zln_addp, za_zln_addl, za_zln_addc, za_zln_addf, za_zln_addb, za_zff_emi, za_zff_ende, za_zff_next, za_zff_body, za_zff_othr, za_zff_tgt, za_zff_go, za_zff_addn, za_zff_add0, za_zff_addp, za_zff_addl, za_zff_addc, za_zff_addf, za_zff_addb, za_zfa_emi, za_zfa_ende, za_zfa_next, za_zfa_body, za_zfa_othr, za_zfa_tgt, za_zfa_go, za_zfa_addn, za_zfa_add0, za_zfa_addp, za_zfa_addl, za_zfa_addc, za_zfa_addf, za_zfa_addb, za_zfc_emi, za_zfc_ende, za_zfc_next, za_zfc_body, za_zfc_othr, za_zfc_tgt, za_zfc_go, za_zfc_addn, za_zfc_add0, za_zfc_addp, za_zfc_addl, za_zfc_addc, za_zfc_addf, za_zfc_addb]⟩))
theorem zhx_run {T : zTS} {n : Nat} {κ : List zSy} {i i' : Nat} {d d' : zDat} (h : zit T n (.inl (κ, i, d)) = .inl ([], i', d')) (hP : ∀ z ∈ κ, (fun y : Nat => 2 ≤ y ∧ y ≤ 6) z.1) : zhxR d d' := zit_cl (P := fun y : Nat => 2 ≤ y ∧ y ≤ 6) (R := zhxR) (fun _ => ⟨rfl, rfl, rfl, rfl, rfl, rfl, rfl, rfl, rfl, rfl, rfl⟩) (fun _ _ _ h g => ⟨g.1.trans h.1, g.2.1.trans h.2.1, g.2.2.1.trans h.2.2.1, g.2.2.2.1.trans h.2.2.2.1, g.2.2.2.2.1.trans h.2.2.2.2.1, g.2.2.2.2.2.1.trans h.2.2.2.2.2.1, g.2.2.2.2.2.2.1.trans h.2.2.2.2.2.2.1, g.2.2.2.2.2.2.2.1.trans h.2.2.2.2.2.2.2.1, g.2.2.2.2.2.2.2.2.1.trans h.2.2.2.2.2.2.2.2.1, g.2.2.2.2.2.2.2.2.2.1.trans h.2.2.2.2.2.2.2.2.2.1, g.2.2.2.2.2.2.2.2.2.2.trans h.2.2.2.2.2.2.2.2.2.2⟩) zhx_st n _ _ _ _ _ _ hP h
/-- a block: no function begins or ends -/
def zfyR (d d' : zDat) : Prop := zfa d' = zfa d ∧ zfc d' = zfc d ∧ zff d' = zff d
theorem zfy_st {T : zTS} (y a b m i : Nat) (d : zDat) (κ' : List zSy) (i' : Nat) (d' : zDat) (hP : y ≠ 0 ∧ y ≠ 1 ∧ y ≠ 22) (h : zst T y a b m [] i d = .inl (κ', i', d')) : (∀ z ∈ κ', (fun y : Nat => y ≠ 0 ∧ y ≠ 1 ∧ y ≠ 22) z.1) ∧ zfyR d d' := by
  unfold zst at h
  split at h
  all_goals (try split at h)
  all_goals (try split at h)
  all_goals (try split at h)
  all_goals (try split at h)
  all_goals (try split at h)
  all_goals (first | (exfalso; omega) | (cases h; done) | (injection h with h; injection h with h1 h2; injection h2 with h2 h3; subst h1; subst h2; subst h3; exact ⟨by simp <;> omega, by simp [zfyR, za_zfa_emi, za_zfa_ende, za_zfa_next, za_zfa_body, za_zfa_othr, za_zfa_tgt, za_zfa_go, za_zfa_addn, za_zfa_add0, za_zfa_addp, za_zfa_addl, za_zfa_addc, za_zfa_addf, za_zfa_addb, za_zfc_emi, za_zfc_ende, za_zfc_next, za_zfc_body, za_zfc_othr, za_zfc_tgt, za_zfc_go, za_zfc_addn, za_zfc_add0, za_zfc_addp, za_zfc_addl, za_zfc_addc, za_zfc_addf, za_zfc_addb, za_zff_emi, za_zff_ende, za_zff_next, za_zff_body, za_zff_othr, za_zff_tgt, za_zff_go, za_zff_addn, za_zff_add0, za_zff_addp, za_zff_addl, za_zff_addc, za_zff_addf, za_zff_addb]⟩) | (injection h with h; injection h with h1 h2; injection h2 with h2 h3; subst h1; subst h2; subst h3; exact ⟨by simp, by simp [zfyR, za_zfa_emi, za_zfa_ende, za_zfa_next, za_zfa_body, za_zfa_othr, za_zfa_tgt, za_zfa_go, za_zfa_addn, za_zfa_add0, za_zfa_addp, za_zfa_addl, za_zfa_addc, za_zfa_addf, za_zfa_addb, za_zfc_emi, za_zfc_ende, za_zfc_next, za_zfc_body, za_zfc_othr, za_zfc_tgt, za_zfc_go, za_zfc_addn, za_zfc_add0, za_zfc_addp, za_zfc_addl, za_zfc_addc, za_zfc_addf, za_zfc_addb, za_zff_emi, za_zff_ende, za_zff_next, za_zff_body, za_zff_othr, za_zff_tgt, za_zff_go, za_zff_addn, za_zff_add0, za_zff_addp, za_zff_addl, za_zff_addc, za_zff_addf, za_zff_addb]⟩))
theorem zfy_run {T : zTS} {n : Nat} {κ : List zSy} {i i' : Nat} {d d' : zDat} (h : zit T n (.inl (κ, i, d)) = .inl ([], i', d')) (hP : ∀ z ∈ κ, (fun y : Nat => y ≠ 0 ∧ y ≠ 1 ∧ y ≠ 22) z.1) : zfyR d d' := zit_cl (P := fun y : Nat => y ≠ 0 ∧ y ≠ 1 ∧ y ≠ 22) (R := zfyR) (fun _ => ⟨rfl, rfl, rfl⟩) (fun _ _ _ h g => ⟨g.1.trans h.1, g.2.1.trans h.2.1, g.2.2.trans h.2.2⟩) zfy_st n _ _ _ _ _ _ hP h
/-- of a text that was read: every line's acts, where it leads, each function's first act -/
def zWh (d : zDat) : Prop := (∀ x, x < zlc d → zOw 0 d x) ∧ (∀ x, x < zlc d → zNx 0 0 d x ∨ (znl d x = 0 ∧ zro d x = 0 ∧ zqe d x < zac d ∧ zaf d (zqe d x) = (16, 0, 0))) ∧ ∀ f, f < zfc d → (zff d f).2 < zlc d ∧ zfa d f = zpa d (zff d f).2 ∧ zro d (zff d f).2 = 0
/-- a function more -/
theorem zWh.fun {T : zTS} {n i i' : Nat} {d d' : zDat} (hw : zWh d) (h : zit T n (.inl ([(1, 0, 0, 0)], i, d)) = .inl ([], i', d')) : zWh d' := by
  obtain ⟨n1, hn1, κ1, i1, d1, h1, h2⟩ := zit_one h
  have h1 : (if T.1 i = 5 then (if zfc d < 10 then (Sum.inl ([(2, 0, 0, 0), (6, 40, 0, 0), (3, 0, 0, 0), (6, 41, 0, 0), (7, 1, 0, 0), (22, 0, 0, 0)], i + 1, zaddb d i) : zCf) else .inr 3) else .inr 1) = .inl (κ1, i1, d1) := h1
  by_cases t5 : T.1 i = 5
  case neg =>
    rw [if_neg t5] at h1
    cases h1
  rw [if_pos t5] at h1
  by_cases t10 : zfc d < 10
  case neg =>
    rw [if_neg t10] at h1
    cases h1
  rw [if_pos t10] at h1
  injection h1 with h1
  injection h1 with e1 e2
  injection e2 with e2 e3
  subst e1 e2 e3
  obtain ⟨m1, m2, j1, d2, q0, q1, q2⟩ := zit_cut (κ := [(2, 0, 0, 0), (6, 40, 0, 0), (3, 0, 0, 0), (6, 41, 0, 0)]) (κ2 := [(7, 1, 0, 0), (22, 0, 0, 0)]) n1 _ _ _ _ h2
  obtain ⟨a1, a2, a3, a4, a5, a6, a7, a8, a9, a10, a11⟩ := zhx_run q1 (by simp)
  obtain ⟨m3, m4, j2, d4, r0, r1, r2⟩ := zit_cut (κ := [(7, 1, 0, 0)]) (κ2 := [(22, 0, 0, 0)]) m2 _ _ _ _ q2
  obtain ⟨b1, b2, b3⟩ := zfy_run r1 (by simp)
  obtain ⟨e, h4, o4, p4, p4'⟩ := zS7.of (n := m3) (fun j _ => zS8.upto m3 j (by omega)) m3 (Nat.le_refl _) 1 0 _ _ _ _ r1
  have e9 := zit_f r2 rfl
  subst e9
  rw [zac_addb] at a1
  rw [za_zaf_addb] at a2
  rw [za_ztg_addb] at a3
  rw [za_zic_addb] at a4
  rw [za_zitf_addb] at a5
  rw [za_zrw_addb] at a6
  rw [za_zlc_addb] at a7
  rw [za_zln_addb] at a8
  rw [za_zff_addb] at a9
  rw [za_zfa_addb] at a10
  rw [za_zfc_addb] at a11
  rw [a7, a1] at h4 o4
  rw [a7, a1] at p4
  rw [a7] at p4'
  obtain ⟨⟨o1, o2, o3⟩, o5, o6, o7⟩ := o4
  have c1 : zlc (zaddf d4 j2) = zlc d4 := za_zlc_addf
  have c2 : zac (zaddf d4 j2) = zac d4 + 1 := zac_addf
  have c3 : zic (zaddf d4 j2) = zic d4 := za_zic_addf
  have c4 : zaf (zaddf d4 j2) = zup (zaf d4) (zac d4) (16, 0, 0) := za_zaf_addf
  have c5 : ztg (zaddf d4 j2) = zup (ztg d4) (zac d4) 0 := za_ztg_addf
  have c6 : zitf (zaddf d4 j2) = zitf d4 := za_zitf_addf
  have c7 : zrw (zaddf d4 j2) = zrw d4 := za_zrw_addf
  have c8 : zln (zaddf d4 j2) = zln d4 := za_zln_addf
  have c9 : zff (zaddf d4 j2) = zup (zff d) (zfc d) (i, zlc d) := za_zff_addf.trans (b3.trans a9)
  have c10 : zfa (zaddf d4 j2) = zup (zfa d) (zfc d) (zac d) := za_zfa_addf.trans (b1.trans a10)
  have c11 : zfc (zaddf d4 j2) = zfc d + 1 := by rw [za_zfc_addf, b2, a11]
  generalize zaddf d4 j2 = D at c1 c2 c3 c4 c5 c6 c7 c8 c9 c10 c11 ⊢
  rw [a6, a8] at o5
  rw [a2, a3] at o6
  rw [a5] at o7
  rw [a4] at o3 o7
  rw [a7] at o1
  rw [a1] at o2
  have rw1 : ∀ x, x < zlc d → zrw D x = zrw d x := fun x hx => by rw [c7, (o5 x hx).1]
  have ag0 : zAg 0 (zlc d) 0 (zac d) (zic d) d D := ⟨fun x _ hx => by
    unfold zpa zfr ztn zro zbo zot
    rw [rw1 x hx, c8, (o5 x hx).2]
    exact ⟨rfl, rfl, rfl, rfl, rfl, rfl, rfl⟩, fun p _ hp => by
    rw [c4, c5, zup_ne _ _ (by omega), zup_ne _ _ (by omega)]
    exact o6 p hp, fun k hk => by rw [c6]; exact o7 k hk⟩
  have ag4 : zAg (zlc d) (zlc d4) (zac d) (zac d4) (zic d4) d4 D := ⟨fun x _ _ => by
    unfold zpa zfr ztn zro zbo zot
    rw [c7, c8]
    exact ⟨rfl, rfl, rfl, rfl, rfl, rfl, rfl⟩, fun p _ hp => by
    rw [c4, c5, zup_ne _ _ (by omega), zup_ne _ _ (by omega)]
    exact ⟨rfl, rfl⟩, fun k _ => by rw [c6]⟩
  obtain ⟨w1, w2, w3⟩ := hw
  obtain ⟨k1, k2, k3, k4, k5, k6, k7⟩ := h4.in ag4 (by omega) (by omega) (by omega) (fun x _ _ => by unfold znl; rw [c7])
  have own0 : ∀ x, x < zlc d → zOw 0 D x := fun x hx => (w1 x hx).ag ag0 (by omega) (by omega) (by omega) (Nat.zero_le _) hx
  refine ⟨fun x hx => ?_, fun x hx => ?_, fun f hf => ?_⟩
  · by_cases c : x < zlc d
    · exact own0 x c
    · exact (k1 x (by omega) (by omega)).w (Nat.zero_le _)
  · by_cases c : x < zlc d
    · have hn : znl D x = znl d x := by unfold znl; rw [rw1 x c]
      rcases w2 x c with g | ⟨g1, g2, g3, g4⟩
      · exact Or.inl (g.ag ag0 (fun y _ hy => w1 y hy) hn (by omega) (by omega) (Nat.zero_le _) c)
      · refine Or.inr ⟨hn.trans g1, ?_, ?_, ?_⟩
        · exact (ag0.1 x (Nat.zero_le _) c).2.2.2.1.trans g2
        · rw [(w1 x c).qe ag0 (Nat.zero_le _) c]; omega
        · rw [(w1 x c).qe ag0 (Nat.zero_le _) c, (ag0.2.1 _ (Nat.zero_le _) g3).1]; exact g4
    · by_cases c' : x = e
      · subst c'
        exact Or.inr ⟨k4, k5, by omega, by rw [k3, c4, zup_self]⟩
      · exact Or.inl ((k2 x (by omega) (by omega) c').w (Nat.zero_le _) (Nat.zero_le _))
  · rw [c9, c10]
    by_cases c : f = zfc d
    · subst c
      rw [zup_self, zup_self]
      refine ⟨by show zlc d < zlc D; omega, ?_, ?_⟩
      · show zac d = zpa D (zlc d)
        unfold zpa at p4 ⊢
        rw [c7]
        exact p4.symm
      · show zro D (zlc d) = 0
        unfold zro at p4' ⊢
        rw [c7]
        exact p4'
    · rw [zup_ne _ _ c, zup_ne _ _ c]
      obtain ⟨g1, g2, g3⟩ := w3 f (by omega)
      exact ⟨by omega, by rw [(ag0.1 _ (Nat.zero_le _) g1).1]; exact g2, (ag0.1 _ (Nat.zero_le _) g1).2.2.2.1.trans g3⟩
theorem zWh.all {T : zTS} : ∀ (n i i' : Nat) (d d' : zDat), zWh d → zit T n (.inl ([(0, 0, 0, 0)], i, d)) = .inl ([], i', d') → zWh d' := by
  intro n
  induction n using Nat.strongRecOn with
  | _ n ih =>
    intro i i' d d' hw h
    obtain ⟨n1, hn1, κ1, i1, d1, h1, h2⟩ := zit_one h
    have h1 : (if T.1 i = 0 then (Sum.inl ([], i, d) : zCf) else .inl ([(1, 0, 0, 0), (0, 0, 0, 0)], i, d)) = .inl (κ1, i1, d1) := h1
    by_cases t0 : T.1 i = 0
    · rw [if_pos t0] at h1
      injection h1 with h1
      injection h1 with e1 e2
      injection e2 with e2 e3
      subst e1 e3
      rw [(zit_nil h2).2]
      exact hw
    · rw [if_neg t0] at h1
      injection h1 with h1
      injection h1 with e1 e2
      injection e2 with e2 e3
      subst e1 e2 e3
      obtain ⟨m1, m2, j1, d2, q0, q1, q2⟩ := zit_cut (κ := [(1, 0, 0, 0)]) (κ2 := [(0, 0, 0, 0)]) n1 _ _ _ _ h2
      exact ih m2 (by omega) _ _ _ _ (hw.fun q1) q2
theorem zWh.z : zWh zd0 := ⟨fun x h => absurd h (Nat.not_lt_zero _), fun x h => absurd h (Nat.not_lt_zero _), fun f h => absurd h (Nat.not_lt_zero _)⟩
/-- a text that was read to its end -/
theorem zWh.of {T : zTS} {i : Nat} {d : zDat} (h : zRe T (.inl ([(1, 0, 0, 0), (0, 0, 0, 0)], 0, zd0)) (.inl ([], i, d))) : zWh d := by
  obtain ⟨n, hn⟩ := h
  obtain ⟨m1, m2, j1, d2, q0, q1, q2⟩ := zit_cut (κ := [(1, 0, 0, 0)]) (κ2 := [(0, 0, 0, 0)]) n _ _ _ _ hn
  exact zWh.all m2 _ _ _ _ (zWh.fun zWh.z q1) q2
