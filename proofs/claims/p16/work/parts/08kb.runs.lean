/-! What runs of the steps leave as it was. -/
def zap (c : zCf) (κ : List zSy) : zCf := match c with
  | .inl (κ', x) => .inl (κ' ++ κ, x)
  | .inr k => .inr k
theorem zst_app {T : zTS} {y a b m : Nat} {κ : List zSy} {i : Nat} {d : zDat} : zst T y a b m κ i d = zap (zst T y a b m [] i d) κ := by
  unfold zst
  split
  all_goals (first | rfl | (repeat' (first | rfl | split)))
theorem zit_cl {T : zTS} {P : Nat → Prop} {R : zDat → zDat → Prop} (hrf : ∀ d, R d d) (htr : ∀ a b c, R a b → R b c → R a c) (hst : ∀ (y a b m i : Nat) (d : zDat) (κ' : List zSy) (i' : Nat) (d' : zDat), P y → zst T y a b m [] i d = .inl (κ', i', d') → (∀ z ∈ κ', P z.1) ∧ R d d') : ∀ (n : Nat) (κ κ' : List zSy) (i i' : Nat) (d d' : zDat), (∀ z ∈ κ, P z.1) → zit T n (.inl (κ, i, d)) = .inl (κ', i', d') → R d d'
  | 0, κ, κ', i, i', d, d', _, h => by
    have h : (Sum.inl (κ, i, d) : zCf) = .inl (κ', i', d') := h
    injection h with h
    injection h with h1 h2
    injection h2 with h2 h3
    subst h3
    exact hrf d
  | n + 1, [], κ', i, i', d, d', hP, h => zit_cl hrf htr hst n [] κ' i i' d d' hP h
  | n + 1, (y, a, b, m) :: κ, κ', i, i', d, d', hP, h => by
    have h : zit T n (zst T y a b m κ i d) = .inl (κ', i', d') := h
    rw [zst_app] at h
    match hq : zst T y a b m [] i d, h with
    | .inr k, h =>
      exfalso
      have e : ∀ n, zit T n (.inr k) = .inr k := fun n => zit_fix rfl n
      have h : zit T n (.inr k) = .inl (κ', i', d') := h
      rw [e] at h
      cases h
    | .inl (κ1, i1, d1), h =>
      obtain ⟨h1, h2⟩ := hst y a b m i d κ1 i1 d1 (hP _ List.mem_cons_self) hq
      have h : zit T n (.inl (κ1 ++ κ, i1, d1)) = .inl (κ', i', d') := h
      refine htr _ _ _ h2 (zit_cl hrf htr hst n _ κ' i1 i' d1 d' (fun z hz => ?_) h)
      rcases List.mem_append.mp hz with hz | hz
      · exact h1 z hz
      · exact hP z (List.mem_cons_of_mem _ hz)
theorem zRc.cl {T : zTS} {P : Nat → Prop} {R : zDat → zDat → Prop} (hrf : ∀ d, R d d) (htr : ∀ a b c, R a b → R b c → R a c) (hst : ∀ (y a b m i : Nat) (d : zDat) (κ' : List zSy) (i' : Nat) (d' : zDat), P y → zst T y a b m [] i d = .inl (κ', i', d') → (∀ z ∈ κ', P z.1) ∧ R d d') {σ σ1 : zSg} {Xs Ys : List zSy} (h : zRc T σ Xs σ1 Ys) (hX : ∀ z ∈ Xs, P z.1) : ∀ j d9, σ1 = .inl (j, d9) → ∃ i d, σ = .inl (i, d) ∧ R d d9 := fun j d9 e => by
  subst e
  obtain ⟨n, hn⟩ := h []
  rw [List.append_nil, List.append_nil] at hn
  match σ, hn with
  | .inr k, hn =>
    exfalso
    have e : zit T n (.inr k) = .inr k := zit_fix rfl n
    have hn : zit T n (.inr k) = .inl (Ys, j, d9) := hn
    rw [e] at hn
    cases hn
  | .inl (i0, d0), hn => exact ⟨i0, d0, rfl, zit_cl hrf htr hst n _ _ _ _ _ _ hX hn⟩

/-- a block, a sum: no function begins or ends -/
def zfxR (d d' : zDat) : Prop := zfa d' = zfa d ∧ zfc d' = zfc d
theorem zfx_st {T : zTS} (y a b m i : Nat) (d : zDat) (κ' : List zSy) (i' : Nat) (d' : zDat) (hP : y ≠ 0 ∧ y ≠ 1 ∧ y ≠ 22) (h : zst T y a b m [] i d = .inl (κ', i', d')) : (∀ z ∈ κ', (fun y : Nat => y ≠ 0 ∧ y ≠ 1 ∧ y ≠ 22) z.1) ∧ zfxR d d' := by
  unfold zst at h
  split at h
  all_goals (try split at h)
  all_goals (try split at h)
  all_goals (try split at h)
  all_goals (try split at h)
  all_goals (try split at h)
  all_goals (first | (exfalso; omega) | (cases h; done) | (injection h with h; injection h with h1 h2; injection h2 with h2 h3; subst h1; subst h2; subst h3; exact ⟨by simp <;> omega, by simp [zfxR, za_zfa_emi, za_zfa_ende, za_zfa_next, za_zfa_body, za_zfa_othr, za_zfa_tgt, za_zfa_go, za_zfa_addn, za_zfa_add0, za_zfa_addp, za_zfa_addl, za_zfa_addc, za_zfa_addf, za_zfa_addb, za_zfc_emi, za_zfc_ende, za_zfc_next, za_zfc_body, za_zfc_othr, za_zfc_tgt, za_zfc_go, za_zfc_addn, za_zfc_add0, za_zfc_addp, za_zfc_addl, za_zfc_addc, za_zfc_addf, za_zfc_addb]⟩) | (injection h with h; injection h with h1 h2; injection h2 with h2 h3; subst h1; subst h2; subst h3; exact ⟨by simp, by simp [zfxR, za_zfa_emi, za_zfa_ende, za_zfa_next, za_zfa_body, za_zfa_othr, za_zfa_tgt, za_zfa_go, za_zfa_addn, za_zfa_add0, za_zfa_addp, za_zfa_addl, za_zfa_addc, za_zfa_addf, za_zfa_addb, za_zfc_emi, za_zfc_ende, za_zfc_next, za_zfc_body, za_zfc_othr, za_zfc_tgt, za_zfc_go, za_zfc_addn, za_zfc_add0, za_zfc_addp, za_zfc_addl, za_zfc_addc, za_zfc_addf, za_zfc_addb]⟩))
theorem zRc.zfx {T : zTS} {σ σ1 : zSg} {Xs Ys : List zSy} (h : zRc T σ Xs σ1 Ys) (hX : ∀ z ∈ Xs, (fun y : Nat => y ≠ 0 ∧ y ≠ 1 ∧ y ≠ 22) z.1) : ∀ j d9, σ1 = .inl (j, d9) → ∃ i d, σ = .inl (i, d) ∧ zfxR d d9 := zRc.cl (P := fun y : Nat => y ≠ 0 ∧ y ≠ 1 ∧ y ≠ 22) (R := zfxR) (fun _ => ⟨rfl, rfl⟩) (fun _ _ _ h g => ⟨g.1.trans h.1, g.2.trans h.2⟩) zfx_st h hX
/-- a function's head: nothing is put out -/
def zhdR (d d' : zDat) : Prop := zac d' = zac d ∧ zaf d' = zaf d ∧ ztg d' = ztg d ∧ zic d' = zic d ∧ zitf d' = zitf d ∧ zrw d' = zrw d ∧ zlc d' = zlc d
theorem zhd_st {T : zTS} (y a b m i : Nat) (d : zDat) (κ' : List zSy) (i' : Nat) (d' : zDat) (hP : 2 ≤ y ∧ y ≤ 6) (h : zst T y a b m [] i d = .inl (κ', i', d')) : (∀ z ∈ κ', (fun y : Nat => 2 ≤ y ∧ y ≤ 6) z.1) ∧ zhdR d d' := by
  unfold zst at h
  split at h
  all_goals (try split at h)
  all_goals (try split at h)
  all_goals (try split at h)
  all_goals (try split at h)
  all_goals (try split at h)
  all_goals (first | (exfalso; omega) | (cases h; done) | (injection h with h; injection h with h1 h2; injection h2 with h2 h3; subst h1; subst h2; subst h3; exact ⟨by simp <;> omega, by simp [zhdR, zac_emi, zac_ende, zac_next, zac_body, zac_othr, zac_tgt, zac_go, zac_addn, zac_add0, zac_addp, zac_addl, zac_addc, zac_addf, zac_addb, za_zaf_emi, za_zaf_ende, za_zaf_next, za_zaf_body, za_zaf_othr, za_zaf_tgt, za_zaf_go, za_zaf_addn, za_zaf_add0, za_zaf_addp, za_zaf_addl, za_zaf_addc, za_zaf_addf, za_zaf_addb, za_ztg_emi, za_ztg_ende, za_ztg_next, za_ztg_body, za_ztg_othr, za_ztg_tgt, za_ztg_go, za_ztg_addn, za_ztg_add0, za_ztg_addp, za_ztg_addl, za_ztg_addc, za_ztg_addf, za_ztg_addb, za_zic_emi, za_zic_ende, za_zic_next, za_zic_body, za_zic_othr, za_zic_tgt, za_zic_go, za_zic_addn, za_zic_add0, za_zic_addp, za_zic_addl, za_zic_addc, za_zic_addf, za_zic_addb, za_zitf_emi, za_zitf_ende, za_zitf_next, za_zitf_body, za_zitf_othr, za_zitf_tgt, za_zitf_go, za_zitf_addn, za_zitf_add0, za_zitf_addp, za_zitf_addl, za_zitf_addc, za_zitf_addf, za_zitf_addb, za_zrw_emi, za_zrw_ende, za_zrw_next, za_zrw_body, za_zrw_othr, za_zrw_tgt, za_zrw_go, za_zrw_addn, za_zrw_add0, za_zrw_addp, za_zrw_addl, za_zrw_addc, za_zrw_addf, za_zrw_addb, za_zlc_emi, za_zlc_ende, za_zlc_next, za_zlc_body, za_zlc_othr, za_zlc_tgt, za_zlc_go, za_zlc_addn, za_zlc_add0, za_zlc_addp, za_zlc_addl, za_zlc_addc, za_zlc_addf, za_zlc_addb]⟩) | (injection h with h; injection h with h1 h2; injection h2 with h2 h3; subst h1; subst h2; subst h3; exact ⟨by simp, by simp [zhdR, zac_emi, zac_ende, zac_next, zac_body, zac_othr, zac_tgt, zac_go, zac_addn, zac_add0, zac_addp, zac_addl, zac_addc, zac_addf, zac_addb, za_zaf_emi, za_zaf_ende, za_zaf_next, za_zaf_body, za_zaf_othr, za_zaf_tgt, za_zaf_go, za_zaf_addn, za_zaf_add0, za_zaf_addp, za_zaf_addl, za_zaf_addc, za_zaf_addf, za_zaf_addb, za_ztg_emi, za_ztg_ende, za_ztg_next, za_ztg_body, za_ztg_othr, za_ztg_tgt, za_ztg_go, za_ztg_addn, za_ztg_add0, za_ztg_addp, za_ztg_addl, za_ztg_addc, za_ztg_addf, za_ztg_addb, za_zic_emi, za_zic_ende, za_zic_next, za_zic_body, za_zic_othr, za_zic_tgt, za_zic_go, za_zic_addn, za_zic_add0, za_zic_addp, za_zic_addl, za_zic_addc, za_zic_addf, za_zic_addb, za_zitf_emi, za_zitf_ende, za_zitf_next, za_zitf_body, za_zitf_othr, za_zitf_tgt, za_zitf_go, za_zitf_addn, za_zitf_add0, za_zitf_addp, za_zitf_addl, za_zitf_addc, za_zitf_addf, za_zitf_addb, za_zrw_emi, za_zrw_ende, za_zrw_next, za_zrw_body, za_zrw_othr, za_zrw_tgt, za_zrw_go, za_zrw_addn, za_zrw_add0, za_zrw_addp, za_zrw_addl, za_zrw_addc, za_zrw_addf, za_zrw_addb, za_zlc_emi, za_zlc_ende, za_zlc_next, za_zlc_body, za_zlc_othr, za_zlc_tgt, za_zlc_go, za_zlc_addn, za_zlc_add0, za_zlc_addp, za_zlc_addl, za_zlc_addc, za_zlc_addf, za_zlc_addb]⟩))
theorem zRc.zhd {T : zTS} {σ σ1 : zSg} {Xs Ys : List zSy} (h : zRc T σ Xs σ1 Ys) (hX : ∀ z ∈ Xs, (fun y : Nat => 2 ≤ y ∧ y ≤ 6) z.1) : ∀ j d9, σ1 = .inl (j, d9) → ∃ i d, σ = .inl (i, d) ∧ zhdR d d9 := zRc.cl (P := fun y : Nat => 2 ≤ y ∧ y ≤ 6) (R := zhdR) (fun _ => ⟨rfl, rfl, rfl, rfl, rfl, rfl, rfl⟩) (fun _ _ _ h g => ⟨g.1.trans h.1, g.2.1.trans h.2.1, g.2.2.1.trans h.2.2.1, g.2.2.2.1.trans h.2.2.2.1, g.2.2.2.2.1.trans h.2.2.2.2.1, g.2.2.2.2.2.1.trans h.2.2.2.2.2.1, g.2.2.2.2.2.2.trans h.2.2.2.2.2.2⟩) zhd_st h hX
/-- a sum: rows of lines stand -/
def zsuR (d d' : zDat) : Prop := zrw d' = zrw d ∧ zlc d' = zlc d
theorem zsu_st {T : zTS} (y a b m i : Nat) (d : zDat) (κ' : List zSy) (i' : Nat) (d' : zDat) (hP : y = 6 ∨ (13 ≤ y ∧ y ≤ 21) ∨ y = 23) (h : zst T y a b m [] i d = .inl (κ', i', d')) : (∀ z ∈ κ', (fun y : Nat => y = 6 ∨ (13 ≤ y ∧ y ≤ 21) ∨ y = 23) z.1) ∧ zsuR d d' := by
  unfold zst at h
  split at h
  all_goals (try split at h)
  all_goals (try split at h)
  all_goals (try split at h)
  all_goals (try split at h)
  all_goals (try split at h)
  all_goals (first | (exfalso; omega) | (cases h; done) | (injection h with h; injection h with h1 h2; injection h2 with h2 h3; subst h1; subst h2; subst h3; exact ⟨by simp <;> omega, by simp [zsuR, za_zrw_emi, za_zrw_ende, za_zrw_next, za_zrw_body, za_zrw_othr, za_zrw_tgt, za_zrw_go, za_zrw_addn, za_zrw_add0, za_zrw_addp, za_zrw_addl, za_zrw_addc, za_zrw_addf, za_zrw_addb, za_zlc_emi, za_zlc_ende, za_zlc_next, za_zlc_body, za_zlc_othr, za_zlc_tgt, za_zlc_go, za_zlc_addn, za_zlc_add0, za_zlc_addp, za_zlc_addl, za_zlc_addc, za_zlc_addf, za_zlc_addb]⟩) | (injection h with h; injection h with h1 h2; injection h2 with h2 h3; subst h1; subst h2; subst h3; exact ⟨by simp, by simp [zsuR, za_zrw_emi, za_zrw_ende, za_zrw_next, za_zrw_body, za_zrw_othr, za_zrw_tgt, za_zrw_go, za_zrw_addn, za_zrw_add0, za_zrw_addp, za_zrw_addl, za_zrw_addc, za_zrw_addf, za_zrw_addb, za_zlc_emi, za_zlc_ende, za_zlc_next, za_zlc_body, za_zlc_othr, za_zlc_tgt, za_zlc_go, za_zlc_addn, za_zlc_add0, za_zlc_addp, za_zlc_addl, za_zlc_addc, za_zlc_addf, za_zlc_addb]⟩))
theorem zRc.zsu {T : zTS} {σ σ1 : zSg} {Xs Ys : List zSy} (h : zRc T σ Xs σ1 Ys) (hX : ∀ z ∈ Xs, (fun y : Nat => y = 6 ∨ (13 ≤ y ∧ y ≤ 21) ∨ y = 23) z.1) : ∀ j d9, σ1 = .inl (j, d9) → ∃ i d, σ = .inl (i, d) ∧ zsuR d d9 := zRc.cl (P := fun y : Nat => y = 6 ∨ (13 ≤ y ∧ y ≤ 21) ∨ y = 23) (R := zsuR) (fun _ => ⟨rfl, rfl⟩) (fun _ _ _ h g => ⟨g.1.trans h.1, g.2.trans h.2⟩) zsu_st h hX
/-- what was read of earlier functions stands -/
def zogR (d d' : zDat) : Prop := zfc d ≤ zfc d' ∧ ∀ f, f < zfc d → zpl d' f = zpl d f ∧ zpc d' f = zpc d f ∧ zfa d' f = zfa d f
theorem zogR.rf {d : zDat} : zogR d d := ⟨Nat.le_refl _, fun _ _ => ⟨rfl, rfl, rfl⟩⟩
theorem zogR.trans {a b c : zDat} (h : zogR a b) (g : zogR b c) : zogR a c := ⟨Nat.le_trans h.1 g.1, fun f hf => by
  obtain ⟨a1, a2, a3⟩ := h.2 f hf
  obtain ⟨b1, b2, b3⟩ := g.2 f (Nat.lt_of_lt_of_le hf h.1)
  exact ⟨b1.trans a1, b2.trans a2, b3.trans a3⟩⟩
theorem zogR.of {d d' : zDat} (h1 : zfc d ≤ zfc d') (h2 : zpl d' = zpl d ∨ ∃ x, zpl d' = zup (zpl d) (zfc d) x) (h3 : zpc d' = zpc d ∨ ∃ x, zpc d' = zup (zpc d) (zfc d) x) (h4 : zfa d' = zfa d ∨ ∃ x, zfa d' = zup (zfa d) (zfc d) x) : zogR d d' := ⟨h1, fun f hf => by
  refine ⟨?_, ?_, ?_⟩
  · rcases h2 with h | ⟨x, h⟩
    · rw [h]
    · rw [h, zup_ne _ _ (by omega)]
  · rcases h3 with h | ⟨x, h⟩
    · rw [h]
    · rw [h, zup_ne _ _ (by omega)]
  · rcases h4 with h | ⟨x, h⟩
    · rw [h]
    · rw [h, zup_ne _ _ (by omega)]⟩
theorem zog_st {T : zTS} (y a b m i : Nat) (d : zDat) (κ' : List zSy) (i' : Nat) (d' : zDat) (_ : True) (h : zst T y a b m [] i d = .inl (κ', i', d')) : (∀ z ∈ κ', (fun _ : Nat => True) z.1) ∧ zogR d d' := by
  unfold zst at h
  split at h
  all_goals (try split at h)
  all_goals (try split at h)
  all_goals (try split at h)
  all_goals (try split at h)
  all_goals (try split at h)
  all_goals (first | (cases h; done) | (injection h with h; injection h with h1 h2; injection h2 with h2 h3; subst h1; subst h2; subst h3; refine ⟨fun _ _ => trivial, zogR.of ?_ ?_ ?_ ?_⟩ <;> simp [za_zfc_emi, za_zfc_ende, za_zfc_next, za_zfc_body, za_zfc_othr, za_zfc_tgt, za_zfc_go, za_zfc_addn, za_zfc_add0, za_zfc_addp, za_zfc_addl, za_zfc_addc, za_zfc_addf, za_zfc_addb, za_zpl_emi, za_zpl_ende, za_zpl_next, za_zpl_body, za_zpl_othr, za_zpl_tgt, za_zpl_go, za_zpl_addn, za_zpl_add0, za_zpl_addp, za_zpl_addl, za_zpl_addc, za_zpl_addf, za_zpl_addb, za_zpc_emi, za_zpc_ende, za_zpc_next, za_zpc_body, za_zpc_othr, za_zpc_tgt, za_zpc_go, za_zpc_addn, za_zpc_add0, za_zpc_addp, za_zpc_addl, za_zpc_addc, za_zpc_addf, za_zpc_addb, za_zfa_emi, za_zfa_ende, za_zfa_next, za_zfa_body, za_zfa_othr, za_zfa_tgt, za_zfa_go, za_zfa_addn, za_zfa_add0, za_zfa_addp, za_zfa_addl, za_zfa_addc, za_zfa_addf, za_zfa_addb] <;> (first | exact Or.inr ⟨_, rfl⟩ | skip)))
theorem zRc.zog {T : zTS} {σ σ1 : zSg} {Xs Ys : List zSy} (h : zRc T σ Xs σ1 Ys) : ∀ j d9, σ1 = .inl (j, d9) → ∃ i d, σ = .inl (i, d) ∧ zogR d d9 := zRc.cl (P := fun _ : Nat => True) (R := zogR) (fun _ => zogR.rf) (fun _ _ _ h g => h.trans g) zog_st h (fun _ _ => trivial)
