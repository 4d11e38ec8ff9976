def zp_8 : Nat → zW3 → Prop := fun h0 u => ∀ a, u.1 a ≠ some 11
set_option maxHeartbeats 4000000 in
set_option maxRecDepth 100000 in
theorem zi_X8 (l : Launch) (D : va_G) (k : Nat → ClassId) (h0 sz : Nat) : Met l yX8_init zwi_8 ({ frames := 1, cells := 4, slots := 2403, locals := 40 }) (va_Pc [.ref h0] (zPi D k 8 [.null, .int 0, .null, .null, .null, .int 0] h0 sz)) (va_Qv (fun u : zW3 => u.1 h0 = some 8 ∧ zp_8 h0 u) (zQi D k (zA0 h0 sz)) (zA0 h0 sz)) 4 2403 (zA0 h0 sz) := by
  refine Met.ofW (cc := cX8_init) (maxL := 1) (ret := none) (by decide) rfl ?_
  intro p e s m args below meth c s₁ B hml hv
  obtain ⟨rfl, hsz, hP, hK, hN0, hZ⟩ := hv
  have hx := B.exec
  have hb := B.bytes
  have hr := B.returns
  have hts : ∀ w ∈ zGI, w.before _ s = true := fun w h9 => atoms_spec (ws := zwi_8) B.pre w (List.mem_cons_of_mem _ h9)
  have hown : s.vm.findClass RX8 = some m.cls := findClass_of_methodNamed B.named
  have hini : meth.name = "<init>" := (name_of_methodNamed B.named B.method).1
  subst hsz
  have Y : zY p m c cX8_init 1 s _ zGI RX8 D k (zA0 h0 s.heap.size) := ⟨⟨hx, hb, hml, hown, hts⟩, hK, hN0, hZ, fun q h9 => Or.inr h9⟩
  have h : zU D k (zA0 h0 s.heap.size) s (fun _ => none) [h0] (fun _ => .inr (8, [.null, .int 0, .null, .null, .null, .int 0])) s.heap [] := ⟨hP, by simp, fun a ha => Or.inl (List.mem_singleton.mp ha), (fun a t9 h9 => by cases h9), va_S.rf⟩
  have hl := lv_entry ([.ref h0]) (n := 1) (Nat.le_of_ble_eq_true rfl)
  rw [lg_entry_eq]
  generalize (lg_sl ([.ref h0]) ++ List.replicate (1 - (lg_sl ([.ref h0])).length) Slot.unset).toArray = ls at hl ⊢
  have hl : lv_has ls 1 [(0, .ref h0)] := hl
  have h0L : h0 ∈ [h0] := List.mem_singleton.mpr rfl
  have hfam : ∀ a ∈ [h0], a = h0 ∨ ∃ t, (fun _ => none : Nat → Option Nat) a = some t ∧ 124 ≤ t ∧ t ≤ 149 := fun a ha => Or.inl (List.mem_singleton.mp ha)
  generalize hΓ9 : (fun _ => none : Nat → Option Nat) = Γ at h hfam
  have h0Γ : Γ h0 = none := by rw [← hΓ9]
  generalize hF9 : (fun _ => .inr (8, [.null, .int 0, .null, .null, .null, .int 0]) : Nat → va_E) = F at h
  have hF : F h0 = .inr (8, [.null, .int 0, .null, .null, .null, .int 0]) := by rw [← hF9]
  have hΓ0 : ∀ a, Γ a = none := fun a => by rw [← hΓ9]
  clear hΓ9 hF9
  generalize [h0] = L at h h0L hfam
  generalize hargs : ([.ref h0] : List Value).toArray = args at *
  refine z_start2 (fun R Q hRf hRl hRc hRs hQ => ?_)
  have hRf : R.frames = 1 := hRf
  have hRl : R.locals = 40 := hRl
  have hRc : R.cells = 4 := hRc
  have hRs : R.slots = 2403 := hRs
  have h11 : ∀ a, Γ a ≠ some 11 := fun a => by rw [hΓ0]; exact fun h9 => by cases h9
  refine lv_aload_n hx hb dX8_init_0 rfl (lv_at hl 0 rfl) ?_
  refine W.objInit hx hb hown (hts _ (zmi (List.mem_of_getElem? (i := 0) rfl))) (hts _ (zmi (List.mem_of_getElem? (i := 1) rfl))) (hts _ (zmi (List.mem_of_getElem? (i := 2) rfl))) rfl (by rw [hml]; exact hl.1) rfl dX8_init_1 (by rw [hRf]; exact (Nat.le_of_ble_eq_true rfl)) (by rw [hRl]; exact (Nat.le_of_ble_eq_true rfl)) ?_
  refine W.eq (g2 := F0 m 4 ls []) rfl ?_
  refine lv_aload_n hx hb dX8_init_4 rfl (lv_at hl 0 rfl) ?_
  refine lv_sipush (v := 600) hx hb dX8_init_5 (by decide) ?_
  refine zj_ar (atype := .byte) (ty := .byte) (κ := 0) (tc := 157) (N' := 600) (a0 := (600, .inl (fun _ => 0))) Y h (zmi (List.mem_of_getElem? (i := 3) rfl)) rfl rfl (fun _ h9 => h9) (fun _ => rfl) (by decide) (by decide) (by decide) (by rw [hRc]; exact (Nat.le_of_ble_eq_true rfl)) (by rw [hRs]; exact (Nat.le_of_ble_eq_true rfl)) (by decide) (fun _ _ _ hF9 => zar_z (κ := 0) (n := 600) (lo := (-128)) (hi := 127) (by decide) rfl (by decide) hF9) dX8_init_8 (fun q1 Γ L F H hq1 hk hL9 h' => ?_)
  have h0Γ := (hk h0 h0L).1.trans h0Γ
  have hF := (hk h0 h0L).2.1.trans hF
  have h0L := (hk h0 h0L).2.2
  have h11 : ∀ a, Γ a ≠ some 11 := fun a ha => (hL9 a (h'.2.2.2.1 a _ ha).1).elim (fun h1 => h11 a ((hk a h1).1.symm.trans ha)) (fun h1 => by rw [h1, hq1] at ha; injection ha with ha; omega)
  have h := h'
  clear h' hk hL9
  refine W.widen (k := 1) (n := 600) (Nat.le_of_ble_eq_true rfl) (Nat.le_of_ble_eq_true rfl) ?_
  refine zj_put (C := RX8) (T := TX8) (N := 6) (t := 8) (v := .ref q1) Y h h0L h0Γ hF ziin_8 tyX8 tyX8_ok nmX8 rfl 0 (by decide) (zmi (List.mem_of_getElem? (i := 4) rfl)) (fun _ h9 => h9) rfl hini rfl rfl rfl (Nat.le_of_ble_eq_true rfl) dX8_init_10 (fun F' H locs hF' hne h' => ?_)
  have hF : F' h0 = .inr (8, [.ref q1, .int 0, .null, .null, .null, .int 0]) := hF'
  have h := h'
  clear hF' hne h'
  generalize F' = F at h hF
  refine lv_aload_n hx hb dX8_init_13 rfl (lv_at hl 0 rfl) ?_
  refine lv_sipush (v := 601) hx hb dX8_init_14 (by decide) ?_
  refine zj_ar (atype := .int) (ty := .int) (κ := 1) (tc := 101) (N' := 601) (a0 := (601, .inl (fun _ => 0))) Y h (zmi (List.mem_of_getElem? (i := 5) rfl)) rfl rfl (fun _ h9 => h9) (fun _ => rfl) (by decide) (by decide) (by decide) (by rw [hRc]; exact (Nat.le_of_ble_eq_true rfl)) (by rw [hRs]; exact (Nat.le_of_ble_eq_true rfl)) (by decide) (fun _ _ _ hF9 => zar_z (κ := 1) (n := 601) (lo := (-2147483648)) (hi := 2147483647) (by decide) rfl (by decide) hF9) dX8_init_17 (fun q2 Γ L F H hq2 hk hL9 h' => ?_)
  have hq1 := (hk q1 (h.2.2.2.1 _ _ hq1).1).1.trans hq1
  have h0Γ := (hk h0 h0L).1.trans h0Γ
  have hF := (hk h0 h0L).2.1.trans hF
  have h0L := (hk h0 h0L).2.2
  have h11 : ∀ a, Γ a ≠ some 11 := fun a ha => (hL9 a (h'.2.2.2.1 a _ ha).1).elim (fun h1 => h11 a ((hk a h1).1.symm.trans ha)) (fun h1 => by rw [h1, hq2] at ha; injection ha with ha; omega)
  have h := h'
  clear h' hk hL9
  refine W.widen (k := 2) (n := 1201) (Nat.le_of_ble_eq_true rfl) (Nat.le_of_ble_eq_true rfl) ?_
  refine zj_put (C := RX8) (T := TX8) (N := 6) (t := 8) (v := .ref q2) Y h h0L h0Γ hF ziin_8 tyX8 tyX8_ok nmX8 rfl 2 (by decide) (zmi (List.mem_of_getElem? (i := 6) rfl)) (fun _ h9 => h9) rfl hini rfl rfl rfl (Nat.le_of_ble_eq_true rfl) dX8_init_19 (fun F' H locs hF' hne h' => ?_)
  have hF : F' h0 = .inr (8, [.ref q1, .int 0, .ref q2, .null, .null, .int 0]) := hF'
  have h := h'
  clear hF' hne h'
  generalize F' = F at h hF
  refine lv_aload_n hx hb dX8_init_22 rfl (lv_at hl 0 rfl) ?_
  refine lv_sipush (v := 601) hx hb dX8_init_23 (by decide) ?_
  refine zj_ar (atype := .int) (ty := .int) (κ := 1) (tc := 155) (N' := 601) (a0 := (601, .inl (fun _ => 0))) Y h (zmi (List.mem_of_getElem? (i := 5) rfl)) rfl rfl (fun _ h9 => h9) (fun _ => rfl) (by decide) (by decide) (by decide) (by rw [hRc]; exact (Nat.le_of_ble_eq_true rfl)) (by rw [hRs]; exact (Nat.le_of_ble_eq_true rfl)) (by decide) (fun _ _ _ hF9 => zar_z (κ := 1) (n := 601) (lo := (-2147483648)) (hi := 2147483647) (by decide) rfl (by decide) hF9) dX8_init_26 (fun q3 Γ L F H hq3 hk hL9 h' => ?_)
  have hq1 := (hk q1 (h.2.2.2.1 _ _ hq1).1).1.trans hq1
  have hq2 := (hk q2 (h.2.2.2.1 _ _ hq2).1).1.trans hq2
  have h0Γ := (hk h0 h0L).1.trans h0Γ
  have hF := (hk h0 h0L).2.1.trans hF
  have h0L := (hk h0 h0L).2.2
  have h11 : ∀ a, Γ a ≠ some 11 := fun a ha => (hL9 a (h'.2.2.2.1 a _ ha).1).elim (fun h1 => h11 a ((hk a h1).1.symm.trans ha)) (fun h1 => by rw [h1, hq3] at ha; injection ha with ha; omega)
  have h := h'
  clear h' hk hL9
  refine W.widen (k := 3) (n := 1802) (Nat.le_of_ble_eq_true rfl) (Nat.le_of_ble_eq_true rfl) ?_
  refine zj_put (C := RX8) (T := TX8) (N := 6) (t := 8) (v := .ref q3) Y h h0L h0Γ hF ziin_8 tyX8 tyX8_ok nmX8 rfl 3 (by decide) (zmi (List.mem_of_getElem? (i := 7) rfl)) (fun _ h9 => h9) rfl hini rfl rfl rfl (Nat.le_of_ble_eq_true rfl) dX8_init_28 (fun F' H locs hF' hne h' => ?_)
  have hF : F' h0 = .inr (8, [.ref q1, .int 0, .ref q2, .ref q3, .null, .int 0]) := hF'
  have h := h'
  clear hF' hne h'
  generalize F' = F at h hF
  refine lv_aload_n hx hb dX8_init_31 rfl (lv_at hl 0 rfl) ?_
  refine lv_sipush (v := 601) hx hb dX8_init_32 (by decide) ?_
  refine zj_ar (atype := .int) (ty := .int) (κ := 1) (tc := 156) (N' := 601) (a0 := (601, .inl (fun _ => 0))) Y h (zmi (List.mem_of_getElem? (i := 5) rfl)) rfl rfl (fun _ h9 => h9) (fun _ => rfl) (by decide) (by decide) (by decide) (by rw [hRc]; exact (Nat.le_of_ble_eq_true rfl)) (by rw [hRs]; exact (Nat.le_of_ble_eq_true rfl)) (by decide) (fun _ _ _ hF9 => zar_z (κ := 1) (n := 601) (lo := (-2147483648)) (hi := 2147483647) (by decide) rfl (by decide) hF9) dX8_init_35 (fun q4 Γ L F H hq4 hk hL9 h' => ?_)
  have hq1 := (hk q1 (h.2.2.2.1 _ _ hq1).1).1.trans hq1
  have hq2 := (hk q2 (h.2.2.2.1 _ _ hq2).1).1.trans hq2
  have hq3 := (hk q3 (h.2.2.2.1 _ _ hq3).1).1.trans hq3
  have h0Γ := (hk h0 h0L).1.trans h0Γ
  have hF := (hk h0 h0L).2.1.trans hF
  have h0L := (hk h0 h0L).2.2
  have h11 : ∀ a, Γ a ≠ some 11 := fun a ha => (hL9 a (h'.2.2.2.1 a _ ha).1).elim (fun h1 => h11 a ((hk a h1).1.symm.trans ha)) (fun h1 => by rw [h1, hq4] at ha; injection ha with ha; omega)
  have h := h'
  clear h' hk hL9
  refine W.widen (k := 4) (n := 2403) (Nat.le_of_ble_eq_true rfl) (Nat.le_of_ble_eq_true rfl) ?_
  refine zj_put (C := RX8) (T := TX8) (N := 6) (t := 8) (v := .ref q4) Y h h0L h0Γ hF ziin_8 tyX8 tyX8_ok nmX8 rfl 4 (by decide) (zmi (List.mem_of_getElem? (i := 8) rfl)) (fun _ h9 => h9) rfl hini rfl rfl rfl (Nat.le_of_ble_eq_true rfl) dX8_init_37 (fun F' H locs hF' hne h' => ?_)
  have hF : F' h0 = .inr (8, [.ref q1, .int 0, .ref q2, .ref q3, .ref q4, .int 0]) := hF'
  have h := h'
  clear hF' hne h'
  generalize F' = F at h hF
  have h := zj_end h h0L h0Γ hF (by decide) (show zVs _ [(2, 157, 0), (0, 0, 600), (2, 101, 0), (2, 155, 0), (2, 156, 0), (0, 0, 601)] [.ref q1, .int 0, .ref q2, .ref q3, .ref q4, .int 0] from ⟨zV.r (zif hq1 h0Γ) rfl, zV.i ⟨by decide, by decide⟩, zV.r (zif hq2 h0Γ) rfl, zV.r (zif hq3 h0Γ) rfl, zV.r (zif hq4 h0Γ) rfl, zV.i ⟨by decide, by decide⟩, trivial⟩)
  subst hQ
  exact W.vret hx hb hr (fun t9 ht9 hW9 => ⟨⟨(fun a => if a = h0 then some 8 else Γ a, L, F), rfl, ⟨if_pos rfl, fun a => zif_ne (by decide) (h11 a)⟩, by rw [ht9]; exact h.1, h.2.1, h.2.2.1, h.2.2.2.1⟩, h.2.2.2.2.F ht9⟩) h.2.2.2.2.2.2 dX8_init_40

def zp_1 : Nat → zW3 → Prop := fun h0 u => ∀ a, u.1 a ≠ some 11
set_option maxHeartbeats 4000000 in
set_option maxRecDepth 100000 in
theorem zi_X1 (l : Launch) (D : va_G) (k : Nat → ClassId) (h0 sz : Nat) : Met l yX1_init zwi_1 ({ frames := 1, cells := 3, slots := 3600, locals := 40 }) (va_Pc [.ref h0] (zPi D k 1 [.null, .null, .null, .int 0] h0 sz)) (va_Qv (fun u : zW3 => u.1 h0 = some 1 ∧ zp_1 h0 u) (zQi D k (zA0 h0 sz)) (zA0 h0 sz)) 3 3600 (zA0 h0 sz) := by
  refine Met.ofW (cc := cX1_init) (maxL := 1) (ret := none) (by decide) rfl ?_
  intro p e s m args below meth c s₁ B hml hv
  obtain ⟨rfl, hsz, hP, hK, hN0, hZ⟩ := hv
  have hx := B.exec
  have hb := B.bytes
  have hr := B.returns
  have hts : ∀ w ∈ zGI, w.before _ s = true := fun w h9 => atoms_spec (ws := zwi_1) B.pre w (List.mem_cons_of_mem _ h9)
  have hown : s.vm.findClass RX1 = some m.cls := findClass_of_methodNamed B.named
  have hini : meth.name = "<init>" := (name_of_methodNamed B.named B.method).1
  subst hsz
  have Y : zY p m c cX1_init 1 s _ zGI RX1 D k (zA0 h0 s.heap.size) := ⟨⟨hx, hb, hml, hown, hts⟩, hK, hN0, hZ, fun q h9 => Or.inr h9⟩
  have h : zU D k (zA0 h0 s.heap.size) s (fun _ => none) [h0] (fun _ => .inr (1, [.null, .null, .null, .int 0])) s.heap [] := ⟨hP, by simp, fun a ha => Or.inl (List.mem_singleton.mp ha), (fun a t9 h9 => by cases h9), va_S.rf⟩
  have hl := lv_entry ([.ref h0]) (n := 1) (Nat.le_of_ble_eq_true rfl)
  rw [lg_entry_eq]
  generalize (lg_sl ([.ref h0]) ++ List.replicate (1 - (lg_sl ([.ref h0])).length) Slot.unset).toArray = ls at hl ⊢
  have hl : lv_has ls 1 [(0, .ref h0)] := hl
  have h0L : h0 ∈ [h0] := List.mem_singleton.mpr rfl
  have hfam : ∀ a ∈ [h0], a = h0 ∨ ∃ t, (fun _ => none : Nat → Option Nat) a = some t ∧ 124 ≤ t ∧ t ≤ 149 := fun a ha => Or.inl (List.mem_singleton.mp ha)
  generalize hΓ9 : (fun _ => none : Nat → Option Nat) = Γ at h hfam
  have h0Γ : Γ h0 = none := by rw [← hΓ9]
  generalize hF9 : (fun _ => .inr (1, [.null, .null, .null, .int 0]) : Nat → va_E) = F at h
  have hF : F h0 = .inr (1, [.null, .null, .null, .int 0]) := by rw [← hF9]
  have hΓ0 : ∀ a, Γ a = none := fun a => by rw [← hΓ9]
  clear hΓ9 hF9
  generalize [h0] = L at h h0L hfam
  generalize hargs : ([.ref h0] : List Value).toArray = args at *
  refine z_start2 (fun R Q hRf hRl hRc hRs hQ => ?_)
  have hRf : R.frames = 1 := hRf
  have hRl : R.locals = 40 := hRl
  have hRc : R.cells = 3 := hRc
  have hRs : R.slots = 3600 := hRs
  have h11 : ∀ a, Γ a ≠ some 11 := fun a => by rw [hΓ0]; exact fun h9 => by cases h9
  refine lv_aload_n hx hb dX1_init_0 rfl (lv_at hl 0 rfl) ?_
  refine W.objInit hx hb hown (hts _ (zmi (List.mem_of_getElem? (i := 9) rfl))) (hts _ (zmi (List.mem_of_getElem? (i := 1) rfl))) (hts _ (zmi (List.mem_of_getElem? (i := 2) rfl))) rfl (by rw [hml]; exact hl.1) rfl dX1_init_1 (by rw [hRf]; exact (Nat.le_of_ble_eq_true rfl)) (by rw [hRl]; exact (Nat.le_of_ble_eq_true rfl)) ?_
  refine W.eq (g2 := F0 m 4 ls []) rfl ?_
  refine lv_aload_n hx hb dX1_init_4 rfl (lv_at hl 0 rfl) ?_
  refine lv_sipush (v := 1200) hx hb dX1_init_5 (by decide) ?_
  refine zj_ar (atype := .int) (ty := .int) (κ := 1) (tc := 102) (N' := 1200) (a0 := (1200, .inl (fun _ => 0))) Y h (zmi (List.mem_of_getElem? (i := 5) rfl)) rfl rfl (fun _ h9 => h9) (fun _ => rfl) (by decide) (by decide) (by decide) (by rw [hRc]; exact (Nat.le_of_ble_eq_true rfl)) (by rw [hRs]; exact (Nat.le_of_ble_eq_true rfl)) (by decide) (fun _ _ _ hF9 => zar_z (κ := 1) (n := 1200) (lo := (-2147483648)) (hi := 2147483647) (by decide) rfl (by decide) hF9) dX1_init_8 (fun q1 Γ L F H hq1 hk hL9 h' => ?_)
  have h0Γ := (hk h0 h0L).1.trans h0Γ
  have hF := (hk h0 h0L).2.1.trans hF
  have h0L := (hk h0 h0L).2.2
  have h11 : ∀ a, Γ a ≠ some 11 := fun a ha => (hL9 a (h'.2.2.2.1 a _ ha).1).elim (fun h1 => h11 a ((hk a h1).1.symm.trans ha)) (fun h1 => by rw [h1, hq1] at ha; injection ha with ha; omega)
  have h := h'
  clear h' hk hL9
  refine W.widen (k := 1) (n := 1200) (Nat.le_of_ble_eq_true rfl) (Nat.le_of_ble_eq_true rfl) ?_
  refine zj_put (C := RX1) (T := TX1) (N := 4) (t := 1) (v := .ref q1) Y h h0L h0Γ hF ziin_1 tyX1 tyX1_ok nmX1 rfl 0 (by decide) (zmi (List.mem_of_getElem? (i := 10) rfl)) (fun _ h9 => h9) rfl hini rfl rfl rfl (Nat.le_of_ble_eq_true rfl) dX1_init_10 (fun F' H locs hF' hne h' => ?_)
  have hF : F' h0 = .inr (1, [.ref q1, .null, .null, .int 0]) := hF'
  have h := h'
  clear hF' hne h'
  generalize F' = F at h hF
  refine lv_aload_n hx hb dX1_init_13 rfl (lv_at hl 0 rfl) ?_
  refine lv_sipush (v := 1200) hx hb dX1_init_14 (by decide) ?_
  refine zj_ar (atype := .int) (ty := .int) (κ := 1) (tc := 158) (N' := 1200) (a0 := (1200, .inl (fun _ => 0))) Y h (zmi (List.mem_of_getElem? (i := 5) rfl)) rfl rfl (fun _ h9 => h9) (fun _ => rfl) (by decide) (by decide) (by decide) (by rw [hRc]; exact (Nat.le_of_ble_eq_true rfl)) (by rw [hRs]; exact (Nat.le_of_ble_eq_true rfl)) (by decide) (fun _ _ _ hF9 => zar_z (κ := 1) (n := 1200) (lo := (-2147483648)) (hi := 2147483647) (by decide) rfl (by decide) hF9) dX1_init_17 (fun q2 Γ L F H hq2 hk hL9 h' => ?_)
  have hq1 := (hk q1 (h.2.2.2.1 _ _ hq1).1).1.trans hq1
  have h0Γ := (hk h0 h0L).1.trans h0Γ
  have hF := (hk h0 h0L).2.1.trans hF
  have h0L := (hk h0 h0L).2.2
  have h11 : ∀ a, Γ a ≠ some 11 := fun a ha => (hL9 a (h'.2.2.2.1 a _ ha).1).elim (fun h1 => h11 a ((hk a h1).1.symm.trans ha)) (fun h1 => by rw [h1, hq2] at ha; injection ha with ha; omega)
  have h := h'
  clear h' hk hL9
  refine W.widen (k := 2) (n := 2400) (Nat.le_of_ble_eq_true rfl) (Nat.le_of_ble_eq_true rfl) ?_
  refine zj_put (C := RX1) (T := TX1) (N := 4) (t := 1) (v := .ref q2) Y h h0L h0Γ hF ziin_1 tyX1 tyX1_ok nmX1 rfl 1 (by decide) (zmi (List.mem_of_getElem? (i := 11) rfl)) (fun _ h9 => h9) rfl hini rfl rfl rfl (Nat.le_of_ble_eq_true rfl) dX1_init_19 (fun F' H locs hF' hne h' => ?_)
  have hF : F' h0 = .inr (1, [.ref q1, .ref q2, .null, .int 0]) := hF'
  have h := h'
  clear hF' hne h'
  generalize F' = F at h hF
  refine lv_aload_n hx hb dX1_init_22 rfl (lv_at hl 0 rfl) ?_
  refine lv_sipush (v := 1200) hx hb dX1_init_23 (by decide) ?_
  refine zj_ar (atype := .int) (ty := .int) (κ := 1) (tc := 159) (N' := 1200) (a0 := (1200, .inl (fun _ => 0))) Y h (zmi (List.mem_of_getElem? (i := 5) rfl)) rfl rfl (fun _ h9 => h9) (fun _ => rfl) (by decide) (by decide) (by decide) (by rw [hRc]; exact (Nat.le_of_ble_eq_true rfl)) (by rw [hRs]; exact (Nat.le_of_ble_eq_true rfl)) (by decide) (fun _ _ _ hF9 => zar_z (κ := 1) (n := 1200) (lo := (-2147483648)) (hi := 2147483647) (by decide) rfl (by decide) hF9) dX1_init_26 (fun q3 Γ L F H hq3 hk hL9 h' => ?_)
  have hq1 := (hk q1 (h.2.2.2.1 _ _ hq1).1).1.trans hq1
  have hq2 := (hk q2 (h.2.2.2.1 _ _ hq2).1).1.trans hq2
  have h0Γ := (hk h0 h0L).1.trans h0Γ
  have hF := (hk h0 h0L).2.1.trans hF
  have h0L := (hk h0 h0L).2.2
  have h11 : ∀ a, Γ a ≠ some 11 := fun a ha => (hL9 a (h'.2.2.2.1 a _ ha).1).elim (fun h1 => h11 a ((hk a h1).1.symm.trans ha)) (fun h1 => by rw [h1, hq3] at ha; injection ha with ha; omega)
  have h := h'
  clear h' hk hL9
  refine W.widen (k := 3) (n := 3600) (Nat.le_of_ble_eq_true rfl) (Nat.le_of_ble_eq_true rfl) ?_
  refine zj_put (C := RX1) (T := TX1) (N := 4) (t := 1) (v := .ref q3) Y h h0L h0Γ hF ziin_1 tyX1 tyX1_ok nmX1 rfl 2 (by decide) (zmi (List.mem_of_getElem? (i := 12) rfl)) (fun _ h9 => h9) rfl hini rfl rfl rfl (Nat.le_of_ble_eq_true rfl) dX1_init_28 (fun F' H locs hF' hne h' => ?_)
  have hF : F' h0 = .inr (1, [.ref q1, .ref q2, .ref q3, .int 0]) := hF'
  have h := h'
  clear hF' hne h'
  generalize F' = F at h hF
  have h := zj_end h h0L h0Γ hF (by decide) (show zVs _ [(2, 102, 0), (2, 158, 0), (2, 159, 0), (0, 0, 1200)] [.ref q1, .ref q2, .ref q3, .int 0] from ⟨zV.r (zif hq1 h0Γ) rfl, zV.r (zif hq2 h0Γ) rfl, zV.r (zif hq3 h0Γ) rfl, zV.i ⟨by decide, by decide⟩, trivial⟩)
  subst hQ
  exact W.vret hx hb hr (fun t9 ht9 hW9 => ⟨⟨(fun a => if a = h0 then some 1 else Γ a, L, F), rfl, ⟨if_pos rfl, fun a => zif_ne (by decide) (h11 a)⟩, by rw [ht9]; exact h.1, h.2.1, h.2.2.1, h.2.2.2.1⟩, h.2.2.2.2.F ht9⟩) h.2.2.2.2.2.2 dX1_init_31

def zp_2 : Nat → zW3 → Prop := fun h0 u => ∀ a, u.1 a ≠ some 11
set_option maxHeartbeats 4000000 in
set_option maxRecDepth 100000 in
theorem zi_X2 (l : Launch) (D : va_G) (k : Nat → ClassId) (h0 sz : Nat) : Met l yX2_init zwi_2 ({ frames := 1, cells := 1, slots := 3, locals := 40 }) (va_Pc [.ref h0] (zPi D k 2 [.int 0, .int 0, .int 0, .int 0, .int 0, .int 0, .int 0, .int 0, .null] h0 sz)) (va_Qv (fun u : zW3 => u.1 h0 = some 2 ∧ zp_2 h0 u) (zQi D k (zA0 h0 sz)) (zA0 h0 sz)) 1 3 (zA0 h0 sz) := by
  refine Met.ofW (cc := cX2_init) (maxL := 1) (ret := none) (by decide) rfl ?_
  intro p e s m args below meth c s₁ B hml hv
  obtain ⟨rfl, hsz, hP, hK, hN0, hZ⟩ := hv
  have hx := B.exec
  have hb := B.bytes
  have hr := B.returns
  have hts : ∀ w ∈ zGI, w.before _ s = true := fun w h9 => atoms_spec (ws := zwi_2) B.pre w (List.mem_cons_of_mem _ h9)
  have hown : s.vm.findClass RX2 = some m.cls := findClass_of_methodNamed B.named
  have hini : meth.name = "<init>" := (name_of_methodNamed B.named B.method).1
  subst hsz
  have Y : zY p m c cX2_init 1 s _ zGI RX2 D k (zA0 h0 s.heap.size) := ⟨⟨hx, hb, hml, hown, hts⟩, hK, hN0, hZ, fun q h9 => Or.inr h9⟩
  have h : zU D k (zA0 h0 s.heap.size) s (fun _ => none) [h0] (fun _ => .inr (2, [.int 0, .int 0, .int 0, .int 0, .int 0, .int 0, .int 0, .int 0, .null])) s.heap [] := ⟨hP, by simp, fun a ha => Or.inl (List.mem_singleton.mp ha), (fun a t9 h9 => by cases h9), va_S.rf⟩
  have hl := lv_entry ([.ref h0]) (n := 1) (Nat.le_of_ble_eq_true rfl)
  rw [lg_entry_eq]
  generalize (lg_sl ([.ref h0]) ++ List.replicate (1 - (lg_sl ([.ref h0])).length) Slot.unset).toArray = ls at hl ⊢
  have hl : lv_has ls 1 [(0, .ref h0)] := hl
  have h0L : h0 ∈ [h0] := List.mem_singleton.mpr rfl
  have hfam : ∀ a ∈ [h0], a = h0 ∨ ∃ t, (fun _ => none : Nat → Option Nat) a = some t ∧ 124 ≤ t ∧ t ≤ 149 := fun a ha => Or.inl (List.mem_singleton.mp ha)
  generalize hΓ9 : (fun _ => none : Nat → Option Nat) = Γ at h hfam
  have h0Γ : Γ h0 = none := by rw [← hΓ9]
  generalize hF9 : (fun _ => .inr (2, [.int 0, .int 0, .int 0, .int 0, .int 0, .int 0, .int 0, .int 0, .null]) : Nat → va_E) = F at h
  have hF : F h0 = .inr (2, [.int 0, .int 0, .int 0, .int 0, .int 0, .int 0, .int 0, .int 0, .null]) := by rw [← hF9]
  have hΓ0 : ∀ a, Γ a = none := fun a => by rw [← hΓ9]
  clear hΓ9 hF9
  generalize [h0] = L at h h0L hfam
  generalize hargs : ([.ref h0] : List Value).toArray = args at *
  refine z_start2 (fun R Q hRf hRl hRc hRs hQ => ?_)
  have hRf : R.frames = 1 := hRf
  have hRl : R.locals = 40 := hRl
  have hRc : R.cells = 1 := hRc
  have hRs : R.slots = 3 := hRs
  have h11 : ∀ a, Γ a ≠ some 11 := fun a => by rw [hΓ0]; exact fun h9 => by cases h9
  refine lv_aload_n hx hb dX2_init_0 rfl (lv_at hl 0 rfl) ?_
  refine W.objInit hx hb hown (hts _ (zmi (List.mem_of_getElem? (i := 13) rfl))) (hts _ (zmi (List.mem_of_getElem? (i := 1) rfl))) (hts _ (zmi (List.mem_of_getElem? (i := 2) rfl))) rfl (by rw [hml]; exact hl.1) rfl dX2_init_1 (by rw [hRf]; exact (Nat.le_of_ble_eq_true rfl)) (by rw [hRl]; exact (Nat.le_of_ble_eq_true rfl)) ?_
  refine W.eq (g2 := F0 m 4 ls []) rfl ?_
  refine lv_aload_n hx hb dX2_init_4 rfl (lv_at hl 0 rfl) ?_
  refine lv_iconst (v := 3) hx hb dX2_init_5 (by decide) ?_
  refine zj_ar (atype := .int) (ty := .int) (κ := 1) (tc := 103) (N' := 3) (a0 := (3, .inl (fun _ => 0))) Y h (zmi (List.mem_of_getElem? (i := 5) rfl)) rfl rfl (fun _ h9 => h9) (fun _ => rfl) (by decide) (by decide) (by decide) (by rw [hRc]; exact (Nat.le_of_ble_eq_true rfl)) (by rw [hRs]; exact (Nat.le_of_ble_eq_true rfl)) (by decide) (fun _ _ _ hF9 => zar_z (κ := 1) (n := 3) (lo := (-2147483648)) (hi := 2147483647) (by decide) rfl (by decide) hF9) dX2_init_6 (fun q1 Γ L F H hq1 hk hL9 h' => ?_)
  have h0Γ := (hk h0 h0L).1.trans h0Γ
  have hF := (hk h0 h0L).2.1.trans hF
  have h0L := (hk h0 h0L).2.2
  have h11 : ∀ a, Γ a ≠ some 11 := fun a ha => (hL9 a (h'.2.2.2.1 a _ ha).1).elim (fun h1 => h11 a ((hk a h1).1.symm.trans ha)) (fun h1 => by rw [h1, hq1] at ha; injection ha with ha; omega)
  have h := h'
  clear h' hk hL9
  refine W.widen (k := 1) (n := 3) (Nat.le_of_ble_eq_true rfl) (Nat.le_of_ble_eq_true rfl) ?_
  refine zj_put (C := RX2) (T := TX2) (N := 9) (t := 2) (v := .ref q1) Y h h0L h0Γ hF ziin_2 tyX2 tyX2_ok nmX2 rfl 8 (by decide) (zmi (List.mem_of_getElem? (i := 14) rfl)) (fun _ h9 => h9) rfl hini rfl rfl rfl (Nat.le_of_ble_eq_true rfl) dX2_init_8 (fun F' H locs hF' hne h' => ?_)
  have hF : F' h0 = .inr (2, [.int 0, .int 0, .int 0, .int 0, .int 0, .int 0, .int 0, .int 0, .ref q1]) := hF'
  have h := h'
  clear hF' hne h'
  generalize F' = F at h hF
  have h := zj_end h h0L h0Γ hF (by decide) (show zVs _ [(0, (-2147483648), 2147483647), (0, (-1), 601), (0, (-2), 600), (0, (-2147483648), 2147483647), (0, (-2147483648), 2147483647), (0, (-2147483648), 2147483647), (0, (-2147483648), 2147483647), (0, 0, 3), (2, 103, 0)] [.int 0, .int 0, .int 0, .int 0, .int 0, .int 0, .int 0, .int 0, .ref q1] from ⟨zV.i ⟨by decide, by decide⟩, zV.i ⟨by decide, by decide⟩, zV.i ⟨by decide, by decide⟩, zV.i ⟨by decide, by decide⟩, zV.i ⟨by decide, by decide⟩, zV.i ⟨by decide, by decide⟩, zV.i ⟨by decide, by decide⟩, zV.i ⟨by decide, by decide⟩, zV.r (zif hq1 h0Γ) rfl, trivial⟩)
  subst hQ
  exact W.vret hx hb hr (fun t9 ht9 hW9 => ⟨⟨(fun a => if a = h0 then some 2 else Γ a, L, F), rfl, ⟨if_pos rfl, fun a => zif_ne (by decide) (h11 a)⟩, by rw [ht9]; exact h.1, h.2.1, h.2.2.1, h.2.2.2.1⟩, h.2.2.2.2.F ht9⟩) h.2.2.2.2.2.2 dX2_init_11

def zp_4 : Nat → zW3 → Prop := fun h0 u => ∀ a, u.1 a ≠ some 11
set_option maxHeartbeats 4000000 in
set_option maxRecDepth 100000 in
theorem zi_X4 (l : Launch) (D : va_G) (k : Nat → ClassId) (h0 sz : Nat) : Met l yX4_init zwi_4 ({ frames := 1, cells := 0, slots := 0, locals := 40 }) (va_Pc [.ref h0] (zPi D k 4 [.int 0, .int 0, .int 0, .int 0] h0 sz)) (va_Qv (fun u : zW3 => u.1 h0 = some 4 ∧ zp_4 h0 u) (zQi D k (zA0 h0 sz)) (zA0 h0 sz)) 0 0 (zA0 h0 sz) := by
  refine Met.ofW (cc := cX4_init) (maxL := 1) (ret := none) (by decide) rfl ?_
  intro p e s m args below meth c s₁ B hml hv
  obtain ⟨rfl, hsz, hP, hK, hN0, hZ⟩ := hv
  have hx := B.exec
  have hb := B.bytes
  have hr := B.returns
  have hts : ∀ w ∈ zGI, w.before _ s = true := fun w h9 => atoms_spec (ws := zwi_4) B.pre w (List.mem_cons_of_mem _ h9)
  have hown : s.vm.findClass RX4 = some m.cls := findClass_of_methodNamed B.named
  have hini : meth.name = "<init>" := (name_of_methodNamed B.named B.method).1
  subst hsz
  have Y : zY p m c cX4_init 1 s _ zGI RX4 D k (zA0 h0 s.heap.size) := ⟨⟨hx, hb, hml, hown, hts⟩, hK, hN0, hZ, fun q h9 => Or.inr h9⟩
  have h : zU D k (zA0 h0 s.heap.size) s (fun _ => none) [h0] (fun _ => .inr (4, [.int 0, .int 0, .int 0, .int 0])) s.heap [] := ⟨hP, by simp, fun a ha => Or.inl (List.mem_singleton.mp ha), (fun a t9 h9 => by cases h9), va_S.rf⟩
  have hl := lv_entry ([.ref h0]) (n := 1) (Nat.le_of_ble_eq_true rfl)
  rw [lg_entry_eq]
  generalize (lg_sl ([.ref h0]) ++ List.replicate (1 - (lg_sl ([.ref h0])).length) Slot.unset).toArray = ls at hl ⊢
  have hl : lv_has ls 1 [(0, .ref h0)] := hl
  have h0L : h0 ∈ [h0] := List.mem_singleton.mpr rfl
  have hfam : ∀ a ∈ [h0], a = h0 ∨ ∃ t, (fun _ => none : Nat → Option Nat) a = some t ∧ 124 ≤ t ∧ t ≤ 149 := fun a ha => Or.inl (List.mem_singleton.mp ha)
  generalize hΓ9 : (fun _ => none : Nat → Option Nat) = Γ at h hfam
  have h0Γ : Γ h0 = none := by rw [← hΓ9]
  generalize hF9 : (fun _ => .inr (4, [.int 0, .int 0, .int 0, .int 0]) : Nat → va_E) = F at h
  have hF : F h0 = .inr (4, [.int 0, .int 0, .int 0, .int 0]) := by rw [← hF9]
  have hΓ0 : ∀ a, Γ a = none := fun a => by rw [← hΓ9]
  clear hΓ9 hF9
  generalize [h0] = L at h h0L hfam
  generalize hargs : ([.ref h0] : List Value).toArray = args at *
  refine z_start2 (fun R Q hRf hRl hRc hRs hQ => ?_)
  have hRf : R.frames = 1 := hRf
  have hRl : R.locals = 40 := hRl
  have hRc : R.cells = 0 := hRc
  have hRs : R.slots = 0 := hRs
  have h11 : ∀ a, Γ a ≠ some 11 := fun a => by rw [hΓ0]; exact fun h9 => by cases h9
  refine lv_aload_n hx hb dX4_init_0 rfl (lv_at hl 0 rfl) ?_
  refine W.objInit hx hb hown (hts _ (zmi (List.mem_of_getElem? (i := 15) rfl))) (hts _ (zmi (List.mem_of_getElem? (i := 1) rfl))) (hts _ (zmi (List.mem_of_getElem? (i := 2) rfl))) rfl (by rw [hml]; exact hl.1) rfl dX4_init_1 (by rw [hRf]; exact (Nat.le_of_ble_eq_true rfl)) (by rw [hRl]; exact (Nat.le_of_ble_eq_true rfl)) ?_
  refine W.eq (g2 := F0 m 4 ls []) rfl ?_
  have h := zj_end h h0L h0Γ hF (by decide) (show zVs _ [(0, (-2147483648), 2147483647), (0, (-2147483648), 2147483647), (0, (-2147483648), 2147483647), (0, (-2147483648), 2147483647)] [.int 0, .int 0, .int 0, .int 0] from ⟨zV.i ⟨by decide, by decide⟩, zV.i ⟨by decide, by decide⟩, zV.i ⟨by decide, by decide⟩, zV.i ⟨by decide, by decide⟩, trivial⟩)
  subst hQ
  exact W.vret hx hb hr (fun t9 ht9 hW9 => ⟨⟨(fun a => if a = h0 then some 4 else Γ a, L, F), rfl, ⟨if_pos rfl, fun a => zif_ne (by decide) (h11 a)⟩, by rw [ht9]; exact h.1, h.2.1, h.2.2.1, h.2.2.2.1⟩, h.2.2.2.2.F ht9⟩) h.2.2.2.2.2.2 dX4_init_4

def zp_7 : Nat → zW3 → Prop := fun h0 u => ∀ a, u.1 a ≠ some 11
set_option maxHeartbeats 4000000 in
set_option maxRecDepth 100000 in
theorem zi_X7 (l : Launch) (D : va_G) (k : Nat → ClassId) (h0 sz : Nat) : Met l yX7_init zwi_7 ({ frames := 1, cells := 4, slots := 600, locals := 40 }) (va_Pc [.ref h0] (zPi D k 7 [.int 0, .int 0, .int 0, .null, .null, .null, .int 0, .null, .null, .null, .null, .int 0] h0 sz)) (va_Qv (fun u : zW3 => u.1 h0 = some 7 ∧ zp_7 h0 u) (zQi D k (zA0 h0 sz)) (zA0 h0 sz)) 4 600 (zA0 h0 sz) := by
  refine Met.ofW (cc := cX7_init) (maxL := 1) (ret := none) (by decide) rfl ?_
  intro p e s m args below meth c s₁ B hml hv
  obtain ⟨rfl, hsz, hP, hK, hN0, hZ⟩ := hv
  have hx := B.exec
  have hb := B.bytes
  have hr := B.returns
  have hts : ∀ w ∈ zGI, w.before _ s = true := fun w h9 => atoms_spec (ws := zwi_7) B.pre w (List.mem_cons_of_mem _ h9)
  have hown : s.vm.findClass RX7 = some m.cls := findClass_of_methodNamed B.named
  have hini : meth.name = "<init>" := (name_of_methodNamed B.named B.method).1
  subst hsz
  have Y : zY p m c cX7_init 1 s _ zGI RX7 D k (zA0 h0 s.heap.size) := ⟨⟨hx, hb, hml, hown, hts⟩, hK, hN0, hZ, fun q h9 => Or.inr h9⟩
  have h : zU D k (zA0 h0 s.heap.size) s (fun _ => none) [h0] (fun _ => .inr (7, [.int 0, .int 0, .int 0, .null, .null, .null, .int 0, .null, .null, .null, .null, .int 0])) s.heap [] := ⟨hP, by simp, fun a ha => Or.inl (List.mem_singleton.mp ha), (fun a t9 h9 => by cases h9), va_S.rf⟩
  have hl := lv_entry ([.ref h0]) (n := 1) (Nat.le_of_ble_eq_true rfl)
  rw [lg_entry_eq]
  generalize (lg_sl ([.ref h0]) ++ List.replicate (1 - (lg_sl ([.ref h0])).length) Slot.unset).toArray = ls at hl ⊢
  have hl : lv_has ls 1 [(0, .ref h0)] := hl
  have h0L : h0 ∈ [h0] := List.mem_singleton.mpr rfl
  have hfam : ∀ a ∈ [h0], a = h0 ∨ ∃ t, (fun _ => none : Nat → Option Nat) a = some t ∧ 124 ≤ t ∧ t ≤ 149 := fun a ha => Or.inl (List.mem_singleton.mp ha)
  generalize hΓ9 : (fun _ => none : Nat → Option Nat) = Γ at h hfam
  have h0Γ : Γ h0 = none := by rw [← hΓ9]
  generalize hF9 : (fun _ => .inr (7, [.int 0, .int 0, .int 0, .null, .null, .null, .int 0, .null, .null, .null, .null, .int 0]) : Nat → va_E) = F at h
  have hF : F h0 = .inr (7, [.int 0, .int 0, .int 0, .null, .null, .null, .int 0, .null, .null, .null, .null, .int 0]) := by rw [← hF9]
  have hΓ0 : ∀ a, Γ a = none := fun a => by rw [← hΓ9]
  clear hΓ9 hF9
  generalize [h0] = L at h h0L hfam
  generalize hargs : ([.ref h0] : List Value).toArray = args at *
  refine z_start2 (fun R Q hRf hRl hRc hRs hQ => ?_)
  have hRf : R.frames = 1 := hRf
  have hRl : R.locals = 40 := hRl
  have hRc : R.cells = 4 := hRc
  have hRs : R.slots = 600 := hRs
  have h11 : ∀ a, Γ a ≠ some 11 := fun a => by rw [hΓ0]; exact fun h9 => by cases h9
  refine lv_aload_n hx hb dX7_init_0 rfl (lv_at hl 0 rfl) ?_
  refine W.objInit hx hb hown (hts _ (zmi (List.mem_of_getElem? (i := 16) rfl))) (hts _ (zmi (List.mem_of_getElem? (i := 1) rfl))) (hts _ (zmi (List.mem_of_getElem? (i := 2) rfl))) rfl (by rw [hml]; exact hl.1) rfl dX7_init_1 (by rw [hRf]; exact (Nat.le_of_ble_eq_true rfl)) (by rw [hRl]; exact (Nat.le_of_ble_eq_true rfl)) ?_
  refine W.eq (g2 := F0 m 4 ls []) rfl ?_
  refine lv_aload_n hx hb dX7_init_4 rfl (lv_at hl 0 rfl) ?_
  refine lv_sipush (v := 150) hx hb dX7_init_5 (by decide) ?_
  refine zj_ar (atype := .int) (ty := .int) (κ := 1) (tc := 106) (N' := 150) (a0 := (150, .inl (fun _ => 0))) Y h (zmi (List.mem_of_getElem? (i := 5) rfl)) rfl rfl (fun _ h9 => h9) (fun _ => rfl) (by decide) (by decide) (by decide) (by rw [hRc]; exact (Nat.le_of_ble_eq_true rfl)) (by rw [hRs]; exact (Nat.le_of_ble_eq_true rfl)) (by decide) (fun _ _ _ hF9 => zar_z (κ := 1) (n := 150) (lo := (-1)) (hi := 601) (by decide) rfl (by decide) hF9) dX7_init_8 (fun q1 Γ L F H hq1 hk hL9 h' => ?_)
  have h0Γ := (hk h0 h0L).1.trans h0Γ
  have hF := (hk h0 h0L).2.1.trans hF
  have h0L := (hk h0 h0L).2.2
  have h11 : ∀ a, Γ a ≠ some 11 := fun a ha => (hL9 a (h'.2.2.2.1 a _ ha).1).elim (fun h1 => h11 a ((hk a h1).1.symm.trans ha)) (fun h1 => by rw [h1, hq1] at ha; injection ha with ha; omega)
  have h := h'
  clear h' hk hL9
  refine W.widen (k := 1) (n := 150) (Nat.le_of_ble_eq_true rfl) (Nat.le_of_ble_eq_true rfl) ?_
  refine zj_put (C := RX7) (T := TX7) (N := 12) (t := 7) (v := .ref q1) Y h h0L h0Γ hF ziin_7 tyX7 tyX7_ok nmX7 rfl 7 (by decide) (zmi (List.mem_of_getElem? (i := 17) rfl)) (fun _ h9 => h9) rfl hini rfl rfl rfl (Nat.le_of_ble_eq_true rfl) dX7_init_10 (fun F' H locs hF' hne h' => ?_)
  have hF : F' h0 = .inr (7, [.int 0, .int 0, .int 0, .null, .null, .null, .int 0, .ref q1, .null, .null, .null, .int 0]) := hF'
  have h := h'
  clear hF' hne h'
  generalize F' = F at h hF
  refine lv_aload_n hx hb dX7_init_13 rfl (lv_at hl 0 rfl) ?_
  refine lv_sipush (v := 150) hx hb dX7_init_14 (by decide) ?_
  refine zj_ar (atype := .int) (ty := .int) (κ := 1) (tc := 107) (N' := 150) (a0 := (150, .inl (fun _ => 0))) Y h (zmi (List.mem_of_getElem? (i := 5) rfl)) rfl rfl (fun _ h9 => h9) (fun _ => rfl) (by decide) (by decide) (by decide) (by rw [hRc]; exact (Nat.le_of_ble_eq_true rfl)) (by rw [hRs]; exact (Nat.le_of_ble_eq_true rfl)) (by decide) (fun _ _ _ hF9 => zar_z (κ := 1) (n := 150) (lo := (-2147483648)) (hi := 2147483647) (by decide) rfl (by decide) hF9) dX7_init_17 (fun q2 Γ L F H hq2 hk hL9 h' => ?_)
  have hq1 := (hk q1 (h.2.2.2.1 _ _ hq1).1).1.trans hq1
  have h0Γ := (hk h0 h0L).1.trans h0Γ
  have hF := (hk h0 h0L).2.1.trans hF
  have h0L := (hk h0 h0L).2.2
  have h11 : ∀ a, Γ a ≠ some 11 := fun a ha => (hL9 a (h'.2.2.2.1 a _ ha).1).elim (fun h1 => h11 a ((hk a h1).1.symm.trans ha)) (fun h1 => by rw [h1, hq2] at ha; injection ha with ha; omega)
  have h := h'
  clear h' hk hL9
  refine W.widen (k := 2) (n := 300) (Nat.le_of_ble_eq_true rfl) (Nat.le_of_ble_eq_true rfl) ?_
  refine zj_put (C := RX7) (T := TX7) (N := 12) (t := 7) (v := .ref q2) Y h h0L h0Γ hF ziin_7 tyX7 tyX7_ok nmX7 rfl 8 (by decide) (zmi (List.mem_of_getElem? (i := 18) rfl)) (fun _ h9 => h9) rfl hini rfl rfl rfl (Nat.le_of_ble_eq_true rfl) dX7_init_19 (fun F' H locs hF' hne h' => ?_)
  have hF : F' h0 = .inr (7, [.int 0, .int 0, .int 0, .null, .null, .null, .int 0, .ref q1, .ref q2, .null, .null, .int 0]) := hF'
  have h := h'
  clear hF' hne h'
  generalize F' = F at h hF
  refine lv_aload_n hx hb dX7_init_22 rfl (lv_at hl 0 rfl) ?_
  refine lv_sipush (v := 150) hx hb dX7_init_23 (by decide) ?_
  refine zj_ar (atype := .int) (ty := .int) (κ := 1) (tc := 160) (N' := 150) (a0 := (150, .inl (fun _ => 0))) Y h (zmi (List.mem_of_getElem? (i := 5) rfl)) rfl rfl (fun _ h9 => h9) (fun _ => rfl) (by decide) (by decide) (by decide) (by rw [hRc]; exact (Nat.le_of_ble_eq_true rfl)) (by rw [hRs]; exact (Nat.le_of_ble_eq_true rfl)) (by decide) (fun _ _ _ hF9 => zar_z (κ := 1) (n := 150) (lo := (-2147483648)) (hi := 2147483647) (by decide) rfl (by decide) hF9) dX7_init_26 (fun q3 Γ L F H hq3 hk hL9 h' => ?_)
  have hq1 := (hk q1 (h.2.2.2.1 _ _ hq1).1).1.trans hq1
  have hq2 := (hk q2 (h.2.2.2.1 _ _ hq2).1).1.trans hq2
  have h0Γ := (hk h0 h0L).1.trans h0Γ
  have hF := (hk h0 h0L).2.1.trans hF
  have h0L := (hk h0 h0L).2.2
  have h11 : ∀ a, Γ a ≠ some 11 := fun a ha => (hL9 a (h'.2.2.2.1 a _ ha).1).elim (fun h1 => h11 a ((hk a h1).1.symm.trans ha)) (fun h1 => by rw [h1, hq3] at ha; injection ha with ha; omega)
  have h := h'
  clear h' hk hL9
  refine W.widen (k := 3) (n := 450) (Nat.le_of_ble_eq_true rfl) (Nat.le_of_ble_eq_true rfl) ?_
  refine zj_put (C := RX7) (T := TX7) (N := 12) (t := 7) (v := .ref q3) Y h h0L h0Γ hF ziin_7 tyX7 tyX7_ok nmX7 rfl 9 (by decide) (zmi (List.mem_of_getElem? (i := 19) rfl)) (fun _ h9 => h9) rfl hini rfl rfl rfl (Nat.le_of_ble_eq_true rfl) dX7_init_28 (fun F' H locs hF' hne h' => ?_)
  have hF : F' h0 = .inr (7, [.int 0, .int 0, .int 0, .null, .null, .null, .int 0, .ref q1, .ref q2, .ref q3, .null, .int 0]) := hF'
  have h := h'
  clear hF' hne h'
  generalize F' = F at h hF
  refine lv_aload_n hx hb dX7_init_31 rfl (lv_at hl 0 rfl) ?_
  refine lv_sipush (v := 150) hx hb dX7_init_32 (by decide) ?_
  refine zj_ar (atype := .int) (ty := .int) (κ := 1) (tc := 161) (N' := 150) (a0 := (150, .inl (fun _ => 0))) Y h (zmi (List.mem_of_getElem? (i := 5) rfl)) rfl rfl (fun _ h9 => h9) (fun _ => rfl) (by decide) (by decide) (by decide) (by rw [hRc]; exact (Nat.le_of_ble_eq_true rfl)) (by rw [hRs]; exact (Nat.le_of_ble_eq_true rfl)) (by decide) (fun _ _ _ hF9 => zar_z (κ := 1) (n := 150) (lo := (-2147483648)) (hi := 2147483647) (by decide) rfl (by decide) hF9) dX7_init_35 (fun q4 Γ L F H hq4 hk hL9 h' => ?_)
  have hq1 := (hk q1 (h.2.2.2.1 _ _ hq1).1).1.trans hq1
  have hq2 := (hk q2 (h.2.2.2.1 _ _ hq2).1).1.trans hq2
  have hq3 := (hk q3 (h.2.2.2.1 _ _ hq3).1).1.trans hq3
  have h0Γ := (hk h0 h0L).1.trans h0Γ
  have hF := (hk h0 h0L).2.1.trans hF
  have h0L := (hk h0 h0L).2.2
  have h11 : ∀ a, Γ a ≠ some 11 := fun a ha => (hL9 a (h'.2.2.2.1 a _ ha).1).elim (fun h1 => h11 a ((hk a h1).1.symm.trans ha)) (fun h1 => by rw [h1, hq4] at ha; injection ha with ha; omega)
  have h := h'
  clear h' hk hL9
  refine W.widen (k := 4) (n := 600) (Nat.le_of_ble_eq_true rfl) (Nat.le_of_ble_eq_true rfl) ?_
  refine zj_put (C := RX7) (T := TX7) (N := 12) (t := 7) (v := .ref q4) Y h h0L h0Γ hF ziin_7 tyX7 tyX7_ok nmX7 rfl 10 (by decide) (zmi (List.mem_of_getElem? (i := 20) rfl)) (fun _ h9 => h9) rfl hini rfl rfl rfl (Nat.le_of_ble_eq_true rfl) dX7_init_37 (fun F' H locs hF' hne h' => ?_)
  have hF : F' h0 = .inr (7, [.int 0, .int 0, .int 0, .null, .null, .null, .int 0, .ref q1, .ref q2, .ref q3, .ref q4, .int 0]) := hF'
  have h := h'
  clear hF' hne h'
  generalize F' = F at h hF
  have h := zj_end h h0L h0Γ hF (by decide) (show zVs _ [(0, (-2147483648), 2147483647), (0, (-2147483648), 2147483647), (0, (-2147483648), 2147483647), (4, 0, 0), (4, 0, 0), (4, 0, 0), (0, (-1), 601), (2, 106, 0), (2, 107, 0), (2, 160, 0), (2, 161, 0), (0, 0, 150)] [.int 0, .int 0, .int 0, .null, .null, .null, .int 0, .ref q1, .ref q2, .ref q3, .ref q4, .int 0] from ⟨zV.i ⟨by decide, by decide⟩, zV.i ⟨by decide, by decide⟩, zV.i ⟨by decide, by decide⟩, trivial, trivial, trivial, zV.i ⟨by decide, by decide⟩, zV.r (zif hq1 h0Γ) rfl, zV.r (zif hq2 h0Γ) rfl, zV.r (zif hq3 h0Γ) rfl, zV.r (zif hq4 h0Γ) rfl, zV.i ⟨by decide, by decide⟩, trivial⟩)
  subst hQ
  exact W.vret hx hb hr (fun t9 ht9 hW9 => ⟨⟨(fun a => if a = h0 then some 7 else Γ a, L, F), rfl, ⟨if_pos rfl, fun a => zif_ne (by decide) (h11 a)⟩, by rw [ht9]; exact h.1, h.2.1, h.2.2.1, h.2.2.2.1⟩, h.2.2.2.2.F ht9⟩) h.2.2.2.2.2.2 dX7_init_40

def zp_5 : Nat → zW3 → Prop := fun h0 u => (∀ a, u.1 a ≠ some 11) ∧ zfld u.2.2 h0 14 = .int 0
set_option maxHeartbeats 4000000 in
set_option maxRecDepth 100000 in
theorem zi_X5 (l : Launch) (D : va_G) (k : Nat → ClassId) (h0 sz : Nat) : Met l yX5_init zwi_5 ({ frames := 1, cells := 5, slots := 2020, locals := 40 }) (va_Pc [.ref h0] (zPi D k 5 [.int 0, .int 0, .int 0, .int 0, .int 0, .int 0, .long 0, .null, .null, .null, .null, .int 0, .int 0, .int 0, .int 0, .int 0, .null, .null, .int 0] h0 sz)) (va_Qv (fun u : zW3 => u.1 h0 = some 5 ∧ zp_5 h0 u) (zQi D k (zA0 h0 sz)) (zA0 h0 sz)) 5 2020 (zA0 h0 sz) := by
  refine Met.ofW (cc := cX5_init) (maxL := 1) (ret := none) (by decide) rfl ?_
  intro p e s m args below meth c s₁ B hml hv
  obtain ⟨rfl, hsz, hP, hK, hN0, hZ⟩ := hv
  have hx := B.exec
  have hb := B.bytes
  have hr := B.returns
  have hts : ∀ w ∈ zGI, w.before _ s = true := fun w h9 => atoms_spec (ws := zwi_5) B.pre w (List.mem_cons_of_mem _ h9)
  have hown : s.vm.findClass RX5 = some m.cls := findClass_of_methodNamed B.named
  have hini : meth.name = "<init>" := (name_of_methodNamed B.named B.method).1
  subst hsz
  have Y : zY p m c cX5_init 1 s _ zGI RX5 D k (zA0 h0 s.heap.size) := ⟨⟨hx, hb, hml, hown, hts⟩, hK, hN0, hZ, fun q h9 => Or.inr h9⟩
  have h : zU D k (zA0 h0 s.heap.size) s (fun _ => none) [h0] (fun _ => .inr (5, [.int 0, .int 0, .int 0, .int 0, .int 0, .int 0, .long 0, .null, .null, .null, .null, .int 0, .int 0, .int 0, .int 0, .int 0, .null, .null, .int 0])) s.heap [] := ⟨hP, by simp, fun a ha => Or.inl (List.mem_singleton.mp ha), (fun a t9 h9 => by cases h9), va_S.rf⟩
  have hl := lv_entry ([.ref h0]) (n := 1) (Nat.le_of_ble_eq_true rfl)
  rw [lg_entry_eq]
  generalize (lg_sl ([.ref h0]) ++ List.replicate (1 - (lg_sl ([.ref h0])).length) Slot.unset).toArray = ls at hl ⊢
  have hl : lv_has ls 1 [(0, .ref h0)] := hl
  have h0L : h0 ∈ [h0] := List.mem_singleton.mpr rfl
  have hfam : ∀ a ∈ [h0], a = h0 ∨ ∃ t, (fun _ => none : Nat → Option Nat) a = some t ∧ 124 ≤ t ∧ t ≤ 149 := fun a ha => Or.inl (List.mem_singleton.mp ha)
  generalize hΓ9 : (fun _ => none : Nat → Option Nat) = Γ at h hfam
  have h0Γ : Γ h0 = none := by rw [← hΓ9]
  generalize hF9 : (fun _ => .inr (5, [.int 0, .int 0, .int 0, .int 0, .int 0, .int 0, .long 0, .null, .null, .null, .null, .int 0, .int 0, .int 0, .int 0, .int 0, .null, .null, .int 0]) : Nat → va_E) = F at h
  have hF : F h0 = .inr (5, [.int 0, .int 0, .int 0, .int 0, .int 0, .int 0, .long 0, .null, .null, .null, .null, .int 0, .int 0, .int 0, .int 0, .int 0, .null, .null, .int 0]) := by rw [← hF9]
  have hΓ0 : ∀ a, Γ a = none := fun a => by rw [← hΓ9]
  clear hΓ9 hF9
  generalize [h0] = L at h h0L hfam
  generalize hargs : ([.ref h0] : List Value).toArray = args at *
  refine z_start2 (fun R Q hRf hRl hRc hRs hQ => ?_)
  have hRf : R.frames = 1 := hRf
  have hRl : R.locals = 40 := hRl
  have hRc : R.cells = 5 := hRc
  have hRs : R.slots = 2020 := hRs
  have h11 : ∀ a, Γ a ≠ some 11 := fun a => by rw [hΓ0]; exact fun h9 => by cases h9
  refine lv_aload_n hx hb dX5_init_0 rfl (lv_at hl 0 rfl) ?_
  refine W.objInit hx hb hown (hts _ (zmi (List.mem_of_getElem? (i := 21) rfl))) (hts _ (zmi (List.mem_of_getElem? (i := 1) rfl))) (hts _ (zmi (List.mem_of_getElem? (i := 2) rfl))) rfl (by rw [hml]; exact hl.1) rfl dX5_init_1 (by rw [hRf]; exact (Nat.le_of_ble_eq_true rfl)) (by rw [hRl]; exact (Nat.le_of_ble_eq_true rfl)) ?_
  refine W.eq (g2 := F0 m 4 ls []) rfl ?_
  refine lv_aload_n hx hb dX5_init_4 rfl (lv_at hl 0 rfl) ?_
  refine lv_bipush (v := 60) hx hb dX5_init_5 (by decide) ?_
  refine zj_ar (atype := .int) (ty := .int) (κ := 1) (tc := 108) (N' := 60) (a0 := (60, .inl (fun _ => 0))) Y h (zmi (List.mem_of_getElem? (i := 5) rfl)) rfl rfl (fun _ h9 => h9) (fun _ => rfl) (by decide) (by decide) (by decide) (by rw [hRc]; exact (Nat.le_of_ble_eq_true rfl)) (by rw [hRs]; exact (Nat.le_of_ble_eq_true rfl)) (by decide) (fun _ _ _ hF9 => zar_z (κ := 1) (n := 60) (lo := (-2147483648)) (hi := 2147483647) (by decide) rfl (by decide) hF9) dX5_init_7 (fun q1 Γ L F H hq1 hk hL9 h' => ?_)
  have h0Γ := (hk h0 h0L).1.trans h0Γ
  have hF := (hk h0 h0L).2.1.trans hF
  have h0L := (hk h0 h0L).2.2
  have h11 : ∀ a, Γ a ≠ some 11 := fun a ha => (hL9 a (h'.2.2.2.1 a _ ha).1).elim (fun h1 => h11 a ((hk a h1).1.symm.trans ha)) (fun h1 => by rw [h1, hq1] at ha; injection ha with ha; omega)
  have h := h'
  clear h' hk hL9
  refine W.widen (k := 1) (n := 60) (Nat.le_of_ble_eq_true rfl) (Nat.le_of_ble_eq_true rfl) ?_
  refine zj_put (C := RX5) (T := TX5) (N := 19) (t := 5) (v := .ref q1) Y h h0L h0Γ hF ziin_5 tyX5 tyX5_ok nmX5 rfl 7 (by decide) (zmi (List.mem_of_getElem? (i := 22) rfl)) (fun _ h9 => h9) rfl hini rfl rfl rfl (Nat.le_of_ble_eq_true rfl) dX5_init_9 (fun F' H locs hF' hne h' => ?_)
  have hF : F' h0 = .inr (5, [.int 0, .int 0, .int 0, .int 0, .int 0, .int 0, .long 0, .ref q1, .null, .null, .null, .int 0, .int 0, .int 0, .int 0, .int 0, .null, .null, .int 0]) := hF'
  have h := h'
  clear hF' hne h'
  generalize F' = F at h hF
  refine lv_aload_n hx hb dX5_init_12 rfl (lv_at hl 0 rfl) ?_
  refine lv_sipush (v := 1600) hx hb dX5_init_13 (by decide) ?_
  refine zj_ar (atype := .int) (ty := .int) (κ := 1) (tc := 109) (N' := 1600) (a0 := (1600, .inl (fun _ => 0))) Y h (zmi (List.mem_of_getElem? (i := 5) rfl)) rfl rfl (fun _ h9 => h9) (fun _ => rfl) (by decide) (by decide) (by decide) (by rw [hRc]; exact (Nat.le_of_ble_eq_true rfl)) (by rw [hRs]; exact (Nat.le_of_ble_eq_true rfl)) (by decide) (fun _ _ _ hF9 => zar_z (κ := 1) (n := 1600) (lo := (-2147483648)) (hi := 2147483647) (by decide) rfl (by decide) hF9) dX5_init_16 (fun q2 Γ L F H hq2 hk hL9 h' => ?_)
  have hq1 := (hk q1 (h.2.2.2.1 _ _ hq1).1).1.trans hq1
  have h0Γ := (hk h0 h0L).1.trans h0Γ
  have hF := (hk h0 h0L).2.1.trans hF
  have h0L := (hk h0 h0L).2.2
  have h11 : ∀ a, Γ a ≠ some 11 := fun a ha => (hL9 a (h'.2.2.2.1 a _ ha).1).elim (fun h1 => h11 a ((hk a h1).1.symm.trans ha)) (fun h1 => by rw [h1, hq2] at ha; injection ha with ha; omega)
  have h := h'
  clear h' hk hL9
  refine W.widen (k := 2) (n := 1660) (Nat.le_of_ble_eq_true rfl) (Nat.le_of_ble_eq_true rfl) ?_
  refine zj_put (C := RX5) (T := TX5) (N := 19) (t := 5) (v := .ref q2) Y h h0L h0Γ hF ziin_5 tyX5 tyX5_ok nmX5 rfl 8 (by decide) (zmi (List.mem_of_getElem? (i := 23) rfl)) (fun _ h9 => h9) rfl hini rfl rfl rfl (Nat.le_of_ble_eq_true rfl) dX5_init_18 (fun F' H locs hF' hne h' => ?_)
  have hF : F' h0 = .inr (5, [.int 0, .int 0, .int 0, .int 0, .int 0, .int 0, .long 0, .ref q1, .ref q2, .null, .null, .int 0, .int 0, .int 0, .int 0, .int 0, .null, .null, .int 0]) := hF'
  have h := h'
  clear hF' hne h'
  generalize F' = F at h hF
  refine lv_aload_n hx hb dX5_init_21 rfl (lv_at hl 0 rfl) ?_
  refine lv_bipush (v := 64) hx hb dX5_init_22 (by decide) ?_
  refine zj_ar (atype := .int) (ty := .int) (κ := 1) (tc := 110) (N' := 64) (a0 := (64, .inl (fun _ => 0))) Y h (zmi (List.mem_of_getElem? (i := 5) rfl)) rfl rfl (fun _ h9 => h9) (fun _ => rfl) (by decide) (by decide) (by decide) (by rw [hRc]; exact (Nat.le_of_ble_eq_true rfl)) (by rw [hRs]; exact (Nat.le_of_ble_eq_true rfl)) (by decide) (fun _ _ _ hF9 => zar_z (κ := 1) (n := 64) (lo := (-2147483648)) (hi := 2147483647) (by decide) rfl (by decide) hF9) dX5_init_24 (fun q3 Γ L F H hq3 hk hL9 h' => ?_)
  have hq1 := (hk q1 (h.2.2.2.1 _ _ hq1).1).1.trans hq1
  have hq2 := (hk q2 (h.2.2.2.1 _ _ hq2).1).1.trans hq2
  have h0Γ := (hk h0 h0L).1.trans h0Γ
  have hF := (hk h0 h0L).2.1.trans hF
  have h0L := (hk h0 h0L).2.2
  have h11 : ∀ a, Γ a ≠ some 11 := fun a ha => (hL9 a (h'.2.2.2.1 a _ ha).1).elim (fun h1 => h11 a ((hk a h1).1.symm.trans ha)) (fun h1 => by rw [h1, hq3] at ha; injection ha with ha; omega)
  have h := h'
  clear h' hk hL9
  refine W.widen (k := 3) (n := 1724) (Nat.le_of_ble_eq_true rfl) (Nat.le_of_ble_eq_true rfl) ?_
  refine zj_put (C := RX5) (T := TX5) (N := 19) (t := 5) (v := .ref q3) Y h h0L h0Γ hF ziin_5 tyX5 tyX5_ok nmX5 rfl 9 (by decide) (zmi (List.mem_of_getElem? (i := 24) rfl)) (fun _ h9 => h9) rfl hini rfl rfl rfl (Nat.le_of_ble_eq_true rfl) dX5_init_26 (fun F' H locs hF' hne h' => ?_)
  have hF : F' h0 = .inr (5, [.int 0, .int 0, .int 0, .int 0, .int 0, .int 0, .long 0, .ref q1, .ref q2, .ref q3, .null, .int 0, .int 0, .int 0, .int 0, .int 0, .null, .null, .int 0]) := hF'
  have h := h'
  clear hF' hne h'
  generalize F' = F at h hF
  refine lv_aload_n hx hb dX5_init_29 rfl (lv_at hl 0 rfl) ?_
  refine lv_bipush (v := 8) hx hb dX5_init_30 (by decide) ?_
  refine zj_ar (atype := .int) (ty := .int) (κ := 1) (tc := 111) (N' := 8) (a0 := (8, .inl (fun _ => 0))) Y h (zmi (List.mem_of_getElem? (i := 5) rfl)) rfl rfl (fun _ h9 => h9) (fun _ => rfl) (by decide) (by decide) (by decide) (by rw [hRc]; exact (Nat.le_of_ble_eq_true rfl)) (by rw [hRs]; exact (Nat.le_of_ble_eq_true rfl)) (by decide) (fun _ _ _ hF9 => zar_z (κ := 1) (n := 8) (lo := (-2147483648)) (hi := 2147483647) (by decide) rfl (by decide) hF9) dX5_init_32 (fun q4 Γ L F H hq4 hk hL9 h' => ?_)
  have hq1 := (hk q1 (h.2.2.2.1 _ _ hq1).1).1.trans hq1
  have hq2 := (hk q2 (h.2.2.2.1 _ _ hq2).1).1.trans hq2
  have hq3 := (hk q3 (h.2.2.2.1 _ _ hq3).1).1.trans hq3
  have h0Γ := (hk h0 h0L).1.trans h0Γ
  have hF := (hk h0 h0L).2.1.trans hF
  have h0L := (hk h0 h0L).2.2
  have h11 : ∀ a, Γ a ≠ some 11 := fun a ha => (hL9 a (h'.2.2.2.1 a _ ha).1).elim (fun h1 => h11 a ((hk a h1).1.symm.trans ha)) (fun h1 => by rw [h1, hq4] at ha; injection ha with ha; omega)
  have h := h'
  clear h' hk hL9
  refine W.widen (k := 4) (n := 1732) (Nat.le_of_ble_eq_true rfl) (Nat.le_of_ble_eq_true rfl) ?_
  refine zj_put (C := RX5) (T := TX5) (N := 19) (t := 5) (v := .ref q4) Y h h0L h0Γ hF ziin_5 tyX5 tyX5_ok nmX5 rfl 16 (by decide) (zmi (List.mem_of_getElem? (i := 25) rfl)) (fun _ h9 => h9) rfl hini rfl rfl rfl (Nat.le_of_ble_eq_true rfl) dX5_init_34 (fun F' H locs hF' hne h' => ?_)
  have hF : F' h0 = .inr (5, [.int 0, .int 0, .int 0, .int 0, .int 0, .int 0, .long 0, .ref q1, .ref q2, .ref q3, .null, .int 0, .int 0, .int 0, .int 0, .int 0, .ref q4, .null, .int 0]) := hF'
  have h := h'
  clear hF' hne h'
  generalize F' = F at h hF
  refine lv_aload_n hx hb dX5_init_37 rfl (lv_at hl 0 rfl) ?_
  refine lv_sipush (v := 288) hx hb dX5_init_38 (by decide) ?_
  refine zj_ar (atype := .int) (ty := .int) (κ := 1) (tc := 112) (N' := 288) (a0 := (288, .inl (fun _ => 0))) Y h (zmi (List.mem_of_getElem? (i := 5) rfl)) rfl rfl (fun _ h9 => h9) (fun _ => rfl) (by decide) (by decide) (by decide) (by rw [hRc]; exact (Nat.le_of_ble_eq_true rfl)) (by rw [hRs]; exact (Nat.le_of_ble_eq_true rfl)) (by decide) (fun _ _ _ hF9 => zar_z (κ := 1) (n := 288) (lo := (-2147483648)) (hi := 2147483647) (by decide) rfl (by decide) hF9) dX5_init_41 (fun q5 Γ L F H hq5 hk hL9 h' => ?_)
  have hq1 := (hk q1 (h.2.2.2.1 _ _ hq1).1).1.trans hq1
  have hq2 := (hk q2 (h.2.2.2.1 _ _ hq2).1).1.trans hq2
  have hq3 := (hk q3 (h.2.2.2.1 _ _ hq3).1).1.trans hq3
  have hq4 := (hk q4 (h.2.2.2.1 _ _ hq4).1).1.trans hq4
  have h0Γ := (hk h0 h0L).1.trans h0Γ
  have hF := (hk h0 h0L).2.1.trans hF
  have h0L := (hk h0 h0L).2.2
  have h11 : ∀ a, Γ a ≠ some 11 := fun a ha => (hL9 a (h'.2.2.2.1 a _ ha).1).elim (fun h1 => h11 a ((hk a h1).1.symm.trans ha)) (fun h1 => by rw [h1, hq5] at ha; injection ha with ha; omega)
  have h := h'
  clear h' hk hL9
  refine W.widen (k := 5) (n := 2020) (Nat.le_of_ble_eq_true rfl) (Nat.le_of_ble_eq_true rfl) ?_
  refine zj_put (C := RX5) (T := TX5) (N := 19) (t := 5) (v := .ref q5) Y h h0L h0Γ hF ziin_5 tyX5 tyX5_ok nmX5 rfl 17 (by decide) (zmi (List.mem_of_getElem? (i := 26) rfl)) (fun _ h9 => h9) rfl hini rfl rfl rfl (Nat.le_of_ble_eq_true rfl) dX5_init_43 (fun F' H locs hF' hne h' => ?_)
  have hF : F' h0 = .inr (5, [.int 0, .int 0, .int 0, .int 0, .int 0, .int 0, .long 0, .ref q1, .ref q2, .ref q3, .null, .int 0, .int 0, .int 0, .int 0, .int 0, .ref q4, .ref q5, .int 0]) := hF'
  have h := h'
  clear hF' hne h'
  generalize F' = F at h hF
  have h := zj_end h h0L h0Γ hF (by decide) (show zVs _ [(0, (-2147483648), 2147483647), (0, (-2147483648), 2147483647), (0, (-2147483648), 2147483647), (0, 0, 4000001), (0, 0, 4000001), (0, (-2147483648), 2147483647), (1, 0, 0), (2, 108, 0), (2, 109, 0), (2, 110, 0), (4, 0, 0), (0, (-2147483648), 2147483647), (0, (-2147483648), 2147483647), (0, 0, 1), (0, (-2147483648), 2147483647), (0, 0, 8), (2, 111, 0), (2, 112, 0), (0, (-2147483648), 2147483647)] [.int 0, .int 0, .int 0, .int 0, .int 0, .int 0, .long 0, .ref q1, .ref q2, .ref q3, .null, .int 0, .int 0, .int 0, .int 0, .int 0, .ref q4, .ref q5, .int 0] from ⟨zV.i ⟨by decide, by decide⟩, zV.i ⟨by decide, by decide⟩, zV.i ⟨by decide, by decide⟩, zV.i ⟨by decide, by decide⟩, zV.i ⟨by decide, by decide⟩, zV.i ⟨by decide, by decide⟩, zV.l, zV.r (zif hq1 h0Γ) rfl, zV.r (zif hq2 h0Γ) rfl, zV.r (zif hq3 h0Γ) rfl, trivial, zV.i ⟨by decide, by decide⟩, zV.i ⟨by decide, by decide⟩, zV.i ⟨by decide, by decide⟩, zV.i ⟨by decide, by decide⟩, zV.i ⟨by decide, by decide⟩, zV.r (zif hq4 h0Γ) rfl, zV.r (zif hq5 h0Γ) rfl, zV.i ⟨by decide, by decide⟩, trivial⟩)
  subst hQ
  exact W.vret hx hb hr (fun t9 ht9 hW9 => ⟨⟨(fun a => if a = h0 then some 5 else Γ a, L, F), rfl, ⟨if_pos rfl, fun a => zif_ne (by decide) (h11 a), (show zfld F h0 14 = .int 0 from by unfold zfld; rw [hF]; rfl)⟩, by rw [ht9]; exact h.1, h.2.1, h.2.2.1, h.2.2.2.1⟩, h.2.2.2.2.F ht9⟩) h.2.2.2.2.2.2 dX5_init_46

def zp_0 : Nat → zW3 → Prop := fun h0 u => ∀ a, u.1 a ≠ some 11
set_option maxHeartbeats 4000000 in
set_option maxRecDepth 100000 in
theorem zi_X0 (l : Launch) (D : va_G) (k : Nat → ClassId) (h0 sz : Nat) : Met l yX0_init zwi_0 ({ frames := 1, cells := 2, slots := 1034, locals := 40 }) (va_Pc [.ref h0] (zPi D k 0 [.null, .null, .int 0] h0 sz)) (va_Qv (fun u : zW3 => u.1 h0 = some 0 ∧ zp_0 h0 u) (zQi D k (zA0 h0 sz)) (zA0 h0 sz)) 2 1034 (zA0 h0 sz) := by
  refine Met.ofW (cc := cX0_init) (maxL := 1) (ret := none) (by decide) rfl ?_
  intro p e s m args below meth c s₁ B hml hv
  obtain ⟨rfl, hsz, hP, hK, hN0, hZ⟩ := hv
  have hx := B.exec
  have hb := B.bytes
  have hr := B.returns
  have hts : ∀ w ∈ zGI, w.before _ s = true := fun w h9 => atoms_spec (ws := zwi_0) B.pre w (List.mem_cons_of_mem _ h9)
  have hown : s.vm.findClass RX0 = some m.cls := findClass_of_methodNamed B.named
  have hini : meth.name = "<init>" := (name_of_methodNamed B.named B.method).1
  subst hsz
  have Y : zY p m c cX0_init 1 s _ zGI RX0 D k (zA0 h0 s.heap.size) := ⟨⟨hx, hb, hml, hown, hts⟩, hK, hN0, hZ, fun q h9 => Or.inr h9⟩
  have h : zU D k (zA0 h0 s.heap.size) s (fun _ => none) [h0] (fun _ => .inr (0, [.null, .null, .int 0])) s.heap [] := ⟨hP, by simp, fun a ha => Or.inl (List.mem_singleton.mp ha), (fun a t9 h9 => by cases h9), va_S.rf⟩
  have hl := lv_entry ([.ref h0]) (n := 1) (Nat.le_of_ble_eq_true rfl)
  rw [lg_entry_eq]
  generalize (lg_sl ([.ref h0]) ++ List.replicate (1 - (lg_sl ([.ref h0])).length) Slot.unset).toArray = ls at hl ⊢
  have hl : lv_has ls 1 [(0, .ref h0)] := hl
  have h0L : h0 ∈ [h0] := List.mem_singleton.mpr rfl
  have hfam : ∀ a ∈ [h0], a = h0 ∨ ∃ t, (fun _ => none : Nat → Option Nat) a = some t ∧ 124 ≤ t ∧ t ≤ 149 := fun a ha => Or.inl (List.mem_singleton.mp ha)
  generalize hΓ9 : (fun _ => none : Nat → Option Nat) = Γ at h hfam
  have h0Γ : Γ h0 = none := by rw [← hΓ9]
  generalize hF9 : (fun _ => .inr (0, [.null, .null, .int 0]) : Nat → va_E) = F at h
  have hF : F h0 = .inr (0, [.null, .null, .int 0]) := by rw [← hF9]
  have hΓ0 : ∀ a, Γ a = none := fun a => by rw [← hΓ9]
  clear hΓ9 hF9
  generalize [h0] = L at h h0L hfam
  generalize hargs : ([.ref h0] : List Value).toArray = args at *
  refine z_start2 (fun R Q hRf hRl hRc hRs hQ => ?_)
  have hRf : R.frames = 1 := hRf
  have hRl : R.locals = 40 := hRl
  have hRc : R.cells = 2 := hRc
  have hRs : R.slots = 1034 := hRs
  have h11 : ∀ a, Γ a ≠ some 11 := fun a => by rw [hΓ0]; exact fun h9 => by cases h9
  refine lv_aload_n hx hb dX0_init_0 rfl (lv_at hl 0 rfl) ?_
  refine W.objInit hx hb hown (hts _ (zmi (List.mem_of_getElem? (i := 27) rfl))) (hts _ (zmi (List.mem_of_getElem? (i := 1) rfl))) (hts _ (zmi (List.mem_of_getElem? (i := 2) rfl))) rfl (by rw [hml]; exact hl.1) rfl dX0_init_1 (by rw [hRf]; exact (Nat.le_of_ble_eq_true rfl)) (by rw [hRl]; exact (Nat.le_of_ble_eq_true rfl)) ?_
  refine W.eq (g2 := F0 m 4 ls []) rfl ?_
  refine lv_aload_n hx hb dX0_init_4 rfl (lv_at hl 0 rfl) ?_
  refine lv_sipush (v := 1024) hx hb dX0_init_5 (by decide) ?_
  refine zj_ar (atype := .int) (ty := .int) (κ := 1) (tc := 113) (N' := 1024) (a0 := (1024, .inl (fun _ => 0))) Y h (zmi (List.mem_of_getElem? (i := 5) rfl)) rfl rfl (fun _ h9 => h9) (fun _ => rfl) (by decide) (by decide) (by decide) (by rw [hRc]; exact (Nat.le_of_ble_eq_true rfl)) (by rw [hRs]; exact (Nat.le_of_ble_eq_true rfl)) (by decide) (fun _ _ _ hF9 => zar_z (κ := 1) (n := 1024) (lo := (-2147483648)) (hi := 2147483647) (by decide) rfl (by decide) hF9) dX0_init_8 (fun q1 Γ L F H hq1 hk hL9 h' => ?_)
  have h0Γ := (hk h0 h0L).1.trans h0Γ
  have hF := (hk h0 h0L).2.1.trans hF
  have h0L := (hk h0 h0L).2.2
  have h11 : ∀ a, Γ a ≠ some 11 := fun a ha => (hL9 a (h'.2.2.2.1 a _ ha).1).elim (fun h1 => h11 a ((hk a h1).1.symm.trans ha)) (fun h1 => by rw [h1, hq1] at ha; injection ha with ha; omega)
  have h := h'
  clear h' hk hL9
  refine W.widen (k := 1) (n := 1024) (Nat.le_of_ble_eq_true rfl) (Nat.le_of_ble_eq_true rfl) ?_
  refine zj_put (C := RX0) (T := TX0) (N := 3) (t := 0) (v := .ref q1) Y h h0L h0Γ hF ziin_0 tyX0 tyX0_ok nmX0 rfl 0 (by decide) (zmi (List.mem_of_getElem? (i := 28) rfl)) (fun _ h9 => h9) rfl hini rfl rfl rfl (Nat.le_of_ble_eq_true rfl) dX0_init_10 (fun F' H locs hF' hne h' => ?_)
  have hF : F' h0 = .inr (0, [.ref q1, .null, .int 0]) := hF'
  have h := h'
  clear hF' hne h'
  generalize F' = F at h hF
  refine lv_aload_n hx hb dX0_init_13 rfl (lv_at hl 0 rfl) ?_
  refine lv_bipush (v := 10) hx hb dX0_init_14 (by decide) ?_
  refine zj_ar (atype := .int) (ty := .int) (κ := 1) (tc := 114) (N' := 10) (a0 := (10, .inl (fun _ => 0))) Y h (zmi (List.mem_of_getElem? (i := 5) rfl)) rfl rfl (fun _ h9 => h9) (fun _ => rfl) (by decide) (by decide) (by decide) (by rw [hRc]; exact (Nat.le_of_ble_eq_true rfl)) (by rw [hRs]; exact (Nat.le_of_ble_eq_true rfl)) (by decide) (fun _ _ _ hF9 => zar_z (κ := 1) (n := 10) (lo := (-2147483648)) (hi := 2147483647) (by decide) rfl (by decide) hF9) dX0_init_16 (fun q2 Γ L F H hq2 hk hL9 h' => ?_)
  have hq1 := (hk q1 (h.2.2.2.1 _ _ hq1).1).1.trans hq1
  have h0Γ := (hk h0 h0L).1.trans h0Γ
  have hF := (hk h0 h0L).2.1.trans hF
  have h0L := (hk h0 h0L).2.2
  have h11 : ∀ a, Γ a ≠ some 11 := fun a ha => (hL9 a (h'.2.2.2.1 a _ ha).1).elim (fun h1 => h11 a ((hk a h1).1.symm.trans ha)) (fun h1 => by rw [h1, hq2] at ha; injection ha with ha; omega)
  have h := h'
  clear h' hk hL9
  refine W.widen (k := 2) (n := 1034) (Nat.le_of_ble_eq_true rfl) (Nat.le_of_ble_eq_true rfl) ?_
  refine zj_put (C := RX0) (T := TX0) (N := 3) (t := 0) (v := .ref q2) Y h h0L h0Γ hF ziin_0 tyX0 tyX0_ok nmX0 rfl 1 (by decide) (zmi (List.mem_of_getElem? (i := 29) rfl)) (fun _ h9 => h9) rfl hini rfl rfl rfl (Nat.le_of_ble_eq_true rfl) dX0_init_18 (fun F' H locs hF' hne h' => ?_)
  have hF : F' h0 = .inr (0, [.ref q1, .ref q2, .int 0]) := hF'
  have h := h'
  clear hF' hne h'
  generalize F' = F at h hF
  have h := zj_end h h0L h0Γ hF (by decide) (show zVs _ [(2, 113, 0), (2, 114, 0), (0, 0, 1)] [.ref q1, .ref q2, .int 0] from ⟨zV.r (zif hq1 h0Γ) rfl, zV.r (zif hq2 h0Γ) rfl, zV.i ⟨by decide, by decide⟩, trivial⟩)
  subst hQ
  exact W.vret hx hb hr (fun t9 ht9 hW9 => ⟨⟨(fun a => if a = h0 then some 0 else Γ a, L, F), rfl, ⟨if_pos rfl, fun a => zif_ne (by decide) (h11 a)⟩, by rw [ht9]; exact h.1, h.2.1, h.2.2.1, h.2.2.2.1⟩, h.2.2.2.2.F ht9⟩) h.2.2.2.2.2.2 dX0_init_21

def zp_9 : Nat → zW3 → Prop := fun h0 u => (∀ a, u.1 a ≠ some 11) ∧ zfld u.2.2 h0 4 = .int 0
set_option maxHeartbeats 4000000 in
set_option maxRecDepth 100000 in
theorem zi_X9 (l : Launch) (D : va_G) (k : Nat → ClassId) (h0 sz : Nat) : Met l yX9_init zwi_9 ({ frames := 1, cells := 2, slots := 24, locals := 40 }) (va_Pc [.ref h0] (zPi D k 9 [.null, .null, .int 0, .int 0, .int 0] h0 sz)) (va_Qv (fun u : zW3 => u.1 h0 = some 9 ∧ zp_9 h0 u) (zQi D k (zA0 h0 sz)) (zA0 h0 sz)) 2 24 (zA0 h0 sz) := by
  refine Met.ofW (cc := cX9_init) (maxL := 1) (ret := none) (by decide) rfl ?_
  intro p e s m args below meth c s₁ B hml hv
  obtain ⟨rfl, hsz, hP, hK, hN0, hZ⟩ := hv
  have hx := B.exec
  have hb := B.bytes
  have hr := B.returns
  have hts : ∀ w ∈ zGI, w.before _ s = true := fun w h9 => atoms_spec (ws := zwi_9) B.pre w (List.mem_cons_of_mem _ h9)
  have hown : s.vm.findClass RX9 = some m.cls := findClass_of_methodNamed B.named
  have hini : meth.name = "<init>" := (name_of_methodNamed B.named B.method).1
  subst hsz
  have Y : zY p m c cX9_init 1 s _ zGI RX9 D k (zA0 h0 s.heap.size) := ⟨⟨hx, hb, hml, hown, hts⟩, hK, hN0, hZ, fun q h9 => Or.inr h9⟩
  have h : zU D k (zA0 h0 s.heap.size) s (fun _ => none) [h0] (fun _ => .inr (9, [.null, .null, .int 0, .int 0, .int 0])) s.heap [] := ⟨hP, by simp, fun a ha => Or.inl (List.mem_singleton.mp ha), (fun a t9 h9 => by cases h9), va_S.rf⟩
  have hl := lv_entry ([.ref h0]) (n := 1) (Nat.le_of_ble_eq_true rfl)
  rw [lg_entry_eq]
  generalize (lg_sl ([.ref h0]) ++ List.replicate (1 - (lg_sl ([.ref h0])).length) Slot.unset).toArray = ls at hl ⊢
  have hl : lv_has ls 1 [(0, .ref h0)] := hl
  have h0L : h0 ∈ [h0] := List.mem_singleton.mpr rfl
  have hfam : ∀ a ∈ [h0], a = h0 ∨ ∃ t, (fun _ => none : Nat → Option Nat) a = some t ∧ 124 ≤ t ∧ t ≤ 149 := fun a ha => Or.inl (List.mem_singleton.mp ha)
  generalize hΓ9 : (fun _ => none : Nat → Option Nat) = Γ at h hfam
  have h0Γ : Γ h0 = none := by rw [← hΓ9]
  generalize hF9 : (fun _ => .inr (9, [.null, .null, .int 0, .int 0, .int 0]) : Nat → va_E) = F at h
  have hF : F h0 = .inr (9, [.null, .null, .int 0, .int 0, .int 0]) := by rw [← hF9]
  have hΓ0 : ∀ a, Γ a = none := fun a => by rw [← hΓ9]
  clear hΓ9 hF9
  generalize [h0] = L at h h0L hfam
  generalize hargs : ([.ref h0] : List Value).toArray = args at *
  refine z_start2 (fun R Q hRf hRl hRc hRs hQ => ?_)
  have hRf : R.frames = 1 := hRf
  have hRl : R.locals = 40 := hRl
  have hRc : R.cells = 2 := hRc
  have hRs : R.slots = 24 := hRs
  have h11 : ∀ a, Γ a ≠ some 11 := fun a => by rw [hΓ0]; exact fun h9 => by cases h9
  refine lv_aload_n hx hb dX9_init_0 rfl (lv_at hl 0 rfl) ?_
  refine W.objInit hx hb hown (hts _ (zmi (List.mem_of_getElem? (i := 30) rfl))) (hts _ (zmi (List.mem_of_getElem? (i := 1) rfl))) (hts _ (zmi (List.mem_of_getElem? (i := 2) rfl))) rfl (by rw [hml]; exact hl.1) rfl dX9_init_1 (by rw [hRf]; exact (Nat.le_of_ble_eq_true rfl)) (by rw [hRl]; exact (Nat.le_of_ble_eq_true rfl)) ?_
  refine W.eq (g2 := F0 m 4 ls []) rfl ?_
  refine lv_aload_n hx hb dX9_init_4 rfl (lv_at hl 0 rfl) ?_
  refine lv_bipush (v := 12) hx hb dX9_init_5 (by decide) ?_
  refine zj_ar (atype := .long) (ty := .long) (κ := 2) (tc := 115) (N' := 12) (a0 := (12, .inr (.inl (fun _ => 0)))) Y h (zmi (List.mem_of_getElem? (i := 31) rfl)) rfl rfl (fun _ h9 => h9) (fun _ => rfl) (by decide) (by decide) (by decide) (by rw [hRc]; exact (Nat.le_of_ble_eq_true rfl)) (by rw [hRs]; exact (Nat.le_of_ble_eq_true rfl)) (by decide) (fun _ _ _ hF9 => zar_l (n := 12) (lo := 0) (hi := 0) rfl hF9) dX9_init_7 (fun q1 Γ L F H hq1 hk hL9 h' => ?_)
  have h0Γ := (hk h0 h0L).1.trans h0Γ
  have hF := (hk h0 h0L).2.1.trans hF
  have h0L := (hk h0 h0L).2.2
  have h11 : ∀ a, Γ a ≠ some 11 := fun a ha => (hL9 a (h'.2.2.2.1 a _ ha).1).elim (fun h1 => h11 a ((hk a h1).1.symm.trans ha)) (fun h1 => by rw [h1, hq1] at ha; injection ha with ha; omega)
  have h := h'
  clear h' hk hL9
  refine W.widen (k := 1) (n := 12) (Nat.le_of_ble_eq_true rfl) (Nat.le_of_ble_eq_true rfl) ?_
  refine zj_put (C := RX9) (T := TX9) (N := 5) (t := 9) (v := .ref q1) Y h h0L h0Γ hF ziin_9 tyX9 tyX9_ok nmX9 rfl 0 (by decide) (zmi (List.mem_of_getElem? (i := 32) rfl)) (fun _ h9 => h9) rfl hini rfl rfl rfl (Nat.le_of_ble_eq_true rfl) dX9_init_9 (fun F' H locs hF' hne h' => ?_)
  have hF : F' h0 = .inr (9, [.ref q1, .null, .int 0, .int 0, .int 0]) := hF'
  have h := h'
  clear hF' hne h'
  generalize F' = F at h hF
  refine lv_aload_n hx hb dX9_init_12 rfl (lv_at hl 0 rfl) ?_
  refine lv_bipush (v := 12) hx hb dX9_init_13 (by decide) ?_
  refine zj_ar (atype := .int) (ty := .int) (κ := 1) (tc := 116) (N' := 12) (a0 := (12, .inl (fun _ => 0))) Y h (zmi (List.mem_of_getElem? (i := 5) rfl)) rfl rfl (fun _ h9 => h9) (fun _ => rfl) (by decide) (by decide) (by decide) (by rw [hRc]; exact (Nat.le_of_ble_eq_true rfl)) (by rw [hRs]; exact (Nat.le_of_ble_eq_true rfl)) (by decide) (fun _ _ _ hF9 => zar_z (κ := 1) (n := 12) (lo := (-2147483648)) (hi := 2147483647) (by decide) rfl (by decide) hF9) dX9_init_15 (fun q2 Γ L F H hq2 hk hL9 h' => ?_)
  have hq1 := (hk q1 (h.2.2.2.1 _ _ hq1).1).1.trans hq1
  have h0Γ := (hk h0 h0L).1.trans h0Γ
  have hF := (hk h0 h0L).2.1.trans hF
  have h0L := (hk h0 h0L).2.2
  have h11 : ∀ a, Γ a ≠ some 11 := fun a ha => (hL9 a (h'.2.2.2.1 a _ ha).1).elim (fun h1 => h11 a ((hk a h1).1.symm.trans ha)) (fun h1 => by rw [h1, hq2] at ha; injection ha with ha; omega)
  have h := h'
  clear h' hk hL9
  refine W.widen (k := 2) (n := 24) (Nat.le_of_ble_eq_true rfl) (Nat.le_of_ble_eq_true rfl) ?_
  refine zj_put (C := RX9) (T := TX9) (N := 5) (t := 9) (v := .ref q2) Y h h0L h0Γ hF ziin_9 tyX9 tyX9_ok nmX9 rfl 1 (by decide) (zmi (List.mem_of_getElem? (i := 33) rfl)) (fun _ h9 => h9) rfl hini rfl rfl rfl (Nat.le_of_ble_eq_true rfl) dX9_init_17 (fun F' H locs hF' hne h' => ?_)
  have hF : F' h0 = .inr (9, [.ref q1, .ref q2, .int 0, .int 0, .int 0]) := hF'
  have h := h'
  clear hF' hne h'
  generalize F' = F at h hF
  refine lv_aload_n hx hb dX9_init_20 rfl (lv_at hl 0 rfl) ?_
  refine lv_iconst (v := (-1)) hx hb dX9_init_21 (by decide) ?_
  refine zj_putn (C := RX9) (T := TX9) (N := 5) (t := 9) (v := .int (-1)) Y h h0L h0Γ hF ziin_9 tyX9 tyX9_ok nmX9 rfl 3 (by decide) (zmi (List.mem_of_getElem? (i := 34) rfl)) (fun _ h9 => h9) rfl rfl rfl (Nat.le_of_ble_eq_true rfl) dX9_init_22 (fun F' H locs hF' hne h' => ?_)
  have hF : F' h0 = .inr (9, [.ref q1, .ref q2, .int 0, .int (-1), .int 0]) := hF'
  have h := h'
  clear hF' hne h'
  generalize F' = F at h hF
  have h := zj_end h h0L h0Γ hF (by decide) (show zVs _ [(2, 115, 0), (2, 116, 0), (0, 0, 12), (0, (-2147483648), 2147483647), (0, 0, 12)] [.ref q1, .ref q2, .int 0, .int (-1), .int 0] from ⟨zV.r (zif hq1 h0Γ) rfl, zV.r (zif hq2 h0Γ) rfl, zV.i ⟨by decide, by decide⟩, zV.i ⟨by decide, by decide⟩, zV.i ⟨by decide, by decide⟩, trivial⟩)
  subst hQ
  exact W.vret hx hb hr (fun t9 ht9 hW9 => ⟨⟨(fun a => if a = h0 then some 9 else Γ a, L, F), rfl, ⟨if_pos rfl, fun a => zif_ne (by decide) (h11 a), (show zfld F h0 4 = .int 0 from by unfold zfld; rw [hF]; rfl)⟩, by rw [ht9]; exact h.1, h.2.1, h.2.2.1, h.2.2.2.1⟩, h.2.2.2.2.F ht9⟩) h.2.2.2.2.2.2 dX9_init_25

def zp_3 : Nat → zW3 → Prop := fun h0 u => (∀ a, u.1 a ≠ some 11) ∧ zfld u.2.2 h0 2 = .int 0
set_option maxHeartbeats 4000000 in
set_option maxRecDepth 100000 in
theorem zi_X3 (l : Launch) (D : va_G) (k : Nat → ClassId) (h0 sz : Nat) : Met l yX3_init zwi_3 ({ frames := 1, cells := 2, slots := 20, locals := 40 }) (va_Pc [.ref h0] (zPi D k 3 [.null, .null, .int 0] h0 sz)) (va_Qv (fun u : zW3 => u.1 h0 = some 3 ∧ zp_3 h0 u) (zQi D k (zA0 h0 sz)) (zA0 h0 sz)) 2 20 (zA0 h0 sz) := by
  refine Met.ofW (cc := cX3_init) (maxL := 1) (ret := none) (by decide) rfl ?_
  intro p e s m args below meth c s₁ B hml hv
  obtain ⟨rfl, hsz, hP, hK, hN0, hZ⟩ := hv
  have hx := B.exec
  have hb := B.bytes
  have hr := B.returns
  have hts : ∀ w ∈ zGI, w.before _ s = true := fun w h9 => atoms_spec (ws := zwi_3) B.pre w (List.mem_cons_of_mem _ h9)
  have hown : s.vm.findClass RX3 = some m.cls := findClass_of_methodNamed B.named
  have hini : meth.name = "<init>" := (name_of_methodNamed B.named B.method).1
  subst hsz
  have Y : zY p m c cX3_init 1 s _ zGI RX3 D k (zA0 h0 s.heap.size) := ⟨⟨hx, hb, hml, hown, hts⟩, hK, hN0, hZ, fun q h9 => Or.inr h9⟩
  have h : zU D k (zA0 h0 s.heap.size) s (fun _ => none) [h0] (fun _ => .inr (3, [.null, .null, .int 0])) s.heap [] := ⟨hP, by simp, fun a ha => Or.inl (List.mem_singleton.mp ha), (fun a t9 h9 => by cases h9), va_S.rf⟩
  have hl := lv_entry ([.ref h0]) (n := 1) (Nat.le_of_ble_eq_true rfl)
  rw [lg_entry_eq]
  generalize (lg_sl ([.ref h0]) ++ List.replicate (1 - (lg_sl ([.ref h0])).length) Slot.unset).toArray = ls at hl ⊢
  have hl : lv_has ls 1 [(0, .ref h0)] := hl
  have h0L : h0 ∈ [h0] := List.mem_singleton.mpr rfl
  have hfam : ∀ a ∈ [h0], a = h0 ∨ ∃ t, (fun _ => none : Nat → Option Nat) a = some t ∧ 124 ≤ t ∧ t ≤ 149 := fun a ha => Or.inl (List.mem_singleton.mp ha)
  generalize hΓ9 : (fun _ => none : Nat → Option Nat) = Γ at h hfam
  have h0Γ : Γ h0 = none := by rw [← hΓ9]
  generalize hF9 : (fun _ => .inr (3, [.null, .null, .int 0]) : Nat → va_E) = F at h
  have hF : F h0 = .inr (3, [.null, .null, .int 0]) := by rw [← hF9]
  have hΓ0 : ∀ a, Γ a = none := fun a => by rw [← hΓ9]
  clear hΓ9 hF9
  generalize [h0] = L at h h0L hfam
  generalize hargs : ([.ref h0] : List Value).toArray = args at *
  refine z_start2 (fun R Q hRf hRl hRc hRs hQ => ?_)
  have hRf : R.frames = 1 := hRf
  have hRl : R.locals = 40 := hRl
  have hRc : R.cells = 2 := hRc
  have hRs : R.slots = 20 := hRs
  have h11 : ∀ a, Γ a ≠ some 11 := fun a => by rw [hΓ0]; exact fun h9 => by cases h9
  refine lv_aload_n hx hb dX3_init_0 rfl (lv_at hl 0 rfl) ?_
  refine W.objInit hx hb hown (hts _ (zmi (List.mem_of_getElem? (i := 35) rfl))) (hts _ (zmi (List.mem_of_getElem? (i := 1) rfl))) (hts _ (zmi (List.mem_of_getElem? (i := 2) rfl))) rfl (by rw [hml]; exact hl.1) rfl dX3_init_1 (by rw [hRf]; exact (Nat.le_of_ble_eq_true rfl)) (by rw [hRl]; exact (Nat.le_of_ble_eq_true rfl)) ?_
  refine W.eq (g2 := F0 m 4 ls []) rfl ?_
  refine lv_aload_n hx hb dX3_init_4 rfl (lv_at hl 0 rfl) ?_
  refine lv_bipush (v := 10) hx hb dX3_init_5 (by decide) ?_
  refine zj_ar (atype := .int) (ty := .int) (κ := 1) (tc := 162) (N' := 10) (a0 := (10, .inl (fun _ => 0))) Y h (zmi (List.mem_of_getElem? (i := 5) rfl)) rfl rfl (fun _ h9 => h9) (fun _ => rfl) (by decide) (by decide) (by decide) (by rw [hRc]; exact (Nat.le_of_ble_eq_true rfl)) (by rw [hRs]; exact (Nat.le_of_ble_eq_true rfl)) (by decide) (fun _ _ _ hF9 => zar_z (κ := 1) (n := 10) (lo := (-2147483648)) (hi := 2147483647) (by decide) rfl (by decide) hF9) dX3_init_7 (fun q1 Γ L F H hq1 hk hL9 h' => ?_)
  have h0Γ := (hk h0 h0L).1.trans h0Γ
  have hF := (hk h0 h0L).2.1.trans hF
  have h0L := (hk h0 h0L).2.2
  have h11 : ∀ a, Γ a ≠ some 11 := fun a ha => (hL9 a (h'.2.2.2.1 a _ ha).1).elim (fun h1 => h11 a ((hk a h1).1.symm.trans ha)) (fun h1 => by rw [h1, hq1] at ha; injection ha with ha; omega)
  have h := h'
  clear h' hk hL9
  refine W.widen (k := 1) (n := 10) (Nat.le_of_ble_eq_true rfl) (Nat.le_of_ble_eq_true rfl) ?_
  refine zj_put (C := RX3) (T := TX3) (N := 3) (t := 3) (v := .ref q1) Y h h0L h0Γ hF ziin_3 tyX3 tyX3_ok nmX3 rfl 0 (by decide) (zmi (List.mem_of_getElem? (i := 36) rfl)) (fun _ h9 => h9) rfl hini rfl rfl rfl (Nat.le_of_ble_eq_true rfl) dX3_init_9 (fun F' H locs hF' hne h' => ?_)
  have hF : F' h0 = .inr (3, [.ref q1, .null, .int 0]) := hF'
  have h := h'
  clear hF' hne h'
  generalize F' = F at h hF
  refine lv_aload_n hx hb dX3_init_12 rfl (lv_at hl 0 rfl) ?_
  refine lv_bipush (v := 10) hx hb dX3_init_13 (by decide) ?_
  refine zj_ar (atype := .int) (ty := .int) (κ := 1) (tc := 163) (N' := 10) (a0 := (10, .inl (fun _ => 0))) Y h (zmi (List.mem_of_getElem? (i := 5) rfl)) rfl rfl (fun _ h9 => h9) (fun _ => rfl) (by decide) (by decide) (by decide) (by rw [hRc]; exact (Nat.le_of_ble_eq_true rfl)) (by rw [hRs]; exact (Nat.le_of_ble_eq_true rfl)) (by decide) (fun _ _ _ hF9 => zar_z (κ := 1) (n := 10) (lo := (-2147483648)) (hi := 2147483647) (by decide) rfl (by decide) hF9) dX3_init_15 (fun q2 Γ L F H hq2 hk hL9 h' => ?_)
  have hq1 := (hk q1 (h.2.2.2.1 _ _ hq1).1).1.trans hq1
  have h0Γ := (hk h0 h0L).1.trans h0Γ
  have hF := (hk h0 h0L).2.1.trans hF
  have h0L := (hk h0 h0L).2.2
  have h11 : ∀ a, Γ a ≠ some 11 := fun a ha => (hL9 a (h'.2.2.2.1 a _ ha).1).elim (fun h1 => h11 a ((hk a h1).1.symm.trans ha)) (fun h1 => by rw [h1, hq2] at ha; injection ha with ha; omega)
  have h := h'
  clear h' hk hL9
  refine W.widen (k := 2) (n := 20) (Nat.le_of_ble_eq_true rfl) (Nat.le_of_ble_eq_true rfl) ?_
  refine zj_put (C := RX3) (T := TX3) (N := 3) (t := 3) (v := .ref q2) Y h h0L h0Γ hF ziin_3 tyX3 tyX3_ok nmX3 rfl 1 (by decide) (zmi (List.mem_of_getElem? (i := 37) rfl)) (fun _ h9 => h9) rfl hini rfl rfl rfl (Nat.le_of_ble_eq_true rfl) dX3_init_17 (fun F' H locs hF' hne h' => ?_)
  have hF : F' h0 = .inr (3, [.ref q1, .ref q2, .int 0]) := hF'
  have h := h'
  clear hF' hne h'
  generalize F' = F at h hF
  have h := zj_end h h0L h0Γ hF (by decide) (show zVs _ [(2, 162, 0), (2, 163, 0), (0, (-2147483648), 2147483647)] [.ref q1, .ref q2, .int 0] from ⟨zV.r (zif hq1 h0Γ) rfl, zV.r (zif hq2 h0Γ) rfl, zV.i ⟨by decide, by decide⟩, trivial⟩)
  subst hQ
  exact W.vret hx hb hr (fun t9 ht9 hW9 => ⟨⟨(fun a => if a = h0 then some 3 else Γ a, L, F), rfl, ⟨if_pos rfl, fun a => zif_ne (by decide) (h11 a), (show zfld F h0 2 = .int 0 from by unfold zfld; rw [hF]; rfl)⟩, by rw [ht9]; exact h.1, h.2.1, h.2.2.1, h.2.2.2.1⟩, h.2.2.2.2.F ht9⟩) h.2.2.2.2.2.2 dX3_init_20

def zp_12 : Nat → zW3 → Prop := fun h0 u => ∀ a, u.1 a ≠ some 11
set_option maxHeartbeats 4000000 in
set_option maxRecDepth 100000 in
theorem zi_X12 (l : Launch) (D : va_G) (k : Nat → ClassId) (h0 sz : Nat) : Met l yX12_init zwi_12 ({ frames := 1, cells := 3, slots := 1724, locals := 40 }) (va_Pc [.ref h0] (zPi D k 12 [.int 0, .int 0, .int 0, .int 0, .int 0, .int 0, .long 0, .null, .null, .null] h0 sz)) (va_Qv (fun u : zW3 => u.1 h0 = some 12 ∧ zp_12 h0 u) (zQi D k (zA0 h0 sz)) (zA0 h0 sz)) 3 1724 (zA0 h0 sz) := by
  refine Met.ofW (cc := cX12_init) (maxL := 1) (ret := none) (by decide) rfl ?_
  intro p e s m args below meth c s₁ B hml hv
  obtain ⟨rfl, hsz, hP, hK, hN0, hZ⟩ := hv
  have hx := B.exec
  have hb := B.bytes
  have hr := B.returns
  have hts : ∀ w ∈ zGI, w.before _ s = true := fun w h9 => atoms_spec (ws := zwi_12) B.pre w (List.mem_cons_of_mem _ h9)
  have hown : s.vm.findClass RX12 = some m.cls := findClass_of_methodNamed B.named
  have hini : meth.name = "<init>" := (name_of_methodNamed B.named B.method).1
  subst hsz
  have Y : zY p m c cX12_init 1 s _ zGI RX12 D k (zA0 h0 s.heap.size) := ⟨⟨hx, hb, hml, hown, hts⟩, hK, hN0, hZ, fun q h9 => Or.inr h9⟩
  have h : zU D k (zA0 h0 s.heap.size) s (fun _ => none) [h0] (fun _ => .inr (12, [.int 0, .int 0, .int 0, .int 0, .int 0, .int 0, .long 0, .null, .null, .null])) s.heap [] := ⟨hP, by simp, fun a ha => Or.inl (List.mem_singleton.mp ha), (fun a t9 h9 => by cases h9), va_S.rf⟩
  have hl := lv_entry ([.ref h0]) (n := 1) (Nat.le_of_ble_eq_true rfl)
  rw [lg_entry_eq]
  generalize (lg_sl ([.ref h0]) ++ List.replicate (1 - (lg_sl ([.ref h0])).length) Slot.unset).toArray = ls at hl ⊢
  have hl : lv_has ls 1 [(0, .ref h0)] := hl
  have h0L : h0 ∈ [h0] := List.mem_singleton.mpr rfl
  have hfam : ∀ a ∈ [h0], a = h0 ∨ ∃ t, (fun _ => none : Nat → Option Nat) a = some t ∧ 124 ≤ t ∧ t ≤ 149 := fun a ha => Or.inl (List.mem_singleton.mp ha)
  generalize hΓ9 : (fun _ => none : Nat → Option Nat) = Γ at h hfam
  have h0Γ : Γ h0 = none := by rw [← hΓ9]
  generalize hF9 : (fun _ => .inr (12, [.int 0, .int 0, .int 0, .int 0, .int 0, .int 0, .long 0, .null, .null, .null]) : Nat → va_E) = F at h
  have hF : F h0 = .inr (12, [.int 0, .int 0, .int 0, .int 0, .int 0, .int 0, .long 0, .null, .null, .null]) := by rw [← hF9]
  have hΓ0 : ∀ a, Γ a = none := fun a => by rw [← hΓ9]
  clear hΓ9 hF9
  generalize [h0] = L at h h0L hfam
  generalize hargs : ([.ref h0] : List Value).toArray = args at *
  refine z_start2 (fun R Q hRf hRl hRc hRs hQ => ?_)
  have hRf : R.frames = 1 := hRf
  have hRl : R.locals = 40 := hRl
  have hRc : R.cells = 3 := hRc
  have hRs : R.slots = 1724 := hRs
  have h11 : ∀ a, Γ a ≠ some 11 := fun a => by rw [hΓ0]; exact fun h9 => by cases h9
  refine lv_aload_n hx hb dX12_init_0 rfl (lv_at hl 0 rfl) ?_
  refine W.objInit hx hb hown (hts _ (zmi (List.mem_of_getElem? (i := 38) rfl))) (hts _ (zmi (List.mem_of_getElem? (i := 1) rfl))) (hts _ (zmi (List.mem_of_getElem? (i := 2) rfl))) rfl (by rw [hml]; exact hl.1) rfl dX12_init_1 (by rw [hRf]; exact (Nat.le_of_ble_eq_true rfl)) (by rw [hRl]; exact (Nat.le_of_ble_eq_true rfl)) ?_
  refine W.eq (g2 := F0 m 4 ls []) rfl ?_
  refine lv_aload_n hx hb dX12_init_4 rfl (lv_at hl 0 rfl) ?_
  refine lv_bipush (v := 60) hx hb dX12_init_5 (by decide) ?_
  refine zj_ar (atype := .int) (ty := .int) (κ := 1) (tc := 165) (N' := 60) (a0 := (60, .inl (fun _ => 0))) Y h (zmi (List.mem_of_getElem? (i := 5) rfl)) rfl rfl (fun _ h9 => h9) (fun _ => rfl) (by decide) (by decide) (by decide) (by rw [hRc]; exact (Nat.le_of_ble_eq_true rfl)) (by rw [hRs]; exact (Nat.le_of_ble_eq_true rfl)) (by decide) (fun _ _ _ hF9 => zar_z (κ := 1) (n := 60) (lo := (-2147483648)) (hi := 2147483647) (by decide) rfl (by decide) hF9) dX12_init_7 (fun q1 Γ L F H hq1 hk hL9 h' => ?_)
  have h0Γ := (hk h0 h0L).1.trans h0Γ
  have hF := (hk h0 h0L).2.1.trans hF
  have h0L := (hk h0 h0L).2.2
  have h11 : ∀ a, Γ a ≠ some 11 := fun a ha => (hL9 a (h'.2.2.2.1 a _ ha).1).elim (fun h1 => h11 a ((hk a h1).1.symm.trans ha)) (fun h1 => by rw [h1, hq1] at ha; injection ha with ha; omega)
  have h := h'
  clear h' hk hL9
  refine W.widen (k := 1) (n := 60) (Nat.le_of_ble_eq_true rfl) (Nat.le_of_ble_eq_true rfl) ?_
  refine zj_put (C := RX12) (T := TX12) (N := 10) (t := 12) (v := .ref q1) Y h h0L h0Γ hF ziin_12 tyX12 tyX12_ok nmX12 rfl 7 (by decide) (zmi (List.mem_of_getElem? (i := 39) rfl)) (fun _ h9 => h9) rfl hini rfl rfl rfl (Nat.le_of_ble_eq_true rfl) dX12_init_9 (fun F' H locs hF' hne h' => ?_)
  have hF : F' h0 = .inr (12, [.int 0, .int 0, .int 0, .int 0, .int 0, .int 0, .long 0, .ref q1, .null, .null]) := hF'
  have h := h'
  clear hF' hne h'
  generalize F' = F at h hF
  refine lv_aload_n hx hb dX12_init_12 rfl (lv_at hl 0 rfl) ?_
  refine lv_sipush (v := 1600) hx hb dX12_init_13 (by decide) ?_
  refine zj_ar (atype := .int) (ty := .int) (κ := 1) (tc := 166) (N' := 1600) (a0 := (1600, .inl (fun _ => 0))) Y h (zmi (List.mem_of_getElem? (i := 5) rfl)) rfl rfl (fun _ h9 => h9) (fun _ => rfl) (by decide) (by decide) (by decide) (by rw [hRc]; exact (Nat.le_of_ble_eq_true rfl)) (by rw [hRs]; exact (Nat.le_of_ble_eq_true rfl)) (by decide) (fun _ _ _ hF9 => zar_z (κ := 1) (n := 1600) (lo := (-2147483648)) (hi := 2147483647) (by decide) rfl (by decide) hF9) dX12_init_16 (fun q2 Γ L F H hq2 hk hL9 h' => ?_)
  have hq1 := (hk q1 (h.2.2.2.1 _ _ hq1).1).1.trans hq1
  have h0Γ := (hk h0 h0L).1.trans h0Γ
  have hF := (hk h0 h0L).2.1.trans hF
  have h0L := (hk h0 h0L).2.2
  have h11 : ∀ a, Γ a ≠ some 11 := fun a ha => (hL9 a (h'.2.2.2.1 a _ ha).1).elim (fun h1 => h11 a ((hk a h1).1.symm.trans ha)) (fun h1 => by rw [h1, hq2] at ha; injection ha with ha; omega)
  have h := h'
  clear h' hk hL9
  refine W.widen (k := 2) (n := 1660) (Nat.le_of_ble_eq_true rfl) (Nat.le_of_ble_eq_true rfl) ?_
  refine zj_put (C := RX12) (T := TX12) (N := 10) (t := 12) (v := .ref q2) Y h h0L h0Γ hF ziin_12 tyX12 tyX12_ok nmX12 rfl 8 (by decide) (zmi (List.mem_of_getElem? (i := 40) rfl)) (fun _ h9 => h9) rfl hini rfl rfl rfl (Nat.le_of_ble_eq_true rfl) dX12_init_18 (fun F' H locs hF' hne h' => ?_)
  have hF : F' h0 = .inr (12, [.int 0, .int 0, .int 0, .int 0, .int 0, .int 0, .long 0, .ref q1, .ref q2, .null]) := hF'
  have h := h'
  clear hF' hne h'
  generalize F' = F at h hF
  refine lv_aload_n hx hb dX12_init_21 rfl (lv_at hl 0 rfl) ?_
  refine lv_bipush (v := 64) hx hb dX12_init_22 (by decide) ?_
  refine zj_ar (atype := .int) (ty := .int) (κ := 1) (tc := 167) (N' := 64) (a0 := (64, .inl (fun _ => 0))) Y h (zmi (List.mem_of_getElem? (i := 5) rfl)) rfl rfl (fun _ h9 => h9) (fun _ => rfl) (by decide) (by decide) (by decide) (by rw [hRc]; exact (Nat.le_of_ble_eq_true rfl)) (by rw [hRs]; exact (Nat.le_of_ble_eq_true rfl)) (by decide) (fun _ _ _ hF9 => zar_z (κ := 1) (n := 64) (lo := (-2147483648)) (hi := 2147483647) (by decide) rfl (by decide) hF9) dX12_init_24 (fun q3 Γ L F H hq3 hk hL9 h' => ?_)
  have hq1 := (hk q1 (h.2.2.2.1 _ _ hq1).1).1.trans hq1
  have hq2 := (hk q2 (h.2.2.2.1 _ _ hq2).1).1.trans hq2
  have h0Γ := (hk h0 h0L).1.trans h0Γ
  have hF := (hk h0 h0L).2.1.trans hF
  have h0L := (hk h0 h0L).2.2
  have h11 : ∀ a, Γ a ≠ some 11 := fun a ha => (hL9 a (h'.2.2.2.1 a _ ha).1).elim (fun h1 => h11 a ((hk a h1).1.symm.trans ha)) (fun h1 => by rw [h1, hq3] at ha; injection ha with ha; omega)
  have h := h'
  clear h' hk hL9
  refine W.widen (k := 3) (n := 1724) (Nat.le_of_ble_eq_true rfl) (Nat.le_of_ble_eq_true rfl) ?_
  refine zj_put (C := RX12) (T := TX12) (N := 10) (t := 12) (v := .ref q3) Y h h0L h0Γ hF ziin_12 tyX12 tyX12_ok nmX12 rfl 9 (by decide) (zmi (List.mem_of_getElem? (i := 41) rfl)) (fun _ h9 => h9) rfl hini rfl rfl rfl (Nat.le_of_ble_eq_true rfl) dX12_init_26 (fun F' H locs hF' hne h' => ?_)
  have hF : F' h0 = .inr (12, [.int 0, .int 0, .int 0, .int 0, .int 0, .int 0, .long 0, .ref q1, .ref q2, .ref q3]) := hF'
  have h := h'
  clear hF' hne h'
  generalize F' = F at h hF
  have h := zj_end h h0L h0Γ hF (by decide) (show zVs _ [(0, (-2147483648), 2147483647), (0, (-2147483648), 2147483647), (0, 0, 2000), (0, 0, 2000), (0, 0, 2000), (0, (-2147483648), 2147483647), (1, 0, 0), (2, 165, 0), (2, 166, 0), (2, 167, 0)] [.int 0, .int 0, .int 0, .int 0, .int 0, .int 0, .long 0, .ref q1, .ref q2, .ref q3] from ⟨zV.i ⟨by decide, by decide⟩, zV.i ⟨by decide, by decide⟩, zV.i ⟨by decide, by decide⟩, zV.i ⟨by decide, by decide⟩, zV.i ⟨by decide, by decide⟩, zV.i ⟨by decide, by decide⟩, zV.l, zV.r (zif hq1 h0Γ) rfl, zV.r (zif hq2 h0Γ) rfl, zV.r (zif hq3 h0Γ) rfl, trivial⟩)
  subst hQ
  exact W.vret hx hb hr (fun t9 ht9 hW9 => ⟨⟨(fun a => if a = h0 then some 12 else Γ a, L, F), rfl, ⟨if_pos rfl, fun a => zif_ne (by decide) (h11 a)⟩, by rw [ht9]; exact h.1, h.2.1, h.2.2.1, h.2.2.2.1⟩, h.2.2.2.2.F ht9⟩) h.2.2.2.2.2.2 dX12_init_29

def zp_11 : Nat → zW3 → Prop := fun h0 u => ∀ a ∈ u.2.1, (u.1 a = some 11 ∧ a = h0) ∨ ∃ t, u.1 a = some t ∧ 124 ≤ t ∧ t ≤ 149
set_option maxHeartbeats 4000000 in
set_option maxRecDepth 100000 in
theorem zi_X11 (l : Launch) (D : va_G) (k : Nat → ClassId) (h0 sz : Nat) : Met l yX11_init zwi_11 ({ frames := 1, cells := 26, slots := 5071, locals := 40 }) (va_Pc [.ref h0] (zPi D k 11 [.int 0, .int 0, .int 0, .int 0, .null, .null, .null, .null, .null, .null, .null, .null, .null, .null, .null, .null, .null, .null, .null, .null, .null, .null, .null, .null, .null, .null, .null, .null, .null, .null] h0 sz)) (va_Qv (fun u : zW3 => u.1 h0 = some 11 ∧ zp_11 h0 u) (zQi D k (zA0 h0 sz)) (zA0 h0 sz)) 26 5071 (zA0 h0 sz) := by
  refine Met.ofW (cc := cX11_init) (maxL := 1) (ret := none) (by decide) rfl ?_
  intro p e s m args below meth c s₁ B hml hv
  obtain ⟨rfl, hsz, hP, hK, hN0, hZ⟩ := hv
  have hx := B.exec
  have hb := B.bytes
  have hr := B.returns
  have hts : ∀ w ∈ zGI, w.before _ s = true := fun w h9 => atoms_spec (ws := zwi_11) B.pre w (List.mem_cons_of_mem _ h9)
  have hown : s.vm.findClass RX11 = some m.cls := findClass_of_methodNamed B.named
  have hini : meth.name = "<init>" := (name_of_methodNamed B.named B.method).1
  subst hsz
  have Y : zY p m c cX11_init 1 s _ zGI RX11 D k (zA0 h0 s.heap.size) := ⟨⟨hx, hb, hml, hown, hts⟩, hK, hN0, hZ, fun q h9 => Or.inr h9⟩
  have h : zU D k (zA0 h0 s.heap.size) s (fun _ => none) [h0] (fun _ => .inr (11, [.int 0, .int 0, .int 0, .int 0, .null, .null, .null, .null, .null, .null, .null, .null, .null, .null, .null, .null, .null, .null, .null, .null, .null, .null, .null, .null, .null, .null, .null, .null, .null, .null])) s.heap [] := ⟨hP, by simp, fun a ha => Or.inl (List.mem_singleton.mp ha), (fun a t9 h9 => by cases h9), va_S.rf⟩
  have hl := lv_entry ([.ref h0]) (n := 1) (Nat.le_of_ble_eq_true rfl)
  rw [lg_entry_eq]
  generalize (lg_sl ([.ref h0]) ++ List.replicate (1 - (lg_sl ([.ref h0])).length) Slot.unset).toArray = ls at hl ⊢
  have hl : lv_has ls 1 [(0, .ref h0)] := hl
  have h0L : h0 ∈ [h0] := List.mem_singleton.mpr rfl
  have hfam : ∀ a ∈ [h0], a = h0 ∨ ∃ t, (fun _ => none : Nat → Option Nat) a = some t ∧ 124 ≤ t ∧ t ≤ 149 := fun a ha => Or.inl (List.mem_singleton.mp ha)
  generalize hΓ9 : (fun _ => none : Nat → Option Nat) = Γ at h hfam
  have h0Γ : Γ h0 = none := by rw [← hΓ9]
  generalize hF9 : (fun _ => .inr (11, [.int 0, .int 0, .int 0, .int 0, .null, .null, .null, .null, .null, .null, .null, .null, .null, .null, .null, .null, .null, .null, .null, .null, .null, .null, .null, .null, .null, .null, .null, .null, .null, .null]) : Nat → va_E) = F at h
  have hF : F h0 = .inr (11, [.int 0, .int 0, .int 0, .int 0, .null, .null, .null, .null, .null, .null, .null, .null, .null, .null, .null, .null, .null, .null, .null, .null, .null, .null, .null, .null, .null, .null, .null, .null, .null, .null]) := by rw [← hF9]
  have hΓ0 : ∀ a, Γ a = none := fun a => by rw [← hΓ9]
  clear hΓ9 hF9
  generalize [h0] = L at h h0L hfam
  generalize hargs : ([.ref h0] : List Value).toArray = args at *
  refine z_start2 (fun R Q hRf hRl hRc hRs hQ => ?_)
  have hRf : R.frames = 1 := hRf
  have hRl : R.locals = 40 := hRl
  have hRc : R.cells = 26 := hRc
  have hRs : R.slots = 5071 := hRs
  refine lv_aload_n hx hb dX11_init_0 rfl (lv_at hl 0 rfl) ?_
  refine W.objInit hx hb hown (hts _ (zmi (List.mem_of_getElem? (i := 42) rfl))) (hts _ (zmi (List.mem_of_getElem? (i := 1) rfl))) (hts _ (zmi (List.mem_of_getElem? (i := 2) rfl))) rfl (by rw [hml]; exact hl.1) rfl dX11_init_1 (by rw [hRf]; exact (Nat.le_of_ble_eq_true rfl)) (by rw [hRl]; exact (Nat.le_of_ble_eq_true rfl)) ?_
  refine W.eq (g2 := F0 m 4 ls []) rfl ?_
  refine lv_aload_n hx hb dX11_init_4 rfl (lv_at hl 0 rfl) ?_
  refine lv_bipush (v := 10) hx hb dX11_init_5 (by decide) ?_
  refine zj_ar (atype := .long) (ty := .long) (κ := 2) (tc := 124) (N' := 10) (a0 := (10, .inr (.inl (fun _ => 0)))) Y h (zmi (List.mem_of_getElem? (i := 31) rfl)) rfl rfl (fun _ h9 => h9) (fun _ => rfl) (by decide) (by decide) (by decide) (by rw [hRc]; exact (Nat.le_of_ble_eq_true rfl)) (by rw [hRs]; exact (Nat.le_of_ble_eq_true rfl)) (by decide) (fun _ _ _ hF9 => zar_l (n := 10) (lo := 0) (hi := 0) rfl hF9) dX11_init_7 (fun q1 Γ L F H hq1 hk hL9 h' => ?_)
  have h0Γ := (hk h0 h0L).1.trans h0Γ
  have hF := (hk h0 h0L).2.1.trans hF
  have h0L := (hk h0 h0L).2.2
  have hfam : ∀ a ∈ L, a = h0 ∨ ∃ t, Γ a = some t ∧ 124 ≤ t ∧ t ≤ 149 := fun a ha => (hL9 a ha).elim (fun h1 => (hfam a h1).imp id (fun ⟨t9, h2, h3⟩ => ⟨t9, (hk a h1).1.trans h2, h3⟩)) (fun h1 => Or.inr ⟨124, by rw [h1]; exact hq1, by decide⟩)
  have h := h'
  clear h' hk hL9
  refine W.widen (k := 1) (n := 10) (Nat.le_of_ble_eq_true rfl) (Nat.le_of_ble_eq_true rfl) ?_
  refine zj_put (C := RX11) (T := TX11) (N := 30) (t := 11) (v := .ref q1) Y h h0L h0Γ hF ziin_11 tyX11 tyX11_ok nmX11 rfl 4 (by decide) (zmi (List.mem_of_getElem? (i := 43) rfl)) (fun _ h9 => h9) rfl hini rfl rfl rfl (Nat.le_of_ble_eq_true rfl) dX11_init_9 (fun F' H locs hF' hne h' => ?_)
  have hF : F' h0 = .inr (11, [.int 0, .int 0, .int 0, .int 0, .ref q1, .null, .null, .null, .null, .null, .null, .null, .null, .null, .null, .null, .null, .null, .null, .null, .null, .null, .null, .null, .null, .null, .null, .null, .null, .null]) := hF'
  have h := h'
  clear hF' hne h'
  generalize F' = F at h hF
  refine lv_aload_n hx hb dX11_init_12 rfl (lv_at hl 0 rfl) ?_
  refine lv_bipush (v := 10) hx hb dX11_init_13 (by decide) ?_
  refine zj_ar (atype := .int) (ty := .int) (κ := 1) (tc := 125) (N' := 10) (a0 := (10, .inl (fun _ => 0))) Y h (zmi (List.mem_of_getElem? (i := 5) rfl)) rfl rfl (fun _ h9 => h9) (fun _ => rfl) (by decide) (by decide) (by decide) (by rw [hRc]; exact (Nat.le_of_ble_eq_true rfl)) (by rw [hRs]; exact (Nat.le_of_ble_eq_true rfl)) (by decide) (fun _ _ _ hF9 => zar_z (κ := 1) (n := 10) (lo := (-2147483648)) (hi := 2147483647) (by decide) rfl (by decide) hF9) dX11_init_15 (fun q2 Γ L F H hq2 hk hL9 h' => ?_)
  have hq1 := (hk q1 (h.2.2.2.1 _ _ hq1).1).1.trans hq1
  have h0Γ := (hk h0 h0L).1.trans h0Γ
  have hF := (hk h0 h0L).2.1.trans hF
  have h0L := (hk h0 h0L).2.2
  have hfam : ∀ a ∈ L, a = h0 ∨ ∃ t, Γ a = some t ∧ 124 ≤ t ∧ t ≤ 149 := fun a ha => (hL9 a ha).elim (fun h1 => (hfam a h1).imp id (fun ⟨t9, h2, h3⟩ => ⟨t9, (hk a h1).1.trans h2, h3⟩)) (fun h1 => Or.inr ⟨125, by rw [h1]; exact hq2, by decide⟩)
  have h := h'
  clear h' hk hL9
  refine W.widen (k := 2) (n := 20) (Nat.le_of_ble_eq_true rfl) (Nat.le_of_ble_eq_true rfl) ?_
  refine zj_put (C := RX11) (T := TX11) (N := 30) (t := 11) (v := .ref q2) Y h h0L h0Γ hF ziin_11 tyX11 tyX11_ok nmX11 rfl 5 (by decide) (zmi (List.mem_of_getElem? (i := 44) rfl)) (fun _ h9 => h9) rfl hini rfl rfl rfl (Nat.le_of_ble_eq_true rfl) dX11_init_17 (fun F' H locs hF' hne h' => ?_)
  have hF : F' h0 = .inr (11, [.int 0, .int 0, .int 0, .int 0, .ref q1, .ref q2, .null, .null, .null, .null, .null, .null, .null, .null, .null, .null, .null, .null, .null, .null, .null, .null, .null, .null, .null, .null, .null, .null, .null, .null]) := hF'
  have h := h'
  clear hF' hne h'
  generalize F' = F at h hF
  refine lv_aload_n hx hb dX11_init_20 rfl (lv_at hl 0 rfl) ?_
  refine lv_bipush (v := 10) hx hb dX11_init_21 (by decide) ?_
  refine zj_ar (atype := .int) (ty := .int) (κ := 1) (tc := 126) (N' := 10) (a0 := (10, .inl (fun _ => 0))) Y h (zmi (List.mem_of_getElem? (i := 5) rfl)) rfl rfl (fun _ h9 => h9) (fun _ => rfl) (by decide) (by decide) (by decide) (by rw [hRc]; exact (Nat.le_of_ble_eq_true rfl)) (by rw [hRs]; exact (Nat.le_of_ble_eq_true rfl)) (by decide) (fun _ _ _ hF9 => zar_z (κ := 1) (n := 10) (lo := 0) (hi := 3) (by decide) rfl (by decide) hF9) dX11_init_23 (fun q3 Γ L F H hq3 hk hL9 h' => ?_)
  have hq1 := (hk q1 (h.2.2.2.1 _ _ hq1).1).1.trans hq1
  have hq2 := (hk q2 (h.2.2.2.1 _ _ hq2).1).1.trans hq2
  have h0Γ := (hk h0 h0L).1.trans h0Γ
  have hF := (hk h0 h0L).2.1.trans hF
  have h0L := (hk h0 h0L).2.2
  have hfam : ∀ a ∈ L, a = h0 ∨ ∃ t, Γ a = some t ∧ 124 ≤ t ∧ t ≤ 149 := fun a ha => (hL9 a ha).elim (fun h1 => (hfam a h1).imp id (fun ⟨t9, h2, h3⟩ => ⟨t9, (hk a h1).1.trans h2, h3⟩)) (fun h1 => Or.inr ⟨126, by rw [h1]; exact hq3, by decide⟩)
  have h := h'
  clear h' hk hL9
  refine W.widen (k := 3) (n := 30) (Nat.le_of_ble_eq_true rfl) (Nat.le_of_ble_eq_true rfl) ?_
  refine zj_put (C := RX11) (T := TX11) (N := 30) (t := 11) (v := .ref q3) Y h h0L h0Γ hF ziin_11 tyX11 tyX11_ok nmX11 rfl 6 (by decide) (zmi (List.mem_of_getElem? (i := 45) rfl)) (fun _ h9 => h9) rfl hini rfl rfl rfl (Nat.le_of_ble_eq_true rfl) dX11_init_25 (fun F' H locs hF' hne h' => ?_)
  have hF : F' h0 = .inr (11, [.int 0, .int 0, .int 0, .int 0, .ref q1, .ref q2, .ref q3, .null, .null, .null, .null, .null, .null, .null, .null, .null, .null, .null, .null, .null, .null, .null, .null, .null, .null, .null, .null, .null, .null, .null]) := hF'
  have h := h'
  clear hF' hne h'
  generalize F' = F at h hF
  refine lv_aload_n hx hb dX11_init_28 rfl (lv_at hl 0 rfl) ?_
  refine lv_bipush (v := 10) hx hb dX11_init_29 (by decide) ?_
  refine zj_ar (atype := .int) (ty := .int) (κ := 1) (tc := 127) (N' := 10) (a0 := (10, .inl (fun _ => 0))) Y h (zmi (List.mem_of_getElem? (i := 5) rfl)) rfl rfl (fun _ h9 => h9) (fun _ => rfl) (by decide) (by decide) (by decide) (by rw [hRc]; exact (Nat.le_of_ble_eq_true rfl)) (by rw [hRs]; exact (Nat.le_of_ble_eq_true rfl)) (by decide) (fun _ _ _ hF9 => zar_z (κ := 1) (n := 10) (lo := 0) (hi := 60) (by decide) rfl (by decide) hF9) dX11_init_31 (fun q4 Γ L F H hq4 hk hL9 h' => ?_)
  have hq1 := (hk q1 (h.2.2.2.1 _ _ hq1).1).1.trans hq1
  have hq2 := (hk q2 (h.2.2.2.1 _ _ hq2).1).1.trans hq2
  have hq3 := (hk q3 (h.2.2.2.1 _ _ hq3).1).1.trans hq3
  have h0Γ := (hk h0 h0L).1.trans h0Γ
  have hF := (hk h0 h0L).2.1.trans hF
  have h0L := (hk h0 h0L).2.2
  have hfam : ∀ a ∈ L, a = h0 ∨ ∃ t, Γ a = some t ∧ 124 ≤ t ∧ t ≤ 149 := fun a ha => (hL9 a ha).elim (fun h1 => (hfam a h1).imp id (fun ⟨t9, h2, h3⟩ => ⟨t9, (hk a h1).1.trans h2, h3⟩)) (fun h1 => Or.inr ⟨127, by rw [h1]; exact hq4, by decide⟩)
  have h := h'
  clear h' hk hL9
  refine W.widen (k := 4) (n := 40) (Nat.le_of_ble_eq_true rfl) (Nat.le_of_ble_eq_true rfl) ?_
  refine zj_put (C := RX11) (T := TX11) (N := 30) (t := 11) (v := .ref q4) Y h h0L h0Γ hF ziin_11 tyX11 tyX11_ok nmX11 rfl 7 (by decide) (zmi (List.mem_of_getElem? (i := 46) rfl)) (fun _ h9 => h9) rfl hini rfl rfl rfl (Nat.le_of_ble_eq_true rfl) dX11_init_33 (fun F' H locs hF' hne h' => ?_)
  have hF : F' h0 = .inr (11, [.int 0, .int 0, .int 0, .int 0, .ref q1, .ref q2, .ref q3, .ref q4, .null, .null, .null, .null, .null, .null, .null, .null, .null, .null, .null, .null, .null, .null, .null, .null, .null, .null, .null, .null, .null, .null]) := hF'
  have h := h'
  clear hF' hne h'
  generalize F' = F at h hF
  refine lv_aload_n hx hb dX11_init_36 rfl (lv_at hl 0 rfl) ?_
  refine lv_bipush (v := 10) hx hb dX11_init_37 (by decide) ?_
  refine zj_ar (atype := .int) (ty := .int) (κ := 1) (tc := 128) (N' := 10) (a0 := (10, .inl (fun _ => 0))) Y h (zmi (List.mem_of_getElem? (i := 5) rfl)) rfl rfl (fun _ h9 => h9) (fun _ => rfl) (by decide) (by decide) (by decide) (by rw [hRc]; exact (Nat.le_of_ble_eq_true rfl)) (by rw [hRs]; exact (Nat.le_of_ble_eq_true rfl)) (by decide) (fun _ _ _ hF9 => zar_z (κ := 1) (n := 10) (lo := (-2147483648)) (hi := 2147483647) (by decide) rfl (by decide) hF9) dX11_init_39 (fun q5 Γ L F H hq5 hk hL9 h' => ?_)
  have hq1 := (hk q1 (h.2.2.2.1 _ _ hq1).1).1.trans hq1
  have hq2 := (hk q2 (h.2.2.2.1 _ _ hq2).1).1.trans hq2
  have hq3 := (hk q3 (h.2.2.2.1 _ _ hq3).1).1.trans hq3
  have hq4 := (hk q4 (h.2.2.2.1 _ _ hq4).1).1.trans hq4
  have h0Γ := (hk h0 h0L).1.trans h0Γ
  have hF := (hk h0 h0L).2.1.trans hF
  have h0L := (hk h0 h0L).2.2
  have hfam : ∀ a ∈ L, a = h0 ∨ ∃ t, Γ a = some t ∧ 124 ≤ t ∧ t ≤ 149 := fun a ha => (hL9 a ha).elim (fun h1 => (hfam a h1).imp id (fun ⟨t9, h2, h3⟩ => ⟨t9, (hk a h1).1.trans h2, h3⟩)) (fun h1 => Or.inr ⟨128, by rw [h1]; exact hq5, by decide⟩)
  have h := h'
  clear h' hk hL9
  refine W.widen (k := 5) (n := 50) (Nat.le_of_ble_eq_true rfl) (Nat.le_of_ble_eq_true rfl) ?_
  refine zj_put (C := RX11) (T := TX11) (N := 30) (t := 11) (v := .ref q5) Y h h0L h0Γ hF ziin_11 tyX11 tyX11_ok nmX11 rfl 8 (by decide) (zmi (List.mem_of_getElem? (i := 47) rfl)) (fun _ h9 => h9) rfl hini rfl rfl rfl (Nat.le_of_ble_eq_true rfl) dX11_init_41 (fun F' H locs hF' hne h' => ?_)
  have hF : F' h0 = .inr (11, [.int 0, .int 0, .int 0, .int 0, .ref q1, .ref q2, .ref q3, .ref q4, .ref q5, .null, .null, .null, .null, .null, .null, .null, .null, .null, .null, .null, .null, .null, .null, .null, .null, .null, .null, .null, .null, .null]) := hF'
  have h := h'
  clear hF' hne h'
  generalize F' = F at h hF
  refine lv_aload_n hx hb dX11_init_44 rfl (lv_at hl 0 rfl) ?_
  refine lv_bipush (v := 10) hx hb dX11_init_45 (by decide) ?_
  refine zj_ar (atype := .int) (ty := .int) (κ := 1) (tc := 129) (N' := 10) (a0 := (10, .inl (fun _ => 0))) Y h (zmi (List.mem_of_getElem? (i := 5) rfl)) rfl rfl (fun _ h9 => h9) (fun _ => rfl) (by decide) (by decide) (by decide) (by rw [hRc]; exact (Nat.le_of_ble_eq_true rfl)) (by rw [hRs]; exact (Nat.le_of_ble_eq_true rfl)) (by decide) (fun _ _ _ hF9 => zar_z (κ := 1) (n := 10) (lo := (-2147483648)) (hi := 2147483647) (by decide) rfl (by decide) hF9) dX11_init_47 (fun q6 Γ L F H hq6 hk hL9 h' => ?_)
  have hq1 := (hk q1 (h.2.2.2.1 _ _ hq1).1).1.trans hq1
  have hq2 := (hk q2 (h.2.2.2.1 _ _ hq2).1).1.trans hq2
  have hq3 := (hk q3 (h.2.2.2.1 _ _ hq3).1).1.trans hq3
  have hq4 := (hk q4 (h.2.2.2.1 _ _ hq4).1).1.trans hq4
  have hq5 := (hk q5 (h.2.2.2.1 _ _ hq5).1).1.trans hq5
  have h0Γ := (hk h0 h0L).1.trans h0Γ
  have hF := (hk h0 h0L).2.1.trans hF
  have h0L := (hk h0 h0L).2.2
  have hfam : ∀ a ∈ L, a = h0 ∨ ∃ t, Γ a = some t ∧ 124 ≤ t ∧ t ≤ 149 := fun a ha => (hL9 a ha).elim (fun h1 => (hfam a h1).imp id (fun ⟨t9, h2, h3⟩ => ⟨t9, (hk a h1).1.trans h2, h3⟩)) (fun h1 => Or.inr ⟨129, by rw [h1]; exact hq6, by decide⟩)
  have h := h'
  clear h' hk hL9
  refine W.widen (k := 6) (n := 60) (Nat.le_of_ble_eq_true rfl) (Nat.le_of_ble_eq_true rfl) ?_
  refine zj_put (C := RX11) (T := TX11) (N := 30) (t := 11) (v := .ref q6) Y h h0L h0Γ hF ziin_11 tyX11 tyX11_ok nmX11 rfl 9 (by decide) (zmi (List.mem_of_getElem? (i := 48) rfl)) (fun _ h9 => h9) rfl hini rfl rfl rfl (Nat.le_of_ble_eq_true rfl) dX11_init_49 (fun F' H locs hF' hne h' => ?_)
  have hF : F' h0 = .inr (11, [.int 0, .int 0, .int 0, .int 0, .ref q1, .ref q2, .ref q3, .ref q4, .ref q5, .ref q6, .null, .null, .null, .null, .null, .null, .null, .null, .null, .null, .null, .null, .null, .null, .null, .null, .null, .null, .null, .null]) := hF'
  have h := h'
  clear hF' hne h'
  generalize F' = F at h hF
  refine lv_aload_n hx hb dX11_init_52 rfl (lv_at hl 0 rfl) ?_
  refine lv_bipush (v := 10) hx hb dX11_init_53 (by decide) ?_
  refine zj_ar (atype := .int) (ty := .int) (κ := 1) (tc := 130) (N' := 10) (a0 := (10, .inl (fun _ => 0))) Y h (zmi (List.mem_of_getElem? (i := 5) rfl)) rfl rfl (fun _ h9 => h9) (fun _ => rfl) (by decide) (by decide) (by decide) (by rw [hRc]; exact (Nat.le_of_ble_eq_true rfl)) (by rw [hRs]; exact (Nat.le_of_ble_eq_true rfl)) (by decide) (fun _ _ _ hF9 => zar_z (κ := 1) (n := 10) (lo := 0) (hi := 1201) (by decide) rfl (by decide) hF9) dX11_init_55 (fun q7 Γ L F H hq7 hk hL9 h' => ?_)
  have hq1 := (hk q1 (h.2.2.2.1 _ _ hq1).1).1.trans hq1
  have hq2 := (hk q2 (h.2.2.2.1 _ _ hq2).1).1.trans hq2
  have hq3 := (hk q3 (h.2.2.2.1 _ _ hq3).1).1.trans hq3
  have hq4 := (hk q4 (h.2.2.2.1 _ _ hq4).1).1.trans hq4
  have hq5 := (hk q5 (h.2.2.2.1 _ _ hq5).1).1.trans hq5
  have hq6 := (hk q6 (h.2.2.2.1 _ _ hq6).1).1.trans hq6
  have h0Γ := (hk h0 h0L).1.trans h0Γ
  have hF := (hk h0 h0L).2.1.trans hF
  have h0L := (hk h0 h0L).2.2
  have hfam : ∀ a ∈ L, a = h0 ∨ ∃ t, Γ a = some t ∧ 124 ≤ t ∧ t ≤ 149 := fun a ha => (hL9 a ha).elim (fun h1 => (hfam a h1).imp id (fun ⟨t9, h2, h3⟩ => ⟨t9, (hk a h1).1.trans h2, h3⟩)) (fun h1 => Or.inr ⟨130, by rw [h1]; exact hq7, by decide⟩)
  have h := h'
  clear h' hk hL9
  refine W.widen (k := 7) (n := 70) (Nat.le_of_ble_eq_true rfl) (Nat.le_of_ble_eq_true rfl) ?_
  refine zj_put (C := RX11) (T := TX11) (N := 30) (t := 11) (v := .ref q7) Y h h0L h0Γ hF ziin_11 tyX11 tyX11_ok nmX11 rfl 10 (by decide) (zmi (List.mem_of_getElem? (i := 49) rfl)) (fun _ h9 => h9) rfl hini rfl rfl rfl (Nat.le_of_ble_eq_true rfl) dX11_init_57 (fun F' H locs hF' hne h' => ?_)
  have hF : F' h0 = .inr (11, [.int 0, .int 0, .int 0, .int 0, .ref q1, .ref q2, .ref q3, .ref q4, .ref q5, .ref q6, .ref q7, .null, .null, .null, .null, .null, .null, .null, .null, .null, .null, .null, .null, .null, .null, .null, .null, .null, .null, .null]) := hF'
  have h := h'
  clear hF' hne h'
  generalize F' = F at h hF
  refine lv_aload_n hx hb dX11_init_60 rfl (lv_at hl 0 rfl) ?_
  refine lv_bipush (v := 10) hx hb dX11_init_61 (by decide) ?_
  refine zj_ar (atype := .int) (ty := .int) (κ := 1) (tc := 131) (N' := 10) (a0 := (10, .inl (fun _ => 0))) Y h (zmi (List.mem_of_getElem? (i := 5) rfl)) rfl rfl (fun _ h9 => h9) (fun _ => rfl) (by decide) (by decide) (by decide) (by rw [hRc]; exact (Nat.le_of_ble_eq_true rfl)) (by rw [hRs]; exact (Nat.le_of_ble_eq_true rfl)) (by decide) (fun _ _ _ hF9 => zar_z (κ := 1) (n := 10) (lo := 0) (hi := 1201) (by decide) rfl (by decide) hF9) dX11_init_63 (fun q8 Γ L F H hq8 hk hL9 h' => ?_)
  have hq1 := (hk q1 (h.2.2.2.1 _ _ hq1).1).1.trans hq1
  have hq2 := (hk q2 (h.2.2.2.1 _ _ hq2).1).1.trans hq2
  have hq3 := (hk q3 (h.2.2.2.1 _ _ hq3).1).1.trans hq3
  have hq4 := (hk q4 (h.2.2.2.1 _ _ hq4).1).1.trans hq4
  have hq5 := (hk q5 (h.2.2.2.1 _ _ hq5).1).1.trans hq5
  have hq6 := (hk q6 (h.2.2.2.1 _ _ hq6).1).1.trans hq6
  have hq7 := (hk q7 (h.2.2.2.1 _ _ hq7).1).1.trans hq7
  have h0Γ := (hk h0 h0L).1.trans h0Γ
  have hF := (hk h0 h0L).2.1.trans hF
  have h0L := (hk h0 h0L).2.2
  have hfam : ∀ a ∈ L, a = h0 ∨ ∃ t, Γ a = some t ∧ 124 ≤ t ∧ t ≤ 149 := fun a ha => (hL9 a ha).elim (fun h1 => (hfam a h1).imp id (fun ⟨t9, h2, h3⟩ => ⟨t9, (hk a h1).1.trans h2, h3⟩)) (fun h1 => Or.inr ⟨131, by rw [h1]; exact hq8, by decide⟩)
  have h := h'
  clear h' hk hL9
  refine W.widen (k := 8) (n := 80) (Nat.le_of_ble_eq_true rfl) (Nat.le_of_ble_eq_true rfl) ?_
  refine zj_put (C := RX11) (T := TX11) (N := 30) (t := 11) (v := .ref q8) Y h h0L h0Γ hF ziin_11 tyX11 tyX11_ok nmX11 rfl 11 (by decide) (zmi (List.mem_of_getElem? (i := 50) rfl)) (fun _ h9 => h9) rfl hini rfl rfl rfl (Nat.le_of_ble_eq_true rfl) dX11_init_65 (fun F' H locs hF' hne h' => ?_)
  have hF : F' h0 = .inr (11, [.int 0, .int 0, .int 0, .int 0, .ref q1, .ref q2, .ref q3, .ref q4, .ref q5, .ref q6, .ref q7, .ref q8, .null, .null, .null, .null, .null, .null, .null, .null, .null, .null, .null, .null, .null, .null, .null, .null, .null, .null]) := hF'
  have h := h'
  clear hF' hne h'
  generalize F' = F at h hF
  refine lv_aload_n hx hb dX11_init_68 rfl (lv_at hl 0 rfl) ?_
  refine lv_bipush (v := 30) hx hb dX11_init_69 (by decide) ?_
  refine zj_ar (atype := .int) (ty := .int) (κ := 1) (tc := 132) (N' := 30) (a0 := (30, .inl (fun _ => 0))) Y h (zmi (List.mem_of_getElem? (i := 5) rfl)) rfl rfl (fun _ h9 => h9) (fun _ => rfl) (by decide) (by decide) (by decide) (by rw [hRc]; exact (Nat.le_of_ble_eq_true rfl)) (by rw [hRs]; exact (Nat.le_of_ble_eq_true rfl)) (by decide) (fun _ _ _ hF9 => zar_z (κ := 1) (n := 30) (lo := 0) (hi := 7) (by decide) rfl (by decide) hF9) dX11_init_71 (fun q9 Γ L F H hq9 hk hL9 h' => ?_)
  have hq1 := (hk q1 (h.2.2.2.1 _ _ hq1).1).1.trans hq1
  have hq2 := (hk q2 (h.2.2.2.1 _ _ hq2).1).1.trans hq2
  have hq3 := (hk q3 (h.2.2.2.1 _ _ hq3).1).1.trans hq3
  have hq4 := (hk q4 (h.2.2.2.1 _ _ hq4).1).1.trans hq4
  have hq5 := (hk q5 (h.2.2.2.1 _ _ hq5).1).1.trans hq5
  have hq6 := (hk q6 (h.2.2.2.1 _ _ hq6).1).1.trans hq6
  have hq7 := (hk q7 (h.2.2.2.1 _ _ hq7).1).1.trans hq7
  have hq8 := (hk q8 (h.2.2.2.1 _ _ hq8).1).1.trans hq8
  have h0Γ := (hk h0 h0L).1.trans h0Γ
  have hF := (hk h0 h0L).2.1.trans hF
  have h0L := (hk h0 h0L).2.2
  have hfam : ∀ a ∈ L, a = h0 ∨ ∃ t, Γ a = some t ∧ 124 ≤ t ∧ t ≤ 149 := fun a ha => (hL9 a ha).elim (fun h1 => (hfam a h1).imp id (fun ⟨t9, h2, h3⟩ => ⟨t9, (hk a h1).1.trans h2, h3⟩)) (fun h1 => Or.inr ⟨132, by rw [h1]; exact hq9, by decide⟩)
  have h := h'
  clear h' hk hL9
  refine W.widen (k := 9) (n := 110) (Nat.le_of_ble_eq_true rfl) (Nat.le_of_ble_eq_true rfl) ?_
  refine zj_put (C := RX11) (T := TX11) (N := 30) (t := 11) (v := .ref q9) Y h h0L h0Γ hF ziin_11 tyX11 tyX11_ok nmX11 rfl 12 (by decide) (zmi (List.mem_of_getElem? (i := 51) rfl)) (fun _ h9 => h9) rfl hini rfl rfl rfl (Nat.le_of_ble_eq_true rfl) dX11_init_73 (fun F' H locs hF' hne h' => ?_)
  have hF : F' h0 = .inr (11, [.int 0, .int 0, .int 0, .int 0, .ref q1, .ref q2, .ref q3, .ref q4, .ref q5, .ref q6, .ref q7, .ref q8, .ref q9, .null, .null, .null, .null, .null, .null, .null, .null, .null, .null, .null, .null, .null, .null, .null, .null, .null]) := hF'
  have h := h'
  clear hF' hne h'
  generalize F' = F at h hF
  refine lv_aload_n hx hb dX11_init_76 rfl (lv_at hl 0 rfl) ?_
  refine lv_bipush (v := 60) hx hb dX11_init_77 (by decide) ?_
  refine zj_ar (atype := .int) (ty := .int) (κ := 1) (tc := 133) (N' := 60) (a0 := (60, .inl (fun _ => 0))) Y h (zmi (List.mem_of_getElem? (i := 5) rfl)) rfl rfl (fun _ h9 => h9) (fun _ => rfl) (by decide) (by decide) (by decide) (by rw [hRc]; exact (Nat.le_of_ble_eq_true rfl)) (by rw [hRs]; exact (Nat.le_of_ble_eq_true rfl)) (by decide) (fun _ _ _ hF9 => zar_z (κ := 1) (n := 60) (lo := 0) (hi := 4) (by decide) rfl (by decide) hF9) dX11_init_79 (fun q10 Γ L F H hq10 hk hL9 h' => ?_)
  have hq1 := (hk q1 (h.2.2.2.1 _ _ hq1).1).1.trans hq1
  have hq2 := (hk q2 (h.2.2.2.1 _ _ hq2).1).1.trans hq2
  have hq3 := (hk q3 (h.2.2.2.1 _ _ hq3).1).1.trans hq3
  have hq4 := (hk q4 (h.2.2.2.1 _ _ hq4).1).1.trans hq4
  have hq5 := (hk q5 (h.2.2.2.1 _ _ hq5).1).1.trans hq5
  have hq6 := (hk q6 (h.2.2.2.1 _ _ hq6).1).1.trans hq6
  have hq7 := (hk q7 (h.2.2.2.1 _ _ hq7).1).1.trans hq7
  have hq8 := (hk q8 (h.2.2.2.1 _ _ hq8).1).1.trans hq8
  have hq9 := (hk q9 (h.2.2.2.1 _ _ hq9).1).1.trans hq9
  have h0Γ := (hk h0 h0L).1.trans h0Γ
  have hF := (hk h0 h0L).2.1.trans hF
  have h0L := (hk h0 h0L).2.2
  have hfam : ∀ a ∈ L, a = h0 ∨ ∃ t, Γ a = some t ∧ 124 ≤ t ∧ t ≤ 149 := fun a ha => (hL9 a ha).elim (fun h1 => (hfam a h1).imp id (fun ⟨t9, h2, h3⟩ => ⟨t9, (hk a h1).1.trans h2, h3⟩)) (fun h1 => Or.inr ⟨133, by rw [h1]; exact hq10, by decide⟩)
  have h := h'
  clear h' hk hL9
  refine W.widen (k := 10) (n := 170) (Nat.le_of_ble_eq_true rfl) (Nat.le_of_ble_eq_true rfl) ?_
  refine zj_put (C := RX11) (T := TX11) (N := 30) (t := 11) (v := .ref q10) Y h h0L h0Γ hF ziin_11 tyX11 tyX11_ok nmX11 rfl 13 (by decide) (zmi (List.mem_of_getElem? (i := 52) rfl)) (fun _ h9 => h9) rfl hini rfl rfl rfl (Nat.le_of_ble_eq_true rfl) dX11_init_81 (fun F' H locs hF' hne h' => ?_)
  have hF : F' h0 = .inr (11, [.int 0, .int 0, .int 0, .int 0, .ref q1, .ref q2, .ref q3, .ref q4, .ref q5, .ref q6, .ref q7, .ref q8, .ref q9, .ref q10, .null, .null, .null, .null, .null, .null, .null, .null, .null, .null, .null, .null, .null, .null, .null, .null]) := hF'
  have h := h'
  clear hF' hne h'
  generalize F' = F at h hF
  refine lv_aload_n hx hb dX11_init_84 rfl (lv_at hl 0 rfl) ?_
  refine lv_bipush (v := 60) hx hb dX11_init_85 (by decide) ?_
  refine zj_ar (atype := .int) (ty := .int) (κ := 1) (tc := 134) (N' := 60) (a0 := (60, .inl (fun _ => 0))) Y h (zmi (List.mem_of_getElem? (i := 5) rfl)) rfl rfl (fun _ h9 => h9) (fun _ => rfl) (by decide) (by decide) (by decide) (by rw [hRc]; exact (Nat.le_of_ble_eq_true rfl)) (by rw [hRs]; exact (Nat.le_of_ble_eq_true rfl)) (by decide) (fun _ _ _ hF9 => zar_z (κ := 1) (n := 60) (lo := 0) (hi := 9) (by decide) rfl (by decide) hF9) dX11_init_87 (fun q11 Γ L F H hq11 hk hL9 h' => ?_)
  have hq1 := (hk q1 (h.2.2.2.1 _ _ hq1).1).1.trans hq1
  have hq2 := (hk q2 (h.2.2.2.1 _ _ hq2).1).1.trans hq2
  have hq3 := (hk q3 (h.2.2.2.1 _ _ hq3).1).1.trans hq3
  have hq4 := (hk q4 (h.2.2.2.1 _ _ hq4).1).1.trans hq4
  have hq5 := (hk q5 (h.2.2.2.1 _ _ hq5).1).1.trans hq5
  have hq6 := (hk q6 (h.2.2.2.1 _ _ hq6).1).1.trans hq6
  have hq7 := (hk q7 (h.2.2.2.1 _ _ hq7).1).1.trans hq7
  have hq8 := (hk q8 (h.2.2.2.1 _ _ hq8).1).1.trans hq8
  have hq9 := (hk q9 (h.2.2.2.1 _ _ hq9).1).1.trans hq9
  have hq10 := (hk q10 (h.2.2.2.1 _ _ hq10).1).1.trans hq10
  have h0Γ := (hk h0 h0L).1.trans h0Γ
  have hF := (hk h0 h0L).2.1.trans hF
  have h0L := (hk h0 h0L).2.2
  have hfam : ∀ a ∈ L, a = h0 ∨ ∃ t, Γ a = some t ∧ 124 ≤ t ∧ t ≤ 149 := fun a ha => (hL9 a ha).elim (fun h1 => (hfam a h1).imp id (fun ⟨t9, h2, h3⟩ => ⟨t9, (hk a h1).1.trans h2, h3⟩)) (fun h1 => Or.inr ⟨134, by rw [h1]; exact hq11, by decide⟩)
  have h := h'
  clear h' hk hL9
  refine W.widen (k := 11) (n := 230) (Nat.le_of_ble_eq_true rfl) (Nat.le_of_ble_eq_true rfl) ?_
  refine zj_put (C := RX11) (T := TX11) (N := 30) (t := 11) (v := .ref q11) Y h h0L h0Γ hF ziin_11 tyX11 tyX11_ok nmX11 rfl 14 (by decide) (zmi (List.mem_of_getElem? (i := 53) rfl)) (fun _ h9 => h9) rfl hini rfl rfl rfl (Nat.le_of_ble_eq_true rfl) dX11_init_89 (fun F' H locs hF' hne h' => ?_)
  have hF : F' h0 = .inr (11, [.int 0, .int 0, .int 0, .int 0, .ref q1, .ref q2, .ref q3, .ref q4, .ref q5, .ref q6, .ref q7, .ref q8, .ref q9, .ref q10, .ref q11, .null, .null, .null, .null, .null, .null, .null, .null, .null, .null, .null, .null, .null, .null, .null]) := hF'
  have h := h'
  clear hF' hne h'
  generalize F' = F at h hF
  refine lv_aload_n hx hb dX11_init_92 rfl (lv_at hl 0 rfl) ?_
  refine lv_bipush (v := 60) hx hb dX11_init_93 (by decide) ?_
  refine zj_ar (atype := .int) (ty := .int) (κ := 1) (tc := 135) (N' := 60) (a0 := (60, .inl (fun _ => 0))) Y h (zmi (List.mem_of_getElem? (i := 5) rfl)) rfl rfl (fun _ h9 => h9) (fun _ => rfl) (by decide) (by decide) (by decide) (by rw [hRc]; exact (Nat.le_of_ble_eq_true rfl)) (by rw [hRs]; exact (Nat.le_of_ble_eq_true rfl)) (by decide) (fun _ _ _ hF9 => zar_z (κ := 1) (n := 60) (lo := (-2147483648)) (hi := 2147483647) (by decide) rfl (by decide) hF9) dX11_init_95 (fun q12 Γ L F H hq12 hk hL9 h' => ?_)
  have hq1 := (hk q1 (h.2.2.2.1 _ _ hq1).1).1.trans hq1
  have hq2 := (hk q2 (h.2.2.2.1 _ _ hq2).1).1.trans hq2
  have hq3 := (hk q3 (h.2.2.2.1 _ _ hq3).1).1.trans hq3
  have hq4 := (hk q4 (h.2.2.2.1 _ _ hq4).1).1.trans hq4
  have hq5 := (hk q5 (h.2.2.2.1 _ _ hq5).1).1.trans hq5
  have hq6 := (hk q6 (h.2.2.2.1 _ _ hq6).1).1.trans hq6
  have hq7 := (hk q7 (h.2.2.2.1 _ _ hq7).1).1.trans hq7
  have hq8 := (hk q8 (h.2.2.2.1 _ _ hq8).1).1.trans hq8
  have hq9 := (hk q9 (h.2.2.2.1 _ _ hq9).1).1.trans hq9
  have hq10 := (hk q10 (h.2.2.2.1 _ _ hq10).1).1.trans hq10
  have hq11 := (hk q11 (h.2.2.2.1 _ _ hq11).1).1.trans hq11
  have h0Γ := (hk h0 h0L).1.trans h0Γ
  have hF := (hk h0 h0L).2.1.trans hF
  have h0L := (hk h0 h0L).2.2
  have hfam : ∀ a ∈ L, a = h0 ∨ ∃ t, Γ a = some t ∧ 124 ≤ t ∧ t ≤ 149 := fun a ha => (hL9 a ha).elim (fun h1 => (hfam a h1).imp id (fun ⟨t9, h2, h3⟩ => ⟨t9, (hk a h1).1.trans h2, h3⟩)) (fun h1 => Or.inr ⟨135, by rw [h1]; exact hq12, by decide⟩)
  have h := h'
  clear h' hk hL9
  refine W.widen (k := 12) (n := 290) (Nat.le_of_ble_eq_true rfl) (Nat.le_of_ble_eq_true rfl) ?_
  refine zj_put (C := RX11) (T := TX11) (N := 30) (t := 11) (v := .ref q12) Y h h0L h0Γ hF ziin_11 tyX11 tyX11_ok nmX11 rfl 15 (by decide) (zmi (List.mem_of_getElem? (i := 54) rfl)) (fun _ h9 => h9) rfl hini rfl rfl rfl (Nat.le_of_ble_eq_true rfl) dX11_init_97 (fun F' H locs hF' hne h' => ?_)
  have hF : F' h0 = .inr (11, [.int 0, .int 0, .int 0, .int 0, .ref q1, .ref q2, .ref q3, .ref q4, .ref q5, .ref q6, .ref q7, .ref q8, .ref q9, .ref q10, .ref q11, .ref q12, .null, .null, .null, .null, .null, .null, .null, .null, .null, .null, .null, .null, .null, .null]) := hF'
  have h := h'
  clear hF' hne h'
  generalize F' = F at h hF
  refine lv_aload_n hx hb dX11_init_100 rfl (lv_at hl 0 rfl) ?_
  refine lv_bipush (v := 60) hx hb dX11_init_101 (by decide) ?_
  refine zj_ar (atype := .int) (ty := .int) (κ := 1) (tc := 136) (N' := 60) (a0 := (60, .inl (fun _ => 0))) Y h (zmi (List.mem_of_getElem? (i := 5) rfl)) rfl rfl (fun _ h9 => h9) (fun _ => rfl) (by decide) (by decide) (by decide) (by rw [hRc]; exact (Nat.le_of_ble_eq_true rfl)) (by rw [hRs]; exact (Nat.le_of_ble_eq_true rfl)) (by decide) (fun _ _ _ hF9 => zar_z (κ := 1) (n := 60) (lo := (-2147483648)) (hi := 2147483647) (by decide) rfl (by decide) hF9) dX11_init_103 (fun q13 Γ L F H hq13 hk hL9 h' => ?_)
  have hq1 := (hk q1 (h.2.2.2.1 _ _ hq1).1).1.trans hq1
  have hq2 := (hk q2 (h.2.2.2.1 _ _ hq2).1).1.trans hq2
  have hq3 := (hk q3 (h.2.2.2.1 _ _ hq3).1).1.trans hq3
  have hq4 := (hk q4 (h.2.2.2.1 _ _ hq4).1).1.trans hq4
  have hq5 := (hk q5 (h.2.2.2.1 _ _ hq5).1).1.trans hq5
  have hq6 := (hk q6 (h.2.2.2.1 _ _ hq6).1).1.trans hq6
  have hq7 := (hk q7 (h.2.2.2.1 _ _ hq7).1).1.trans hq7
  have hq8 := (hk q8 (h.2.2.2.1 _ _ hq8).1).1.trans hq8
  have hq9 := (hk q9 (h.2.2.2.1 _ _ hq9).1).1.trans hq9
  have hq10 := (hk q10 (h.2.2.2.1 _ _ hq10).1).1.trans hq10
  have hq11 := (hk q11 (h.2.2.2.1 _ _ hq11).1).1.trans hq11
  have hq12 := (hk q12 (h.2.2.2.1 _ _ hq12).1).1.trans hq12
  have h0Γ := (hk h0 h0L).1.trans h0Γ
  have hF := (hk h0 h0L).2.1.trans hF
  have h0L := (hk h0 h0L).2.2
  have hfam : ∀ a ∈ L, a = h0 ∨ ∃ t, Γ a = some t ∧ 124 ≤ t ∧ t ≤ 149 := fun a ha => (hL9 a ha).elim (fun h1 => (hfam a h1).imp id (fun ⟨t9, h2, h3⟩ => ⟨t9, (hk a h1).1.trans h2, h3⟩)) (fun h1 => Or.inr ⟨136, by rw [h1]; exact hq13, by decide⟩)
  have h := h'
  clear h' hk hL9
  refine W.widen (k := 13) (n := 350) (Nat.le_of_ble_eq_true rfl) (Nat.le_of_ble_eq_true rfl) ?_
  refine zj_put (C := RX11) (T := TX11) (N := 30) (t := 11) (v := .ref q13) Y h h0L h0Γ hF ziin_11 tyX11 tyX11_ok nmX11 rfl 16 (by decide) (zmi (List.mem_of_getElem? (i := 55) rfl)) (fun _ h9 => h9) rfl hini rfl rfl rfl (Nat.le_of_ble_eq_true rfl) dX11_init_105 (fun F' H locs hF' hne h' => ?_)
  have hF : F' h0 = .inr (11, [.int 0, .int 0, .int 0, .int 0, .ref q1, .ref q2, .ref q3, .ref q4, .ref q5, .ref q6, .ref q7, .ref q8, .ref q9, .ref q10, .ref q11, .ref q12, .ref q13, .null, .null, .null, .null, .null, .null, .null, .null, .null, .null, .null, .null, .null]) := hF'
  have h := h'
  clear hF' hne h'
  generalize F' = F at h hF
  refine lv_aload_n hx hb dX11_init_108 rfl (lv_at hl 0 rfl) ?_
  refine lv_bipush (v := 60) hx hb dX11_init_109 (by decide) ?_
  refine zj_ar (atype := .int) (ty := .int) (κ := 1) (tc := 137) (N' := 60) (a0 := (60, .inl (fun _ => 0))) Y h (zmi (List.mem_of_getElem? (i := 5) rfl)) rfl rfl (fun _ h9 => h9) (fun _ => rfl) (by decide) (by decide) (by decide) (by rw [hRc]; exact (Nat.le_of_ble_eq_true rfl)) (by rw [hRs]; exact (Nat.le_of_ble_eq_true rfl)) (by decide) (fun _ _ _ hF9 => zar_z (κ := 1) (n := 60) (lo := (-1)) (hi := 7) (by decide) rfl (by decide) hF9) dX11_init_111 (fun q14 Γ L F H hq14 hk hL9 h' => ?_)
  have hq1 := (hk q1 (h.2.2.2.1 _ _ hq1).1).1.trans hq1
  have hq2 := (hk q2 (h.2.2.2.1 _ _ hq2).1).1.trans hq2
  have hq3 := (hk q3 (h.2.2.2.1 _ _ hq3).1).1.trans hq3
  have hq4 := (hk q4 (h.2.2.2.1 _ _ hq4).1).1.trans hq4
  have hq5 := (hk q5 (h.2.2.2.1 _ _ hq5).1).1.trans hq5
  have hq6 := (hk q6 (h.2.2.2.1 _ _ hq6).1).1.trans hq6
  have hq7 := (hk q7 (h.2.2.2.1 _ _ hq7).1).1.trans hq7
  have hq8 := (hk q8 (h.2.2.2.1 _ _ hq8).1).1.trans hq8
  have hq9 := (hk q9 (h.2.2.2.1 _ _ hq9).1).1.trans hq9
  have hq10 := (hk q10 (h.2.2.2.1 _ _ hq10).1).1.trans hq10
  have hq11 := (hk q11 (h.2.2.2.1 _ _ hq11).1).1.trans hq11
  have hq12 := (hk q12 (h.2.2.2.1 _ _ hq12).1).1.trans hq12
  have hq13 := (hk q13 (h.2.2.2.1 _ _ hq13).1).1.trans hq13
  have h0Γ := (hk h0 h0L).1.trans h0Γ
  have hF := (hk h0 h0L).2.1.trans hF
  have h0L := (hk h0 h0L).2.2
  have hfam : ∀ a ∈ L, a = h0 ∨ ∃ t, Γ a = some t ∧ 124 ≤ t ∧ t ≤ 149 := fun a ha => (hL9 a ha).elim (fun h1 => (hfam a h1).imp id (fun ⟨t9, h2, h3⟩ => ⟨t9, (hk a h1).1.trans h2, h3⟩)) (fun h1 => Or.inr ⟨137, by rw [h1]; exact hq14, by decide⟩)
  have h := h'
  clear h' hk hL9
  refine W.widen (k := 14) (n := 410) (Nat.le_of_ble_eq_true rfl) (Nat.le_of_ble_eq_true rfl) ?_
  refine zj_put (C := RX11) (T := TX11) (N := 30) (t := 11) (v := .ref q14) Y h h0L h0Γ hF ziin_11 tyX11 tyX11_ok nmX11 rfl 17 (by decide) (zmi (List.mem_of_getElem? (i := 56) rfl)) (fun _ h9 => h9) rfl hini rfl rfl rfl (Nat.le_of_ble_eq_true rfl) dX11_init_113 (fun F' H locs hF' hne h' => ?_)
  have hF : F' h0 = .inr (11, [.int 0, .int 0, .int 0, .int 0, .ref q1, .ref q2, .ref q3, .ref q4, .ref q5, .ref q6, .ref q7, .ref q8, .ref q9, .ref q10, .ref q11, .ref q12, .ref q13, .ref q14, .null, .null, .null, .null, .null, .null, .null, .null, .null, .null, .null, .null]) := hF'
  have h := h'
  clear hF' hne h'
  generalize F' = F at h hF
  refine lv_aload_n hx hb dX11_init_116 rfl (lv_at hl 0 rfl) ?_
  refine lv_bipush (v := 60) hx hb dX11_init_117 (by decide) ?_
  refine zj_ar (atype := .int) (ty := .int) (κ := 1) (tc := 138) (N' := 60) (a0 := (60, .inl (fun _ => 0))) Y h (zmi (List.mem_of_getElem? (i := 5) rfl)) rfl rfl (fun _ h9 => h9) (fun _ => rfl) (by decide) (by decide) (by decide) (by rw [hRc]; exact (Nat.le_of_ble_eq_true rfl)) (by rw [hRs]; exact (Nat.le_of_ble_eq_true rfl)) (by decide) (fun _ _ _ hF9 => zar_z (κ := 1) (n := 60) (lo := (-1)) (hi := 59) (by decide) rfl (by decide) hF9) dX11_init_119 (fun q15 Γ L F H hq15 hk hL9 h' => ?_)
  have hq1 := (hk q1 (h.2.2.2.1 _ _ hq1).1).1.trans hq1
  have hq2 := (hk q2 (h.2.2.2.1 _ _ hq2).1).1.trans hq2
  have hq3 := (hk q3 (h.2.2.2.1 _ _ hq3).1).1.trans hq3
  have hq4 := (hk q4 (h.2.2.2.1 _ _ hq4).1).1.trans hq4
  have hq5 := (hk q5 (h.2.2.2.1 _ _ hq5).1).1.trans hq5
  have hq6 := (hk q6 (h.2.2.2.1 _ _ hq6).1).1.trans hq6
  have hq7 := (hk q7 (h.2.2.2.1 _ _ hq7).1).1.trans hq7
  have hq8 := (hk q8 (h.2.2.2.1 _ _ hq8).1).1.trans hq8
  have hq9 := (hk q9 (h.2.2.2.1 _ _ hq9).1).1.trans hq9
  have hq10 := (hk q10 (h.2.2.2.1 _ _ hq10).1).1.trans hq10
  have hq11 := (hk q11 (h.2.2.2.1 _ _ hq11).1).1.trans hq11
  have hq12 := (hk q12 (h.2.2.2.1 _ _ hq12).1).1.trans hq12
  have hq13 := (hk q13 (h.2.2.2.1 _ _ hq13).1).1.trans hq13
  have hq14 := (hk q14 (h.2.2.2.1 _ _ hq14).1).1.trans hq14
  have h0Γ := (hk h0 h0L).1.trans h0Γ
  have hF := (hk h0 h0L).2.1.trans hF
  have h0L := (hk h0 h0L).2.2
  have hfam : ∀ a ∈ L, a = h0 ∨ ∃ t, Γ a = some t ∧ 124 ≤ t ∧ t ≤ 149 := fun a ha => (hL9 a ha).elim (fun h1 => (hfam a h1).imp id (fun ⟨t9, h2, h3⟩ => ⟨t9, (hk a h1).1.trans h2, h3⟩)) (fun h1 => Or.inr ⟨138, by rw [h1]; exact hq15, by decide⟩)
  have h := h'
  clear h' hk hL9
  refine W.widen (k := 15) (n := 470) (Nat.le_of_ble_eq_true rfl) (Nat.le_of_ble_eq_true rfl) ?_
  refine zj_put (C := RX11) (T := TX11) (N := 30) (t := 11) (v := .ref q15) Y h h0L h0Γ hF ziin_11 tyX11 tyX11_ok nmX11 rfl 18 (by decide) (zmi (List.mem_of_getElem? (i := 57) rfl)) (fun _ h9 => h9) rfl hini rfl rfl rfl (Nat.le_of_ble_eq_true rfl) dX11_init_121 (fun F' H locs hF' hne h' => ?_)
  have hF : F' h0 = .inr (11, [.int 0, .int 0, .int 0, .int 0, .ref q1, .ref q2, .ref q3, .ref q4, .ref q5, .ref q6, .ref q7, .ref q8, .ref q9, .ref q10, .ref q11, .ref q12, .ref q13, .ref q14, .ref q15, .null, .null, .null, .null, .null, .null, .null, .null, .null, .null, .null]) := hF'
  have h := h'
  clear hF' hne h'
  generalize F' = F at h hF
  refine lv_aload_n hx hb dX11_init_124 rfl (lv_at hl 0 rfl) ?_
  refine lv_bipush (v := 60) hx hb dX11_init_125 (by decide) ?_
  refine zj_ar (atype := .int) (ty := .int) (κ := 1) (tc := 139) (N' := 60) (a0 := (60, .inl (fun _ => 0))) Y h (zmi (List.mem_of_getElem? (i := 5) rfl)) rfl rfl (fun _ h9 => h9) (fun _ => rfl) (by decide) (by decide) (by decide) (by rw [hRc]; exact (Nat.le_of_ble_eq_true rfl)) (by rw [hRs]; exact (Nat.le_of_ble_eq_true rfl)) (by decide) (fun _ _ _ hF9 => zar_z (κ := 1) (n := 60) (lo := (-1)) (hi := 59) (by decide) rfl (by decide) hF9) dX11_init_127 (fun q16 Γ L F H hq16 hk hL9 h' => ?_)
  have hq1 := (hk q1 (h.2.2.2.1 _ _ hq1).1).1.trans hq1
  have hq2 := (hk q2 (h.2.2.2.1 _ _ hq2).1).1.trans hq2
  have hq3 := (hk q3 (h.2.2.2.1 _ _ hq3).1).1.trans hq3
  have hq4 := (hk q4 (h.2.2.2.1 _ _ hq4).1).1.trans hq4
  have hq5 := (hk q5 (h.2.2.2.1 _ _ hq5).1).1.trans hq5
  have hq6 := (hk q6 (h.2.2.2.1 _ _ hq6).1).1.trans hq6
  have hq7 := (hk q7 (h.2.2.2.1 _ _ hq7).1).1.trans hq7
  have hq8 := (hk q8 (h.2.2.2.1 _ _ hq8).1).1.trans hq8
  have hq9 := (hk q9 (h.2.2.2.1 _ _ hq9).1).1.trans hq9
  have hq10 := (hk q10 (h.2.2.2.1 _ _ hq10).1).1.trans hq10
  have hq11 := (hk q11 (h.2.2.2.1 _ _ hq11).1).1.trans hq11
  have hq12 := (hk q12 (h.2.2.2.1 _ _ hq12).1).1.trans hq12
  have hq13 := (hk q13 (h.2.2.2.1 _ _ hq13).1).1.trans hq13
  have hq14 := (hk q14 (h.2.2.2.1 _ _ hq14).1).1.trans hq14
  have hq15 := (hk q15 (h.2.2.2.1 _ _ hq15).1).1.trans hq15
  have h0Γ := (hk h0 h0L).1.trans h0Γ
  have hF := (hk h0 h0L).2.1.trans hF
  have h0L := (hk h0 h0L).2.2
  have hfam : ∀ a ∈ L, a = h0 ∨ ∃ t, Γ a = some t ∧ 124 ≤ t ∧ t ≤ 149 := fun a ha => (hL9 a ha).elim (fun h1 => (hfam a h1).imp id (fun ⟨t9, h2, h3⟩ => ⟨t9, (hk a h1).1.trans h2, h3⟩)) (fun h1 => Or.inr ⟨139, by rw [h1]; exact hq16, by decide⟩)
  have h := h'
  clear h' hk hL9
  refine W.widen (k := 16) (n := 530) (Nat.le_of_ble_eq_true rfl) (Nat.le_of_ble_eq_true rfl) ?_
  refine zj_put (C := RX11) (T := TX11) (N := 30) (t := 11) (v := .ref q16) Y h h0L h0Γ hF ziin_11 tyX11 tyX11_ok nmX11 rfl 19 (by decide) (zmi (List.mem_of_getElem? (i := 58) rfl)) (fun _ h9 => h9) rfl hini rfl rfl rfl (Nat.le_of_ble_eq_true rfl) dX11_init_129 (fun F' H locs hF' hne h' => ?_)
  have hF : F' h0 = .inr (11, [.int 0, .int 0, .int 0, .int 0, .ref q1, .ref q2, .ref q3, .ref q4, .ref q5, .ref q6, .ref q7, .ref q8, .ref q9, .ref q10, .ref q11, .ref q12, .ref q13, .ref q14, .ref q15, .ref q16, .null, .null, .null, .null, .null, .null, .null, .null, .null, .null]) := hF'
  have h := h'
  clear hF' hne h'
  generalize F' = F at h hF
  refine lv_aload_n hx hb dX11_init_132 rfl (lv_at hl 0 rfl) ?_
  refine lv_bipush (v := 60) hx hb dX11_init_133 (by decide) ?_
  refine zj_ar (atype := .int) (ty := .int) (κ := 1) (tc := 140) (N' := 60) (a0 := (60, .inl (fun _ => 0))) Y h (zmi (List.mem_of_getElem? (i := 5) rfl)) rfl rfl (fun _ h9 => h9) (fun _ => rfl) (by decide) (by decide) (by decide) (by rw [hRc]; exact (Nat.le_of_ble_eq_true rfl)) (by rw [hRs]; exact (Nat.le_of_ble_eq_true rfl)) (by decide) (fun _ _ _ hF9 => zar_z (κ := 1) (n := 60) (lo := (-1)) (hi := 59) (by decide) rfl (by decide) hF9) dX11_init_135 (fun q17 Γ L F H hq17 hk hL9 h' => ?_)
  have hq1 := (hk q1 (h.2.2.2.1 _ _ hq1).1).1.trans hq1
  have hq2 := (hk q2 (h.2.2.2.1 _ _ hq2).1).1.trans hq2
  have hq3 := (hk q3 (h.2.2.2.1 _ _ hq3).1).1.trans hq3
  have hq4 := (hk q4 (h.2.2.2.1 _ _ hq4).1).1.trans hq4
  have hq5 := (hk q5 (h.2.2.2.1 _ _ hq5).1).1.trans hq5
  have hq6 := (hk q6 (h.2.2.2.1 _ _ hq6).1).1.trans hq6
  have hq7 := (hk q7 (h.2.2.2.1 _ _ hq7).1).1.trans hq7
  have hq8 := (hk q8 (h.2.2.2.1 _ _ hq8).1).1.trans hq8
  have hq9 := (hk q9 (h.2.2.2.1 _ _ hq9).1).1.trans hq9
  have hq10 := (hk q10 (h.2.2.2.1 _ _ hq10).1).1.trans hq10
  have hq11 := (hk q11 (h.2.2.2.1 _ _ hq11).1).1.trans hq11
  have hq12 := (hk q12 (h.2.2.2.1 _ _ hq12).1).1.trans hq12
  have hq13 := (hk q13 (h.2.2.2.1 _ _ hq13).1).1.trans hq13
  have hq14 := (hk q14 (h.2.2.2.1 _ _ hq14).1).1.trans hq14
  have hq15 := (hk q15 (h.2.2.2.1 _ _ hq15).1).1.trans hq15
  have hq16 := (hk q16 (h.2.2.2.1 _ _ hq16).1).1.trans hq16
  have h0Γ := (hk h0 h0L).1.trans h0Γ
  have hF := (hk h0 h0L).2.1.trans hF
  have h0L := (hk h0 h0L).2.2
  have hfam : ∀ a ∈ L, a = h0 ∨ ∃ t, Γ a = some t ∧ 124 ≤ t ∧ t ≤ 149 := fun a ha => (hL9 a ha).elim (fun h1 => (hfam a h1).imp id (fun ⟨t9, h2, h3⟩ => ⟨t9, (hk a h1).1.trans h2, h3⟩)) (fun h1 => Or.inr ⟨140, by rw [h1]; exact hq17, by decide⟩)
  have h := h'
  clear h' hk hL9
  refine W.widen (k := 17) (n := 590) (Nat.le_of_ble_eq_true rfl) (Nat.le_of_ble_eq_true rfl) ?_
  refine zj_put (C := RX11) (T := TX11) (N := 30) (t := 11) (v := .ref q17) Y h h0L h0Γ hF ziin_11 tyX11 tyX11_ok nmX11 rfl 20 (by decide) (zmi (List.mem_of_getElem? (i := 59) rfl)) (fun _ h9 => h9) rfl hini rfl rfl rfl (Nat.le_of_ble_eq_true rfl) dX11_init_137 (fun F' H locs hF' hne h' => ?_)
  have hF : F' h0 = .inr (11, [.int 0, .int 0, .int 0, .int 0, .ref q1, .ref q2, .ref q3, .ref q4, .ref q5, .ref q6, .ref q7, .ref q8, .ref q9, .ref q10, .ref q11, .ref q12, .ref q13, .ref q14, .ref q15, .ref q16, .ref q17, .null, .null, .null, .null, .null, .null, .null, .null, .null]) := hF'
  have h := h'
  clear hF' hne h'
  generalize F' = F at h hF
  refine lv_aload_n hx hb dX11_init_140 rfl (lv_at hl 0 rfl) ?_
  refine lv_bipush (v := 60) hx hb dX11_init_141 (by decide) ?_
  refine zj_ar (atype := .int) (ty := .int) (κ := 1) (tc := 141) (N' := 60) (a0 := (60, .inl (fun _ => 0))) Y h (zmi (List.mem_of_getElem? (i := 5) rfl)) rfl rfl (fun _ h9 => h9) (fun _ => rfl) (by decide) (by decide) (by decide) (by rw [hRc]; exact (Nat.le_of_ble_eq_true rfl)) (by rw [hRs]; exact (Nat.le_of_ble_eq_true rfl)) (by decide) (fun _ _ _ hF9 => zar_z (κ := 1) (n := 60) (lo := (-1)) (hi := 59) (by decide) rfl (by decide) hF9) dX11_init_143 (fun q18 Γ L F H hq18 hk hL9 h' => ?_)
  have hq1 := (hk q1 (h.2.2.2.1 _ _ hq1).1).1.trans hq1
  have hq2 := (hk q2 (h.2.2.2.1 _ _ hq2).1).1.trans hq2
  have hq3 := (hk q3 (h.2.2.2.1 _ _ hq3).1).1.trans hq3
  have hq4 := (hk q4 (h.2.2.2.1 _ _ hq4).1).1.trans hq4
  have hq5 := (hk q5 (h.2.2.2.1 _ _ hq5).1).1.trans hq5
  have hq6 := (hk q6 (h.2.2.2.1 _ _ hq6).1).1.trans hq6
  have hq7 := (hk q7 (h.2.2.2.1 _ _ hq7).1).1.trans hq7
  have hq8 := (hk q8 (h.2.2.2.1 _ _ hq8).1).1.trans hq8
  have hq9 := (hk q9 (h.2.2.2.1 _ _ hq9).1).1.trans hq9
  have hq10 := (hk q10 (h.2.2.2.1 _ _ hq10).1).1.trans hq10
  have hq11 := (hk q11 (h.2.2.2.1 _ _ hq11).1).1.trans hq11
  have hq12 := (hk q12 (h.2.2.2.1 _ _ hq12).1).1.trans hq12
  have hq13 := (hk q13 (h.2.2.2.1 _ _ hq13).1).1.trans hq13
  have hq14 := (hk q14 (h.2.2.2.1 _ _ hq14).1).1.trans hq14
  have hq15 := (hk q15 (h.2.2.2.1 _ _ hq15).1).1.trans hq15
  have hq16 := (hk q16 (h.2.2.2.1 _ _ hq16).1).1.trans hq16
  have hq17 := (hk q17 (h.2.2.2.1 _ _ hq17).1).1.trans hq17
  have h0Γ := (hk h0 h0L).1.trans h0Γ
  have hF := (hk h0 h0L).2.1.trans hF
  have h0L := (hk h0 h0L).2.2
  have hfam : ∀ a ∈ L, a = h0 ∨ ∃ t, Γ a = some t ∧ 124 ≤ t ∧ t ≤ 149 := fun a ha => (hL9 a ha).elim (fun h1 => (hfam a h1).imp id (fun ⟨t9, h2, h3⟩ => ⟨t9, (hk a h1).1.trans h2, h3⟩)) (fun h1 => Or.inr ⟨141, by rw [h1]; exact hq18, by decide⟩)
  have h := h'
  clear h' hk hL9
  refine W.widen (k := 18) (n := 650) (Nat.le_of_ble_eq_true rfl) (Nat.le_of_ble_eq_true rfl) ?_
  refine zj_put (C := RX11) (T := TX11) (N := 30) (t := 11) (v := .ref q18) Y h h0L h0Γ hF ziin_11 tyX11 tyX11_ok nmX11 rfl 21 (by decide) (zmi (List.mem_of_getElem? (i := 60) rfl)) (fun _ h9 => h9) rfl hini rfl rfl rfl (Nat.le_of_ble_eq_true rfl) dX11_init_145 (fun F' H locs hF' hne h' => ?_)
  have hF : F' h0 = .inr (11, [.int 0, .int 0, .int 0, .int 0, .ref q1, .ref q2, .ref q3, .ref q4, .ref q5, .ref q6, .ref q7, .ref q8, .ref q9, .ref q10, .ref q11, .ref q12, .ref q13, .ref q14, .ref q15, .ref q16, .ref q17, .ref q18, .null, .null, .null, .null, .null, .null, .null, .null]) := hF'
  have h := h'
  clear hF' hne h'
  generalize F' = F at h hF
  refine lv_aload_n hx hb dX11_init_148 rfl (lv_at hl 0 rfl) ?_
  refine lv_bipush (v := 60) hx hb dX11_init_149 (by decide) ?_
  refine zj_ar (atype := .int) (ty := .int) (κ := 1) (tc := 142) (N' := 60) (a0 := (60, .inl (fun _ => 0))) Y h (zmi (List.mem_of_getElem? (i := 5) rfl)) rfl rfl (fun _ h9 => h9) (fun _ => rfl) (by decide) (by decide) (by decide) (by rw [hRc]; exact (Nat.le_of_ble_eq_true rfl)) (by rw [hRs]; exact (Nat.le_of_ble_eq_true rfl)) (by decide) (fun _ _ _ hF9 => zar_z (κ := 1) (n := 60) (lo := 0) (hi := 620) (by decide) rfl (by decide) hF9) dX11_init_151 (fun q19 Γ L F H hq19 hk hL9 h' => ?_)
  have hq1 := (hk q1 (h.2.2.2.1 _ _ hq1).1).1.trans hq1
  have hq2 := (hk q2 (h.2.2.2.1 _ _ hq2).1).1.trans hq2
  have hq3 := (hk q3 (h.2.2.2.1 _ _ hq3).1).1.trans hq3
  have hq4 := (hk q4 (h.2.2.2.1 _ _ hq4).1).1.trans hq4
  have hq5 := (hk q5 (h.2.2.2.1 _ _ hq5).1).1.trans hq5
  have hq6 := (hk q6 (h.2.2.2.1 _ _ hq6).1).1.trans hq6
  have hq7 := (hk q7 (h.2.2.2.1 _ _ hq7).1).1.trans hq7
  have hq8 := (hk q8 (h.2.2.2.1 _ _ hq8).1).1.trans hq8
  have hq9 := (hk q9 (h.2.2.2.1 _ _ hq9).1).1.trans hq9
  have hq10 := (hk q10 (h.2.2.2.1 _ _ hq10).1).1.trans hq10
  have hq11 := (hk q11 (h.2.2.2.1 _ _ hq11).1).1.trans hq11
  have hq12 := (hk q12 (h.2.2.2.1 _ _ hq12).1).1.trans hq12
  have hq13 := (hk q13 (h.2.2.2.1 _ _ hq13).1).1.trans hq13
  have hq14 := (hk q14 (h.2.2.2.1 _ _ hq14).1).1.trans hq14
  have hq15 := (hk q15 (h.2.2.2.1 _ _ hq15).1).1.trans hq15
  have hq16 := (hk q16 (h.2.2.2.1 _ _ hq16).1).1.trans hq16
  have hq17 := (hk q17 (h.2.2.2.1 _ _ hq17).1).1.trans hq17
  have hq18 := (hk q18 (h.2.2.2.1 _ _ hq18).1).1.trans hq18
  have h0Γ := (hk h0 h0L).1.trans h0Γ
  have hF := (hk h0 h0L).2.1.trans hF
  have h0L := (hk h0 h0L).2.2
  have hfam : ∀ a ∈ L, a = h0 ∨ ∃ t, Γ a = some t ∧ 124 ≤ t ∧ t ≤ 149 := fun a ha => (hL9 a ha).elim (fun h1 => (hfam a h1).imp id (fun ⟨t9, h2, h3⟩ => ⟨t9, (hk a h1).1.trans h2, h3⟩)) (fun h1 => Or.inr ⟨142, by rw [h1]; exact hq19, by decide⟩)
  have h := h'
  clear h' hk hL9
  refine W.widen (k := 19) (n := 710) (Nat.le_of_ble_eq_true rfl) (Nat.le_of_ble_eq_true rfl) ?_
  refine zj_put (C := RX11) (T := TX11) (N := 30) (t := 11) (v := .ref q19) Y h h0L h0Γ hF ziin_11 tyX11 tyX11_ok nmX11 rfl 22 (by decide) (zmi (List.mem_of_getElem? (i := 61) rfl)) (fun _ h9 => h9) rfl hini rfl rfl rfl (Nat.le_of_ble_eq_true rfl) dX11_init_153 (fun F' H locs hF' hne h' => ?_)
  have hF : F' h0 = .inr (11, [.int 0, .int 0, .int 0, .int 0, .ref q1, .ref q2, .ref q3, .ref q4, .ref q5, .ref q6, .ref q7, .ref q8, .ref q9, .ref q10, .ref q11, .ref q12, .ref q13, .ref q14, .ref q15, .ref q16, .ref q17, .ref q18, .ref q19, .null, .null, .null, .null, .null, .null, .null]) := hF'
  have h := h'
  clear hF' hne h'
  generalize F' = F at h hF
  refine lv_aload_n hx hb dX11_init_156 rfl (lv_at hl 0 rfl) ?_
  refine lv_bipush (v := 60) hx hb dX11_init_157 (by decide) ?_
  refine zj_ar (atype := .int) (ty := .int) (κ := 1) (tc := 143) (N' := 60) (a0 := (60, .inl (fun _ => 0))) Y h (zmi (List.mem_of_getElem? (i := 5) rfl)) rfl rfl (fun _ h9 => h9) (fun _ => rfl) (by decide) (by decide) (by decide) (by rw [hRc]; exact (Nat.le_of_ble_eq_true rfl)) (by rw [hRs]; exact (Nat.le_of_ble_eq_true rfl)) (by decide) (fun _ _ _ hF9 => zar_z (κ := 1) (n := 60) (lo := 0) (hi := 620) (by decide) rfl (by decide) hF9) dX11_init_159 (fun q20 Γ L F H hq20 hk hL9 h' => ?_)
  have hq1 := (hk q1 (h.2.2.2.1 _ _ hq1).1).1.trans hq1
  have hq2 := (hk q2 (h.2.2.2.1 _ _ hq2).1).1.trans hq2
  have hq3 := (hk q3 (h.2.2.2.1 _ _ hq3).1).1.trans hq3
  have hq4 := (hk q4 (h.2.2.2.1 _ _ hq4).1).1.trans hq4
  have hq5 := (hk q5 (h.2.2.2.1 _ _ hq5).1).1.trans hq5
  have hq6 := (hk q6 (h.2.2.2.1 _ _ hq6).1).1.trans hq6
  have hq7 := (hk q7 (h.2.2.2.1 _ _ hq7).1).1.trans hq7
  have hq8 := (hk q8 (h.2.2.2.1 _ _ hq8).1).1.trans hq8
  have hq9 := (hk q9 (h.2.2.2.1 _ _ hq9).1).1.trans hq9
  have hq10 := (hk q10 (h.2.2.2.1 _ _ hq10).1).1.trans hq10
  have hq11 := (hk q11 (h.2.2.2.1 _ _ hq11).1).1.trans hq11
  have hq12 := (hk q12 (h.2.2.2.1 _ _ hq12).1).1.trans hq12
  have hq13 := (hk q13 (h.2.2.2.1 _ _ hq13).1).1.trans hq13
  have hq14 := (hk q14 (h.2.2.2.1 _ _ hq14).1).1.trans hq14
  have hq15 := (hk q15 (h.2.2.2.1 _ _ hq15).1).1.trans hq15
  have hq16 := (hk q16 (h.2.2.2.1 _ _ hq16).1).1.trans hq16
  have hq17 := (hk q17 (h.2.2.2.1 _ _ hq17).1).1.trans hq17
  have hq18 := (hk q18 (h.2.2.2.1 _ _ hq18).1).1.trans hq18
  have hq19 := (hk q19 (h.2.2.2.1 _ _ hq19).1).1.trans hq19
  have h0Γ := (hk h0 h0L).1.trans h0Γ
  have hF := (hk h0 h0L).2.1.trans hF
  have h0L := (hk h0 h0L).2.2
  have hfam : ∀ a ∈ L, a = h0 ∨ ∃ t, Γ a = some t ∧ 124 ≤ t ∧ t ≤ 149 := fun a ha => (hL9 a ha).elim (fun h1 => (hfam a h1).imp id (fun ⟨t9, h2, h3⟩ => ⟨t9, (hk a h1).1.trans h2, h3⟩)) (fun h1 => Or.inr ⟨143, by rw [h1]; exact hq20, by decide⟩)
  have h := h'
  clear h' hk hL9
  refine W.widen (k := 20) (n := 770) (Nat.le_of_ble_eq_true rfl) (Nat.le_of_ble_eq_true rfl) ?_
  refine zj_put (C := RX11) (T := TX11) (N := 30) (t := 11) (v := .ref q20) Y h h0L h0Γ hF ziin_11 tyX11 tyX11_ok nmX11 rfl 23 (by decide) (zmi (List.mem_of_getElem? (i := 62) rfl)) (fun _ h9 => h9) rfl hini rfl rfl rfl (Nat.le_of_ble_eq_true rfl) dX11_init_161 (fun F' H locs hF' hne h' => ?_)
  have hF : F' h0 = .inr (11, [.int 0, .int 0, .int 0, .int 0, .ref q1, .ref q2, .ref q3, .ref q4, .ref q5, .ref q6, .ref q7, .ref q8, .ref q9, .ref q10, .ref q11, .ref q12, .ref q13, .ref q14, .ref q15, .ref q16, .ref q17, .ref q18, .ref q19, .ref q20, .null, .null, .null, .null, .null, .null]) := hF'
  have h := h'
  clear hF' hne h'
  generalize F' = F at h hF
  refine lv_aload_n hx hb dX11_init_164 rfl (lv_at hl 0 rfl) ?_
  refine lv_sipush (v := 620) hx hb dX11_init_165 (by decide) ?_
  refine zj_ar (atype := .int) (ty := .int) (κ := 1) (tc := 144) (N' := 620) (a0 := (620, .inl (fun _ => 0))) Y h (zmi (List.mem_of_getElem? (i := 5) rfl)) rfl rfl (fun _ h9 => h9) (fun _ => rfl) (by decide) (by decide) (by decide) (by rw [hRc]; exact (Nat.le_of_ble_eq_true rfl)) (by rw [hRs]; exact (Nat.le_of_ble_eq_true rfl)) (by decide) (fun _ _ _ hF9 => zar_z (κ := 1) (n := 620) (lo := (-2147483648)) (hi := 2147483647) (by decide) rfl (by decide) hF9) dX11_init_168 (fun q21 Γ L F H hq21 hk hL9 h' => ?_)
  have hq1 := (hk q1 (h.2.2.2.1 _ _ hq1).1).1.trans hq1
  have hq2 := (hk q2 (h.2.2.2.1 _ _ hq2).1).1.trans hq2
  have hq3 := (hk q3 (h.2.2.2.1 _ _ hq3).1).1.trans hq3
  have hq4 := (hk q4 (h.2.2.2.1 _ _ hq4).1).1.trans hq4
  have hq5 := (hk q5 (h.2.2.2.1 _ _ hq5).1).1.trans hq5
  have hq6 := (hk q6 (h.2.2.2.1 _ _ hq6).1).1.trans hq6
  have hq7 := (hk q7 (h.2.2.2.1 _ _ hq7).1).1.trans hq7
  have hq8 := (hk q8 (h.2.2.2.1 _ _ hq8).1).1.trans hq8
  have hq9 := (hk q9 (h.2.2.2.1 _ _ hq9).1).1.trans hq9
  have hq10 := (hk q10 (h.2.2.2.1 _ _ hq10).1).1.trans hq10
  have hq11 := (hk q11 (h.2.2.2.1 _ _ hq11).1).1.trans hq11
  have hq12 := (hk q12 (h.2.2.2.1 _ _ hq12).1).1.trans hq12
  have hq13 := (hk q13 (h.2.2.2.1 _ _ hq13).1).1.trans hq13
  have hq14 := (hk q14 (h.2.2.2.1 _ _ hq14).1).1.trans hq14
  have hq15 := (hk q15 (h.2.2.2.1 _ _ hq15).1).1.trans hq15
  have hq16 := (hk q16 (h.2.2.2.1 _ _ hq16).1).1.trans hq16
  have hq17 := (hk q17 (h.2.2.2.1 _ _ hq17).1).1.trans hq17
  have hq18 := (hk q18 (h.2.2.2.1 _ _ hq18).1).1.trans hq18
  have hq19 := (hk q19 (h.2.2.2.1 _ _ hq19).1).1.trans hq19
  have hq20 := (hk q20 (h.2.2.2.1 _ _ hq20).1).1.trans hq20
  have h0Γ := (hk h0 h0L).1.trans h0Γ
  have hF := (hk h0 h0L).2.1.trans hF
  have h0L := (hk h0 h0L).2.2
  have hfam : ∀ a ∈ L, a = h0 ∨ ∃ t, Γ a = some t ∧ 124 ≤ t ∧ t ≤ 149 := fun a ha => (hL9 a ha).elim (fun h1 => (hfam a h1).imp id (fun ⟨t9, h2, h3⟩ => ⟨t9, (hk a h1).1.trans h2, h3⟩)) (fun h1 => Or.inr ⟨144, by rw [h1]; exact hq21, by decide⟩)
  have h := h'
  clear h' hk hL9
  refine W.widen (k := 21) (n := 1390) (Nat.le_of_ble_eq_true rfl) (Nat.le_of_ble_eq_true rfl) ?_
  refine zj_put (C := RX11) (T := TX11) (N := 30) (t := 11) (v := .ref q21) Y h h0L h0Γ hF ziin_11 tyX11 tyX11_ok nmX11 rfl 24 (by decide) (zmi (List.mem_of_getElem? (i := 63) rfl)) (fun _ h9 => h9) rfl hini rfl rfl rfl (Nat.le_of_ble_eq_true rfl) dX11_init_170 (fun F' H locs hF' hne h' => ?_)
  have hF : F' h0 = .inr (11, [.int 0, .int 0, .int 0, .int 0, .ref q1, .ref q2, .ref q3, .ref q4, .ref q5, .ref q6, .ref q7, .ref q8, .ref q9, .ref q10, .ref q11, .ref q12, .ref q13, .ref q14, .ref q15, .ref q16, .ref q17, .ref q18, .ref q19, .ref q20, .ref q21, .null, .null, .null, .null, .null]) := hF'
  have h := h'
  clear hF' hne h'
  generalize F' = F at h hF
  refine lv_aload_n hx hb dX11_init_173 rfl (lv_at hl 0 rfl) ?_
  refine lv_sipush (v := 620) hx hb dX11_init_174 (by decide) ?_
  refine zj_ar (atype := .int) (ty := .int) (κ := 1) (tc := 145) (N' := 620) (a0 := (620, .inl (fun _ => 0))) Y h (zmi (List.mem_of_getElem? (i := 5) rfl)) rfl rfl (fun _ h9 => h9) (fun _ => rfl) (by decide) (by decide) (by decide) (by rw [hRc]; exact (Nat.le_of_ble_eq_true rfl)) (by rw [hRs]; exact (Nat.le_of_ble_eq_true rfl)) (by decide) (fun _ _ _ hF9 => zar_z (κ := 1) (n := 620) (lo := (-2147483648)) (hi := 2147483647) (by decide) rfl (by decide) hF9) dX11_init_177 (fun q22 Γ L F H hq22 hk hL9 h' => ?_)
  have hq1 := (hk q1 (h.2.2.2.1 _ _ hq1).1).1.trans hq1
  have hq2 := (hk q2 (h.2.2.2.1 _ _ hq2).1).1.trans hq2
  have hq3 := (hk q3 (h.2.2.2.1 _ _ hq3).1).1.trans hq3
  have hq4 := (hk q4 (h.2.2.2.1 _ _ hq4).1).1.trans hq4
  have hq5 := (hk q5 (h.2.2.2.1 _ _ hq5).1).1.trans hq5
  have hq6 := (hk q6 (h.2.2.2.1 _ _ hq6).1).1.trans hq6
  have hq7 := (hk q7 (h.2.2.2.1 _ _ hq7).1).1.trans hq7
  have hq8 := (hk q8 (h.2.2.2.1 _ _ hq8).1).1.trans hq8
  have hq9 := (hk q9 (h.2.2.2.1 _ _ hq9).1).1.trans hq9
  have hq10 := (hk q10 (h.2.2.2.1 _ _ hq10).1).1.trans hq10
  have hq11 := (hk q11 (h.2.2.2.1 _ _ hq11).1).1.trans hq11
  have hq12 := (hk q12 (h.2.2.2.1 _ _ hq12).1).1.trans hq12
  have hq13 := (hk q13 (h.2.2.2.1 _ _ hq13).1).1.trans hq13
  have hq14 := (hk q14 (h.2.2.2.1 _ _ hq14).1).1.trans hq14
  have hq15 := (hk q15 (h.2.2.2.1 _ _ hq15).1).1.trans hq15
  have hq16 := (hk q16 (h.2.2.2.1 _ _ hq16).1).1.trans hq16
  have hq17 := (hk q17 (h.2.2.2.1 _ _ hq17).1).1.trans hq17
  have hq18 := (hk q18 (h.2.2.2.1 _ _ hq18).1).1.trans hq18
  have hq19 := (hk q19 (h.2.2.2.1 _ _ hq19).1).1.trans hq19
  have hq20 := (hk q20 (h.2.2.2.1 _ _ hq20).1).1.trans hq20
  have hq21 := (hk q21 (h.2.2.2.1 _ _ hq21).1).1.trans hq21
  have h0Γ := (hk h0 h0L).1.trans h0Γ
  have hF := (hk h0 h0L).2.1.trans hF
  have h0L := (hk h0 h0L).2.2
  have hfam : ∀ a ∈ L, a = h0 ∨ ∃ t, Γ a = some t ∧ 124 ≤ t ∧ t ≤ 149 := fun a ha => (hL9 a ha).elim (fun h1 => (hfam a h1).imp id (fun ⟨t9, h2, h3⟩ => ⟨t9, (hk a h1).1.trans h2, h3⟩)) (fun h1 => Or.inr ⟨145, by rw [h1]; exact hq22, by decide⟩)
  have h := h'
  clear h' hk hL9
  refine W.widen (k := 22) (n := 2010) (Nat.le_of_ble_eq_true rfl) (Nat.le_of_ble_eq_true rfl) ?_
  refine zj_put (C := RX11) (T := TX11) (N := 30) (t := 11) (v := .ref q22) Y h h0L h0Γ hF ziin_11 tyX11 tyX11_ok nmX11 rfl 25 (by decide) (zmi (List.mem_of_getElem? (i := 64) rfl)) (fun _ h9 => h9) rfl hini rfl rfl rfl (Nat.le_of_ble_eq_true rfl) dX11_init_179 (fun F' H locs hF' hne h' => ?_)
  have hF : F' h0 = .inr (11, [.int 0, .int 0, .int 0, .int 0, .ref q1, .ref q2, .ref q3, .ref q4, .ref q5, .ref q6, .ref q7, .ref q8, .ref q9, .ref q10, .ref q11, .ref q12, .ref q13, .ref q14, .ref q15, .ref q16, .ref q17, .ref q18, .ref q19, .ref q20, .ref q21, .ref q22, .null, .null, .null, .null]) := hF'
  have h := h'
  clear hF' hne h'
  generalize F' = F at h hF
  refine lv_aload_n hx hb dX11_init_182 rfl (lv_at hl 0 rfl) ?_
  refine lv_sipush (v := 620) hx hb dX11_init_183 (by decide) ?_
  refine zj_ar (atype := .int) (ty := .int) (κ := 1) (tc := 146) (N' := 620) (a0 := (620, .inl (fun _ => 0))) Y h (zmi (List.mem_of_getElem? (i := 5) rfl)) rfl rfl (fun _ h9 => h9) (fun _ => rfl) (by decide) (by decide) (by decide) (by rw [hRc]; exact (Nat.le_of_ble_eq_true rfl)) (by rw [hRs]; exact (Nat.le_of_ble_eq_true rfl)) (by decide) (fun _ _ _ hF9 => zar_z (κ := 1) (n := 620) (lo := (-2147483648)) (hi := 2147483647) (by decide) rfl (by decide) hF9) dX11_init_186 (fun q23 Γ L F H hq23 hk hL9 h' => ?_)
  have hq1 := (hk q1 (h.2.2.2.1 _ _ hq1).1).1.trans hq1
  have hq2 := (hk q2 (h.2.2.2.1 _ _ hq2).1).1.trans hq2
  have hq3 := (hk q3 (h.2.2.2.1 _ _ hq3).1).1.trans hq3
  have hq4 := (hk q4 (h.2.2.2.1 _ _ hq4).1).1.trans hq4
  have hq5 := (hk q5 (h.2.2.2.1 _ _ hq5).1).1.trans hq5
  have hq6 := (hk q6 (h.2.2.2.1 _ _ hq6).1).1.trans hq6
  have hq7 := (hk q7 (h.2.2.2.1 _ _ hq7).1).1.trans hq7
  have hq8 := (hk q8 (h.2.2.2.1 _ _ hq8).1).1.trans hq8
  have hq9 := (hk q9 (h.2.2.2.1 _ _ hq9).1).1.trans hq9
  have hq10 := (hk q10 (h.2.2.2.1 _ _ hq10).1).1.trans hq10
  have hq11 := (hk q11 (h.2.2.2.1 _ _ hq11).1).1.trans hq11
  have hq12 := (hk q12 (h.2.2.2.1 _ _ hq12).1).1.trans hq12
  have hq13 := (hk q13 (h.2.2.2.1 _ _ hq13).1).1.trans hq13
  have hq14 := (hk q14 (h.2.2.2.1 _ _ hq14).1).1.trans hq14
  have hq15 := (hk q15 (h.2.2.2.1 _ _ hq15).1).1.trans hq15
  have hq16 := (hk q16 (h.2.2.2.1 _ _ hq16).1).1.trans hq16
  have hq17 := (hk q17 (h.2.2.2.1 _ _ hq17).1).1.trans hq17
  have hq18 := (hk q18 (h.2.2.2.1 _ _ hq18).1).1.trans hq18
  have hq19 := (hk q19 (h.2.2.2.1 _ _ hq19).1).1.trans hq19
  have hq20 := (hk q20 (h.2.2.2.1 _ _ hq20).1).1.trans hq20
  have hq21 := (hk q21 (h.2.2.2.1 _ _ hq21).1).1.trans hq21
  have hq22 := (hk q22 (h.2.2.2.1 _ _ hq22).1).1.trans hq22
  have h0Γ := (hk h0 h0L).1.trans h0Γ
  have hF := (hk h0 h0L).2.1.trans hF
  have h0L := (hk h0 h0L).2.2
  have hfam : ∀ a ∈ L, a = h0 ∨ ∃ t, Γ a = some t ∧ 124 ≤ t ∧ t ≤ 149 := fun a ha => (hL9 a ha).elim (fun h1 => (hfam a h1).imp id (fun ⟨t9, h2, h3⟩ => ⟨t9, (hk a h1).1.trans h2, h3⟩)) (fun h1 => Or.inr ⟨146, by rw [h1]; exact hq23, by decide⟩)
  have h := h'
  clear h' hk hL9
  refine W.widen (k := 23) (n := 2630) (Nat.le_of_ble_eq_true rfl) (Nat.le_of_ble_eq_true rfl) ?_
  refine zj_put (C := RX11) (T := TX11) (N := 30) (t := 11) (v := .ref q23) Y h h0L h0Γ hF ziin_11 tyX11 tyX11_ok nmX11 rfl 26 (by decide) (zmi (List.mem_of_getElem? (i := 65) rfl)) (fun _ h9 => h9) rfl hini rfl rfl rfl (Nat.le_of_ble_eq_true rfl) dX11_init_188 (fun F' H locs hF' hne h' => ?_)
  have hF : F' h0 = .inr (11, [.int 0, .int 0, .int 0, .int 0, .ref q1, .ref q2, .ref q3, .ref q4, .ref q5, .ref q6, .ref q7, .ref q8, .ref q9, .ref q10, .ref q11, .ref q12, .ref q13, .ref q14, .ref q15, .ref q16, .ref q17, .ref q18, .ref q19, .ref q20, .ref q21, .ref q22, .ref q23, .null, .null, .null]) := hF'
  have h := h'
  clear hF' hne h'
  generalize F' = F at h hF
  refine lv_aload_n hx hb dX11_init_191 rfl (lv_at hl 0 rfl) ?_
  refine lv_sipush (v := 620) hx hb dX11_init_192 (by decide) ?_
  refine zj_ar (atype := .int) (ty := .int) (κ := 1) (tc := 147) (N' := 620) (a0 := (620, .inl (fun _ => 0))) Y h (zmi (List.mem_of_getElem? (i := 5) rfl)) rfl rfl (fun _ h9 => h9) (fun _ => rfl) (by decide) (by decide) (by decide) (by rw [hRc]; exact (Nat.le_of_ble_eq_true rfl)) (by rw [hRs]; exact (Nat.le_of_ble_eq_true rfl)) (by decide) (fun _ _ _ hF9 => zar_z (κ := 1) (n := 620) (lo := 0) (hi := 600) (by decide) rfl (by decide) hF9) dX11_init_195 (fun q24 Γ L F H hq24 hk hL9 h' => ?_)
  have hq1 := (hk q1 (h.2.2.2.1 _ _ hq1).1).1.trans hq1
  have hq2 := (hk q2 (h.2.2.2.1 _ _ hq2).1).1.trans hq2
  have hq3 := (hk q3 (h.2.2.2.1 _ _ hq3).1).1.trans hq3
  have hq4 := (hk q4 (h.2.2.2.1 _ _ hq4).1).1.trans hq4
  have hq5 := (hk q5 (h.2.2.2.1 _ _ hq5).1).1.trans hq5
  have hq6 := (hk q6 (h.2.2.2.1 _ _ hq6).1).1.trans hq6
  have hq7 := (hk q7 (h.2.2.2.1 _ _ hq7).1).1.trans hq7
  have hq8 := (hk q8 (h.2.2.2.1 _ _ hq8).1).1.trans hq8
  have hq9 := (hk q9 (h.2.2.2.1 _ _ hq9).1).1.trans hq9
  have hq10 := (hk q10 (h.2.2.2.1 _ _ hq10).1).1.trans hq10
  have hq11 := (hk q11 (h.2.2.2.1 _ _ hq11).1).1.trans hq11
  have hq12 := (hk q12 (h.2.2.2.1 _ _ hq12).1).1.trans hq12
  have hq13 := (hk q13 (h.2.2.2.1 _ _ hq13).1).1.trans hq13
  have hq14 := (hk q14 (h.2.2.2.1 _ _ hq14).1).1.trans hq14
  have hq15 := (hk q15 (h.2.2.2.1 _ _ hq15).1).1.trans hq15
  have hq16 := (hk q16 (h.2.2.2.1 _ _ hq16).1).1.trans hq16
  have hq17 := (hk q17 (h.2.2.2.1 _ _ hq17).1).1.trans hq17
  have hq18 := (hk q18 (h.2.2.2.1 _ _ hq18).1).1.trans hq18
  have hq19 := (hk q19 (h.2.2.2.1 _ _ hq19).1).1.trans hq19
  have hq20 := (hk q20 (h.2.2.2.1 _ _ hq20).1).1.trans hq20
  have hq21 := (hk q21 (h.2.2.2.1 _ _ hq21).1).1.trans hq21
  have hq22 := (hk q22 (h.2.2.2.1 _ _ hq22).1).1.trans hq22
  have hq23 := (hk q23 (h.2.2.2.1 _ _ hq23).1).1.trans hq23
  have h0Γ := (hk h0 h0L).1.trans h0Γ
  have hF := (hk h0 h0L).2.1.trans hF
  have h0L := (hk h0 h0L).2.2
  have hfam : ∀ a ∈ L, a = h0 ∨ ∃ t, Γ a = some t ∧ 124 ≤ t ∧ t ≤ 149 := fun a ha => (hL9 a ha).elim (fun h1 => (hfam a h1).imp id (fun ⟨t9, h2, h3⟩ => ⟨t9, (hk a h1).1.trans h2, h3⟩)) (fun h1 => Or.inr ⟨147, by rw [h1]; exact hq24, by decide⟩)
  have h := h'
  clear h' hk hL9
  refine W.widen (k := 24) (n := 3250) (Nat.le_of_ble_eq_true rfl) (Nat.le_of_ble_eq_true rfl) ?_
  refine zj_put (C := RX11) (T := TX11) (N := 30) (t := 11) (v := .ref q24) Y h h0L h0Γ hF ziin_11 tyX11 tyX11_ok nmX11 rfl 27 (by decide) (zmi (List.mem_of_getElem? (i := 66) rfl)) (fun _ h9 => h9) rfl hini rfl rfl rfl (Nat.le_of_ble_eq_true rfl) dX11_init_197 (fun F' H locs hF' hne h' => ?_)
  have hF : F' h0 = .inr (11, [.int 0, .int 0, .int 0, .int 0, .ref q1, .ref q2, .ref q3, .ref q4, .ref q5, .ref q6, .ref q7, .ref q8, .ref q9, .ref q10, .ref q11, .ref q12, .ref q13, .ref q14, .ref q15, .ref q16, .ref q17, .ref q18, .ref q19, .ref q20, .ref q21, .ref q22, .ref q23, .ref q24, .null, .null]) := hF'
  have h := h'
  clear hF' hne h'
  generalize F' = F at h hF
  refine lv_aload_n hx hb dX11_init_200 rfl (lv_at hl 0 rfl) ?_
  refine lv_sipush (v := 620) hx hb dX11_init_201 (by decide) ?_
  refine zj_ar (atype := .long) (ty := .long) (κ := 2) (tc := 148) (N' := 620) (a0 := (620, .inr (.inl (fun _ => 0)))) Y h (zmi (List.mem_of_getElem? (i := 31) rfl)) rfl rfl (fun _ h9 => h9) (fun _ => rfl) (by decide) (by decide) (by decide) (by rw [hRc]; exact (Nat.le_of_ble_eq_true rfl)) (by rw [hRs]; exact (Nat.le_of_ble_eq_true rfl)) (by decide) (fun _ _ _ hF9 => zar_l (n := 620) (lo := 0) (hi := 0) rfl hF9) dX11_init_204 (fun q25 Γ L F H hq25 hk hL9 h' => ?_)
  have hq1 := (hk q1 (h.2.2.2.1 _ _ hq1).1).1.trans hq1
  have hq2 := (hk q2 (h.2.2.2.1 _ _ hq2).1).1.trans hq2
  have hq3 := (hk q3 (h.2.2.2.1 _ _ hq3).1).1.trans hq3
  have hq4 := (hk q4 (h.2.2.2.1 _ _ hq4).1).1.trans hq4
  have hq5 := (hk q5 (h.2.2.2.1 _ _ hq5).1).1.trans hq5
  have hq6 := (hk q6 (h.2.2.2.1 _ _ hq6).1).1.trans hq6
  have hq7 := (hk q7 (h.2.2.2.1 _ _ hq7).1).1.trans hq7
  have hq8 := (hk q8 (h.2.2.2.1 _ _ hq8).1).1.trans hq8
  have hq9 := (hk q9 (h.2.2.2.1 _ _ hq9).1).1.trans hq9
  have hq10 := (hk q10 (h.2.2.2.1 _ _ hq10).1).1.trans hq10
  have hq11 := (hk q11 (h.2.2.2.1 _ _ hq11).1).1.trans hq11
  have hq12 := (hk q12 (h.2.2.2.1 _ _ hq12).1).1.trans hq12
  have hq13 := (hk q13 (h.2.2.2.1 _ _ hq13).1).1.trans hq13
  have hq14 := (hk q14 (h.2.2.2.1 _ _ hq14).1).1.trans hq14
  have hq15 := (hk q15 (h.2.2.2.1 _ _ hq15).1).1.trans hq15
  have hq16 := (hk q16 (h.2.2.2.1 _ _ hq16).1).1.trans hq16
  have hq17 := (hk q17 (h.2.2.2.1 _ _ hq17).1).1.trans hq17
  have hq18 := (hk q18 (h.2.2.2.1 _ _ hq18).1).1.trans hq18
  have hq19 := (hk q19 (h.2.2.2.1 _ _ hq19).1).1.trans hq19
  have hq20 := (hk q20 (h.2.2.2.1 _ _ hq20).1).1.trans hq20
  have hq21 := (hk q21 (h.2.2.2.1 _ _ hq21).1).1.trans hq21
  have hq22 := (hk q22 (h.2.2.2.1 _ _ hq22).1).1.trans hq22
  have hq23 := (hk q23 (h.2.2.2.1 _ _ hq23).1).1.trans hq23
  have hq24 := (hk q24 (h.2.2.2.1 _ _ hq24).1).1.trans hq24
  have h0Γ := (hk h0 h0L).1.trans h0Γ
  have hF := (hk h0 h0L).2.1.trans hF
  have h0L := (hk h0 h0L).2.2
  have hfam : ∀ a ∈ L, a = h0 ∨ ∃ t, Γ a = some t ∧ 124 ≤ t ∧ t ≤ 149 := fun a ha => (hL9 a ha).elim (fun h1 => (hfam a h1).imp id (fun ⟨t9, h2, h3⟩ => ⟨t9, (hk a h1).1.trans h2, h3⟩)) (fun h1 => Or.inr ⟨148, by rw [h1]; exact hq25, by decide⟩)
  have h := h'
  clear h' hk hL9
  refine W.widen (k := 25) (n := 3870) (Nat.le_of_ble_eq_true rfl) (Nat.le_of_ble_eq_true rfl) ?_
  refine zj_put (C := RX11) (T := TX11) (N := 30) (t := 11) (v := .ref q25) Y h h0L h0Γ hF ziin_11 tyX11 tyX11_ok nmX11 rfl 28 (by decide) (zmi (List.mem_of_getElem? (i := 67) rfl)) (fun _ h9 => h9) rfl hini rfl rfl rfl (Nat.le_of_ble_eq_true rfl) dX11_init_206 (fun F' H locs hF' hne h' => ?_)
  have hF : F' h0 = .inr (11, [.int 0, .int 0, .int 0, .int 0, .ref q1, .ref q2, .ref q3, .ref q4, .ref q5, .ref q6, .ref q7, .ref q8, .ref q9, .ref q10, .ref q11, .ref q12, .ref q13, .ref q14, .ref q15, .ref q16, .ref q17, .ref q18, .ref q19, .ref q20, .ref q21, .ref q22, .ref q23, .ref q24, .ref q25, .null]) := hF'
  have h := h'
  clear hF' hne h'
  generalize F' = F at h hF
  refine lv_aload_n hx hb dX11_init_209 rfl (lv_at hl 0 rfl) ?_
  refine lv_sipush (v := 1201) hx hb dX11_init_210 (by decide) ?_
  refine zj_ar (atype := .byte) (ty := .byte) (κ := 0) (tc := 149) (N' := 1201) (a0 := (1201, .inl (fun _ => 0))) Y h (zmi (List.mem_of_getElem? (i := 3) rfl)) rfl rfl (fun _ h9 => h9) (fun _ => rfl) (by decide) (by decide) (by decide) (by rw [hRc]; exact (Nat.le_of_ble_eq_true rfl)) (by rw [hRs]; exact (Nat.le_of_ble_eq_true rfl)) (by decide) (fun _ _ _ hF9 => zar_z (κ := 0) (n := 1201) (lo := (-128)) (hi := 127) (by decide) rfl (by decide) hF9) dX11_init_213 (fun q26 Γ L F H hq26 hk hL9 h' => ?_)
  have hq1 := (hk q1 (h.2.2.2.1 _ _ hq1).1).1.trans hq1
  have hq2 := (hk q2 (h.2.2.2.1 _ _ hq2).1).1.trans hq2
  have hq3 := (hk q3 (h.2.2.2.1 _ _ hq3).1).1.trans hq3
  have hq4 := (hk q4 (h.2.2.2.1 _ _ hq4).1).1.trans hq4
  have hq5 := (hk q5 (h.2.2.2.1 _ _ hq5).1).1.trans hq5
  have hq6 := (hk q6 (h.2.2.2.1 _ _ hq6).1).1.trans hq6
  have hq7 := (hk q7 (h.2.2.2.1 _ _ hq7).1).1.trans hq7
  have hq8 := (hk q8 (h.2.2.2.1 _ _ hq8).1).1.trans hq8
  have hq9 := (hk q9 (h.2.2.2.1 _ _ hq9).1).1.trans hq9
  have hq10 := (hk q10 (h.2.2.2.1 _ _ hq10).1).1.trans hq10
  have hq11 := (hk q11 (h.2.2.2.1 _ _ hq11).1).1.trans hq11
  have hq12 := (hk q12 (h.2.2.2.1 _ _ hq12).1).1.trans hq12
  have hq13 := (hk q13 (h.2.2.2.1 _ _ hq13).1).1.trans hq13
  have hq14 := (hk q14 (h.2.2.2.1 _ _ hq14).1).1.trans hq14
  have hq15 := (hk q15 (h.2.2.2.1 _ _ hq15).1).1.trans hq15
  have hq16 := (hk q16 (h.2.2.2.1 _ _ hq16).1).1.trans hq16
  have hq17 := (hk q17 (h.2.2.2.1 _ _ hq17).1).1.trans hq17
  have hq18 := (hk q18 (h.2.2.2.1 _ _ hq18).1).1.trans hq18
  have hq19 := (hk q19 (h.2.2.2.1 _ _ hq19).1).1.trans hq19
  have hq20 := (hk q20 (h.2.2.2.1 _ _ hq20).1).1.trans hq20
  have hq21 := (hk q21 (h.2.2.2.1 _ _ hq21).1).1.trans hq21
  have hq22 := (hk q22 (h.2.2.2.1 _ _ hq22).1).1.trans hq22
  have hq23 := (hk q23 (h.2.2.2.1 _ _ hq23).1).1.trans hq23
  have hq24 := (hk q24 (h.2.2.2.1 _ _ hq24).1).1.trans hq24
  have hq25 := (hk q25 (h.2.2.2.1 _ _ hq25).1).1.trans hq25
  have h0Γ := (hk h0 h0L).1.trans h0Γ
  have hF := (hk h0 h0L).2.1.trans hF
  have h0L := (hk h0 h0L).2.2
  have hfam : ∀ a ∈ L, a = h0 ∨ ∃ t, Γ a = some t ∧ 124 ≤ t ∧ t ≤ 149 := fun a ha => (hL9 a ha).elim (fun h1 => (hfam a h1).imp id (fun ⟨t9, h2, h3⟩ => ⟨t9, (hk a h1).1.trans h2, h3⟩)) (fun h1 => Or.inr ⟨149, by rw [h1]; exact hq26, by decide⟩)
  have h := h'
  clear h' hk hL9
  refine W.widen (k := 26) (n := 5071) (Nat.le_of_ble_eq_true rfl) (Nat.le_of_ble_eq_true rfl) ?_
  refine zj_put (C := RX11) (T := TX11) (N := 30) (t := 11) (v := .ref q26) Y h h0L h0Γ hF ziin_11 tyX11 tyX11_ok nmX11 rfl 29 (by decide) (zmi (List.mem_of_getElem? (i := 68) rfl)) (fun _ h9 => h9) rfl hini rfl rfl rfl (Nat.le_of_ble_eq_true rfl) dX11_init_215 (fun F' H locs hF' hne h' => ?_)
  have hF : F' h0 = .inr (11, [.int 0, .int 0, .int 0, .int 0, .ref q1, .ref q2, .ref q3, .ref q4, .ref q5, .ref q6, .ref q7, .ref q8, .ref q9, .ref q10, .ref q11, .ref q12, .ref q13, .ref q14, .ref q15, .ref q16, .ref q17, .ref q18, .ref q19, .ref q20, .ref q21, .ref q22, .ref q23, .ref q24, .ref q25, .ref q26]) := hF'
  have h := h'
  clear hF' hne h'
  generalize F' = F at h hF
  have h := zj_end h h0L h0Γ hF (by decide) (show zVs _ [(0, 0, 10), (0, 0, 60), (0, 0, 620), (0, 0, 1201), (2, 124, 0), (2, 125, 0), (2, 126, 0), (2, 127, 0), (2, 128, 0), (2, 129, 0), (2, 130, 0), (2, 131, 0), (2, 132, 0), (2, 133, 0), (2, 134, 0), (2, 135, 0), (2, 136, 0), (2, 137, 0), (2, 138, 0), (2, 139, 0), (2, 140, 0), (2, 141, 0), (2, 142, 0), (2, 143, 0), (2, 144, 0), (2, 145, 0), (2, 146, 0), (2, 147, 0), (2, 148, 0), (2, 149, 0)] [.int 0, .int 0, .int 0, .int 0, .ref q1, .ref q2, .ref q3, .ref q4, .ref q5, .ref q6, .ref q7, .ref q8, .ref q9, .ref q10, .ref q11, .ref q12, .ref q13, .ref q14, .ref q15, .ref q16, .ref q17, .ref q18, .ref q19, .ref q20, .ref q21, .ref q22, .ref q23, .ref q24, .ref q25, .ref q26] from ⟨zV.i ⟨by decide, by decide⟩, zV.i ⟨by decide, by decide⟩, zV.i ⟨by decide, by decide⟩, zV.i ⟨by decide, by decide⟩, zV.r (zif hq1 h0Γ) rfl, zV.r (zif hq2 h0Γ) rfl, zV.r (zif hq3 h0Γ) rfl, zV.r (zif hq4 h0Γ) rfl, zV.r (zif hq5 h0Γ) rfl, zV.r (zif hq6 h0Γ) rfl, zV.r (zif hq7 h0Γ) rfl, zV.r (zif hq8 h0Γ) rfl, zV.r (zif hq9 h0Γ) rfl, zV.r (zif hq10 h0Γ) rfl, zV.r (zif hq11 h0Γ) rfl, zV.r (zif hq12 h0Γ) rfl, zV.r (zif hq13 h0Γ) rfl, zV.r (zif hq14 h0Γ) rfl, zV.r (zif hq15 h0Γ) rfl, zV.r (zif hq16 h0Γ) rfl, zV.r (zif hq17 h0Γ) rfl, zV.r (zif hq18 h0Γ) rfl, zV.r (zif hq19 h0Γ) rfl, zV.r (zif hq20 h0Γ) rfl, zV.r (zif hq21 h0Γ) rfl, zV.r (zif hq22 h0Γ) rfl, zV.r (zif hq23 h0Γ) rfl, zV.r (zif hq24 h0Γ) rfl, zV.r (zif hq25 h0Γ) rfl, zV.r (zif hq26 h0Γ) rfl, trivial⟩)
  subst hQ
  exact W.vret hx hb hr (fun t9 ht9 hW9 => ⟨⟨(fun a => if a = h0 then some 11 else Γ a, L, F), rfl, ⟨if_pos rfl, (fun a ha => (hfam a ha).elim (fun h1 => Or.inl ⟨if_pos h1, h1⟩) (fun ⟨t9, h2, h3⟩ => Or.inr ⟨t9, zif h2 h0Γ, h3⟩))⟩, by rw [ht9]; exact h.1, h.2.1, h.2.2.1, h.2.2.2.1⟩, h.2.2.2.2.F ht9⟩) h.2.2.2.2.2.2 dX11_init_218

/-! Arrays of objects that are being made. -/
section
variable {p : Program} {l : Launch} {e : Env} {R : Room} {s : State} {m : MethodId} {args : Array Value} {below : List Frame} {meth : Method} {c : Code} {H : Heap} {locs : List Loc} {cells slots : Nat} {Q : State → Prop}
variable {cc : ByteArray} {pc nL : Nat} {ls : Array Slot} {rest st0 : List Value} {D : va_G} {k : Nat → ClassId} {Γ : Nat → Option Nat} {L : List Nat} {F : Nat → va_E} {Ts : List Cond} {own : String} {A : Nat → Prop}
theorem zj_get {own ref C : String} {T : u_T} {N t h0 index : Nat} (Y : zY p m c cc nL s args Ts own D k A) (h : zU D k A s Γ L F H locs) (h0L : h0 ∈ L) {fs : List Value} (hF : F h0 = .inr (t, fs)) (hin : ∀ w ∈ u_ws C T N, w ∈ Ts) (hc : z_Cl[t]? = some (C, T, N)) (j : Nat) (hj : j < N) (hlink : Cond.fieldLink own index ref (T j).2.1 (T j).2.2.1 ∈ Ts) (hsame : ∀ x, s.fieldFound? (T j).1 (T j).2.1 (T j).2.2.1 = some x → s.fieldFound? ref (T j).2.1 (T j).2.2.1 = some x) {v : Value} (hv : fs[j]? = some v) (hdg : decode cc pc = .ok (.getfield index, 3))
    (kk : W p l e R s m args below meth c H locs cells slots Q (F0 m (pc + 3) ls (v :: rest))) : W p l e R s m args below meth c H locs cells slots Q (F0 m pc ls (.ref h0 :: rest)) := by
  obtain ⟨⟨hx, hb, hml, hown, hts⟩, hK, hN0, hZ, hA⟩ := Y
  exact zf_get hx hb hts hin hown hK h.1 h0L hF hc j hj (hts _ hlink) hsame hv hdg kk
theorem zj_aarr {own C : String} {index κ N' : Nat} {n : Int32} (Y : zY p m c cc nL s args Ts own D k A) (h : zU D k A s Γ L F H locs) (hcl : Cond.classLink own index C ∈ Ts) (hover : va_AO C s) (hκ : (zT k)[κ]? = some (k κ, .object C)) (hn : ¬ n < 0) (hN : n.toNatClampNeg = N') (hbytes : N' * 4 ≤ 536870912) (hcells : cells + 1 ≤ R.cells) (hslots : slots + N' ≤ R.slots) (hdg : decode cc pc = .ok (.anewarray index, 3))
    (kk : ∀ (q : Nat) (L' : List Nat) (F' : Nat → va_E) (H1 : Heap), q ∉ L → q ∈ L' → Γ q = none → F' q = .inl (k κ, N', .inr (.inr (.inr (.inr (fun _ => none))))) → (∀ a, a ∈ L → F' a = F a ∧ a ∈ L') → zU D k A s Γ L' F' H1 locs → W p l e R s m args below meth c H1 locs (cells + 1) (slots + N') Q (F0 m (pc + 3) ls (.ref q :: rest))) : W p l e R s m args below meth c H locs cells slots Q (F0 m pc ls (.int n :: rest)) := by
  obtain ⟨⟨hx, hb, hml, hown, hts⟩, hK, hN0, hZ, hA⟩ := Y
  have h9 := h
  obtain ⟨hP, hLn, hLA, hI, hS⟩ := h
  refine va_newq hx hb hown (hts _ hcl) hover hK hP (zj_D hLn hLA) hS hA hn hN hbytes hcells hslots hdg (fun q cA H1 hK1 hP1 hD1 hS1 => ?_)
  have e : cA = k κ := by
    obtain ⟨kA, co, -, -, -, h1⟩ := (hK1.2 5 (cA, .object C) (by simp [zT])).2
    obtain ⟨kB, co2, -, -, -, h2⟩ := (hK.2 κ _ hκ).2
    exact Option.some.inj (h1.symm.trans h2)
  rw [e] at hP1 hD1
  obtain ⟨hq, hAq⟩ := zj_nd hD1
  have hne : ∀ a, a ∈ L → a ≠ q := fun a ha h => hq (h ▸ ha)
  refine kk q (L ++ [q]) (va_up F q (.inl (k κ, N', .inr (.inr (.inr (.inr (fun _ => none))))))) H1 hq (List.mem_append_right _ (List.mem_singleton.mpr rfl)) (h9.none hq) (va_up_self _ _ _) (fun a ha => ⟨va_up_ne F _ (hne a ha), List.mem_append_left _ ha⟩) ⟨by rw [zj_app hq]; exact hP1, zj_nodup hLn hq, fun a ha => ?_, ?_, hS1⟩
  · rcases List.mem_append.mp ha with h | h
    · exact hLA a h
    · rw [List.mem_singleton.mp h]
      exact hAq
  · intro a t hat
    obtain ⟨g1, g2, g3⟩ := hI a t hat
    have hn9 := hne a g1
    refine ⟨List.mem_append_left _ g1, fun ht => ?_, fun ht => ?_⟩
    · obtain ⟨fs, k1, k2, k3⟩ := g2 ht
      refine ⟨fs, by rw [va_up_ne F _ hn9]; exact k1, k2, fun j x hx => ?_⟩
      have e9 : zfld (va_up F q (.inl (k κ, N', .inr (.inr (.inr (.inr (fun _ => none))))))) a j = zfld F a j := by
        unfold zfld
        rw [va_up_ne F _ hn9]
      rw [e9]
      exact k3 j x hx
    · have := g3 ht
      unfold zAr at this ⊢
      rw [va_up_ne F _ hn9]
      exact this
theorem zj_aast {κ q v t2 n : Nat} {r : vw_C} {f : Nat → Option Nat} {i : Int32} (Y : zY p m c cc nL s args Ts own D k A) (h : zU D k A s Γ L F H locs) (hq : q ∈ L) (hqΓ : Γ q = none) (hF : F q = .inl (k κ, n, .inr (.inr (.inr (.inr f))))) (hκ : (zT k)[κ]? = some (k κ, .object r.1)) (hv : Γ v = some t2) (ht2 : t2 < 100) (hc : z_Cl[t2]? = some r) (hin : vp_in i n) (hdg : decode cc pc = .ok (.aastore, 1))
    (kk : ∀ (F' : Nat → va_E) (H1 : Heap) (locs1 : List Loc), F' q = .inl (k κ, n, .inr (.inr (.inr (.inr (va_up f i.toNatClampNeg (some v)))))) → (∀ a, a ≠ q → F' a = F a) → zU D k A s Γ L F' H1 locs1 → W p l e R s m args below meth c H1 locs1 cells slots Q (F0 m (pc + 1) ls rest)) : W p l e R s m args below meth c H locs cells slots Q (F0 m pc ls (.ref v :: .int i :: .ref q :: rest)) := by
  obtain ⟨⟨hx, hb, hml, hown, hts⟩, hK, hN0, hZ, hA⟩ := Y
  obtain ⟨hP, hLn, hLA, hI, hS⟩ := h
  have hD := zj_D (F := F) hLn hLA
  obtain ⟨hvL, hvO, -⟩ := hI v t2 hv
  obtain ⟨vs, hFv, -, -⟩ := hvO ht2
  obtain ⟨i0, hi0⟩ := va_pl_get (X := []) (f := F) hq
  obtain ⟨iv, hiv⟩ := va_pl_get (X := []) (f := F) hvL
  have he := va_pl_set (X := []) (e := .inl (k κ, n, .inr (.inr (.inr (.inr (va_up f i.toNatClampNeg (some v))))))) hD hq hi0
  rw [hF] at hi0
  rw [hFv] at hiv
  rw [List.nil_append, List.nil_append] at he
  refine va_astq (ws := va_pl L F) hx hb hK hP hD hS i0 κ iv t2 hi0 hκ hiv hc hin hdg (fun H1 locs1 q1 _ q3 => kk (va_up F q (.inl (k κ, n, .inr (.inr (.inr (.inr (va_up f i.toNatClampNeg (some v)))))))) H1 locs1 (va_up_self _ _ _) (fun a ha => va_up_ne F _ ha) ⟨by rw [← he]; exact q1, hLn, hLA, ?_, q3⟩)
  intro a t hat
  have hn9 : a ≠ q := fun h => by rw [h, hqΓ] at hat; cases hat
  obtain ⟨g1, g2, g3⟩ := hI a t hat
  refine ⟨g1, fun ht => ?_, fun ht => ?_⟩
  · obtain ⟨fs, k1, k2, k3⟩ := g2 ht
    refine ⟨fs, by rw [va_up_ne F _ hn9]; exact k1, k2, fun j x hx => ?_⟩
    have e9 : zfld (va_up F q (.inl (k κ, n, .inr (.inr (.inr (.inr (va_up f i.toNatClampNeg (some v)))))))) a j = zfld F a j := by
      unfold zfld
      rw [va_up_ne F _ hn9]
    rw [e9]
    exact k3 j x hx
  · have := g3 ht
    unfold zAr at this ⊢
    rw [va_up_ne F _ hn9]
    exact this
theorem zj_ty {q tc : Nat} (h : zU D k A s Γ L F H locs) (hq : q ∈ L) (hqΓ : Γ q = none) (htc : 100 ≤ tc) (hz : zAr (fun a => if a = q then some tc else Γ a) k F q tc) : zU D k A s (fun a => if a = q then some tc else Γ a) L F H locs := by
  obtain ⟨hP, hLn, hLA, hI, hS⟩ := h
  exact ⟨hP, hLn, hLA, hI.add hqΓ (fun a ha => ha) hq (fun a _ => rfl) (fun h => by omega) (fun _ => hz), hS⟩
end
theorem zar_o {Γ : Nat → Option Nat} {k : Nat → ClassId} {F : Nat → va_E} {q tc κ n t2 : Nat} {hi : Int} {f : Nat → Option Nat} (hκ : κ = 3 ∨ κ = 4) (hq : zas tc = (κ, n, (t2 : Int), hi)) (hF : F q = .inl (k κ, n, .inr (.inr (.inr (.inr f))))) (hf : ∀ j, j < n → ∃ b, f j = some b ∧ Γ b = some t2) : zAr Γ k F q tc := by
  unfold zAr
  rw [hq]
  rcases hκ with rfl | rfl
  · exact ⟨f, hF, fun i hi => (hf i hi).elim (fun b hb => ⟨b, hb.1, hb.2⟩)⟩
  · exact ⟨f, hF, fun i hi => (hf i hi).elim (fun b hb => ⟨b, hb.1, hb.2⟩)⟩
theorem z_nIc {i : Nat} {x : Int32} (e : x = nI i) (h : i < 100) : x.toNatClampNeg = i := by
  rw [e]
  have : ∀ j : Nat, j < 100 → Int32.toNatClampNeg (nI j) = j := by decide +kernel
  exact this i h

def zp_6 : Nat → zW3 → Prop := fun h0 u => (∀ a, u.1 a ≠ some 11) ∧ (∃ fa : Nat → Nat, zPS u.1 u.2.2 h0 fa ∧ zPD u.1 u.2.2 fa) ∧ zfld u.2.2 h0 4 = .int 0 ∧ zfld u.2.2 h0 5 = .int 0 ∧ ∃ la : Nat → Nat, zLS u.1 u.2.2 h0 la
set_option maxHeartbeats 4000000 in
set_option maxRecDepth 100000 in
theorem zi_X6 (l : Launch) (D : va_G) (k : Nat → ClassId) (h0 sz : Nat) : Met l yX6_init zwi_6 ({ frames := 2, cells := 91, slots := 6443, locals := 60 }) (va_Pc [.ref h0] (zPi D k 6 [.null, .null, .null, .null, .int 0, .int 0] h0 sz)) (va_Qv (fun u : zW3 => u.1 h0 = some 6 ∧ zp_6 h0 u) (zQi D k (zA0 h0 sz)) (zA0 h0 sz)) 91 6443 (zA0 h0 sz) := by
  refine Met.ofW (cc := cX6_init) (maxL := 2) (ret := none) (by decide) rfl ?_
  intro p e s m args below meth c s₁ B hml hv
  obtain ⟨rfl, hsz, hP, hK, hN0, hZ⟩ := hv
  have hx := B.exec
  have hb := B.bytes
  have hr := B.returns
  have hts : ∀ w ∈ zGI, w.before _ s = true := fun w h9 => atoms_spec (ws := zwi_6) B.pre w (List.mem_cons_of_mem _ h9)
  have hown : s.vm.findClass RX6 = some m.cls := findClass_of_methodNamed B.named
  have hini : meth.name = "<init>" := (name_of_methodNamed B.named B.method).1
  subst hsz
  have Y : zY p m c cX6_init 2 s _ zGI RX6 D k (zA0 h0 s.heap.size) := ⟨⟨hx, hb, hml, hown, hts⟩, hK, hN0, hZ, fun q h9 => Or.inr h9⟩
  have h : zU D k (zA0 h0 s.heap.size) s (fun _ => none) [h0] (fun _ => .inr (6, [.null, .null, .null, .null, .int 0, .int 0])) s.heap [] := ⟨hP, by simp, fun a ha => Or.inl (List.mem_singleton.mp ha), (fun a t9 h9 => by cases h9), va_S.rf⟩
  have hl := lv_entry ([.ref h0]) (n := 2) (Nat.le_of_ble_eq_true rfl)
  rw [lg_entry_eq]
  generalize (lg_sl ([.ref h0]) ++ List.replicate (2 - (lg_sl ([.ref h0])).length) Slot.unset).toArray = ls at hl ⊢
  have hl : lv_has ls 2 [(0, .ref h0)] := hl
  have h0L : h0 ∈ [h0] := List.mem_singleton.mpr rfl
  have hfam : ∀ a ∈ [h0], a = h0 ∨ ∃ t, (fun _ => none : Nat → Option Nat) a = some t ∧ 124 ≤ t ∧ t ≤ 149 := fun a ha => Or.inl (List.mem_singleton.mp ha)
  generalize hΓ9 : (fun _ => none : Nat → Option Nat) = Γ at h hfam
  have h0Γ : Γ h0 = none := by rw [← hΓ9]
  generalize hF9 : (fun _ => .inr (6, [.null, .null, .null, .null, .int 0, .int 0]) : Nat → va_E) = F at h
  have hF : F h0 = .inr (6, [.null, .null, .null, .null, .int 0, .int 0]) := by rw [← hF9]
  have hΓ0 : ∀ a, Γ a = none := fun a => by rw [← hΓ9]
  clear hΓ9 hF9
  generalize [h0] = L at h h0L hfam
  generalize hargs : ([.ref h0] : List Value).toArray = args at *
  refine z_start2 (fun R Q hRf hRl hRc hRs hQ => ?_)
  have hRf : R.frames = 2 := hRf
  have hRl : R.locals = 60 := hRl
  have hRc : R.cells = 91 := hRc
  have hRs : R.slots = 6443 := hRs
  have h11 : ∀ a, Γ a ≠ some 11 := fun a => by rw [hΓ0]; exact fun h9 => by cases h9
  refine lv_aload_n hx hb dX6_init_0 rfl (lv_at hl 0 rfl) ?_
  refine W.objInit hx hb hown (hts _ (zmi (List.mem_of_getElem? (i := 69) rfl))) (hts _ (zmi (List.mem_of_getElem? (i := 1) rfl))) (hts _ (zmi (List.mem_of_getElem? (i := 2) rfl))) rfl (by rw [hml]; exact hl.1) rfl dX6_init_1 (by rw [hRf]; exact (Nat.le_of_ble_eq_true rfl)) (by rw [hRl]; exact (Nat.le_of_ble_eq_true rfl)) ?_
  refine W.eq (g2 := F0 m 4 ls []) rfl ?_
  refine lv_aload_n hx hb dX6_init_4 rfl (lv_at hl 0 rfl) ?_
  refine zj_new (t := 8) (C := RX8) (T := TX8) (N := 6) (fs := [.null, .int 0, .null, .null, .null, .int 0]) (mc := 4) (ms := 2403) (post := zp_8) Y h ziin_8 tyX8 tyX8_ok (zmi (List.mem_of_getElem? (i := 73) rfl)) (zmi (List.mem_of_getElem? (i := 74) rfl)) (zmi (List.mem_of_getElem? (i := 70) rfl)) rfl (fun j hj => z_df8 j hj) (fun q9 sz9 => zi_X8 l D k q9 sz9) (cwI 0 hts zgi_8 rfl rfl rfl (hts _ (zmi (List.mem_of_getElem? (i := 70) rfl))) (hts _ (zmi (List.mem_of_getElem? (i := 71) rfl))) (hts _ (zmi (List.mem_of_getElem? (i := 72) rfl))) rfl (by decide +kernel) ⟨by rw [hRf]; exact (Nat.le_of_ble_eq_true rfl), by rw [hRl]; exact (Nat.le_of_ble_eq_true rfl)⟩) hl.1 (Nat.le_of_ble_eq_true rfl) (by rw [hRc]; exact (Nat.le_of_ble_eq_true rfl)) (by rw [hRs]; exact (Nat.le_of_ble_eq_true rfl)) dX6_init_5 dX6_init_8 dX6_init_9 (fun q1 Γq1 Lq1 Fq1 Γ L F H locs hq1 hnq1 hpq1 hIq1 hk hk2q1 hL9 huq1 h' => ?_)
  have h0Γ := (hk h0 h0L).1.trans h0Γ
  have hF := (hk h0 h0L).2.1.trans hF
  have h11 : ∀ a, Γ a ≠ some 11 := fun a ha => (hL9 a (h'.2.2.2.1 a _ ha).1).elim (fun h1 => h11 a ((hk a h1).1.symm.trans ha)) (fun h1 => absurd ((hk2q1 a h1).1.symm.trans ha) (hpq1 a))
  have h0L := (hk h0 h0L).2.2.1
  have h := h'
  clear h' hk hL9
  refine W.widen (k := 5) (n := 2409) (Nat.le_of_ble_eq_true rfl) (Nat.le_of_ble_eq_true rfl) ?_
  refine zj_put (C := RX6) (T := TX6) (N := 6) (t := 6) (v := .ref q1) Y h h0L h0Γ hF ziin_6 tyX6 tyX6_ok nmX6 rfl 0 (by decide) (zmi (List.mem_of_getElem? (i := 75) rfl)) (fun _ h9 => h9) rfl hini rfl rfl rfl (Nat.le_of_ble_eq_true rfl) dX6_init_12 (fun F' H locs hF' hne h' => ?_)
  have hF : F' h0 = .inr (6, [.ref q1, .null, .null, .null, .int 0, .int 0]) := hF'
  have h := h'
  clear hF' hne h'
  generalize F' = F at h hF
  refine lv_aload_n hx hb dX6_init_15 rfl (lv_at hl 0 rfl) ?_
  refine zj_new (t := 1) (C := RX1) (T := TX1) (N := 4) (fs := [.null, .null, .null, .int 0]) (mc := 3) (ms := 3600) (post := zp_1) Y h ziin_1 tyX1 tyX1_ok (zmi (List.mem_of_getElem? (i := 79) rfl)) (zmi (List.mem_of_getElem? (i := 80) rfl)) (zmi (List.mem_of_getElem? (i := 76) rfl)) rfl (fun j hj => z_df1 j hj) (fun q9 sz9 => zi_X1 l D k q9 sz9) (cwI 0 hts zgi_1 rfl rfl rfl (hts _ (zmi (List.mem_of_getElem? (i := 76) rfl))) (hts _ (zmi (List.mem_of_getElem? (i := 77) rfl))) (hts _ (zmi (List.mem_of_getElem? (i := 78) rfl))) rfl (by decide +kernel) ⟨by rw [hRf]; exact (Nat.le_of_ble_eq_true rfl), by rw [hRl]; exact (Nat.le_of_ble_eq_true rfl)⟩) hl.1 (Nat.le_of_ble_eq_true rfl) (by rw [hRc]; exact (Nat.le_of_ble_eq_true rfl)) (by rw [hRs]; exact (Nat.le_of_ble_eq_true rfl)) dX6_init_16 dX6_init_19 dX6_init_20 (fun q2 Γq2 Lq2 Fq2 Γ L F H locs hq2 hnq2 hpq2 hIq2 hk hk2q2 hL9 huq2 h' => ?_)
  have hq1 := (hk q1 (h.2.2.2.1 _ _ hq1).1).1.trans hq1
  have h0Γ := (hk h0 h0L).1.trans h0Γ
  have hF := (hk h0 h0L).2.1.trans hF
  have h11 : ∀ a, Γ a ≠ some 11 := fun a ha => (hL9 a (h'.2.2.2.1 a _ ha).1).elim (fun h1 => h11 a ((hk a h1).1.symm.trans ha)) (fun h1 => absurd ((hk2q2 a h1).1.symm.trans ha) (hpq2 a))
  have h0L := (hk h0 h0L).2.2.1
  have h := h'
  clear h' hk hL9
  refine W.widen (k := 9) (n := 6013) (Nat.le_of_ble_eq_true rfl) (Nat.le_of_ble_eq_true rfl) ?_
  refine zj_put (C := RX6) (T := TX6) (N := 6) (t := 6) (v := .ref q2) Y h h0L h0Γ hF ziin_6 tyX6 tyX6_ok nmX6 rfl 1 (by decide) (zmi (List.mem_of_getElem? (i := 81) rfl)) (fun _ h9 => h9) rfl hini rfl rfl rfl (Nat.le_of_ble_eq_true rfl) dX6_init_23 (fun F' H locs hF' hne h' => ?_)
  have hF : F' h0 = .inr (6, [.ref q1, .ref q2, .null, .null, .int 0, .int 0]) := hF'
  have h := h'
  clear hF' hne h'
  generalize F' = F at h hF
  refine lv_aload_n hx hb dX6_init_26 rfl (lv_at hl 0 rfl) ?_
  refine lv_bipush (v := 10) hx hb dX6_init_27 (by decide) ?_
  refine zj_aarr (C := RX2) (κ := 3) (N' := 10) Y h (zmi (List.mem_of_getElem? (i := 82) rfl)) hN0.2.1 rfl (by decide) (by decide) (by decide) (by rw [hRc]; exact (Nat.le_of_ble_eq_true rfl)) (by rw [hRs]; exact (Nat.le_of_ble_eq_true rfl)) dX6_init_29 (fun q3 L F H hq9 q3L q3Γ hq3 hk h' => ?_)
  have hF := (hk h0 h0L).1.trans hF
  have h0n : h0 ≠ q3 := fun h9 => hq9 (by rw [← h9]; exact h0L)
  have h0L := (hk h0 h0L).2
  have h := h'
  clear h' hk hq9
  refine W.widen (k := 10) (n := 6023) (Nat.le_of_ble_eq_true rfl) (Nat.le_of_ble_eq_true rfl) ?_
  refine zj_put (C := RX6) (T := TX6) (N := 6) (t := 6) (v := .ref q3) Y h h0L h0Γ hF ziin_6 tyX6 tyX6_ok nmX6 rfl 2 (by decide) (zmi (List.mem_of_getElem? (i := 83) rfl)) (fun _ h9 => h9) rfl hini rfl rfl rfl (Nat.le_of_ble_eq_true rfl) dX6_init_32 (fun F' H locs hF' hne h' => ?_)
  have hF : F' h0 = .inr (6, [.ref q1, .ref q2, .ref q3, .null, .int 0, .int 0]) := hF'
  have h := h'
  have hq3 := (hne q3 (Ne.symm h0n)).trans hq3
  clear hF' hne h'
  generalize F' = F at h hF hq3
  refine lv_iconst (v := 0) hx hb dX6_init_35 (by decide) ?_
  refine lv_istore_n (lv' := [(1, .int 0), (0, .ref h0)]) hx hb dX6_init_36 rfl hl (by decide) rfl (fun ls hl => ?_)
  have loop37 : (∀ (Γ : Nat → Option Nat) (L : List Nat) (F : Nat → va_E) (H : Heap) (locs : List Loc) (ls : Array Slot) (f : Nat → Option Nat), zU D k (zA0 h0 s.heap.size) s Γ L F H locs → (∀ a, Γ a ≠ some 11) → h0 ∈ L → Γ h0 = none → F h0 = .inr (6, [.ref q1, .ref q2, .ref q3, .null, .int 0, .int 0]) → q3 ∈ L → Γ q3 = none → F q3 = .inl (k 3, 10, .inr (.inr (.inr (.inr f)))) → (∀ j, j < 10 → ∃ b, f j = some b ∧ Γ b = some 2) → (∀ j1 j2, j1 < 10 → j2 < 10 → f j1 = f j2 → j1 = j2) → zPe Γ F f 10 → Γ q1 = some 8 → Γ q2 = some 1 → lv_has ls 2 [(1, .int 10), (0, .ref h0)] → W p l e R s m args below meth c H locs (10 + 2 * 10) (6023 + 12 * 10) Q (F0 m 62 ls [])) → ∀ (n9 i : Nat) (x : Int32) (Γ : Nat → Option Nat) (L : List Nat) (F : Nat → va_E) (H : Heap) (locs : List Loc) (ls : Array Slot) (f : Nat → Option Nat), i + n9 = 10 → x = nI i → zU D k (zA0 h0 s.heap.size) s Γ L F H locs → (∀ a, Γ a ≠ some 11) → h0 ∈ L → Γ h0 = none → F h0 = .inr (6, [.ref q1, .ref q2, .ref q3, .null, .int 0, .int 0]) → q3 ∈ L → Γ q3 = none → F q3 = .inl (k 3, 10, .inr (.inr (.inr (.inr f)))) → (∀ j, j < i → ∃ b, f j = some b ∧ Γ b = some 2) → (∀ j1 j2, j1 < i → j2 < i → f j1 = f j2 → j1 = j2) → zPe Γ F f i → Γ q1 = some 8 → Γ q2 = some 1 → lv_has ls 2 [(1, .int x), (0, .ref h0)] → W p l e R s m args below meth c H locs (10 + 2 * i) (6023 + 12 * i) Q (F0 m 37 ls []) := by
    intro hcont n9
    induction n9 with
    | zero =>
      intro i x Γ L F H locs ls f hi ex h h11 h0L h0Γ hF q3L q3Γ hq3 hf9 hd9 hpe hq1 hq2 hl
      obtain rfl : i = 10 := by omega
      have ex9 : x = 10 := by rw [ex]; decide
      subst ex9
      refine lv_iload_n hx hb dX6_init_37 rfl (lv_at hl 0 rfl) ?_
      refine lv_bipush (v := 10) hx hb dX6_init_38 (by decide) ?_
      refine lv_icmp_ge (tgt := 62) hx hb dX6_init_40 (by decide) (fun _ => ?_) (fun h9 => absurd (by decide) h9)
      exact hcont Γ L F H locs ls f h h11 h0L h0Γ hF q3L q3Γ hq3 hf9 hd9 hpe hq1 hq2 hl
    | succ n9 ih =>
      intro i x Γ L F H locs ls f hi ex h h11 h0L h0Γ hF q3L q3Γ hq3 hf9 hd9 hpe hq1 hq2 hl
      have hnc : ¬ (10 : Int32) ≤ x := by rw [ex]; exact nI_ge (a := i) (b := 10) (by omega) (by decide)
      have hin9 : vp_in x 10 := by rw [ex]; exact vp_in_nI (by omega) (by decide)
      refine lv_iload_n hx hb dX6_init_37 rfl (lv_at hl 0 rfl) ?_
      refine lv_bipush (v := 10) hx hb dX6_init_38 (by decide) ?_
      refine lv_icmp_ge (tgt := 62) hx hb dX6_init_40 (by decide) (fun h9 => absurd h9 hnc) (fun _ => ?_)
      refine lv_aload_n hx hb dX6_init_43 rfl (lv_at hl 1 rfl) ?_
      refine zj_get (C := RX6) (T := TX6) (N := 6) (t := 6) (v := .ref q3) Y h h0L hF ziin_6 rfl 2 (by decide) (zmi (List.mem_of_getElem? (i := 83) rfl)) (fun _ h9 => h9) rfl dX6_init_44 ?_
      refine lv_iload_n hx hb dX6_init_47 rfl (lv_at hl 0 rfl) ?_
      refine zj_new (t := 2) (C := RX2) (T := TX2) (N := 9) (fs := [.int 0, .int 0, .int 0, .int 0, .int 0, .int 0, .int 0, .int 0, .null]) (mc := 1) (ms := 3) (post := zp_2) Y h ziin_2 tyX2 tyX2_ok (zmi (List.mem_of_getElem? (i := 82) rfl)) (zmi (List.mem_of_getElem? (i := 87) rfl)) (zmi (List.mem_of_getElem? (i := 84) rfl)) rfl (fun j hj => z_df2 j hj) (fun q9 sz9 => zi_X2 l D k q9 sz9) (cwI 0 hts zgi_2 rfl rfl rfl (hts _ (zmi (List.mem_of_getElem? (i := 84) rfl))) (hts _ (zmi (List.mem_of_getElem? (i := 85) rfl))) (hts _ (zmi (List.mem_of_getElem? (i := 86) rfl))) rfl (by decide +kernel) ⟨by rw [hRf]; exact (Nat.le_of_ble_eq_true rfl), by rw [hRl]; exact (Nat.le_of_ble_eq_true rfl)⟩) hl.1 (Nat.le_of_ble_eq_true rfl) (by rw [hRc]; omega) (by rw [hRs]; omega) dX6_init_48 dX6_init_51 dX6_init_52 (fun v9 Γ9 L9 F9 Γ L F H locs hv9 hn9 hp9 hI9 hk hk9 hL9 _ h' => ?_)
      have hq1 := (hk q1 (h.2.2.2.1 _ _ hq1).1).1.trans hq1
      have hq2 := (hk q2 (h.2.2.2.1 _ _ hq2).1).1.trans hq2
      have h11 : ∀ a, Γ a ≠ some 11 := fun a ha => (hL9 a (h'.2.2.2.1 a _ ha).1).elim (fun h1 => h11 a ((hk a h1).1.symm.trans ha)) (fun h1 => absurd ((hk9 a h1).1.symm.trans ha) (hp9 a))
      have h0Γ := (hk h0 h0L).1.trans h0Γ
      have hF := (hk h0 h0L).2.1.trans hF
      have h0L := (hk h0 h0L).2.2.1
      have q3Γ := (hk q3 q3L).1.trans q3Γ
      have hq3 := (hk q3 q3L).2.1.trans hq3
      have q3L := (hk q3 q3L).2.2.1
      have hnv : ∀ j, j < i → f j ≠ some v9 := fun j hj e9 => (hf9 j hj).elim (fun b hb => (hk b (h.2.2.2.1 _ _ hb.2).1).2.2.2 (by have e8 : b = v9 := (by rw [hb.1] at e9; injection e9); rw [e8]; exact (hI9 v9 _ hn9).1))
      obtain ⟨pv9, hpv1, hpv2⟩ := z_ad (j := 8) (c := 103) hI9 hn9 (by decide) rfl
      have hpe := hpe.step (n := Int32.toNatClampNeg x) (L9 := L9) hf9 (fun a t ha => ⟨(hk a (h.2.2.2.1 a t ha).1).1.trans ha, (hk a (h.2.2.2.1 a t ha).1).2.1, (hk a (h.2.2.2.1 a t ha).1).2.2.2⟩) hv9 (zfld_e (hk9 v9 (hI9 v9 _ hn9).1).2.1 hpv1) ((hk9 pv9 (hI9 pv9 _ hpv2).1).1.trans hpv2) (hI9 pv9 _ hpv2).1 (z_nIc ex (by omega))
      have hf9 : ∀ j, j < i → ∃ b, f j = some b ∧ Γ b = some 2 := fun j hj => (hf9 j hj).elim (fun b hb => ⟨b, hb.1, (hk b (h.2.2.2.1 _ _ hb.2).1).1.trans hb.2⟩)
      have h := h'
      clear h' hk
      refine zj_aast (κ := 3) (t2 := 2) (n := 10) Y h q3L q3Γ hq3 rfl hv9 (by decide) rfl hin9 dX6_init_55 (fun F' H locs hF' hne h' => ?_)
      have hF := (hne h0 (fun h9 => by rw [h9] at hF; rw [hq3] at hF; cases hF)).trans hF
      have h := h'
      have hf9 : ∀ j, j < i + 1 → ∃ b, va_up f (Int32.toNatClampNeg x) (some v9) j = some b ∧ Γ b = some 2 := fun j hj => by
        by_cases c9 : j = Int32.toNatClampNeg x
        · rw [c9, va_up_self]; exact ⟨v9, rfl, hv9⟩
        · rw [va_up_ne _ _ c9]; exact hf9 j (by have := z_nIc ex (by omega); omega)
      have hd9 : ∀ j1 j2, j1 < i + 1 → j2 < i + 1 → va_up f (Int32.toNatClampNeg x) (some v9) j1 = va_up f (Int32.toNatClampNeg x) (some v9) j2 → j1 = j2 := fun j1 j2 h1 h2 e9 => by
        have hx9 := z_nIc ex (by omega)
        by_cases c1 : j1 = Int32.toNatClampNeg x
        · by_cases c2 : j2 = Int32.toNatClampNeg x
          · omega
          · rw [c1, va_up_self, va_up_ne _ _ c2] at e9; exact absurd e9.symm (hnv j2 (by omega))
        · by_cases c2 : j2 = Int32.toNatClampNeg x
          · rw [c2, va_up_self, va_up_ne _ _ c1] at e9; exact absurd e9 (hnv j1 (by omega))
          · rw [va_up_ne _ _ c1, va_up_ne _ _ c2] at e9; exact hd9 j1 j2 (by omega) (by omega) e9
      have hpe := hpe.mv (Γ' := Γ) (F' := F') (fun a t ha => ⟨ha, hne a (fun e9 => by rw [e9, q3Γ] at ha; cases ha)⟩)
      obtain ⟨x1, ex1⟩ : ∃ y : Int32, y = x + 1 := ⟨_, rfl⟩
      refine lv_iinc (v := x1) (lv' := [(1, .int x1), (0, .ref h0)]) hx hb dX6_init_56 hl (k := 0) rfl (by rw [ex1]; rfl) (by decide) rfl (fun ls hl => ?_)
      refine lv_goto (tgt := 37) hx hb dX6_init_59 (by decide) ?_
      refine W.widen (k := 10 + 2 * (i + 1)) (n := 6023 + 12 * (i + 1)) (by omega) (by omega) ?_
      exact ih (i + 1) x1 Γ L F' H locs ls _ (by omega) (by rw [ex1, ex]; exact nI_1 i) h h11 h0L h0Γ hF q3L q3Γ hF' hf9 hd9 hpe hq1 hq2 hl
  refine loop37 (fun Γ L F H locs ls f h h11 h0L h0Γ hF q3L q3Γ hq3 hf9 hd9 hpe hq1 hq2 hl => ?_) 10 0 0 Γ L F H locs ls _ rfl nI_0.symm h h11 h0L h0Γ hF q3L q3Γ hq3 (fun j hj => by omega) (fun j1 j2 h1 => by omega) zPe.nil hq1 hq2 hl
  refine W.widen (k := 30) (n := 6143) (Nat.le_of_ble_eq_true rfl) (Nat.le_of_ble_eq_true rfl) ?_
  have h := zj_ty (tc := 104) h q3L q3Γ (by decide) (zar_o (κ := 3) (n := 10) (t2 := 2) (hi := 0) (by decide) rfl hq3 (fun j hj => (hf9 j hj).elim (fun b hb => ⟨b, hb.1, zif hb.2 q3Γ⟩)))
  obtain ⟨fa_, hpa⟩ := zPa.mk (Γ := fun a => if a = q3 then some 104 else Γ a) hq3 (if_pos rfl) (fun j hj => (hf9 j hj).elim (fun b hb => ⟨b, hb.1, zif hb.2 q3Γ⟩)) hd9
  have hpa := zPa2.mk hpa hq3 (hpe.mv (Γ' := fun a => if a = q3 then some 104 else Γ a) (F' := F) (fun a t ha => ⟨zif ha q3Γ, rfl⟩))
  have hq1 := zif (t := 104) hq1 q3Γ
  have hq2 := zif (t := 104) hq2 q3Γ
  have h0Γ : (if h0 = q3 then some 104 else Γ h0) = none := by rw [if_neg (fun h9 => by rw [h9] at hF; rw [hq3] at hF; cases hF)]; exact h0Γ
  have hq3 : (if q3 = q3 then some 104 else Γ q3) = some 104 := if_pos rfl
  generalize hΓe : (fun a => if a = q3 then some 104 else Γ a) = Γ at h hpa
  have hq1 : Γ q1 = some 8 := by rw [← hΓe]; exact hq1
  have hq2 : Γ q2 = some 1 := by rw [← hΓe]; exact hq2
  have hq3 : Γ q3 = some 104 := by rw [← hΓe]; exact hq3
  have h0Γ : Γ h0 = none := by rw [← hΓe]; exact h0Γ
  have h11 : ∀ a, Γ a ≠ some 11 := fun a => by rw [← hΓe]; exact zif_ne (by decide) (h11 a)
  clear hΓe hf9 q3Γ
  refine lv_aload_n hx hb dX6_init_62 rfl (lv_at hl 1 rfl) ?_
  refine lv_bipush (v := 60) hx hb dX6_init_63 (by decide) ?_
  refine zj_aarr (C := RX4) (κ := 4) (N' := 60) Y h (zmi (List.mem_of_getElem? (i := 88) rfl)) hN0.2.2.1 rfl (by decide) (by decide) (by decide) (by rw [hRc]; exact (Nat.le_of_ble_eq_true rfl)) (by rw [hRs]; exact (Nat.le_of_ble_eq_true rfl)) dX6_init_65 (fun q4 L F H hq9 q4L q4Γ hq4 hk h' => ?_)
  have hF := (hk h0 h0L).1.trans hF
  have h0n : h0 ≠ q4 := fun h9 => hq9 (by rw [← h9]; exact h0L)
  have h0L := (hk h0 h0L).2
  have hpa := hpa.mv (Γ' := Γ) (F' := F) (fun a t ha => ⟨ha, (hk a (h.2.2.2.1 a t ha).1).1⟩)
  have h := h'
  clear h' hk hq9
  refine W.widen (k := 31) (n := 6203) (Nat.le_of_ble_eq_true rfl) (Nat.le_of_ble_eq_true rfl) ?_
  refine zj_put (C := RX6) (T := TX6) (N := 6) (t := 6) (v := .ref q4) Y h h0L h0Γ hF ziin_6 tyX6 tyX6_ok nmX6 rfl 3 (by decide) (zmi (List.mem_of_getElem? (i := 89) rfl)) (fun _ h9 => h9) rfl hini rfl rfl rfl (Nat.le_of_ble_eq_true rfl) dX6_init_68 (fun F' H locs hF' hne h' => ?_)
  have hF : F' h0 = .inr (6, [.ref q1, .ref q2, .ref q3, .ref q4, .int 0, .int 0]) := hF'
  have h := h'
  have hq4 := (hne q4 (Ne.symm h0n)).trans hq4
  have hpa := hpa.mv (Γ' := Γ) (F' := F') (fun a t ha => ⟨ha, hne a (fun e9 => by rw [e9, h0Γ] at ha; cases ha)⟩)
  clear hF' hne h'
  generalize F' = F at h hF hq4 hpa
  refine lv_iconst (v := 0) hx hb dX6_init_71 (by decide) ?_
  refine lv_istore_n (lv' := [(1, .int 0), (0, .ref h0)]) hx hb dX6_init_72 rfl hl (by decide) rfl (fun ls hl => ?_)
  have loop73 : (∀ (Γ : Nat → Option Nat) (L : List Nat) (F : Nat → va_E) (H : Heap) (locs : List Loc) (ls : Array Slot) (f : Nat → Option Nat), zU D k (zA0 h0 s.heap.size) s Γ L F H locs → (∀ a, Γ a ≠ some 11) → h0 ∈ L → Γ h0 = none → F h0 = .inr (6, [.ref q1, .ref q2, .ref q3, .ref q4, .int 0, .int 0]) → q4 ∈ L → Γ q4 = none → F q4 = .inl (k 4, 60, .inr (.inr (.inr (.inr f)))) → (∀ j, j < 60 → ∃ b, f j = some b ∧ Γ b = some 4) → (∀ j1 j2, j1 < 60 → j2 < 60 → f j1 = f j2 → j1 = j2) → zPa2 Γ F q3 fa_ → Γ q1 = some 8 → Γ q2 = some 1 → Γ q3 = some 104 → lv_has ls 2 [(1, .int 60), (0, .ref h0)] → W p l e R s m args below meth c H locs (31 + 1 * 60) (6203 + 4 * 60) Q (F0 m 98 ls [])) → ∀ (n9 i : Nat) (x : Int32) (Γ : Nat → Option Nat) (L : List Nat) (F : Nat → va_E) (H : Heap) (locs : List Loc) (ls : Array Slot) (f : Nat → Option Nat), i + n9 = 60 → x = nI i → zU D k (zA0 h0 s.heap.size) s Γ L F H locs → (∀ a, Γ a ≠ some 11) → h0 ∈ L → Γ h0 = none → F h0 = .inr (6, [.ref q1, .ref q2, .ref q3, .ref q4, .int 0, .int 0]) → q4 ∈ L → Γ q4 = none → F q4 = .inl (k 4, 60, .inr (.inr (.inr (.inr f)))) → (∀ j, j < i → ∃ b, f j = some b ∧ Γ b = some 4) → (∀ j1 j2, j1 < i → j2 < i → f j1 = f j2 → j1 = j2) → zPa2 Γ F q3 fa_ → Γ q1 = some 8 → Γ q2 = some 1 → Γ q3 = some 104 → lv_has ls 2 [(1, .int x), (0, .ref h0)] → W p l e R s m args below meth c H locs (31 + 1 * i) (6203 + 4 * i) Q (F0 m 73 ls []) := by
    intro hcont n9
    induction n9 with
    | zero =>
      intro i x Γ L F H locs ls f hi ex h h11 h0L h0Γ hF q4L q4Γ hq4 hf9 hd9 hpa hq1 hq2 hq3 hl
      obtain rfl : i = 60 := by omega
      have ex9 : x = 60 := by rw [ex]; decide
      subst ex9
      refine lv_iload_n hx hb dX6_init_73 rfl (lv_at hl 0 rfl) ?_
      refine lv_bipush (v := 60) hx hb dX6_init_74 (by decide) ?_
      refine lv_icmp_ge (tgt := 98) hx hb dX6_init_76 (by decide) (fun _ => ?_) (fun h9 => absurd (by decide) h9)
      exact hcont Γ L F H locs ls f h h11 h0L h0Γ hF q4L q4Γ hq4 hf9 hd9 hpa hq1 hq2 hq3 hl
    | succ n9 ih =>
      intro i x Γ L F H locs ls f hi ex h h11 h0L h0Γ hF q4L q4Γ hq4 hf9 hd9 hpa hq1 hq2 hq3 hl
      have hnc : ¬ (60 : Int32) ≤ x := by rw [ex]; exact nI_ge (a := i) (b := 60) (by omega) (by decide)
      have hin9 : vp_in x 60 := by rw [ex]; exact vp_in_nI (by omega) (by decide)
      refine lv_iload_n hx hb dX6_init_73 rfl (lv_at hl 0 rfl) ?_
      refine lv_bipush (v := 60) hx hb dX6_init_74 (by decide) ?_
      refine lv_icmp_ge (tgt := 98) hx hb dX6_init_76 (by decide) (fun h9 => absurd h9 hnc) (fun _ => ?_)
      refine lv_aload_n hx hb dX6_init_79 rfl (lv_at hl 1 rfl) ?_
      refine zj_get (C := RX6) (T := TX6) (N := 6) (t := 6) (v := .ref q4) Y h h0L hF ziin_6 rfl 3 (by decide) (zmi (List.mem_of_getElem? (i := 89) rfl)) (fun _ h9 => h9) rfl dX6_init_80 ?_
      refine lv_iload_n hx hb dX6_init_83 rfl (lv_at hl 0 rfl) ?_
      refine zj_newN (t := 4) (C := RX4) (T := TX4) (N := 4) (fs := [.int 0, .int 0, .int 0, .int 0]) (mc := 0) (ms := 0) (post := zp_4) Y h ziin_4 tyX4 tyX4_ok (zmi (List.mem_of_getElem? (i := 88) rfl)) (zmi (List.mem_of_getElem? (i := 92) rfl)) (zmi (List.mem_of_getElem? (i := 90) rfl)) rfl (fun j hj => z_df4 j hj) (fun q9 sz9 => zi_X4 l D k q9 sz9) ⟨va_cnB 0 hts zgi_4 rfl rfl rfl (hN0.at 0 rfl) (hts _ (zmi (List.mem_of_getElem? (i := 90) rfl))) (by decide +kernel) ⟨by rw [hRf]; exact (Nat.le_of_ble_eq_true rfl), by rw [hRl]; exact (Nat.le_of_ble_eq_true rfl)⟩, rfl, hts _ (zmi (List.mem_of_getElem? (i := 91) rfl))⟩ hl.1 (Nat.le_of_ble_eq_true rfl) (by rw [hRc]; omega) (by rw [hRs]; omega) dX6_init_84 dX6_init_87 dX6_init_88 (fun v9 Γ9 L9 F9 Γ L F H locs hv9 hn9 hp9 hI9 hk hk9 hL9 _ h' => ?_)
      have hq1 := (hk q1 (h.2.2.2.1 _ _ hq1).1).1.trans hq1
      have hq2 := (hk q2 (h.2.2.2.1 _ _ hq2).1).1.trans hq2
      have hq3 := (hk q3 (h.2.2.2.1 _ _ hq3).1).1.trans hq3
      have h11 : ∀ a, Γ a ≠ some 11 := fun a ha => (hL9 a (h'.2.2.2.1 a _ ha).1).elim (fun h1 => h11 a ((hk a h1).1.symm.trans ha)) (fun h1 => absurd ((hk9 a h1).1.symm.trans ha) (hp9 a))
      have h0Γ := (hk h0 h0L).1.trans h0Γ
      have hF := (hk h0 h0L).2.1.trans hF
      have h0L := (hk h0 h0L).2.2.1
      have q4Γ := (hk q4 q4L).1.trans q4Γ
      have hq4 := (hk q4 q4L).2.1.trans hq4
      have q4L := (hk q4 q4L).2.2.1
      have hnv : ∀ j, j < i → f j ≠ some v9 := fun j hj e9 => (hf9 j hj).elim (fun b hb => (hk b (h.2.2.2.1 _ _ hb.2).1).2.2.2 (by have e8 : b = v9 := (by rw [hb.1] at e9; injection e9); rw [e8]; exact (hI9 v9 _ hn9).1))
      have hpa := hpa.mv (Γ' := Γ) (F' := F) (fun a t ha => ⟨(hk a (h.2.2.2.1 a t ha).1).1.trans ha, (hk a (h.2.2.2.1 a t ha).1).2.1⟩)
      have hf9 : ∀ j, j < i → ∃ b, f j = some b ∧ Γ b = some 4 := fun j hj => (hf9 j hj).elim (fun b hb => ⟨b, hb.1, (hk b (h.2.2.2.1 _ _ hb.2).1).1.trans hb.2⟩)
      have h := h'
      clear h' hk
      refine zj_aast (κ := 4) (t2 := 4) (n := 60) Y h q4L q4Γ hq4 rfl hv9 (by decide) rfl hin9 dX6_init_91 (fun F' H locs hF' hne h' => ?_)
      have hF := (hne h0 (fun h9 => by rw [h9] at hF; rw [hq4] at hF; cases hF)).trans hF
      have h := h'
      have hf9 : ∀ j, j < i + 1 → ∃ b, va_up f (Int32.toNatClampNeg x) (some v9) j = some b ∧ Γ b = some 4 := fun j hj => by
        by_cases c9 : j = Int32.toNatClampNeg x
        · rw [c9, va_up_self]; exact ⟨v9, rfl, hv9⟩
        · rw [va_up_ne _ _ c9]; exact hf9 j (by have := z_nIc ex (by omega); omega)
      have hd9 : ∀ j1 j2, j1 < i + 1 → j2 < i + 1 → va_up f (Int32.toNatClampNeg x) (some v9) j1 = va_up f (Int32.toNatClampNeg x) (some v9) j2 → j1 = j2 := fun j1 j2 h1 h2 e9 => by
        have hx9 := z_nIc ex (by omega)
        by_cases c1 : j1 = Int32.toNatClampNeg x
        · by_cases c2 : j2 = Int32.toNatClampNeg x
          · omega
          · rw [c1, va_up_self, va_up_ne _ _ c2] at e9; exact absurd e9.symm (hnv j2 (by omega))
        · by_cases c2 : j2 = Int32.toNatClampNeg x
          · rw [c2, va_up_self, va_up_ne _ _ c1] at e9; exact absurd e9 (hnv j1 (by omega))
          · rw [va_up_ne _ _ c1, va_up_ne _ _ c2] at e9; exact hd9 j1 j2 (by omega) (by omega) e9
      have hpa := hpa.mv (Γ' := Γ) (F' := F') (fun a t ha => ⟨ha, hne a (fun e9 => by rw [e9, q4Γ] at ha; cases ha)⟩)
      obtain ⟨x1, ex1⟩ : ∃ y : Int32, y = x + 1 := ⟨_, rfl⟩
      refine lv_iinc (v := x1) (lv' := [(1, .int x1), (0, .ref h0)]) hx hb dX6_init_92 hl (k := 0) rfl (by rw [ex1]; rfl) (by decide) rfl (fun ls hl => ?_)
      refine lv_goto (tgt := 73) hx hb dX6_init_95 (by decide) ?_
      refine W.widen (k := 31 + 1 * (i + 1)) (n := 6203 + 4 * (i + 1)) (by omega) (by omega) ?_
      exact ih (i + 1) x1 Γ L F' H locs ls _ (by omega) (by rw [ex1, ex]; exact nI_1 i) h h11 h0L h0Γ hF q4L q4Γ hF' hf9 hd9 hpa hq1 hq2 hq3 hl
  refine loop73 (fun Γ L F H locs ls f h h11 h0L h0Γ hF q4L q4Γ hq4 hf9 hd9 hpa hq1 hq2 hq3 hl => ?_) 60 0 0 Γ L F H locs ls _ rfl nI_0.symm h h11 h0L h0Γ hF q4L q4Γ hq4 (fun j hj => by omega) (fun j1 j2 h1 => by omega) hpa hq1 hq2 hq3 hl
  refine W.widen (k := 91) (n := 6443) (Nat.le_of_ble_eq_true rfl) (Nat.le_of_ble_eq_true rfl) ?_
  have h := zj_ty (tc := 105) h q4L q4Γ (by decide) (zar_o (κ := 4) (n := 60) (t2 := 4) (hi := 0) (by decide) rfl hq4 (fun j hj => (hf9 j hj).elim (fun b hb => ⟨b, hb.1, zif hb.2 q4Γ⟩)))
  have hpa := hpa.mv (Γ' := fun a => if a = q4 then some 105 else Γ a) (F' := F) (fun a t ha => ⟨zif ha q4Γ, rfl⟩)
  obtain ⟨la_, hpq⟩ := zPq.mk (Γ := fun a => if a = q4 then some 105 else Γ a) hq4 (if_pos rfl) (fun j hj => (hf9 j hj).elim (fun b hb => ⟨b, hb.1, zif hb.2 q4Γ⟩)) hd9
  have hq1 := zif (t := 105) hq1 q4Γ
  have hq2 := zif (t := 105) hq2 q4Γ
  have hq3 := zif (t := 105) hq3 q4Γ
  have h0Γ : (if h0 = q4 then some 105 else Γ h0) = none := by rw [if_neg (fun h9 => by rw [h9] at hF; rw [hq4] at hF; cases hF)]; exact h0Γ
  have hq4 : (if q4 = q4 then some 105 else Γ q4) = some 105 := if_pos rfl
  generalize hΓe : (fun a => if a = q4 then some 105 else Γ a) = Γ at h hpa hpq
  have hq1 : Γ q1 = some 8 := by rw [← hΓe]; exact hq1
  have hq2 : Γ q2 = some 1 := by rw [← hΓe]; exact hq2
  have hq3 : Γ q3 = some 104 := by rw [← hΓe]; exact hq3
  have hq4 : Γ q4 = some 105 := by rw [← hΓe]; exact hq4
  have h0Γ : Γ h0 = none := by rw [← hΓe]; exact h0Γ
  have h11 : ∀ a, Γ a ≠ some 11 := fun a => by rw [← hΓe]; exact zif_ne (by decide) (h11 a)
  clear hΓe hf9 q4Γ
  have h := zj_end h h0L h0Γ hF (by decide) (show zVs _ [(2, 8, 0), (2, 1, 0), (2, 104, 0), (2, 105, 0), (0, 0, 10), (0, 0, 60)] [.ref q1, .ref q2, .ref q3, .ref q4, .int 0, .int 0] from ⟨zV.r (zif hq1 h0Γ) rfl, zV.r (zif hq2 h0Γ) rfl, zV.r (zif hq3 h0Γ) rfl, zV.r (zif hq4 h0Γ) rfl, zV.i ⟨by decide, by decide⟩, zV.i ⟨by decide, by decide⟩, trivial⟩)
  subst hQ
  exact W.vret hx hb hr (fun t9 ht9 hW9 => ⟨⟨(fun a => if a = h0 then some 6 else Γ a, L, F), rfl, ⟨if_pos rfl, fun a => zif_ne (by decide) (h11 a), ⟨fa_, zPS.of (hpa.mv (Γ' := fun a => if a = h0 then some 6 else Γ a) (F' := F) (fun a t ha => ⟨zif ha h0Γ, rfl⟩)).1 (show zfld F h0 2 = .ref q3 from by unfold zfld; rw [hF]; rfl), (hpa.mv (Γ' := fun a => if a = h0 then some 6 else Γ a) (F' := F) (fun a t ha => ⟨zif ha h0Γ, rfl⟩)).2⟩, (show zfld F h0 4 = .int 0 from by unfold zfld; rw [hF]; rfl), (show zfld F h0 5 = .int 0 from by unfold zfld; rw [hF]; rfl), la_, zLS.of (hpq.mv (Γ' := fun a => if a = h0 then some 6 else Γ a) (F' := F) (fun a t ha => ⟨zif ha h0Γ, rfl⟩)) (show zfld F h0 3 = .ref q4 from by unfold zfld; rw [hF]; rfl)⟩, by rw [ht9]; exact h.1, h.2.1, h.2.2.1, h.2.2.2.1⟩, h.2.2.2.2.F ht9⟩) h.2.2.2.2.2.2 dX6_init_98
