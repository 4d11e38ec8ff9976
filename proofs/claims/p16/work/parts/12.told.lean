set_option maxHeartbeats 4000000 in
set_option maxRecDepth 100000 in
theorem zc_X9_forget (l : Launch) (D : va_G) (k : Nat → ClassId) (Γ : Nat → Option Nat) (L : List Nat) (F : Nat → va_E) (sz : Nat) (th : Nat) (hth : Γ th = some 9) : Met l yX9_forget zwX9_forget ({ frames := 0, cells := 0, slots := 0, locals := 0 }) (va_Pc [.ref th] (zP D k Γ L F sz)) (va_Qv (fun (u : Nat → va_E) => (∃ x, zfld u th 4 = .int x ∧ zB 0 0 x) ∧ True) (zQ D k Γ L F [902, 903, 904]) (zA L sz)) 0 0 (zA L sz) := by
  refine Met.ofW (cc := cX9_forget) (maxL := 1) (ret := none) (by decide) rfl ?_
  intro p e s m args below meth c s₁ B hml hv
  obtain ⟨rfl, hsz, hP, hK, hLn, hE, hI⟩ := hv
  have hx := B.exec
  have hb := B.bytes
  have hr := B.returns
  have hg : ∀ w ∈ zG, w.before _ s = true := fun w h9 => atoms_spec (ws := zwX9_forget) B.pre w (List.mem_cons_of_mem _ h9)
  have hown : s.vm.findClass RX9 = some m.cls := findClass_of_methodNamed B.named
  have hlocks := B.notSynchronized
  subst hsz
  have Z : zC p m c cX9_forget 1 s _ zG RX9 D k L := ⟨⟨hx, hb, hml, hown, hg⟩, hK, hLn, hE⟩
  have h : zH D k Γ L s F s.heap [] := ⟨hP, hI, va_S.rf⟩
  have hl := lv_entry ([.ref th]) (n := 1) (Nat.le_of_ble_eq_true rfl)
  rw [lg_entry_eq]
  generalize (lg_sl ([.ref th]) ++ List.replicate (1 - (lg_sl ([.ref th])).length) Slot.unset).toArray = ls at hl ⊢
  have hl : lv_has ls 1 [(0, .ref th)] := hl
  clear hP hK hLn hE hI
  generalize hargs : ([.ref th] : List Value).toArray = args at *
  refine z_start (fun R Q hRf hRl hQ => ?_)
  have hRf : R.frames = 0 := hRf
  have hRl : R.locals = 0 := hRl
  refine lv_aload_n hx hb dX9_forget_0 rfl (lv_at hl 0 rfl) ?_
  refine lv_iconst (v := 0) hx hb dX9_forget_1 (by decide) ?_
  refine zt_put (t := 9) (C := RX9) (T := TX9) (N := 5) (v := .int 0) Z h hth zin_9 tyX9 tyX9_ok nmX9 rfl 4 rfl ⟨by decide, rfl⟩ (zm_RX9 (List.mem_of_getElem? (i := 2) rfl)) (fun _ h9 => h9) rfl (zV.i (zB.of ⟨by decide, by decide⟩)) rfl rfl dX9_forget_2 (fun H locs F_1 h hfF_1 kF_1 => ?_)
  refine lv_aload_n hx hb dX9_forget_5 rfl (lv_at hl 0 rfl) ?_
  refine lv_iconst (v := 0) hx hb dX9_forget_6 (by decide) ?_
  refine zt_put (t := 9) (C := RX9) (T := TX9) (N := 5) (v := .int 0) Z h hth zin_9 tyX9 tyX9_ok nmX9 rfl 2 rfl ⟨by decide, rfl⟩ (zm_RX9 (List.mem_of_getElem? (i := 3) rfl)) (fun _ h9 => h9) rfl (zV.i (zB.of ⟨by decide, by decide⟩)) rfl rfl dX9_forget_7 (fun H locs F_2 h hfF_2 kF_2 => ?_)
  refine lv_aload_n hx hb dX9_forget_10 rfl (lv_at hl 0 rfl) ?_
  refine lv_iconst (v := (-1)) hx hb dX9_forget_11 (by decide) ?_
  refine zt_put (t := 9) (C := RX9) (T := TX9) (N := 5) (v := .int (-1)) Z h hth zin_9 tyX9 tyX9_ok nmX9 rfl 3 rfl ⟨by decide, rfl⟩ (zm_RX9 (List.mem_of_getElem? (i := 4) rfl)) (fun _ h9 => h9) rfl (zV.i (zB.of ⟨by decide, by decide⟩)) rfl rfl dX9_forget_12 (fun H locs F_3 h hfF_3 kF_3 => ?_)
  subst hQ
  exact W.vret hx hb hr (fun t ht hW => ⟨⟨F_3, rfl, ⟨⟨0, (hfF_3.f hth 4 ⟨by decide, by decide⟩ (hfF_2.f hth 4 ⟨by decide, by decide⟩ kF_1)), (zB.of ⟨by decide, by decide⟩)⟩, trivial⟩, by rw [ht]; exact h.1, h.2.1, (((hfF_1.w (by decide)).trans hfF_2 (by decide)).trans hfF_3 (by decide))⟩, h.2.2.F ht⟩) h.2.2.2.2 dX9_forget_15

set_option maxHeartbeats 4000000 in
set_option maxRecDepth 100000 in
theorem zc_X9_isFull (l : Launch) (D : va_G) (k : Nat → ClassId) (Γ : Nat → Option Nat) (L : List Nat) (F : Nat → va_E) (sz : Nat) (th : Nat) (hth : Γ th = some 9) : Met l yX9_isFull zwX9_isFull ({ frames := 0, cells := 0, slots := 0, locals := 0 }) (va_Pc [.ref th] (zP D k Γ L F sz)) (va_Qi (fun (r : Int32) (u : Nat → va_E) => F = u ∧ zB 0 1 r ∧ (r = 0 → ∃ x, zfld u th 4 = .int x ∧ zB 0 11 x) ∧ True) (zQ D k Γ L F []) (zA L sz)) 0 0 (zA L sz) := by
  refine Met.ofW (cc := cX9_isFull) (maxL := 1) (ret := (some .boolean)) (by decide) rfl ?_
  intro p e s m args below meth c s₁ B hml hv
  obtain ⟨rfl, hsz, hP, hK, hLn, hE, hI⟩ := hv
  have hx := B.exec
  have hb := B.bytes
  have hr := B.returns
  have hg : ∀ w ∈ zG, w.before _ s = true := fun w h9 => atoms_spec (ws := zwX9_isFull) B.pre w (List.mem_cons_of_mem _ h9)
  have hown : s.vm.findClass RX9 = some m.cls := findClass_of_methodNamed B.named
  have hlocks := B.notSynchronized
  subst hsz
  have Z : zC p m c cX9_isFull 1 s _ zG RX9 D k L := ⟨⟨hx, hb, hml, hown, hg⟩, hK, hLn, hE⟩
  have h : zH D k Γ L s F s.heap [] := ⟨hP, hI, va_S.rf⟩
  have hl := lv_entry ([.ref th]) (n := 1) (Nat.le_of_ble_eq_true rfl)
  rw [lg_entry_eq]
  generalize (lg_sl ([.ref th]) ++ List.replicate (1 - (lg_sl ([.ref th])).length) Slot.unset).toArray = ls at hl ⊢
  have hl : lv_has ls 1 [(0, .ref th)] := hl
  clear hP hK hLn hE hI
  generalize hargs : ([.ref th] : List Value).toArray = args at *
  refine z_start (fun R Q hRf hRl hQ => ?_)
  have hRf : R.frames = 0 := hRf
  have hRl : R.locals = 0 := hRl
  refine lv_aload_n hx hb dX9_isFull_0 rfl (lv_at hl 0 rfl) ?_
  refine zt_geti (t := 9) (C := RX9) (T := TX9) (N := 5) Z h hth zin_9 rfl 4 rfl ⟨by decide, rfl⟩ (zm_RX9 (List.mem_of_getElem? (i := 2) rfl)) (fun _ h9 => h9) dX9_isFull_1 (fun x_1 kx_1 bx_1 => ?_)
  refine lv_aload_n hx hb dX9_isFull_4 rfl (lv_at hl 0 rfl) ?_
  refine zt_getr (t := 9) (C := RX9) (T := TX9) (N := 5) Z h hth zin_9 rfl 0 rfl ⟨by decide, rfl⟩ (zm_RX9 (List.mem_of_getElem? (i := 6) rfl)) (fun _ h9 => h9) dX9_isFull_5 (fun a_2 ka_2 ha_2 => ?_)
  refine zt_alen (t := 115) Z h ha_2 ⟨by decide, rfl⟩ (by decide) (v := 12) rfl dX9_isFull_8 ?_
  refine lv_icmp_lt (tgt := 16) hx hb dX9_isFull_9 (by decide) (fun c_3 => ?_) (fun c_3 => ?_)
  · have c_3 := z_lt c_3
    have bx_1_4 : zB 0 11 x_1 := zB.ltL c_3 bx_1 (zBc 12 12 (by decide)) (by decide)
    refine lv_iconst (v := 0) hx hb dX9_isFull_16 (by decide) ?_
    subst hQ
    exact W.zret (v := 0) hx hb hr (by decide) (fun t ht hW => ⟨⟨0, F, rfl, ⟨rfl, (zB.of ⟨by decide, by decide⟩), (fun _ => ⟨x_1, kx_1, bx_1_4⟩), trivial⟩, by rw [ht]; exact h.1, h.2.1, zFr.rf⟩, h.2.2.F ht⟩) h.2.2.2.2 dX9_isFull_17
  · have c_3 := z_nlt c_3
    have bx_1_5 : zB 12 12 x_1 := zB.leR c_3 (zBc 12 12 (by decide)) bx_1 (by decide)
    refine lv_iconst (v := 1) hx hb dX9_isFull_12 (by decide) ?_
    refine lv_goto (tgt := 17) hx hb dX9_isFull_13 (by decide) ?_
    subst hQ
    exact W.zret (v := 1) hx hb hr (by decide) (fun t ht hW => ⟨⟨1, F, rfl, ⟨rfl, (zB.of ⟨by decide, by decide⟩), (fun h9 => absurd h9 (by decide)), trivial⟩, by rw [ht]; exact h.1, h.2.1, zFr.rf⟩, h.2.2.F ht⟩) h.2.2.2.2 dX9_isFull_17

set_option maxHeartbeats 4000000 in
set_option maxRecDepth 100000 in
theorem ze_X9_isFull (l : Launch) (D : va_G) (k : Nat → ClassId) (Γ : Nat → Option Nat) (L : List Nat) (F : Nat → va_E) (sz : Nat) (th : Nat) (sv : Int32) (hth : Γ th = some 9) (ksv : zfld F th 4 = .int sv) (bsv : zB 0 12 sv) : Met l yX9_isFull zwX9_isFull ({ frames := 0, cells := 0, slots := 0, locals := 0 }) (va_Pc [.ref th] (zP D k Γ L F sz)) (va_Qi (fun (r : Int32) (u : Nat → va_E) => F = u ∧ zB 0 1 r ∧ (r ≠ 0 → 12 ≤ sv.toInt) ∧ (r = 0 → sv.toInt < 12) ∧ True) (zQ D k Γ L F []) (zA L sz)) 0 0 (zA L sz) := by
  refine Met.ofW (cc := cX9_isFull) (maxL := 1) (ret := (some .boolean)) (by decide) rfl ?_
  intro p e s m args below meth c s₁ B hml hv
  obtain ⟨rfl, hsz, hP, hK, hLn, hE, hI⟩ := hv
  have hx := B.exec
  have hb := B.bytes
  have hr := B.returns
  have hg : ∀ w ∈ zG, w.before _ s = true := fun w h9 => atoms_spec (ws := zwX9_isFull) B.pre w (List.mem_cons_of_mem _ h9)
  have hown : s.vm.findClass RX9 = some m.cls := findClass_of_methodNamed B.named
  have hlocks := B.notSynchronized
  subst hsz
  have Z : zC p m c cX9_isFull 1 s _ zG RX9 D k L := ⟨⟨hx, hb, hml, hown, hg⟩, hK, hLn, hE⟩
  have h : zH D k Γ L s F s.heap [] := ⟨hP, hI, va_S.rf⟩
  have hl := lv_entry ([.ref th]) (n := 1) (Nat.le_of_ble_eq_true rfl)
  rw [lg_entry_eq]
  generalize (lg_sl ([.ref th]) ++ List.replicate (1 - (lg_sl ([.ref th])).length) Slot.unset).toArray = ls at hl ⊢
  have hl : lv_has ls 1 [(0, .ref th)] := hl
  clear hP hK hLn hE hI
  generalize hargs : ([.ref th] : List Value).toArray = args at *
  refine z_start (fun R Q hRf hRl hQ => ?_)
  have hRf : R.frames = 0 := hRf
  have hRl : R.locals = 0 := hRl
  have h9 := h
  refine lv_aload_n hx hb dX9_isFull_0 rfl (lv_at hl 0 rfl) ?_
  refine zt_getk (t := 9) (C := RX9) (T := TX9) (N := 5) Z h hth zin_9 rfl 4 ksv ⟨by decide, rfl, by decide⟩ (zm_RX9 (List.mem_of_getElem? (i := 2) rfl)) (fun _ h9 => h9) dX9_isFull_1 ?_
  refine lv_aload_n hx hb dX9_isFull_4 rfl (lv_at hl 0 rfl) ?_
  refine zt_getr (t := 9) (C := RX9) (T := TX9) (N := 5) Z h hth zin_9 rfl 0 rfl ⟨by decide, rfl⟩ (zm_RX9 (List.mem_of_getElem? (i := 6) rfl)) (fun _ h9 => h9) dX9_isFull_5 (fun a_1 ka_1 ha_1 => ?_)
  refine zt_alen (t := 115) Z h ha_1 ⟨by decide, rfl⟩ (by decide) (v := 12) rfl dX9_isFull_8 ?_
  refine lv_icmp_lt (tgt := 16) hx hb dX9_isFull_9 (by decide) (fun c_2 => ?_) (fun c_2 => ?_)
  · have c_2 := z_lt c_2
    have bsv_3 : zB 0 11 sv := zB.ltL c_2 bsv (zBc 12 12 (by decide)) (by decide)
    refine lv_iconst (v := 0) hx hb dX9_isFull_16 (by decide) ?_
    subst hQ
    exact W.zret (v := 0) hx hb hr (by decide) (fun t ht hW => ⟨⟨0, F, rfl, ⟨rfl, (zB.of ⟨by decide, by decide⟩), (fun h9 => absurd rfl h9), (fun _ => by have := bsv_3.1; have := bsv_3.2; have : (0 : Int32).toInt = 0 := (by decide); have : (12 : Int32).toInt = 12 := (by decide); omega), trivial⟩, by rw [ht]; exact h.1, h.2.1, zFr.rf⟩, h.2.2.F ht⟩) h.2.2.2.2 dX9_isFull_17
  · have c_2 := z_nlt c_2
    have bsv_4 : zB 12 12 sv := zB.leR c_2 (zBc 12 12 (by decide)) bsv (by decide)
    refine lv_iconst (v := 1) hx hb dX9_isFull_12 (by decide) ?_
    refine lv_goto (tgt := 17) hx hb dX9_isFull_13 (by decide) ?_
    subst hQ
    exact W.zret (v := 1) hx hb hr (by decide) (fun t ht hW => ⟨⟨1, F, rfl, ⟨rfl, (zB.of ⟨by decide, by decide⟩), (fun _ => by have := bsv_4.1; have := bsv_4.2; have : (1 : Int32).toInt = 1 := (by decide); have : (12 : Int32).toInt = 12 := (by decide); omega), (fun h9 => absurd h9 (by decide)), trivial⟩, by rw [ht]; exact h.1, h.2.1, zFr.rf⟩, h.2.2.F ht⟩) h.2.2.2.2 dX9_isFull_17

set_option maxHeartbeats 4000000 in
set_option maxRecDepth 100000 in
theorem ze_X9_add (l : Launch) (D : va_G) (k : Nat → ClassId) (Γ : Nat → Option Nat) (L : List Nat) (F : Nat → va_E) (sz : Nat) (th : Nat) (co : Int64) (sv : Int32) (hth : Γ th = some 9) (ksv : zfld F th 4 = .int sv) (bsv : zB 0 11 sv) : Met l yX9_add zwX9_add ({ frames := 1, cells := 0, slots := 0, locals := 20 }) (va_Pc [.ref th, .long co] (zP D k Γ L F sz)) (va_Qi (fun (r : Int32) (u : Nat → va_E) => (∃ (s9 : Int32), zfld u th 4 = .int s9 ∧ zB 0 12 s9 ∧ (s9.toInt = sv.toInt + 1 ∧ r.toInt = sv.toInt)) ∧ True) (zQ D k Γ L F [904, 11500]) (zA L sz)) 0 0 (zA L sz) := by
  refine Met.ofW (cc := cX9_add) (maxL := 3) (ret := (some .int)) (by decide) rfl ?_
  intro p e s m args below meth c s₁ B hml hv
  obtain ⟨rfl, hsz, hP, hK, hLn, hE, hI⟩ := hv
  have hx := B.exec
  have hb := B.bytes
  have hr := B.returns
  have hg : ∀ w ∈ zG, w.before _ s = true := fun w h9 => atoms_spec (ws := zwX9_add) B.pre w (List.mem_cons_of_mem _ h9)
  have hown : s.vm.findClass RX9 = some m.cls := findClass_of_methodNamed B.named
  have hlocks := B.notSynchronized
  subst hsz
  have Z : zC p m c cX9_add 3 s _ zG RX9 D k L := ⟨⟨hx, hb, hml, hown, hg⟩, hK, hLn, hE⟩
  have h : zH D k Γ L s F s.heap [] := ⟨hP, hI, va_S.rf⟩
  have hl := lv_entry ([.ref th, .long co]) (n := 3) (Nat.le_of_ble_eq_true rfl)
  rw [lg_entry_eq]
  generalize (lg_sl ([.ref th, .long co]) ++ List.replicate (3 - (lg_sl ([.ref th, .long co])).length) Slot.unset).toArray = ls at hl ⊢
  have hl : lv_has ls 3 [(0, .ref th), (1, .long co)] := hl
  clear hP hK hLn hE hI
  generalize hargs : ([.ref th, .long co] : List Value).toArray = args at *
  refine z_start (fun R Q hRf hRl hQ => ?_)
  have hRf : R.frames = 1 := hRf
  have hRl : R.locals = 20 := hRl
  have h9 := h
  refine lv_aload_n hx hb dX9_add_0 rfl (lv_at hl 0 rfl) ?_
  refine zk_Vi (As := []) (rest := []) (bytes := cX9_isFull) (maxL := 1) (ret := (some .boolean)) Z h (ze_X9_isFull l D k Γ L F s.heap.size th sv hth ksv (bsv.w ⟨by decide, by decide⟩)) (cwV 0 hg zv_RX9_29 rfl rfl rfl zd_X9_isFull ⟨z_leR hRf (by decide), z_leR hRl (by decide)⟩) hth (by decide) rfl rfl hl.1 rfl (Nat.le_of_ble_eq_true rfl) dX9_add_1 ⟨Nat.zero_le _, Nat.zero_le _⟩ (fun r_1 F_2 H locs w_3 h hfF_2 => ?_)
  obtain ⟨rfl, br_1, q_4, q_5, -⟩ := w_3
  refine lv_if_eq (tgt := 9) hx hb dX9_add_4 (by decide) (fun c_6 => ?_) (fun c_6 => ?_)
  · have q_7 := q_5 c_6
    have c_6 := z_eq c_6
    have br_1_8 : zB 0 0 r_1 := zB.eqL (a := 0) (b := 0) c_6 (zBc 0 0 (by decide))
    refine lv_aload_n hx hb dX9_add_9 rfl (lv_at hl 0 rfl) ?_
    refine zt_getr (t := 9) (C := RX9) (T := TX9) (N := 5) Z h hth zin_9 rfl 0 rfl ⟨by decide, rfl⟩ (zm_RX9 (List.mem_of_getElem? (i := 6) rfl)) (fun _ h9 => h9) dX9_add_10 (fun a_9 ka_9 ha_9 => ?_)
    refine lv_aload_n hx hb dX9_add_13 rfl (lv_at hl 0 rfl) ?_
    refine zt_getk (t := 9) (C := RX9) (T := TX9) (N := 5) Z h hth zin_9 rfl 4 ksv ⟨by decide, rfl, by decide⟩ (zm_RX9 (List.mem_of_getElem? (i := 2) rfl)) (fun _ h9 => h9) dX9_add_14 ?_
    refine lv_lload_n hx hb dX9_add_17 rfl (lv_at hl 1 rfl) ?_
    refine zt_last (t := 115) Z h ha_9 ⟨by decide, rfl⟩ bsv ⟨by decide, by decide⟩ dX9_add_18 (fun H locs F_10 h hfF_10 => ?_)
    refine lv_aload_n hx hb dX9_add_19 rfl (lv_at hl 0 rfl) ?_
    refine lv_dup hx hb dX9_add_20 rfl ?_
    refine zt_getk (t := 9) (C := RX9) (T := TX9) (N := 5) Z h hth zin_9 rfl 4 (hfF_10.f hth 4 ⟨by decide, by decide⟩ ksv) ⟨by decide, rfl, by decide⟩ (zm_RX9 (List.mem_of_getElem? (i := 2) rfl)) (fun _ h9 => h9) dX9_add_21 ?_
    refine lv_iconst (v := 1) hx hb dX9_add_24 (by decide) ?_
    refine lv_iadd hx hb dX9_add_25 ?_
    refine zi_add (lo := 1) (hi := 12) bsv (zBc 1 1 (by decide)) (by decide) (fun x_11 bx_11 tx_11 => ?_)
    refine zt_put (t := 9) (C := RX9) (T := TX9) (N := 5) (v := .int x_11) Z h hth zin_9 tyX9 tyX9_ok nmX9 rfl 4 rfl ⟨by decide, rfl⟩ (zm_RX9 (List.mem_of_getElem? (i := 2) rfl)) (fun _ h9 => h9) rfl (zV.i (bx_11.w ⟨by decide, by decide⟩)) rfl rfl dX9_add_26 (fun H locs F_12 h hfF_12 kF_12 => ?_)
    refine lv_aload_n hx hb dX9_add_29 rfl (lv_at hl 0 rfl) ?_
    refine zt_getk (t := 9) (C := RX9) (T := TX9) (N := 5) Z h hth zin_9 rfl 4 kF_12 ⟨by decide, rfl, by decide⟩ (zm_RX9 (List.mem_of_getElem? (i := 2) rfl)) (fun _ h9 => h9) dX9_add_30 ?_
    refine lv_iconst (v := 1) hx hb dX9_add_33 (by decide) ?_
    refine lv_isub hx hb dX9_add_34 ?_
    refine zi_sub (lo := 0) (hi := 11) bx_11 (zBc 1 1 (by decide)) (by decide) (fun x_13 bx_13 tx_13 => ?_)
    subst hQ
    exact W.iret (v := x_13) hx hb hr (fun t ht hW => ⟨⟨x_13, F_12, rfl, ⟨⟨x_11, kF_12, (bx_11.w ⟨by decide, by decide⟩), (by have := bx_13.1; have := bx_13.2; have := bx_11.1; have := bx_11.2; have := bsv.1; have := bsv.2; have : (0 : Int32).toInt = 0 := (by decide); have : (1 : Int32).toInt = 1 := (by decide); omega)⟩, trivial⟩, by rw [ht]; exact h.1, h.2.1, ((hfF_10.w (by decide)).trans hfF_12 (by decide))⟩, h.2.2.F ht⟩) h.2.2.2.2 dX9_add_35
  · have q_14 := q_4 c_6
    have c_6 := z_ne c_6
    have br_1_15 : zB 1 1 r_1 := zB.neLo c_6 br_1 (zBc 0 0 (by decide)) (by decide)
    refine lv_iconst (v := (-1)) hx hb dX9_add_7 (by decide) ?_
    subst hQ
    exact W.iret (v := (-1)) hx hb hr (fun t ht hW => ⟨⟨(-1), F, rfl, ⟨⟨sv, ksv, (bsv.w ⟨by decide, by decide⟩), (by have := bsv.1; have := bsv.2; have : ((-1) : Int32).toInt = (-1) := (by decide); have : (0 : Int32).toInt = 0 := (by decide); omega)⟩, trivial⟩, by rw [ht]; exact h.1, h.2.1, zFr.rf⟩, h.2.2.F ht⟩) h.2.2.2.2 dX9_add_8

set_option maxHeartbeats 4000000 in
set_option maxRecDepth 100000 in
theorem zc_X9_add (l : Launch) (D : va_G) (k : Nat → ClassId) (Γ : Nat → Option Nat) (L : List Nat) (F : Nat → va_E) (sz : Nat) (th : Nat) (co : Int64) (hth : Γ th = some 9) : Met l yX9_add zwX9_add ({ frames := 1, cells := 0, slots := 0, locals := 20 }) (va_Pc [.ref th, .long co] (zP D k Γ L F sz)) (va_Qi (fun (r : Int32) (u : Nat → va_E) => zB (-1) 11 r ∧ True) (zQ D k Γ L F [904, 11500]) (zA L sz)) 0 0 (zA L sz) := by
  refine Met.ofW (cc := cX9_add) (maxL := 3) (ret := (some .int)) (by decide) rfl ?_
  intro p e s m args below meth c s₁ B hml hv
  obtain ⟨rfl, hsz, hP, hK, hLn, hE, hI⟩ := hv
  have hx := B.exec
  have hb := B.bytes
  have hr := B.returns
  have hg : ∀ w ∈ zG, w.before _ s = true := fun w h9 => atoms_spec (ws := zwX9_add) B.pre w (List.mem_cons_of_mem _ h9)
  have hown : s.vm.findClass RX9 = some m.cls := findClass_of_methodNamed B.named
  have hlocks := B.notSynchronized
  subst hsz
  have Z : zC p m c cX9_add 3 s _ zG RX9 D k L := ⟨⟨hx, hb, hml, hown, hg⟩, hK, hLn, hE⟩
  have h : zH D k Γ L s F s.heap [] := ⟨hP, hI, va_S.rf⟩
  have hl := lv_entry ([.ref th, .long co]) (n := 3) (Nat.le_of_ble_eq_true rfl)
  rw [lg_entry_eq]
  generalize (lg_sl ([.ref th, .long co]) ++ List.replicate (3 - (lg_sl ([.ref th, .long co])).length) Slot.unset).toArray = ls at hl ⊢
  have hl : lv_has ls 3 [(0, .ref th), (1, .long co)] := hl
  clear hP hK hLn hE hI
  generalize hargs : ([.ref th, .long co] : List Value).toArray = args at *
  refine z_start (fun R Q hRf hRl hQ => ?_)
  have hRf : R.frames = 1 := hRf
  have hRl : R.locals = 20 := hRl
  refine lv_aload_n hx hb dX9_add_0 rfl (lv_at hl 0 rfl) ?_
  refine zk_Vi (As := []) (rest := []) (bytes := cX9_isFull) (maxL := 1) (ret := (some .boolean)) Z h (zc_X9_isFull l D k Γ L F s.heap.size th hth) (cwV 0 hg zv_RX9_29 rfl rfl rfl zd_X9_isFull ⟨z_leR hRf (by decide), z_leR hRl (by decide)⟩) hth (by decide) rfl rfl hl.1 rfl (Nat.le_of_ble_eq_true rfl) dX9_add_1 ⟨Nat.zero_le _, Nat.zero_le _⟩ (fun r_1 F_2 H locs w_3 h hfF_2 => ?_)
  obtain ⟨rfl, br_1, q_4, -⟩ := w_3
  refine lv_if_eq (tgt := 9) hx hb dX9_add_4 (by decide) (fun c_5 => ?_) (fun c_5 => ?_)
  · obtain ⟨x_6, kx_6, bx_6⟩ := q_4 c_5
    have c_5 := z_eq c_5
    have br_1_7 : zB 0 0 r_1 := zB.eqL (a := 0) (b := 0) c_5 (zBc 0 0 (by decide))
    refine lv_aload_n hx hb dX9_add_9 rfl (lv_at hl 0 rfl) ?_
    refine zt_getr (t := 9) (C := RX9) (T := TX9) (N := 5) Z h hth zin_9 rfl 0 rfl ⟨by decide, rfl⟩ (zm_RX9 (List.mem_of_getElem? (i := 6) rfl)) (fun _ h9 => h9) dX9_add_10 (fun a_8 ka_8 ha_8 => ?_)
    refine lv_aload_n hx hb dX9_add_13 rfl (lv_at hl 0 rfl) ?_
    refine zt_getk (t := 9) (C := RX9) (T := TX9) (N := 5) Z h hth zin_9 rfl 4 kx_6 ⟨by decide, rfl, by decide⟩ (zm_RX9 (List.mem_of_getElem? (i := 2) rfl)) (fun _ h9 => h9) dX9_add_14 ?_
    refine lv_lload_n hx hb dX9_add_17 rfl (lv_at hl 1 rfl) ?_
    refine zt_last (t := 115) Z h ha_8 ⟨by decide, rfl⟩ bx_6 ⟨by decide, by decide⟩ dX9_add_18 (fun H locs F_9 h hfF_9 => ?_)
    refine lv_aload_n hx hb dX9_add_19 rfl (lv_at hl 0 rfl) ?_
    refine lv_dup hx hb dX9_add_20 rfl ?_
    refine zt_getk (t := 9) (C := RX9) (T := TX9) (N := 5) Z h hth zin_9 rfl 4 (hfF_9.f hth 4 ⟨by decide, by decide⟩ kx_6) ⟨by decide, rfl, by decide⟩ (zm_RX9 (List.mem_of_getElem? (i := 2) rfl)) (fun _ h9 => h9) dX9_add_21 ?_
    refine lv_iconst (v := 1) hx hb dX9_add_24 (by decide) ?_
    refine lv_iadd hx hb dX9_add_25 ?_
    refine zi_add (lo := 1) (hi := 12) bx_6 (zBc 1 1 (by decide)) (by decide) (fun x_10 bx_10 tx_10 => ?_)
    refine zt_put (t := 9) (C := RX9) (T := TX9) (N := 5) (v := .int x_10) Z h hth zin_9 tyX9 tyX9_ok nmX9 rfl 4 rfl ⟨by decide, rfl⟩ (zm_RX9 (List.mem_of_getElem? (i := 2) rfl)) (fun _ h9 => h9) rfl (zV.i (bx_10.w ⟨by decide, by decide⟩)) rfl rfl dX9_add_26 (fun H locs F_11 h hfF_11 kF_11 => ?_)
    refine lv_aload_n hx hb dX9_add_29 rfl (lv_at hl 0 rfl) ?_
    refine zt_getk (t := 9) (C := RX9) (T := TX9) (N := 5) Z h hth zin_9 rfl 4 kF_11 ⟨by decide, rfl, by decide⟩ (zm_RX9 (List.mem_of_getElem? (i := 2) rfl)) (fun _ h9 => h9) dX9_add_30 ?_
    refine lv_iconst (v := 1) hx hb dX9_add_33 (by decide) ?_
    refine lv_isub hx hb dX9_add_34 ?_
    refine zi_sub (lo := 0) (hi := 11) bx_10 (zBc 1 1 (by decide)) (by decide) (fun x_12 bx_12 tx_12 => ?_)
    subst hQ
    exact W.iret (v := x_12) hx hb hr (fun t ht hW => ⟨⟨x_12, F_11, rfl, ⟨(bx_12.w ⟨by decide, by decide⟩), trivial⟩, by rw [ht]; exact h.1, h.2.1, ((hfF_9.w (by decide)).trans hfF_11 (by decide))⟩, h.2.2.F ht⟩) h.2.2.2.2 dX9_add_35
  · have c_5 := z_ne c_5
    have br_1_13 : zB 1 1 r_1 := zB.neLo c_5 br_1 (zBc 0 0 (by decide)) (by decide)
    refine lv_iconst (v := (-1)) hx hb dX9_add_7 (by decide) ?_
    subst hQ
    exact W.iret (v := (-1)) hx hb hr (fun t ht hW => ⟨⟨(-1), F, rfl, ⟨(zB.of ⟨by decide, by decide⟩), trivial⟩, by rw [ht]; exact h.1, h.2.1, zFr.rf⟩, h.2.2.F ht⟩) h.2.2.2.2 dX9_add_8

set_option maxHeartbeats 4000000 in
set_option maxRecDepth 100000 in
theorem zc_X9_holds (l : Launch) (D : va_G) (k : Nat → ClassId) (Γ : Nat → Option Nat) (L : List Nat) (F : Nat → va_E) (sz : Nat) (th : Nat) (se : Int32) (q : Int32) (hth : Γ th = some 9) : Met l yX9_holds zwX9_holds ({ frames := 0, cells := 0, slots := 0, locals := 0 }) (va_Pc [.ref th, .int se, .int q] (zP D k Γ L F sz)) (va_Qi (fun (r : Int32) (u : Nat → va_E) => F = u ∧ zB 0 1 r ∧ True) (zQ D k Γ L F []) (zA L sz)) 0 0 (zA L sz) := by
  refine Met.ofW (cc := cX9_holds) (maxL := 3) (ret := (some .boolean)) (by decide) rfl ?_
  intro p e s m args below meth c s₁ B hml hv
  obtain ⟨rfl, hsz, hP, hK, hLn, hE, hI⟩ := hv
  have hx := B.exec
  have hb := B.bytes
  have hr := B.returns
  have hg : ∀ w ∈ zG, w.before _ s = true := fun w h9 => atoms_spec (ws := zwX9_holds) B.pre w (List.mem_cons_of_mem _ h9)
  have hown : s.vm.findClass RX9 = some m.cls := findClass_of_methodNamed B.named
  have hlocks := B.notSynchronized
  subst hsz
  have Z : zC p m c cX9_holds 3 s _ zG RX9 D k L := ⟨⟨hx, hb, hml, hown, hg⟩, hK, hLn, hE⟩
  have h : zH D k Γ L s F s.heap [] := ⟨hP, hI, va_S.rf⟩
  have hl := lv_entry ([.ref th, .int se, .int q]) (n := 3) (Nat.le_of_ble_eq_true rfl)
  rw [lg_entry_eq]
  generalize (lg_sl ([.ref th, .int se, .int q]) ++ List.replicate (3 - (lg_sl ([.ref th, .int se, .int q])).length) Slot.unset).toArray = ls at hl ⊢
  have hl : lv_has ls 3 [(0, .ref th), (1, .int se), (2, .int q)] := hl
  clear hP hK hLn hE hI
  generalize hargs : ([.ref th, .int se, .int q] : List Value).toArray = args at *
  refine z_start (fun R Q hRf hRl hQ => ?_)
  have hRf : R.frames = 0 := hRf
  have hRl : R.locals = 0 := hRl
  refine lv_iload_n hx hb dX9_holds_0 rfl (lv_at hl 1 rfl) ?_
  refine lv_aload_n hx hb dX9_holds_1 rfl (lv_at hl 0 rfl) ?_
  refine zt_geti (t := 9) (C := RX9) (T := TX9) (N := 5) Z h hth zin_9 rfl 4 rfl ⟨by decide, rfl⟩ (zm_RX9 (List.mem_of_getElem? (i := 2) rfl)) (fun _ h9 => h9) dX9_holds_2 (fun x_1 kx_1 bx_1 => ?_)
  refine lv_iconst (v := 1) hx hb dX9_holds_5 (by decide) ?_
  refine lv_isub hx hb dX9_holds_6 ?_
  refine zi_sub (lo := (-1)) (hi := 11) bx_1 (zBc 1 1 (by decide)) (by decide) (fun x_2 bx_2 tx_2 => ?_)
  refine lv_iload_n hx hb dX9_holds_7 rfl (lv_at hl 2 rfl) ?_
  refine lv_isub hx hb dX9_holds_8 ?_
  refine zi_any (fun x_3 bx_3 ex_3 => ?_)
  refine lv_ishr hx hb dX9_holds_9 ?_
  refine zi_any (fun x_4 bx_4 ex_4 => ?_)
  refine lv_iconst (v := 1) hx hb dX9_holds_10 (by decide) ?_
  refine lv_iand hx hb dX9_holds_11 ?_
  refine zi_and ((zBc 1 1 (by decide)).w ⟨by decide, by decide⟩ : zB 0 1 _) (fun x_5 bx_5 ex_5 => ?_)
  refine lv_if_eq (tgt := 19) hx hb dX9_holds_12 (by decide) (fun c_6 => ?_) (fun c_6 => ?_)
  · have c_6 := z_eq c_6
    have bx_5_7 : zB 0 0 x_5 := zB.eqL (a := 0) (b := 0) c_6 (zBc 0 0 (by decide))
    refine lv_iconst (v := 0) hx hb dX9_holds_19 (by decide) ?_
    subst hQ
    exact W.zret (v := 0) hx hb hr (by decide) (fun t ht hW => ⟨⟨0, F, rfl, ⟨rfl, (zB.of ⟨by decide, by decide⟩), trivial⟩, by rw [ht]; exact h.1, h.2.1, zFr.rf⟩, h.2.2.F ht⟩) h.2.2.2.2 dX9_holds_20
  · have c_6 := z_ne c_6
    have bx_5_8 : zB 1 1 x_5 := zB.neLo c_6 bx_5 (zBc 0 0 (by decide)) (by decide)
    refine lv_iconst (v := 1) hx hb dX9_holds_15 (by decide) ?_
    refine lv_goto (tgt := 20) hx hb dX9_holds_16 (by decide) ?_
    subst hQ
    exact W.zret (v := 1) hx hb hr (by decide) (fun t ht hW => ⟨⟨1, F, rfl, ⟨rfl, (zB.of ⟨by decide, by decide⟩), trivial⟩, by rw [ht]; exact h.1, h.2.1, zFr.rf⟩, h.2.2.F ht⟩) h.2.2.2.2 dX9_holds_20

set_option maxHeartbeats 4000000 in
set_option maxRecDepth 100000 in
theorem zc_X9_linesOf (l : Launch) (D : va_G) (k : Nat → ClassId) (Γ : Nat → Option Nat) (L : List Nat) (F : Nat → va_E) (sz : Nat) (th : Nat) (se : Int32) (hth : Γ th = some 9) : Met l yX9_linesOf zwX9_linesOf ({ frames := 1, cells := 0, slots := 0, locals := 22 }) (va_Pc [.ref th, .int se] (zP D k Γ L F sz)) (va_Ql (fun (r : Int64) (u : Nat → va_E) => F = u ∧ True) (zQ D k Γ L F []) (zA L sz)) 0 0 (zA L sz) := by
  refine Met.ofW (cc := cX9_linesOf) (maxL := 5) (ret := (some .long)) (by decide) rfl ?_
  intro p e s m args below meth c s₁ B hml hv
  obtain ⟨rfl, hsz, hP, hK, hLn, hE, hI⟩ := hv
  have hx := B.exec
  have hb := B.bytes
  have hr := B.returns
  have hg : ∀ w ∈ zG, w.before _ s = true := fun w h9 => atoms_spec (ws := zwX9_linesOf) B.pre w (List.mem_cons_of_mem _ h9)
  have hown : s.vm.findClass RX9 = some m.cls := findClass_of_methodNamed B.named
  have hlocks := B.notSynchronized
  subst hsz
  have Z : zC p m c cX9_linesOf 5 s _ zG RX9 D k L := ⟨⟨hx, hb, hml, hown, hg⟩, hK, hLn, hE⟩
  have h : zH D k Γ L s F s.heap [] := ⟨hP, hI, va_S.rf⟩
  have hl := lv_entry ([.ref th, .int se]) (n := 5) (Nat.le_of_ble_eq_true rfl)
  rw [lg_entry_eq]
  generalize (lg_sl ([.ref th, .int se]) ++ List.replicate (5 - (lg_sl ([.ref th, .int se])).length) Slot.unset).toArray = ls at hl ⊢
  have hl : lv_has ls 5 [(0, .ref th), (1, .int se)] := hl
  clear hP hK hLn hE hI
  generalize hargs : ([.ref th, .int se] : List Value).toArray = args at *
  refine z_start (fun R Q hRf hRl hQ => ?_)
  have hRf : R.frames = 1 := hRf
  have hRl : R.locals = 22 := hRl
  refine lv_lconst (v := 0) hx hb dX9_linesOf_0 (by decide) ?_
  refine lv_lstore_n (lv' := [(2, .long 0), (0, .ref th), (1, .int se)]) hx hb dX9_linesOf_1 rfl hl (by decide) rfl (fun ls hl => ?_)
  refine lv_iconst (v := 0) hx hb dX9_linesOf_2 (by decide) ?_
  refine lv_istore (lv' := [(4, .int 0), (2, .long 0), (0, .ref th), (1, .int se)]) hx hb dX9_linesOf_3 hl (by decide) rfl (fun ls hl => ?_)
  have j_j5_1 : ∀ (n : Nat) (ls : Array Slot) (y4_j5_1 : Int32) (y2_j5_1 : Int64) (H : Heap) (locs : List Loc), lv_has ls 5 [(4, .int y4_j5_1), (2, .long y2_j5_1), (0, .ref th), (1, .int se)] → zB 0 12 y4_j5_1 → zH D k Γ L s F H locs → (2147483647 - y4_j5_1.toInt).toNat = n → W p l e R s m args below meth c H locs 0 0 Q (F0 m 5 ls []) := by
    intro n
    induction n using Nat.strongRecOn with
    | _ n ih_j5_1 =>
      intro ls y4_j5_1 y2_j5_1 H locs hl by4_j5_1 h hn_j5_1
      refine lv_iload hx hb dX9_linesOf_5 (lv_at hl 0 rfl) ?_
      refine lv_aload_n hx hb dX9_linesOf_7 rfl (lv_at hl 2 rfl) ?_
      refine zt_geti (t := 9) (C := RX9) (T := TX9) (N := 5) Z h hth zin_9 rfl 4 rfl ⟨by decide, rfl⟩ (zm_RX9 (List.mem_of_getElem? (i := 2) rfl)) (fun _ h9 => h9) dX9_linesOf_8 (fun x_2 kx_2 bx_2 => ?_)
      refine lv_icmp_ge (tgt := 50) hx hb dX9_linesOf_11 (by decide) (fun c_3 => ?_) (fun c_3 => ?_)
      · have c_3 := z_le c_3
        refine lv_lload_n hx hb dX9_linesOf_50 rfl (lv_at hl 1 rfl) ?_
        subst hQ
        exact W.lret (v := y2_j5_1) hx hb hr (fun t ht hW => ⟨⟨y2_j5_1, F, rfl, ⟨rfl, trivial⟩, by rw [ht]; exact h.1, h.2.1, zFr.rf⟩, h.2.2.F ht⟩) h.2.2.2.2 dX9_linesOf_51
      · have c_3 := z_nle c_3
        have by4_j5_1_4 : zB 0 11 y4_j5_1 := zB.ltL c_3 by4_j5_1 bx_2 (by decide)
        have bx_2_5 : zB 1 12 x_2 := zB.ltR c_3 by4_j5_1 bx_2 (by decide)
        refine lv_iload hx hb dX9_linesOf_14 (lv_at hl 0 rfl) ?_
        refine lv_aload_n hx hb dX9_linesOf_16 rfl (lv_at hl 2 rfl) ?_
        refine zt_getr (t := 9) (C := RX9) (T := TX9) (N := 5) Z h hth zin_9 rfl 0 rfl ⟨by decide, rfl⟩ (zm_RX9 (List.mem_of_getElem? (i := 6) rfl)) (fun _ h9 => h9) dX9_linesOf_17 (fun a_6 ka_6 ha_6 => ?_)
        refine zt_alen (t := 115) Z h ha_6 ⟨by decide, rfl⟩ (by decide) (v := 12) rfl dX9_linesOf_20 ?_
        refine lv_icmp_ge (tgt := 50) hx hb dX9_linesOf_21 (by decide) (fun c_7 => ?_) (fun c_7 => ?_)
        · have c_7 := z_le c_7
          exact zB.noLe c_7 (zBc 12 12 (by decide)) by4_j5_1_4 (by decide)
        · have c_7 := z_nle c_7
          refine lv_aload_n hx hb dX9_linesOf_24 rfl (lv_at hl 2 rfl) ?_
          refine lv_iload_n hx hb dX9_linesOf_25 rfl (lv_at hl 3 rfl) ?_
          refine lv_iload hx hb dX9_linesOf_26 (lv_at hl 0 rfl) ?_
          refine zk_Vi (As := [.int se, .int y4_j5_1]) (rest := []) (bytes := cX9_holds) (maxL := 3) (ret := (some .boolean)) Z h (zc_X9_holds l D k Γ L F H.size th se y4_j5_1 hth) (cwV 2 hg zv_RX9_51 rfl rfl rfl zd_X9_holds ⟨z_leR hRf (by decide), z_leR hRl (by decide)⟩) hth (by decide) rfl rfl hl.1 rfl (Nat.le_of_ble_eq_true rfl) dX9_linesOf_28 ⟨Nat.zero_le _, Nat.zero_le _⟩ (fun r_8 F_9 H locs w_10 h hfF_9 => ?_)
          obtain ⟨rfl, br_8, -⟩ := w_10
          refine lv_if_eq (tgt := 44) hx hb dX9_linesOf_31 (by decide) (fun c_11 => ?_) (fun c_11 => ?_)
          · have c_11 := z_eq c_11
            have br_8_12 : zB 0 0 r_8 := zB.eqL (a := 0) (b := 0) c_11 (zBc 0 0 (by decide))
            obtain ⟨x_13, ex_13, bx_13, tx_13⟩ := z_inc (n := 1) (lo := 1) (hi := 12) by4_j5_1_4 (by decide)
            refine lv_iinc (v := x_13) (lv' := [(4, .int x_13), (2, .long y2_j5_1), (0, .ref th), (1, .int se)]) hx hb dX9_linesOf_44 hl (k := 0) rfl ex_13 (by decide) rfl (fun ls hl => ?_)
            refine lv_goto (tgt := 5) hx hb dX9_linesOf_47 (by decide) ?_
            exact ih_j5_1 _ (by have := bx_13.1; have := bx_13.2; have := (zB.all se).1; have := (zB.all se).2; have := bx_2_5.1; have := bx_2_5.2; have : (0 : Int32).toInt = 0 := (by decide); have : (12 : Int32).toInt = 12 := (by decide); have := by4_j5_1.1; have := by4_j5_1.2; omega) ls x_13 y2_j5_1 H locs (lv_sub hl [0, 1, 2, 3] rfl) (bx_13.w ⟨by decide, by decide⟩) h rfl
          · have c_11 := z_ne c_11
            have br_8_14 : zB 1 1 r_8 := zB.neLo c_11 br_8 (zBc 0 0 (by decide)) (by decide)
            refine lv_lload_n hx hb dX9_linesOf_34 rfl (lv_at hl 1 rfl) ?_
            refine lv_aload_n hx hb dX9_linesOf_35 rfl (lv_at hl 2 rfl) ?_
            refine zt_getk (t := 9) (C := RX9) (T := TX9) (N := 5) Z h hth zin_9 rfl 0 ka_6 ⟨by decide, rfl, by decide⟩ (zm_RX9 (List.mem_of_getElem? (i := 6) rfl)) (fun _ h9 => h9) dX9_linesOf_36 ?_
            refine lv_iload hx hb dX9_linesOf_39 (lv_at hl 0 rfl) ?_
            refine zt_lald (t := 115) Z h ha_6 ⟨by decide, rfl⟩ by4_j5_1_4 ⟨by decide, by decide⟩ dX9_linesOf_41 (fun g_15 => ?_)
            refine lv_lor hx hb dX9_linesOf_42 ?_
            refine lv_topl (fun g_16 _ => ?_)
            refine lv_lstore_n (lv' := [(2, .long g_16), (4, .int y4_j5_1), (0, .ref th), (1, .int se)]) hx hb dX9_linesOf_43 rfl hl (by decide) rfl (fun ls hl => ?_)
            obtain ⟨x_17, ex_17, bx_17, tx_17⟩ := z_inc (n := 1) (lo := 1) (hi := 12) by4_j5_1_4 (by decide)
            refine lv_iinc (v := x_17) (lv' := [(4, .int x_17), (2, .long g_16), (0, .ref th), (1, .int se)]) hx hb dX9_linesOf_44 hl (k := 1) rfl ex_17 (by decide) rfl (fun ls hl => ?_)
            refine lv_goto (tgt := 5) hx hb dX9_linesOf_47 (by decide) ?_
            exact ih_j5_1 _ (by have := bx_17.1; have := bx_17.2; have := (zB.all se).1; have := (zB.all se).2; have := bx_2_5.1; have := bx_2_5.2; have : (0 : Int32).toInt = 0 := (by decide); have : (12 : Int32).toInt = 12 := (by decide); have := by4_j5_1.1; have := by4_j5_1.2; omega) ls x_17 g_16 H locs (lv_sub hl [0, 1, 2, 3] rfl) (bx_17.w ⟨by decide, by decide⟩) h rfl
  exact j_j5_1 _ ls 0 0 s.heap [] (lv_sub hl [0, 1, 2, 3] rfl) (zB.of ⟨by decide, by decide⟩) h rfl

set_option maxHeartbeats 4000000 in
set_option maxRecDepth 100000 in
theorem zc_X9_shownLines (l : Launch) (D : va_G) (k : Nat → ClassId) (Γ : Nat → Option Nat) (L : List Nat) (F : Nat → va_E) (sz : Nat) (th : Nat) (hth : Γ th = some 9) : Met l yX9_shownLines zwX9_shownLines ({ frames := 2, cells := 0, slots := 0, locals := 46 }) (va_Pc [.ref th] (zP D k Γ L F sz)) (va_Ql (fun (r : Int64) (u : Nat → va_E) => F = u ∧ True) (zQ D k Γ L F []) (zA L sz)) 0 0 (zA L sz) := by
  refine Met.ofW (cc := cX9_shownLines) (maxL := 1) (ret := (some .long)) (by decide) rfl ?_
  intro p e s m args below meth c s₁ B hml hv
  obtain ⟨rfl, hsz, hP, hK, hLn, hE, hI⟩ := hv
  have hx := B.exec
  have hb := B.bytes
  have hr := B.returns
  have hg : ∀ w ∈ zG, w.before _ s = true := fun w h9 => atoms_spec (ws := zwX9_shownLines) B.pre w (List.mem_cons_of_mem _ h9)
  have hown : s.vm.findClass RX9 = some m.cls := findClass_of_methodNamed B.named
  have hlocks := B.notSynchronized
  subst hsz
  have Z : zC p m c cX9_shownLines 1 s _ zG RX9 D k L := ⟨⟨hx, hb, hml, hown, hg⟩, hK, hLn, hE⟩
  have h : zH D k Γ L s F s.heap [] := ⟨hP, hI, va_S.rf⟩
  have hl := lv_entry ([.ref th]) (n := 1) (Nat.le_of_ble_eq_true rfl)
  rw [lg_entry_eq]
  generalize (lg_sl ([.ref th]) ++ List.replicate (1 - (lg_sl ([.ref th])).length) Slot.unset).toArray = ls at hl ⊢
  have hl : lv_has ls 1 [(0, .ref th)] := hl
  clear hP hK hLn hE hI
  generalize hargs : ([.ref th] : List Value).toArray = args at *
  refine z_start (fun R Q hRf hRl hQ => ?_)
  have hRf : R.frames = 2 := hRf
  have hRl : R.locals = 46 := hRl
  refine lv_aload_n hx hb dX9_shownLines_0 rfl (lv_at hl 0 rfl) ?_
  refine lv_iconst (v := 1) hx hb dX9_shownLines_1 (by decide) ?_
  refine lv_aload_n hx hb dX9_shownLines_2 rfl (lv_at hl 0 rfl) ?_
  refine zt_geti (t := 9) (C := RX9) (T := TX9) (N := 5) Z h hth zin_9 rfl 4 rfl ⟨by decide, rfl⟩ (zm_RX9 (List.mem_of_getElem? (i := 2) rfl)) (fun _ h9 => h9) dX9_shownLines_3 (fun x_1 kx_1 bx_1 => ?_)
  refine lv_ishl hx hb dX9_shownLines_6 ?_
  refine zi_shl1 (n := 12) (hi := 4096) bx_1 (by decide) rfl (fun x_2 bx_2 => ?_)
  refine lv_iconst (v := 1) hx hb dX9_shownLines_7 (by decide) ?_
  refine lv_isub hx hb dX9_shownLines_8 ?_
  refine zi_sub (lo := 0) (hi := 4095) bx_2 (zBc 1 1 (by decide)) (by decide) (fun x_3 bx_3 tx_3 => ?_)
  refine zk_Vl (As := [.int x_3]) (rest := []) (bytes := cX9_linesOf) (maxL := 5) (ret := (some .long)) Z h (zc_X9_linesOf l D k Γ L F s.heap.size th x_3 hth) (cwV 1 hg zv_RX9_33 rfl rfl rfl zd_X9_linesOf ⟨z_leR hRf (by decide), z_leR hRl (by decide)⟩) hth (by decide) rfl rfl hl.1 rfl (Nat.le_of_ble_eq_true rfl) dX9_shownLines_9 ⟨Nat.zero_le _, Nat.zero_le _⟩ (fun r_4 F_5 H locs w_6 h hfF_5 => ?_)
  obtain ⟨rfl, -⟩ := w_6
  subst hQ
  exact W.lret (v := r_4) hx hb hr (fun t ht hW => ⟨⟨r_4, F, rfl, ⟨rfl, trivial⟩, by rw [ht]; exact h.1, h.2.1, zFr.rf⟩, h.2.2.F ht⟩) h.2.2.2.2 dX9_shownLines_12

set_option maxHeartbeats 4000000 in
set_option maxRecDepth 100000 in
theorem zc_X9_fewestSet (l : Launch) (D : va_G) (k : Nat → ClassId) (Γ : Nat → Option Nat) (L : List Nat) (F : Nat → va_E) (sz : Nat) (th : Nat) (hth : Γ th = some 9) : Met l yX9_fewestSet zwX9_fewestSet ({ frames := 2, cells := 0, slots := 0, locals := 46 }) (va_Pc [.ref th] (zP D k Γ L F sz)) (va_Qi (fun (r : Int32) (u : Nat → va_E) => F = u ∧ True) (zQ D k Γ L F []) (zA L sz)) 0 0 (zA L sz) := by
  refine Met.ofW (cc := cX9_fewestSet) (maxL := 5) (ret := (some .int)) (by decide) rfl ?_
  intro p e s m args below meth c s₁ B hml hv
  obtain ⟨rfl, hsz, hP, hK, hLn, hE, hI⟩ := hv
  have hx := B.exec
  have hb := B.bytes
  have hr := B.returns
  have hg : ∀ w ∈ zG, w.before _ s = true := fun w h9 => atoms_spec (ws := zwX9_fewestSet) B.pre w (List.mem_cons_of_mem _ h9)
  have hown : s.vm.findClass RX9 = some m.cls := findClass_of_methodNamed B.named
  have hlocks := B.notSynchronized
  subst hsz
  have Z : zC p m c cX9_fewestSet 5 s _ zG RX9 D k L := ⟨⟨hx, hb, hml, hown, hg⟩, hK, hLn, hE⟩
  have h : zH D k Γ L s F s.heap [] := ⟨hP, hI, va_S.rf⟩
  have hl := lv_entry ([.ref th]) (n := 5) (Nat.le_of_ble_eq_true rfl)
  rw [lg_entry_eq]
  generalize (lg_sl ([.ref th]) ++ List.replicate (5 - (lg_sl ([.ref th])).length) Slot.unset).toArray = ls at hl ⊢
  have hl : lv_has ls 5 [(0, .ref th)] := hl
  clear hP hK hLn hE hI
  generalize hargs : ([.ref th] : List Value).toArray = args at *
  refine z_start (fun R Q hRf hRl hQ => ?_)
  have hRf : R.frames = 2 := hRf
  have hRl : R.locals = 46 := hRl
  refine lv_iconst (v := 1) hx hb dX9_fewestSet_0 (by decide) ?_
  refine lv_aload_n hx hb dX9_fewestSet_1 rfl (lv_at hl 0 rfl) ?_
  refine zt_geti (t := 9) (C := RX9) (T := TX9) (N := 5) Z h hth zin_9 rfl 4 rfl ⟨by decide, rfl⟩ (zm_RX9 (List.mem_of_getElem? (i := 2) rfl)) (fun _ h9 => h9) dX9_fewestSet_2 (fun x_1 kx_1 bx_1 => ?_)
  refine lv_ishl hx hb dX9_fewestSet_5 ?_
  refine zi_shl1 (n := 12) (hi := 4096) bx_1 (by decide) rfl (fun x_2 bx_2 => ?_)
  refine lv_iconst (v := 1) hx hb dX9_fewestSet_6 (by decide) ?_
  refine lv_isub hx hb dX9_fewestSet_7 ?_
  refine zi_sub (lo := 0) (hi := 4095) bx_2 (zBc 1 1 (by decide)) (by decide) (fun x_3 bx_3 tx_3 => ?_)
  refine lv_istore_n (lv' := [(1, .int x_3), (0, .ref th)]) hx hb dX9_fewestSet_8 rfl hl (by decide) rfl (fun ls hl => ?_)
  refine lv_aload_n hx hb dX9_fewestSet_9 rfl (lv_at hl 1 rfl) ?_
  refine lv_iload_n hx hb dX9_fewestSet_10 rfl (lv_at hl 0 rfl) ?_
  refine zk_Vl (As := [.int x_3]) (rest := []) (bytes := cX9_linesOf) (maxL := 5) (ret := (some .long)) Z h (zc_X9_linesOf l D k Γ L F s.heap.size th x_3 hth) (cwV 1 hg zv_RX9_33 rfl rfl rfl zd_X9_linesOf ⟨z_leR hRf (by decide), z_leR hRl (by decide)⟩) hth (by decide) rfl rfl hl.1 rfl (Nat.le_of_ble_eq_true rfl) dX9_fewestSet_11 ⟨Nat.zero_le _, Nat.zero_le _⟩ (fun r_4 F_5 H locs w_6 h hfF_5 => ?_)
  obtain ⟨rfl, -⟩ := w_6
  refine lv_lstore_n (lv' := [(2, .long r_4), (1, .int x_3), (0, .ref th)]) hx hb dX9_fewestSet_14 rfl hl (by decide) rfl (fun ls hl => ?_)
  refine lv_iload_n hx hb dX9_fewestSet_15 rfl (lv_at hl 1 rfl) ?_
  refine lv_iconst (v := 1) hx hb dX9_fewestSet_16 (by decide) ?_
  refine lv_isub hx hb dX9_fewestSet_17 ?_
  refine zi_sub (lo := (-1)) (hi := 4094) bx_3 (zBc 1 1 (by decide)) (by decide) (fun x_7 bx_7 tx_7 => ?_)
  refine lv_istore (lv' := [(4, .int x_7), (2, .long r_4), (1, .int x_3), (0, .ref th)]) hx hb dX9_fewestSet_18 hl (by decide) rfl (fun ls hl => ?_)
  have j_j20_8 : ∀ (n : Nat) (ls : Array Slot) (y4_j20_8 : Int32) (y1_j20_8 : Int32) (H : Heap) (locs : List Loc), lv_has ls 5 [(4, .int y4_j20_8), (2, .long r_4), (1, .int y1_j20_8), (0, .ref th)] → zB (-1) 4094 y4_j20_8 → zB 0 4095 y1_j20_8 → zH D k Γ L s F H locs → (y4_j20_8.toInt + 2147483648).toNat = n → W p l e R s m args below meth c H locs 0 0 Q (F0 m 20 ls []) := by
    intro n
    induction n using Nat.strongRecOn with
    | _ n ih_j20_8 =>
      intro ls y4_j20_8 y1_j20_8 H locs hl by4_j20_8 by1_j20_8 h hn_j20_8
      refine lv_iload hx hb dX9_fewestSet_20 (lv_at hl 0 rfl) ?_
      refine lv_if_lt (tgt := 57) hx hb dX9_fewestSet_22 (by decide) (fun c_9 => ?_) (fun c_9 => ?_)
      · have c_9 := z_lt c_9
        have by4_j20_8_10 : zB (-1) (-1) y4_j20_8 := zB.ltL c_9 by4_j20_8 (zBc 0 0 (by decide)) (by decide)
        refine lv_iload_n hx hb dX9_fewestSet_57 rfl (lv_at hl 2 rfl) ?_
        subst hQ
        exact W.iret (v := y1_j20_8) hx hb hr (fun t ht hW => ⟨⟨y1_j20_8, F, rfl, ⟨rfl, trivial⟩, by rw [ht]; exact h.1, h.2.1, zFr.rf⟩, h.2.2.F ht⟩) h.2.2.2.2 dX9_fewestSet_58
      · have c_9 := z_nlt c_9
        have by4_j20_8_11 : zB 0 4094 y4_j20_8 := zB.leR c_9 (zBc 0 0 (by decide)) by4_j20_8 (by decide)
        refine lv_iload hx hb dX9_fewestSet_25 (lv_at hl 0 rfl) ?_
        refine zk_Si (As := [.int y4_j20_8]) (rest := []) (bytes := cJ6_bitCount_0f7a4) (maxL := 1) (ret := (some .int)) Z h (zc_J6_bitCount_0f7a4 l D k Γ L F H.size y4_j20_8) (va_cwS 1 hg zv_RX9_45 rfl rfl rfl zd_J6_bitCount_0f7a4 ⟨z_leR hRf (by decide), z_leR hRl (by decide)⟩) rfl hl.1 rfl (Nat.le_of_ble_eq_true rfl) dX9_fewestSet_27 ⟨Nat.zero_le _, Nat.zero_le _⟩ (fun r_12 F_13 H locs w_14 h hfF_13 => ?_)
        obtain ⟨rfl, br_12, -⟩ := w_14
        refine lv_iload_n hx hb dX9_fewestSet_30 rfl (lv_at hl 2 rfl) ?_
        refine zk_Si (As := [.int y1_j20_8]) (rest := [.int r_12]) (bytes := cJ6_bitCount_0f7a4) (maxL := 1) (ret := (some .int)) Z h (zc_J6_bitCount_0f7a4 l D k Γ L F H.size y1_j20_8) (va_cwS 1 hg zv_RX9_45 rfl rfl rfl zd_J6_bitCount_0f7a4 ⟨z_leR hRf (by decide), z_leR hRl (by decide)⟩) rfl hl.1 rfl (Nat.le_of_ble_eq_true rfl) dX9_fewestSet_31 ⟨Nat.zero_le _, Nat.zero_le _⟩ (fun r_15 F_16 H locs w_17 h hfF_16 => ?_)
        obtain ⟨rfl, br_15, -⟩ := w_17
        refine lv_icmp_ge (tgt := 51) hx hb dX9_fewestSet_34 (by decide) (fun c_18 => ?_) (fun c_18 => ?_)
        · have c_18 := z_le c_18
          obtain ⟨x_19, ex_19, bx_19, tx_19⟩ := z_inc (n := (-1)) (lo := (-1)) (hi := 4093) by4_j20_8_11 (by decide)
          refine lv_iinc (v := x_19) (lv' := [(4, .int x_19), (2, .long r_4), (1, .int y1_j20_8), (0, .ref th)]) hx hb dX9_fewestSet_51 hl (k := 0) rfl ex_19 (by decide) rfl (fun ls hl => ?_)
          refine lv_goto (tgt := 20) hx hb dX9_fewestSet_54 (by decide) ?_
          exact ih_j20_8 _ (by have := bx_19.1; have := bx_19.2; have := by1_j20_8.1; have := by1_j20_8.2; have := bx_1.1; have := bx_1.2; have : (0 : Int32).toInt = 0 := (by decide); have : (1 : Int32).toInt = 1 := (by decide); have := by4_j20_8.1; have := by4_j20_8.2; have := by1_j20_8.1; have := by1_j20_8.2; omega) ls x_19 y1_j20_8 H locs (lv_sub hl [0, 1, 2, 3] rfl) (bx_19.w ⟨by decide, by decide⟩) by1_j20_8 h rfl
        · have c_18 := z_nle c_18
          have br_12_20 : zB 0 62 r_12 := zB.ltL c_18 br_12 br_15 (by decide)
          have br_15_21 : zB 1 63 r_15 := zB.ltR c_18 br_12 br_15 (by decide)
          refine lv_aload_n hx hb dX9_fewestSet_37 rfl (lv_at hl 3 rfl) ?_
          refine lv_iload hx hb dX9_fewestSet_38 (lv_at hl 0 rfl) ?_
          refine zk_Vl (As := [.int y4_j20_8]) (rest := []) (bytes := cX9_linesOf) (maxL := 5) (ret := (some .long)) Z h (zc_X9_linesOf l D k Γ L F H.size th y4_j20_8 hth) (cwV 1 hg zv_RX9_33 rfl rfl rfl zd_X9_linesOf ⟨z_leR hRf (by decide), z_leR hRl (by decide)⟩) hth (by decide) rfl rfl hl.1 rfl (Nat.le_of_ble_eq_true rfl) dX9_fewestSet_40 ⟨Nat.zero_le _, Nat.zero_le _⟩ (fun r_22 F_23 H locs w_24 h hfF_23 => ?_)
          obtain ⟨rfl, -⟩ := w_24
          refine lv_lload_n hx hb dX9_fewestSet_43 rfl (lv_at hl 1 rfl) ?_
          refine W.lcmp hx hb dX9_fewestSet_44 ?_
          refine zi_any (fun x_25 bx_25 ex_25 => ?_)
          refine lv_if_ne (tgt := 51) hx hb dX9_fewestSet_45 (by decide) (fun c_26 => ?_) (fun c_26 => ?_)
          · have c_26 := z_ne c_26
            obtain ⟨x_27, ex_27, bx_27, tx_27⟩ := z_inc (n := (-1)) (lo := (-1)) (hi := 4093) by4_j20_8_11 (by decide)
            refine lv_iinc (v := x_27) (lv' := [(4, .int x_27), (2, .long r_4), (1, .int y1_j20_8), (0, .ref th)]) hx hb dX9_fewestSet_51 hl (k := 0) rfl ex_27 (by decide) rfl (fun ls hl => ?_)
            refine lv_goto (tgt := 20) hx hb dX9_fewestSet_54 (by decide) ?_
            exact ih_j20_8 _ (by have := bx_27.1; have := bx_27.2; have := by1_j20_8.1; have := by1_j20_8.2; have := bx_1.1; have := bx_1.2; have : (0 : Int32).toInt = 0 := (by decide); have : (1 : Int32).toInt = 1 := (by decide); have := by4_j20_8.1; have := by4_j20_8.2; have := by1_j20_8.1; have := by1_j20_8.2; omega) ls x_27 y1_j20_8 H locs (lv_sub hl [0, 1, 2, 3] rfl) (bx_27.w ⟨by decide, by decide⟩) by1_j20_8 h rfl
          · have c_26 := z_eq c_26
            have bx_25_28 : zB 0 0 x_25 := zB.eqL (a := 0) (b := 0) c_26 (zBc 0 0 (by decide))
            refine lv_iload hx hb dX9_fewestSet_48 (lv_at hl 0 rfl) ?_
            refine lv_istore_n (lv' := [(1, .int y4_j20_8), (4, .int y4_j20_8), (2, .long r_4), (0, .ref th)]) hx hb dX9_fewestSet_50 rfl hl (by decide) rfl (fun ls hl => ?_)
            obtain ⟨x_29, ex_29, bx_29, tx_29⟩ := z_inc (n := (-1)) (lo := (-1)) (hi := 4093) by4_j20_8_11 (by decide)
            refine lv_iinc (v := x_29) (lv' := [(4, .int x_29), (1, .int y4_j20_8), (2, .long r_4), (0, .ref th)]) hx hb dX9_fewestSet_51 hl (k := 1) rfl ex_29 (by decide) rfl (fun ls hl => ?_)
            refine lv_goto (tgt := 20) hx hb dX9_fewestSet_54 (by decide) ?_
            exact ih_j20_8 _ (by have := bx_29.1; have := bx_29.2; have := by4_j20_8_11.1; have := by4_j20_8_11.2; have := bx_1.1; have := bx_1.2; have : (0 : Int32).toInt = 0 := (by decide); have : (1 : Int32).toInt = 1 := (by decide); have := by4_j20_8.1; have := by4_j20_8.2; have := by1_j20_8.1; have := by1_j20_8.2; omega) ls x_29 y4_j20_8 H locs (lv_sub hl [0, 2, 1, 3] rfl) (bx_29.w ⟨by decide, by decide⟩) (by4_j20_8_11.w ⟨by decide, by decide⟩) h rfl
  exact j_j20_8 _ ls x_7 x_3 H locs (lv_sub hl [0, 1, 2, 3] rfl) bx_7 bx_3 h rfl

set_option maxHeartbeats 4000000 in
set_option maxRecDepth 100000 in
theorem zc_X9_choose (l : Launch) (D : va_G) (k : Nat → ClassId) (Γ : Nat → Option Nat) (L : List Nat) (F : Nat → va_E) (sz : Nat) (th : Nat) (se : Int32) (hth : Γ th = some 9) : Met l yX9_choose zwX9_choose ({ frames := 1, cells := 0, slots := 0, locals := 22 }) (va_Pc [.ref th, .int se] (zP D k Γ L F sz)) (va_Qv (fun (u : Nat → va_E) => True) (zQ D k Γ L F [902, 11600]) (zA L sz)) 0 0 (zA L sz) := by
  refine Met.ofW (cc := cX9_choose) (maxL := 3) (ret := none) (by decide) rfl ?_
  intro p e s m args below meth c s₁ B hml hv
  obtain ⟨rfl, hsz, hP, hK, hLn, hE, hI⟩ := hv
  have hx := B.exec
  have hb := B.bytes
  have hr := B.returns
  have hg : ∀ w ∈ zG, w.before _ s = true := fun w h9 => atoms_spec (ws := zwX9_choose) B.pre w (List.mem_cons_of_mem _ h9)
  have hown : s.vm.findClass RX9 = some m.cls := findClass_of_methodNamed B.named
  have hlocks := B.notSynchronized
  subst hsz
  have Z : zC p m c cX9_choose 3 s _ zG RX9 D k L := ⟨⟨hx, hb, hml, hown, hg⟩, hK, hLn, hE⟩
  have h : zH D k Γ L s F s.heap [] := ⟨hP, hI, va_S.rf⟩
  have hl := lv_entry ([.ref th, .int se]) (n := 3) (Nat.le_of_ble_eq_true rfl)
  rw [lg_entry_eq]
  generalize (lg_sl ([.ref th, .int se]) ++ List.replicate (3 - (lg_sl ([.ref th, .int se])).length) Slot.unset).toArray = ls at hl ⊢
  have hl : lv_has ls 3 [(0, .ref th), (1, .int se)] := hl
  clear hP hK hLn hE hI
  generalize hargs : ([.ref th, .int se] : List Value).toArray = args at *
  refine z_start (fun R Q hRf hRl hQ => ?_)
  have hRf : R.frames = 1 := hRf
  have hRl : R.locals = 22 := hRl
  refine lv_aload_n hx hb dX9_choose_0 rfl (lv_at hl 0 rfl) ?_
  refine lv_iconst (v := 0) hx hb dX9_choose_1 (by decide) ?_
  refine zt_put (t := 9) (C := RX9) (T := TX9) (N := 5) (v := .int 0) Z h hth zin_9 tyX9 tyX9_ok nmX9 rfl 2 rfl ⟨by decide, rfl⟩ (zm_RX9 (List.mem_of_getElem? (i := 3) rfl)) (fun _ h9 => h9) rfl (zV.i (zB.of ⟨by decide, by decide⟩)) rfl rfl dX9_choose_2 (fun H locs F_1 h hfF_1 kF_1 => ?_)
  refine lv_iconst (v := 0) hx hb dX9_choose_5 (by decide) ?_
  refine lv_istore_n (lv' := [(2, .int 0), (0, .ref th), (1, .int se)]) hx hb dX9_choose_6 rfl hl (by decide) rfl (fun ls hl => ?_)
  have j_j7_2 : ∀ (n : Nat) (ls : Array Slot) (y2_j7_2 : Int32) (kc_j7_2 : Int32) (F_3 : Nat → va_E) (H : Heap) (locs : List Loc), lv_has ls 3 [(2, .int y2_j7_2), (0, .ref th), (1, .int se)] → zB 0 12 y2_j7_2 → zH D k Γ L s F_3 H locs → zFr Γ [902, 11600] F_1 F_3 → zfld F_3 th 2 = .int kc_j7_2 → zB 0 12 kc_j7_2 → (kc_j7_2.toInt ≤ y2_j7_2.toInt) → (2147483647 - y2_j7_2.toInt).toNat = n → W p l e R s m args below meth c H locs 0 0 Q (F0 m 7 ls []) := by
    intro n
    induction n using Nat.strongRecOn with
    | _ n ih_j7_2 =>
      intro ls y2_j7_2 kc_j7_2 F_3 H locs hl by2_j7_2 h hfF_3 hkc_j7_2 bkc_j7_2 r0_j7_2 hn_j7_2
      refine lv_iload_n hx hb dX9_choose_7 rfl (lv_at hl 0 rfl) ?_
      refine lv_aload_n hx hb dX9_choose_8 rfl (lv_at hl 1 rfl) ?_
      refine zt_geti (t := 9) (C := RX9) (T := TX9) (N := 5) Z h hth zin_9 rfl 4 rfl ⟨by decide, rfl⟩ (zm_RX9 (List.mem_of_getElem? (i := 2) rfl)) (fun _ h9 => h9) dX9_choose_9 (fun x_4 kx_4 bx_4 => ?_)
      refine lv_icmp_ge (tgt := 59) hx hb dX9_choose_12 (by decide) (fun c_5 => ?_) (fun c_5 => ?_)
      · have c_5 := z_le c_5
        subst hQ
        exact W.vret hx hb hr (fun t ht hW => ⟨⟨F_3, rfl, trivial, by rw [ht]; exact h.1, h.2.1, ((hfF_1.w (by decide)).trans hfF_3 (by decide))⟩, h.2.2.F ht⟩) h.2.2.2.2 dX9_choose_59
      · have c_5 := z_nle c_5
        have by2_j7_2_6 : zB 0 11 y2_j7_2 := zB.ltL c_5 by2_j7_2 bx_4 (by decide)
        have bx_4_7 : zB 1 12 x_4 := zB.ltR c_5 by2_j7_2 bx_4 (by decide)
        refine lv_iload_n hx hb dX9_choose_15 rfl (lv_at hl 0 rfl) ?_
        refine lv_aload_n hx hb dX9_choose_16 rfl (lv_at hl 1 rfl) ?_
        refine zt_getr (t := 9) (C := RX9) (T := TX9) (N := 5) Z h hth zin_9 rfl 1 rfl ⟨by decide, rfl⟩ (zm_RX9 (List.mem_of_getElem? (i := 23) rfl)) (fun _ h9 => h9) dX9_choose_17 (fun a_8 ka_8 ha_8 => ?_)
        refine zt_alen (t := 116) Z h ha_8 ⟨by decide, rfl⟩ (by decide) (v := 12) rfl dX9_choose_20 ?_
        refine lv_icmp_ge (tgt := 59) hx hb dX9_choose_21 (by decide) (fun c_9 => ?_) (fun c_9 => ?_)
        · have c_9 := z_le c_9
          exact zB.noLe c_9 (zBc 12 12 (by decide)) by2_j7_2_6 (by decide)
        · have c_9 := z_nle c_9
          refine lv_aload_n hx hb dX9_choose_24 rfl (lv_at hl 1 rfl) ?_
          refine lv_iload_n hx hb dX9_choose_25 rfl (lv_at hl 2 rfl) ?_
          refine lv_iload_n hx hb dX9_choose_26 rfl (lv_at hl 0 rfl) ?_
          refine zk_Vi (As := [.int se, .int y2_j7_2]) (rest := []) (bytes := cX9_holds) (maxL := 3) (ret := (some .boolean)) Z h (zc_X9_holds l D k Γ L F_3 H.size th se y2_j7_2 hth) (cwV 2 hg zv_RX9_51 rfl rfl rfl zd_X9_holds ⟨z_leR hRf (by decide), z_leR hRl (by decide)⟩) hth (by decide) rfl rfl hl.1 rfl (Nat.le_of_ble_eq_true rfl) dX9_choose_27 ⟨Nat.zero_le _, Nat.zero_le _⟩ (fun r_10 F_11 H locs w_12 h hfF_11 => ?_)
          obtain ⟨rfl, br_10, -⟩ := w_12
          refine lv_if_eq (tgt := 53) hx hb dX9_choose_30 (by decide) (fun c_13 => ?_) (fun c_13 => ?_)
          · have c_13 := z_eq c_13
            have br_10_14 : zB 0 0 r_10 := zB.eqL (a := 0) (b := 0) c_13 (zBc 0 0 (by decide))
            obtain ⟨x_15, ex_15, bx_15, tx_15⟩ := z_inc (n := 1) (lo := 1) (hi := 12) by2_j7_2_6 (by decide)
            refine lv_iinc (v := x_15) (lv' := [(2, .int x_15), (0, .ref th), (1, .int se)]) hx hb dX9_choose_53 hl (k := 0) rfl ex_15 (by decide) rfl (fun ls hl => ?_)
            refine lv_goto (tgt := 7) hx hb dX9_choose_56 (by decide) ?_
            exact ih_j7_2 _ (by have := bx_15.1; have := bx_15.2; have := (zB.all se).1; have := (zB.all se).2; have := bkc_j7_2.1; have := bkc_j7_2.2; have := bx_4_7.1; have := bx_4_7.2; have : (0 : Int32).toInt = 0 := (by decide); have : (12 : Int32).toInt = 12 := (by decide); have := by2_j7_2.1; have := by2_j7_2.2; omega) ls x_15 kc_j7_2 F_3 H locs (lv_sub hl [0, 1, 2] rfl) (bx_15.w ⟨by decide, by decide⟩) h hfF_3 hkc_j7_2 bkc_j7_2 (by have := bx_15.1; have := bx_15.2; have := (zB.all se).1; have := (zB.all se).2; have := bkc_j7_2.1; have := bkc_j7_2.2; have := bx_4_7.1; have := bx_4_7.2; have : (0 : Int32).toInt = 0 := (by decide); have : (12 : Int32).toInt = 12 := (by decide); omega) rfl
          · have c_13 := z_ne c_13
            have br_10_16 : zB 1 1 r_10 := zB.neLo c_13 br_10 (zBc 0 0 (by decide)) (by decide)
            refine lv_aload_n hx hb dX9_choose_33 rfl (lv_at hl 1 rfl) ?_
            refine zt_getk (t := 9) (C := RX9) (T := TX9) (N := 5) Z h hth zin_9 rfl 1 ka_8 ⟨by decide, rfl, by decide⟩ (zm_RX9 (List.mem_of_getElem? (i := 23) rfl)) (fun _ h9 => h9) dX9_choose_34 ?_
            refine lv_aload_n hx hb dX9_choose_37 rfl (lv_at hl 1 rfl) ?_
            refine zt_getk (t := 9) (C := RX9) (T := TX9) (N := 5) Z h hth zin_9 rfl 2 hkc_j7_2 ⟨by decide, rfl, by decide⟩ (zm_RX9 (List.mem_of_getElem? (i := 3) rfl)) (fun _ h9 => h9) dX9_choose_38 ?_
            refine lv_iload_n hx hb dX9_choose_41 rfl (lv_at hl 0 rfl) ?_
            have bkc_j7_2_17 : zB 0 11 kc_j7_2 := ⟨by have := by2_j7_2_6.1; have := by2_j7_2_6.2; have := (zB.all se).1; have := (zB.all se).2; have := bkc_j7_2.1; have := bkc_j7_2.2; have := bx_4_7.1; have := bx_4_7.2; have : (0 : Int32).toInt = 0 := (by decide); have : (12 : Int32).toInt = 12 := (by decide); omega, by have := by2_j7_2_6.1; have := by2_j7_2_6.2; have := (zB.all se).1; have := (zB.all se).2; have := bkc_j7_2.1; have := bkc_j7_2.2; have := bx_4_7.1; have := bx_4_7.2; have : (0 : Int32).toInt = 0 := (by decide); have : (12 : Int32).toInt = 12 := (by decide); omega⟩
            refine zt_iast (t := 116) Z h ha_8 ⟨by decide, rfl⟩ bkc_j7_2_17 ⟨by decide, by decide⟩ (by2_j7_2_6.w ⟨by decide, by decide⟩) dX9_choose_42 (fun H locs F_18 h hfF_18 => ?_)
            refine lv_aload_n hx hb dX9_choose_43 rfl (lv_at hl 1 rfl) ?_
            refine lv_dup hx hb dX9_choose_44 rfl ?_
            refine zt_getk (t := 9) (C := RX9) (T := TX9) (N := 5) Z h hth zin_9 rfl 2 (hfF_18.f hth 2 ⟨by decide, by decide⟩ hkc_j7_2) ⟨by decide, rfl, by decide⟩ (zm_RX9 (List.mem_of_getElem? (i := 3) rfl)) (fun _ h9 => h9) dX9_choose_45 ?_
            refine lv_iconst (v := 1) hx hb dX9_choose_48 (by decide) ?_
            refine lv_iadd hx hb dX9_choose_49 ?_
            refine zi_add (lo := 1) (hi := 12) bkc_j7_2_17 (zBc 1 1 (by decide)) (by decide) (fun x_19 bx_19 tx_19 => ?_)
            refine zt_put (t := 9) (C := RX9) (T := TX9) (N := 5) (v := .int x_19) Z h hth zin_9 tyX9 tyX9_ok nmX9 rfl 2 rfl ⟨by decide, rfl⟩ (zm_RX9 (List.mem_of_getElem? (i := 3) rfl)) (fun _ h9 => h9) rfl (zV.i (bx_19.w ⟨by decide, by decide⟩)) rfl rfl dX9_choose_50 (fun H locs F_20 h hfF_20 kF_20 => ?_)
            obtain ⟨x_21, ex_21, bx_21, tx_21⟩ := z_inc (n := 1) (lo := 1) (hi := 12) by2_j7_2_6 (by decide)
            refine lv_iinc (v := x_21) (lv' := [(2, .int x_21), (0, .ref th), (1, .int se)]) hx hb dX9_choose_53 hl (k := 0) rfl ex_21 (by decide) rfl (fun ls hl => ?_)
            refine lv_goto (tgt := 7) hx hb dX9_choose_56 (by decide) ?_
            exact ih_j7_2 _ (by have := bx_21.1; have := bx_21.2; have := (zB.all se).1; have := (zB.all se).2; have := bx_19.1; have := bx_19.2; have := bx_4_7.1; have := bx_4_7.2; have : (0 : Int32).toInt = 0 := (by decide); have : (1 : Int32).toInt = 1 := (by decide); have : (12 : Int32).toInt = 12 := (by decide); have := by2_j7_2.1; have := by2_j7_2.2; omega) ls x_21 x_19 F_20 H locs (lv_sub hl [0, 1, 2] rfl) (bx_21.w ⟨by decide, by decide⟩) h ((hfF_3.trans hfF_18 (by decide)).trans hfF_20 (by decide)) kF_20 (bx_19.w ⟨by decide, by decide⟩) (by have := bx_21.1; have := bx_21.2; have := (zB.all se).1; have := (zB.all se).2; have := bx_19.1; have := bx_19.2; have := bx_4_7.1; have := bx_4_7.2; have : (0 : Int32).toInt = 0 := (by decide); have : (1 : Int32).toInt = 1 := (by decide); have : (12 : Int32).toInt = 12 := (by decide); omega) rfl
  exact j_j7_2 _ ls 0 0 F_1 H locs (lv_sub hl [0, 1, 2] rfl) (zB.of ⟨by decide, by decide⟩) h zFr.rf kF_1 (zB.of ⟨by decide, by decide⟩) (by have := (zB.all se).1; have := (zB.all se).2; have : (0 : Int32).toInt = 0 := (by decide); omega) rfl

set_option maxHeartbeats 4000000 in
set_option maxRecDepth 100000 in
theorem zc_X9_chooseFewest (l : Launch) (D : va_G) (k : Nat → ClassId) (Γ : Nat → Option Nat) (L : List Nat) (F : Nat → va_E) (sz : Nat) (th : Nat) (hth : Γ th = some 9) : Met l yX9_chooseFewest zwX9_chooseFewest ({ frames := 3, cells := 0, slots := 0, locals := 70 }) (va_Pc [.ref th] (zP D k Γ L F sz)) (va_Qi (fun (r : Int32) (u : Nat → va_E) => zB 0 12 r ∧ True) (zQ D k Γ L F [902, 903, 11600]) (zA L sz)) 0 0 (zA L sz) := by
  refine Met.ofW (cc := cX9_chooseFewest) (maxL := 1) (ret := (some .int)) (by decide) rfl ?_
  intro p e s m args below meth c s₁ B hml hv
  obtain ⟨rfl, hsz, hP, hK, hLn, hE, hI⟩ := hv
  have hx := B.exec
  have hb := B.bytes
  have hr := B.returns
  have hg : ∀ w ∈ zG, w.before _ s = true := fun w h9 => atoms_spec (ws := zwX9_chooseFewest) B.pre w (List.mem_cons_of_mem _ h9)
  have hown : s.vm.findClass RX9 = some m.cls := findClass_of_methodNamed B.named
  have hlocks := B.notSynchronized
  subst hsz
  have Z : zC p m c cX9_chooseFewest 1 s _ zG RX9 D k L := ⟨⟨hx, hb, hml, hown, hg⟩, hK, hLn, hE⟩
  have h : zH D k Γ L s F s.heap [] := ⟨hP, hI, va_S.rf⟩
  have hl := lv_entry ([.ref th]) (n := 1) (Nat.le_of_ble_eq_true rfl)
  rw [lg_entry_eq]
  generalize (lg_sl ([.ref th]) ++ List.replicate (1 - (lg_sl ([.ref th])).length) Slot.unset).toArray = ls at hl ⊢
  have hl : lv_has ls 1 [(0, .ref th)] := hl
  clear hP hK hLn hE hI
  generalize hargs : ([.ref th] : List Value).toArray = args at *
  refine z_start (fun R Q hRf hRl hQ => ?_)
  have hRf : R.frames = 3 := hRf
  have hRl : R.locals = 70 := hRl
  refine lv_aload_n hx hb dX9_chooseFewest_0 rfl (lv_at hl 0 rfl) ?_
  refine zt_geti (t := 9) (C := RX9) (T := TX9) (N := 5) Z h hth zin_9 rfl 3 rfl ⟨by decide, rfl⟩ (zm_RX9 (List.mem_of_getElem? (i := 4) rfl)) (fun _ h9 => h9) dX9_chooseFewest_1 (fun x_1 kx_1 bx_1 => ?_)
  refine lv_aload_n hx hb dX9_chooseFewest_4 rfl (lv_at hl 0 rfl) ?_
  refine zt_geti (t := 9) (C := RX9) (T := TX9) (N := 5) Z h hth zin_9 rfl 4 rfl ⟨by decide, rfl⟩ (zm_RX9 (List.mem_of_getElem? (i := 2) rfl)) (fun _ h9 => h9) dX9_chooseFewest_5 (fun x_2 kx_2 bx_2 => ?_)
  refine lv_icmp_eq (tgt := 27) hx hb dX9_chooseFewest_8 (by decide) (fun c_3 => ?_) (fun c_3 => ?_)
  · have c_3 := z_eq c_3
    have bx_1_4 : zB 0 12 x_1 := zB.eqL (a := 0) (b := 0) c_3 bx_2
    refine lv_aload_n hx hb dX9_chooseFewest_27 rfl (lv_at hl 0 rfl) ?_
    refine zt_geti (t := 9) (C := RX9) (T := TX9) (N := 5) Z h hth zin_9 rfl 2 rfl ⟨by decide, rfl⟩ (zm_RX9 (List.mem_of_getElem? (i := 3) rfl)) (fun _ h9 => h9) dX9_chooseFewest_28 (fun x_5 kx_5 bx_5 => ?_)
    subst hQ
    exact W.iret (v := x_5) hx hb hr (fun t ht hW => ⟨⟨x_5, F, rfl, ⟨bx_5, trivial⟩, by rw [ht]; exact h.1, h.2.1, zFr.rf⟩, h.2.2.F ht⟩) h.2.2.2.2 dX9_chooseFewest_31
  · have c_3 := z_ne c_3
    refine lv_aload_n hx hb dX9_chooseFewest_11 rfl (lv_at hl 0 rfl) ?_
    refine lv_aload_n hx hb dX9_chooseFewest_12 rfl (lv_at hl 0 rfl) ?_
    refine zk_Vi (As := []) (rest := [.ref th]) (bytes := cX9_fewestSet) (maxL := 5) (ret := (some .int)) Z h (zc_X9_fewestSet l D k Γ L F s.heap.size th hth) (cwV 0 hg zv_RX9_37 rfl rfl rfl zd_X9_fewestSet ⟨z_leR hRf (by decide), z_leR hRl (by decide)⟩) hth (by decide) rfl rfl hl.1 rfl (Nat.le_of_ble_eq_true rfl) dX9_chooseFewest_13 ⟨Nat.zero_le _, Nat.zero_le _⟩ (fun r_6 F_7 H locs w_8 h hfF_7 => ?_)
    obtain ⟨rfl, -⟩ := w_8
    have br_6 := zB.all r_6
    refine zk_Vv (As := [.int r_6]) (rest := []) (bytes := cX9_choose) (maxL := 3) (ret := none) Z h (zc_X9_choose l D k Γ L F H.size th r_6 hth) (cwV 1 hg zv_RX9_41 rfl rfl rfl zd_X9_choose ⟨z_leR hRf (by decide), z_leR hRl (by decide)⟩) hth (by decide) rfl rfl hl.1 rfl (Nat.le_of_ble_eq_true rfl) dX9_chooseFewest_16 ⟨Nat.zero_le _, Nat.zero_le _⟩ (fun F_9 H locs w_10 h hfF_9 => ?_)
    refine lv_aload_n hx hb dX9_chooseFewest_19 rfl (lv_at hl 0 rfl) ?_
    refine lv_aload_n hx hb dX9_chooseFewest_20 rfl (lv_at hl 0 rfl) ?_
    refine zt_getk (t := 9) (C := RX9) (T := TX9) (N := 5) Z h hth zin_9 rfl 4 (hfF_9.f hth 4 ⟨by decide, by decide⟩ kx_2) ⟨by decide, rfl, by decide⟩ (zm_RX9 (List.mem_of_getElem? (i := 2) rfl)) (fun _ h9 => h9) dX9_chooseFewest_21 ?_
    refine zt_put (t := 9) (C := RX9) (T := TX9) (N := 5) (v := .int x_2) Z h hth zin_9 tyX9 tyX9_ok nmX9 rfl 3 rfl ⟨by decide, rfl⟩ (zm_RX9 (List.mem_of_getElem? (i := 4) rfl)) (fun _ h9 => h9) rfl (zV.i (bx_2.w ⟨by decide, by decide⟩)) rfl rfl dX9_chooseFewest_24 (fun H locs F_11 h hfF_11 kF_11 => ?_)
    refine lv_aload_n hx hb dX9_chooseFewest_27 rfl (lv_at hl 0 rfl) ?_
    refine zt_geti (t := 9) (C := RX9) (T := TX9) (N := 5) Z h hth zin_9 rfl 2 rfl ⟨by decide, rfl⟩ (zm_RX9 (List.mem_of_getElem? (i := 3) rfl)) (fun _ h9 => h9) dX9_chooseFewest_28 (fun x_12 kx_12 bx_12 => ?_)
    subst hQ
    exact W.iret (v := x_12) hx hb hr (fun t ht hW => ⟨⟨x_12, F_11, rfl, ⟨bx_12, trivial⟩, by rw [ht]; exact h.1, h.2.1, ((hfF_9.w (by decide)).trans hfF_11 (by decide))⟩, h.2.2.F ht⟩) h.2.2.2.2 dX9_chooseFewest_31

set_option maxHeartbeats 4000000 in
set_option maxRecDepth 100000 in
theorem zc_X9_chosenAt (l : Launch) (D : va_G) (k : Nat → ClassId) (Γ : Nat → Option Nat) (L : List Nat) (F : Nat → va_E) (sz : Nat) (th : Nat) (i : Int32) (hth : Γ th = some 9) : Met l yX9_chosenAt zwX9_chosenAt ({ frames := 0, cells := 0, slots := 0, locals := 0 }) (va_Pc [.ref th, .int i] (zP D k Γ L F sz)) (va_Qi (fun (r : Int32) (u : Nat → va_E) => F = u ∧ True) (zQ D k Γ L F []) (zA L sz)) 0 0 (zA L sz) := by
  refine Met.ofW (cc := cX9_chosenAt) (maxL := 2) (ret := (some .int)) (by decide) rfl ?_
  intro p e s m args below meth c s₁ B hml hv
  obtain ⟨rfl, hsz, hP, hK, hLn, hE, hI⟩ := hv
  have hx := B.exec
  have hb := B.bytes
  have hr := B.returns
  have hg : ∀ w ∈ zG, w.before _ s = true := fun w h9 => atoms_spec (ws := zwX9_chosenAt) B.pre w (List.mem_cons_of_mem _ h9)
  have hown : s.vm.findClass RX9 = some m.cls := findClass_of_methodNamed B.named
  have hlocks := B.notSynchronized
  subst hsz
  have Z : zC p m c cX9_chosenAt 2 s _ zG RX9 D k L := ⟨⟨hx, hb, hml, hown, hg⟩, hK, hLn, hE⟩
  have h : zH D k Γ L s F s.heap [] := ⟨hP, hI, va_S.rf⟩
  have hl := lv_entry ([.ref th, .int i]) (n := 2) (Nat.le_of_ble_eq_true rfl)
  rw [lg_entry_eq]
  generalize (lg_sl ([.ref th, .int i]) ++ List.replicate (2 - (lg_sl ([.ref th, .int i])).length) Slot.unset).toArray = ls at hl ⊢
  have hl : lv_has ls 2 [(0, .ref th), (1, .int i)] := hl
  clear hP hK hLn hE hI
  generalize hargs : ([.ref th, .int i] : List Value).toArray = args at *
  refine z_start (fun R Q hRf hRl hQ => ?_)
  have hRf : R.frames = 0 := hRf
  have hRl : R.locals = 0 := hRl
  refine lv_iload_n hx hb dX9_chosenAt_0 rfl (lv_at hl 1 rfl) ?_
  refine lv_if_lt (tgt := 30) hx hb dX9_chosenAt_1 (by decide) (fun c_1 => ?_) (fun c_1 => ?_)
  · have c_1 := z_lt c_1
    have bi_2 : zB (-2147483648) (-1) i := zB.ltL c_1 (zB.all i) (zBc 0 0 (by decide)) (by decide)
    refine lv_iconst (v := (-1)) hx hb dX9_chosenAt_30 (by decide) ?_
    subst hQ
    exact W.iret (v := (-1)) hx hb hr (fun t ht hW => ⟨⟨(-1), F, rfl, ⟨rfl, trivial⟩, by rw [ht]; exact h.1, h.2.1, zFr.rf⟩, h.2.2.F ht⟩) h.2.2.2.2 dX9_chosenAt_31
  · have c_1 := z_nlt c_1
    have bi_3 : zB 0 2147483647 i := zB.leR c_1 (zBc 0 0 (by decide)) (zB.all i) (by decide)
    refine lv_iload_n hx hb dX9_chosenAt_4 rfl (lv_at hl 1 rfl) ?_
    refine lv_aload_n hx hb dX9_chosenAt_5 rfl (lv_at hl 0 rfl) ?_
    refine zt_geti (t := 9) (C := RX9) (T := TX9) (N := 5) Z h hth zin_9 rfl 2 rfl ⟨by decide, rfl⟩ (zm_RX9 (List.mem_of_getElem? (i := 3) rfl)) (fun _ h9 => h9) dX9_chosenAt_6 (fun x_4 kx_4 bx_4 => ?_)
    refine lv_icmp_ge (tgt := 30) hx hb dX9_chosenAt_9 (by decide) (fun c_5 => ?_) (fun c_5 => ?_)
    · have c_5 := z_le c_5
      refine lv_iconst (v := (-1)) hx hb dX9_chosenAt_30 (by decide) ?_
      subst hQ
      exact W.iret (v := (-1)) hx hb hr (fun t ht hW => ⟨⟨(-1), F, rfl, ⟨rfl, trivial⟩, by rw [ht]; exact h.1, h.2.1, zFr.rf⟩, h.2.2.F ht⟩) h.2.2.2.2 dX9_chosenAt_31
    · have c_5 := z_nle c_5
      have bi_6 : zB 0 11 i := zB.ltL c_5 bi_3 bx_4 (by decide)
      have bx_4_7 : zB 1 12 x_4 := zB.ltR c_5 bi_3 bx_4 (by decide)
      refine lv_iload_n hx hb dX9_chosenAt_12 rfl (lv_at hl 1 rfl) ?_
      refine lv_aload_n hx hb dX9_chosenAt_13 rfl (lv_at hl 0 rfl) ?_
      refine zt_getr (t := 9) (C := RX9) (T := TX9) (N := 5) Z h hth zin_9 rfl 1 rfl ⟨by decide, rfl⟩ (zm_RX9 (List.mem_of_getElem? (i := 23) rfl)) (fun _ h9 => h9) dX9_chosenAt_14 (fun a_8 ka_8 ha_8 => ?_)
      refine zt_alen (t := 116) Z h ha_8 ⟨by decide, rfl⟩ (by decide) (v := 12) rfl dX9_chosenAt_17 ?_
      refine lv_icmp_ge (tgt := 30) hx hb dX9_chosenAt_18 (by decide) (fun c_9 => ?_) (fun c_9 => ?_)
      · have c_9 := z_le c_9
        exact zB.noLe c_9 (zBc 12 12 (by decide)) bi_6 (by decide)
      · have c_9 := z_nle c_9
        refine lv_aload_n hx hb dX9_chosenAt_21 rfl (lv_at hl 0 rfl) ?_
        refine zt_getk (t := 9) (C := RX9) (T := TX9) (N := 5) Z h hth zin_9 rfl 1 ka_8 ⟨by decide, rfl, by decide⟩ (zm_RX9 (List.mem_of_getElem? (i := 23) rfl)) (fun _ h9 => h9) dX9_chosenAt_22 ?_
        refine lv_iload_n hx hb dX9_chosenAt_25 rfl (lv_at hl 1 rfl) ?_
        refine zt_ialde (t := 116) Z h ha_8 ⟨by decide, rfl⟩ bi_6 ⟨by decide, by decide⟩ dX9_chosenAt_26 (fun x_10 ex_10 bx_10 => ?_)
        refine lv_goto (tgt := 31) hx hb dX9_chosenAt_27 (by decide) ?_
        subst hQ
        exact W.iret (v := x_10) hx hb hr (fun t ht hW => ⟨⟨x_10, F, rfl, ⟨rfl, trivial⟩, by rw [ht]; exact h.1, h.2.1, zFr.rf⟩, h.2.2.F ht⟩) h.2.2.2.2 dX9_chosenAt_31

set_option maxHeartbeats 4000000 in
set_option maxRecDepth 100000 in
theorem zc_X3_stateOf (l : Launch) (D : va_G) (k : Nat → ClassId) (Γ : Nat → Option Nat) (L : List Nat) (F : Nat → va_E) (sz : Nat) (th : Nat) (q : Int32) (hth : Γ th = some 3) : Met l yX3_stateOf zwX3_stateOf ({ frames := 0, cells := 0, slots := 0, locals := 0 }) (va_Pc [.ref th, .int q] (zP D k Γ L F sz)) (va_Qi (fun (r : Int32) (u : Nat → va_E) => F = u ∧ True) (zQ D k Γ L F []) (zA L sz)) 0 0 (zA L sz) := by
  refine Met.ofW (cc := cX3_stateOf) (maxL := 2) (ret := (some .int)) (by decide) rfl ?_
  intro p e s m args below meth c s₁ B hml hv
  obtain ⟨rfl, hsz, hP, hK, hLn, hE, hI⟩ := hv
  have hx := B.exec
  have hb := B.bytes
  have hr := B.returns
  have hg : ∀ w ∈ zG, w.before _ s = true := fun w h9 => atoms_spec (ws := zwX3_stateOf) B.pre w (List.mem_cons_of_mem _ h9)
  have hown : s.vm.findClass RX3 = some m.cls := findClass_of_methodNamed B.named
  have hlocks := B.notSynchronized
  subst hsz
  have Z : zC p m c cX3_stateOf 2 s _ zG RX3 D k L := ⟨⟨hx, hb, hml, hown, hg⟩, hK, hLn, hE⟩
  have h : zH D k Γ L s F s.heap [] := ⟨hP, hI, va_S.rf⟩
  have hl := lv_entry ([.ref th, .int q]) (n := 2) (Nat.le_of_ble_eq_true rfl)
  rw [lg_entry_eq]
  generalize (lg_sl ([.ref th, .int q]) ++ List.replicate (2 - (lg_sl ([.ref th, .int q])).length) Slot.unset).toArray = ls at hl ⊢
  have hl : lv_has ls 2 [(0, .ref th), (1, .int q)] := hl
  clear hP hK hLn hE hI
  generalize hargs : ([.ref th, .int q] : List Value).toArray = args at *
  refine z_start (fun R Q hRf hRl hQ => ?_)
  have hRf : R.frames = 0 := hRf
  have hRl : R.locals = 0 := hRl
  refine lv_iload_n hx hb dX3_stateOf_0 rfl (lv_at hl 1 rfl) ?_
  refine lv_if_lt (tgt := 22) hx hb dX3_stateOf_1 (by decide) (fun c_1 => ?_) (fun c_1 => ?_)
  · have c_1 := z_lt c_1
    have bq_2 : zB (-2147483648) (-1) q := zB.ltL c_1 (zB.all q) (zBc 0 0 (by decide)) (by decide)
    refine lv_iconst (v := (-1)) hx hb dX3_stateOf_22 (by decide) ?_
    subst hQ
    exact W.iret (v := (-1)) hx hb hr (fun t ht hW => ⟨⟨(-1), F, rfl, ⟨rfl, trivial⟩, by rw [ht]; exact h.1, h.2.1, zFr.rf⟩, h.2.2.F ht⟩) h.2.2.2.2 dX3_stateOf_23
  · have c_1 := z_nlt c_1
    have bq_3 : zB 0 2147483647 q := zB.leR c_1 (zBc 0 0 (by decide)) (zB.all q) (by decide)
    refine lv_iload_n hx hb dX3_stateOf_4 rfl (lv_at hl 1 rfl) ?_
    refine lv_aload_n hx hb dX3_stateOf_5 rfl (lv_at hl 0 rfl) ?_
    refine zt_getr (t := 3) (C := RX3) (T := TX3) (N := 3) Z h hth zin_3 rfl 0 rfl ⟨by decide, rfl⟩ (zm_RX3 (List.mem_of_getElem? (i := 2) rfl)) (fun _ h9 => h9) dX3_stateOf_6 (fun a_4 ka_4 ha_4 => ?_)
    refine zt_alen (t := 162) Z h ha_4 ⟨by decide, rfl⟩ (by decide) (v := 10) rfl dX3_stateOf_9 ?_
    refine lv_icmp_ge (tgt := 22) hx hb dX3_stateOf_10 (by decide) (fun c_5 => ?_) (fun c_5 => ?_)
    · have c_5 := z_le c_5
      have bq_6 : zB 10 2147483647 q := zB.leR c_5 (zBc 10 10 (by decide)) bq_3 (by decide)
      refine lv_iconst (v := (-1)) hx hb dX3_stateOf_22 (by decide) ?_
      subst hQ
      exact W.iret (v := (-1)) hx hb hr (fun t ht hW => ⟨⟨(-1), F, rfl, ⟨rfl, trivial⟩, by rw [ht]; exact h.1, h.2.1, zFr.rf⟩, h.2.2.F ht⟩) h.2.2.2.2 dX3_stateOf_23
    · have c_5 := z_nle c_5
      have bq_7 : zB 0 9 q := zB.ltL c_5 bq_3 (zBc 10 10 (by decide)) (by decide)
      refine lv_aload_n hx hb dX3_stateOf_13 rfl (lv_at hl 0 rfl) ?_
      refine zt_getk (t := 3) (C := RX3) (T := TX3) (N := 3) Z h hth zin_3 rfl 0 ka_4 ⟨by decide, rfl, by decide⟩ (zm_RX3 (List.mem_of_getElem? (i := 2) rfl)) (fun _ h9 => h9) dX3_stateOf_14 ?_
      refine lv_iload_n hx hb dX3_stateOf_17 rfl (lv_at hl 1 rfl) ?_
      refine zt_ialde (t := 162) Z h ha_4 ⟨by decide, rfl⟩ bq_7 ⟨by decide, by decide⟩ dX3_stateOf_18 (fun x_8 ex_8 bx_8 => ?_)
      refine lv_goto (tgt := 23) hx hb dX3_stateOf_19 (by decide) ?_
      subst hQ
      exact W.iret (v := x_8) hx hb hr (fun t ht hW => ⟨⟨x_8, F, rfl, ⟨rfl, trivial⟩, by rw [ht]; exact h.1, h.2.1, zFr.rf⟩, h.2.2.F ht⟩) h.2.2.2.2 dX3_stateOf_23

set_option maxHeartbeats 4000000 in
set_option maxRecDepth 100000 in
theorem zc_X3_isNew (l : Launch) (D : va_G) (k : Nat → ClassId) (Γ : Nat → Option Nat) (L : List Nat) (F : Nat → va_E) (sz : Nat) (be : Nat) (no : Nat) (q : Int32) (hbe : Γ be = some 6) (hno : Γ no = some 6) : Met l yX3_isNew zwX3_isNew ({ frames := 4, cells := 0, slots := 0, locals := 90 }) (va_Pc [.ref be, .ref no, .int q] (zP D k Γ L F sz)) (va_Qi (fun (r : Int32) (u : Nat → va_E) => F = u ∧ zB 0 1 r ∧ True) (zQ D k Γ L F []) (zA L sz)) 0 0 (zA L sz) := by
  refine Met.ofW (cc := cX3_isNew) (maxL := 7) (ret := (some .boolean)) (by decide) rfl ?_
  intro p e s m args below meth c s₁ B hml hv
  obtain ⟨rfl, hsz, hP, hK, hLn, hE, hI⟩ := hv
  have hx := B.exec
  have hb := B.bytes
  have hr := B.returns
  have hg : ∀ w ∈ zG, w.before _ s = true := fun w h9 => atoms_spec (ws := zwX3_isNew) B.pre w (List.mem_cons_of_mem _ h9)
  have hown : s.vm.findClass RX3 = some m.cls := findClass_of_methodNamed B.named
  have hlocks := B.notSynchronized
  subst hsz
  have Z : zC p m c cX3_isNew 7 s _ zG RX3 D k L := ⟨⟨hx, hb, hml, hown, hg⟩, hK, hLn, hE⟩
  have h : zH D k Γ L s F s.heap [] := ⟨hP, hI, va_S.rf⟩
  have hl := lv_entry ([.ref be, .ref no, .int q]) (n := 7) (Nat.le_of_ble_eq_true rfl)
  rw [lg_entry_eq]
  generalize (lg_sl ([.ref be, .ref no, .int q]) ++ List.replicate (7 - (lg_sl ([.ref be, .ref no, .int q])).length) Slot.unset).toArray = ls at hl ⊢
  have hl : lv_has ls 7 [(0, .ref be), (1, .ref no), (2, .int q)] := hl
  clear hP hK hLn hE hI
  generalize hargs : ([.ref be, .ref no, .int q] : List Value).toArray = args at *
  refine z_start (fun R Q hRf hRl hQ => ?_)
  have hRf : R.frames = 4 := hRf
  have hRl : R.locals = 90 := hRl
  refine lv_aload_n hx hb dX3_isNew_0 rfl (lv_at hl 1 rfl) ?_
  refine lv_iload_n hx hb dX3_isNew_1 rfl (lv_at hl 2 rfl) ?_
  refine zk_Vi (As := [.int q]) (rest := []) (bytes := cX6_hasFunction) (maxL := 2) (ret := (some .boolean)) Z h (zc_X6_hasFunction l D k Γ L F s.heap.size no q hno) (cwV 1 hg zv_RX3_39 rfl rfl rfl zd_X6_hasFunction ⟨z_leR hRf (by decide), z_leR hRl (by decide)⟩) hno (by decide) rfl rfl hl.1 rfl (Nat.le_of_ble_eq_true rfl) dX3_isNew_2 ⟨Nat.zero_le _, Nat.zero_le _⟩ (fun r_1 F_2 H locs w_3 h hfF_2 => ?_)
  obtain ⟨rfl, br_1, q_4, q_5, -⟩ := w_3
  refine lv_if_ne (tgt := 10) hx hb dX3_isNew_5 (by decide) (fun c_6 => ?_) (fun c_6 => ?_)
  · have bq_7 : zB 0 9 q := q_4 c_6
    obtain ⟨x_8, kx_8, bx_8, q_9⟩ := q_5 c_6
    have c_6 := z_ne c_6
    have br_1_10 : zB 1 1 r_1 := zB.neLo c_6 br_1 (zBc 0 0 (by decide)) (by decide)
    refine lv_aload_n hx hb dX3_isNew_10 rfl (lv_at hl 1 rfl) ?_
    refine zt_getr (t := 6) (C := RX6) (T := TX6) (N := 6) Z h hno zin_6 rfl 2 rfl ⟨by decide, rfl⟩ (zm_RX3 (List.mem_of_getElem? (i := 16) rfl)) (fun _ h9 => h9) dX3_isNew_11 (fun a_11 ka_11 ha_11 => ?_)
    refine lv_iload_n hx hb dX3_isNew_14 rfl (lv_at hl 2 rfl) ?_
    refine zt_aald (t := 104) (t1 := 2) Z h ha_11 ⟨by decide, rfl⟩ (by decide) bq_7 ⟨by decide, by decide⟩ dX3_isNew_15 (fun a_12 ha_12 => ?_)
    refine lv_astore_n (lv' := [(3, .ref a_12), (0, .ref be), (1, .ref no), (2, .int q)]) hx hb dX3_isNew_16 rfl hl (by decide) rfl (fun ls hl => ?_)
    refine lv_aload_n hx hb dX3_isNew_17 rfl (lv_at hl 1 rfl) ?_
    refine lv_aload_n hx hb dX3_isNew_18 rfl (lv_at hl 2 rfl) ?_
    refine zt_getr (t := 6) (C := RX6) (T := TX6) (N := 6) Z h hno zin_6 rfl 0 rfl ⟨by decide, rfl⟩ (zm_RX3 (List.mem_of_getElem? (i := 17) rfl)) (fun _ h9 => h9) dX3_isNew_19 (fun a_13 ka_13 ha_13 => ?_)
    refine lv_aload_n hx hb dX3_isNew_22 rfl (lv_at hl 0 rfl) ?_
    refine zt_geti (t := 2) (C := RX2) (T := TX2) (N := 9) Z h ha_12 zin_2 rfl 0 rfl ⟨by decide, rfl⟩ (zm_RX3 (List.mem_of_getElem? (i := 18) rfl)) (fun _ h9 => h9) dX3_isNew_23 (fun x_14 kx_14 bx_14 => ?_)
    refine zk_Vi (As := [.ref a_13, .int x_14]) (rest := []) (bytes := cX6_functionNamed) (maxL := 4) (ret := (some .int)) Z h (zc_X6_functionNamed l D k Γ L F H.size be a_13 x_14 hbe ha_13) (cwV 2 hg zv_RX3_56 rfl rfl rfl zd_X6_functionNamed ⟨z_leR hRf (by decide), z_leR hRl (by decide)⟩) hbe (by decide) rfl rfl hl.1 rfl (Nat.le_of_ble_eq_true rfl) dX3_isNew_26 ⟨Nat.zero_le _, Nat.zero_le _⟩ (fun r_15 F_16 H locs w_17 h hfF_16 => ?_)
    obtain ⟨rfl, br_15, -⟩ := w_17
    refine lv_istore (lv' := [(4, .int r_15), (3, .ref a_12), (0, .ref be), (1, .ref no), (2, .int q)]) hx hb dX3_isNew_29 hl (by decide) rfl (fun ls hl => ?_)
    refine lv_aload_n hx hb dX3_isNew_31 rfl (lv_at hl 2 rfl) ?_
    refine lv_iload hx hb dX3_isNew_32 (lv_at hl 0 rfl) ?_
    refine zk_Vi (As := [.int r_15]) (rest := []) (bytes := cX6_hasFunction) (maxL := 2) (ret := (some .boolean)) Z h (zc_X6_hasFunction l D k Γ L F H.size be r_15 hbe) (cwV 1 hg zv_RX3_39 rfl rfl rfl zd_X6_hasFunction ⟨z_leR hRf (by decide), z_leR hRl (by decide)⟩) hbe (by decide) rfl rfl hl.1 rfl (Nat.le_of_ble_eq_true rfl) dX3_isNew_34 ⟨Nat.zero_le _, Nat.zero_le _⟩ (fun r_18 F_19 H locs w_20 h hfF_19 => ?_)
    obtain ⟨rfl, br_18, q_21, q_22, -⟩ := w_20
    refine lv_if_ne (tgt := 42) hx hb dX3_isNew_37 (by decide) (fun c_23 => ?_) (fun c_23 => ?_)
    · have br_15_24 : zB 0 9 r_15 := q_21 c_23
      obtain ⟨x_25, kx_25, bx_25, q_26⟩ := q_22 c_23
      have c_23 := z_ne c_23
      have br_18_27 : zB 1 1 r_18 := zB.neLo c_23 br_18 (zBc 0 0 (by decide)) (by decide)
      refine lv_aload_n hx hb dX3_isNew_42 rfl (lv_at hl 2 rfl) ?_
      refine zt_getr (t := 6) (C := RX6) (T := TX6) (N := 6) Z h hbe zin_6 rfl 2 rfl ⟨by decide, rfl⟩ (zm_RX3 (List.mem_of_getElem? (i := 16) rfl)) (fun _ h9 => h9) dX3_isNew_43 (fun a_28 ka_28 ha_28 => ?_)
      refine lv_iload hx hb dX3_isNew_46 (lv_at hl 0 rfl) ?_
      refine zt_aald (t := 104) (t1 := 2) Z h ha_28 ⟨by decide, rfl⟩ (by decide) br_15_24 ⟨by decide, by decide⟩ dX3_isNew_48 (fun a_29 ha_29 => ?_)
      refine lv_astore (lv' := [(5, .ref a_29), (4, .int r_15), (3, .ref a_12), (0, .ref be), (1, .ref no), (2, .int q)]) hx hb dX3_isNew_49 hl (by decide) rfl (fun ls hl => ?_)
      refine lv_aload_n hx hb dX3_isNew_51 rfl (lv_at hl 2 rfl) ?_
      refine zt_geti (t := 2) (C := RX2) (T := TX2) (N := 9) Z h ha_12 zin_2 rfl 2 rfl ⟨by decide, rfl⟩ (zm_RX3 (List.mem_of_getElem? (i := 20) rfl)) (fun _ h9 => h9) dX3_isNew_52 (fun x_30 kx_30 bx_30 => ?_)
      refine lv_aload_n hx hb dX3_isNew_55 rfl (lv_at hl 2 rfl) ?_
      refine zt_geti (t := 2) (C := RX2) (T := TX2) (N := 9) Z h ha_12 zin_2 rfl 1 rfl ⟨by decide, rfl⟩ (zm_RX3 (List.mem_of_getElem? (i := 21) rfl)) (fun _ h9 => h9) dX3_isNew_56 (fun x_31 kx_31 bx_31 => ?_)
      refine lv_isub hx hb dX3_isNew_59 ?_
      refine zi_sub (lo := (-603)) (hi := 601) bx_30 bx_31 (by decide) (fun x_32 bx_32 tx_32 => ?_)
      refine lv_aload hx hb dX3_isNew_60 (lv_at hl 0 rfl) ?_
      refine zt_geti (t := 2) (C := RX2) (T := TX2) (N := 9) Z h ha_29 zin_2 rfl 2 rfl ⟨by decide, rfl⟩ (zm_RX3 (List.mem_of_getElem? (i := 20) rfl)) (fun _ h9 => h9) dX3_isNew_62 (fun x_33 kx_33 bx_33 => ?_)
      refine lv_aload hx hb dX3_isNew_65 (lv_at hl 0 rfl) ?_
      refine zt_geti (t := 2) (C := RX2) (T := TX2) (N := 9) Z h ha_29 zin_2 rfl 1 rfl ⟨by decide, rfl⟩ (zm_RX3 (List.mem_of_getElem? (i := 21) rfl)) (fun _ h9 => h9) dX3_isNew_67 (fun x_34 kx_34 bx_34 => ?_)
      refine lv_isub hx hb dX3_isNew_70 ?_
      refine zi_sub (lo := (-603)) (hi := 601) bx_33 bx_34 (by decide) (fun x_35 bx_35 tx_35 => ?_)
      refine lv_icmp_eq (tgt := 76) hx hb dX3_isNew_71 (by decide) (fun c_36 => ?_) (fun c_36 => ?_)
      · have c_36 := z_eq c_36
        refine lv_aload_n hx hb dX3_isNew_76 rfl (lv_at hl 2 rfl) ?_
        refine zt_getk (t := 2) (C := RX2) (T := TX2) (N := 9) Z h ha_12 zin_2 rfl 1 kx_31 ⟨by decide, rfl, by decide⟩ (zm_RX3 (List.mem_of_getElem? (i := 21) rfl)) (fun _ h9 => h9) dX3_isNew_77 ?_
        refine lv_istore (lv' := [(6, .int x_31), (5, .ref a_29), (4, .int r_15), (3, .ref a_12), (0, .ref be), (1, .ref no), (2, .int q)]) hx hb dX3_isNew_80 hl (by decide) rfl (fun ls hl => ?_)
        have j_j82_37 : ∀ (n : Nat) (ls : Array Slot) (y6_j82_37 : Int32) (H : Heap) (locs : List Loc), lv_has ls 7 [(6, .int y6_j82_37), (5, .ref a_29), (3, .ref a_12), (0, .ref be), (1, .ref no)] → zB (-1) 601 y6_j82_37 → zH D k Γ L s F H locs → (2147483647 - y6_j82_37.toInt).toNat = n → W p l e R s m args below meth c H locs 0 0 Q (F0 m 82 ls []) := by
          intro n
          induction n using Nat.strongRecOn with
          | _ n ih_j82_37 =>
            intro ls y6_j82_37 H locs hl by6_j82_37 h hn_j82_37
            refine lv_iload hx hb dX3_isNew_82 (lv_at hl 0 rfl) ?_
            refine lv_aload_n hx hb dX3_isNew_84 rfl (lv_at hl 2 rfl) ?_
            refine zt_getk (t := 2) (C := RX2) (T := TX2) (N := 9) Z h ha_12 zin_2 rfl 2 kx_30 ⟨by decide, rfl, by decide⟩ (zm_RX3 (List.mem_of_getElem? (i := 20) rfl)) (fun _ h9 => h9) dX3_isNew_85 ?_
            refine lv_icmp_gt (tgt := 128) hx hb dX3_isNew_88 (by decide) (fun c_38 => ?_) (fun c_38 => ?_)
            · have c_38 := z_lt c_38
              refine lv_iconst (v := 0) hx hb dX3_isNew_128 (by decide) ?_
              subst hQ
              exact W.zret (v := 0) hx hb hr (by decide) (fun t ht hW => ⟨⟨0, F, rfl, ⟨rfl, (zB.of ⟨by decide, by decide⟩), trivial⟩, by rw [ht]; exact h.1, h.2.1, zFr.rf⟩, h.2.2.F ht⟩) h.2.2.2.2 dX3_isNew_129
            · have c_38 := z_nlt c_38
              have by6_j82_37_39 : zB (-1) 600 y6_j82_37 := zB.leL c_38 by6_j82_37 bx_30 (by decide)
              have bx_30_40 : zB (-1) 600 x_30 := zB.leR c_38 by6_j82_37 bx_30 (by decide)
              refine lv_aload_n hx hb dX3_isNew_91 rfl (lv_at hl 4 rfl) ?_
              refine zt_getk (t := 6) (C := RX6) (T := TX6) (N := 6) Z h hno zin_6 rfl 0 ka_13 ⟨by decide, rfl, by decide⟩ (zm_RX3 (List.mem_of_getElem? (i := 17) rfl)) (fun _ h9 => h9) dX3_isNew_92 ?_
              refine lv_iload hx hb dX3_isNew_95 (lv_at hl 0 rfl) ?_
              refine lv_aload_n hx hb dX3_isNew_97 rfl (lv_at hl 3 rfl) ?_
              refine zt_getr (t := 6) (C := RX6) (T := TX6) (N := 6) Z h hbe zin_6 rfl 0 rfl ⟨by decide, rfl⟩ (zm_RX3 (List.mem_of_getElem? (i := 17) rfl)) (fun _ h9 => h9) dX3_isNew_98 (fun a_41 ka_41 ha_41 => ?_)
              refine lv_aload hx hb dX3_isNew_101 (lv_at hl 1 rfl) ?_
              refine zt_getk (t := 2) (C := RX2) (T := TX2) (N := 9) Z h ha_29 zin_2 rfl 1 kx_34 ⟨by decide, rfl, by decide⟩ (zm_RX3 (List.mem_of_getElem? (i := 21) rfl)) (fun _ h9 => h9) dX3_isNew_103 ?_
              refine lv_iload hx hb dX3_isNew_106 (lv_at hl 0 rfl) ?_
              refine lv_iadd hx hb dX3_isNew_108 ?_
              refine zi_add (lo := (-2)) (hi := 1201) bx_34 by6_j82_37_39 (by decide) (fun x_42 bx_42 tx_42 => ?_)
              refine lv_aload_n hx hb dX3_isNew_109 rfl (lv_at hl 2 rfl) ?_
              refine zt_getk (t := 2) (C := RX2) (T := TX2) (N := 9) Z h ha_12 zin_2 rfl 1 kx_31 ⟨by decide, rfl, by decide⟩ (zm_RX3 (List.mem_of_getElem? (i := 21) rfl)) (fun _ h9 => h9) dX3_isNew_110 ?_
              refine lv_isub hx hb dX3_isNew_113 ?_
              refine zi_sub (lo := (-603)) (hi := 1202) bx_42 bx_31 (by decide) (fun x_43 bx_43 tx_43 => ?_)
              refine zk_Vi (As := [.int y6_j82_37, .ref a_41, .int x_43]) (rest := []) (bytes := cX8_isLike) (maxL := 5) (ret := (some .boolean)) Z h (zc_X8_isLike l D k Γ L F H.size a_13 y6_j82_37 a_41 x_43 ha_13 ha_41) (cwV 3 hg zv_RX3_66 rfl rfl rfl zd_X8_isLike ⟨z_leR hRf (by decide), z_leR hRl (by decide)⟩) ha_13 (by decide) rfl rfl hl.1 rfl (Nat.le_of_ble_eq_true rfl) dX3_isNew_114 ⟨Nat.zero_le _, Nat.zero_le _⟩ (fun r_44 F_45 H locs w_46 h hfF_45 => ?_)
              obtain ⟨rfl, br_44, -⟩ := w_46
              refine lv_if_ne (tgt := 122) hx hb dX3_isNew_117 (by decide) (fun c_47 => ?_) (fun c_47 => ?_)
              · have c_47 := z_ne c_47
                have br_44_48 : zB 1 1 r_44 := zB.neLo c_47 br_44 (zBc 0 0 (by decide)) (by decide)
                obtain ⟨x_49, ex_49, bx_49, tx_49⟩ := z_inc (n := 1) (lo := 0) (hi := 601) by6_j82_37_39 (by decide)
                refine lv_iinc (v := x_49) (lv' := [(6, .int x_49), (5, .ref a_29), (3, .ref a_12), (0, .ref be), (1, .ref no)]) hx hb dX3_isNew_122 hl (k := 0) rfl ex_49 (by decide) rfl (fun ls hl => ?_)
                refine lv_goto (tgt := 82) hx hb dX3_isNew_125 (by decide) ?_
                exact ih_j82_37 _ (by have := bx_49.1; have := bx_49.2; have := bx_8.1; have := bx_8.2; have := bx_14.1; have := bx_14.2; have := bx_25.1; have := bx_25.2; have := bx_30_40.1; have := bx_30_40.2; have := bx_31.1; have := bx_31.2; have := bx_33.1; have := bx_33.2; have := bx_34.1; have := bx_34.2; have : (0 : Int32).toInt = 0 := (by decide); have := by6_j82_37.1; have := by6_j82_37.2; omega) ls x_49 H locs (lv_sub hl [0, 1, 2, 3, 4] rfl) (bx_49.w ⟨by decide, by decide⟩) h rfl
              · have c_47 := z_eq c_47
                have br_44_50 : zB 0 0 r_44 := zB.eqL (a := 0) (b := 0) c_47 (zBc 0 0 (by decide))
                refine lv_iconst (v := 1) hx hb dX3_isNew_120 (by decide) ?_
                subst hQ
                exact W.zret (v := 1) hx hb hr (by decide) (fun t ht hW => ⟨⟨1, F, rfl, ⟨rfl, (zB.of ⟨by decide, by decide⟩), trivial⟩, by rw [ht]; exact h.1, h.2.1, zFr.rf⟩, h.2.2.F ht⟩) h.2.2.2.2 dX3_isNew_121
        exact j_j82_37 _ ls x_31 H locs (lv_sub hl [0, 1, 3, 4, 5] rfl) bx_31 h rfl
      · have c_36 := z_ne c_36
        refine lv_iconst (v := 1) hx hb dX3_isNew_74 (by decide) ?_
        subst hQ
        exact W.zret (v := 1) hx hb hr (by decide) (fun t ht hW => ⟨⟨1, F, rfl, ⟨rfl, (zB.of ⟨by decide, by decide⟩), trivial⟩, by rw [ht]; exact h.1, h.2.1, zFr.rf⟩, h.2.2.F ht⟩) h.2.2.2.2 dX3_isNew_75
    · have c_23 := z_eq c_23
      have br_18_51 : zB 0 0 r_18 := zB.eqL (a := 0) (b := 0) c_23 (zBc 0 0 (by decide))
      refine lv_iconst (v := 1) hx hb dX3_isNew_40 (by decide) ?_
      subst hQ
      exact W.zret (v := 1) hx hb hr (by decide) (fun t ht hW => ⟨⟨1, F, rfl, ⟨rfl, (zB.of ⟨by decide, by decide⟩), trivial⟩, by rw [ht]; exact h.1, h.2.1, zFr.rf⟩, h.2.2.F ht⟩) h.2.2.2.2 dX3_isNew_41
  · have c_6 := z_eq c_6
    have br_1_52 : zB 0 0 r_1 := zB.eqL (a := 0) (b := 0) c_6 (zBc 0 0 (by decide))
    refine lv_iconst (v := 1) hx hb dX3_isNew_8 (by decide) ?_
    subst hQ
    exact W.zret (v := 1) hx hb hr (by decide) (fun t ht hW => ⟨⟨1, F, rfl, ⟨rfl, (zB.of ⟨by decide, by decide⟩), trivial⟩, by rw [ht]; exact h.1, h.2.1, zFr.rf⟩, h.2.2.F ht⟩) h.2.2.2.2 dX3_isNew_9

set_option maxHeartbeats 4000000 in
set_option maxRecDepth 100000 in
theorem zc_X3_findReaches (l : Launch) (D : va_G) (k : Nat → ClassId) (Γ : Nat → Option Nat) (L : List Nat) (F : Nat → va_E) (sz : Nat) (th : Nat) (pr : Nat) (hth : Γ th = some 3) (hpr : Γ pr = some 6) : Met l yX3_findReaches zwX3_findReaches ({ frames := 1, cells := 0, slots := 0, locals := 40 }) (va_Pc [.ref th, .ref pr] (zP D k Γ L F sz)) (va_Qv (fun (u : Nat → va_E) => True) (zQ D k Γ L F [16300]) (zA L sz)) 0 0 (zA L sz) := by
  refine Met.ofW (cc := cX3_findReaches) (maxL := 5) (ret := none) (by decide) rfl ?_
  intro p e s m args below meth c s₁ B hml hv
  obtain ⟨rfl, hsz, hP, hK, hLn, hE, hI⟩ := hv
  have hx := B.exec
  have hb := B.bytes
  have hr := B.returns
  have hg : ∀ w ∈ zG, w.before _ s = true := fun w h9 => atoms_spec (ws := zwX3_findReaches) B.pre w (List.mem_cons_of_mem _ h9)
  have hown : s.vm.findClass RX3 = some m.cls := findClass_of_methodNamed B.named
  have hlocks := B.notSynchronized
  subst hsz
  have Z : zC p m c cX3_findReaches 5 s _ zG RX3 D k L := ⟨⟨hx, hb, hml, hown, hg⟩, hK, hLn, hE⟩
  have h : zH D k Γ L s F s.heap [] := ⟨hP, hI, va_S.rf⟩
  have hl := lv_entry ([.ref th, .ref pr]) (n := 5) (Nat.le_of_ble_eq_true rfl)
  rw [lg_entry_eq]
  generalize (lg_sl ([.ref th, .ref pr]) ++ List.replicate (5 - (lg_sl ([.ref th, .ref pr])).length) Slot.unset).toArray = ls at hl ⊢
  have hl : lv_has ls 5 [(0, .ref th), (1, .ref pr)] := hl
  clear hP hK hLn hE hI
  generalize hargs : ([.ref th, .ref pr] : List Value).toArray = args at *
  refine z_start (fun R Q hRf hRl hQ => ?_)
  have hRf : R.frames = 1 := hRf
  have hRl : R.locals = 40 := hRl
  refine lv_aload_n hx hb dX3_findReaches_0 rfl (lv_at hl 1 rfl) ?_
  refine zt_geti (t := 6) (C := RX6) (T := TX6) (N := 6) Z h hpr zin_6 rfl 4 rfl ⟨by decide, rfl⟩ (zm_RX3 (List.mem_of_getElem? (i := 4) rfl)) (fun _ h9 => h9) dX3_findReaches_1 (fun x_1 kx_1 bx_1 => ?_)
  refine lv_aload_n hx hb dX3_findReaches_4 rfl (lv_at hl 0 rfl) ?_
  refine zt_getr (t := 3) (C := RX3) (T := TX3) (N := 3) Z h hth zin_3 rfl 1 rfl ⟨by decide, rfl⟩ (zm_RX3 (List.mem_of_getElem? (i := 10) rfl)) (fun _ h9 => h9) dX3_findReaches_5 (fun a_2 ka_2 ha_2 => ?_)
  refine zt_alen (t := 163) Z h ha_2 ⟨by decide, rfl⟩ (by decide) (v := 10) rfl dX3_findReaches_8 ?_
  refine va_mmin hx hb (by rw [hml]; exact hl.1.symm) hown (hg _ (zm_RX3 (List.mem_of_getElem? (i := 24) rfl))) (hg _ (zm_RX3 (List.mem_of_getElem? (i := 25) rfl))) (hg _ (zm_RX3 (List.mem_of_getElem? (i := 26) rfl))) (hg _ (zm_RX3 (List.mem_of_getElem? (i := 27) rfl))) (z_leR hRf (by decide)) (z_leR hRl (Nat.le_of_ble_eq_true rfl)) (Nat.zero_le _) (Nat.zero_le _) dX3_findReaches_9 ?_
  refine zi_min (lo := 0) (hi := 10) bx_1 (zBc 10 10 (by decide)) (by decide) (fun x_3 bx_3 tx_3 => ?_)
  refine lv_istore_n (lv' := [(2, .int x_3), (0, .ref th), (1, .ref pr)]) hx hb dX3_findReaches_12 rfl hl (by decide) rfl (fun ls hl => ?_)
  refine lv_iconst (v := 0) hx hb dX3_findReaches_13 (by decide) ?_
  refine lv_istore_n (lv' := [(3, .int 0), (2, .int x_3), (0, .ref th), (1, .ref pr)]) hx hb dX3_findReaches_14 rfl hl (by decide) rfl (fun ls hl => ?_)
  have j_j15_4 : ∀ (n : Nat) (ls : Array Slot) (y3_j15_4 : Int32) (F_5 : Nat → va_E) (H : Heap) (locs : List Loc), lv_has ls 5 [(3, .int y3_j15_4), (2, .int x_3), (0, .ref th), (1, .ref pr)] → zB 0 10 y3_j15_4 → zH D k Γ L s F_5 H locs → zFr Γ [16300] F F_5 → (2147483647 - y3_j15_4.toInt).toNat = n → W p l e R s m args below meth c H locs 0 0 Q (F0 m 15 ls []) := by
    intro n
    induction n using Nat.strongRecOn with
    | _ n ih_j15_4 =>
      intro ls y3_j15_4 F_5 H locs hl by3_j15_4 h hfF_5 hn_j15_4
      refine lv_iload_n hx hb dX3_findReaches_15 rfl (lv_at hl 0 rfl) ?_
      refine lv_iload_n hx hb dX3_findReaches_16 rfl (lv_at hl 1 rfl) ?_
      refine lv_icmp_ge (tgt := 41) hx hb dX3_findReaches_17 (by decide) (fun c_6 => ?_) (fun c_6 => ?_)
      · have c_6 := z_le c_6
        refine lv_iconst (v := 0) hx hb dX3_findReaches_41 (by decide) ?_
        refine lv_istore_n (lv' := [(3, .int 0), (2, .int x_3), (0, .ref th), (1, .ref pr)]) hx hb dX3_findReaches_42 rfl hl (by decide) rfl (fun ls hl => ?_)
        have j_j43_7 : ∀ (n : Nat) (ls : Array Slot) (y3_j43_7 : Int32) (F_8 : Nat → va_E) (H : Heap) (locs : List Loc), lv_has ls 5 [(3, .int y3_j43_7), (2, .int x_3), (0, .ref th)] → zB 0 10 y3_j43_7 → zH D k Γ L s F_8 H locs → zFr Γ [16300] F_5 F_8 → (2147483647 - y3_j43_7.toInt).toNat = n → W p l e R s m args below meth c H locs 0 0 Q (F0 m 43 ls []) := by
          intro n
          induction n using Nat.strongRecOn with
          | _ n ih_j43_7 =>
            intro ls y3_j43_7 F_8 H locs hl by3_j43_7 h hfF_8 hn_j43_7
            refine lv_iload_n hx hb dX3_findReaches_43 rfl (lv_at hl 0 rfl) ?_
            refine lv_iload_n hx hb dX3_findReaches_44 rfl (lv_at hl 1 rfl) ?_
            refine lv_icmp_ge (tgt := 99) hx hb dX3_findReaches_45 (by decide) (fun c_9 => ?_) (fun c_9 => ?_)
            · have c_9 := z_le c_9
              subst hQ
              exact W.vret hx hb hr (fun t ht hW => ⟨⟨F_8, rfl, trivial, by rw [ht]; exact h.1, h.2.1, (hfF_5.trans hfF_8 (by decide))⟩, h.2.2.F ht⟩) h.2.2.2.2 dX3_findReaches_99
            · have c_9 := z_nle c_9
              have by3_j43_7_10 : zB 0 9 y3_j43_7 := zB.ltL c_9 by3_j43_7 bx_3 (by decide)
              have bx_3_11 : zB 1 10 x_3 := zB.ltR c_9 by3_j43_7 bx_3 (by decide)
              refine lv_iconst (v := 0) hx hb dX3_findReaches_48 (by decide) ?_
              refine lv_istore (lv' := [(4, .int 0), (3, .int y3_j43_7), (2, .int x_3), (0, .ref th)]) hx hb dX3_findReaches_49 hl (by decide) rfl (fun ls hl => ?_)
              have j_j51_12 : ∀ (n : Nat) (ls : Array Slot) (y4_j51_12 : Int32) (F_13 : Nat → va_E) (H : Heap) (locs : List Loc), lv_has ls 5 [(4, .int y4_j51_12), (3, .int y3_j43_7), (2, .int x_3), (0, .ref th)] → zB 0 10 y4_j51_12 → zH D k Γ L s F_13 H locs → zFr Γ [16300] F_8 F_13 → (2147483647 - y4_j51_12.toInt).toNat = n → W p l e R s m args below meth c H locs 0 0 Q (F0 m 51 ls []) := by
                intro n
                induction n using Nat.strongRecOn with
                | _ n ih_j51_12 =>
                  intro ls y4_j51_12 F_13 H locs hl by4_j51_12 h hfF_13 hn_j51_12
                  refine lv_iload hx hb dX3_findReaches_51 (lv_at hl 0 rfl) ?_
                  refine lv_iload_n hx hb dX3_findReaches_53 rfl (lv_at hl 2 rfl) ?_
                  refine lv_icmp_ge (tgt := 93) hx hb dX3_findReaches_54 (by decide) (fun c_14 => ?_) (fun c_14 => ?_)
                  · have c_14 := z_le c_14
                    have by4_j51_12_15 : zB 1 10 y4_j51_12 := zB.leR c_14 bx_3_11 by4_j51_12 (by decide)
                    obtain ⟨x_16, ex_16, bx_16, tx_16⟩ := z_inc (n := 1) (lo := 1) (hi := 10) by3_j43_7_10 (by decide)
                    refine lv_iinc (v := x_16) (lv' := [(3, .int x_16), (4, .int y4_j51_12), (2, .int x_3), (0, .ref th)]) hx hb dX3_findReaches_93 hl (k := 1) rfl ex_16 (by decide) rfl (fun ls hl => ?_)
                    refine lv_goto (tgt := 43) hx hb dX3_findReaches_96 (by decide) ?_
                    exact ih_j43_7 _ (by have := bx_16.1; have := bx_16.2; have := by4_j51_12_15.1; have := by4_j51_12_15.2; have := bx_3_11.1; have := bx_3_11.2; have := bx_1.1; have := bx_1.2; have : (10 : Int32).toInt = 10 := (by decide); have := by3_j43_7.1; have := by3_j43_7.2; omega) ls x_16 F_13 H locs (lv_sub hl [0, 2, 3] rfl) (bx_16.w ⟨by decide, by decide⟩) h (hfF_8.trans hfF_13 (by decide)) rfl
                  · have c_14 := z_nle c_14
                    have by4_j51_12_17 : zB 0 9 y4_j51_12 := zB.ltL c_14 by4_j51_12 bx_3_11 (by decide)
                    refine lv_aload_n hx hb dX3_findReaches_57 rfl (lv_at hl 3 rfl) ?_
                    refine zt_getk (t := 3) (C := RX3) (T := TX3) (N := 3) Z h hth zin_3 rfl 1 (hfF_13.f hth 1 ⟨by decide, by decide⟩ (hfF_8.f hth 1 ⟨by decide, by decide⟩ (hfF_5.f hth 1 ⟨by decide, by decide⟩ ka_2))) ⟨by decide, rfl, by decide⟩ (zm_RX3 (List.mem_of_getElem? (i := 10) rfl)) (fun _ h9 => h9) dX3_findReaches_58 ?_
                    refine lv_iload hx hb dX3_findReaches_61 (lv_at hl 0 rfl) ?_
                    refine zt_ialde (t := 163) Z h ha_2 ⟨by decide, rfl⟩ by4_j51_12_17 ⟨by decide, by decide⟩ dX3_findReaches_63 (fun x_18 ex_18 bx_18 => ?_)
                    refine lv_iload_n hx hb dX3_findReaches_64 rfl (lv_at hl 1 rfl) ?_
                    refine lv_ishr hx hb dX3_findReaches_65 ?_
                    refine zi_any (fun x_19 bx_19 ex_19 => ?_)
                    refine lv_iconst (v := 1) hx hb dX3_findReaches_66 (by decide) ?_
                    refine lv_iand hx hb dX3_findReaches_67 ?_
                    refine zi_and ((zBc 1 1 (by decide)).w ⟨by decide, by decide⟩ : zB 0 1 _) (fun x_20 bx_20 ex_20 => ?_)
                    refine lv_if_eq (tgt := 87) hx hb dX3_findReaches_68 (by decide) (fun c_21 => ?_) (fun c_21 => ?_)
                    · have c_21 := z_eq c_21
                      have bx_20_22 : zB 0 0 x_20 := zB.eqL (a := 0) (b := 0) c_21 (zBc 0 0 (by decide))
                      obtain ⟨x_23, ex_23, bx_23, tx_23⟩ := z_inc (n := 1) (lo := 1) (hi := 10) by4_j51_12_17 (by decide)
                      refine lv_iinc (v := x_23) (lv' := [(4, .int x_23), (3, .int y3_j43_7), (2, .int x_3), (0, .ref th)]) hx hb dX3_findReaches_87 hl (k := 0) rfl ex_23 (by decide) rfl (fun ls hl => ?_)
                      refine lv_goto (tgt := 51) hx hb dX3_findReaches_90 (by decide) ?_
                      exact ih_j51_12 _ (by have := bx_23.1; have := bx_23.2; have := by3_j43_7_10.1; have := by3_j43_7_10.2; have := bx_3_11.1; have := bx_3_11.2; have := bx_1.1; have := bx_1.2; have : (0 : Int32).toInt = 0 := (by decide); have : (1 : Int32).toInt = 1 := (by decide); have : (10 : Int32).toInt = 10 := (by decide); have := by4_j51_12.1; have := by4_j51_12.2; omega) ls x_23 F_13 H locs (lv_sub hl [0, 1, 2, 3] rfl) (bx_23.w ⟨by decide, by decide⟩) h hfF_13 rfl
                    · have c_21 := z_ne c_21
                      have bx_20_24 : zB 1 1 x_20 := zB.neLo c_21 bx_20 (zBc 0 0 (by decide)) (by decide)
                      refine lv_aload_n hx hb dX3_findReaches_71 rfl (lv_at hl 3 rfl) ?_
                      refine zt_getk (t := 3) (C := RX3) (T := TX3) (N := 3) Z h hth zin_3 rfl 1 (hfF_13.f hth 1 ⟨by decide, by decide⟩ (hfF_8.f hth 1 ⟨by decide, by decide⟩ (hfF_5.f hth 1 ⟨by decide, by decide⟩ ka_2))) ⟨by decide, rfl, by decide⟩ (zm_RX3 (List.mem_of_getElem? (i := 10) rfl)) (fun _ h9 => h9) dX3_findReaches_72 ?_
                      refine lv_iload hx hb dX3_findReaches_75 (lv_at hl 0 rfl) ?_
                      refine lv_dup2_11 hx hb dX3_findReaches_77 rfl rfl ?_
                      refine zt_ialdk (t := 163) Z h ha_2 ⟨by decide, rfl⟩ by4_j51_12_17 ⟨by decide, by decide⟩ ex_18 dX3_findReaches_78 ?_
                      refine lv_aload_n hx hb dX3_findReaches_79 rfl (lv_at hl 3 rfl) ?_
                      refine zt_getk (t := 3) (C := RX3) (T := TX3) (N := 3) Z h hth zin_3 rfl 1 (hfF_13.f hth 1 ⟨by decide, by decide⟩ (hfF_8.f hth 1 ⟨by decide, by decide⟩ (hfF_5.f hth 1 ⟨by decide, by decide⟩ ka_2))) ⟨by decide, rfl, by decide⟩ (zm_RX3 (List.mem_of_getElem? (i := 10) rfl)) (fun _ h9 => h9) dX3_findReaches_80 ?_
                      refine lv_iload_n hx hb dX3_findReaches_83 rfl (lv_at hl 1 rfl) ?_
                      refine zt_ialde (t := 163) Z h ha_2 ⟨by decide, rfl⟩ by3_j43_7_10 ⟨by decide, by decide⟩ dX3_findReaches_84 (fun x_25 ex_25 bx_25 => ?_)
                      refine lv_ior hx hb dX3_findReaches_85 ?_
                      refine zi_any (fun x_26 bx_26 ex_26 => ?_)
                      refine zt_iast (t := 163) Z h ha_2 ⟨by decide, rfl⟩ by4_j51_12_17 ⟨by decide, by decide⟩ bx_26 dX3_findReaches_86 (fun H locs F_27 h hfF_27 => ?_)
                      obtain ⟨x_28, ex_28, bx_28, tx_28⟩ := z_inc (n := 1) (lo := 1) (hi := 10) by4_j51_12_17 (by decide)
                      refine lv_iinc (v := x_28) (lv' := [(4, .int x_28), (3, .int y3_j43_7), (2, .int x_3), (0, .ref th)]) hx hb dX3_findReaches_87 hl (k := 0) rfl ex_28 (by decide) rfl (fun ls hl => ?_)
                      refine lv_goto (tgt := 51) hx hb dX3_findReaches_90 (by decide) ?_
                      exact ih_j51_12 _ (by have := bx_28.1; have := bx_28.2; have := by3_j43_7_10.1; have := by3_j43_7_10.2; have := bx_3_11.1; have := bx_3_11.2; have := bx_1.1; have := bx_1.2; have : (0 : Int32).toInt = 0 := (by decide); have : (1 : Int32).toInt = 1 := (by decide); have : (10 : Int32).toInt = 10 := (by decide); have := by4_j51_12.1; have := by4_j51_12.2; omega) ls x_28 F_27 H locs (lv_sub hl [0, 1, 2, 3] rfl) (bx_28.w ⟨by decide, by decide⟩) h (hfF_13.trans hfF_27 (by decide)) rfl
              exact j_j51_12 _ ls 0 F_8 H locs (lv_sub hl [0, 1, 2, 3] rfl) (zB.of ⟨by decide, by decide⟩) h zFr.rf rfl
        exact j_j43_7 _ ls 0 F_5 H locs (lv_sub hl [0, 1, 2] rfl) (zB.of ⟨by decide, by decide⟩) h zFr.rf rfl
      · have c_6 := z_nle c_6
        have by3_j15_4_29 : zB 0 9 y3_j15_4 := zB.ltL c_6 by3_j15_4 bx_3 (by decide)
        have bx_3_30 : zB 1 10 x_3 := zB.ltR c_6 by3_j15_4 bx_3 (by decide)
        refine lv_aload_n hx hb dX3_findReaches_20 rfl (lv_at hl 2 rfl) ?_
        refine zt_getk (t := 3) (C := RX3) (T := TX3) (N := 3) Z h hth zin_3 rfl 1 (hfF_5.f hth 1 ⟨by decide, by decide⟩ ka_2) ⟨by decide, rfl, by decide⟩ (zm_RX3 (List.mem_of_getElem? (i := 10) rfl)) (fun _ h9 => h9) dX3_findReaches_21 ?_
        refine lv_iload_n hx hb dX3_findReaches_24 rfl (lv_at hl 0 rfl) ?_
        refine lv_aload_n hx hb dX3_findReaches_25 rfl (lv_at hl 3 rfl) ?_
        refine zt_getr (t := 6) (C := RX6) (T := TX6) (N := 6) Z h hpr zin_6 rfl 2 rfl ⟨by decide, rfl⟩ (zm_RX3 (List.mem_of_getElem? (i := 16) rfl)) (fun _ h9 => h9) dX3_findReaches_26 (fun a_31 ka_31 ha_31 => ?_)
        refine lv_iload_n hx hb dX3_findReaches_29 rfl (lv_at hl 0 rfl) ?_
        refine zt_aald (t := 104) (t1 := 2) Z h ha_31 ⟨by decide, rfl⟩ (by decide) by3_j15_4_29 ⟨by decide, by decide⟩ dX3_findReaches_30 (fun a_32 ha_32 => ?_)
        refine zt_geti (t := 2) (C := RX2) (T := TX2) (N := 9) Z h ha_32 zin_2 rfl 6 rfl ⟨by decide, rfl⟩ (zm_RX3 (List.mem_of_getElem? (i := 28) rfl)) (fun _ h9 => h9) dX3_findReaches_31 (fun x_33 kx_33 bx_33 => ?_)
        refine zt_iast (t := 163) Z h ha_2 ⟨by decide, rfl⟩ by3_j15_4_29 ⟨by decide, by decide⟩ bx_33 dX3_findReaches_34 (fun H locs F_34 h hfF_34 => ?_)
        obtain ⟨x_35, ex_35, bx_35, tx_35⟩ := z_inc (n := 1) (lo := 1) (hi := 10) by3_j15_4_29 (by decide)
        refine lv_iinc (v := x_35) (lv' := [(3, .int x_35), (2, .int x_3), (0, .ref th), (1, .ref pr)]) hx hb dX3_findReaches_35 hl (k := 0) rfl ex_35 (by decide) rfl (fun ls hl => ?_)
        refine lv_goto (tgt := 15) hx hb dX3_findReaches_38 (by decide) ?_
        exact ih_j15_4 _ (by have := bx_35.1; have := bx_35.2; have := bx_3_30.1; have := bx_3_30.2; have := bx_1.1; have := bx_1.2; have := bx_33.1; have := bx_33.2; have : (10 : Int32).toInt = 10 := (by decide); have := by3_j15_4.1; have := by3_j15_4.2; omega) ls x_35 F_34 H locs (lv_sub hl [0, 1, 2, 3] rfl) (bx_35.w ⟨by decide, by decide⟩) h (hfF_5.trans hfF_34 (by decide)) rfl
  exact j_j15_4 _ ls 0 F s.heap [] (lv_sub hl [0, 1, 2, 3] rfl) (zB.of ⟨by decide, by decide⟩) h zFr.rf rfl

set_option maxHeartbeats 4000000 in
set_option maxRecDepth 100000 in
theorem zc_X3_countGone (l : Launch) (D : va_G) (k : Nat → ClassId) (Γ : Nat → Option Nat) (L : List Nat) (F : Nat → va_E) (sz : Nat) (be : Nat) (no : Nat) (hbe : Γ be = some 6) (hno : Γ no = some 6) : Met l yX3_countGone zwX3_countGone ({ frames := 4, cells := 0, slots := 0, locals := 90 }) (va_Pc [.ref be, .ref no] (zP D k Γ L F sz)) (va_Qi (fun (r : Int32) (u : Nat → va_E) => F = u ∧ True) (zQ D k Γ L F []) (zA L sz)) 0 0 (zA L sz) := by
  refine Met.ofW (cc := cX3_countGone) (maxL := 4) (ret := (some .int)) (by decide) rfl ?_
  intro p e s m args below meth c s₁ B hml hv
  obtain ⟨rfl, hsz, hP, hK, hLn, hE, hI⟩ := hv
  have hx := B.exec
  have hb := B.bytes
  have hr := B.returns
  have hg : ∀ w ∈ zG, w.before _ s = true := fun w h9 => atoms_spec (ws := zwX3_countGone) B.pre w (List.mem_cons_of_mem _ h9)
  have hown : s.vm.findClass RX3 = some m.cls := findClass_of_methodNamed B.named
  have hlocks := B.notSynchronized
  subst hsz
  have Z : zC p m c cX3_countGone 4 s _ zG RX3 D k L := ⟨⟨hx, hb, hml, hown, hg⟩, hK, hLn, hE⟩
  have h : zH D k Γ L s F s.heap [] := ⟨hP, hI, va_S.rf⟩
  have hl := lv_entry ([.ref be, .ref no]) (n := 4) (Nat.le_of_ble_eq_true rfl)
  rw [lg_entry_eq]
  generalize (lg_sl ([.ref be, .ref no]) ++ List.replicate (4 - (lg_sl ([.ref be, .ref no])).length) Slot.unset).toArray = ls at hl ⊢
  have hl : lv_has ls 4 [(0, .ref be), (1, .ref no)] := hl
  clear hP hK hLn hE hI
  generalize hargs : ([.ref be, .ref no] : List Value).toArray = args at *
  refine z_start (fun R Q hRf hRl hQ => ?_)
  have hRf : R.frames = 4 := hRf
  have hRl : R.locals = 90 := hRl
  refine lv_iconst (v := 0) hx hb dX3_countGone_0 (by decide) ?_
  refine lv_istore_n (lv' := [(2, .int 0), (0, .ref be), (1, .ref no)]) hx hb dX3_countGone_1 rfl hl (by decide) rfl (fun ls hl => ?_)
  refine lv_iconst (v := 0) hx hb dX3_countGone_2 (by decide) ?_
  refine lv_istore_n (lv' := [(3, .int 0), (2, .int 0), (0, .ref be), (1, .ref no)]) hx hb dX3_countGone_3 rfl hl (by decide) rfl (fun ls hl => ?_)
  have j_j4_1 : ∀ (n : Nat) (ls : Array Slot) (y3_j4_1 : Int32) (y2_j4_1 : Int32) (H : Heap) (locs : List Loc), lv_has ls 4 [(3, .int y3_j4_1), (2, .int y2_j4_1), (0, .ref be), (1, .ref no)] → zB 0 10 y3_j4_1 → zB (-2147483648) 2147483647 y2_j4_1 → zH D k Γ L s F H locs → (2147483647 - y3_j4_1.toInt).toNat = n → W p l e R s m args below meth c H locs 0 0 Q (F0 m 4 ls []) := by
    intro n
    induction n using Nat.strongRecOn with
    | _ n ih_j4_1 =>
      intro ls y3_j4_1 y2_j4_1 H locs hl by3_j4_1 by2_j4_1 h hn_j4_1
      refine lv_iload_n hx hb dX3_countGone_4 rfl (lv_at hl 0 rfl) ?_
      refine lv_aload_n hx hb dX3_countGone_5 rfl (lv_at hl 2 rfl) ?_
      refine zt_geti (t := 6) (C := RX6) (T := TX6) (N := 6) Z h hbe zin_6 rfl 4 rfl ⟨by decide, rfl⟩ (zm_RX3 (List.mem_of_getElem? (i := 4) rfl)) (fun _ h9 => h9) dX3_countGone_6 (fun x_2 kx_2 bx_2 => ?_)
      refine lv_icmp_ge (tgt := 51) hx hb dX3_countGone_9 (by decide) (fun c_3 => ?_) (fun c_3 => ?_)
      · have c_3 := z_le c_3
        refine lv_iload_n hx hb dX3_countGone_51 rfl (lv_at hl 1 rfl) ?_
        subst hQ
        exact W.iret (v := y2_j4_1) hx hb hr (fun t ht hW => ⟨⟨y2_j4_1, F, rfl, ⟨rfl, trivial⟩, by rw [ht]; exact h.1, h.2.1, zFr.rf⟩, h.2.2.F ht⟩) h.2.2.2.2 dX3_countGone_52
      · have c_3 := z_nle c_3
        have by3_j4_1_4 : zB 0 9 y3_j4_1 := zB.ltL c_3 by3_j4_1 bx_2 (by decide)
        have bx_2_5 : zB 1 10 x_2 := zB.ltR c_3 by3_j4_1 bx_2 (by decide)
        refine lv_iload_n hx hb dX3_countGone_12 rfl (lv_at hl 0 rfl) ?_
        refine lv_aload_n hx hb dX3_countGone_13 rfl (lv_at hl 2 rfl) ?_
        refine zt_getr (t := 6) (C := RX6) (T := TX6) (N := 6) Z h hbe zin_6 rfl 2 rfl ⟨by decide, rfl⟩ (zm_RX3 (List.mem_of_getElem? (i := 16) rfl)) (fun _ h9 => h9) dX3_countGone_14 (fun a_6 ka_6 ha_6 => ?_)
        refine zt_alen (t := 104) Z h ha_6 ⟨by decide, rfl⟩ (by decide) (v := 10) rfl dX3_countGone_17 ?_
        refine lv_icmp_ge (tgt := 51) hx hb dX3_countGone_18 (by decide) (fun c_7 => ?_) (fun c_7 => ?_)
        · have c_7 := z_le c_7
          exact zB.noLe c_7 (zBc 10 10 (by decide)) by3_j4_1_4 (by decide)
        · have c_7 := z_nle c_7
          refine lv_aload_n hx hb dX3_countGone_21 rfl (lv_at hl 3 rfl) ?_
          refine lv_aload_n hx hb dX3_countGone_22 rfl (lv_at hl 2 rfl) ?_
          refine zt_getr (t := 6) (C := RX6) (T := TX6) (N := 6) Z h hbe zin_6 rfl 0 rfl ⟨by decide, rfl⟩ (zm_RX3 (List.mem_of_getElem? (i := 17) rfl)) (fun _ h9 => h9) dX3_countGone_23 (fun a_8 ka_8 ha_8 => ?_)
          refine lv_aload_n hx hb dX3_countGone_26 rfl (lv_at hl 2 rfl) ?_
          refine zt_getk (t := 6) (C := RX6) (T := TX6) (N := 6) Z h hbe zin_6 rfl 2 ka_6 ⟨by decide, rfl, by decide⟩ (zm_RX3 (List.mem_of_getElem? (i := 16) rfl)) (fun _ h9 => h9) dX3_countGone_27 ?_
          refine lv_iload_n hx hb dX3_countGone_30 rfl (lv_at hl 0 rfl) ?_
          refine zt_aald (t := 104) (t1 := 2) Z h ha_6 ⟨by decide, rfl⟩ (by decide) by3_j4_1_4 ⟨by decide, by decide⟩ dX3_countGone_31 (fun a_9 ha_9 => ?_)
          refine zt_geti (t := 2) (C := RX2) (T := TX2) (N := 9) Z h ha_9 zin_2 rfl 0 rfl ⟨by decide, rfl⟩ (zm_RX3 (List.mem_of_getElem? (i := 18) rfl)) (fun _ h9 => h9) dX3_countGone_32 (fun x_10 kx_10 bx_10 => ?_)
          refine zk_Vi (As := [.ref a_8, .int x_10]) (rest := []) (bytes := cX6_functionNamed) (maxL := 4) (ret := (some .int)) Z h (zc_X6_functionNamed l D k Γ L F H.size no a_8 x_10 hno ha_8) (cwV 2 hg zv_RX3_56 rfl rfl rfl zd_X6_functionNamed ⟨z_leR hRf (by decide), z_leR hRl (by decide)⟩) hno (by decide) rfl rfl hl.1 rfl (Nat.le_of_ble_eq_true rfl) dX3_countGone_35 ⟨Nat.zero_le _, Nat.zero_le _⟩ (fun r_11 F_12 H locs w_13 h hfF_12 => ?_)
          obtain ⟨rfl, br_11, -⟩ := w_13
          refine lv_iconst (v := (-1)) hx hb dX3_countGone_38 (by decide) ?_
          refine lv_icmp_ne (tgt := 45) hx hb dX3_countGone_39 (by decide) (fun c_14 => ?_) (fun c_14 => ?_)
          · have c_14 := z_ne c_14
            have br_11_15 : zB 0 9 r_11 := zB.neLo c_14 br_11 (zBc (-1) (-1) (by decide)) (by decide)
            obtain ⟨x_16, ex_16, bx_16, tx_16⟩ := z_inc (n := 1) (lo := 1) (hi := 10) by3_j4_1_4 (by decide)
            refine lv_iinc (v := x_16) (lv' := [(3, .int x_16), (2, .int y2_j4_1), (0, .ref be), (1, .ref no)]) hx hb dX3_countGone_45 hl (k := 0) rfl ex_16 (by decide) rfl (fun ls hl => ?_)
            refine lv_goto (tgt := 4) hx hb dX3_countGone_48 (by decide) ?_
            exact ih_j4_1 _ (by have := bx_16.1; have := bx_16.2; have := by2_j4_1.1; have := by2_j4_1.2; have := bx_2_5.1; have := bx_2_5.2; have := bx_10.1; have := bx_10.2; have : ((-1) : Int32).toInt = (-1) := (by decide); have : (10 : Int32).toInt = 10 := (by decide); have := by3_j4_1.1; have := by3_j4_1.2; have := by2_j4_1.1; have := by2_j4_1.2; omega) ls x_16 y2_j4_1 H locs (lv_sub hl [0, 1, 2, 3] rfl) (bx_16.w ⟨by decide, by decide⟩) by2_j4_1 h rfl
          · have c_14 := z_eq c_14
            have br_11_17 : zB (-1) (-1) r_11 := zB.eqL (a := 0) (b := 0) c_14 (zBc (-1) (-1) (by decide))
            obtain ⟨x_18, ex_18⟩ : ∃ z : Int32, y2_j4_1 + Int32.ofInt 1 = z := ⟨_, rfl⟩
            have bx_18 := zB.all x_18
            refine lv_iinc (v := x_18) (lv' := [(2, .int x_18), (3, .int y3_j4_1), (0, .ref be), (1, .ref no)]) hx hb dX3_countGone_42 hl (k := 1) rfl ex_18 (by decide) rfl (fun ls hl => ?_)
            obtain ⟨x_19, ex_19, bx_19, tx_19⟩ := z_inc (n := 1) (lo := 1) (hi := 10) by3_j4_1_4 (by decide)
            refine lv_iinc (v := x_19) (lv' := [(3, .int x_19), (2, .int x_18), (0, .ref be), (1, .ref no)]) hx hb dX3_countGone_45 hl (k := 1) rfl ex_19 (by decide) rfl (fun ls hl => ?_)
            refine lv_goto (tgt := 4) hx hb dX3_countGone_48 (by decide) ?_
            exact ih_j4_1 _ (by have := bx_19.1; have := bx_19.2; have := bx_18.1; have := bx_18.2; have := bx_2_5.1; have := bx_2_5.2; have := bx_10.1; have := bx_10.2; have : ((-1) : Int32).toInt = (-1) := (by decide); have : (10 : Int32).toInt = 10 := (by decide); have := by3_j4_1.1; have := by3_j4_1.2; have := by2_j4_1.1; have := by2_j4_1.2; omega) ls x_19 x_18 H locs (lv_sub hl [0, 1, 2, 3] rfl) (bx_19.w ⟨by decide, by decide⟩) bx_18 h rfl
  exact j_j4_1 _ ls 0 0 s.heap [] (lv_sub hl [0, 1, 2, 3] rfl) (zB.of ⟨by decide, by decide⟩) (zB.of ⟨by decide, by decide⟩) h rfl

set_option maxHeartbeats 4000000 in
set_option maxRecDepth 100000 in
theorem zc_X3_compare (l : Launch) (D : va_G) (k : Nat → ClassId) (Γ : Nat → Option Nat) (L : List Nat) (F : Nat → va_E) (sz : Nat) (th : Nat) (be : Nat) (no : Nat) (hth : Γ th = some 3) (hbe : Γ be = some 6) (hno : Γ no = some 6) : Met l yX3_compare zwX3_compare ({ frames := 5, cells := 0, slots := 0, locals := 116 }) (va_Pc [.ref th, .ref be, .ref no] (zP D k Γ L F sz)) (va_Qv (fun (u : Nat → va_E) => True) (zQ D k Γ L F [302, 16200, 16300]) (zA L sz)) 0 0 (zA L sz) := by
  refine Met.ofW (cc := cX3_compare) (maxL := 5) (ret := none) (by decide) rfl ?_
  intro p e s m args below meth c s₁ B hml hv
  obtain ⟨rfl, hsz, hP, hK, hLn, hE, hI⟩ := hv
  have hx := B.exec
  have hb := B.bytes
  have hr := B.returns
  have hg : ∀ w ∈ zG, w.before _ s = true := fun w h9 => atoms_spec (ws := zwX3_compare) B.pre w (List.mem_cons_of_mem _ h9)
  have hown : s.vm.findClass RX3 = some m.cls := findClass_of_methodNamed B.named
  have hlocks := B.notSynchronized
  subst hsz
  have Z : zC p m c cX3_compare 5 s _ zG RX3 D k L := ⟨⟨hx, hb, hml, hown, hg⟩, hK, hLn, hE⟩
  have h : zH D k Γ L s F s.heap [] := ⟨hP, hI, va_S.rf⟩
  have hl := lv_entry ([.ref th, .ref be, .ref no]) (n := 5) (Nat.le_of_ble_eq_true rfl)
  rw [lg_entry_eq]
  generalize (lg_sl ([.ref th, .ref be, .ref no]) ++ List.replicate (5 - (lg_sl ([.ref th, .ref be, .ref no])).length) Slot.unset).toArray = ls at hl ⊢
  have hl : lv_has ls 5 [(0, .ref th), (1, .ref be), (2, .ref no)] := hl
  clear hP hK hLn hE hI
  generalize hargs : ([.ref th, .ref be, .ref no] : List Value).toArray = args at *
  refine z_start (fun R Q hRf hRl hQ => ?_)
  have hRf : R.frames = 5 := hRf
  have hRl : R.locals = 116 := hRl
  refine lv_iconst (v := 0) hx hb dX3_compare_0 (by decide) ?_
  refine lv_istore_n (lv' := [(3, .int 0), (0, .ref th), (1, .ref be), (2, .ref no)]) hx hb dX3_compare_1 rfl hl (by decide) rfl (fun ls hl => ?_)
  refine lv_iconst (v := 0) hx hb dX3_compare_2 (by decide) ?_
  refine lv_istore (lv' := [(4, .int 0), (3, .int 0), (0, .ref th), (1, .ref be), (2, .ref no)]) hx hb dX3_compare_3 hl (by decide) rfl (fun ls hl => ?_)
  have j_j5_1 : ∀ (n : Nat) (ls : Array Slot) (y4_j5_1 : Int32) (y3_j5_1 : Int32) (H : Heap) (locs : List Loc), lv_has ls 5 [(4, .int y4_j5_1), (3, .int y3_j5_1), (0, .ref th), (1, .ref be), (2, .ref no)] → zB 0 10 y4_j5_1 → zB (-2147483648) 2147483647 y3_j5_1 → zH D k Γ L s F H locs → (2147483647 - y4_j5_1.toInt).toNat = n → W p l e R s m args below meth c H locs 0 0 Q (F0 m 5 ls []) := by
    intro n
    induction n using Nat.strongRecOn with
    | _ n ih_j5_1 =>
      intro ls y4_j5_1 y3_j5_1 H locs hl by4_j5_1 by3_j5_1 h hn_j5_1
      refine lv_iload hx hb dX3_compare_5 (lv_at hl 0 rfl) ?_
      refine lv_aload_n hx hb dX3_compare_7 rfl (lv_at hl 4 rfl) ?_
      refine zt_geti (t := 6) (C := RX6) (T := TX6) (N := 6) Z h hno zin_6 rfl 4 rfl ⟨by decide, rfl⟩ (zm_RX3 (List.mem_of_getElem? (i := 4) rfl)) (fun _ h9 => h9) dX3_compare_8 (fun x_2 kx_2 bx_2 => ?_)
      refine lv_icmp_ge (tgt := 47) hx hb dX3_compare_11 (by decide) (fun c_3 => ?_) (fun c_3 => ?_)
      · have c_3 := z_le c_3
        refine lv_aload_n hx hb dX3_compare_47 rfl (lv_at hl 2 rfl) ?_
        refine lv_aload_n hx hb dX3_compare_48 rfl (lv_at hl 4 rfl) ?_
        refine zk_Vv (As := [.ref no]) (rest := []) (bytes := cX3_findReaches) (maxL := 5) (ret := none) Z h (zc_X3_findReaches l D k Γ L F H.size th no hth hno) (cwV 1 hg zv_RX3_28 rfl rfl rfl zd_X3_findReaches ⟨z_leR hRf (by decide), z_leR hRl (by decide)⟩) hth (by decide) rfl rfl hl.1 rfl (Nat.le_of_ble_eq_true rfl) dX3_compare_49 ⟨Nat.zero_le _, Nat.zero_le _⟩ (fun F_4 H locs w_5 h hfF_4 => ?_)
        refine lv_iconst (v := 0) hx hb dX3_compare_52 (by decide) ?_
        refine lv_istore (lv' := [(4, .int 0), (3, .int y3_j5_1), (0, .ref th), (1, .ref be), (2, .ref no)]) hx hb dX3_compare_53 hl (by decide) rfl (fun ls hl => ?_)
        have j_j55_6 : ∀ (n : Nat) (ls : Array Slot) (y4_j55_6 : Int32) (F_7 : Nat → va_E) (H : Heap) (locs : List Loc), lv_has ls 5 [(4, .int y4_j55_6), (3, .int y3_j5_1), (0, .ref th), (1, .ref be), (2, .ref no)] → zB 0 10 y4_j55_6 → zH D k Γ L s F_7 H locs → zFr Γ [16200, 16300] F_4 F_7 → (2147483647 - y4_j55_6.toInt).toNat = n → W p l e R s m args below meth c H locs 0 0 Q (F0 m 55 ls []) := by
          intro n
          induction n using Nat.strongRecOn with
          | _ n ih_j55_6 =>
            intro ls y4_j55_6 F_7 H locs hl by4_j55_6 h hfF_7 hn_j55_6
            refine lv_iload hx hb dX3_compare_55 (lv_at hl 0 rfl) ?_
            refine lv_aload_n hx hb dX3_compare_57 rfl (lv_at hl 4 rfl) ?_
            refine zt_getk (t := 6) (C := RX6) (T := TX6) (N := 6) Z h hno zin_6 rfl 4 (hfF_7.f hno 4 ⟨by decide, by decide⟩ (hfF_4.f hno 4 ⟨by decide, by decide⟩ kx_2)) ⟨by decide, rfl, by decide⟩ (zm_RX3 (List.mem_of_getElem? (i := 4) rfl)) (fun _ h9 => h9) dX3_compare_58 ?_
            refine lv_icmp_ge (tgt := 124) hx hb dX3_compare_61 (by decide) (fun c_8 => ?_) (fun c_8 => ?_)
            · have c_8 := z_le c_8
              refine lv_aload_n hx hb dX3_compare_124 rfl (lv_at hl 2 rfl) ?_
              refine lv_aload_n hx hb dX3_compare_125 rfl (lv_at hl 3 rfl) ?_
              refine lv_aload_n hx hb dX3_compare_126 rfl (lv_at hl 4 rfl) ?_
              refine zk_Si (As := [.ref be, .ref no]) (rest := [.ref th]) (bytes := cX3_countGone) (maxL := 4) (ret := (some .int)) Z h (zc_X3_countGone l D k Γ L F_7 H.size be no hbe hno) (va_cwS 2 hg zv_RX3_32 rfl rfl rfl zd_X3_countGone ⟨z_leR hRf (by decide), z_leR hRl (by decide)⟩) rfl hl.1 rfl (Nat.le_of_ble_eq_true rfl) dX3_compare_127 ⟨Nat.zero_le _, Nat.zero_le _⟩ (fun r_9 F_10 H locs w_11 h hfF_10 => ?_)
              obtain ⟨rfl, -⟩ := w_11
              have br_9 := zB.all r_9
              refine zt_put (t := 3) (C := RX3) (T := TX3) (N := 3) (v := .int r_9) Z h hth zin_3 tyX3 tyX3_ok nmX3 rfl 2 rfl ⟨by decide, rfl⟩ (zm_RX3 (List.mem_of_getElem? (i := 13) rfl)) (fun _ h9 => h9) rfl (zV.i br_9) rfl rfl dX3_compare_130 (fun H locs F_12 h hfF_12 kF_12 => ?_)
              subst hQ
              exact W.vret hx hb hr (fun t ht hW => ⟨⟨F_12, rfl, trivial, by rw [ht]; exact h.1, h.2.1, (((hfF_4.w (by decide)).trans hfF_7 (by decide)).trans hfF_12 (by decide))⟩, h.2.2.F ht⟩) h.2.2.2.2 dX3_compare_133
            · have c_8 := z_nle c_8
              have by4_j55_6_13 : zB 0 9 y4_j55_6 := zB.ltL c_8 by4_j55_6 bx_2 (by decide)
              have bx_2_14 : zB 1 10 x_2 := zB.ltR c_8 by4_j55_6 bx_2 (by decide)
              refine lv_iload hx hb dX3_compare_64 (lv_at hl 0 rfl) ?_
              refine lv_aload_n hx hb dX3_compare_66 rfl (lv_at hl 2 rfl) ?_
              refine zt_getr (t := 3) (C := RX3) (T := TX3) (N := 3) Z h hth zin_3 rfl 0 rfl ⟨by decide, rfl⟩ (zm_RX3 (List.mem_of_getElem? (i := 2) rfl)) (fun _ h9 => h9) dX3_compare_67 (fun a_15 ka_15 ha_15 => ?_)
              refine zt_alen (t := 162) Z h ha_15 ⟨by decide, rfl⟩ (by decide) (v := 10) rfl dX3_compare_70 ?_
              refine lv_icmp_ge (tgt := 124) hx hb dX3_compare_71 (by decide) (fun c_16 => ?_) (fun c_16 => ?_)
              · have c_16 := z_le c_16
                exact zB.noLe c_16 (zBc 10 10 (by decide)) by4_j55_6_13 (by decide)
              · have c_16 := z_nle c_16
                refine lv_iload_n hx hb dX3_compare_74 rfl (lv_at hl 1 rfl) ?_
                refine lv_iload hx hb dX3_compare_75 (lv_at hl 0 rfl) ?_
                refine lv_ishr hx hb dX3_compare_77 ?_
                refine zi_any (fun x_17 bx_17 ex_17 => ?_)
                refine lv_iconst (v := 1) hx hb dX3_compare_78 (by decide) ?_
                refine lv_iand hx hb dX3_compare_79 ?_
                refine zi_and ((zBc 1 1 (by decide)).w ⟨by decide, by decide⟩ : zB 0 1 _) (fun x_18 bx_18 ex_18 => ?_)
                refine lv_if_eq (tgt := 94) hx hb dX3_compare_80 (by decide) (fun c_19 => ?_) (fun c_19 => ?_)
                · have c_19 := z_eq c_19
                  have bx_18_20 : zB 0 0 x_18 := zB.eqL (a := 0) (b := 0) c_19 (zBc 0 0 (by decide))
                  refine lv_aload_n hx hb dX3_compare_94 rfl (lv_at hl 2 rfl) ?_
                  refine zt_getk (t := 3) (C := RX3) (T := TX3) (N := 3) Z h hth zin_3 rfl 0 ka_15 ⟨by decide, rfl, by decide⟩ (zm_RX3 (List.mem_of_getElem? (i := 2) rfl)) (fun _ h9 => h9) dX3_compare_95 ?_
                  refine lv_iload hx hb dX3_compare_98 (lv_at hl 0 rfl) ?_
                  refine lv_aload_n hx hb dX3_compare_100 rfl (lv_at hl 2 rfl) ?_
                  refine zt_getr (t := 3) (C := RX3) (T := TX3) (N := 3) Z h hth zin_3 rfl 1 rfl ⟨by decide, rfl⟩ (zm_RX3 (List.mem_of_getElem? (i := 10) rfl)) (fun _ h9 => h9) dX3_compare_101 (fun a_21 ka_21 ha_21 => ?_)
                  refine lv_iload hx hb dX3_compare_104 (lv_at hl 0 rfl) ?_
                  refine zt_ialde (t := 163) Z h ha_21 ⟨by decide, rfl⟩ by4_j55_6_13 ⟨by decide, by decide⟩ dX3_compare_106 (fun x_22 ex_22 bx_22 => ?_)
                  refine lv_iload_n hx hb dX3_compare_107 rfl (lv_at hl 1 rfl) ?_
                  refine lv_iand hx hb dX3_compare_108 ?_
                  refine zi_any (fun x_23 bx_23 ex_23 => ?_)
                  refine lv_if_eq (tgt := 116) hx hb dX3_compare_109 (by decide) (fun c_24 => ?_) (fun c_24 => ?_)
                  · have c_24 := z_eq c_24
                    have bx_23_25 : zB 0 0 x_23 := zB.eqL (a := 0) (b := 0) c_24 (zBc 0 0 (by decide))
                    refine lv_iconst (v := 0) hx hb dX3_compare_116 (by decide) ?_
                    refine zt_iast (t := 162) Z h ha_15 ⟨by decide, rfl⟩ by4_j55_6_13 ⟨by decide, by decide⟩ (zB.of ⟨by decide, by decide⟩) dX3_compare_117 (fun H locs F_26 h hfF_26 => ?_)
                    obtain ⟨x_27, ex_27, bx_27, tx_27⟩ := z_inc (n := 1) (lo := 1) (hi := 10) by4_j55_6_13 (by decide)
                    refine lv_iinc (v := x_27) (lv' := [(4, .int x_27), (3, .int y3_j5_1), (0, .ref th), (1, .ref be), (2, .ref no)]) hx hb dX3_compare_118 hl (k := 0) rfl ex_27 (by decide) rfl (fun ls hl => ?_)
                    refine lv_goto (tgt := 55) hx hb dX3_compare_121 (by decide) ?_
                    exact ih_j55_6 _ (by have := bx_27.1; have := bx_27.2; have := by3_j5_1.1; have := by3_j5_1.2; have := bx_2_14.1; have := bx_2_14.2; have : (0 : Int32).toInt = 0 := (by decide); have : (1 : Int32).toInt = 1 := (by decide); have : (10 : Int32).toInt = 10 := (by decide); have := by4_j55_6.1; have := by4_j55_6.2; omega) ls x_27 F_26 H locs (lv_sub hl [0, 1, 2, 3, 4] rfl) (bx_27.w ⟨by decide, by decide⟩) h (hfF_7.trans hfF_26 (by decide)) rfl
                  · have c_24 := z_ne c_24
                    refine lv_iconst (v := 1) hx hb dX3_compare_112 (by decide) ?_
                    refine lv_goto (tgt := 117) hx hb dX3_compare_113 (by decide) ?_
                    refine zt_iast (t := 162) Z h ha_15 ⟨by decide, rfl⟩ by4_j55_6_13 ⟨by decide, by decide⟩ (zB.of ⟨by decide, by decide⟩) dX3_compare_117 (fun H locs F_28 h hfF_28 => ?_)
                    obtain ⟨x_29, ex_29, bx_29, tx_29⟩ := z_inc (n := 1) (lo := 1) (hi := 10) by4_j55_6_13 (by decide)
                    refine lv_iinc (v := x_29) (lv' := [(4, .int x_29), (3, .int y3_j5_1), (0, .ref th), (1, .ref be), (2, .ref no)]) hx hb dX3_compare_118 hl (k := 0) rfl ex_29 (by decide) rfl (fun ls hl => ?_)
                    refine lv_goto (tgt := 55) hx hb dX3_compare_121 (by decide) ?_
                    exact ih_j55_6 _ (by have := bx_29.1; have := bx_29.2; have := by3_j5_1.1; have := by3_j5_1.2; have := bx_2_14.1; have := bx_2_14.2; have : (0 : Int32).toInt = 0 := (by decide); have : (1 : Int32).toInt = 1 := (by decide); have : (10 : Int32).toInt = 10 := (by decide); have := by4_j55_6.1; have := by4_j55_6.2; omega) ls x_29 F_28 H locs (lv_sub hl [0, 1, 2, 3, 4] rfl) (bx_29.w ⟨by decide, by decide⟩) h (hfF_7.trans hfF_28 (by decide)) rfl
                · have c_19 := z_ne c_19
                  have bx_18_30 : zB 1 1 x_18 := zB.neLo c_19 bx_18 (zBc 0 0 (by decide)) (by decide)
                  refine lv_aload_n hx hb dX3_compare_83 rfl (lv_at hl 2 rfl) ?_
                  refine zt_getk (t := 3) (C := RX3) (T := TX3) (N := 3) Z h hth zin_3 rfl 0 ka_15 ⟨by decide, rfl, by decide⟩ (zm_RX3 (List.mem_of_getElem? (i := 2) rfl)) (fun _ h9 => h9) dX3_compare_84 ?_
                  refine lv_iload hx hb dX3_compare_87 (lv_at hl 0 rfl) ?_
                  refine lv_iconst (v := 2) hx hb dX3_compare_89 (by decide) ?_
                  refine zt_iast (t := 162) Z h ha_15 ⟨by decide, rfl⟩ by4_j55_6_13 ⟨by decide, by decide⟩ (zB.of ⟨by decide, by decide⟩) dX3_compare_90 (fun H locs F_31 h hfF_31 => ?_)
                  refine lv_goto (tgt := 118) hx hb dX3_compare_91 (by decide) ?_
                  obtain ⟨x_32, ex_32, bx_32, tx_32⟩ := z_inc (n := 1) (lo := 1) (hi := 10) by4_j55_6_13 (by decide)
                  refine lv_iinc (v := x_32) (lv' := [(4, .int x_32), (3, .int y3_j5_1), (0, .ref th), (1, .ref be), (2, .ref no)]) hx hb dX3_compare_118 hl (k := 0) rfl ex_32 (by decide) rfl (fun ls hl => ?_)
                  refine lv_goto (tgt := 55) hx hb dX3_compare_121 (by decide) ?_
                  exact ih_j55_6 _ (by have := bx_32.1; have := bx_32.2; have := by3_j5_1.1; have := by3_j5_1.2; have := bx_2_14.1; have := bx_2_14.2; have : (0 : Int32).toInt = 0 := (by decide); have : (1 : Int32).toInt = 1 := (by decide); have : (10 : Int32).toInt = 10 := (by decide); have := by4_j55_6.1; have := by4_j55_6.2; omega) ls x_32 F_31 H locs (lv_sub hl [0, 1, 2, 3, 4] rfl) (bx_32.w ⟨by decide, by decide⟩) h (hfF_7.trans hfF_31 (by decide)) rfl
        exact j_j55_6 _ ls 0 F_4 H locs (lv_sub hl [0, 1, 2, 3, 4] rfl) (zB.of ⟨by decide, by decide⟩) h zFr.rf rfl
      · have c_3 := z_nle c_3
        have by4_j5_1_33 : zB 0 9 y4_j5_1 := zB.ltL c_3 by4_j5_1 bx_2 (by decide)
        have bx_2_34 : zB 1 10 x_2 := zB.ltR c_3 by4_j5_1 bx_2 (by decide)
        refine lv_iload hx hb dX3_compare_14 (lv_at hl 0 rfl) ?_
        refine lv_aload_n hx hb dX3_compare_16 rfl (lv_at hl 2 rfl) ?_
        refine zt_getr (t := 3) (C := RX3) (T := TX3) (N := 3) Z h hth zin_3 rfl 0 rfl ⟨by decide, rfl⟩ (zm_RX3 (List.mem_of_getElem? (i := 2) rfl)) (fun _ h9 => h9) dX3_compare_17 (fun a_35 ka_35 ha_35 => ?_)
        refine zt_alen (t := 162) Z h ha_35 ⟨by decide, rfl⟩ (by decide) (v := 10) rfl dX3_compare_20 ?_
        refine lv_icmp_ge (tgt := 47) hx hb dX3_compare_21 (by decide) (fun c_36 => ?_) (fun c_36 => ?_)
        · have c_36 := z_le c_36
          exact zB.noLe c_36 (zBc 10 10 (by decide)) by4_j5_1_33 (by decide)
        · have c_36 := z_nle c_36
          refine lv_aload_n hx hb dX3_compare_24 rfl (lv_at hl 3 rfl) ?_
          refine lv_aload_n hx hb dX3_compare_25 rfl (lv_at hl 4 rfl) ?_
          refine lv_iload hx hb dX3_compare_26 (lv_at hl 0 rfl) ?_
          refine zk_Si (As := [.ref be, .ref no, .int y4_j5_1]) (rest := []) (bytes := cX3_isNew) (maxL := 7) (ret := (some .boolean)) Z h (zc_X3_isNew l D k Γ L F H.size be no y4_j5_1 hbe hno) (va_cwS 3 hg zv_RX3_24 rfl rfl rfl zd_X3_isNew ⟨z_leR hRf (by decide), z_leR hRl (by decide)⟩) rfl hl.1 rfl (Nat.le_of_ble_eq_true rfl) dX3_compare_28 ⟨Nat.zero_le _, Nat.zero_le _⟩ (fun r_37 F_38 H locs w_39 h hfF_38 => ?_)
          obtain ⟨rfl, br_37, -⟩ := w_39
          refine lv_if_eq (tgt := 41) hx hb dX3_compare_31 (by decide) (fun c_40 => ?_) (fun c_40 => ?_)
          · have c_40 := z_eq c_40
            have br_37_41 : zB 0 0 r_37 := zB.eqL (a := 0) (b := 0) c_40 (zBc 0 0 (by decide))
            obtain ⟨x_42, ex_42, bx_42, tx_42⟩ := z_inc (n := 1) (lo := 1) (hi := 10) by4_j5_1_33 (by decide)
            refine lv_iinc (v := x_42) (lv' := [(4, .int x_42), (3, .int y3_j5_1), (0, .ref th), (1, .ref be), (2, .ref no)]) hx hb dX3_compare_41 hl (k := 0) rfl ex_42 (by decide) rfl (fun ls hl => ?_)
            refine lv_goto (tgt := 5) hx hb dX3_compare_44 (by decide) ?_
            exact ih_j5_1 _ (by have := bx_42.1; have := bx_42.2; have := by3_j5_1.1; have := by3_j5_1.2; have := bx_2_34.1; have := bx_2_34.2; have : (0 : Int32).toInt = 0 := (by decide); have : (10 : Int32).toInt = 10 := (by decide); have := by4_j5_1.1; have := by4_j5_1.2; have := by3_j5_1.1; have := by3_j5_1.2; omega) ls x_42 y3_j5_1 H locs (lv_sub hl [0, 1, 2, 3, 4] rfl) (bx_42.w ⟨by decide, by decide⟩) by3_j5_1 h rfl
          · have c_40 := z_ne c_40
            have br_37_43 : zB 1 1 r_37 := zB.neLo c_40 br_37 (zBc 0 0 (by decide)) (by decide)
            refine lv_iload_n hx hb dX3_compare_34 rfl (lv_at hl 1 rfl) ?_
            refine lv_iconst (v := 1) hx hb dX3_compare_35 (by decide) ?_
            refine lv_iload hx hb dX3_compare_36 (lv_at hl 0 rfl) ?_
            refine lv_ishl hx hb dX3_compare_38 ?_
            refine zi_shl1 (n := 9) (hi := 512) by4_j5_1_33 (by decide) rfl (fun x_44 bx_44 => ?_)
            refine lv_ior hx hb dX3_compare_39 ?_
            refine zi_any (fun x_45 bx_45 ex_45 => ?_)
            refine lv_istore_n (lv' := [(3, .int x_45), (4, .int y4_j5_1), (0, .ref th), (1, .ref be), (2, .ref no)]) hx hb dX3_compare_40 rfl hl (by decide) rfl (fun ls hl => ?_)
            obtain ⟨x_46, ex_46, bx_46, tx_46⟩ := z_inc (n := 1) (lo := 1) (hi := 10) by4_j5_1_33 (by decide)
            refine lv_iinc (v := x_46) (lv' := [(4, .int x_46), (3, .int x_45), (0, .ref th), (1, .ref be), (2, .ref no)]) hx hb dX3_compare_41 hl (k := 1) rfl ex_46 (by decide) rfl (fun ls hl => ?_)
            refine lv_goto (tgt := 5) hx hb dX3_compare_44 (by decide) ?_
            exact ih_j5_1 _ (by have := bx_46.1; have := bx_46.2; have := bx_45.1; have := bx_45.2; have := bx_2_34.1; have := bx_2_34.2; have : (0 : Int32).toInt = 0 := (by decide); have : (1 : Int32).toInt = 1 := (by decide); have : (10 : Int32).toInt = 10 := (by decide); have := by4_j5_1.1; have := by4_j5_1.2; have := by3_j5_1.1; have := by3_j5_1.2; omega) ls x_46 x_45 H locs (lv_sub hl [0, 1, 2, 3, 4] rfl) (bx_46.w ⟨by decide, by decide⟩) bx_45 h rfl
  exact j_j5_1 _ ls 0 0 s.heap [] (lv_sub hl [0, 1, 2, 3, 4] rfl) (zB.of ⟨by decide, by decide⟩) (zB.of ⟨by decide, by decide⟩) h rfl

set_option maxHeartbeats 4000000 in
set_option maxRecDepth 100000 in
theorem zc_X0_forget (l : Launch) (D : va_G) (k : Nat → ClassId) (Γ : Nat → Option Nat) (L : List Nat) (F : Nat → va_E) (sz : Nat) (th : Nat) (hth : Γ th = some 0) : Met l yX0_forget zwX0_forget ({ frames := 0, cells := 0, slots := 0, locals := 0 }) (va_Pc [.ref th] (zP D k Γ L F sz)) (va_Qv (fun (u : Nat → va_E) => (∃ x, zfld u th 2 = .int x ∧ zB 0 0 x) ∧ True) (zQ D k Γ L F [2]) (zA L sz)) 0 0 (zA L sz) := by
  refine Met.ofW (cc := cX0_forget) (maxL := 1) (ret := none) (by decide) rfl ?_
  intro p e s m args below meth c s₁ B hml hv
  obtain ⟨rfl, hsz, hP, hK, hLn, hE, hI⟩ := hv
  have hx := B.exec
  have hb := B.bytes
  have hr := B.returns
  have hg : ∀ w ∈ zG, w.before _ s = true := fun w h9 => atoms_spec (ws := zwX0_forget) B.pre w (List.mem_cons_of_mem _ h9)
  have hown : s.vm.findClass RX0 = some m.cls := findClass_of_methodNamed B.named
  have hlocks := B.notSynchronized
  subst hsz
  have Z : zC p m c cX0_forget 1 s _ zG RX0 D k L := ⟨⟨hx, hb, hml, hown, hg⟩, hK, hLn, hE⟩
  have h : zH D k Γ L s F s.heap [] := ⟨hP, hI, va_S.rf⟩
  have hl := lv_entry ([.ref th]) (n := 1) (Nat.le_of_ble_eq_true rfl)
  rw [lg_entry_eq]
  generalize (lg_sl ([.ref th]) ++ List.replicate (1 - (lg_sl ([.ref th])).length) Slot.unset).toArray = ls at hl ⊢
  have hl : lv_has ls 1 [(0, .ref th)] := hl
  clear hP hK hLn hE hI
  generalize hargs : ([.ref th] : List Value).toArray = args at *
  refine z_start (fun R Q hRf hRl hQ => ?_)
  have hRf : R.frames = 0 := hRf
  have hRl : R.locals = 0 := hRl
  refine lv_aload_n hx hb dX0_forget_0 rfl (lv_at hl 0 rfl) ?_
  refine lv_iconst (v := 0) hx hb dX0_forget_1 (by decide) ?_
  refine zt_put (t := 0) (C := RX0) (T := TX0) (N := 3) (v := .int 0) Z h hth zin_0 tyX0 tyX0_ok nmX0 rfl 2 rfl ⟨by decide, rfl⟩ (zm_RX0 (List.mem_of_getElem? (i := 2) rfl)) (fun _ h9 => h9) rfl (zV.i (zB.of ⟨by decide, by decide⟩)) rfl rfl dX0_forget_2 (fun H locs F_1 h hfF_1 kF_1 => ?_)
  subst hQ
  exact W.vret hx hb hr (fun t ht hW => ⟨⟨F_1, rfl, ⟨⟨0, kF_1, (zB.of ⟨by decide, by decide⟩)⟩, trivial⟩, by rw [ht]; exact h.1, h.2.1, hfF_1⟩, h.2.2.F ht⟩) h.2.2.2.2 dX0_forget_5

set_option maxHeartbeats 4000000 in
set_option maxRecDepth 100000 in
theorem zc_X0_costBehind (l : Launch) (D : va_G) (k : Nat → ClassId) (Γ : Nat → Option Nat) (L : List Nat) (F : Nat → va_E) (sz : Nat) (th : Nat) (pr : Nat) (se : Int32) (q : Int32) (hth : Γ th = some 0) (hpr : Γ pr = some 6) : Met l yX0_costBehind zwX0_costBehind ({ frames := 1, cells := 0, slots := 0, locals := 21 }) (va_Pc [.ref th, .ref pr, .int se, .int q] (zP D k Γ L F sz)) (va_Qi (fun (r : Int32) (u : Nat → va_E) => F = u ∧ True) (zQ D k Γ L F []) (zA L sz)) 0 0 (zA L sz) := by
  refine Met.ofW (cc := cX0_costBehind) (maxL := 5) (ret := (some .int)) (by decide) rfl ?_
  intro p e s m args below meth c s₁ B hml hv
  obtain ⟨rfl, hsz, hP, hK, hLn, hE, hI⟩ := hv
  have hx := B.exec
  have hb := B.bytes
  have hr := B.returns
  have hg : ∀ w ∈ zG, w.before _ s = true := fun w h9 => atoms_spec (ws := zwX0_costBehind) B.pre w (List.mem_cons_of_mem _ h9)
  have hown : s.vm.findClass RX0 = some m.cls := findClass_of_methodNamed B.named
  have hlocks := B.notSynchronized
  subst hsz
  have Z : zC p m c cX0_costBehind 5 s _ zG RX0 D k L := ⟨⟨hx, hb, hml, hown, hg⟩, hK, hLn, hE⟩
  have h : zH D k Γ L s F s.heap [] := ⟨hP, hI, va_S.rf⟩
  have hl := lv_entry ([.ref th, .ref pr, .int se, .int q]) (n := 5) (Nat.le_of_ble_eq_true rfl)
  rw [lg_entry_eq]
  generalize (lg_sl ([.ref th, .ref pr, .int se, .int q]) ++ List.replicate (5 - (lg_sl ([.ref th, .ref pr, .int se, .int q])).length) Slot.unset).toArray = ls at hl ⊢
  have hl : lv_has ls 5 [(0, .ref th), (1, .ref pr), (2, .int se), (3, .int q)] := hl
  clear hP hK hLn hE hI
  generalize hargs : ([.ref th, .ref pr, .int se, .int q] : List Value).toArray = args at *
  refine z_start (fun R Q hRf hRl hQ => ?_)
  have hRf : R.frames = 1 := hRf
  have hRl : R.locals = 21 := hRl
  refine lv_iload_n hx hb dX0_costBehind_0 rfl (lv_at hl 2 rfl) ?_
  refine lv_iconst (v := 1) hx hb dX0_costBehind_1 (by decide) ?_
  refine lv_iload_n hx hb dX0_costBehind_2 rfl (lv_at hl 3 rfl) ?_
  refine lv_ishl hx hb dX0_costBehind_3 ?_
  refine zi_any (fun x_1 bx_1 ex_1 => ?_)
  refine lv_ior hx hb dX0_costBehind_4 ?_
  refine zi_any (fun x_2 bx_2 ex_2 => ?_)
  refine lv_istore (lv' := [(4, .int x_2), (0, .ref th), (1, .ref pr), (2, .int se), (3, .int q)]) hx hb dX0_costBehind_5 hl (by decide) rfl (fun ls hl => ?_)
  refine lv_aload_n hx hb dX0_costBehind_7 rfl (lv_at hl 2 rfl) ?_
  refine lv_iload_n hx hb dX0_costBehind_8 rfl (lv_at hl 4 rfl) ?_
  refine zk_Vi (As := [.int q]) (rest := []) (bytes := cX6_hasFunction) (maxL := 2) (ret := (some .boolean)) Z h (zc_X6_hasFunction l D k Γ L F s.heap.size pr q hpr) (cwV 1 hg zv_RX0_46 rfl rfl rfl zd_X6_hasFunction ⟨z_leR hRf (by decide), z_leR hRl (by decide)⟩) hpr (by decide) rfl rfl hl.1 rfl (Nat.le_of_ble_eq_true rfl) dX0_costBehind_9 ⟨Nat.zero_le _, Nat.zero_le _⟩ (fun r_3 F_4 H locs w_5 h hfF_4 => ?_)
  obtain ⟨rfl, br_3, q_6, q_7, -⟩ := w_5
  refine lv_if_eq (tgt := 30) hx hb dX0_costBehind_12 (by decide) (fun c_8 => ?_) (fun c_8 => ?_)
  · have c_8 := z_eq c_8
    have br_3_9 : zB 0 0 r_3 := zB.eqL (a := 0) (b := 0) c_8 (zBc 0 0 (by decide))
    refine lv_iconst (v := 0) hx hb dX0_costBehind_30 (by decide) ?_
    subst hQ
    exact W.iret (v := 0) hx hb hr (fun t ht hW => ⟨⟨0, F, rfl, ⟨rfl, trivial⟩, by rw [ht]; exact h.1, h.2.1, zFr.rf⟩, h.2.2.F ht⟩) h.2.2.2.2 dX0_costBehind_31
  · have bq_10 : zB 0 9 q := q_6 c_8
    obtain ⟨x_11, kx_11, bx_11, q_12⟩ := q_7 c_8
    have c_8 := z_ne c_8
    have br_3_13 : zB 1 1 r_3 := zB.neLo c_8 br_3 (zBc 0 0 (by decide)) (by decide)
    refine lv_iload hx hb dX0_costBehind_15 (lv_at hl 0 rfl) ?_
    refine lv_if_lt (tgt := 30) hx hb dX0_costBehind_17 (by decide) (fun c_14 => ?_) (fun c_14 => ?_)
    · have c_14 := z_lt c_14
      have bx_2_15 : zB (-2147483648) (-1) x_2 := zB.ltL c_14 bx_2 (zBc 0 0 (by decide)) (by decide)
      refine lv_iconst (v := 0) hx hb dX0_costBehind_30 (by decide) ?_
      subst hQ
      exact W.iret (v := 0) hx hb hr (fun t ht hW => ⟨⟨0, F, rfl, ⟨rfl, trivial⟩, by rw [ht]; exact h.1, h.2.1, zFr.rf⟩, h.2.2.F ht⟩) h.2.2.2.2 dX0_costBehind_31
    · have c_14 := z_nlt c_14
      have bx_2_16 : zB 0 2147483647 x_2 := zB.leR c_14 (zBc 0 0 (by decide)) bx_2 (by decide)
      refine lv_iload hx hb dX0_costBehind_20 (lv_at hl 0 rfl) ?_
      refine lv_aload_n hx hb dX0_costBehind_22 rfl (lv_at hl 1 rfl) ?_
      refine zt_getr (t := 0) (C := RX0) (T := TX0) (N := 3) Z h hth zin_0 rfl 0 rfl ⟨by decide, rfl⟩ (zm_RX0 (List.mem_of_getElem? (i := 7) rfl)) (fun _ h9 => h9) dX0_costBehind_23 (fun a_17 ka_17 ha_17 => ?_)
      refine zt_alen (t := 113) Z h ha_17 ⟨by decide, rfl⟩ (by decide) (v := 1024) rfl dX0_costBehind_26 ?_
      refine lv_icmp_lt (tgt := 32) hx hb dX0_costBehind_27 (by decide) (fun c_18 => ?_) (fun c_18 => ?_)
      · have c_18 := z_lt c_18
        have bx_2_19 : zB 0 1023 x_2 := zB.ltL c_18 bx_2_16 (zBc 1024 1024 (by decide)) (by decide)
        refine lv_aload_n hx hb dX0_costBehind_32 rfl (lv_at hl 2 rfl) ?_
        refine zt_getr (t := 6) (C := RX6) (T := TX6) (N := 6) Z h hpr zin_6 rfl 2 rfl ⟨by decide, rfl⟩ (zm_RX0 (List.mem_of_getElem? (i := 25) rfl)) (fun _ h9 => h9) dX0_costBehind_33 (fun a_20 ka_20 ha_20 => ?_)
        refine lv_iload_n hx hb dX0_costBehind_36 rfl (lv_at hl 4 rfl) ?_
        refine zt_aald (t := 104) (t1 := 2) Z h ha_20 ⟨by decide, rfl⟩ (by decide) bq_10 ⟨by decide, by decide⟩ dX0_costBehind_37 (fun a_21 ha_21 => ?_)
        refine zt_geti (t := 2) (C := RX2) (T := TX2) (N := 9) Z h ha_21 zin_2 rfl 6 rfl ⟨by decide, rfl⟩ (zm_RX0 (List.mem_of_getElem? (i := 26) rfl)) (fun _ h9 => h9) dX0_costBehind_38 (fun x_22 kx_22 bx_22 => ?_)
        refine lv_iload hx hb dX0_costBehind_41 (lv_at hl 0 rfl) ?_
        refine lv_iconst (v := (-1)) hx hb dX0_costBehind_43 (by decide) ?_
        refine lv_ixor hx hb dX0_costBehind_44 ?_
        refine zi_any (fun x_23 bx_23 ex_23 => ?_)
        refine lv_iand hx hb dX0_costBehind_45 ?_
        refine zi_any (fun x_24 bx_24 ex_24 => ?_)
        refine zk_Si (As := [.int x_24]) (rest := []) (bytes := cJ6_bitCount_0f7a4) (maxL := 1) (ret := (some .int)) Z h (zc_J6_bitCount_0f7a4 l D k Γ L F H.size x_24) (va_cwS 1 hg zv_RX0_59 rfl rfl rfl zd_J6_bitCount_0f7a4 ⟨z_leR hRf (by decide), z_leR hRl (by decide)⟩) rfl hl.1 rfl (Nat.le_of_ble_eq_true rfl) dX0_costBehind_46 ⟨Nat.zero_le _, Nat.zero_le _⟩ (fun r_25 F_26 H locs w_27 h hfF_26 => ?_)
        obtain ⟨rfl, br_25, -⟩ := w_27
        refine lv_aload_n hx hb dX0_costBehind_49 rfl (lv_at hl 1 rfl) ?_
        refine zt_getk (t := 0) (C := RX0) (T := TX0) (N := 3) Z h hth zin_0 rfl 0 ka_17 ⟨by decide, rfl, by decide⟩ (zm_RX0 (List.mem_of_getElem? (i := 7) rfl)) (fun _ h9 => h9) dX0_costBehind_50 ?_
        refine lv_iload hx hb dX0_costBehind_53 (lv_at hl 0 rfl) ?_
        refine zt_ialde (t := 113) Z h ha_17 ⟨by decide, rfl⟩ bx_2_19 ⟨by decide, by decide⟩ dX0_costBehind_55 (fun x_28 ex_28 bx_28 => ?_)
        refine lv_iadd hx hb dX0_costBehind_56 ?_
        refine zi_any (fun x_29 bx_29 ex_29 => ?_)
        subst hQ
        exact W.iret (v := x_29) hx hb hr (fun t ht hW => ⟨⟨x_29, F, rfl, ⟨rfl, trivial⟩, by rw [ht]; exact h.1, h.2.1, zFr.rf⟩, h.2.2.F ht⟩) h.2.2.2.2 dX0_costBehind_57
      · have c_18 := z_nlt c_18
        have bx_2_30 : zB 1024 2147483647 x_2 := zB.leR c_18 (zBc 1024 1024 (by decide)) bx_2_16 (by decide)
        refine lv_iconst (v := 0) hx hb dX0_costBehind_30 (by decide) ?_
        subst hQ
        exact W.iret (v := 0) hx hb hr (fun t ht hW => ⟨⟨0, F, rfl, ⟨rfl, trivial⟩, by rw [ht]; exact h.1, h.2.1, zFr.rf⟩, h.2.2.F ht⟩) h.2.2.2.2 dX0_costBehind_31

set_option maxHeartbeats 4000000 in
set_option maxRecDepth 100000 in
theorem zc_X0_firstOfBest (l : Launch) (D : va_G) (k : Nat → ClassId) (Γ : Nat → Option Nat) (L : List Nat) (F : Nat → va_E) (sz : Nat) (th : Nat) (pr : Nat) (se : Int32) (hth : Γ th = some 0) (hpr : Γ pr = some 6) : Met l yX0_firstOfBest zwX0_firstOfBest ({ frames := 2, cells := 0, slots := 0, locals := 45 }) (va_Pc [.ref th, .ref pr, .int se] (zP D k Γ L F sz)) (va_Qi (fun (r : Int32) (u : Nat → va_E) => F = u ∧ zB 0 9 r ∧ True) (zQ D k Γ L F []) (zA L sz)) 0 0 (zA L sz) := by
  refine Met.ofW (cc := cX0_firstOfBest) (maxL := 8) (ret := (some .int)) (by decide) rfl ?_
  intro p e s m args below meth c s₁ B hml hv
  obtain ⟨rfl, hsz, hP, hK, hLn, hE, hI⟩ := hv
  have hx := B.exec
  have hb := B.bytes
  have hr := B.returns
  have hg : ∀ w ∈ zG, w.before _ s = true := fun w h9 => atoms_spec (ws := zwX0_firstOfBest) B.pre w (List.mem_cons_of_mem _ h9)
  have hown : s.vm.findClass RX0 = some m.cls := findClass_of_methodNamed B.named
  have hlocks := B.notSynchronized
  subst hsz
  have Z : zC p m c cX0_firstOfBest 8 s _ zG RX0 D k L := ⟨⟨hx, hb, hml, hown, hg⟩, hK, hLn, hE⟩
  have h : zH D k Γ L s F s.heap [] := ⟨hP, hI, va_S.rf⟩
  have hl := lv_entry ([.ref th, .ref pr, .int se]) (n := 8) (Nat.le_of_ble_eq_true rfl)
  rw [lg_entry_eq]
  generalize (lg_sl ([.ref th, .ref pr, .int se]) ++ List.replicate (8 - (lg_sl ([.ref th, .ref pr, .int se])).length) Slot.unset).toArray = ls at hl ⊢
  have hl : lv_has ls 8 [(0, .ref th), (1, .ref pr), (2, .int se)] := hl
  clear hP hK hLn hE hI
  generalize hargs : ([.ref th, .ref pr, .int se] : List Value).toArray = args at *
  refine z_start (fun R Q hRf hRl hQ => ?_)
  have hRf : R.frames = 2 := hRf
  have hRl : R.locals = 45 := hRl
  refine lv_iconst (v := 0) hx hb dX0_firstOfBest_0 (by decide) ?_
  refine lv_istore_n (lv' := [(3, .int 0), (0, .ref th), (1, .ref pr), (2, .int se)]) hx hb dX0_firstOfBest_1 rfl hl (by decide) rfl (fun ls hl => ?_)
  refine lv_bipush (v := 100) hx hb dX0_firstOfBest_2 (by decide) ?_
  refine lv_istore (lv' := [(4, .int 100), (3, .int 0), (0, .ref th), (1, .ref pr), (2, .int se)]) hx hb dX0_firstOfBest_4 hl (by decide) rfl (fun ls hl => ?_)
  refine lv_iconst (v := 0) hx hb dX0_firstOfBest_6 (by decide) ?_
  refine lv_istore (lv' := [(5, .int 0), (4, .int 100), (3, .int 0), (0, .ref th), (1, .ref pr), (2, .int se)]) hx hb dX0_firstOfBest_7 hl (by decide) rfl (fun ls hl => ?_)
  have j_j9_1 : ∀ (n : Nat) (ls : Array Slot) (y5_j9_1 : Int32) (y4_j9_1 : Int32) (y3_j9_1 : Int32) (H : Heap) (locs : List Loc), lv_has ls 8 [(5, .int y5_j9_1), (4, .int y4_j9_1), (3, .int y3_j9_1), (0, .ref th), (1, .ref pr), (2, .int se)] → zB 0 10 y5_j9_1 → zB (-2147483648) 100 y4_j9_1 → zB 0 9 y3_j9_1 → zH D k Γ L s F H locs → (2147483647 - y5_j9_1.toInt).toNat = n → W p l e R s m args below meth c H locs 0 0 Q (F0 m 9 ls []) := by
    intro n
    induction n using Nat.strongRecOn with
    | _ n ih_j9_1 =>
      intro ls y5_j9_1 y4_j9_1 y3_j9_1 H locs hl by5_j9_1 by4_j9_1 by3_j9_1 h hn_j9_1
      refine lv_iload hx hb dX0_firstOfBest_9 (lv_at hl 0 rfl) ?_
      refine lv_aload_n hx hb dX0_firstOfBest_11 rfl (lv_at hl 4 rfl) ?_
      refine zt_geti (t := 6) (C := RX6) (T := TX6) (N := 6) Z h hpr zin_6 rfl 4 rfl ⟨by decide, rfl⟩ (zm_RX0 (List.mem_of_getElem? (i := 11) rfl)) (fun _ h9 => h9) dX0_firstOfBest_12 (fun x_2 kx_2 bx_2 => ?_)
      refine lv_icmp_ge (tgt := 74) hx hb dX0_firstOfBest_15 (by decide) (fun c_3 => ?_) (fun c_3 => ?_)
      · have c_3 := z_le c_3
        refine lv_iload_n hx hb dX0_firstOfBest_74 rfl (lv_at hl 2 rfl) ?_
        subst hQ
        exact W.iret (v := y3_j9_1) hx hb hr (fun t ht hW => ⟨⟨y3_j9_1, F, rfl, ⟨rfl, by3_j9_1, trivial⟩, by rw [ht]; exact h.1, h.2.1, zFr.rf⟩, h.2.2.F ht⟩) h.2.2.2.2 dX0_firstOfBest_75
      · have c_3 := z_nle c_3
        have by5_j9_1_4 : zB 0 9 y5_j9_1 := zB.ltL c_3 by5_j9_1 bx_2 (by decide)
        have bx_2_5 : zB 1 10 x_2 := zB.ltR c_3 by5_j9_1 bx_2 (by decide)
        refine lv_iload_n hx hb dX0_firstOfBest_18 rfl (lv_at hl 5 rfl) ?_
        refine lv_iload hx hb dX0_firstOfBest_19 (lv_at hl 0 rfl) ?_
        refine lv_ishr hx hb dX0_firstOfBest_21 ?_
        refine zi_any (fun x_6 bx_6 ex_6 => ?_)
        refine lv_iconst (v := 1) hx hb dX0_firstOfBest_22 (by decide) ?_
        refine lv_iand hx hb dX0_firstOfBest_23 ?_
        refine zi_and ((zBc 1 1 (by decide)).w ⟨by decide, by decide⟩ : zB 0 1 _) (fun x_7 bx_7 ex_7 => ?_)
        refine lv_if_eq (tgt := 31) hx hb dX0_firstOfBest_24 (by decide) (fun c_8 => ?_) (fun c_8 => ?_)
        · have c_8 := z_eq c_8
          have bx_7_9 : zB 0 0 x_7 := zB.eqL (a := 0) (b := 0) c_8 (zBc 0 0 (by decide))
          refine lv_iconst (v := 0) hx hb dX0_firstOfBest_31 (by decide) ?_
          refine lv_istore (lv' := [(6, .int 0), (5, .int y5_j9_1), (4, .int y4_j9_1), (3, .int y3_j9_1), (0, .ref th), (1, .ref pr), (2, .int se)]) hx hb dX0_firstOfBest_32 hl (by decide) rfl (fun ls hl => ?_)
          refine lv_iload hx hb dX0_firstOfBest_34 (lv_at hl 0 rfl) ?_
          refine lv_if_eq (tgt := 44) hx hb dX0_firstOfBest_36 (by decide) (fun _ => ?_) (fun h9 => absurd (by decide) h9)
          refine lv_aload_n hx hb dX0_firstOfBest_44 rfl (lv_at hl 4 rfl) ?_
          refine lv_aload_n hx hb dX0_firstOfBest_45 rfl (lv_at hl 5 rfl) ?_
          refine lv_iload_n hx hb dX0_firstOfBest_46 rfl (lv_at hl 6 rfl) ?_
          refine lv_iload hx hb dX0_firstOfBest_47 (lv_at hl 1 rfl) ?_
          refine zk_Vi (As := [.ref pr, .int se, .int y5_j9_1]) (rest := []) (bytes := cX0_costBehind) (maxL := 5) (ret := (some .int)) Z h (zc_X0_costBehind l D k Γ L F H.size th pr se y5_j9_1 hth hpr) (cwV 3 hg zv_RX0_42 rfl rfl rfl zd_X0_costBehind ⟨z_leR hRf (by decide), z_leR hRl (by decide)⟩) hth (by decide) rfl rfl hl.1 rfl (Nat.le_of_ble_eq_true rfl) dX0_firstOfBest_49 ⟨Nat.zero_le _, Nat.zero_le _⟩ (fun r_10 F_11 H locs w_12 h hfF_11 => ?_)
          obtain ⟨rfl, -⟩ := w_12
          have br_10 := zB.all r_10
          refine lv_istore (lv' := [(7, .int r_10), (6, .int 0), (5, .int y5_j9_1), (4, .int y4_j9_1), (3, .int y3_j9_1), (0, .ref th), (1, .ref pr), (2, .int se)]) hx hb dX0_firstOfBest_52 hl (by decide) rfl (fun ls hl => ?_)
          refine lv_iload hx hb dX0_firstOfBest_54 (lv_at hl 0 rfl) ?_
          refine lv_iload hx hb dX0_firstOfBest_56 (lv_at hl 3 rfl) ?_
          refine lv_icmp_ge (tgt := 68) hx hb dX0_firstOfBest_58 (by decide) (fun c_13 => ?_) (fun c_13 => ?_)
          · have c_13 := z_le c_13
            obtain ⟨x_14, ex_14, bx_14, tx_14⟩ := z_inc (n := 1) (lo := 1) (hi := 10) by5_j9_1_4 (by decide)
            refine lv_iinc (v := x_14) (lv' := [(5, .int x_14), (7, .int r_10), (6, .int 0), (4, .int y4_j9_1), (3, .int y3_j9_1), (0, .ref th), (1, .ref pr), (2, .int se)]) hx hb dX0_firstOfBest_68 hl (k := 2) rfl ex_14 (by decide) rfl (fun ls hl => ?_)
            refine lv_goto (tgt := 9) hx hb dX0_firstOfBest_71 (by decide) ?_
            exact ih_j9_1 _ (by have := bx_14.1; have := bx_14.2; have := br_10.1; have := br_10.2; have := by4_j9_1.1; have := by4_j9_1.2; have := by3_j9_1.1; have := by3_j9_1.2; have := (zB.all se).1; have := (zB.all se).2; have := bx_2_5.1; have := bx_2_5.2; have : (0 : Int32).toInt = 0 := (by decide); have : (1 : Int32).toInt = 1 := (by decide); have := by5_j9_1.1; have := by5_j9_1.2; have := by4_j9_1.1; have := by4_j9_1.2; have := by3_j9_1.1; have := by3_j9_1.2; omega) ls x_14 y4_j9_1 y3_j9_1 H locs (lv_sub hl [0, 3, 4, 5, 6, 7] rfl) (bx_14.w ⟨by decide, by decide⟩) by4_j9_1 by3_j9_1 h rfl
          · have c_13 := z_nle c_13
            have br_10_15 : zB (-2147483648) 99 r_10 := zB.ltL c_13 br_10 by4_j9_1 (by decide)
            have by4_j9_1_16 : zB (-2147483647) 100 y4_j9_1 := zB.ltR c_13 br_10 by4_j9_1 (by decide)
            refine lv_iload hx hb dX0_firstOfBest_61 (lv_at hl 0 rfl) ?_
            refine lv_istore (lv' := [(4, .int r_10), (7, .int r_10), (6, .int 0), (5, .int y5_j9_1), (3, .int y3_j9_1), (0, .ref th), (1, .ref pr), (2, .int se)]) hx hb dX0_firstOfBest_63 hl (by decide) rfl (fun ls hl => ?_)
            refine lv_iload hx hb dX0_firstOfBest_65 (lv_at hl 3 rfl) ?_
            refine lv_istore_n (lv' := [(3, .int y5_j9_1), (4, .int r_10), (7, .int r_10), (6, .int 0), (5, .int y5_j9_1), (0, .ref th), (1, .ref pr), (2, .int se)]) hx hb dX0_firstOfBest_67 rfl hl (by decide) rfl (fun ls hl => ?_)
            obtain ⟨x_17, ex_17, bx_17, tx_17⟩ := z_inc (n := 1) (lo := 1) (hi := 10) by5_j9_1_4 (by decide)
            refine lv_iinc (v := x_17) (lv' := [(5, .int x_17), (3, .int y5_j9_1), (4, .int r_10), (7, .int r_10), (6, .int 0), (0, .ref th), (1, .ref pr), (2, .int se)]) hx hb dX0_firstOfBest_68 hl (k := 4) rfl ex_17 (by decide) rfl (fun ls hl => ?_)
            refine lv_goto (tgt := 9) hx hb dX0_firstOfBest_71 (by decide) ?_
            exact ih_j9_1 _ (by have := bx_17.1; have := bx_17.2; have := by5_j9_1_4.1; have := by5_j9_1_4.2; have := br_10_15.1; have := br_10_15.2; have := (zB.all se).1; have := (zB.all se).2; have := bx_2_5.1; have := bx_2_5.2; have : (0 : Int32).toInt = 0 := (by decide); have : (1 : Int32).toInt = 1 := (by decide); have := by5_j9_1.1; have := by5_j9_1.2; have := by4_j9_1.1; have := by4_j9_1.2; have := by3_j9_1.1; have := by3_j9_1.2; omega) ls x_17 r_10 y5_j9_1 H locs (lv_sub hl [0, 2, 1, 5, 6, 7] rfl) (bx_17.w ⟨by decide, by decide⟩) (br_10_15.w ⟨by decide, by decide⟩) by5_j9_1_4 h rfl
        · have c_8 := z_ne c_8
          have bx_7_18 : zB 1 1 x_7 := zB.neLo c_8 bx_7 (zBc 0 0 (by decide)) (by decide)
          refine lv_iconst (v := 1) hx hb dX0_firstOfBest_27 (by decide) ?_
          refine lv_goto (tgt := 32) hx hb dX0_firstOfBest_28 (by decide) ?_
          refine lv_istore (lv' := [(6, .int 1), (5, .int y5_j9_1), (4, .int y4_j9_1), (3, .int y3_j9_1), (0, .ref th), (1, .ref pr), (2, .int se)]) hx hb dX0_firstOfBest_32 hl (by decide) rfl (fun ls hl => ?_)
          refine lv_iload hx hb dX0_firstOfBest_34 (lv_at hl 0 rfl) ?_
          refine lv_if_eq (tgt := 44) hx hb dX0_firstOfBest_36 (by decide) (fun h9 => absurd h9 (by decide)) (fun _ => ?_)
          refine lv_bipush (v := 100) hx hb dX0_firstOfBest_39 (by decide) ?_
          refine lv_goto (tgt := 52) hx hb dX0_firstOfBest_41 (by decide) ?_
          refine lv_istore (lv' := [(7, .int 100), (6, .int 1), (5, .int y5_j9_1), (4, .int y4_j9_1), (3, .int y3_j9_1), (0, .ref th), (1, .ref pr), (2, .int se)]) hx hb dX0_firstOfBest_52 hl (by decide) rfl (fun ls hl => ?_)
          refine lv_iload hx hb dX0_firstOfBest_54 (lv_at hl 0 rfl) ?_
          refine lv_iload hx hb dX0_firstOfBest_56 (lv_at hl 3 rfl) ?_
          refine lv_icmp_ge (tgt := 68) hx hb dX0_firstOfBest_58 (by decide) (fun c_19 => ?_) (fun c_19 => ?_)
          · have c_19 := z_le c_19
            obtain ⟨x_20, ex_20, bx_20, tx_20⟩ := z_inc (n := 1) (lo := 1) (hi := 10) by5_j9_1_4 (by decide)
            refine lv_iinc (v := x_20) (lv' := [(5, .int x_20), (7, .int 100), (6, .int 1), (4, .int y4_j9_1), (3, .int y3_j9_1), (0, .ref th), (1, .ref pr), (2, .int se)]) hx hb dX0_firstOfBest_68 hl (k := 2) rfl ex_20 (by decide) rfl (fun ls hl => ?_)
            refine lv_goto (tgt := 9) hx hb dX0_firstOfBest_71 (by decide) ?_
            exact ih_j9_1 _ (by have := bx_20.1; have := bx_20.2; have := by4_j9_1.1; have := by4_j9_1.2; have := by3_j9_1.1; have := by3_j9_1.2; have := (zB.all se).1; have := (zB.all se).2; have := bx_2_5.1; have := bx_2_5.2; have : (0 : Int32).toInt = 0 := (by decide); have : (1 : Int32).toInt = 1 := (by decide); have : (100 : Int32).toInt = 100 := (by decide); have := by5_j9_1.1; have := by5_j9_1.2; have := by4_j9_1.1; have := by4_j9_1.2; have := by3_j9_1.1; have := by3_j9_1.2; omega) ls x_20 y4_j9_1 y3_j9_1 H locs (lv_sub hl [0, 3, 4, 5, 6, 7] rfl) (bx_20.w ⟨by decide, by decide⟩) by4_j9_1 by3_j9_1 h rfl
          · have c_19 := z_nle c_19
            exact zB.noLt c_19 (zBc 100 100 (by decide)) by4_j9_1 (by decide)
  exact j_j9_1 _ ls 0 100 0 s.heap [] (lv_sub hl [0, 1, 2, 3, 4, 5] rfl) (zB.of ⟨by decide, by decide⟩) (zB.of ⟨by decide, by decide⟩) (zB.of ⟨by decide, by decide⟩) h rfl

set_option maxHeartbeats 4000000 in
set_option maxRecDepth 100000 in
theorem zc_X0_find (l : Launch) (D : va_G) (k : Nat → ClassId) (Γ : Nat → Option Nat) (L : List Nat) (F : Nat → va_E) (sz : Nat) (th : Nat) (pr : Nat) (hth : Γ th = some 0) (hpr : Γ pr = some 6) : Met l yX0_find zwX0_find ({ frames := 3, cells := 0, slots := 0, locals := 72 }) (va_Pc [.ref th, .ref pr] (zP D k Γ L F sz)) (va_Qv (fun (u : Nat → va_E) => True) (zQ D k Γ L F [2, 11300, 11400]) (zA L sz)) 0 0 (zA L sz) := by
  refine Met.ofW (cc := cX0_find) (maxL := 5) (ret := none) (by decide) rfl ?_
  intro p e s m args below meth c s₁ B hml hv
  obtain ⟨rfl, hsz, hP, hK, hLn, hE, hI⟩ := hv
  have hx := B.exec
  have hb := B.bytes
  have hr := B.returns
  have hg : ∀ w ∈ zG, w.before _ s = true := fun w h9 => atoms_spec (ws := zwX0_find) B.pre w (List.mem_cons_of_mem _ h9)
  have hown : s.vm.findClass RX0 = some m.cls := findClass_of_methodNamed B.named
  have hlocks := B.notSynchronized
  subst hsz
  have Z : zC p m c cX0_find 5 s _ zG RX0 D k L := ⟨⟨hx, hb, hml, hown, hg⟩, hK, hLn, hE⟩
  have h : zH D k Γ L s F s.heap [] := ⟨hP, hI, va_S.rf⟩
  have hl := lv_entry ([.ref th, .ref pr]) (n := 5) (Nat.le_of_ble_eq_true rfl)
  rw [lg_entry_eq]
  generalize (lg_sl ([.ref th, .ref pr]) ++ List.replicate (5 - (lg_sl ([.ref th, .ref pr])).length) Slot.unset).toArray = ls at hl ⊢
  have hl : lv_has ls 5 [(0, .ref th), (1, .ref pr)] := hl
  clear hP hK hLn hE hI
  generalize hargs : ([.ref th, .ref pr] : List Value).toArray = args at *
  refine z_start (fun R Q hRf hRl hQ => ?_)
  have hRf : R.frames = 3 := hRf
  have hRl : R.locals = 72 := hRl
  refine lv_aload_n hx hb dX0_find_0 rfl (lv_at hl 0 rfl) ?_
  refine zt_geti (t := 0) (C := RX0) (T := TX0) (N := 3) Z h hth zin_0 rfl 2 rfl ⟨by decide, rfl⟩ (zm_RX0 (List.mem_of_getElem? (i := 2) rfl)) (fun _ h9 => h9) dX0_find_1 (fun x_1 kx_1 bx_1 => ?_)
  refine lv_if_eq (tgt := 8) hx hb dX0_find_4 (by decide) (fun c_2 => ?_) (fun c_2 => ?_)
  · have c_2 := z_eq c_2
    have bx_1_3 : zB 0 0 x_1 := zB.eqL (a := 0) (b := 0) c_2 (zBc 0 0 (by decide))
    refine lv_iconst (v := 1) hx hb dX0_find_8 (by decide) ?_
    refine lv_aload_n hx hb dX0_find_9 rfl (lv_at hl 1 rfl) ?_
    refine zt_geti (t := 6) (C := RX6) (T := TX6) (N := 6) Z h hpr zin_6 rfl 4 rfl ⟨by decide, rfl⟩ (zm_RX0 (List.mem_of_getElem? (i := 11) rfl)) (fun _ h9 => h9) dX0_find_10 (fun x_4 kx_4 bx_4 => ?_)
    refine lv_ishl hx hb dX0_find_13 ?_
    refine zi_shl1 (n := 10) (hi := 1024) bx_4 (by decide) rfl (fun x_5 bx_5 => ?_)
    refine lv_aload_n hx hb dX0_find_14 rfl (lv_at hl 0 rfl) ?_
    refine zt_getr (t := 0) (C := RX0) (T := TX0) (N := 3) Z h hth zin_0 rfl 0 rfl ⟨by decide, rfl⟩ (zm_RX0 (List.mem_of_getElem? (i := 7) rfl)) (fun _ h9 => h9) dX0_find_15 (fun a_6 ka_6 ha_6 => ?_)
    refine zt_alen (t := 113) Z h ha_6 ⟨by decide, rfl⟩ (by decide) (v := 1024) rfl dX0_find_18 ?_
    refine va_mmin hx hb (by rw [hml]; exact hl.1.symm) hown (hg _ (zm_RX0 (List.mem_of_getElem? (i := 12) rfl))) (hg _ (zm_RX0 (List.mem_of_getElem? (i := 13) rfl))) (hg _ (zm_RX0 (List.mem_of_getElem? (i := 14) rfl))) (hg _ (zm_RX0 (List.mem_of_getElem? (i := 15) rfl))) (z_leR hRf (by decide)) (z_leR hRl (Nat.le_of_ble_eq_true rfl)) (Nat.zero_le _) (Nat.zero_le _) dX0_find_19 ?_
    refine zi_min (lo := 1) (hi := 1024) bx_5 (zBc 1024 1024 (by decide)) (by decide) (fun x_7 bx_7 tx_7 => ?_)
    refine lv_iconst (v := 1) hx hb dX0_find_22 (by decide) ?_
    refine lv_isub hx hb dX0_find_23 ?_
    refine zi_sub (lo := 0) (hi := 1023) bx_7 (zBc 1 1 (by decide)) (by decide) (fun x_8 bx_8 tx_8 => ?_)
    refine lv_istore_n (lv' := [(2, .int x_8), (0, .ref th), (1, .ref pr)]) hx hb dX0_find_24 rfl hl (by decide) rfl (fun ls hl => ?_)
    refine lv_aload_n hx hb dX0_find_25 rfl (lv_at hl 1 rfl) ?_
    refine zt_getk (t := 0) (C := RX0) (T := TX0) (N := 3) Z h hth zin_0 rfl 0 ka_6 ⟨by decide, rfl, by decide⟩ (zm_RX0 (List.mem_of_getElem? (i := 7) rfl)) (fun _ h9 => h9) dX0_find_26 ?_
    refine lv_iload_n hx hb dX0_find_29 rfl (lv_at hl 0 rfl) ?_
    refine lv_iconst (v := 0) hx hb dX0_find_30 (by decide) ?_
    refine zt_iast (t := 113) Z h ha_6 ⟨by decide, rfl⟩ bx_8 ⟨by decide, by decide⟩ (zB.of ⟨by decide, by decide⟩) dX0_find_31 (fun H locs F_9 h hfF_9 => ?_)
    refine lv_iload_n hx hb dX0_find_32 rfl (lv_at hl 0 rfl) ?_
    refine lv_iconst (v := 1) hx hb dX0_find_33 (by decide) ?_
    refine lv_isub hx hb dX0_find_34 ?_
    refine zi_sub (lo := (-1)) (hi := 1022) bx_8 (zBc 1 1 (by decide)) (by decide) (fun x_10 bx_10 tx_10 => ?_)
    refine lv_istore_n (lv' := [(3, .int x_10), (2, .int x_8), (0, .ref th), (1, .ref pr)]) hx hb dX0_find_35 rfl hl (by decide) rfl (fun ls hl => ?_)
    have j_j36_11 : ∀ (n : Nat) (ls : Array Slot) (y3_j36_11 : Int32) (F_12 : Nat → va_E) (H : Heap) (locs : List Loc), lv_has ls 5 [(3, .int y3_j36_11), (0, .ref th), (1, .ref pr)] → zB (-1) 1022 y3_j36_11 → zH D k Γ L s F_12 H locs → zFr Γ [11300, 11400] F_9 F_12 → (y3_j36_11.toInt + 2147483648).toNat = n → W p l e R s m args below meth c H locs 0 0 Q (F0 m 36 ls []) := by
      intro n
      induction n using Nat.strongRecOn with
      | _ n ih_j36_11 =>
        intro ls y3_j36_11 F_12 H locs hl by3_j36_11 h hfF_12 hn_j36_11
        refine lv_iload_n hx hb dX0_find_36 rfl (lv_at hl 0 rfl) ?_
        refine lv_if_lt (tgt := 64) hx hb dX0_find_37 (by decide) (fun c_13 => ?_) (fun c_13 => ?_)
        · have c_13 := z_lt c_13
          have by3_j36_11_14 : zB (-1) (-1) y3_j36_11 := zB.ltL c_13 by3_j36_11 (zBc 0 0 (by decide)) (by decide)
          refine lv_iconst (v := 0) hx hb dX0_find_64 (by decide) ?_
          refine lv_istore_n (lv' := [(3, .int 0), (0, .ref th), (1, .ref pr)]) hx hb dX0_find_65 rfl hl (by decide) rfl (fun ls hl => ?_)
          refine lv_iconst (v := 0) hx hb dX0_find_66 (by decide) ?_
          refine lv_istore (lv' := [(4, .int 0), (3, .int 0), (0, .ref th), (1, .ref pr)]) hx hb dX0_find_67 hl (by decide) rfl (fun ls hl => ?_)
          have j_j69_15 : ∀ (n : Nat) (ls : Array Slot) (y4_j69_15 : Int32) (y3_j69_15 : Int32) (F_16 : Nat → va_E) (H : Heap) (locs : List Loc), lv_has ls 5 [(4, .int y4_j69_15), (3, .int y3_j69_15), (0, .ref th), (1, .ref pr)] → zB 0 10 y4_j69_15 → zB (-2147483648) 2147483647 y3_j69_15 → zH D k Γ L s F_16 H locs → zFr Γ [11300, 11400] F_12 F_16 → (2147483647 - y4_j69_15.toInt).toNat = n → W p l e R s m args below meth c H locs 0 0 Q (F0 m 69 ls []) := by
            intro n
            induction n using Nat.strongRecOn with
            | _ n ih_j69_15 =>
              intro ls y4_j69_15 y3_j69_15 F_16 H locs hl by4_j69_15 by3_j69_15 h hfF_16 hn_j69_15
              refine lv_iload hx hb dX0_find_69 (lv_at hl 0 rfl) ?_
              refine lv_aload_n hx hb dX0_find_71 rfl (lv_at hl 3 rfl) ?_
              refine zt_getk (t := 6) (C := RX6) (T := TX6) (N := 6) Z h hpr zin_6 rfl 4 (hfF_16.f hpr 4 ⟨by decide, by decide⟩ (hfF_12.f hpr 4 ⟨by decide, by decide⟩ (hfF_9.f hpr 4 ⟨by decide, by decide⟩ kx_4))) ⟨by decide, rfl, by decide⟩ (zm_RX0 (List.mem_of_getElem? (i := 11) rfl)) (fun _ h9 => h9) dX0_find_72 ?_
              refine lv_icmp_ge (tgt := 119) hx hb dX0_find_75 (by decide) (fun c_17 => ?_) (fun c_17 => ?_)
              · have c_17 := z_le c_17
                refine lv_aload_n hx hb dX0_find_119 rfl (lv_at hl 2 rfl) ?_
                refine lv_iconst (v := 1) hx hb dX0_find_120 (by decide) ?_
                refine zt_put (t := 0) (C := RX0) (T := TX0) (N := 3) (v := .int 1) Z h hth zin_0 tyX0 tyX0_ok nmX0 rfl 2 rfl ⟨by decide, rfl⟩ (zm_RX0 (List.mem_of_getElem? (i := 2) rfl)) (fun _ h9 => h9) rfl (zV.i (zB.of ⟨by decide, by decide⟩)) rfl rfl dX0_find_121 (fun H locs F_18 h hfF_18 kF_18 => ?_)
                subst hQ
                exact W.vret hx hb hr (fun t ht hW => ⟨⟨F_18, rfl, trivial, by rw [ht]; exact h.1, h.2.1, ((((hfF_9.w (by decide)).trans hfF_12 (by decide)).trans hfF_16 (by decide)).trans hfF_18 (by decide))⟩, h.2.2.F ht⟩) h.2.2.2.2 dX0_find_124
              · have c_17 := z_nle c_17
                have by4_j69_15_19 : zB 0 9 y4_j69_15 := zB.ltL c_17 by4_j69_15 bx_4 (by decide)
                have bx_4_20 : zB 1 10 x_4 := zB.ltR c_17 by4_j69_15 bx_4 (by decide)
                refine lv_iload hx hb dX0_find_78 (lv_at hl 0 rfl) ?_
                refine lv_aload_n hx hb dX0_find_80 rfl (lv_at hl 2 rfl) ?_
                refine zt_getr (t := 0) (C := RX0) (T := TX0) (N := 3) Z h hth zin_0 rfl 1 rfl ⟨by decide, rfl⟩ (zm_RX0 (List.mem_of_getElem? (i := 9) rfl)) (fun _ h9 => h9) dX0_find_81 (fun a_21 ka_21 ha_21 => ?_)
                refine zt_alen (t := 114) Z h ha_21 ⟨by decide, rfl⟩ (by decide) (v := 10) rfl dX0_find_84 ?_
                refine lv_icmp_ge (tgt := 119) hx hb dX0_find_85 (by decide) (fun c_22 => ?_) (fun c_22 => ?_)
                · have c_22 := z_le c_22
                  exact zB.noLe c_22 (zBc 10 10 (by decide)) by4_j69_15_19 (by decide)
                · have c_22 := z_nle c_22
                  refine lv_aload_n hx hb dX0_find_88 rfl (lv_at hl 2 rfl) ?_
                  refine zt_getk (t := 0) (C := RX0) (T := TX0) (N := 3) Z h hth zin_0 rfl 1 ka_21 ⟨by decide, rfl, by decide⟩ (zm_RX0 (List.mem_of_getElem? (i := 9) rfl)) (fun _ h9 => h9) dX0_find_89 ?_
                  refine lv_iload hx hb dX0_find_92 (lv_at hl 0 rfl) ?_
                  refine lv_aload_n hx hb dX0_find_94 rfl (lv_at hl 2 rfl) ?_
                  refine lv_aload_n hx hb dX0_find_95 rfl (lv_at hl 3 rfl) ?_
                  refine lv_iload_n hx hb dX0_find_96 rfl (lv_at hl 1 rfl) ?_
                  refine zk_Vi (As := [.ref pr, .int y3_j69_15]) (rest := [.int y4_j69_15, .ref a_21]) (bytes := cX0_firstOfBest) (maxL := 8) (ret := (some .int)) Z h (zc_X0_firstOfBest l D k Γ L F_16 H.size th pr y3_j69_15 hth hpr) (cwV 2 hg zv_RX0_38 rfl rfl rfl zd_X0_firstOfBest ⟨z_leR hRf (by decide), z_leR hRl (by decide)⟩) hth (by decide) rfl rfl hl.1 rfl (Nat.le_of_ble_eq_true rfl) dX0_find_97 ⟨Nat.zero_le _, Nat.zero_le _⟩ (fun r_23 F_24 H locs w_25 h hfF_24 => ?_)
                  obtain ⟨rfl, br_23, -⟩ := w_25
                  refine zt_iast (t := 114) Z h ha_21 ⟨by decide, rfl⟩ by4_j69_15_19 ⟨by decide, by decide⟩ (br_23.w ⟨by decide, by decide⟩) dX0_find_100 (fun H locs F_26 h hfF_26 => ?_)
                  refine lv_iload_n hx hb dX0_find_101 rfl (lv_at hl 1 rfl) ?_
                  refine lv_iconst (v := 1) hx hb dX0_find_102 (by decide) ?_
                  refine lv_aload_n hx hb dX0_find_103 rfl (lv_at hl 2 rfl) ?_
                  refine zt_getk (t := 0) (C := RX0) (T := TX0) (N := 3) Z h hth zin_0 rfl 1 (hfF_26.f hth 1 ⟨by decide, by decide⟩ ka_21) ⟨by decide, rfl, by decide⟩ (zm_RX0 (List.mem_of_getElem? (i := 9) rfl)) (fun _ h9 => h9) dX0_find_104 ?_
                  refine lv_iload hx hb dX0_find_107 (lv_at hl 0 rfl) ?_
                  refine zt_ialde (t := 114) Z h ha_21 ⟨by decide, rfl⟩ by4_j69_15_19 ⟨by decide, by decide⟩ dX0_find_109 (fun x_27 ex_27 bx_27 => ?_)
                  refine lv_ishl hx hb dX0_find_110 ?_
                  refine zi_any (fun x_28 bx_28 ex_28 => ?_)
                  refine lv_ior hx hb dX0_find_111 ?_
                  refine zi_any (fun x_29 bx_29 ex_29 => ?_)
                  refine lv_istore_n (lv' := [(3, .int x_29), (4, .int y4_j69_15), (0, .ref th), (1, .ref pr)]) hx hb dX0_find_112 rfl hl (by decide) rfl (fun ls hl => ?_)
                  obtain ⟨x_30, ex_30, bx_30, tx_30⟩ := z_inc (n := 1) (lo := 1) (hi := 10) by4_j69_15_19 (by decide)
                  refine lv_iinc (v := x_30) (lv' := [(4, .int x_30), (3, .int x_29), (0, .ref th), (1, .ref pr)]) hx hb dX0_find_113 hl (k := 1) rfl ex_30 (by decide) rfl (fun ls hl => ?_)
                  refine lv_goto (tgt := 69) hx hb dX0_find_116 (by decide) ?_
                  exact ih_j69_15 _ (by have := bx_30.1; have := bx_30.2; have := bx_29.1; have := bx_29.2; have := bx_1_3.1; have := bx_1_3.2; have := bx_4_20.1; have := bx_4_20.2; have : (0 : Int32).toInt = 0 := (by decide); have : (1 : Int32).toInt = 1 := (by decide); have : (10 : Int32).toInt = 10 := (by decide); have : (1024 : Int32).toInt = 1024 := (by decide); have := by4_j69_15.1; have := by4_j69_15.2; have := by3_j69_15.1; have := by3_j69_15.2; omega) ls x_30 x_29 F_26 H locs (lv_sub hl [0, 1, 2, 3] rfl) (bx_30.w ⟨by decide, by decide⟩) bx_29 h (hfF_16.trans hfF_26 (by decide)) rfl
          exact j_j69_15 _ ls 0 0 F_12 H locs (lv_sub hl [0, 1, 2, 3] rfl) (zB.of ⟨by decide, by decide⟩) (zB.of ⟨by decide, by decide⟩) h zFr.rf rfl
        · have c_13 := z_nlt c_13
          have by3_j36_11_31 : zB 0 1022 y3_j36_11 := zB.leR c_13 (zBc 0 0 (by decide)) by3_j36_11 (by decide)
          refine lv_aload_n hx hb dX0_find_40 rfl (lv_at hl 1 rfl) ?_
          refine zt_getk (t := 0) (C := RX0) (T := TX0) (N := 3) Z h hth zin_0 rfl 0 (hfF_12.f hth 0 ⟨by decide, by decide⟩ (hfF_9.f hth 0 ⟨by decide, by decide⟩ ka_6)) ⟨by decide, rfl, by decide⟩ (zm_RX0 (List.mem_of_getElem? (i := 7) rfl)) (fun _ h9 => h9) dX0_find_41 ?_
          refine lv_iload_n hx hb dX0_find_44 rfl (lv_at hl 0 rfl) ?_
          refine lv_aload_n hx hb dX0_find_45 rfl (lv_at hl 1 rfl) ?_
          refine lv_aload_n hx hb dX0_find_46 rfl (lv_at hl 2 rfl) ?_
          refine lv_iload_n hx hb dX0_find_47 rfl (lv_at hl 0 rfl) ?_
          refine lv_aload_n hx hb dX0_find_48 rfl (lv_at hl 1 rfl) ?_
          refine lv_aload_n hx hb dX0_find_49 rfl (lv_at hl 2 rfl) ?_
          refine lv_iload_n hx hb dX0_find_50 rfl (lv_at hl 0 rfl) ?_
          refine zk_Vi (As := [.ref pr, .int y3_j36_11]) (rest := [.int y3_j36_11, .ref pr, .ref th, .int y3_j36_11, .ref a_6]) (bytes := cX0_firstOfBest) (maxL := 8) (ret := (some .int)) Z h (zc_X0_firstOfBest l D k Γ L F_12 H.size th pr y3_j36_11 hth hpr) (cwV 2 hg zv_RX0_38 rfl rfl rfl zd_X0_firstOfBest ⟨z_leR hRf (by decide), z_leR hRl (by decide)⟩) hth (by decide) rfl rfl hl.1 rfl (Nat.le_of_ble_eq_true rfl) dX0_find_51 ⟨Nat.zero_le _, Nat.zero_le _⟩ (fun r_32 F_33 H locs w_34 h hfF_33 => ?_)
          obtain ⟨rfl, br_32, -⟩ := w_34
          refine zk_Vi (As := [.ref pr, .int y3_j36_11, .int r_32]) (rest := [.int y3_j36_11, .ref a_6]) (bytes := cX0_costBehind) (maxL := 5) (ret := (some .int)) Z h (zc_X0_costBehind l D k Γ L F_12 H.size th pr y3_j36_11 r_32 hth hpr) (cwV 3 hg zv_RX0_42 rfl rfl rfl zd_X0_costBehind ⟨z_leR hRf (by decide), z_leR hRl (by decide)⟩) hth (by decide) rfl rfl hl.1 rfl (Nat.le_of_ble_eq_true rfl) dX0_find_54 ⟨Nat.zero_le _, Nat.zero_le _⟩ (fun r_35 F_36 H locs w_37 h hfF_36 => ?_)
          obtain ⟨rfl, -⟩ := w_37
          have br_35 := zB.all r_35
          refine zt_iast (t := 113) Z h ha_6 ⟨by decide, rfl⟩ by3_j36_11_31 ⟨by decide, by decide⟩ br_35 dX0_find_57 (fun H locs F_38 h hfF_38 => ?_)
          obtain ⟨x_39, ex_39, bx_39, tx_39⟩ := z_inc (n := (-1)) (lo := (-1)) (hi := 1021) by3_j36_11_31 (by decide)
          refine lv_iinc (v := x_39) (lv' := [(3, .int x_39), (0, .ref th), (1, .ref pr)]) hx hb dX0_find_58 hl (k := 0) rfl ex_39 (by decide) rfl (fun ls hl => ?_)
          refine lv_goto (tgt := 36) hx hb dX0_find_61 (by decide) ?_
          exact ih_j36_11 _ (by have := bx_39.1; have := bx_39.2; have := bx_1_3.1; have := bx_1_3.2; have := bx_4.1; have := bx_4.2; have : (0 : Int32).toInt = 0 := (by decide); have : (1 : Int32).toInt = 1 := (by decide); have : (1024 : Int32).toInt = 1024 := (by decide); have := by3_j36_11.1; have := by3_j36_11.2; omega) ls x_39 F_38 H locs (lv_sub hl [0, 1, 2] rfl) (bx_39.w ⟨by decide, by decide⟩) h (hfF_12.trans hfF_38 (by decide)) rfl
    exact j_j36_11 _ ls x_10 F_9 H locs (lv_sub hl [0, 2, 3] rfl) bx_10 h zFr.rf rfl
  · have c_2 := z_ne c_2
    have bx_1_40 : zB 1 1 x_1 := zB.neLo c_2 bx_1 (zBc 0 0 (by decide)) (by decide)
    subst hQ
    exact W.vret hx hb hr (fun t ht hW => ⟨⟨F, rfl, trivial, by rw [ht]; exact h.1, h.2.1, zFr.rf⟩, h.2.2.F ht⟩) h.2.2.2.2 dX0_find_7

set_option maxHeartbeats 4000000 in
set_option maxRecDepth 100000 in
theorem zc_X0_callsAhead (l : Launch) (D : va_G) (k : Nat → ClassId) (Γ : Nat → Option Nat) (L : List Nat) (F : Nat → va_E) (sz : Nat) (th : Nat) (pr : Nat) (hth : Γ th = some 0) (hpr : Γ pr = some 6) : Met l yX0_callsAhead zwX0_callsAhead ({ frames := 4, cells := 0, slots := 0, locals := 96 }) (va_Pc [.ref th, .ref pr] (zP D k Γ L F sz)) (va_Qi (fun (r : Int32) (u : Nat → va_E) => True) (zQ D k Γ L F [2, 11300, 11400]) (zA L sz)) 0 0 (zA L sz) := by
  refine Met.ofW (cc := cX0_callsAhead) (maxL := 2) (ret := (some .int)) (by decide) rfl ?_
  intro p e s m args below meth c s₁ B hml hv
  obtain ⟨rfl, hsz, hP, hK, hLn, hE, hI⟩ := hv
  have hx := B.exec
  have hb := B.bytes
  have hr := B.returns
  have hg : ∀ w ∈ zG, w.before _ s = true := fun w h9 => atoms_spec (ws := zwX0_callsAhead) B.pre w (List.mem_cons_of_mem _ h9)
  have hown : s.vm.findClass RX0 = some m.cls := findClass_of_methodNamed B.named
  have hlocks := B.notSynchronized
  subst hsz
  have Z : zC p m c cX0_callsAhead 2 s _ zG RX0 D k L := ⟨⟨hx, hb, hml, hown, hg⟩, hK, hLn, hE⟩
  have h : zH D k Γ L s F s.heap [] := ⟨hP, hI, va_S.rf⟩
  have hl := lv_entry ([.ref th, .ref pr]) (n := 2) (Nat.le_of_ble_eq_true rfl)
  rw [lg_entry_eq]
  generalize (lg_sl ([.ref th, .ref pr]) ++ List.replicate (2 - (lg_sl ([.ref th, .ref pr])).length) Slot.unset).toArray = ls at hl ⊢
  have hl : lv_has ls 2 [(0, .ref th), (1, .ref pr)] := hl
  clear hP hK hLn hE hI
  generalize hargs : ([.ref th, .ref pr] : List Value).toArray = args at *
  refine z_start (fun R Q hRf hRl hQ => ?_)
  have hRf : R.frames = 4 := hRf
  have hRl : R.locals = 96 := hRl
  refine lv_aload_n hx hb dX0_callsAhead_0 rfl (lv_at hl 0 rfl) ?_
  refine lv_aload_n hx hb dX0_callsAhead_1 rfl (lv_at hl 1 rfl) ?_
  refine zk_Vv (As := [.ref pr]) (rest := []) (bytes := cX0_find) (maxL := 5) (ret := none) Z h (zc_X0_find l D k Γ L F s.heap.size th pr hth hpr) (cwV 1 hg zv_RX0_24 rfl rfl rfl zd_X0_find ⟨z_leR hRf (by decide), z_leR hRl (by decide)⟩) hth (by decide) rfl rfl hl.1 rfl (Nat.le_of_ble_eq_true rfl) dX0_callsAhead_2 ⟨Nat.zero_le _, Nat.zero_le _⟩ (fun F_1 H locs w_2 h hfF_1 => ?_)
  refine lv_aload_n hx hb dX0_callsAhead_5 rfl (lv_at hl 0 rfl) ?_
  refine zt_getr (t := 0) (C := RX0) (T := TX0) (N := 3) Z h hth zin_0 rfl 0 rfl ⟨by decide, rfl⟩ (zm_RX0 (List.mem_of_getElem? (i := 7) rfl)) (fun _ h9 => h9) dX0_callsAhead_6 (fun a_3 ka_3 ha_3 => ?_)
  refine lv_iconst (v := 0) hx hb dX0_callsAhead_9 (by decide) ?_
  refine zt_ialde (t := 113) Z h ha_3 ⟨by decide, rfl⟩ (zBc 0 0 (by decide)) ⟨by decide, by decide⟩ dX0_callsAhead_10 (fun x_4 ex_4 bx_4 => ?_)
  subst hQ
  exact W.iret (v := x_4) hx hb hr (fun t ht hW => ⟨⟨x_4, F_1, rfl, trivial, by rw [ht]; exact h.1, h.2.1, hfF_1⟩, h.2.2.F ht⟩) h.2.2.2.2 dX0_callsAhead_11

set_option maxHeartbeats 4000000 in
set_option maxRecDepth 100000 in
theorem zc_X0_functionAt (l : Launch) (D : va_G) (k : Nat → ClassId) (Γ : Nat → Option Nat) (L : List Nat) (F : Nat → va_E) (sz : Nat) (th : Nat) (pr : Nat) (i : Int32) (hth : Γ th = some 0) (hpr : Γ pr = some 6) : Met l yX0_functionAt zwX0_functionAt ({ frames := 4, cells := 0, slots := 0, locals := 96 }) (va_Pc [.ref th, .ref pr, .int i] (zP D k Γ L F sz)) (va_Qi (fun (r : Int32) (u : Nat → va_E) => True) (zQ D k Γ L F [2, 11300, 11400]) (zA L sz)) 0 0 (zA L sz) := by
  refine Met.ofW (cc := cX0_functionAt) (maxL := 3) (ret := (some .int)) (by decide) rfl ?_
  intro p e s m args below meth c s₁ B hml hv
  obtain ⟨rfl, hsz, hP, hK, hLn, hE, hI⟩ := hv
  have hx := B.exec
  have hb := B.bytes
  have hr := B.returns
  have hg : ∀ w ∈ zG, w.before _ s = true := fun w h9 => atoms_spec (ws := zwX0_functionAt) B.pre w (List.mem_cons_of_mem _ h9)
  have hown : s.vm.findClass RX0 = some m.cls := findClass_of_methodNamed B.named
  have hlocks := B.notSynchronized
  subst hsz
  have Z : zC p m c cX0_functionAt 3 s _ zG RX0 D k L := ⟨⟨hx, hb, hml, hown, hg⟩, hK, hLn, hE⟩
  have h : zH D k Γ L s F s.heap [] := ⟨hP, hI, va_S.rf⟩
  have hl := lv_entry ([.ref th, .ref pr, .int i]) (n := 3) (Nat.le_of_ble_eq_true rfl)
  rw [lg_entry_eq]
  generalize (lg_sl ([.ref th, .ref pr, .int i]) ++ List.replicate (3 - (lg_sl ([.ref th, .ref pr, .int i])).length) Slot.unset).toArray = ls at hl ⊢
  have hl : lv_has ls 3 [(0, .ref th), (1, .ref pr), (2, .int i)] := hl
  clear hP hK hLn hE hI
  generalize hargs : ([.ref th, .ref pr, .int i] : List Value).toArray = args at *
  refine z_start (fun R Q hRf hRl hQ => ?_)
  have hRf : R.frames = 4 := hRf
  have hRl : R.locals = 96 := hRl
  refine lv_aload_n hx hb dX0_functionAt_0 rfl (lv_at hl 0 rfl) ?_
  refine lv_aload_n hx hb dX0_functionAt_1 rfl (lv_at hl 1 rfl) ?_
  refine zk_Vv (As := [.ref pr]) (rest := []) (bytes := cX0_find) (maxL := 5) (ret := none) Z h (zc_X0_find l D k Γ L F s.heap.size th pr hth hpr) (cwV 1 hg zv_RX0_24 rfl rfl rfl zd_X0_find ⟨z_leR hRf (by decide), z_leR hRl (by decide)⟩) hth (by decide) rfl rfl hl.1 rfl (Nat.le_of_ble_eq_true rfl) dX0_functionAt_2 ⟨Nat.zero_le _, Nat.zero_le _⟩ (fun F_1 H locs w_2 h hfF_1 => ?_)
  refine lv_iload_n hx hb dX0_functionAt_5 rfl (lv_at hl 2 rfl) ?_
  refine lv_if_lt (tgt := 27) hx hb dX0_functionAt_6 (by decide) (fun c_3 => ?_) (fun c_3 => ?_)
  · have c_3 := z_lt c_3
    have bi_4 : zB (-2147483648) (-1) i := zB.ltL c_3 (zB.all i) (zBc 0 0 (by decide)) (by decide)
    refine lv_iconst (v := (-1)) hx hb dX0_functionAt_27 (by decide) ?_
    subst hQ
    exact W.iret (v := (-1)) hx hb hr (fun t ht hW => ⟨⟨(-1), F_1, rfl, trivial, by rw [ht]; exact h.1, h.2.1, hfF_1⟩, h.2.2.F ht⟩) h.2.2.2.2 dX0_functionAt_28
  · have c_3 := z_nlt c_3
    have bi_5 : zB 0 2147483647 i := zB.leR c_3 (zBc 0 0 (by decide)) (zB.all i) (by decide)
    refine lv_iload_n hx hb dX0_functionAt_9 rfl (lv_at hl 2 rfl) ?_
    refine lv_aload_n hx hb dX0_functionAt_10 rfl (lv_at hl 0 rfl) ?_
    refine zt_getr (t := 0) (C := RX0) (T := TX0) (N := 3) Z h hth zin_0 rfl 1 rfl ⟨by decide, rfl⟩ (zm_RX0 (List.mem_of_getElem? (i := 9) rfl)) (fun _ h9 => h9) dX0_functionAt_11 (fun a_6 ka_6 ha_6 => ?_)
    refine zt_alen (t := 114) Z h ha_6 ⟨by decide, rfl⟩ (by decide) (v := 10) rfl dX0_functionAt_14 ?_
    refine lv_icmp_ge (tgt := 27) hx hb dX0_functionAt_15 (by decide) (fun c_7 => ?_) (fun c_7 => ?_)
    · have c_7 := z_le c_7
      have bi_8 : zB 10 2147483647 i := zB.leR c_7 (zBc 10 10 (by decide)) bi_5 (by decide)
      refine lv_iconst (v := (-1)) hx hb dX0_functionAt_27 (by decide) ?_
      subst hQ
      exact W.iret (v := (-1)) hx hb hr (fun t ht hW => ⟨⟨(-1), F_1, rfl, trivial, by rw [ht]; exact h.1, h.2.1, hfF_1⟩, h.2.2.F ht⟩) h.2.2.2.2 dX0_functionAt_28
    · have c_7 := z_nle c_7
      have bi_9 : zB 0 9 i := zB.ltL c_7 bi_5 (zBc 10 10 (by decide)) (by decide)
      refine lv_aload_n hx hb dX0_functionAt_18 rfl (lv_at hl 0 rfl) ?_
      refine zt_getk (t := 0) (C := RX0) (T := TX0) (N := 3) Z h hth zin_0 rfl 1 ka_6 ⟨by decide, rfl, by decide⟩ (zm_RX0 (List.mem_of_getElem? (i := 9) rfl)) (fun _ h9 => h9) dX0_functionAt_19 ?_
      refine lv_iload_n hx hb dX0_functionAt_22 rfl (lv_at hl 2 rfl) ?_
      refine zt_ialde (t := 114) Z h ha_6 ⟨by decide, rfl⟩ bi_9 ⟨by decide, by decide⟩ dX0_functionAt_23 (fun x_10 ex_10 bx_10 => ?_)
      refine lv_goto (tgt := 28) hx hb dX0_functionAt_24 (by decide) ?_
      subst hQ
      exact W.iret (v := x_10) hx hb hr (fun t ht hW => ⟨⟨x_10, F_1, rfl, trivial, by rw [ht]; exact h.1, h.2.1, hfF_1⟩, h.2.2.F ht⟩) h.2.2.2.2 dX0_functionAt_28
