set_option maxHeartbeats 4000000 in
set_option maxRecDepth 100000 in
theorem zc_X8_has (l : Launch) (D : va_G) (k : Nat → ClassId) (Γ : Nat → Option Nat) (L : List Nat) (F : Nat → va_E) (sz : Nat) (th : Nat) (t : Int32) (hth : Γ th = some 8) : Met l yX8_has zwX8_has ({ frames := 0, cells := 0, slots := 0, locals := 0 }) (va_Pc [.ref th, .int t] (zP D k Γ L F sz)) (va_Qi (fun (r : Int32) (u : Nat → va_E) => F = u ∧ zB 0 1 r ∧ (r ≠ 0 → zB 0 600 t) ∧ True) (zQ D k Γ L F []) (zA L sz)) 0 0 (zA L sz) := by
  refine Met.ofW (cc := cX8_has) (maxL := 2) (ret := (some .boolean)) (by decide) rfl ?_
  intro p e s m args below meth c s₁ B hml hv
  obtain ⟨rfl, hsz, hP, hK, hLn, hE, hI⟩ := hv
  have hx := B.exec
  have hb := B.bytes
  have hr := B.returns
  have hg : ∀ w ∈ zG, w.before _ s = true := fun w h9 => atoms_spec (ws := zwX8_has) B.pre w (List.mem_cons_of_mem _ h9)
  have hown : s.vm.findClass RX8 = some m.cls := findClass_of_methodNamed B.named
  have hlocks := B.notSynchronized
  subst hsz
  have Z : zC p m c cX8_has 2 s _ zG RX8 D k L := ⟨⟨hx, hb, hml, hown, hg⟩, hK, hLn, hE⟩
  have h : zH D k Γ L s F s.heap [] := ⟨hP, hI, va_S.rf⟩
  have hl := lv_entry ([.ref th, .int t]) (n := 2) (Nat.le_of_ble_eq_true rfl)
  rw [lg_entry_eq]
  generalize (lg_sl ([.ref th, .int t]) ++ List.replicate (2 - (lg_sl ([.ref th, .int t])).length) Slot.unset).toArray = ls at hl ⊢
  have hl : lv_has ls 2 [(0, .ref th), (1, .int t)] := hl
  clear hP hK hLn hE hI
  generalize hargs : ([.ref th, .int t] : List Value).toArray = args at *
  refine z_start (fun R Q hRf hRl hQ => ?_)
  have hRf : R.frames = 0 := hRf
  have hRl : R.locals = 0 := hRl
  refine lv_iload_n hx hb dX8_has_0 rfl (lv_at hl 1 rfl) ?_
  refine lv_if_lt (tgt := 25) hx hb dX8_has_1 (by decide) (fun c_1 => ?_) (fun c_1 => ?_)
  · have c_1 := z_lt c_1
    have bt_2 : zB (-2147483648) (-1) t := zB.ltL c_1 (zB.all t) (zBc 0 0 (by decide)) (by decide)
    refine lv_iconst (v := 0) hx hb dX8_has_25 (by decide) ?_
    subst hQ
    exact W.zret (v := 0) hx hb hr (by decide) (fun t ht hW => ⟨⟨0, F, rfl, ⟨rfl, (zB.of ⟨by decide, by decide⟩), (fun h9 => absurd rfl h9), trivial⟩, by rw [ht]; exact h.1, h.2.1, zFr.rf⟩, h.2.2.F ht⟩) h.2.2.2.2 dX8_has_26
  · have c_1 := z_nlt c_1
    have bt_3 : zB 0 2147483647 t := zB.leR c_1 (zBc 0 0 (by decide)) (zB.all t) (by decide)
    refine lv_iload_n hx hb dX8_has_4 rfl (lv_at hl 1 rfl) ?_
    refine lv_aload_n hx hb dX8_has_5 rfl (lv_at hl 0 rfl) ?_
    refine zt_geti (t := 8) (C := RX8) (T := TX8) (N := 6) Z h hth zin_8 rfl 5 rfl ⟨by decide, rfl⟩ (zm_RX8 (List.mem_of_getElem? (i := 25) rfl)) (fun _ h9 => h9) dX8_has_6 (fun x_4 kx_4 bx_4 => ?_)
    refine lv_icmp_ge (tgt := 25) hx hb dX8_has_9 (by decide) (fun c_5 => ?_) (fun c_5 => ?_)
    · have c_5 := z_le c_5
      refine lv_iconst (v := 0) hx hb dX8_has_25 (by decide) ?_
      subst hQ
      exact W.zret (v := 0) hx hb hr (by decide) (fun t ht hW => ⟨⟨0, F, rfl, ⟨rfl, (zB.of ⟨by decide, by decide⟩), (fun h9 => absurd rfl h9), trivial⟩, by rw [ht]; exact h.1, h.2.1, zFr.rf⟩, h.2.2.F ht⟩) h.2.2.2.2 dX8_has_26
    · have c_5 := z_nle c_5
      have bt_6 : zB 0 600 t := zB.ltL c_5 bt_3 bx_4 (by decide)
      have bx_4_7 : zB 1 601 x_4 := zB.ltR c_5 bt_3 bx_4 (by decide)
      refine lv_iload_n hx hb dX8_has_12 rfl (lv_at hl 1 rfl) ?_
      refine lv_aload_n hx hb dX8_has_13 rfl (lv_at hl 0 rfl) ?_
      refine zt_getr (t := 8) (C := RX8) (T := TX8) (N := 6) Z h hth zin_8 rfl 2 rfl ⟨by decide, rfl⟩ (zm_RX8 (List.mem_of_getElem? (i := 52) rfl)) (fun _ h9 => h9) dX8_has_14 (fun a_8 ka_8 ha_8 => ?_)
      refine zt_alen (t := 101) Z h ha_8 ⟨by decide, rfl⟩ (by decide) (v := 601) rfl dX8_has_17 ?_
      refine lv_icmp_ge (tgt := 25) hx hb dX8_has_18 (by decide) (fun c_9 => ?_) (fun c_9 => ?_)
      · have c_9 := z_le c_9
        exact zB.noLe c_9 (zBc 601 601 (by decide)) bt_6 (by decide)
      · have c_9 := z_nle c_9
        refine lv_iconst (v := 1) hx hb dX8_has_21 (by decide) ?_
        refine lv_goto (tgt := 26) hx hb dX8_has_22 (by decide) ?_
        subst hQ
        exact W.zret (v := 1) hx hb hr (by decide) (fun t ht hW => ⟨⟨1, F, rfl, ⟨rfl, (zB.of ⟨by decide, by decide⟩), (fun _ => bt_6), trivial⟩, by rw [ht]; exact h.1, h.2.1, zFr.rf⟩, h.2.2.F ht⟩) h.2.2.2.2 dX8_has_26

set_option maxHeartbeats 4000000 in
set_option maxRecDepth 100000 in
theorem zc_X8_textAt (l : Launch) (D : va_G) (k : Nat → ClassId) (Γ : Nat → Option Nat) (L : List Nat) (F : Nat → va_E) (sz : Nat) (th : Nat) (i : Int32) (hth : Γ th = some 8) : Met l yX8_textAt zwX8_textAt ({ frames := 0, cells := 0, slots := 0, locals := 0 }) (va_Pc [.ref th, .int i] (zP D k Γ L F sz)) (va_Qi (fun (r : Int32) (u : Nat → va_E) => F = u ∧ zB (-128) 127 r ∧ True) (zQ D k Γ L F []) (zA L sz)) 0 0 (zA L sz) := by
  refine Met.ofW (cc := cX8_textAt) (maxL := 2) (ret := (some .int)) (by decide) rfl ?_
  intro p e s m args below meth c s₁ B hml hv
  obtain ⟨rfl, hsz, hP, hK, hLn, hE, hI⟩ := hv
  have hx := B.exec
  have hb := B.bytes
  have hr := B.returns
  have hg : ∀ w ∈ zG, w.before _ s = true := fun w h9 => atoms_spec (ws := zwX8_textAt) B.pre w (List.mem_cons_of_mem _ h9)
  have hown : s.vm.findClass RX8 = some m.cls := findClass_of_methodNamed B.named
  have hlocks := B.notSynchronized
  subst hsz
  have Z : zC p m c cX8_textAt 2 s _ zG RX8 D k L := ⟨⟨hx, hb, hml, hown, hg⟩, hK, hLn, hE⟩
  have h : zH D k Γ L s F s.heap [] := ⟨hP, hI, va_S.rf⟩
  have hl := lv_entry ([.ref th, .int i]) (n := 2) (Nat.le_of_ble_eq_true rfl)
  rw [lg_entry_eq]
  generalize (lg_sl ([.ref th, .int i]) ++ List.replicate (2 - (lg_sl ([.ref th, .int i])).length) Slot.unset).toArray = ls at hl ⊢
  have hl : lv_has ls 2 [(0, .ref th), (1, .int i)] := hl
  clear hP hK hLn hE hI
  generalize hargs : ([.ref th, .int i] : List Value).toArray = args at *
  refine z_start (fun R Q hRf hRl hQ => ?_)
  have hRf : R.frames = 0 := hRf
  have hRl : R.locals = 0 := hRl
  refine lv_iload_n hx hb dX8_textAt_0 rfl (lv_at hl 1 rfl) ?_
  refine lv_if_lt (tgt := 30) hx hb dX8_textAt_1 (by decide) (fun c_1 => ?_) (fun c_1 => ?_)
  · have c_1 := z_lt c_1
    have bi_2 : zB (-2147483648) (-1) i := zB.ltL c_1 (zB.all i) (zBc 0 0 (by decide)) (by decide)
    refine lv_iconst (v := (-1)) hx hb dX8_textAt_30 (by decide) ?_
    subst hQ
    exact W.iret (v := (-1)) hx hb hr (fun t ht hW => ⟨⟨(-1), F, rfl, ⟨rfl, (zB.of ⟨by decide, by decide⟩), trivial⟩, by rw [ht]; exact h.1, h.2.1, zFr.rf⟩, h.2.2.F ht⟩) h.2.2.2.2 dX8_textAt_31
  · have c_1 := z_nlt c_1
    have bi_3 : zB 0 2147483647 i := zB.leR c_1 (zBc 0 0 (by decide)) (zB.all i) (by decide)
    refine lv_iload_n hx hb dX8_textAt_4 rfl (lv_at hl 1 rfl) ?_
    refine lv_aload_n hx hb dX8_textAt_5 rfl (lv_at hl 0 rfl) ?_
    refine zt_geti (t := 8) (C := RX8) (T := TX8) (N := 6) Z h hth zin_8 rfl 1 rfl ⟨by decide, rfl⟩ (zm_RX8 (List.mem_of_getElem? (i := 20) rfl)) (fun _ h9 => h9) dX8_textAt_6 (fun x_4 kx_4 bx_4 => ?_)
    refine lv_icmp_ge (tgt := 30) hx hb dX8_textAt_9 (by decide) (fun c_5 => ?_) (fun c_5 => ?_)
    · have c_5 := z_le c_5
      refine lv_iconst (v := (-1)) hx hb dX8_textAt_30 (by decide) ?_
      subst hQ
      exact W.iret (v := (-1)) hx hb hr (fun t ht hW => ⟨⟨(-1), F, rfl, ⟨rfl, (zB.of ⟨by decide, by decide⟩), trivial⟩, by rw [ht]; exact h.1, h.2.1, zFr.rf⟩, h.2.2.F ht⟩) h.2.2.2.2 dX8_textAt_31
    · have c_5 := z_nle c_5
      have bi_6 : zB 0 599 i := zB.ltL c_5 bi_3 bx_4 (by decide)
      have bx_4_7 : zB 1 600 x_4 := zB.ltR c_5 bi_3 bx_4 (by decide)
      refine lv_iload_n hx hb dX8_textAt_12 rfl (lv_at hl 1 rfl) ?_
      refine lv_aload_n hx hb dX8_textAt_13 rfl (lv_at hl 0 rfl) ?_
      refine zt_getr (t := 8) (C := RX8) (T := TX8) (N := 6) Z h hth zin_8 rfl 0 rfl ⟨by decide, rfl⟩ (zm_RX8 (List.mem_of_getElem? (i := 12) rfl)) (fun _ h9 => h9) dX8_textAt_14 (fun a_8 ka_8 ha_8 => ?_)
      refine zt_alen (t := 100) Z h ha_8 ⟨by decide, rfl⟩ (by decide) (v := 600) rfl dX8_textAt_17 ?_
      refine lv_icmp_ge (tgt := 30) hx hb dX8_textAt_18 (by decide) (fun c_9 => ?_) (fun c_9 => ?_)
      · have c_9 := z_le c_9
        exact zB.noLe c_9 (zBc 600 600 (by decide)) bi_6 (by decide)
      · have c_9 := z_nle c_9
        refine lv_aload_n hx hb dX8_textAt_21 rfl (lv_at hl 0 rfl) ?_
        refine zt_getk (t := 8) (C := RX8) (T := TX8) (N := 6) Z h hth zin_8 rfl 0 ka_8 ⟨by decide, rfl, by decide⟩ (zm_RX8 (List.mem_of_getElem? (i := 12) rfl)) (fun _ h9 => h9) dX8_textAt_22 ?_
        refine lv_iload_n hx hb dX8_textAt_25 rfl (lv_at hl 1 rfl) ?_
        refine zt_bald (t := 100) Z h ha_8 ⟨by decide, rfl⟩ bi_6 ⟨by decide, by decide⟩ dX8_textAt_26 (fun x_10 bx_10 => ?_)
        refine lv_goto (tgt := 31) hx hb dX8_textAt_27 (by decide) ?_
        subst hQ
        exact W.iret (v := x_10) hx hb hr (fun t ht hW => ⟨⟨x_10, F, rfl, ⟨rfl, bx_10, trivial⟩, by rw [ht]; exact h.1, h.2.1, zFr.rf⟩, h.2.2.F ht⟩) h.2.2.2.2 dX8_textAt_31

set_option maxHeartbeats 4000000 in
set_option maxRecDepth 100000 in
theorem zc_X8_placeOf (l : Launch) (D : va_G) (k : Nat → ClassId) (Γ : Nat → Option Nat) (L : List Nat) (F : Nat → va_E) (sz : Nat) (th : Nat) (t : Int32) (hth : Γ th = some 8) : Met l yX8_placeOf zwX8_placeOf ({ frames := 1, cells := 0, slots := 0, locals := 21 }) (va_Pc [.ref th, .int t] (zP D k Γ L F sz)) (va_Qi (fun (r : Int32) (u : Nat → va_E) => F = u ∧ True) (zQ D k Γ L F []) (zA L sz)) 0 0 (zA L sz) := by
  refine Met.ofW (cc := cX8_placeOf) (maxL := 2) (ret := (some .int)) (by decide) rfl ?_
  intro p e s m args below meth c s₁ B hml hv
  obtain ⟨rfl, hsz, hP, hK, hLn, hE, hI⟩ := hv
  have hx := B.exec
  have hb := B.bytes
  have hr := B.returns
  have hg : ∀ w ∈ zG, w.before _ s = true := fun w h9 => atoms_spec (ws := zwX8_placeOf) B.pre w (List.mem_cons_of_mem _ h9)
  have hown : s.vm.findClass RX8 = some m.cls := findClass_of_methodNamed B.named
  have hlocks := B.notSynchronized
  subst hsz
  have Z : zC p m c cX8_placeOf 2 s _ zG RX8 D k L := ⟨⟨hx, hb, hml, hown, hg⟩, hK, hLn, hE⟩
  have h : zH D k Γ L s F s.heap [] := ⟨hP, hI, va_S.rf⟩
  have hl := lv_entry ([.ref th, .int t]) (n := 2) (Nat.le_of_ble_eq_true rfl)
  rw [lg_entry_eq]
  generalize (lg_sl ([.ref th, .int t]) ++ List.replicate (2 - (lg_sl ([.ref th, .int t])).length) Slot.unset).toArray = ls at hl ⊢
  have hl : lv_has ls 2 [(0, .ref th), (1, .int t)] := hl
  clear hP hK hLn hE hI
  generalize hargs : ([.ref th, .int t] : List Value).toArray = args at *
  refine z_start (fun R Q hRf hRl hQ => ?_)
  have hRf : R.frames = 1 := hRf
  have hRl : R.locals = 21 := hRl
  refine lv_aload_n hx hb dX8_placeOf_0 rfl (lv_at hl 0 rfl) ?_
  refine lv_iload_n hx hb dX8_placeOf_1 rfl (lv_at hl 1 rfl) ?_
  refine zk_Vi (As := [.int t]) (rest := []) (bytes := cX8_has) (maxL := 2) (ret := (some .boolean)) Z h (zc_X8_has l D k Γ L F s.heap.size th t hth) (cwV 1 hg zv_RX8_58 rfl rfl rfl zd_X8_has ⟨z_leR hRf (by decide), z_leR hRl (by decide)⟩) hth (by decide) rfl rfl hl.1 rfl (Nat.le_of_ble_eq_true rfl) dX8_placeOf_2 ⟨Nat.zero_le _, Nat.zero_le _⟩ (fun r_1 F_2 H locs w_3 h hfF_2 => ?_)
  obtain ⟨rfl, br_1, q_4, -⟩ := w_3
  refine lv_if_eq (tgt := 17) hx hb dX8_placeOf_5 (by decide) (fun c_5 => ?_) (fun c_5 => ?_)
  · have c_5 := z_eq c_5
    have br_1_6 : zB 0 0 r_1 := zB.eqL (a := 0) (b := 0) c_5 (zBc 0 0 (by decide))
    refine lv_aload_n hx hb dX8_placeOf_17 rfl (lv_at hl 0 rfl) ?_
    refine zt_geti (t := 8) (C := RX8) (T := TX8) (N := 6) Z h hth zin_8 rfl 1 rfl ⟨by decide, rfl⟩ (zm_RX8 (List.mem_of_getElem? (i := 20) rfl)) (fun _ h9 => h9) dX8_placeOf_18 (fun x_7 kx_7 bx_7 => ?_)
    subst hQ
    exact W.iret (v := x_7) hx hb hr (fun t ht hW => ⟨⟨x_7, F, rfl, ⟨rfl, trivial⟩, by rw [ht]; exact h.1, h.2.1, zFr.rf⟩, h.2.2.F ht⟩) h.2.2.2.2 dX8_placeOf_21
  · have bt_8 : zB 0 600 t := q_4 c_5
    have c_5 := z_ne c_5
    have br_1_9 : zB 1 1 r_1 := zB.neLo c_5 br_1 (zBc 0 0 (by decide)) (by decide)
    refine lv_aload_n hx hb dX8_placeOf_8 rfl (lv_at hl 0 rfl) ?_
    refine zt_getr (t := 8) (C := RX8) (T := TX8) (N := 6) Z h hth zin_8 rfl 3 rfl ⟨by decide, rfl⟩ (zm_RX8 (List.mem_of_getElem? (i := 39) rfl)) (fun _ h9 => h9) dX8_placeOf_9 (fun a_10 ka_10 ha_10 => ?_)
    refine lv_iload_n hx hb dX8_placeOf_12 rfl (lv_at hl 1 rfl) ?_
    refine zt_iald (t := 101) Z h ha_10 ⟨by decide, rfl⟩ bt_8 ⟨by decide, by decide⟩ dX8_placeOf_13 (fun x_11 bx_11 => ?_)
    refine lv_goto (tgt := 21) hx hb dX8_placeOf_14 (by decide) ?_
    subst hQ
    exact W.iret (v := x_11) hx hb hr (fun t ht hW => ⟨⟨x_11, F, rfl, ⟨rfl, trivial⟩, by rw [ht]; exact h.1, h.2.1, zFr.rf⟩, h.2.2.F ht⟩) h.2.2.2.2 dX8_placeOf_21

set_option maxHeartbeats 4000000 in
set_option maxRecDepth 100000 in
theorem zc_X8_byteOf (l : Launch) (D : va_G) (k : Nat → ClassId) (Γ : Nat → Option Nat) (L : List Nat) (F : Nat → va_E) (sz : Nat) (th : Nat) (t : Int32) (i : Int32) (hth : Γ th = some 8) : Met l yX8_byteOf zwX8_byteOf ({ frames := 1, cells := 0, slots := 0, locals := 21 }) (va_Pc [.ref th, .int t, .int i] (zP D k Γ L F sz)) (va_Qi (fun (r : Int32) (u : Nat → va_E) => F = u ∧ zB (-128) 127 r ∧ True) (zQ D k Γ L F []) (zA L sz)) 0 0 (zA L sz) := by
  refine Met.ofW (cc := cX8_byteOf) (maxL := 3) (ret := (some .int)) (by decide) rfl ?_
  intro p e s m args below meth c s₁ B hml hv
  obtain ⟨rfl, hsz, hP, hK, hLn, hE, hI⟩ := hv
  have hx := B.exec
  have hb := B.bytes
  have hr := B.returns
  have hg : ∀ w ∈ zG, w.before _ s = true := fun w h9 => atoms_spec (ws := zwX8_byteOf) B.pre w (List.mem_cons_of_mem _ h9)
  have hown : s.vm.findClass RX8 = some m.cls := findClass_of_methodNamed B.named
  have hlocks := B.notSynchronized
  subst hsz
  have Z : zC p m c cX8_byteOf 3 s _ zG RX8 D k L := ⟨⟨hx, hb, hml, hown, hg⟩, hK, hLn, hE⟩
  have h : zH D k Γ L s F s.heap [] := ⟨hP, hI, va_S.rf⟩
  have hl := lv_entry ([.ref th, .int t, .int i]) (n := 3) (Nat.le_of_ble_eq_true rfl)
  rw [lg_entry_eq]
  generalize (lg_sl ([.ref th, .int t, .int i]) ++ List.replicate (3 - (lg_sl ([.ref th, .int t, .int i])).length) Slot.unset).toArray = ls at hl ⊢
  have hl : lv_has ls 3 [(0, .ref th), (1, .int t), (2, .int i)] := hl
  clear hP hK hLn hE hI
  generalize hargs : ([.ref th, .int t, .int i] : List Value).toArray = args at *
  refine z_start (fun R Q hRf hRl hQ => ?_)
  have hRf : R.frames = 1 := hRf
  have hRl : R.locals = 21 := hRl
  refine lv_aload_n hx hb dX8_byteOf_0 rfl (lv_at hl 0 rfl) ?_
  refine lv_iload_n hx hb dX8_byteOf_1 rfl (lv_at hl 1 rfl) ?_
  refine zk_Vi (As := [.int t]) (rest := []) (bytes := cX8_has) (maxL := 2) (ret := (some .boolean)) Z h (zc_X8_has l D k Γ L F s.heap.size th t hth) (cwV 1 hg zv_RX8_58 rfl rfl rfl zd_X8_has ⟨z_leR hRf (by decide), z_leR hRl (by decide)⟩) hth (by decide) rfl rfl hl.1 rfl (Nat.le_of_ble_eq_true rfl) dX8_byteOf_2 ⟨Nat.zero_le _, Nat.zero_le _⟩ (fun r_1 F_2 H locs w_3 h hfF_2 => ?_)
  obtain ⟨rfl, br_1, q_4, -⟩ := w_3
  refine lv_if_eq (tgt := 37) hx hb dX8_byteOf_5 (by decide) (fun c_5 => ?_) (fun c_5 => ?_)
  · have c_5 := z_eq c_5
    have br_1_6 : zB 0 0 r_1 := zB.eqL (a := 0) (b := 0) c_5 (zBc 0 0 (by decide))
    refine lv_iconst (v := (-1)) hx hb dX8_byteOf_37 (by decide) ?_
    subst hQ
    exact W.iret (v := (-1)) hx hb hr (fun t ht hW => ⟨⟨(-1), F, rfl, ⟨rfl, (zB.of ⟨by decide, by decide⟩), trivial⟩, by rw [ht]; exact h.1, h.2.1, zFr.rf⟩, h.2.2.F ht⟩) h.2.2.2.2 dX8_byteOf_38
  · have bt_7 : zB 0 600 t := q_4 c_5
    have c_5 := z_ne c_5
    have br_1_8 : zB 1 1 r_1 := zB.neLo c_5 br_1 (zBc 0 0 (by decide)) (by decide)
    refine lv_iload_n hx hb dX8_byteOf_8 rfl (lv_at hl 2 rfl) ?_
    refine lv_if_lt (tgt := 37) hx hb dX8_byteOf_9 (by decide) (fun c_9 => ?_) (fun c_9 => ?_)
    · have c_9 := z_lt c_9
      have bi_10 : zB (-2147483648) (-1) i := zB.ltL c_9 (zB.all i) (zBc 0 0 (by decide)) (by decide)
      refine lv_iconst (v := (-1)) hx hb dX8_byteOf_37 (by decide) ?_
      subst hQ
      exact W.iret (v := (-1)) hx hb hr (fun t ht hW => ⟨⟨(-1), F, rfl, ⟨rfl, (zB.of ⟨by decide, by decide⟩), trivial⟩, by rw [ht]; exact h.1, h.2.1, zFr.rf⟩, h.2.2.F ht⟩) h.2.2.2.2 dX8_byteOf_38
    · have c_9 := z_nlt c_9
      have bi_11 : zB 0 2147483647 i := zB.leR c_9 (zBc 0 0 (by decide)) (zB.all i) (by decide)
      refine lv_iload_n hx hb dX8_byteOf_12 rfl (lv_at hl 2 rfl) ?_
      refine lv_aload_n hx hb dX8_byteOf_13 rfl (lv_at hl 0 rfl) ?_
      refine zt_getr (t := 8) (C := RX8) (T := TX8) (N := 6) Z h hth zin_8 rfl 4 rfl ⟨by decide, rfl⟩ (zm_RX8 (List.mem_of_getElem? (i := 41) rfl)) (fun _ h9 => h9) dX8_byteOf_14 (fun a_12 ka_12 ha_12 => ?_)
      refine lv_iload_n hx hb dX8_byteOf_17 rfl (lv_at hl 1 rfl) ?_
      refine zt_iald (t := 101) Z h ha_12 ⟨by decide, rfl⟩ bt_7 ⟨by decide, by decide⟩ dX8_byteOf_18 (fun x_13 bx_13 => ?_)
      refine lv_icmp_ge (tgt := 37) hx hb dX8_byteOf_19 (by decide) (fun c_14 => ?_) (fun c_14 => ?_)
      · have c_14 := z_le c_14
        refine lv_iconst (v := (-1)) hx hb dX8_byteOf_37 (by decide) ?_
        subst hQ
        exact W.iret (v := (-1)) hx hb hr (fun t ht hW => ⟨⟨(-1), F, rfl, ⟨rfl, (zB.of ⟨by decide, by decide⟩), trivial⟩, by rw [ht]; exact h.1, h.2.1, zFr.rf⟩, h.2.2.F ht⟩) h.2.2.2.2 dX8_byteOf_38
      · have c_14 := z_nle c_14
        have bi_15 : zB 0 2147483646 i := zB.ltL c_14 bi_11 bx_13 (by decide)
        have bx_13_16 : zB 1 2147483647 x_13 := zB.ltR c_14 bi_11 bx_13 (by decide)
        refine lv_aload_n hx hb dX8_byteOf_22 rfl (lv_at hl 0 rfl) ?_
        refine lv_aload_n hx hb dX8_byteOf_23 rfl (lv_at hl 0 rfl) ?_
        refine zt_getr (t := 8) (C := RX8) (T := TX8) (N := 6) Z h hth zin_8 rfl 3 rfl ⟨by decide, rfl⟩ (zm_RX8 (List.mem_of_getElem? (i := 39) rfl)) (fun _ h9 => h9) dX8_byteOf_24 (fun a_17 ka_17 ha_17 => ?_)
        refine lv_iload_n hx hb dX8_byteOf_27 rfl (lv_at hl 1 rfl) ?_
        refine zt_iald (t := 101) Z h ha_17 ⟨by decide, rfl⟩ bt_7 ⟨by decide, by decide⟩ dX8_byteOf_28 (fun x_18 bx_18 => ?_)
        refine lv_iload_n hx hb dX8_byteOf_29 rfl (lv_at hl 2 rfl) ?_
        refine lv_iadd hx hb dX8_byteOf_30 ?_
        refine zi_any (fun x_19 bx_19 ex_19 => ?_)
        refine zk_Vi (As := [.int x_19]) (rest := []) (bytes := cX8_textAt) (maxL := 2) (ret := (some .int)) Z h (zc_X8_textAt l D k Γ L F H.size th x_19 hth) (cwV 1 hg zv_RX8_62 rfl rfl rfl zd_X8_textAt ⟨z_leR hRf (by decide), z_leR hRl (by decide)⟩) hth (by decide) rfl rfl hl.1 rfl (Nat.le_of_ble_eq_true rfl) dX8_byteOf_31 ⟨Nat.zero_le _, Nat.zero_le _⟩ (fun r_20 F_21 H locs w_22 h hfF_21 => ?_)
        obtain ⟨rfl, br_20, -⟩ := w_22
        refine lv_goto (tgt := 38) hx hb dX8_byteOf_34 (by decide) ?_
        subst hQ
        exact W.iret (v := r_20) hx hb hr (fun t ht hW => ⟨⟨r_20, F, rfl, ⟨rfl, br_20, trivial⟩, by rw [ht]; exact h.1, h.2.1, zFr.rf⟩, h.2.2.F ht⟩) h.2.2.2.2 dX8_byteOf_38
