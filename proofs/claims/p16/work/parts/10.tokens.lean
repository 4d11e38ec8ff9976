set_option maxHeartbeats 4000000 in
set_option maxRecDepth 100000 in
theorem zc_X8_has (l : Launch) (D : va_G) (k : Nat → ClassId) (Γ : Nat → Option Nat) (L : List Nat) (F : Nat → va_E) (sz : Nat) (th : Nat) (t : Int32) (hth : Γ th = some 8) : Met l yX8_has zwX8_has ({ frames := 0, cells := 0, slots := 0, locals := 0 }) (va_Pc [.ref th, .int t] (zP D k Γ L F sz)) (va_Qi (fun (r : Int32) (u : Nat → va_E) => F = u ∧ zB 0 1 r ∧ (r ≠ 0 → zB 0 600 t) ∧ True) (zQ D k Γ L F []) (zA L sz)) 0 0 (zA L sz) := by
  refine Met.ofW (cc := cX8_has) (maxL := 2) (ret := (some .boolean)) (by decide) rfl ?_
  intro p e s m args below meth c s₁ B hml hv
  obtain ⟨rfl, hsz, hP, hK, hLn, hE, hI⟩ := hv
  have hx := B.exec
  have hb := B.bytes
  have hr := B.returns
  have hg : ∀ w ∈ zG, w.before _ s = true := fun w h9 => atoms_spec (ws := zwX8_has) B.pre w (List.mem_cons_of_mem _ h9)
  have hown : s.vm.findClass RX8 = some m.cls := findClass_of_methodNamed B.named
  have hlocks := B.notSynchronized
  subst hsz
  have Z : zC p m c cX8_has 2 s _ zG RX8 D k L := ⟨⟨hx, hb, hml, hown, hg⟩, hK, hLn, hE⟩
  have h : zH D k Γ L s F s.heap [] := ⟨hP, hI, va_S.rf⟩
  have hl := lv_entry ([.ref th, .int t]) (n := 2) (Nat.le_of_ble_eq_true rfl)
  rw [lg_entry_eq]
  generalize (lg_sl ([.ref th, .int t]) ++ List.replicate (2 - (lg_sl ([.ref th, .int t])).length) Slot.unset).toArray = ls at hl ⊢
  have hl : lv_has ls 2 [(0, .ref th), (1, .int t)] := hl
  clear hP hK hLn hE hI
  generalize hargs : ([.ref th, .int t] : List Value).toArray = args at *
  refine z_start (fun R Q hRf hRl hQ => ?_)
  have hRf : R.frames = 0 := hRf
  have hRl : R.locals = 0 := hRl
  refine lv_iload_n hx hb dX8_has_0 rfl (lv_at hl 1 rfl) ?_
  refine lv_if_lt (tgt := 25) hx hb dX8_has_1 (by decide) (fun c_1 => ?_) (fun c_1 => ?_)
  · have c_1 := z_lt c_1
    have bt_2 : zB (-2147483648) (-1) t := zB.ltL c_1 (zB.all t) (zBc 0 0 (by decide)) (by decide)
    refine lv_iconst (v := 0) hx hb dX8_has_25 (by decide) ?_
    subst hQ
    exact W.zret (v := 0) hx hb hr (by decide) (fun t ht hW => ⟨⟨0, F, rfl, ⟨rfl, (zB.of ⟨by decide, by decide⟩), (fun h9 => absurd rfl h9), trivial⟩, by rw [ht]; exact h.1, h.2.1, zFr.rf⟩, h.2.2.F ht⟩) h.2.2.2.2 dX8_has_26
  · have c_1 := z_nlt c_1
    have bt_3 : zB 0 2147483647 t := zB.leR c_1 (zBc 0 0 (by decide)) (zB.all t) (by decide)
    refine lv_iload_n hx hb dX8_has_4 rfl (lv_at hl 1 rfl) ?_
    refine lv_aload_n hx hb dX8_has_5 rfl (lv_at hl 0 rfl) ?_
    refine zt_geti (t := 8) (C := RX8) (T := TX8) (N := 6) Z h hth zin_8 rfl 5 rfl ⟨by decide, rfl⟩ (zm_RX8 (List.mem_of_getElem? (i := 25) rfl)) (fun _ h9 => h9) dX8_has_6 (fun x_4 kx_4 bx_4 => ?_)
    refine lv_icmp_ge (tgt := 25) hx hb dX8_has_9 (by decide) (fun c_5 => ?_) (fun c_5 => ?_)
    · have c_5 := z_le c_5
      refine lv_iconst (v := 0) hx hb dX8_has_25 (by decide) ?_
      subst hQ
      exact W.zret (v := 0) hx hb hr (by decide) (fun t ht hW => ⟨⟨0, F, rfl, ⟨rfl, (zB.of ⟨by decide, by decide⟩), (fun h9 => absurd rfl h9), trivial⟩, by rw [ht]; exact h.1, h.2.1, zFr.rf⟩, h.2.2.F ht⟩) h.2.2.2.2 dX8_has_26
    · have c_5 := z_nle c_5
      have bt_6 : zB 0 600 t := zB.ltL c_5 bt_3 bx_4 (by decide)
      have bx_4_7 : zB 1 601 x_4 := zB.ltR c_5 bt_3 bx_4 (by decide)
      refine lv_iload_n hx hb dX8_has_12 rfl (lv_at hl 1 rfl) ?_
      refine lv_aload_n hx hb dX8_has_13 rfl (lv_at hl 0 rfl) ?_
      refine zt_getr (t := 8) (C := RX8) (T := TX8) (N := 6) Z h hth zin_8 rfl 2 rfl ⟨by decide, rfl⟩ (zm_RX8 (List.mem_of_getElem? (i := 52) rfl)) (fun _ h9 => h9) dX8_has_14 (fun a_8 ka_8 ha_8 => ?_)
      refine zt_alen (t := 101) Z h ha_8 ⟨by decide, rfl⟩ (by decide) (v := 601) rfl dX8_has_17 ?_
      refine lv_icmp_ge (tgt := 25) hx hb dX8_has_18 (by decide) (fun c_9 => ?_) (fun c_9 => ?_)
      · have c_9 := z_le c_9
        exact zB.noLe c_9 (zBc 601 601 (by decide)) bt_6 (by decide)
      · have c_9 := z_nle c_9
        refine lv_iconst (v := 1) hx hb dX8_has_21 (by decide) ?_
        refine lv_goto (tgt := 26) hx hb dX8_has_22 (by decide) ?_
        subst hQ
        exact W.zret (v := 1) hx hb hr (by decide) (fun t ht hW => ⟨⟨1, F, rfl, ⟨rfl, (zB.of ⟨by decide, by decide⟩), (fun _ => bt_6), trivial⟩, by rw [ht]; exact h.1, h.2.1, zFr.rf⟩, h.2.2.F ht⟩) h.2.2.2.2 dX8_has_26

set_option maxHeartbeats 4000000 in
set_option maxRecDepth 100000 in
theorem zc_X8_textAt (l : Launch) (D : va_G) (k : Nat → ClassId) (Γ : Nat → Option Nat) (L : List Nat) (F : Nat → va_E) (sz : Nat) (th : Nat) (i : Int32) (hth : Γ th = some 8) : Met l yX8_textAt zwX8_textAt ({ frames := 0, cells := 0, slots := 0, locals := 0 }) (va_Pc [.ref th, .int i] (zP D k Γ L F sz)) (va_Qi (fun (r : Int32) (u : Nat → va_E) => F = u ∧ zB (-128) 127 r ∧ True) (zQ D k Γ L F []) (zA L sz)) 0 0 (zA L sz) := by
  refine Met.ofW (cc := cX8_textAt) (maxL := 2) (ret := (some .int)) (by decide) rfl ?_
  intro p e s m args below meth c s₁ B hml hv
  obtain ⟨rfl, hsz, hP, hK, hLn, hE, hI⟩ := hv
  have hx := B.exec
  have hb := B.bytes
  have hr := B.returns
  have hg : ∀ w ∈ zG, w.before _ s = true := fun w h9 => atoms_spec (ws := zwX8_textAt) B.pre w (List.mem_cons_of_mem _ h9)
  have hown : s.vm.findClass RX8 = some m.cls := findClass_of_methodNamed B.named
  have hlocks := B.notSynchronized
  subst hsz
  have Z : zC p m c cX8_textAt 2 s _ zG RX8 D k L := ⟨⟨hx, hb, hml, hown, hg⟩, hK, hLn, hE⟩
  have h : zH D k Γ L s F s.heap [] := ⟨hP, hI, va_S.rf⟩
  have hl := lv_entry ([.ref th, .int i]) (n := 2) (Nat.le_of_ble_eq_true rfl)
  rw [lg_entry_eq]
  generalize (lg_sl ([.ref th, .int i]) ++ List.replicate (2 - (lg_sl ([.ref th, .int i])).length) Slot.unset).toArray = ls at hl ⊢
  have hl : lv_has ls 2 [(0, .ref th), (1, .int i)] := hl
  clear hP hK hLn hE hI
  generalize hargs : ([.ref th, .int i] : List Value).toArray = args at *
  refine z_start (fun R Q hRf hRl hQ => ?_)
  have hRf : R.frames = 0 := hRf
  have hRl : R.locals = 0 := hRl
  refine lv_iload_n hx hb dX8_textAt_0 rfl (lv_at hl 1 rfl) ?_
  refine lv_if_lt (tgt := 30) hx hb dX8_textAt_1 (by decide) (fun c_1 => ?_) (fun c_1 => ?_)
  · have c_1 := z_lt c_1
    have bi_2 : zB (-2147483648) (-1) i := zB.ltL c_1 (zB.all i) (zBc 0 0 (by decide)) (by decide)
    refine lv_iconst (v := (-1)) hx hb dX8_textAt_30 (by decide) ?_
    subst hQ
    exact W.iret (v := (-1)) hx hb hr (fun t ht hW => ⟨⟨(-1), F, rfl, ⟨rfl, (zB.of ⟨by decide, by decide⟩), trivial⟩, by rw [ht]; exact h.1, h.2.1, zFr.rf⟩, h.2.2.F ht⟩) h.2.2.2.2 dX8_textAt_31
  · have c_1 := z_nlt c_1
    have bi_3 : zB 0 2147483647 i := zB.leR c_1 (zBc 0 0 (by decide)) (zB.all i) (by decide)
    refine lv_iload_n hx hb dX8_textAt_4 rfl (lv_at hl 1 rfl) ?_
    refine lv_aload_n hx hb dX8_textAt_5 rfl (lv_at hl 0 rfl) ?_
    refine zt_geti (t := 8) (C := RX8) (T := TX8) (N := 6) Z h hth zin_8 rfl 1 rfl ⟨by decide, rfl⟩ (zm_RX8 (List.mem_of_getElem? (i := 20) rfl)) (fun _ h9 => h9) dX8_textAt_6 (fun x_4 kx_4 bx_4 => ?_)
    refine lv_icmp_ge (tgt := 30) hx hb dX8_textAt_9 (by decide) (fun c_5 => ?_) (fun c_5 => ?_)
    · have c_5 := z_le c_5
      refine lv_iconst (v := (-1)) hx hb dX8_textAt_30 (by decide) ?_
      subst hQ
      exact W.iret (v := (-1)) hx hb hr (fun t ht hW => ⟨⟨(-1), F, rfl, ⟨rfl, (zB.of ⟨by decide, by decide⟩), trivial⟩, by rw [ht]; exact h.1, h.2.1, zFr.rf⟩, h.2.2.F ht⟩) h.2.2.2.2 dX8_textAt_31
    · have c_5 := z_nle c_5
      have bi_6 : zB 0 599 i := zB.ltL c_5 bi_3 bx_4 (by decide)
      have bx_4_7 : zB 1 600 x_4 := zB.ltR c_5 bi_3 bx_4 (by decide)
      refine lv_iload_n hx hb dX8_textAt_12 rfl (lv_at hl 1 rfl) ?_
      refine lv_aload_n hx hb dX8_textAt_13 rfl (lv_at hl 0 rfl) ?_
      refine zt_getr (t := 8) (C := RX8) (T := TX8) (N := 6) Z h hth zin_8 rfl 0 rfl ⟨by decide, rfl⟩ (zm_RX8 (List.mem_of_getElem? (i := 12) rfl)) (fun _ h9 => h9) dX8_textAt_14 (fun a_8 ka_8 ha_8 => ?_)
      refine zt_alen (t := 157) Z h ha_8 ⟨by decide, rfl⟩ (by decide) (v := 600) rfl dX8_textAt_17 ?_
      refine lv_icmp_ge (tgt := 30) hx hb dX8_textAt_18 (by decide) (fun c_9 => ?_) (fun c_9 => ?_)
      · have c_9 := z_le c_9
        exact zB.noLe c_9 (zBc 600 600 (by decide)) bi_6 (by decide)
      · have c_9 := z_nle c_9
        refine lv_aload_n hx hb dX8_textAt_21 rfl (lv_at hl 0 rfl) ?_
        refine zt_getk (t := 8) (C := RX8) (T := TX8) (N := 6) Z h hth zin_8 rfl 0 ka_8 ⟨by decide, rfl, by decide⟩ (zm_RX8 (List.mem_of_getElem? (i := 12) rfl)) (fun _ h9 => h9) dX8_textAt_22 ?_
        refine lv_iload_n hx hb dX8_textAt_25 rfl (lv_at hl 1 rfl) ?_
        refine zt_bald (t := 157) Z h ha_8 ⟨by decide, rfl⟩ bi_6 ⟨by decide, by decide⟩ dX8_textAt_26 (fun x_10 bx_10 => ?_)
        refine lv_goto (tgt := 31) hx hb dX8_textAt_27 (by decide) ?_
        subst hQ
        exact W.iret (v := x_10) hx hb hr (fun t ht hW => ⟨⟨x_10, F, rfl, ⟨rfl, bx_10, trivial⟩, by rw [ht]; exact h.1, h.2.1, zFr.rf⟩, h.2.2.F ht⟩) h.2.2.2.2 dX8_textAt_31

set_option maxHeartbeats 4000000 in
set_option maxRecDepth 100000 in
theorem zc_X8_placeOf (l : Launch) (D : va_G) (k : Nat → ClassId) (Γ : Nat → Option Nat) (L : List Nat) (F : Nat → va_E) (sz : Nat) (th : Nat) (t : Int32) (hth : Γ th = some 8) : Met l yX8_placeOf zwX8_placeOf ({ frames := 1, cells := 0, slots := 0, locals := 21 }) (va_Pc [.ref th, .int t] (zP D k Γ L F sz)) (va_Qi (fun (r : Int32) (u : Nat → va_E) => F = u ∧ True) (zQ D k Γ L F []) (zA L sz)) 0 0 (zA L sz) := by
  refine Met.ofW (cc := cX8_placeOf) (maxL := 2) (ret := (some .int)) (by decide) rfl ?_
  intro p e s m args below meth c s₁ B hml hv
  obtain ⟨rfl, hsz, hP, hK, hLn, hE, hI⟩ := hv
  have hx := B.exec
  have hb := B.bytes
  have hr := B.returns
  have hg : ∀ w ∈ zG, w.before _ s = true := fun w h9 => atoms_spec (ws := zwX8_placeOf) B.pre w (List.mem_cons_of_mem _ h9)
  have hown : s.vm.findClass RX8 = some m.cls := findClass_of_methodNamed B.named
  have hlocks := B.notSynchronized
  subst hsz
  have Z : zC p m c cX8_placeOf 2 s _ zG RX8 D k L := ⟨⟨hx, hb, hml, hown, hg⟩, hK, hLn, hE⟩
  have h : zH D k Γ L s F s.heap [] := ⟨hP, hI, va_S.rf⟩
  have hl := lv_entry ([.ref th, .int t]) (n := 2) (Nat.le_of_ble_eq_true rfl)
  rw [lg_entry_eq]
  generalize (lg_sl ([.ref th, .int t]) ++ List.replicate (2 - (lg_sl ([.ref th, .int t])).length) Slot.unset).toArray = ls at hl ⊢
  have hl : lv_has ls 2 [(0, .ref th), (1, .int t)] := hl
  clear hP hK hLn hE hI
  generalize hargs : ([.ref th, .int t] : List Value).toArray = args at *
  refine z_start (fun R Q hRf hRl hQ => ?_)
  have hRf : R.frames = 1 := hRf
  have hRl : R.locals = 21 := hRl
  refine lv_aload_n hx hb dX8_placeOf_0 rfl (lv_at hl 0 rfl) ?_
  refine lv_iload_n hx hb dX8_placeOf_1 rfl (lv_at hl 1 rfl) ?_
  refine zk_Vi (As := [.int t]) (rest := []) (bytes := cX8_has) (maxL := 2) (ret := (some .boolean)) Z h (zc_X8_has l D k Γ L F s.heap.size th t hth) (cwV 1 hg zv_RX8_58 rfl rfl rfl zd_X8_has ⟨z_leR hRf (by decide), z_leR hRl (by decide)⟩) hth (by decide) rfl rfl hl.1 rfl (Nat.le_of_ble_eq_true rfl) dX8_placeOf_2 ⟨Nat.zero_le _, Nat.zero_le _⟩ (fun r_1 F_2 H locs w_3 h hfF_2 => ?_)
  obtain ⟨rfl, br_1, q_4, -⟩ := w_3
  refine lv_if_eq (tgt := 17) hx hb dX8_placeOf_5 (by decide) (fun c_5 => ?_) (fun c_5 => ?_)
  · have c_5 := z_eq c_5
    have br_1_6 : zB 0 0 r_1 := zB.eqL (a := 0) (b := 0) c_5 (zBc 0 0 (by decide))
    refine lv_aload_n hx hb dX8_placeOf_17 rfl (lv_at hl 0 rfl) ?_
    refine zt_geti (t := 8) (C := RX8) (T := TX8) (N := 6) Z h hth zin_8 rfl 1 rfl ⟨by decide, rfl⟩ (zm_RX8 (List.mem_of_getElem? (i := 20) rfl)) (fun _ h9 => h9) dX8_placeOf_18 (fun x_7 kx_7 bx_7 => ?_)
    subst hQ
    exact W.iret (v := x_7) hx hb hr (fun t ht hW => ⟨⟨x_7, F, rfl, ⟨rfl, trivial⟩, by rw [ht]; exact h.1, h.2.1, zFr.rf⟩, h.2.2.F ht⟩) h.2.2.2.2 dX8_placeOf_21
  · have bt_8 : zB 0 600 t := q_4 c_5
    have c_5 := z_ne c_5
    have br_1_9 : zB 1 1 r_1 := zB.neLo c_5 br_1 (zBc 0 0 (by decide)) (by decide)
    refine lv_aload_n hx hb dX8_placeOf_8 rfl (lv_at hl 0 rfl) ?_
    refine zt_getr (t := 8) (C := RX8) (T := TX8) (N := 6) Z h hth zin_8 rfl 3 rfl ⟨by decide, rfl⟩ (zm_RX8 (List.mem_of_getElem? (i := 39) rfl)) (fun _ h9 => h9) dX8_placeOf_9 (fun a_10 ka_10 ha_10 => ?_)
    refine lv_iload_n hx hb dX8_placeOf_12 rfl (lv_at hl 1 rfl) ?_
    refine zt_ialde (t := 155) Z h ha_10 ⟨by decide, rfl⟩ bt_8 ⟨by decide, by decide⟩ dX8_placeOf_13 (fun x_11 ex_11 bx_11 => ?_)
    refine lv_goto (tgt := 21) hx hb dX8_placeOf_14 (by decide) ?_
    subst hQ
    exact W.iret (v := x_11) hx hb hr (fun t ht hW => ⟨⟨x_11, F, rfl, ⟨rfl, trivial⟩, by rw [ht]; exact h.1, h.2.1, zFr.rf⟩, h.2.2.F ht⟩) h.2.2.2.2 dX8_placeOf_21

set_option maxHeartbeats 4000000 in
set_option maxRecDepth 100000 in
theorem zc_X8_byteOf (l : Launch) (D : va_G) (k : Nat → ClassId) (Γ : Nat → Option Nat) (L : List Nat) (F : Nat → va_E) (sz : Nat) (th : Nat) (t : Int32) (i : Int32) (hth : Γ th = some 8) : Met l yX8_byteOf zwX8_byteOf ({ frames := 1, cells := 0, slots := 0, locals := 21 }) (va_Pc [.ref th, .int t, .int i] (zP D k Γ L F sz)) (va_Qi (fun (r : Int32) (u : Nat → va_E) => F = u ∧ zB (-128) 127 r ∧ True) (zQ D k Γ L F []) (zA L sz)) 0 0 (zA L sz) := by
  refine Met.ofW (cc := cX8_byteOf) (maxL := 3) (ret := (some .int)) (by decide) rfl ?_
  intro p e s m args below meth c s₁ B hml hv
  obtain ⟨rfl, hsz, hP, hK, hLn, hE, hI⟩ := hv
  have hx := B.exec
  have hb := B.bytes
  have hr := B.returns
  have hg : ∀ w ∈ zG, w.before _ s = true := fun w h9 => atoms_spec (ws := zwX8_byteOf) B.pre w (List.mem_cons_of_mem _ h9)
  have hown : s.vm.findClass RX8 = some m.cls := findClass_of_methodNamed B.named
  have hlocks := B.notSynchronized
  subst hsz
  have Z : zC p m c cX8_byteOf 3 s _ zG RX8 D k L := ⟨⟨hx, hb, hml, hown, hg⟩, hK, hLn, hE⟩
  have h : zH D k Γ L s F s.heap [] := ⟨hP, hI, va_S.rf⟩
  have hl := lv_entry ([.ref th, .int t, .int i]) (n := 3) (Nat.le_of_ble_eq_true rfl)
  rw [lg_entry_eq]
  generalize (lg_sl ([.ref th, .int t, .int i]) ++ List.replicate (3 - (lg_sl ([.ref th, .int t, .int i])).length) Slot.unset).toArray = ls at hl ⊢
  have hl : lv_has ls 3 [(0, .ref th), (1, .int t), (2, .int i)] := hl
  clear hP hK hLn hE hI
  generalize hargs : ([.ref th, .int t, .int i] : List Value).toArray = args at *
  refine z_start (fun R Q hRf hRl hQ => ?_)
  have hRf : R.frames = 1 := hRf
  have hRl : R.locals = 21 := hRl
  refine lv_aload_n hx hb dX8_byteOf_0 rfl (lv_at hl 0 rfl) ?_
  refine lv_iload_n hx hb dX8_byteOf_1 rfl (lv_at hl 1 rfl) ?_
  refine zk_Vi (As := [.int t]) (rest := []) (bytes := cX8_has) (maxL := 2) (ret := (some .boolean)) Z h (zc_X8_has l D k Γ L F s.heap.size th t hth) (cwV 1 hg zv_RX8_58 rfl rfl rfl zd_X8_has ⟨z_leR hRf (by decide), z_leR hRl (by decide)⟩) hth (by decide) rfl rfl hl.1 rfl (Nat.le_of_ble_eq_true rfl) dX8_byteOf_2 ⟨Nat.zero_le _, Nat.zero_le _⟩ (fun r_1 F_2 H locs w_3 h hfF_2 => ?_)
  obtain ⟨rfl, br_1, q_4, -⟩ := w_3
  refine lv_if_eq (tgt := 37) hx hb dX8_byteOf_5 (by decide) (fun c_5 => ?_) (fun c_5 => ?_)
  · have c_5 := z_eq c_5
    have br_1_6 : zB 0 0 r_1 := zB.eqL (a := 0) (b := 0) c_5 (zBc 0 0 (by decide))
    refine lv_iconst (v := (-1)) hx hb dX8_byteOf_37 (by decide) ?_
    subst hQ
    exact W.iret (v := (-1)) hx hb hr (fun t ht hW => ⟨⟨(-1), F, rfl, ⟨rfl, (zB.of ⟨by decide, by decide⟩), trivial⟩, by rw [ht]; exact h.1, h.2.1, zFr.rf⟩, h.2.2.F ht⟩) h.2.2.2.2 dX8_byteOf_38
  · have bt_7 : zB 0 600 t := q_4 c_5
    have c_5 := z_ne c_5
    have br_1_8 : zB 1 1 r_1 := zB.neLo c_5 br_1 (zBc 0 0 (by decide)) (by decide)
    refine lv_iload_n hx hb dX8_byteOf_8 rfl (lv_at hl 2 rfl) ?_
    refine lv_if_lt (tgt := 37) hx hb dX8_byteOf_9 (by decide) (fun c_9 => ?_) (fun c_9 => ?_)
    · have c_9 := z_lt c_9
      have bi_10 : zB (-2147483648) (-1) i := zB.ltL c_9 (zB.all i) (zBc 0 0 (by decide)) (by decide)
      refine lv_iconst (v := (-1)) hx hb dX8_byteOf_37 (by decide) ?_
      subst hQ
      exact W.iret (v := (-1)) hx hb hr (fun t ht hW => ⟨⟨(-1), F, rfl, ⟨rfl, (zB.of ⟨by decide, by decide⟩), trivial⟩, by rw [ht]; exact h.1, h.2.1, zFr.rf⟩, h.2.2.F ht⟩) h.2.2.2.2 dX8_byteOf_38
    · have c_9 := z_nlt c_9
      have bi_11 : zB 0 2147483647 i := zB.leR c_9 (zBc 0 0 (by decide)) (zB.all i) (by decide)
      refine lv_iload_n hx hb dX8_byteOf_12 rfl (lv_at hl 2 rfl) ?_
      refine lv_aload_n hx hb dX8_byteOf_13 rfl (lv_at hl 0 rfl) ?_
      refine zt_getr (t := 8) (C := RX8) (T := TX8) (N := 6) Z h hth zin_8 rfl 4 rfl ⟨by decide, rfl⟩ (zm_RX8 (List.mem_of_getElem? (i := 41) rfl)) (fun _ h9 => h9) dX8_byteOf_14 (fun a_12 ka_12 ha_12 => ?_)
      refine lv_iload_n hx hb dX8_byteOf_17 rfl (lv_at hl 1 rfl) ?_
      refine zt_ialde (t := 156) Z h ha_12 ⟨by decide, rfl⟩ bt_7 ⟨by decide, by decide⟩ dX8_byteOf_18 (fun x_13 ex_13 bx_13 => ?_)
      refine lv_icmp_ge (tgt := 37) hx hb dX8_byteOf_19 (by decide) (fun c_14 => ?_) (fun c_14 => ?_)
      · have c_14 := z_le c_14
        refine lv_iconst (v := (-1)) hx hb dX8_byteOf_37 (by decide) ?_
        subst hQ
        exact W.iret (v := (-1)) hx hb hr (fun t ht hW => ⟨⟨(-1), F, rfl, ⟨rfl, (zB.of ⟨by decide, by decide⟩), trivial⟩, by rw [ht]; exact h.1, h.2.1, zFr.rf⟩, h.2.2.F ht⟩) h.2.2.2.2 dX8_byteOf_38
      · have c_14 := z_nle c_14
        have bi_15 : zB 0 2147483646 i := zB.ltL c_14 bi_11 bx_13 (by decide)
        have bx_13_16 : zB 1 2147483647 x_13 := zB.ltR c_14 bi_11 bx_13 (by decide)
        refine lv_aload_n hx hb dX8_byteOf_22 rfl (lv_at hl 0 rfl) ?_
        refine lv_aload_n hx hb dX8_byteOf_23 rfl (lv_at hl 0 rfl) ?_
        refine zt_getr (t := 8) (C := RX8) (T := TX8) (N := 6) Z h hth zin_8 rfl 3 rfl ⟨by decide, rfl⟩ (zm_RX8 (List.mem_of_getElem? (i := 39) rfl)) (fun _ h9 => h9) dX8_byteOf_24 (fun a_17 ka_17 ha_17 => ?_)
        refine lv_iload_n hx hb dX8_byteOf_27 rfl (lv_at hl 1 rfl) ?_
        refine zt_ialde (t := 155) Z h ha_17 ⟨by decide, rfl⟩ bt_7 ⟨by decide, by decide⟩ dX8_byteOf_28 (fun x_18 ex_18 bx_18 => ?_)
        refine lv_iload_n hx hb dX8_byteOf_29 rfl (lv_at hl 2 rfl) ?_
        refine lv_iadd hx hb dX8_byteOf_30 ?_
        refine zi_any (fun x_19 bx_19 ex_19 => ?_)
        refine zk_Vi (As := [.int x_19]) (rest := []) (bytes := cX8_textAt) (maxL := 2) (ret := (some .int)) Z h (zc_X8_textAt l D k Γ L F H.size th x_19 hth) (cwV 1 hg zv_RX8_62 rfl rfl rfl zd_X8_textAt ⟨z_leR hRf (by decide), z_leR hRl (by decide)⟩) hth (by decide) rfl rfl hl.1 rfl (Nat.le_of_ble_eq_true rfl) dX8_byteOf_31 ⟨Nat.zero_le _, Nat.zero_le _⟩ (fun r_20 F_21 H locs w_22 h hfF_21 => ?_)
        obtain ⟨rfl, br_20, -⟩ := w_22
        refine lv_goto (tgt := 38) hx hb dX8_byteOf_34 (by decide) ?_
        subst hQ
        exact W.iret (v := r_20) hx hb hr (fun t ht hW => ⟨⟨r_20, F, rfl, ⟨rfl, br_20, trivial⟩, by rw [ht]; exact h.1, h.2.1, zFr.rf⟩, h.2.2.F ht⟩) h.2.2.2.2 dX8_byteOf_38

set_option maxHeartbeats 4000000 in
set_option maxRecDepth 100000 in
theorem zc_X8_letterOf (l : Launch) (D : va_G) (k : Nat → ClassId) (Γ : Nat → Option Nat) (L : List Nat) (F : Nat → va_E) (sz : Nat) (th : Nat) (t : Int32) (hth : Γ th = some 8) : Met l yX8_letterOf zwX8_letterOf ({ frames := 1, cells := 0, slots := 0, locals := 40 }) (va_Pc [.ref th, .int t] (zP D k Γ L F sz)) (va_Qi (fun (r : Int32) (u : Nat → va_E) => F = u ∧ zB 0 30 r ∧ True) (zQ D k Γ L F []) (zA L sz)) 0 0 (zA L sz) := by
  refine Met.ofW (cc := cX8_letterOf) (maxL := 2) (ret := (some .int)) (by decide) rfl ?_
  intro p e s m args below meth c s₁ B hml hv
  obtain ⟨rfl, hsz, hP, hK, hLn, hE, hI⟩ := hv
  have hx := B.exec
  have hb := B.bytes
  have hr := B.returns
  have hg : ∀ w ∈ zG, w.before _ s = true := fun w h9 => atoms_spec (ws := zwX8_letterOf) B.pre w (List.mem_cons_of_mem _ h9)
  have hown : s.vm.findClass RX8 = some m.cls := findClass_of_methodNamed B.named
  have hlocks := B.notSynchronized
  subst hsz
  have Z : zC p m c cX8_letterOf 2 s _ zG RX8 D k L := ⟨⟨hx, hb, hml, hown, hg⟩, hK, hLn, hE⟩
  have h : zH D k Γ L s F s.heap [] := ⟨hP, hI, va_S.rf⟩
  have hl := lv_entry ([.ref th, .int t]) (n := 2) (Nat.le_of_ble_eq_true rfl)
  rw [lg_entry_eq]
  generalize (lg_sl ([.ref th, .int t]) ++ List.replicate (2 - (lg_sl ([.ref th, .int t])).length) Slot.unset).toArray = ls at hl ⊢
  have hl : lv_has ls 2 [(0, .ref th), (1, .int t)] := hl
  clear hP hK hLn hE hI
  generalize hargs : ([.ref th, .int t] : List Value).toArray = args at *
  refine z_start (fun R Q hRf hRl hQ => ?_)
  have hRf : R.frames = 1 := hRf
  have hRl : R.locals = 40 := hRl
  refine lv_aload_n hx hb dX8_letterOf_0 rfl (lv_at hl 0 rfl) ?_
  refine lv_iload_n hx hb dX8_letterOf_1 rfl (lv_at hl 1 rfl) ?_
  refine zk_Vi (As := [.int t]) (rest := []) (bytes := cX8_has) (maxL := 2) (ret := (some .boolean)) Z h (zc_X8_has l D k Γ L F s.heap.size th t hth) (cwV 1 hg zv_RX8_58 rfl rfl rfl zd_X8_has ⟨z_leR hRf (by decide), z_leR hRl (by decide)⟩) hth (by decide) rfl rfl hl.1 rfl (Nat.le_of_ble_eq_true rfl) dX8_letterOf_2 ⟨Nat.zero_le _, Nat.zero_le _⟩ (fun r_1 F_2 H locs w_3 h hfF_2 => ?_)
  obtain ⟨rfl, br_1, q_4, -⟩ := w_3
  refine lv_if_eq (tgt := 28) hx hb dX8_letterOf_5 (by decide) (fun c_5 => ?_) (fun c_5 => ?_)
  · have c_5 := z_eq c_5
    have br_1_6 : zB 0 0 r_1 := zB.eqL (a := 0) (b := 0) c_5 (zBc 0 0 (by decide))
    refine lv_iconst (v := 0) hx hb dX8_letterOf_28 (by decide) ?_
    subst hQ
    exact W.iret (v := 0) hx hb hr (fun t ht hW => ⟨⟨0, F, rfl, ⟨rfl, (zB.of ⟨by decide, by decide⟩), trivial⟩, by rw [ht]; exact h.1, h.2.1, zFr.rf⟩, h.2.2.F ht⟩) h.2.2.2.2 dX8_letterOf_29
  · have bt_7 : zB 0 600 t := q_4 c_5
    have c_5 := z_ne c_5
    have br_1_8 : zB 1 1 r_1 := zB.neLo c_5 br_1 (zBc 0 0 (by decide)) (by decide)
    refine lv_iconst (v := 0) hx hb dX8_letterOf_8 (by decide) ?_
    refine lv_aload_n hx hb dX8_letterOf_9 rfl (lv_at hl 0 rfl) ?_
    refine lv_aload_n hx hb dX8_letterOf_10 rfl (lv_at hl 0 rfl) ?_
    refine zt_getr (t := 8) (C := RX8) (T := TX8) (N := 6) Z h hth zin_8 rfl 3 rfl ⟨by decide, rfl⟩ (zm_RX8 (List.mem_of_getElem? (i := 39) rfl)) (fun _ h9 => h9) dX8_letterOf_11 (fun a_9 ka_9 ha_9 => ?_)
    refine lv_iload_n hx hb dX8_letterOf_14 rfl (lv_at hl 1 rfl) ?_
    refine zt_ialde (t := 155) Z h ha_9 ⟨by decide, rfl⟩ bt_7 ⟨by decide, by decide⟩ dX8_letterOf_15 (fun x_10 ex_10 bx_10 => ?_)
    refine zk_Vi (As := [.int x_10]) (rest := [.int 0]) (bytes := cX8_textAt) (maxL := 2) (ret := (some .int)) Z h (zc_X8_textAt l D k Γ L F H.size th x_10 hth) (cwV 1 hg zv_RX8_62 rfl rfl rfl zd_X8_textAt ⟨z_leR hRf (by decide), z_leR hRl (by decide)⟩) hth (by decide) rfl rfl hl.1 rfl (Nat.le_of_ble_eq_true rfl) dX8_letterOf_16 ⟨Nat.zero_le _, Nat.zero_le _⟩ (fun r_11 F_12 H locs w_13 h hfF_12 => ?_)
    obtain ⟨rfl, br_11, -⟩ := w_13
    refine lv_bipush (v := 97) hx hb dX8_letterOf_19 (by decide) ?_
    refine lv_isub hx hb dX8_letterOf_21 ?_
    refine zi_sub (lo := (-225)) (hi := 30) br_11 (zBc 97 97 (by decide)) (by decide) (fun x_14 bx_14 tx_14 => ?_)
    refine va_mmax hx hb (by rw [hml]; exact hl.1.symm) hown (hg _ (zm_RX8 (List.mem_of_getElem? (i := 17) rfl))) (hg _ (zm_RX8 (List.mem_of_getElem? (i := 18) rfl))) (hg _ (zm_RX8 (List.mem_of_getElem? (i := 15) rfl))) (hg _ (zm_RX8 (List.mem_of_getElem? (i := 19) rfl))) (z_leR hRf (by decide)) (z_leR hRl (Nat.le_of_ble_eq_true rfl)) (Nat.zero_le _) (Nat.zero_le _) dX8_letterOf_22 ?_
    refine zi_max (lo := 0) (hi := 30) (zBc 0 0 (by decide)) bx_14 (by decide) (fun x_15 bx_15 tx_15 => ?_)
    refine lv_goto (tgt := 29) hx hb dX8_letterOf_25 (by decide) ?_
    subst hQ
    exact W.iret (v := x_15) hx hb hr (fun t ht hW => ⟨⟨x_15, F, rfl, ⟨rfl, bx_15, trivial⟩, by rw [ht]; exact h.1, h.2.1, zFr.rf⟩, h.2.2.F ht⟩) h.2.2.2.2 dX8_letterOf_29

set_option maxHeartbeats 4000000 in
set_option maxRecDepth 100000 in
theorem zc_X8_valueOf (l : Launch) (D : va_G) (k : Nat → ClassId) (Γ : Nat → Option Nat) (L : List Nat) (F : Nat → va_E) (sz : Nat) (th : Nat) (t : Int32) (hth : Γ th = some 8) : Met l yX8_valueOf zwX8_valueOf ({ frames := 1, cells := 0, slots := 0, locals := 21 }) (va_Pc [.ref th, .int t] (zP D k Γ L F sz)) (va_Qi (fun (r : Int32) (u : Nat → va_E) => F = u ∧ True) (zQ D k Γ L F []) (zA L sz)) 0 0 (zA L sz) := by
  refine Met.ofW (cc := cX8_valueOf) (maxL := 4) (ret := (some .int)) (by decide) rfl ?_
  intro p e s m args below meth c s₁ B hml hv
  obtain ⟨rfl, hsz, hP, hK, hLn, hE, hI⟩ := hv
  have hx := B.exec
  have hb := B.bytes
  have hr := B.returns
  have hg : ∀ w ∈ zG, w.before _ s = true := fun w h9 => atoms_spec (ws := zwX8_valueOf) B.pre w (List.mem_cons_of_mem _ h9)
  have hown : s.vm.findClass RX8 = some m.cls := findClass_of_methodNamed B.named
  have hlocks := B.notSynchronized
  subst hsz
  have Z : zC p m c cX8_valueOf 4 s _ zG RX8 D k L := ⟨⟨hx, hb, hml, hown, hg⟩, hK, hLn, hE⟩
  have h : zH D k Γ L s F s.heap [] := ⟨hP, hI, va_S.rf⟩
  have hl := lv_entry ([.ref th, .int t]) (n := 4) (Nat.le_of_ble_eq_true rfl)
  rw [lg_entry_eq]
  generalize (lg_sl ([.ref th, .int t]) ++ List.replicate (4 - (lg_sl ([.ref th, .int t])).length) Slot.unset).toArray = ls at hl ⊢
  have hl : lv_has ls 4 [(0, .ref th), (1, .int t)] := hl
  clear hP hK hLn hE hI
  generalize hargs : ([.ref th, .int t] : List Value).toArray = args at *
  refine z_start (fun R Q hRf hRl hQ => ?_)
  have hRf : R.frames = 1 := hRf
  have hRl : R.locals = 21 := hRl
  refine lv_iconst (v := 0) hx hb dX8_valueOf_0 (by decide) ?_
  refine lv_istore_n (lv' := [(2, .int 0), (0, .ref th), (1, .int t)]) hx hb dX8_valueOf_1 rfl hl (by decide) rfl (fun ls hl => ?_)
  refine lv_iconst (v := 0) hx hb dX8_valueOf_2 (by decide) ?_
  refine lv_istore_n (lv' := [(3, .int 0), (2, .int 0), (0, .ref th), (1, .int t)]) hx hb dX8_valueOf_3 rfl hl (by decide) rfl (fun ls hl => ?_)
  have j_j4_1 : ∀ (n : Nat) (ls : Array Slot) (y3_j4_1 : Int32) (y2_j4_1 : Int32) (H : Heap) (locs : List Loc), lv_has ls 4 [(3, .int y3_j4_1), (2, .int y2_j4_1), (0, .ref th), (1, .int t)] → zB 0 2147483647 y3_j4_1 → zB (-2147483648) 2147483647 y2_j4_1 → zH D k Γ L s F H locs → (2147483647 - y3_j4_1.toInt).toNat = n → W p l e R s m args below meth c H locs 0 0 Q (F0 m 4 ls []) := by
    intro n
    induction n using Nat.strongRecOn with
    | _ n ih_j4_1 =>
      intro ls y3_j4_1 y2_j4_1 H locs hl by3_j4_1 by2_j4_1 h hn_j4_1
      refine lv_aload_n hx hb dX8_valueOf_4 rfl (lv_at hl 2 rfl) ?_
      refine lv_iload_n hx hb dX8_valueOf_5 rfl (lv_at hl 3 rfl) ?_
      refine zk_Vi (As := [.int t]) (rest := []) (bytes := cX8_has) (maxL := 2) (ret := (some .boolean)) Z h (zc_X8_has l D k Γ L F H.size th t hth) (cwV 1 hg zv_RX8_58 rfl rfl rfl zd_X8_has ⟨z_leR hRf (by decide), z_leR hRl (by decide)⟩) hth (by decide) rfl rfl hl.1 rfl (Nat.le_of_ble_eq_true rfl) dX8_valueOf_6 ⟨Nat.zero_le _, Nat.zero_le _⟩ (fun r_2 F_3 H locs w_4 h hfF_3 => ?_)
      obtain ⟨rfl, br_2, q_5, -⟩ := w_4
      refine lv_if_eq (tgt := 49) hx hb dX8_valueOf_9 (by decide) (fun c_6 => ?_) (fun c_6 => ?_)
      · have c_6 := z_eq c_6
        have br_2_7 : zB 0 0 r_2 := zB.eqL (a := 0) (b := 0) c_6 (zBc 0 0 (by decide))
        refine lv_iload_n hx hb dX8_valueOf_49 rfl (lv_at hl 1 rfl) ?_
        subst hQ
        exact W.iret (v := y2_j4_1) hx hb hr (fun t ht hW => ⟨⟨y2_j4_1, F, rfl, ⟨rfl, trivial⟩, by rw [ht]; exact h.1, h.2.1, zFr.rf⟩, h.2.2.F ht⟩) h.2.2.2.2 dX8_valueOf_50
      · have bt_8 : zB 0 600 t := q_5 c_6
        have c_6 := z_ne c_6
        have br_2_9 : zB 1 1 r_2 := zB.neLo c_6 br_2 (zBc 0 0 (by decide)) (by decide)
        refine lv_iload_n hx hb dX8_valueOf_12 rfl (lv_at hl 0 rfl) ?_
        refine lv_aload_n hx hb dX8_valueOf_13 rfl (lv_at hl 2 rfl) ?_
        refine zt_getr (t := 8) (C := RX8) (T := TX8) (N := 6) Z h hth zin_8 rfl 4 rfl ⟨by decide, rfl⟩ (zm_RX8 (List.mem_of_getElem? (i := 41) rfl)) (fun _ h9 => h9) dX8_valueOf_14 (fun a_10 ka_10 ha_10 => ?_)
        refine lv_iload_n hx hb dX8_valueOf_17 rfl (lv_at hl 3 rfl) ?_
        refine zt_ialde (t := 156) Z h ha_10 ⟨by decide, rfl⟩ bt_8 ⟨by decide, by decide⟩ dX8_valueOf_18 (fun x_11 ex_11 bx_11 => ?_)
        refine lv_icmp_ge (tgt := 49) hx hb dX8_valueOf_19 (by decide) (fun c_12 => ?_) (fun c_12 => ?_)
        · have c_12 := z_le c_12
          refine lv_iload_n hx hb dX8_valueOf_49 rfl (lv_at hl 1 rfl) ?_
          subst hQ
          exact W.iret (v := y2_j4_1) hx hb hr (fun t ht hW => ⟨⟨y2_j4_1, F, rfl, ⟨rfl, trivial⟩, by rw [ht]; exact h.1, h.2.1, zFr.rf⟩, h.2.2.F ht⟩) h.2.2.2.2 dX8_valueOf_50
        · have c_12 := z_nle c_12
          have by3_j4_1_13 : zB 0 2147483646 y3_j4_1 := zB.ltL c_12 by3_j4_1 bx_11 (by decide)
          have bx_11_14 : zB 1 2147483647 x_11 := zB.ltR c_12 by3_j4_1 bx_11 (by decide)
          refine lv_iload_n hx hb dX8_valueOf_22 rfl (lv_at hl 1 rfl) ?_
          refine lv_bipush (v := 10) hx hb dX8_valueOf_23 (by decide) ?_
          refine lv_imul hx hb dX8_valueOf_25 ?_
          refine zi_any (fun x_15 bx_15 ex_15 => ?_)
          refine lv_aload_n hx hb dX8_valueOf_26 rfl (lv_at hl 2 rfl) ?_
          refine lv_aload_n hx hb dX8_valueOf_27 rfl (lv_at hl 2 rfl) ?_
          refine zt_getr (t := 8) (C := RX8) (T := TX8) (N := 6) Z h hth zin_8 rfl 3 rfl ⟨by decide, rfl⟩ (zm_RX8 (List.mem_of_getElem? (i := 39) rfl)) (fun _ h9 => h9) dX8_valueOf_28 (fun a_16 ka_16 ha_16 => ?_)
          refine lv_iload_n hx hb dX8_valueOf_31 rfl (lv_at hl 3 rfl) ?_
          refine zt_ialde (t := 155) Z h ha_16 ⟨by decide, rfl⟩ bt_8 ⟨by decide, by decide⟩ dX8_valueOf_32 (fun x_17 ex_17 bx_17 => ?_)
          refine lv_iload_n hx hb dX8_valueOf_33 rfl (lv_at hl 0 rfl) ?_
          refine lv_iadd hx hb dX8_valueOf_34 ?_
          refine zi_any (fun x_18 bx_18 ex_18 => ?_)
          refine zk_Vi (As := [.int x_18]) (rest := [.int x_15]) (bytes := cX8_textAt) (maxL := 2) (ret := (some .int)) Z h (zc_X8_textAt l D k Γ L F H.size th x_18 hth) (cwV 1 hg zv_RX8_62 rfl rfl rfl zd_X8_textAt ⟨z_leR hRf (by decide), z_leR hRl (by decide)⟩) hth (by decide) rfl rfl hl.1 rfl (Nat.le_of_ble_eq_true rfl) dX8_valueOf_35 ⟨Nat.zero_le _, Nat.zero_le _⟩ (fun r_19 F_20 H locs w_21 h hfF_20 => ?_)
          obtain ⟨rfl, br_19, -⟩ := w_21
          refine lv_iadd hx hb dX8_valueOf_38 ?_
          refine zi_any (fun x_22 bx_22 ex_22 => ?_)
          refine lv_bipush (v := 48) hx hb dX8_valueOf_39 (by decide) ?_
          refine lv_isub hx hb dX8_valueOf_41 ?_
          refine zi_any (fun x_23 bx_23 ex_23 => ?_)
          refine lv_istore_n (lv' := [(2, .int x_23), (3, .int y3_j4_1), (0, .ref th), (1, .int t)]) hx hb dX8_valueOf_42 rfl hl (by decide) rfl (fun ls hl => ?_)
          obtain ⟨x_24, ex_24, bx_24, tx_24⟩ := z_inc (n := 1) (lo := 1) (hi := 2147483647) by3_j4_1_13 (by decide)
          refine lv_iinc (v := x_24) (lv' := [(3, .int x_24), (2, .int x_23), (0, .ref th), (1, .int t)]) hx hb dX8_valueOf_43 hl (k := 1) rfl ex_24 (by decide) rfl (fun ls hl => ?_)
          refine lv_goto (tgt := 4) hx hb dX8_valueOf_46 (by decide) ?_
          exact ih_j4_1 _ (by have := bx_24.1; have := bx_24.2; have := bx_23.1; have := bx_23.2; have := bt_8.1; have := bt_8.2; have : (0 : Int32).toInt = 0 := (by decide); have : (10 : Int32).toInt = 10 := (by decide); have : (48 : Int32).toInt = 48 := (by decide); have := by3_j4_1.1; have := by3_j4_1.2; have := by2_j4_1.1; have := by2_j4_1.2; omega) ls x_24 x_23 H locs (lv_sub hl [0, 1, 2, 3] rfl) (bx_24.w ⟨by decide, by decide⟩) bx_23 h rfl
  exact j_j4_1 _ ls 0 0 s.heap [] (lv_sub hl [0, 1, 2, 3] rfl) (zB.of ⟨by decide, by decide⟩) (zB.of ⟨by decide, by decide⟩) h rfl

set_option maxHeartbeats 4000000 in
set_option maxRecDepth 100000 in
theorem zc_X8_isLike (l : Launch) (D : va_G) (k : Nat → ClassId) (Γ : Nat → Option Nat) (L : List Nat) (F : Nat → va_E) (sz : Nat) (th : Nat) (t : Int32) (ot : Nat) (u_ : Int32) (hth : Γ th = some 8) (hot : Γ ot = some 8) : Met l yX8_isLike zwX8_isLike ({ frames := 2, cells := 0, slots := 0, locals := 43 }) (va_Pc [.ref th, .int t, .ref ot, .int u_] (zP D k Γ L F sz)) (va_Qi (fun (r : Int32) (u : Nat → va_E) => F = u ∧ zB 0 1 r ∧ True) (zQ D k Γ L F []) (zA L sz)) 0 0 (zA L sz) := by
  refine Met.ofW (cc := cX8_isLike) (maxL := 5) (ret := (some .boolean)) (by decide) rfl ?_
  intro p e s m args below meth c s₁ B hml hv
  obtain ⟨rfl, hsz, hP, hK, hLn, hE, hI⟩ := hv
  have hx := B.exec
  have hb := B.bytes
  have hr := B.returns
  have hg : ∀ w ∈ zG, w.before _ s = true := fun w h9 => atoms_spec (ws := zwX8_isLike) B.pre w (List.mem_cons_of_mem _ h9)
  have hown : s.vm.findClass RX8 = some m.cls := findClass_of_methodNamed B.named
  have hlocks := B.notSynchronized
  subst hsz
  have Z : zC p m c cX8_isLike 5 s _ zG RX8 D k L := ⟨⟨hx, hb, hml, hown, hg⟩, hK, hLn, hE⟩
  have h : zH D k Γ L s F s.heap [] := ⟨hP, hI, va_S.rf⟩
  have hl := lv_entry ([.ref th, .int t, .ref ot, .int u_]) (n := 5) (Nat.le_of_ble_eq_true rfl)
  rw [lg_entry_eq]
  generalize (lg_sl ([.ref th, .int t, .ref ot, .int u_]) ++ List.replicate (5 - (lg_sl ([.ref th, .int t, .ref ot, .int u_])).length) Slot.unset).toArray = ls at hl ⊢
  have hl : lv_has ls 5 [(0, .ref th), (1, .int t), (2, .ref ot), (3, .int u_)] := hl
  clear hP hK hLn hE hI
  generalize hargs : ([.ref th, .int t, .ref ot, .int u_] : List Value).toArray = args at *
  refine z_start (fun R Q hRf hRl hQ => ?_)
  have hRf : R.frames = 2 := hRf
  have hRl : R.locals = 43 := hRl
  refine lv_aload_n hx hb dX8_isLike_0 rfl (lv_at hl 0 rfl) ?_
  refine lv_iload_n hx hb dX8_isLike_1 rfl (lv_at hl 1 rfl) ?_
  refine zk_Vi (As := [.int t]) (rest := []) (bytes := cX8_has) (maxL := 2) (ret := (some .boolean)) Z h (zc_X8_has l D k Γ L F s.heap.size th t hth) (cwV 1 hg zv_RX8_58 rfl rfl rfl zd_X8_has ⟨z_leR hRf (by decide), z_leR hRl (by decide)⟩) hth (by decide) rfl rfl hl.1 rfl (Nat.le_of_ble_eq_true rfl) dX8_isLike_2 ⟨Nat.zero_le _, Nat.zero_le _⟩ (fun r_1 F_2 H locs w_3 h hfF_2 => ?_)
  obtain ⟨rfl, br_1, q_4, -⟩ := w_3
  refine lv_if_eq (tgt := 31) hx hb dX8_isLike_5 (by decide) (fun c_5 => ?_) (fun c_5 => ?_)
  · have c_5 := z_eq c_5
    have br_1_6 : zB 0 0 r_1 := zB.eqL (a := 0) (b := 0) c_5 (zBc 0 0 (by decide))
    refine lv_iconst (v := 0) hx hb dX8_isLike_31 (by decide) ?_
    subst hQ
    exact W.zret (v := 0) hx hb hr (by decide) (fun t ht hW => ⟨⟨0, F, rfl, ⟨rfl, (zB.of ⟨by decide, by decide⟩), trivial⟩, by rw [ht]; exact h.1, h.2.1, zFr.rf⟩, h.2.2.F ht⟩) h.2.2.2.2 dX8_isLike_32
  · have bt_7 : zB 0 600 t := q_4 c_5
    have c_5 := z_ne c_5
    have br_1_8 : zB 1 1 r_1 := zB.neLo c_5 br_1 (zBc 0 0 (by decide)) (by decide)
    refine lv_aload_n hx hb dX8_isLike_8 rfl (lv_at hl 2 rfl) ?_
    refine lv_iload_n hx hb dX8_isLike_9 rfl (lv_at hl 3 rfl) ?_
    refine zk_Vi (As := [.int u_]) (rest := []) (bytes := cX8_has) (maxL := 2) (ret := (some .boolean)) Z h (zc_X8_has l D k Γ L F H.size ot u_ hot) (cwV 1 hg zv_RX8_58 rfl rfl rfl zd_X8_has ⟨z_leR hRf (by decide), z_leR hRl (by decide)⟩) hot (by decide) rfl rfl hl.1 rfl (Nat.le_of_ble_eq_true rfl) dX8_isLike_10 ⟨Nat.zero_le _, Nat.zero_le _⟩ (fun r_9 F_10 H locs w_11 h hfF_10 => ?_)
    obtain ⟨rfl, br_9, q_12, -⟩ := w_11
    refine lv_if_eq (tgt := 31) hx hb dX8_isLike_13 (by decide) (fun c_13 => ?_) (fun c_13 => ?_)
    · have c_13 := z_eq c_13
      have br_9_14 : zB 0 0 r_9 := zB.eqL (a := 0) (b := 0) c_13 (zBc 0 0 (by decide))
      refine lv_iconst (v := 0) hx hb dX8_isLike_31 (by decide) ?_
      subst hQ
      exact W.zret (v := 0) hx hb hr (by decide) (fun t ht hW => ⟨⟨0, F, rfl, ⟨rfl, (zB.of ⟨by decide, by decide⟩), trivial⟩, by rw [ht]; exact h.1, h.2.1, zFr.rf⟩, h.2.2.F ht⟩) h.2.2.2.2 dX8_isLike_32
    · have bu__15 : zB 0 600 u_ := q_12 c_13
      have c_13 := z_ne c_13
      have br_9_16 : zB 1 1 r_9 := zB.neLo c_13 br_9 (zBc 0 0 (by decide)) (by decide)
      refine lv_aload_n hx hb dX8_isLike_16 rfl (lv_at hl 0 rfl) ?_
      refine zt_getr (t := 8) (C := RX8) (T := TX8) (N := 6) Z h hth zin_8 rfl 4 rfl ⟨by decide, rfl⟩ (zm_RX8 (List.mem_of_getElem? (i := 41) rfl)) (fun _ h9 => h9) dX8_isLike_17 (fun a_17 ka_17 ha_17 => ?_)
      refine lv_iload_n hx hb dX8_isLike_20 rfl (lv_at hl 1 rfl) ?_
      refine zt_ialde (t := 156) Z h ha_17 ⟨by decide, rfl⟩ bt_7 ⟨by decide, by decide⟩ dX8_isLike_21 (fun x_18 ex_18 bx_18 => ?_)
      refine lv_aload_n hx hb dX8_isLike_22 rfl (lv_at hl 2 rfl) ?_
      refine zt_getr (t := 8) (C := RX8) (T := TX8) (N := 6) Z h hot zin_8 rfl 4 rfl ⟨by decide, rfl⟩ (zm_RX8 (List.mem_of_getElem? (i := 41) rfl)) (fun _ h9 => h9) dX8_isLike_23 (fun a_19 ka_19 ha_19 => ?_)
      refine lv_iload_n hx hb dX8_isLike_26 rfl (lv_at hl 3 rfl) ?_
      refine zt_ialde (t := 156) Z h ha_19 ⟨by decide, rfl⟩ bu__15 ⟨by decide, by decide⟩ dX8_isLike_27 (fun x_20 ex_20 bx_20 => ?_)
      refine lv_icmp_eq (tgt := 33) hx hb dX8_isLike_28 (by decide) (fun c_21 => ?_) (fun c_21 => ?_)
      · have c_21 := z_eq c_21
        refine lv_iconst (v := 0) hx hb dX8_isLike_33 (by decide) ?_
        refine lv_istore (lv' := [(4, .int 0), (0, .ref th), (1, .int t), (2, .ref ot), (3, .int u_)]) hx hb dX8_isLike_34 hl (by decide) rfl (fun ls hl => ?_)
        have j_j36_22 : ∀ (n : Nat) (ls : Array Slot) (y4_j36_22 : Int32) (H : Heap) (locs : List Loc), lv_has ls 5 [(4, .int y4_j36_22), (0, .ref th), (1, .int t), (2, .ref ot), (3, .int u_)] → zB 0 2147483647 y4_j36_22 → zH D k Γ L s F H locs → (2147483647 - y4_j36_22.toInt).toNat = n → W p l e R s m args below meth c H locs 0 0 Q (F0 m 36 ls []) := by
          intro n
          induction n using Nat.strongRecOn with
          | _ n ih_j36_22 =>
            intro ls y4_j36_22 H locs hl by4_j36_22 h hn_j36_22
            refine lv_iload hx hb dX8_isLike_36 (lv_at hl 0 rfl) ?_
            refine lv_aload_n hx hb dX8_isLike_38 rfl (lv_at hl 1 rfl) ?_
            refine zt_getk (t := 8) (C := RX8) (T := TX8) (N := 6) Z h hth zin_8 rfl 4 ka_17 ⟨by decide, rfl, by decide⟩ (zm_RX8 (List.mem_of_getElem? (i := 41) rfl)) (fun _ h9 => h9) dX8_isLike_39 ?_
            refine lv_iload_n hx hb dX8_isLike_42 rfl (lv_at hl 2 rfl) ?_
            refine zt_ialdk (t := 156) Z h ha_17 ⟨by decide, rfl⟩ bt_7 ⟨by decide, by decide⟩ ex_18 dX8_isLike_43 ?_
            refine lv_icmp_ge (tgt := 72) hx hb dX8_isLike_44 (by decide) (fun c_23 => ?_) (fun c_23 => ?_)
            · have c_23 := z_le c_23
              refine lv_iconst (v := 1) hx hb dX8_isLike_72 (by decide) ?_
              subst hQ
              exact W.zret (v := 1) hx hb hr (by decide) (fun t ht hW => ⟨⟨1, F, rfl, ⟨rfl, (zB.of ⟨by decide, by decide⟩), trivial⟩, by rw [ht]; exact h.1, h.2.1, zFr.rf⟩, h.2.2.F ht⟩) h.2.2.2.2 dX8_isLike_73
            · have c_23 := z_nle c_23
              have by4_j36_22_24 : zB 0 2147483646 y4_j36_22 := zB.ltL c_23 by4_j36_22 bx_18 (by decide)
              have bx_18_25 : zB 1 2147483647 x_18 := zB.ltR c_23 by4_j36_22 bx_18 (by decide)
              refine lv_aload_n hx hb dX8_isLike_47 rfl (lv_at hl 1 rfl) ?_
              refine lv_iload_n hx hb dX8_isLike_48 rfl (lv_at hl 2 rfl) ?_
              refine lv_iload hx hb dX8_isLike_49 (lv_at hl 0 rfl) ?_
              refine zk_Vi (As := [.int t, .int y4_j36_22]) (rest := []) (bytes := cX8_byteOf) (maxL := 3) (ret := (some .int)) Z h (zc_X8_byteOf l D k Γ L F H.size th t y4_j36_22 hth) (cwV 2 hg zv_RX8_65 rfl rfl rfl zd_X8_byteOf ⟨z_leR hRf (by decide), z_leR hRl (by decide)⟩) hth (by decide) rfl rfl hl.1 rfl (Nat.le_of_ble_eq_true rfl) dX8_isLike_51 ⟨Nat.zero_le _, Nat.zero_le _⟩ (fun r_26 F_27 H locs w_28 h hfF_27 => ?_)
              obtain ⟨rfl, br_26, -⟩ := w_28
              refine lv_aload_n hx hb dX8_isLike_54 rfl (lv_at hl 3 rfl) ?_
              refine lv_iload_n hx hb dX8_isLike_55 rfl (lv_at hl 4 rfl) ?_
              refine lv_iload hx hb dX8_isLike_56 (lv_at hl 0 rfl) ?_
              refine zk_Vi (As := [.int u_, .int y4_j36_22]) (rest := [.int r_26]) (bytes := cX8_byteOf) (maxL := 3) (ret := (some .int)) Z h (zc_X8_byteOf l D k Γ L F H.size ot u_ y4_j36_22 hot) (cwV 2 hg zv_RX8_65 rfl rfl rfl zd_X8_byteOf ⟨z_leR hRf (by decide), z_leR hRl (by decide)⟩) hot (by decide) rfl rfl hl.1 rfl (Nat.le_of_ble_eq_true rfl) dX8_isLike_58 ⟨Nat.zero_le _, Nat.zero_le _⟩ (fun r_29 F_30 H locs w_31 h hfF_30 => ?_)
              obtain ⟨rfl, br_29, -⟩ := w_31
              refine lv_icmp_eq (tgt := 66) hx hb dX8_isLike_61 (by decide) (fun c_32 => ?_) (fun c_32 => ?_)
              · have c_32 := z_eq c_32
                obtain ⟨x_33, ex_33, bx_33, tx_33⟩ := z_inc (n := 1) (lo := 1) (hi := 2147483647) by4_j36_22_24 (by decide)
                refine lv_iinc (v := x_33) (lv' := [(4, .int x_33), (0, .ref th), (1, .int t), (2, .ref ot), (3, .int u_)]) hx hb dX8_isLike_66 hl (k := 0) rfl ex_33 (by decide) rfl (fun ls hl => ?_)
                refine lv_goto (tgt := 36) hx hb dX8_isLike_69 (by decide) ?_
                exact ih_j36_22 _ (by have := bx_33.1; have := bx_33.2; have := bt_7.1; have := bt_7.2; have := bu__15.1; have := bu__15.2; have : (0 : Int32).toInt = 0 := (by decide); have := by4_j36_22.1; have := by4_j36_22.2; omega) ls x_33 H locs (lv_sub hl [0, 1, 2, 3, 4] rfl) (bx_33.w ⟨by decide, by decide⟩) h rfl
              · have c_32 := z_ne c_32
                refine lv_iconst (v := 0) hx hb dX8_isLike_64 (by decide) ?_
                subst hQ
                exact W.zret (v := 0) hx hb hr (by decide) (fun t ht hW => ⟨⟨0, F, rfl, ⟨rfl, (zB.of ⟨by decide, by decide⟩), trivial⟩, by rw [ht]; exact h.1, h.2.1, zFr.rf⟩, h.2.2.F ht⟩) h.2.2.2.2 dX8_isLike_65
        exact j_j36_22 _ ls 0 H locs (lv_sub hl [0, 1, 2, 3, 4] rfl) (zB.of ⟨by decide, by decide⟩) h rfl
      · have c_21 := z_ne c_21
        refine lv_iconst (v := 0) hx hb dX8_isLike_31 (by decide) ?_
        subst hQ
        exact W.zret (v := 0) hx hb hr (by decide) (fun t ht hW => ⟨⟨0, F, rfl, ⟨rfl, (zB.of ⟨by decide, by decide⟩), trivial⟩, by rw [ht]; exact h.1, h.2.1, zFr.rf⟩, h.2.2.F ht⟩) h.2.2.2.2 dX8_isLike_32

set_option maxHeartbeats 4000000 in
set_option maxRecDepth 100000 in
theorem zc_X8_add (l : Launch) (D : va_G) (k : Nat → ClassId) (Γ : Nat → Option Nat) (L : List Nat) (F : Nat → va_E) (sz : Nat) (th : Nat) (kd : Int32) (pl : Int32) (wi : Int32) (hth : Γ th = some 8) : Met l yX8_add zwX8_add ({ frames := 0, cells := 0, slots := 0, locals := 0 }) (va_Pc [.ref th, .int kd, .int pl, .int wi] (zP D k Γ L F sz)) (va_Qv (fun (u : Nat → va_E) => True) (zQ D k Γ L F [805, 10100, 15500, 15600]) (zA L sz)) 0 0 (zA L sz) := by
  refine Met.ofW (cc := cX8_add) (maxL := 4) (ret := none) (by decide) rfl ?_
  intro p e s m args below meth c s₁ B hml hv
  obtain ⟨rfl, hsz, hP, hK, hLn, hE, hI⟩ := hv
  have hx := B.exec
  have hb := B.bytes
  have hr := B.returns
  have hg : ∀ w ∈ zG, w.before _ s = true := fun w h9 => atoms_spec (ws := zwX8_add) B.pre w (List.mem_cons_of_mem _ h9)
  have hown : s.vm.findClass RX8 = some m.cls := findClass_of_methodNamed B.named
  have hlocks := B.notSynchronized
  subst hsz
  have Z : zC p m c cX8_add 4 s _ zG RX8 D k L := ⟨⟨hx, hb, hml, hown, hg⟩, hK, hLn, hE⟩
  have h : zH D k Γ L s F s.heap [] := ⟨hP, hI, va_S.rf⟩
  have hl := lv_entry ([.ref th, .int kd, .int pl, .int wi]) (n := 4) (Nat.le_of_ble_eq_true rfl)
  rw [lg_entry_eq]
  generalize (lg_sl ([.ref th, .int kd, .int pl, .int wi]) ++ List.replicate (4 - (lg_sl ([.ref th, .int kd, .int pl, .int wi])).length) Slot.unset).toArray = ls at hl ⊢
  have hl : lv_has ls 4 [(0, .ref th), (1, .int kd), (2, .int pl), (3, .int wi)] := hl
  clear hP hK hLn hE hI
  generalize hargs : ([.ref th, .int kd, .int pl, .int wi] : List Value).toArray = args at *
  refine z_start (fun R Q hRf hRl hQ => ?_)
  have hRf : R.frames = 0 := hRf
  have hRl : R.locals = 0 := hRl
  refine lv_aload_n hx hb dX8_add_0 rfl (lv_at hl 0 rfl) ?_
  refine zt_geti (t := 8) (C := RX8) (T := TX8) (N := 6) Z h hth zin_8 rfl 5 rfl ⟨by decide, rfl⟩ (zm_RX8 (List.mem_of_getElem? (i := 25) rfl)) (fun _ h9 => h9) dX8_add_1 (fun x_1 kx_1 bx_1 => ?_)
  refine lv_aload_n hx hb dX8_add_4 rfl (lv_at hl 0 rfl) ?_
  refine zt_getr (t := 8) (C := RX8) (T := TX8) (N := 6) Z h hth zin_8 rfl 2 rfl ⟨by decide, rfl⟩ (zm_RX8 (List.mem_of_getElem? (i := 52) rfl)) (fun _ h9 => h9) dX8_add_5 (fun a_2 ka_2 ha_2 => ?_)
  refine zt_alen (t := 101) Z h ha_2 ⟨by decide, rfl⟩ (by decide) (v := 601) rfl dX8_add_8 ?_
  refine lv_icmp_ge (tgt := 52) hx hb dX8_add_9 (by decide) (fun c_3 => ?_) (fun c_3 => ?_)
  · have c_3 := z_le c_3
    have bx_1_4 : zB 601 601 x_1 := zB.leR c_3 (zBc 601 601 (by decide)) bx_1 (by decide)
    subst hQ
    exact W.vret hx hb hr (fun t ht hW => ⟨⟨F, rfl, trivial, by rw [ht]; exact h.1, h.2.1, zFr.rf⟩, h.2.2.F ht⟩) h.2.2.2.2 dX8_add_52
  · have c_3 := z_nle c_3
    have bx_1_5 : zB 0 600 x_1 := zB.ltL c_3 bx_1 (zBc 601 601 (by decide)) (by decide)
    refine lv_aload_n hx hb dX8_add_12 rfl (lv_at hl 0 rfl) ?_
    refine zt_getk (t := 8) (C := RX8) (T := TX8) (N := 6) Z h hth zin_8 rfl 2 ka_2 ⟨by decide, rfl, by decide⟩ (zm_RX8 (List.mem_of_getElem? (i := 52) rfl)) (fun _ h9 => h9) dX8_add_13 ?_
    refine lv_aload_n hx hb dX8_add_16 rfl (lv_at hl 0 rfl) ?_
    refine zt_getk (t := 8) (C := RX8) (T := TX8) (N := 6) Z h hth zin_8 rfl 5 kx_1 ⟨by decide, rfl, by decide⟩ (zm_RX8 (List.mem_of_getElem? (i := 25) rfl)) (fun _ h9 => h9) dX8_add_17 ?_
    refine lv_iload_n hx hb dX8_add_20 rfl (lv_at hl 1 rfl) ?_
    refine zt_iast (t := 101) Z h ha_2 ⟨by decide, rfl⟩ bx_1_5 ⟨by decide, by decide⟩ (zB.all kd) dX8_add_21 (fun H locs F_6 h hfF_6 => ?_)
    refine lv_aload_n hx hb dX8_add_22 rfl (lv_at hl 0 rfl) ?_
    refine zt_getr (t := 8) (C := RX8) (T := TX8) (N := 6) Z h hth zin_8 rfl 3 rfl ⟨by decide, rfl⟩ (zm_RX8 (List.mem_of_getElem? (i := 39) rfl)) (fun _ h9 => h9) dX8_add_23 (fun a_7 ka_7 ha_7 => ?_)
    refine lv_aload_n hx hb dX8_add_26 rfl (lv_at hl 0 rfl) ?_
    refine zt_getk (t := 8) (C := RX8) (T := TX8) (N := 6) Z h hth zin_8 rfl 5 (hfF_6.f hth 5 ⟨by decide, by decide⟩ kx_1) ⟨by decide, rfl, by decide⟩ (zm_RX8 (List.mem_of_getElem? (i := 25) rfl)) (fun _ h9 => h9) dX8_add_27 ?_
    refine lv_iload_n hx hb dX8_add_30 rfl (lv_at hl 2 rfl) ?_
    refine zt_iast (t := 155) Z h ha_7 ⟨by decide, rfl⟩ bx_1_5 ⟨by decide, by decide⟩ (zB.all pl) dX8_add_31 (fun H locs F_8 h hfF_8 => ?_)
    refine lv_aload_n hx hb dX8_add_32 rfl (lv_at hl 0 rfl) ?_
    refine zt_getr (t := 8) (C := RX8) (T := TX8) (N := 6) Z h hth zin_8 rfl 4 rfl ⟨by decide, rfl⟩ (zm_RX8 (List.mem_of_getElem? (i := 41) rfl)) (fun _ h9 => h9) dX8_add_33 (fun a_9 ka_9 ha_9 => ?_)
    refine lv_aload_n hx hb dX8_add_36 rfl (lv_at hl 0 rfl) ?_
    refine zt_getk (t := 8) (C := RX8) (T := TX8) (N := 6) Z h hth zin_8 rfl 5 (hfF_8.f hth 5 ⟨by decide, by decide⟩ (hfF_6.f hth 5 ⟨by decide, by decide⟩ kx_1)) ⟨by decide, rfl, by decide⟩ (zm_RX8 (List.mem_of_getElem? (i := 25) rfl)) (fun _ h9 => h9) dX8_add_37 ?_
    refine lv_iload_n hx hb dX8_add_40 rfl (lv_at hl 3 rfl) ?_
    refine zt_iast (t := 156) Z h ha_9 ⟨by decide, rfl⟩ bx_1_5 ⟨by decide, by decide⟩ (zB.all wi) dX8_add_41 (fun H locs F_10 h hfF_10 => ?_)
    refine lv_aload_n hx hb dX8_add_42 rfl (lv_at hl 0 rfl) ?_
    refine lv_dup hx hb dX8_add_43 rfl ?_
    refine zt_getk (t := 8) (C := RX8) (T := TX8) (N := 6) Z h hth zin_8 rfl 5 (hfF_10.f hth 5 ⟨by decide, by decide⟩ (hfF_8.f hth 5 ⟨by decide, by decide⟩ (hfF_6.f hth 5 ⟨by decide, by decide⟩ kx_1))) ⟨by decide, rfl, by decide⟩ (zm_RX8 (List.mem_of_getElem? (i := 25) rfl)) (fun _ h9 => h9) dX8_add_44 ?_
    refine lv_iconst (v := 1) hx hb dX8_add_47 (by decide) ?_
    refine lv_iadd hx hb dX8_add_48 ?_
    refine zi_add (lo := 1) (hi := 601) bx_1_5 (zBc 1 1 (by decide)) (by decide) (fun x_11 bx_11 tx_11 => ?_)
    refine zt_put (t := 8) (C := RX8) (T := TX8) (N := 6) (v := .int x_11) Z h hth zin_8 tyX8 tyX8_ok nmX8 rfl 5 rfl ⟨by decide, rfl⟩ (zm_RX8 (List.mem_of_getElem? (i := 25) rfl)) (fun _ h9 => h9) rfl (zV.i (bx_11.w ⟨by decide, by decide⟩)) rfl rfl dX8_add_49 (fun H locs F_12 h hfF_12 kF_12 => ?_)
    subst hQ
    exact W.vret hx hb hr (fun t ht hW => ⟨⟨F_12, rfl, trivial, by rw [ht]; exact h.1, h.2.1, ((((hfF_6.w (by decide)).trans hfF_8 (by decide)).trans hfF_10 (by decide)).trans hfF_12 (by decide))⟩, h.2.2.F ht⟩) h.2.2.2.2 dX8_add_52

set_option maxHeartbeats 4000000 in
set_option maxRecDepth 100000 in
theorem zc_X8_isLetter (l : Launch) (D : va_G) (k : Nat → ClassId) (Γ : Nat → Option Nat) (L : List Nat) (F : Nat → va_E) (sz : Nat) (th : Nat) (i : Int32) (hth : Γ th = some 8) : Met l yX8_isLetter zwX8_isLetter ({ frames := 1, cells := 0, slots := 0, locals := 21 }) (va_Pc [.ref th, .int i] (zP D k Γ L F sz)) (va_Qi (fun (r : Int32) (u : Nat → va_E) => F = u ∧ zB 0 1 r ∧ True) (zQ D k Γ L F []) (zA L sz)) 0 0 (zA L sz) := by
  refine Met.ofW (cc := cX8_isLetter) (maxL := 2) (ret := (some .boolean)) (by decide) rfl ?_
  intro p e s m args below meth c s₁ B hml hv
  obtain ⟨rfl, hsz, hP, hK, hLn, hE, hI⟩ := hv
  have hx := B.exec
  have hb := B.bytes
  have hr := B.returns
  have hg : ∀ w ∈ zG, w.before _ s = true := fun w h9 => atoms_spec (ws := zwX8_isLetter) B.pre w (List.mem_cons_of_mem _ h9)
  have hown : s.vm.findClass RX8 = some m.cls := findClass_of_methodNamed B.named
  have hlocks := B.notSynchronized
  subst hsz
  have Z : zC p m c cX8_isLetter 2 s _ zG RX8 D k L := ⟨⟨hx, hb, hml, hown, hg⟩, hK, hLn, hE⟩
  have h : zH D k Γ L s F s.heap [] := ⟨hP, hI, va_S.rf⟩
  have hl := lv_entry ([.ref th, .int i]) (n := 2) (Nat.le_of_ble_eq_true rfl)
  rw [lg_entry_eq]
  generalize (lg_sl ([.ref th, .int i]) ++ List.replicate (2 - (lg_sl ([.ref th, .int i])).length) Slot.unset).toArray = ls at hl ⊢
  have hl : lv_has ls 2 [(0, .ref th), (1, .int i)] := hl
  clear hP hK hLn hE hI
  generalize hargs : ([.ref th, .int i] : List Value).toArray = args at *
  refine z_start (fun R Q hRf hRl hQ => ?_)
  have hRf : R.frames = 1 := hRf
  have hRl : R.locals = 21 := hRl
  refine lv_aload_n hx hb dX8_isLetter_0 rfl (lv_at hl 0 rfl) ?_
  refine lv_iload_n hx hb dX8_isLetter_1 rfl (lv_at hl 1 rfl) ?_
  refine zk_Vi (As := [.int i]) (rest := []) (bytes := cX8_textAt) (maxL := 2) (ret := (some .int)) Z h (zc_X8_textAt l D k Γ L F s.heap.size th i hth) (cwV 1 hg zv_RX8_62 rfl rfl rfl zd_X8_textAt ⟨z_leR hRf (by decide), z_leR hRl (by decide)⟩) hth (by decide) rfl rfl hl.1 rfl (Nat.le_of_ble_eq_true rfl) dX8_isLetter_2 ⟨Nat.zero_le _, Nat.zero_le _⟩ (fun r_1 F_2 H locs w_3 h hfF_2 => ?_)
  obtain ⟨rfl, br_1, -⟩ := w_3
  refine lv_bipush (v := 97) hx hb dX8_isLetter_5 (by decide) ?_
  refine lv_icmp_lt (tgt := 24) hx hb dX8_isLetter_7 (by decide) (fun c_4 => ?_) (fun c_4 => ?_)
  · have c_4 := z_lt c_4
    have br_1_5 : zB (-128) 96 r_1 := zB.ltL c_4 br_1 (zBc 97 97 (by decide)) (by decide)
    refine lv_iconst (v := 0) hx hb dX8_isLetter_24 (by decide) ?_
    subst hQ
    exact W.zret (v := 0) hx hb hr (by decide) (fun t ht hW => ⟨⟨0, F, rfl, ⟨rfl, (zB.of ⟨by decide, by decide⟩), trivial⟩, by rw [ht]; exact h.1, h.2.1, zFr.rf⟩, h.2.2.F ht⟩) h.2.2.2.2 dX8_isLetter_25
  · have c_4 := z_nlt c_4
    have br_1_6 : zB 97 127 r_1 := zB.leR c_4 (zBc 97 97 (by decide)) br_1 (by decide)
    refine lv_aload_n hx hb dX8_isLetter_10 rfl (lv_at hl 0 rfl) ?_
    refine lv_iload_n hx hb dX8_isLetter_11 rfl (lv_at hl 1 rfl) ?_
    refine zk_Vi (As := [.int i]) (rest := []) (bytes := cX8_textAt) (maxL := 2) (ret := (some .int)) Z h (zc_X8_textAt l D k Γ L F H.size th i hth) (cwV 1 hg zv_RX8_62 rfl rfl rfl zd_X8_textAt ⟨z_leR hRf (by decide), z_leR hRl (by decide)⟩) hth (by decide) rfl rfl hl.1 rfl (Nat.le_of_ble_eq_true rfl) dX8_isLetter_12 ⟨Nat.zero_le _, Nat.zero_le _⟩ (fun r_7 F_8 H locs w_9 h hfF_8 => ?_)
    obtain ⟨rfl, br_7, -⟩ := w_9
    refine lv_bipush (v := 122) hx hb dX8_isLetter_15 (by decide) ?_
    refine lv_icmp_gt (tgt := 24) hx hb dX8_isLetter_17 (by decide) (fun c_10 => ?_) (fun c_10 => ?_)
    · have c_10 := z_lt c_10
      have br_7_11 : zB 123 127 r_7 := zB.ltR c_10 (zBc 122 122 (by decide)) br_7 (by decide)
      refine lv_iconst (v := 0) hx hb dX8_isLetter_24 (by decide) ?_
      subst hQ
      exact W.zret (v := 0) hx hb hr (by decide) (fun t ht hW => ⟨⟨0, F, rfl, ⟨rfl, (zB.of ⟨by decide, by decide⟩), trivial⟩, by rw [ht]; exact h.1, h.2.1, zFr.rf⟩, h.2.2.F ht⟩) h.2.2.2.2 dX8_isLetter_25
    · have c_10 := z_nlt c_10
      have br_7_12 : zB (-128) 122 r_7 := zB.leL c_10 br_7 (zBc 122 122 (by decide)) (by decide)
      refine lv_iconst (v := 1) hx hb dX8_isLetter_20 (by decide) ?_
      refine lv_goto (tgt := 25) hx hb dX8_isLetter_21 (by decide) ?_
      subst hQ
      exact W.zret (v := 1) hx hb hr (by decide) (fun t ht hW => ⟨⟨1, F, rfl, ⟨rfl, (zB.of ⟨by decide, by decide⟩), trivial⟩, by rw [ht]; exact h.1, h.2.1, zFr.rf⟩, h.2.2.F ht⟩) h.2.2.2.2 dX8_isLetter_25

set_option maxHeartbeats 4000000 in
set_option maxRecDepth 100000 in
theorem zc_X8_isDigit (l : Launch) (D : va_G) (k : Nat → ClassId) (Γ : Nat → Option Nat) (L : List Nat) (F : Nat → va_E) (sz : Nat) (th : Nat) (i : Int32) (hth : Γ th = some 8) : Met l yX8_isDigit zwX8_isDigit ({ frames := 1, cells := 0, slots := 0, locals := 21 }) (va_Pc [.ref th, .int i] (zP D k Γ L F sz)) (va_Qi (fun (r : Int32) (u : Nat → va_E) => F = u ∧ zB 0 1 r ∧ True) (zQ D k Γ L F []) (zA L sz)) 0 0 (zA L sz) := by
  refine Met.ofW (cc := cX8_isDigit) (maxL := 2) (ret := (some .boolean)) (by decide) rfl ?_
  intro p e s m args below meth c s₁ B hml hv
  obtain ⟨rfl, hsz, hP, hK, hLn, hE, hI⟩ := hv
  have hx := B.exec
  have hb := B.bytes
  have hr := B.returns
  have hg : ∀ w ∈ zG, w.before _ s = true := fun w h9 => atoms_spec (ws := zwX8_isDigit) B.pre w (List.mem_cons_of_mem _ h9)
  have hown : s.vm.findClass RX8 = some m.cls := findClass_of_methodNamed B.named
  have hlocks := B.notSynchronized
  subst hsz
  have Z : zC p m c cX8_isDigit 2 s _ zG RX8 D k L := ⟨⟨hx, hb, hml, hown, hg⟩, hK, hLn, hE⟩
  have h : zH D k Γ L s F s.heap [] := ⟨hP, hI, va_S.rf⟩
  have hl := lv_entry ([.ref th, .int i]) (n := 2) (Nat.le_of_ble_eq_true rfl)
  rw [lg_entry_eq]
  generalize (lg_sl ([.ref th, .int i]) ++ List.replicate (2 - (lg_sl ([.ref th, .int i])).length) Slot.unset).toArray = ls at hl ⊢
  have hl : lv_has ls 2 [(0, .ref th), (1, .int i)] := hl
  clear hP hK hLn hE hI
  generalize hargs : ([.ref th, .int i] : List Value).toArray = args at *
  refine z_start (fun R Q hRf hRl hQ => ?_)
  have hRf : R.frames = 1 := hRf
  have hRl : R.locals = 21 := hRl
  refine lv_aload_n hx hb dX8_isDigit_0 rfl (lv_at hl 0 rfl) ?_
  refine lv_iload_n hx hb dX8_isDigit_1 rfl (lv_at hl 1 rfl) ?_
  refine zk_Vi (As := [.int i]) (rest := []) (bytes := cX8_textAt) (maxL := 2) (ret := (some .int)) Z h (zc_X8_textAt l D k Γ L F s.heap.size th i hth) (cwV 1 hg zv_RX8_62 rfl rfl rfl zd_X8_textAt ⟨z_leR hRf (by decide), z_leR hRl (by decide)⟩) hth (by decide) rfl rfl hl.1 rfl (Nat.le_of_ble_eq_true rfl) dX8_isDigit_2 ⟨Nat.zero_le _, Nat.zero_le _⟩ (fun r_1 F_2 H locs w_3 h hfF_2 => ?_)
  obtain ⟨rfl, br_1, -⟩ := w_3
  refine lv_bipush (v := 48) hx hb dX8_isDigit_5 (by decide) ?_
  refine lv_icmp_lt (tgt := 24) hx hb dX8_isDigit_7 (by decide) (fun c_4 => ?_) (fun c_4 => ?_)
  · have c_4 := z_lt c_4
    have br_1_5 : zB (-128) 47 r_1 := zB.ltL c_4 br_1 (zBc 48 48 (by decide)) (by decide)
    refine lv_iconst (v := 0) hx hb dX8_isDigit_24 (by decide) ?_
    subst hQ
    exact W.zret (v := 0) hx hb hr (by decide) (fun t ht hW => ⟨⟨0, F, rfl, ⟨rfl, (zB.of ⟨by decide, by decide⟩), trivial⟩, by rw [ht]; exact h.1, h.2.1, zFr.rf⟩, h.2.2.F ht⟩) h.2.2.2.2 dX8_isDigit_25
  · have c_4 := z_nlt c_4
    have br_1_6 : zB 48 127 r_1 := zB.leR c_4 (zBc 48 48 (by decide)) br_1 (by decide)
    refine lv_aload_n hx hb dX8_isDigit_10 rfl (lv_at hl 0 rfl) ?_
    refine lv_iload_n hx hb dX8_isDigit_11 rfl (lv_at hl 1 rfl) ?_
    refine zk_Vi (As := [.int i]) (rest := []) (bytes := cX8_textAt) (maxL := 2) (ret := (some .int)) Z h (zc_X8_textAt l D k Γ L F H.size th i hth) (cwV 1 hg zv_RX8_62 rfl rfl rfl zd_X8_textAt ⟨z_leR hRf (by decide), z_leR hRl (by decide)⟩) hth (by decide) rfl rfl hl.1 rfl (Nat.le_of_ble_eq_true rfl) dX8_isDigit_12 ⟨Nat.zero_le _, Nat.zero_le _⟩ (fun r_7 F_8 H locs w_9 h hfF_8 => ?_)
    obtain ⟨rfl, br_7, -⟩ := w_9
    refine lv_bipush (v := 57) hx hb dX8_isDigit_15 (by decide) ?_
    refine lv_icmp_gt (tgt := 24) hx hb dX8_isDigit_17 (by decide) (fun c_10 => ?_) (fun c_10 => ?_)
    · have c_10 := z_lt c_10
      have br_7_11 : zB 58 127 r_7 := zB.ltR c_10 (zBc 57 57 (by decide)) br_7 (by decide)
      refine lv_iconst (v := 0) hx hb dX8_isDigit_24 (by decide) ?_
      subst hQ
      exact W.zret (v := 0) hx hb hr (by decide) (fun t ht hW => ⟨⟨0, F, rfl, ⟨rfl, (zB.of ⟨by decide, by decide⟩), trivial⟩, by rw [ht]; exact h.1, h.2.1, zFr.rf⟩, h.2.2.F ht⟩) h.2.2.2.2 dX8_isDigit_25
    · have c_10 := z_nlt c_10
      have br_7_12 : zB (-128) 57 r_7 := zB.leL c_10 br_7 (zBc 57 57 (by decide)) (by decide)
      refine lv_iconst (v := 1) hx hb dX8_isDigit_20 (by decide) ?_
      refine lv_goto (tgt := 25) hx hb dX8_isDigit_21 (by decide) ?_
      subst hQ
      exact W.zret (v := 1) hx hb hr (by decide) (fun t ht hW => ⟨⟨1, F, rfl, ⟨rfl, (zB.of ⟨by decide, by decide⟩), trivial⟩, by rw [ht]; exact h.1, h.2.1, zFr.rf⟩, h.2.2.F ht⟩) h.2.2.2.2 dX8_isDigit_25

set_option maxHeartbeats 4000000 in
set_option maxRecDepth 100000 in
theorem zc_X8_isSign (l : Launch) (D : va_G) (k : Nat → ClassId) (Γ : Nat → Option Nat) (L : List Nat) (F : Nat → va_E) (sz : Nat) (b : Int32) : Met l yX8_isSign zwX8_isSign ({ frames := 0, cells := 0, slots := 0, locals := 0 }) (va_Pc [.int b] (zP D k Γ L F sz)) (va_Qi (fun (r : Int32) (u : Nat → va_E) => F = u ∧ zB 0 1 r ∧ True) (zQ D k Γ L F []) (zA L sz)) 0 0 (zA L sz) := by
  refine Met.ofW (cc := cX8_isSign) (maxL := 1) (ret := (some .boolean)) (by decide) rfl ?_
  intro p e s m args below meth c s₁ B hml hv
  obtain ⟨rfl, hsz, hP, hK, hLn, hE, hI⟩ := hv
  have hx := B.exec
  have hb := B.bytes
  have hr := B.returns
  have hg : ∀ w ∈ zG, w.before _ s = true := fun w h9 => atoms_spec (ws := zwX8_isSign) B.pre w (List.mem_cons_of_mem _ h9)
  have hown : s.vm.findClass RX8 = some m.cls := findClass_of_methodNamed B.named
  have hlocks := B.notSynchronized
  subst hsz
  have Z : zC p m c cX8_isSign 1 s _ zG RX8 D k L := ⟨⟨hx, hb, hml, hown, hg⟩, hK, hLn, hE⟩
  have h : zH D k Γ L s F s.heap [] := ⟨hP, hI, va_S.rf⟩
  have hl := lv_entry ([.int b]) (n := 1) (Nat.le_of_ble_eq_true rfl)
  rw [lg_entry_eq]
  generalize (lg_sl ([.int b]) ++ List.replicate (1 - (lg_sl ([.int b])).length) Slot.unset).toArray = ls at hl ⊢
  have hl : lv_has ls 1 [(0, .int b)] := hl
  clear hP hK hLn hE hI
  generalize hargs : ([.int b] : List Value).toArray = args at *
  refine z_start (fun R Q hRf hRl hQ => ?_)
  have hRf : R.frames = 0 := hRf
  have hRl : R.locals = 0 := hRl
  refine lv_iload_n hx hb dX8_isSign_0 rfl (lv_at hl 0 rfl) ?_
  by_cases c_1 : b = 40
  · refine lv_lookup (off := 107) (tgt := 108) hx hb dX8_isSign_1 (by decide) (by rw [c_1]; rfl) (by decide) ?_
    have bb_1 : zB 40 40 b := by rw [c_1]; exact zBc _ _ (by decide)
    refine lv_iconst (v := 1) hx hb dX8_isSign_108 (by decide) ?_
    subst hQ
    exact W.zret (v := 1) hx hb hr (by decide) (fun t ht hW => ⟨⟨1, F, rfl, ⟨rfl, (zB.of ⟨by decide, by decide⟩), trivial⟩, by rw [ht]; exact h.1, h.2.1, zFr.rf⟩, h.2.2.F ht⟩) h.2.2.2.2 dX8_isSign_109
  · by_cases c_3 : b = 41
    · refine lv_lookup (off := 107) (tgt := 108) hx hb dX8_isSign_1 (by decide) (by rw [c_3]; rfl) (by decide) ?_
      have bb_3 : zB 41 41 b := by rw [c_3]; exact zBc _ _ (by decide)
      refine lv_iconst (v := 1) hx hb dX8_isSign_108 (by decide) ?_
      subst hQ
      exact W.zret (v := 1) hx hb hr (by decide) (fun t ht hW => ⟨⟨1, F, rfl, ⟨rfl, (zB.of ⟨by decide, by decide⟩), trivial⟩, by rw [ht]; exact h.1, h.2.1, zFr.rf⟩, h.2.2.F ht⟩) h.2.2.2.2 dX8_isSign_109
    · by_cases c_5 : b = 42
      · refine lv_lookup (off := 107) (tgt := 108) hx hb dX8_isSign_1 (by decide) (by rw [c_5]; rfl) (by decide) ?_
        have bb_5 : zB 42 42 b := by rw [c_5]; exact zBc _ _ (by decide)
        refine lv_iconst (v := 1) hx hb dX8_isSign_108 (by decide) ?_
        subst hQ
        exact W.zret (v := 1) hx hb hr (by decide) (fun t ht hW => ⟨⟨1, F, rfl, ⟨rfl, (zB.of ⟨by decide, by decide⟩), trivial⟩, by rw [ht]; exact h.1, h.2.1, zFr.rf⟩, h.2.2.F ht⟩) h.2.2.2.2 dX8_isSign_109
      · by_cases c_7 : b = 43
        · refine lv_lookup (off := 107) (tgt := 108) hx hb dX8_isSign_1 (by decide) (by rw [c_7]; rfl) (by decide) ?_
          have bb_7 : zB 43 43 b := by rw [c_7]; exact zBc _ _ (by decide)
          refine lv_iconst (v := 1) hx hb dX8_isSign_108 (by decide) ?_
          subst hQ
          exact W.zret (v := 1) hx hb hr (by decide) (fun t ht hW => ⟨⟨1, F, rfl, ⟨rfl, (zB.of ⟨by decide, by decide⟩), trivial⟩, by rw [ht]; exact h.1, h.2.1, zFr.rf⟩, h.2.2.F ht⟩) h.2.2.2.2 dX8_isSign_109
        · by_cases c_9 : b = 44
          · refine lv_lookup (off := 107) (tgt := 108) hx hb dX8_isSign_1 (by decide) (by rw [c_9]; rfl) (by decide) ?_
            have bb_9 : zB 44 44 b := by rw [c_9]; exact zBc _ _ (by decide)
            refine lv_iconst (v := 1) hx hb dX8_isSign_108 (by decide) ?_
            subst hQ
            exact W.zret (v := 1) hx hb hr (by decide) (fun t ht hW => ⟨⟨1, F, rfl, ⟨rfl, (zB.of ⟨by decide, by decide⟩), trivial⟩, by rw [ht]; exact h.1, h.2.1, zFr.rf⟩, h.2.2.F ht⟩) h.2.2.2.2 dX8_isSign_109
          · by_cases c_11 : b = 45
            · refine lv_lookup (off := 107) (tgt := 108) hx hb dX8_isSign_1 (by decide) (by rw [c_11]; rfl) (by decide) ?_
              have bb_11 : zB 45 45 b := by rw [c_11]; exact zBc _ _ (by decide)
              refine lv_iconst (v := 1) hx hb dX8_isSign_108 (by decide) ?_
              subst hQ
              exact W.zret (v := 1) hx hb hr (by decide) (fun t ht hW => ⟨⟨1, F, rfl, ⟨rfl, (zB.of ⟨by decide, by decide⟩), trivial⟩, by rw [ht]; exact h.1, h.2.1, zFr.rf⟩, h.2.2.F ht⟩) h.2.2.2.2 dX8_isSign_109
            · by_cases c_13 : b = 59
              · refine lv_lookup (off := 107) (tgt := 108) hx hb dX8_isSign_1 (by decide) (by rw [c_13]; rfl) (by decide) ?_
                have bb_13 : zB 59 59 b := by rw [c_13]; exact zBc _ _ (by decide)
                refine lv_iconst (v := 1) hx hb dX8_isSign_108 (by decide) ?_
                subst hQ
                exact W.zret (v := 1) hx hb hr (by decide) (fun t ht hW => ⟨⟨1, F, rfl, ⟨rfl, (zB.of ⟨by decide, by decide⟩), trivial⟩, by rw [ht]; exact h.1, h.2.1, zFr.rf⟩, h.2.2.F ht⟩) h.2.2.2.2 dX8_isSign_109
              · by_cases c_15 : b = 60
                · refine lv_lookup (off := 107) (tgt := 108) hx hb dX8_isSign_1 (by decide) (by rw [c_15]; rfl) (by decide) ?_
                  have bb_15 : zB 60 60 b := by rw [c_15]; exact zBc _ _ (by decide)
                  refine lv_iconst (v := 1) hx hb dX8_isSign_108 (by decide) ?_
                  subst hQ
                  exact W.zret (v := 1) hx hb hr (by decide) (fun t ht hW => ⟨⟨1, F, rfl, ⟨rfl, (zB.of ⟨by decide, by decide⟩), trivial⟩, by rw [ht]; exact h.1, h.2.1, zFr.rf⟩, h.2.2.F ht⟩) h.2.2.2.2 dX8_isSign_109
                · by_cases c_17 : b = 61
                  · refine lv_lookup (off := 107) (tgt := 108) hx hb dX8_isSign_1 (by decide) (by rw [c_17]; rfl) (by decide) ?_
                    have bb_17 : zB 61 61 b := by rw [c_17]; exact zBc _ _ (by decide)
                    refine lv_iconst (v := 1) hx hb dX8_isSign_108 (by decide) ?_
                    subst hQ
                    exact W.zret (v := 1) hx hb hr (by decide) (fun t ht hW => ⟨⟨1, F, rfl, ⟨rfl, (zB.of ⟨by decide, by decide⟩), trivial⟩, by rw [ht]; exact h.1, h.2.1, zFr.rf⟩, h.2.2.F ht⟩) h.2.2.2.2 dX8_isSign_109
                  · by_cases c_19 : b = 62
                    · refine lv_lookup (off := 107) (tgt := 108) hx hb dX8_isSign_1 (by decide) (by rw [c_19]; rfl) (by decide) ?_
                      have bb_19 : zB 62 62 b := by rw [c_19]; exact zBc _ _ (by decide)
                      refine lv_iconst (v := 1) hx hb dX8_isSign_108 (by decide) ?_
                      subst hQ
                      exact W.zret (v := 1) hx hb hr (by decide) (fun t ht hW => ⟨⟨1, F, rfl, ⟨rfl, (zB.of ⟨by decide, by decide⟩), trivial⟩, by rw [ht]; exact h.1, h.2.1, zFr.rf⟩, h.2.2.F ht⟩) h.2.2.2.2 dX8_isSign_109
                    · by_cases c_21 : b = 123
                      · refine lv_lookup (off := 107) (tgt := 108) hx hb dX8_isSign_1 (by decide) (by rw [c_21]; rfl) (by decide) ?_
                        have bb_21 : zB 123 123 b := by rw [c_21]; exact zBc _ _ (by decide)
                        refine lv_iconst (v := 1) hx hb dX8_isSign_108 (by decide) ?_
                        subst hQ
                        exact W.zret (v := 1) hx hb hr (by decide) (fun t ht hW => ⟨⟨1, F, rfl, ⟨rfl, (zB.of ⟨by decide, by decide⟩), trivial⟩, by rw [ht]; exact h.1, h.2.1, zFr.rf⟩, h.2.2.F ht⟩) h.2.2.2.2 dX8_isSign_109
                      · by_cases c_23 : b = 125
                        · refine lv_lookup (off := 107) (tgt := 108) hx hb dX8_isSign_1 (by decide) (by rw [c_23]; rfl) (by decide) ?_
                          have bb_23 : zB 125 125 b := by rw [c_23]; exact zBc _ _ (by decide)
                          refine lv_iconst (v := 1) hx hb dX8_isSign_108 (by decide) ?_
                          subst hQ
                          exact W.zret (v := 1) hx hb hr (by decide) (fun t ht hW => ⟨⟨1, F, rfl, ⟨rfl, (zB.of ⟨by decide, by decide⟩), trivial⟩, by rw [ht]; exact h.1, h.2.1, zFr.rf⟩, h.2.2.F ht⟩) h.2.2.2.2 dX8_isSign_109
                        · have nc_1 : b.toInt ≠ 40 := z_nev c_1 (by decide)
                          have nc_3 : b.toInt ≠ 41 := z_nev c_3 (by decide)
                          have nc_5 : b.toInt ≠ 42 := z_nev c_5 (by decide)
                          have nc_7 : b.toInt ≠ 43 := z_nev c_7 (by decide)
                          have nc_9 : b.toInt ≠ 44 := z_nev c_9 (by decide)
                          have nc_11 : b.toInt ≠ 45 := z_nev c_11 (by decide)
                          have nc_13 : b.toInt ≠ 59 := z_nev c_13 (by decide)
                          have nc_15 : b.toInt ≠ 60 := z_nev c_15 (by decide)
                          have nc_17 : b.toInt ≠ 61 := z_nev c_17 (by decide)
                          have nc_19 : b.toInt ≠ 62 := z_nev c_19 (by decide)
                          have nc_21 : b.toInt ≠ 123 := z_nev c_21 (by decide)
                          have nc_23 : b.toInt ≠ 125 := z_nev c_23 (by decide)
                          refine lv_lookup (off := 109) (tgt := 110) hx hb dX8_isSign_1 (by decide) ((lv_osw (k := 40) c_1 (by decide)).trans ((lv_osw (k := 41) c_3 (by decide)).trans ((lv_osw (k := 42) c_5 (by decide)).trans ((lv_osw (k := 43) c_7 (by decide)).trans ((lv_osw (k := 44) c_9 (by decide)).trans ((lv_osw (k := 45) c_11 (by decide)).trans ((lv_osw (k := 59) c_13 (by decide)).trans ((lv_osw (k := 60) c_15 (by decide)).trans ((lv_osw (k := 61) c_17 (by decide)).trans ((lv_osw (k := 62) c_19 (by decide)).trans ((lv_osw (k := 123) c_21 (by decide)).trans ((lv_osw (k := 125) c_23 (by decide)).trans rfl)))))))))))) (by decide) ?_
                          refine lv_iconst (v := 0) hx hb dX8_isSign_110 (by decide) ?_
                          subst hQ
                          exact W.zret (v := 0) hx hb hr (by decide) (fun t ht hW => ⟨⟨0, F, rfl, ⟨rfl, (zB.of ⟨by decide, by decide⟩), trivial⟩, by rw [ht]; exact h.1, h.2.1, zFr.rf⟩, h.2.2.F ht⟩) h.2.2.2.2 dX8_isSign_111

set_option maxHeartbeats 4000000 in
set_option maxRecDepth 100000 in
theorem zc_X8_widthAt (l : Launch) (D : va_G) (k : Nat → ClassId) (Γ : Nat → Option Nat) (L : List Nat) (F : Nat → va_E) (sz : Nat) (th : Nat) (i : Int32) (hth : Γ th = some 8) (bi : zB 0 599 i) : Met l yX8_widthAt zwX8_widthAt ({ frames := 2, cells := 0, slots := 0, locals := 42 }) (va_Pc [.ref th, .int i] (zP D k Γ L F sz)) (va_Qi (fun (r : Int32) (u : Nat → va_E) => F = u ∧ zB 0 8 r ∧ True) (zQ D k Γ L F []) (zA L sz)) 0 0 (zA L sz) := by
  refine Met.ofW (cc := cX8_widthAt) (maxL := 3) (ret := (some .int)) (by decide) rfl ?_
  intro p e s m args below meth c s₁ B hml hv
  obtain ⟨rfl, hsz, hP, hK, hLn, hE, hI⟩ := hv
  have hx := B.exec
  have hb := B.bytes
  have hr := B.returns
  have hg : ∀ w ∈ zG, w.before _ s = true := fun w h9 => atoms_spec (ws := zwX8_widthAt) B.pre w (List.mem_cons_of_mem _ h9)
  have hown : s.vm.findClass RX8 = some m.cls := findClass_of_methodNamed B.named
  have hlocks := B.notSynchronized
  subst hsz
  have Z : zC p m c cX8_widthAt 3 s _ zG RX8 D k L := ⟨⟨hx, hb, hml, hown, hg⟩, hK, hLn, hE⟩
  have h : zH D k Γ L s F s.heap [] := ⟨hP, hI, va_S.rf⟩
  have hl := lv_entry ([.ref th, .int i]) (n := 3) (Nat.le_of_ble_eq_true rfl)
  rw [lg_entry_eq]
  generalize (lg_sl ([.ref th, .int i]) ++ List.replicate (3 - (lg_sl ([.ref th, .int i])).length) Slot.unset).toArray = ls at hl ⊢
  have hl : lv_has ls 3 [(0, .ref th), (1, .int i)] := hl
  clear hP hK hLn hE hI
  generalize hargs : ([.ref th, .int i] : List Value).toArray = args at *
  refine z_start (fun R Q hRf hRl hQ => ?_)
  have hRf : R.frames = 2 := hRf
  have hRl : R.locals = 42 := hRl
  refine lv_aload_n hx hb dX8_widthAt_0 rfl (lv_at hl 0 rfl) ?_
  refine lv_iload_n hx hb dX8_widthAt_1 rfl (lv_at hl 1 rfl) ?_
  refine zk_Vi (As := [.int i]) (rest := []) (bytes := cX8_isLetter) (maxL := 2) (ret := (some .boolean)) Z h (zc_X8_isLetter l D k Γ L F s.heap.size th i hth) (cwV 1 hg zv_RX8_68 rfl rfl rfl zd_X8_isLetter ⟨z_leR hRf (by decide), z_leR hRl (by decide)⟩) hth (by decide) rfl rfl hl.1 rfl (Nat.le_of_ble_eq_true rfl) dX8_widthAt_2 ⟨Nat.zero_le _, Nat.zero_le _⟩ (fun r_1 F_2 H locs w_3 h hfF_2 => ?_)
  obtain ⟨rfl, br_1, -⟩ := w_3
  refine lv_if_eq (tgt := 50) hx hb dX8_widthAt_5 (by decide) (fun c_4 => ?_) (fun c_4 => ?_)
  · have c_4 := z_eq c_4
    have br_1_5 : zB 0 0 r_1 := zB.eqL (a := 0) (b := 0) c_4 (zBc 0 0 (by decide))
    refine lv_aload_n hx hb dX8_widthAt_50 rfl (lv_at hl 0 rfl) ?_
    refine lv_iload_n hx hb dX8_widthAt_51 rfl (lv_at hl 1 rfl) ?_
    refine zk_Vi (As := [.int i]) (rest := []) (bytes := cX8_isDigit) (maxL := 2) (ret := (some .boolean)) Z h (zc_X8_isDigit l D k Γ L F H.size th i hth) (cwV 1 hg zv_RX8_71 rfl rfl rfl zd_X8_isDigit ⟨z_leR hRf (by decide), z_leR hRl (by decide)⟩) hth (by decide) rfl rfl hl.1 rfl (Nat.le_of_ble_eq_true rfl) dX8_widthAt_52 ⟨Nat.zero_le _, Nat.zero_le _⟩ (fun r_6 F_7 H locs w_8 h hfF_7 => ?_)
    obtain ⟨rfl, br_6, -⟩ := w_8
    refine lv_if_eq (tgt := 99) hx hb dX8_widthAt_55 (by decide) (fun c_9 => ?_) (fun c_9 => ?_)
    · have c_9 := z_eq c_9
      have br_6_10 : zB 0 0 r_6 := zB.eqL (a := 0) (b := 0) c_9 (zBc 0 0 (by decide))
      refine lv_aload_n hx hb dX8_widthAt_99 rfl (lv_at hl 0 rfl) ?_
      refine lv_iload_n hx hb dX8_widthAt_100 rfl (lv_at hl 1 rfl) ?_
      refine zk_Vi (As := [.int i]) (rest := []) (bytes := cX8_textAt) (maxL := 2) (ret := (some .int)) Z h (zc_X8_textAt l D k Γ L F H.size th i hth) (cwV 1 hg zv_RX8_62 rfl rfl rfl zd_X8_textAt ⟨z_leR hRf (by decide), z_leR hRl (by decide)⟩) hth (by decide) rfl rfl hl.1 rfl (Nat.le_of_ble_eq_true rfl) dX8_widthAt_101 ⟨Nat.zero_le _, Nat.zero_le _⟩ (fun r_11 F_12 H locs w_13 h hfF_12 => ?_)
      obtain ⟨rfl, br_11, -⟩ := w_13
      refine zk_Si (As := [.int r_11]) (rest := []) (bytes := cX8_isSign) (maxL := 1) (ret := (some .boolean)) Z h (zc_X8_isSign l D k Γ L F H.size r_11) (va_cwS 1 hg zv_RX8_74 rfl rfl rfl zd_X8_isSign ⟨z_leR hRf (by decide), z_leR hRl (by decide)⟩) rfl hl.1 rfl (Nat.le_of_ble_eq_true rfl) dX8_widthAt_104 ⟨Nat.zero_le _, Nat.zero_le _⟩ (fun r_14 F_15 H locs w_16 h hfF_15 => ?_)
      obtain ⟨rfl, br_14, -⟩ := w_16
      refine lv_if_eq (tgt := 114) hx hb dX8_widthAt_107 (by decide) (fun c_17 => ?_) (fun c_17 => ?_)
      · have c_17 := z_eq c_17
        have br_14_18 : zB 0 0 r_14 := zB.eqL (a := 0) (b := 0) c_17 (zBc 0 0 (by decide))
        refine lv_iconst (v := 0) hx hb dX8_widthAt_114 (by decide) ?_
        subst hQ
        exact W.iret (v := 0) hx hb hr (fun t ht hW => ⟨⟨0, F, rfl, ⟨rfl, (zB.of ⟨by decide, by decide⟩), trivial⟩, by rw [ht]; exact h.1, h.2.1, zFr.rf⟩, h.2.2.F ht⟩) h.2.2.2.2 dX8_widthAt_115
      · have c_17 := z_ne c_17
        have br_14_19 : zB 1 1 r_14 := zB.neLo c_17 br_14 (zBc 0 0 (by decide)) (by decide)
        refine lv_iconst (v := 1) hx hb dX8_widthAt_110 (by decide) ?_
        refine lv_goto (tgt := 115) hx hb dX8_widthAt_111 (by decide) ?_
        subst hQ
        exact W.iret (v := 1) hx hb hr (fun t ht hW => ⟨⟨1, F, rfl, ⟨rfl, (zB.of ⟨by decide, by decide⟩), trivial⟩, by rw [ht]; exact h.1, h.2.1, zFr.rf⟩, h.2.2.F ht⟩) h.2.2.2.2 dX8_widthAt_115
    · have c_9 := z_ne c_9
      have br_6_20 : zB 1 1 r_6 := zB.neLo c_9 br_6 (zBc 0 0 (by decide)) (by decide)
      refine lv_iload_n hx hb dX8_widthAt_58 rfl (lv_at hl 1 rfl) ?_
      refine lv_iconst (v := 1) hx hb dX8_widthAt_59 (by decide) ?_
      refine lv_iadd hx hb dX8_widthAt_60 ?_
      refine zi_add (lo := 1) (hi := 600) bi (zBc 1 1 (by decide)) (by decide) (fun x_21 bx_21 tx_21 => ?_)
      refine lv_istore_n (lv' := [(2, .int x_21), (0, .ref th), (1, .int i)]) hx hb dX8_widthAt_61 rfl hl (by decide) rfl (fun ls hl => ?_)
      have j_j62_22 : ∀ (n : Nat) (ls : Array Slot) (y2_j62_22 : Int32) (H : Heap) (locs : List Loc), lv_has ls 3 [(2, .int y2_j62_22), (0, .ref th), (1, .int i)] → zB 1 600 y2_j62_22 → zH D k Γ L s F H locs → (i.toInt + 1 ≤ y2_j62_22.toInt) → (2147483647 - y2_j62_22.toInt).toNat = n → W p l e R s m args below meth c H locs 0 0 Q (F0 m 62 ls []) := by
        intro n
        induction n using Nat.strongRecOn with
        | _ n ih_j62_22 =>
          intro ls y2_j62_22 H locs hl by2_j62_22 h r0_j62_22 hn_j62_22
          refine lv_iload_n hx hb dX8_widthAt_62 rfl (lv_at hl 0 rfl) ?_
          refine lv_aload_n hx hb dX8_widthAt_63 rfl (lv_at hl 1 rfl) ?_
          refine zt_geti (t := 8) (C := RX8) (T := TX8) (N := 6) Z h hth zin_8 rfl 1 rfl ⟨by decide, rfl⟩ (zm_RX8 (List.mem_of_getElem? (i := 20) rfl)) (fun _ h9 => h9) dX8_widthAt_64 (fun x_23 kx_23 bx_23 => ?_)
          refine lv_icmp_ge (tgt := 84) hx hb dX8_widthAt_67 (by decide) (fun c_24 => ?_) (fun c_24 => ?_)
          · have c_24 := z_le c_24
            refine lv_iload_n hx hb dX8_widthAt_84 rfl (lv_at hl 0 rfl) ?_
            refine lv_iload_n hx hb dX8_widthAt_85 rfl (lv_at hl 2 rfl) ?_
            refine lv_isub hx hb dX8_widthAt_86 ?_
            refine zi_sub (lo := (-598)) (hi := 600) by2_j62_22 bi (by decide) (fun x_25 bx_25 tx_25 => ?_)
            refine lv_iconst (v := 5) hx hb dX8_widthAt_87 (by decide) ?_
            refine lv_icmp_gt (tgt := 97) hx hb dX8_widthAt_88 (by decide) (fun c_26 => ?_) (fun c_26 => ?_)
            · have c_26 := z_lt c_26
              have bx_25_27 : zB 6 600 x_25 := zB.ltR c_26 (zBc 5 5 (by decide)) bx_25 (by decide)
              refine lv_iconst (v := 0) hx hb dX8_widthAt_97 (by decide) ?_
              subst hQ
              exact W.iret (v := 0) hx hb hr (fun t ht hW => ⟨⟨0, F, rfl, ⟨rfl, (zB.of ⟨by decide, by decide⟩), trivial⟩, by rw [ht]; exact h.1, h.2.1, zFr.rf⟩, h.2.2.F ht⟩) h.2.2.2.2 dX8_widthAt_98
            · have c_26 := z_nlt c_26
              have bx_25_28 : zB (-598) 5 x_25 := zB.leL c_26 bx_25 (zBc 5 5 (by decide)) (by decide)
              refine lv_iload_n hx hb dX8_widthAt_91 rfl (lv_at hl 0 rfl) ?_
              refine lv_iload_n hx hb dX8_widthAt_92 rfl (lv_at hl 2 rfl) ?_
              refine lv_isub hx hb dX8_widthAt_93 ?_
              refine zi_sub (lo := (-598)) (hi := 600) by2_j62_22 bi (by decide) (fun x_29 bx_29 tx_29 => ?_)
              have bx_29_30 : zB 1 8 x_29 := ⟨by have := by2_j62_22.1; have := by2_j62_22.2; have := bi.1; have := bi.2; have := bx_29.1; have := bx_29.2; have := bx_23.1; have := bx_23.2; have : (0 : Int32).toInt = 0 := (by decide); have : (1 : Int32).toInt = 1 := (by decide); have : (5 : Int32).toInt = 5 := (by decide); omega, by have := by2_j62_22.1; have := by2_j62_22.2; have := bi.1; have := bi.2; have := bx_29.1; have := bx_29.2; have := bx_23.1; have := bx_23.2; have : (0 : Int32).toInt = 0 := (by decide); have : (1 : Int32).toInt = 1 := (by decide); have : (5 : Int32).toInt = 5 := (by decide); omega⟩
              refine lv_goto (tgt := 98) hx hb dX8_widthAt_94 (by decide) ?_
              subst hQ
              exact W.iret (v := x_29) hx hb hr (fun t ht hW => ⟨⟨x_29, F, rfl, ⟨rfl, (bx_29_30.w ⟨by decide, by decide⟩), trivial⟩, by rw [ht]; exact h.1, h.2.1, zFr.rf⟩, h.2.2.F ht⟩) h.2.2.2.2 dX8_widthAt_98
          · have c_24 := z_nle c_24
            have by2_j62_22_31 : zB 1 599 y2_j62_22 := zB.ltL c_24 by2_j62_22 bx_23 (by decide)
            have bx_23_32 : zB 2 600 x_23 := zB.ltR c_24 by2_j62_22 bx_23 (by decide)
            refine lv_aload_n hx hb dX8_widthAt_70 rfl (lv_at hl 1 rfl) ?_
            refine lv_iload_n hx hb dX8_widthAt_71 rfl (lv_at hl 0 rfl) ?_
            refine zk_Vi (As := [.int y2_j62_22]) (rest := []) (bytes := cX8_isDigit) (maxL := 2) (ret := (some .boolean)) Z h (zc_X8_isDigit l D k Γ L F H.size th y2_j62_22 hth) (cwV 1 hg zv_RX8_71 rfl rfl rfl zd_X8_isDigit ⟨z_leR hRf (by decide), z_leR hRl (by decide)⟩) hth (by decide) rfl rfl hl.1 rfl (Nat.le_of_ble_eq_true rfl) dX8_widthAt_72 ⟨Nat.zero_le _, Nat.zero_le _⟩ (fun r_33 F_34 H locs w_35 h hfF_34 => ?_)
            obtain ⟨rfl, br_33, -⟩ := w_35
            refine lv_if_eq (tgt := 84) hx hb dX8_widthAt_75 (by decide) (fun c_36 => ?_) (fun c_36 => ?_)
            · have c_36 := z_eq c_36
              have br_33_37 : zB 0 0 r_33 := zB.eqL (a := 0) (b := 0) c_36 (zBc 0 0 (by decide))
              refine lv_iload_n hx hb dX8_widthAt_84 rfl (lv_at hl 0 rfl) ?_
              refine lv_iload_n hx hb dX8_widthAt_85 rfl (lv_at hl 2 rfl) ?_
              refine lv_isub hx hb dX8_widthAt_86 ?_
              refine zi_sub (lo := (-598)) (hi := 599) by2_j62_22_31 bi (by decide) (fun x_38 bx_38 tx_38 => ?_)
              refine lv_iconst (v := 5) hx hb dX8_widthAt_87 (by decide) ?_
              refine lv_icmp_gt (tgt := 97) hx hb dX8_widthAt_88 (by decide) (fun c_39 => ?_) (fun c_39 => ?_)
              · have c_39 := z_lt c_39
                have bx_38_40 : zB 6 599 x_38 := zB.ltR c_39 (zBc 5 5 (by decide)) bx_38 (by decide)
                refine lv_iconst (v := 0) hx hb dX8_widthAt_97 (by decide) ?_
                subst hQ
                exact W.iret (v := 0) hx hb hr (fun t ht hW => ⟨⟨0, F, rfl, ⟨rfl, (zB.of ⟨by decide, by decide⟩), trivial⟩, by rw [ht]; exact h.1, h.2.1, zFr.rf⟩, h.2.2.F ht⟩) h.2.2.2.2 dX8_widthAt_98
              · have c_39 := z_nlt c_39
                have bx_38_41 : zB (-598) 5 x_38 := zB.leL c_39 bx_38 (zBc 5 5 (by decide)) (by decide)
                refine lv_iload_n hx hb dX8_widthAt_91 rfl (lv_at hl 0 rfl) ?_
                refine lv_iload_n hx hb dX8_widthAt_92 rfl (lv_at hl 2 rfl) ?_
                refine lv_isub hx hb dX8_widthAt_93 ?_
                refine zi_sub (lo := (-598)) (hi := 599) by2_j62_22_31 bi (by decide) (fun x_42 bx_42 tx_42 => ?_)
                have bx_42_43 : zB 1 8 x_42 := ⟨by have := by2_j62_22_31.1; have := by2_j62_22_31.2; have := bi.1; have := bi.2; have := bx_42.1; have := bx_42.2; have := bx_23_32.1; have := bx_23_32.2; have : (0 : Int32).toInt = 0 := (by decide); have : (1 : Int32).toInt = 1 := (by decide); have : (5 : Int32).toInt = 5 := (by decide); omega, by have := by2_j62_22_31.1; have := by2_j62_22_31.2; have := bi.1; have := bi.2; have := bx_42.1; have := bx_42.2; have := bx_23_32.1; have := bx_23_32.2; have : (0 : Int32).toInt = 0 := (by decide); have : (1 : Int32).toInt = 1 := (by decide); have : (5 : Int32).toInt = 5 := (by decide); omega⟩
                refine lv_goto (tgt := 98) hx hb dX8_widthAt_94 (by decide) ?_
                subst hQ
                exact W.iret (v := x_42) hx hb hr (fun t ht hW => ⟨⟨x_42, F, rfl, ⟨rfl, (bx_42_43.w ⟨by decide, by decide⟩), trivial⟩, by rw [ht]; exact h.1, h.2.1, zFr.rf⟩, h.2.2.F ht⟩) h.2.2.2.2 dX8_widthAt_98
            · have c_36 := z_ne c_36
              have br_33_44 : zB 1 1 r_33 := zB.neLo c_36 br_33 (zBc 0 0 (by decide)) (by decide)
              obtain ⟨x_45, ex_45, bx_45, tx_45⟩ := z_inc (n := 1) (lo := 2) (hi := 600) by2_j62_22_31 (by decide)
              refine lv_iinc (v := x_45) (lv' := [(2, .int x_45), (0, .ref th), (1, .int i)]) hx hb dX8_widthAt_78 hl (k := 0) rfl ex_45 (by decide) rfl (fun ls hl => ?_)
              refine lv_goto (tgt := 62) hx hb dX8_widthAt_81 (by decide) ?_
              exact ih_j62_22 _ (by have := bx_45.1; have := bx_45.2; have := bi.1; have := bi.2; have := bx_23_32.1; have := bx_23_32.2; have : (0 : Int32).toInt = 0 := (by decide); have : (1 : Int32).toInt = 1 := (by decide); have := by2_j62_22.1; have := by2_j62_22.2; omega) ls x_45 H locs (lv_sub hl [0, 1, 2] rfl) (bx_45.w ⟨by decide, by decide⟩) h (by have := bx_45.1; have := bx_45.2; have := bi.1; have := bi.2; have := bx_23_32.1; have := bx_23_32.2; have : (0 : Int32).toInt = 0 := (by decide); have : (1 : Int32).toInt = 1 := (by decide); omega) rfl
      exact j_j62_22 _ ls x_21 H locs (lv_sub hl [0, 1, 2] rfl) bx_21 h (by have := bx_21.1; have := bx_21.2; have := bi.1; have := bi.2; have : (0 : Int32).toInt = 0 := (by decide); have : (1 : Int32).toInt = 1 := (by decide); omega) rfl
  · have c_4 := z_ne c_4
    have br_1_46 : zB 1 1 r_1 := zB.neLo c_4 br_1 (zBc 0 0 (by decide)) (by decide)
    refine lv_iload_n hx hb dX8_widthAt_8 rfl (lv_at hl 1 rfl) ?_
    refine lv_iconst (v := 1) hx hb dX8_widthAt_9 (by decide) ?_
    refine lv_iadd hx hb dX8_widthAt_10 ?_
    refine zi_add (lo := 1) (hi := 600) bi (zBc 1 1 (by decide)) (by decide) (fun x_47 bx_47 tx_47 => ?_)
    refine lv_istore_n (lv' := [(2, .int x_47), (0, .ref th), (1, .int i)]) hx hb dX8_widthAt_11 rfl hl (by decide) rfl (fun ls hl => ?_)
    have j_j12_48 : ∀ (n : Nat) (ls : Array Slot) (y2_j12_48 : Int32) (H : Heap) (locs : List Loc), lv_has ls 3 [(2, .int y2_j12_48), (0, .ref th), (1, .int i)] → zB 1 600 y2_j12_48 → zH D k Γ L s F H locs → (i.toInt + 1 ≤ y2_j12_48.toInt) → (2147483647 - y2_j12_48.toInt).toNat = n → W p l e R s m args below meth c H locs 0 0 Q (F0 m 12 ls []) := by
      intro n
      induction n using Nat.strongRecOn with
      | _ n ih_j12_48 =>
        intro ls y2_j12_48 H locs hl by2_j12_48 h r0_j12_48 hn_j12_48
        refine lv_iload_n hx hb dX8_widthAt_12 rfl (lv_at hl 0 rfl) ?_
        refine lv_aload_n hx hb dX8_widthAt_13 rfl (lv_at hl 1 rfl) ?_
        refine zt_geti (t := 8) (C := RX8) (T := TX8) (N := 6) Z h hth zin_8 rfl 1 rfl ⟨by decide, rfl⟩ (zm_RX8 (List.mem_of_getElem? (i := 20) rfl)) (fun _ h9 => h9) dX8_widthAt_14 (fun x_49 kx_49 bx_49 => ?_)
        refine lv_icmp_ge (tgt := 34) hx hb dX8_widthAt_17 (by decide) (fun c_50 => ?_) (fun c_50 => ?_)
        · have c_50 := z_le c_50
          refine lv_iload_n hx hb dX8_widthAt_34 rfl (lv_at hl 0 rfl) ?_
          refine lv_iload_n hx hb dX8_widthAt_35 rfl (lv_at hl 2 rfl) ?_
          refine lv_isub hx hb dX8_widthAt_36 ?_
          refine zi_sub (lo := (-598)) (hi := 600) by2_j12_48 bi (by decide) (fun x_51 bx_51 tx_51 => ?_)
          refine lv_bipush (v := 8) hx hb dX8_widthAt_37 (by decide) ?_
          refine lv_icmp_gt (tgt := 48) hx hb dX8_widthAt_39 (by decide) (fun c_52 => ?_) (fun c_52 => ?_)
          · have c_52 := z_lt c_52
            have bx_51_53 : zB 9 600 x_51 := zB.ltR c_52 (zBc 8 8 (by decide)) bx_51 (by decide)
            refine lv_iconst (v := 0) hx hb dX8_widthAt_48 (by decide) ?_
            subst hQ
            exact W.iret (v := 0) hx hb hr (fun t ht hW => ⟨⟨0, F, rfl, ⟨rfl, (zB.of ⟨by decide, by decide⟩), trivial⟩, by rw [ht]; exact h.1, h.2.1, zFr.rf⟩, h.2.2.F ht⟩) h.2.2.2.2 dX8_widthAt_49
          · have c_52 := z_nlt c_52
            have bx_51_54 : zB (-598) 8 x_51 := zB.leL c_52 bx_51 (zBc 8 8 (by decide)) (by decide)
            refine lv_iload_n hx hb dX8_widthAt_42 rfl (lv_at hl 0 rfl) ?_
            refine lv_iload_n hx hb dX8_widthAt_43 rfl (lv_at hl 2 rfl) ?_
            refine lv_isub hx hb dX8_widthAt_44 ?_
            refine zi_sub (lo := (-598)) (hi := 600) by2_j12_48 bi (by decide) (fun x_55 bx_55 tx_55 => ?_)
            have bx_55_56 : zB 1 8 x_55 := ⟨by have := by2_j12_48.1; have := by2_j12_48.2; have := bi.1; have := bi.2; have := bx_55.1; have := bx_55.2; have := bx_49.1; have := bx_49.2; have : (0 : Int32).toInt = 0 := (by decide); have : (1 : Int32).toInt = 1 := (by decide); have : (8 : Int32).toInt = 8 := (by decide); omega, by have := by2_j12_48.1; have := by2_j12_48.2; have := bi.1; have := bi.2; have := bx_55.1; have := bx_55.2; have := bx_49.1; have := bx_49.2; have : (0 : Int32).toInt = 0 := (by decide); have : (1 : Int32).toInt = 1 := (by decide); have : (8 : Int32).toInt = 8 := (by decide); omega⟩
            refine lv_goto (tgt := 49) hx hb dX8_widthAt_45 (by decide) ?_
            subst hQ
            exact W.iret (v := x_55) hx hb hr (fun t ht hW => ⟨⟨x_55, F, rfl, ⟨rfl, (bx_55_56.w ⟨by decide, by decide⟩), trivial⟩, by rw [ht]; exact h.1, h.2.1, zFr.rf⟩, h.2.2.F ht⟩) h.2.2.2.2 dX8_widthAt_49
        · have c_50 := z_nle c_50
          have by2_j12_48_57 : zB 1 599 y2_j12_48 := zB.ltL c_50 by2_j12_48 bx_49 (by decide)
          have bx_49_58 : zB 2 600 x_49 := zB.ltR c_50 by2_j12_48 bx_49 (by decide)
          refine lv_aload_n hx hb dX8_widthAt_20 rfl (lv_at hl 1 rfl) ?_
          refine lv_iload_n hx hb dX8_widthAt_21 rfl (lv_at hl 0 rfl) ?_
          refine zk_Vi (As := [.int y2_j12_48]) (rest := []) (bytes := cX8_isLetter) (maxL := 2) (ret := (some .boolean)) Z h (zc_X8_isLetter l D k Γ L F H.size th y2_j12_48 hth) (cwV 1 hg zv_RX8_68 rfl rfl rfl zd_X8_isLetter ⟨z_leR hRf (by decide), z_leR hRl (by decide)⟩) hth (by decide) rfl rfl hl.1 rfl (Nat.le_of_ble_eq_true rfl) dX8_widthAt_22 ⟨Nat.zero_le _, Nat.zero_le _⟩ (fun r_59 F_60 H locs w_61 h hfF_60 => ?_)
          obtain ⟨rfl, br_59, -⟩ := w_61
          refine lv_if_eq (tgt := 34) hx hb dX8_widthAt_25 (by decide) (fun c_62 => ?_) (fun c_62 => ?_)
          · have c_62 := z_eq c_62
            have br_59_63 : zB 0 0 r_59 := zB.eqL (a := 0) (b := 0) c_62 (zBc 0 0 (by decide))
            refine lv_iload_n hx hb dX8_widthAt_34 rfl (lv_at hl 0 rfl) ?_
            refine lv_iload_n hx hb dX8_widthAt_35 rfl (lv_at hl 2 rfl) ?_
            refine lv_isub hx hb dX8_widthAt_36 ?_
            refine zi_sub (lo := (-598)) (hi := 599) by2_j12_48_57 bi (by decide) (fun x_64 bx_64 tx_64 => ?_)
            refine lv_bipush (v := 8) hx hb dX8_widthAt_37 (by decide) ?_
            refine lv_icmp_gt (tgt := 48) hx hb dX8_widthAt_39 (by decide) (fun c_65 => ?_) (fun c_65 => ?_)
            · have c_65 := z_lt c_65
              have bx_64_66 : zB 9 599 x_64 := zB.ltR c_65 (zBc 8 8 (by decide)) bx_64 (by decide)
              refine lv_iconst (v := 0) hx hb dX8_widthAt_48 (by decide) ?_
              subst hQ
              exact W.iret (v := 0) hx hb hr (fun t ht hW => ⟨⟨0, F, rfl, ⟨rfl, (zB.of ⟨by decide, by decide⟩), trivial⟩, by rw [ht]; exact h.1, h.2.1, zFr.rf⟩, h.2.2.F ht⟩) h.2.2.2.2 dX8_widthAt_49
            · have c_65 := z_nlt c_65
              have bx_64_67 : zB (-598) 8 x_64 := zB.leL c_65 bx_64 (zBc 8 8 (by decide)) (by decide)
              refine lv_iload_n hx hb dX8_widthAt_42 rfl (lv_at hl 0 rfl) ?_
              refine lv_iload_n hx hb dX8_widthAt_43 rfl (lv_at hl 2 rfl) ?_
              refine lv_isub hx hb dX8_widthAt_44 ?_
              refine zi_sub (lo := (-598)) (hi := 599) by2_j12_48_57 bi (by decide) (fun x_68 bx_68 tx_68 => ?_)
              have bx_68_69 : zB 1 8 x_68 := ⟨by have := by2_j12_48_57.1; have := by2_j12_48_57.2; have := bi.1; have := bi.2; have := bx_68.1; have := bx_68.2; have := bx_49_58.1; have := bx_49_58.2; have : (0 : Int32).toInt = 0 := (by decide); have : (1 : Int32).toInt = 1 := (by decide); have : (8 : Int32).toInt = 8 := (by decide); omega, by have := by2_j12_48_57.1; have := by2_j12_48_57.2; have := bi.1; have := bi.2; have := bx_68.1; have := bx_68.2; have := bx_49_58.1; have := bx_49_58.2; have : (0 : Int32).toInt = 0 := (by decide); have : (1 : Int32).toInt = 1 := (by decide); have : (8 : Int32).toInt = 8 := (by decide); omega⟩
              refine lv_goto (tgt := 49) hx hb dX8_widthAt_45 (by decide) ?_
              subst hQ
              exact W.iret (v := x_68) hx hb hr (fun t ht hW => ⟨⟨x_68, F, rfl, ⟨rfl, (bx_68_69.w ⟨by decide, by decide⟩), trivial⟩, by rw [ht]; exact h.1, h.2.1, zFr.rf⟩, h.2.2.F ht⟩) h.2.2.2.2 dX8_widthAt_49
          · have c_62 := z_ne c_62
            have br_59_70 : zB 1 1 r_59 := zB.neLo c_62 br_59 (zBc 0 0 (by decide)) (by decide)
            obtain ⟨x_71, ex_71, bx_71, tx_71⟩ := z_inc (n := 1) (lo := 2) (hi := 600) by2_j12_48_57 (by decide)
            refine lv_iinc (v := x_71) (lv' := [(2, .int x_71), (0, .ref th), (1, .int i)]) hx hb dX8_widthAt_28 hl (k := 0) rfl ex_71 (by decide) rfl (fun ls hl => ?_)
            refine lv_goto (tgt := 12) hx hb dX8_widthAt_31 (by decide) ?_
            exact ih_j12_48 _ (by have := bx_71.1; have := bx_71.2; have := bi.1; have := bi.2; have := bx_49_58.1; have := bx_49_58.2; have : (0 : Int32).toInt = 0 := (by decide); have : (1 : Int32).toInt = 1 := (by decide); have := by2_j12_48.1; have := by2_j12_48.2; omega) ls x_71 H locs (lv_sub hl [0, 1, 2] rfl) (bx_71.w ⟨by decide, by decide⟩) h (by have := bx_71.1; have := bx_71.2; have := bi.1; have := bi.2; have := bx_49_58.1; have := bx_49_58.2; have : (0 : Int32).toInt = 0 := (by decide); have : (1 : Int32).toInt = 1 := (by decide); omega) rfl
    exact j_j12_48 _ ls x_47 H locs (lv_sub hl [0, 1, 2] rfl) bx_47 h (by have := bx_47.1; have := bx_47.2; have := bi.1; have := bi.2; have : (0 : Int32).toInt = 0 := (by decide); have : (1 : Int32).toInt = 1 := (by decide); omega) rfl
