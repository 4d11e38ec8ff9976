set_option maxHeartbeats 4000000 in
set_option maxRecDepth 100000 in
theorem zc_X1_clear (l : Launch) (D : va_G) (k : Nat → ClassId) (Γ : Nat → Option Nat) (L : List Nat) (F : Nat → va_E) (sz : Nat) (th : Nat) (hth : Γ th = some 1) : Met l yX1_clear zwX1_clear ({ frames := 0, cells := 0, slots := 0, locals := 0 }) (va_Pc [.ref th] (zP D k Γ L F sz)) (va_Qv (fun (u : Nat → va_E) => True) (zQ D k Γ L F [103]) (zA L sz)) 0 0 (zA L sz) := by
  refine Met.ofW (cc := cX1_clear) (maxL := 1) (ret := none) (by decide) rfl ?_
  intro p e s m args below meth c s₁ B hml hv
  obtain ⟨rfl, hsz, hP, hK, hLn, hE, hI⟩ := hv
  have hx := B.exec
  have hb := B.bytes
  have hr := B.returns
  have hg : ∀ w ∈ zG, w.before _ s = true := fun w h9 => atoms_spec (ws := zwX1_clear) B.pre w (List.mem_cons_of_mem _ h9)
  have hown : s.vm.findClass RX1 = some m.cls := findClass_of_methodNamed B.named
  have hlocks := B.notSynchronized
  subst hsz
  have Z : zC p m c cX1_clear 1 s _ zG RX1 D k L := ⟨⟨hx, hb, hml, hown, hg⟩, hK, hLn, hE⟩
  have h : zH D k Γ L s F s.heap [] := ⟨hP, hI, va_S.rf⟩
  have hl := lv_entry ([.ref th]) (n := 1) (Nat.le_of_ble_eq_true rfl)
  rw [lg_entry_eq]
  generalize (lg_sl ([.ref th]) ++ List.replicate (1 - (lg_sl ([.ref th])).length) Slot.unset).toArray = ls at hl ⊢
  have hl : lv_has ls 1 [(0, .ref th)] := hl
  clear hP hK hLn hE hI
  generalize hargs : ([.ref th] : List Value).toArray = args at *
  refine z_start (fun R Q hRf hRl hQ => ?_)
  have hRf : R.frames = 0 := hRf
  have hRl : R.locals = 0 := hRl
  refine lv_aload_n hx hb dX1_clear_0 rfl (lv_at hl 0 rfl) ?_
  refine lv_iconst (v := 0) hx hb dX1_clear_1 (by decide) ?_
  refine zt_put (t := 1) (C := RX1) (T := TX1) (N := 4) (v := .int 0) Z h hth zin_1 tyX1 tyX1_ok nmX1 rfl 3 rfl ⟨by decide, rfl⟩ (zm_RX1 (List.mem_of_getElem? (i := 2) rfl)) (fun _ h9 => h9) rfl (zV.i (zB.of ⟨by decide, by decide⟩)) rfl rfl dX1_clear_2 (fun H locs F_1 h hfF_1 kF_1 => ?_)
  subst hQ
  exact W.vret hx hb hr (fun t ht hW => ⟨⟨F_1, rfl, trivial, by rw [ht]; exact h.1, h.2.1, hfF_1⟩, h.2.2.F ht⟩) h.2.2.2.2 dX1_clear_5

set_option maxHeartbeats 4000000 in
set_option maxRecDepth 100000 in
theorem zc_X1_has (l : Launch) (D : va_G) (k : Nat → ClassId) (Γ : Nat → Option Nat) (L : List Nat) (F : Nat → va_E) (sz : Nat) (th : Nat) (i : Int32) (hth : Γ th = some 1) : Met l yX1_has zwX1_has ({ frames := 0, cells := 0, slots := 0, locals := 0 }) (va_Pc [.ref th, .int i] (zP D k Γ L F sz)) (va_Qi (fun (r : Int32) (u : Nat → va_E) => F = u ∧ zB 0 1 r ∧ (r ≠ 0 → zB 0 1199 i) ∧ True) (zQ D k Γ L F []) (zA L sz)) 0 0 (zA L sz) := by
  refine Met.ofW (cc := cX1_has) (maxL := 2) (ret := (some .boolean)) (by decide) rfl ?_
  intro p e s m args below meth c s₁ B hml hv
  obtain ⟨rfl, hsz, hP, hK, hLn, hE, hI⟩ := hv
  have hx := B.exec
  have hb := B.bytes
  have hr := B.returns
  have hg : ∀ w ∈ zG, w.before _ s = true := fun w h9 => atoms_spec (ws := zwX1_has) B.pre w (List.mem_cons_of_mem _ h9)
  have hown : s.vm.findClass RX1 = some m.cls := findClass_of_methodNamed B.named
  have hlocks := B.notSynchronized
  subst hsz
  have Z : zC p m c cX1_has 2 s _ zG RX1 D k L := ⟨⟨hx, hb, hml, hown, hg⟩, hK, hLn, hE⟩
  have h : zH D k Γ L s F s.heap [] := ⟨hP, hI, va_S.rf⟩
  have hl := lv_entry ([.ref th, .int i]) (n := 2) (Nat.le_of_ble_eq_true rfl)
  rw [lg_entry_eq]
  generalize (lg_sl ([.ref th, .int i]) ++ List.replicate (2 - (lg_sl ([.ref th, .int i])).length) Slot.unset).toArray = ls at hl ⊢
  have hl : lv_has ls 2 [(0, .ref th), (1, .int i)] := hl
  clear hP hK hLn hE hI
  generalize hargs : ([.ref th, .int i] : List Value).toArray = args at *
  refine z_start (fun R Q hRf hRl hQ => ?_)
  have hRf : R.frames = 0 := hRf
  have hRl : R.locals = 0 := hRl
  refine lv_iload_n hx hb dX1_has_0 rfl (lv_at hl 1 rfl) ?_
  refine lv_if_lt (tgt := 25) hx hb dX1_has_1 (by decide) (fun c_1 => ?_) (fun c_1 => ?_)
  · have c_1 := z_lt c_1
    have bi_2 : zB (-2147483648) (-1) i := zB.ltL c_1 (zB.all i) (zBc 0 0 (by decide)) (by decide)
    refine lv_iconst (v := 0) hx hb dX1_has_25 (by decide) ?_
    subst hQ
    exact W.zret (v := 0) hx hb hr (by decide) (fun t ht hW => ⟨⟨0, F, rfl, ⟨rfl, (zB.of ⟨by decide, by decide⟩), (fun h9 => absurd rfl h9), trivial⟩, by rw [ht]; exact h.1, h.2.1, zFr.rf⟩, h.2.2.F ht⟩) h.2.2.2.2 dX1_has_26
  · have c_1 := z_nlt c_1
    have bi_3 : zB 0 2147483647 i := zB.leR c_1 (zBc 0 0 (by decide)) (zB.all i) (by decide)
    refine lv_iload_n hx hb dX1_has_4 rfl (lv_at hl 1 rfl) ?_
    refine lv_aload_n hx hb dX1_has_5 rfl (lv_at hl 0 rfl) ?_
    refine zt_geti (t := 1) (C := RX1) (T := TX1) (N := 4) Z h hth zin_1 rfl 3 rfl ⟨by decide, rfl⟩ (zm_RX1 (List.mem_of_getElem? (i := 2) rfl)) (fun _ h9 => h9) dX1_has_6 (fun x_4 kx_4 bx_4 => ?_)
    refine lv_icmp_ge (tgt := 25) hx hb dX1_has_9 (by decide) (fun c_5 => ?_) (fun c_5 => ?_)
    · have c_5 := z_le c_5
      refine lv_iconst (v := 0) hx hb dX1_has_25 (by decide) ?_
      subst hQ
      exact W.zret (v := 0) hx hb hr (by decide) (fun t ht hW => ⟨⟨0, F, rfl, ⟨rfl, (zB.of ⟨by decide, by decide⟩), (fun h9 => absurd rfl h9), trivial⟩, by rw [ht]; exact h.1, h.2.1, zFr.rf⟩, h.2.2.F ht⟩) h.2.2.2.2 dX1_has_26
    · have c_5 := z_nle c_5
      have bi_6 : zB 0 1199 i := zB.ltL c_5 bi_3 bx_4 (by decide)
      have bx_4_7 : zB 1 1200 x_4 := zB.ltR c_5 bi_3 bx_4 (by decide)
      refine lv_iload_n hx hb dX1_has_12 rfl (lv_at hl 1 rfl) ?_
      refine lv_aload_n hx hb dX1_has_13 rfl (lv_at hl 0 rfl) ?_
      refine zt_getr (t := 1) (C := RX1) (T := TX1) (N := 4) Z h hth zin_1 rfl 0 rfl ⟨by decide, rfl⟩ (zm_RX1 (List.mem_of_getElem? (i := 4) rfl)) (fun _ h9 => h9) dX1_has_14 (fun a_8 ka_8 ha_8 => ?_)
      refine zt_alen (t := 102) Z h ha_8 ⟨by decide, rfl⟩ (by decide) (v := 1200) rfl dX1_has_17 ?_
      refine lv_icmp_ge (tgt := 25) hx hb dX1_has_18 (by decide) (fun c_9 => ?_) (fun c_9 => ?_)
      · have c_9 := z_le c_9
        exact zB.noLe c_9 (zBc 1200 1200 (by decide)) bi_6 (by decide)
      · have c_9 := z_nle c_9
        refine lv_iconst (v := 1) hx hb dX1_has_21 (by decide) ?_
        refine lv_goto (tgt := 26) hx hb dX1_has_22 (by decide) ?_
        subst hQ
        exact W.zret (v := 1) hx hb hr (by decide) (fun t ht hW => ⟨⟨1, F, rfl, ⟨rfl, (zB.of ⟨by decide, by decide⟩), (fun _ => bi_6), trivial⟩, by rw [ht]; exact h.1, h.2.1, zFr.rf⟩, h.2.2.F ht⟩) h.2.2.2.2 dX1_has_26

set_option maxHeartbeats 4000000 in
set_option maxRecDepth 100000 in
theorem zc_X1_add (l : Launch) (D : va_G) (k : Nat → ClassId) (Γ : Nat → Option Nat) (L : List Nat) (F : Nat → va_E) (sz : Nat) (th : Nat) (ac : Int32) (nu : Int32) (li : Int32) (hth : Γ th = some 1) : Met l yX1_add zwX1_add ({ frames := 0, cells := 0, slots := 0, locals := 0 }) (va_Pc [.ref th, .int ac, .int nu, .int li] (zP D k Γ L F sz)) (va_Qi (fun (r : Int32) (u : Nat → va_E) => zB (-1) 1199 r ∧ True) (zQ D k Γ L F [103, 10200, 15800, 15900]) (zA L sz)) 0 0 (zA L sz) := by
  refine Met.ofW (cc := cX1_add) (maxL := 4) (ret := (some .int)) (by decide) rfl ?_
  intro p e s m args below meth c s₁ B hml hv
  obtain ⟨rfl, hsz, hP, hK, hLn, hE, hI⟩ := hv
  have hx := B.exec
  have hb := B.bytes
  have hr := B.returns
  have hg : ∀ w ∈ zG, w.before _ s = true := fun w h9 => atoms_spec (ws := zwX1_add) B.pre w (List.mem_cons_of_mem _ h9)
  have hown : s.vm.findClass RX1 = some m.cls := findClass_of_methodNamed B.named
  have hlocks := B.notSynchronized
  subst hsz
  have Z : zC p m c cX1_add 4 s _ zG RX1 D k L := ⟨⟨hx, hb, hml, hown, hg⟩, hK, hLn, hE⟩
  have h : zH D k Γ L s F s.heap [] := ⟨hP, hI, va_S.rf⟩
  have hl := lv_entry ([.ref th, .int ac, .int nu, .int li]) (n := 4) (Nat.le_of_ble_eq_true rfl)
  rw [lg_entry_eq]
  generalize (lg_sl ([.ref th, .int ac, .int nu, .int li]) ++ List.replicate (4 - (lg_sl ([.ref th, .int ac, .int nu, .int li])).length) Slot.unset).toArray = ls at hl ⊢
  have hl : lv_has ls 4 [(0, .ref th), (1, .int ac), (2, .int nu), (3, .int li)] := hl
  clear hP hK hLn hE hI
  generalize hargs : ([.ref th, .int ac, .int nu, .int li] : List Value).toArray = args at *
  refine z_start (fun R Q hRf hRl hQ => ?_)
  have hRf : R.frames = 0 := hRf
  have hRl : R.locals = 0 := hRl
  refine lv_aload_n hx hb dX1_add_0 rfl (lv_at hl 0 rfl) ?_
  refine zt_geti (t := 1) (C := RX1) (T := TX1) (N := 4) Z h hth zin_1 rfl 3 rfl ⟨by decide, rfl⟩ (zm_RX1 (List.mem_of_getElem? (i := 2) rfl)) (fun _ h9 => h9) dX1_add_1 (fun x_1 kx_1 bx_1 => ?_)
  refine lv_aload_n hx hb dX1_add_4 rfl (lv_at hl 0 rfl) ?_
  refine zt_getr (t := 1) (C := RX1) (T := TX1) (N := 4) Z h hth zin_1 rfl 0 rfl ⟨by decide, rfl⟩ (zm_RX1 (List.mem_of_getElem? (i := 4) rfl)) (fun _ h9 => h9) dX1_add_5 (fun a_2 ka_2 ha_2 => ?_)
  refine zt_alen (t := 102) Z h ha_2 ⟨by decide, rfl⟩ (by decide) (v := 1200) rfl dX1_add_8 ?_
  refine lv_icmp_lt (tgt := 14) hx hb dX1_add_9 (by decide) (fun c_3 => ?_) (fun c_3 => ?_)
  · have c_3 := z_lt c_3
    have bx_1_4 : zB 0 1199 x_1 := zB.ltL c_3 bx_1 (zBc 1200 1200 (by decide)) (by decide)
    refine lv_aload_n hx hb dX1_add_14 rfl (lv_at hl 0 rfl) ?_
    refine zt_getk (t := 1) (C := RX1) (T := TX1) (N := 4) Z h hth zin_1 rfl 0 ka_2 ⟨by decide, rfl, by decide⟩ (zm_RX1 (List.mem_of_getElem? (i := 4) rfl)) (fun _ h9 => h9) dX1_add_15 ?_
    refine lv_aload_n hx hb dX1_add_18 rfl (lv_at hl 0 rfl) ?_
    refine zt_getk (t := 1) (C := RX1) (T := TX1) (N := 4) Z h hth zin_1 rfl 3 kx_1 ⟨by decide, rfl, by decide⟩ (zm_RX1 (List.mem_of_getElem? (i := 2) rfl)) (fun _ h9 => h9) dX1_add_19 ?_
    refine lv_iload_n hx hb dX1_add_22 rfl (lv_at hl 1 rfl) ?_
    refine zt_iast (t := 102) Z h ha_2 ⟨by decide, rfl⟩ bx_1_4 ⟨by decide, by decide⟩ (zB.all ac) dX1_add_23 (fun H locs F_5 h hfF_5 => ?_)
    refine lv_aload_n hx hb dX1_add_24 rfl (lv_at hl 0 rfl) ?_
    refine zt_getr (t := 1) (C := RX1) (T := TX1) (N := 4) Z h hth zin_1 rfl 1 rfl ⟨by decide, rfl⟩ (zm_RX1 (List.mem_of_getElem? (i := 5) rfl)) (fun _ h9 => h9) dX1_add_25 (fun a_6 ka_6 ha_6 => ?_)
    refine lv_aload_n hx hb dX1_add_28 rfl (lv_at hl 0 rfl) ?_
    refine zt_getk (t := 1) (C := RX1) (T := TX1) (N := 4) Z h hth zin_1 rfl 3 (hfF_5.f hth 3 ⟨by decide, by decide⟩ kx_1) ⟨by decide, rfl, by decide⟩ (zm_RX1 (List.mem_of_getElem? (i := 2) rfl)) (fun _ h9 => h9) dX1_add_29 ?_
    refine lv_iload_n hx hb dX1_add_32 rfl (lv_at hl 2 rfl) ?_
    refine zt_iast (t := 158) Z h ha_6 ⟨by decide, rfl⟩ bx_1_4 ⟨by decide, by decide⟩ (zB.all nu) dX1_add_33 (fun H locs F_7 h hfF_7 => ?_)
    refine lv_aload_n hx hb dX1_add_34 rfl (lv_at hl 0 rfl) ?_
    refine zt_getr (t := 1) (C := RX1) (T := TX1) (N := 4) Z h hth zin_1 rfl 2 rfl ⟨by decide, rfl⟩ (zm_RX1 (List.mem_of_getElem? (i := 6) rfl)) (fun _ h9 => h9) dX1_add_35 (fun a_8 ka_8 ha_8 => ?_)
    refine lv_aload_n hx hb dX1_add_38 rfl (lv_at hl 0 rfl) ?_
    refine zt_getk (t := 1) (C := RX1) (T := TX1) (N := 4) Z h hth zin_1 rfl 3 (hfF_7.f hth 3 ⟨by decide, by decide⟩ (hfF_5.f hth 3 ⟨by decide, by decide⟩ kx_1)) ⟨by decide, rfl, by decide⟩ (zm_RX1 (List.mem_of_getElem? (i := 2) rfl)) (fun _ h9 => h9) dX1_add_39 ?_
    refine lv_iload_n hx hb dX1_add_42 rfl (lv_at hl 3 rfl) ?_
    refine zt_iast (t := 159) Z h ha_8 ⟨by decide, rfl⟩ bx_1_4 ⟨by decide, by decide⟩ (zB.all li) dX1_add_43 (fun H locs F_9 h hfF_9 => ?_)
    refine lv_aload_n hx hb dX1_add_44 rfl (lv_at hl 0 rfl) ?_
    refine lv_dup hx hb dX1_add_45 rfl ?_
    refine zt_getk (t := 1) (C := RX1) (T := TX1) (N := 4) Z h hth zin_1 rfl 3 (hfF_9.f hth 3 ⟨by decide, by decide⟩ (hfF_7.f hth 3 ⟨by decide, by decide⟩ (hfF_5.f hth 3 ⟨by decide, by decide⟩ kx_1))) ⟨by decide, rfl, by decide⟩ (zm_RX1 (List.mem_of_getElem? (i := 2) rfl)) (fun _ h9 => h9) dX1_add_46 ?_
    refine lv_iconst (v := 1) hx hb dX1_add_49 (by decide) ?_
    refine lv_iadd hx hb dX1_add_50 ?_
    refine zi_add (lo := 1) (hi := 1200) bx_1_4 (zBc 1 1 (by decide)) (by decide) (fun x_10 bx_10 tx_10 => ?_)
    refine zt_put (t := 1) (C := RX1) (T := TX1) (N := 4) (v := .int x_10) Z h hth zin_1 tyX1 tyX1_ok nmX1 rfl 3 rfl ⟨by decide, rfl⟩ (zm_RX1 (List.mem_of_getElem? (i := 2) rfl)) (fun _ h9 => h9) rfl (zV.i (bx_10.w ⟨by decide, by decide⟩)) rfl rfl dX1_add_51 (fun H locs F_11 h hfF_11 kF_11 => ?_)
    refine lv_aload_n hx hb dX1_add_54 rfl (lv_at hl 0 rfl) ?_
    refine zt_getk (t := 1) (C := RX1) (T := TX1) (N := 4) Z h hth zin_1 rfl 3 kF_11 ⟨by decide, rfl, by decide⟩ (zm_RX1 (List.mem_of_getElem? (i := 2) rfl)) (fun _ h9 => h9) dX1_add_55 ?_
    refine lv_iconst (v := 1) hx hb dX1_add_58 (by decide) ?_
    refine lv_isub hx hb dX1_add_59 ?_
    refine zi_sub (lo := 0) (hi := 1199) bx_10 (zBc 1 1 (by decide)) (by decide) (fun x_12 bx_12 tx_12 => ?_)
    subst hQ
    exact W.iret (v := x_12) hx hb hr (fun t ht hW => ⟨⟨x_12, F_11, rfl, ⟨(bx_12.w ⟨by decide, by decide⟩), trivial⟩, by rw [ht]; exact h.1, h.2.1, ((((hfF_5.w (by decide)).trans hfF_7 (by decide)).trans hfF_9 (by decide)).trans hfF_11 (by decide))⟩, h.2.2.F ht⟩) h.2.2.2.2 dX1_add_60
  · have c_3 := z_nlt c_3
    have bx_1_13 : zB 1200 1200 x_1 := zB.leR c_3 (zBc 1200 1200 (by decide)) bx_1 (by decide)
    refine lv_iconst (v := (-1)) hx hb dX1_add_12 (by decide) ?_
    subst hQ
    exact W.iret (v := (-1)) hx hb hr (fun t ht hW => ⟨⟨(-1), F, rfl, ⟨(zB.of ⟨by decide, by decide⟩), trivial⟩, by rw [ht]; exact h.1, h.2.1, zFr.rf⟩, h.2.2.F ht⟩) h.2.2.2.2 dX1_add_13

set_option maxHeartbeats 4000000 in
set_option maxRecDepth 100000 in
theorem zc_X1_setNumber (l : Launch) (D : va_G) (k : Nat → ClassId) (Γ : Nat → Option Nat) (L : List Nat) (F : Nat → va_E) (sz : Nat) (th : Nat) (i : Int32) (nu : Int32) (hth : Γ th = some 1) : Met l yX1_setNumber zwX1_setNumber ({ frames := 1, cells := 0, slots := 0, locals := 21 }) (va_Pc [.ref th, .int i, .int nu] (zP D k Γ L F sz)) (va_Qv (fun (u : Nat → va_E) => True) (zQ D k Γ L F [15800]) (zA L sz)) 0 0 (zA L sz) := by
  refine Met.ofW (cc := cX1_setNumber) (maxL := 3) (ret := none) (by decide) rfl ?_
  intro p e s m args below meth c s₁ B hml hv
  obtain ⟨rfl, hsz, hP, hK, hLn, hE, hI⟩ := hv
  have hx := B.exec
  have hb := B.bytes
  have hr := B.returns
  have hg : ∀ w ∈ zG, w.before _ s = true := fun w h9 => atoms_spec (ws := zwX1_setNumber) B.pre w (List.mem_cons_of_mem _ h9)
  have hown : s.vm.findClass RX1 = some m.cls := findClass_of_methodNamed B.named
  have hlocks := B.notSynchronized
  subst hsz
  have Z : zC p m c cX1_setNumber 3 s _ zG RX1 D k L := ⟨⟨hx, hb, hml, hown, hg⟩, hK, hLn, hE⟩
  have h : zH D k Γ L s F s.heap [] := ⟨hP, hI, va_S.rf⟩
  have hl := lv_entry ([.ref th, .int i, .int nu]) (n := 3) (Nat.le_of_ble_eq_true rfl)
  rw [lg_entry_eq]
  generalize (lg_sl ([.ref th, .int i, .int nu]) ++ List.replicate (3 - (lg_sl ([.ref th, .int i, .int nu])).length) Slot.unset).toArray = ls at hl ⊢
  have hl : lv_has ls 3 [(0, .ref th), (1, .int i), (2, .int nu)] := hl
  clear hP hK hLn hE hI
  generalize hargs : ([.ref th, .int i, .int nu] : List Value).toArray = args at *
  refine z_start (fun R Q hRf hRl hQ => ?_)
  have hRf : R.frames = 1 := hRf
  have hRl : R.locals = 21 := hRl
  refine lv_aload_n hx hb dX1_setNumber_0 rfl (lv_at hl 0 rfl) ?_
  refine lv_iload_n hx hb dX1_setNumber_1 rfl (lv_at hl 1 rfl) ?_
  refine zk_Vi (As := [.int i]) (rest := []) (bytes := cX1_has) (maxL := 2) (ret := (some .boolean)) Z h (zc_X1_has l D k Γ L F s.heap.size th i hth) (cwV 1 hg zv_RX1_25 rfl rfl rfl zd_X1_has ⟨z_leR hRf (by decide), z_leR hRl (by decide)⟩) hth (by decide) rfl rfl hl.1 rfl (Nat.le_of_ble_eq_true rfl) dX1_setNumber_2 ⟨Nat.zero_le _, Nat.zero_le _⟩ (fun r_1 F_2 H locs w_3 h hfF_2 => ?_)
  obtain ⟨rfl, br_1, q_4, -⟩ := w_3
  refine lv_if_eq (tgt := 15) hx hb dX1_setNumber_5 (by decide) (fun c_5 => ?_) (fun c_5 => ?_)
  · have c_5 := z_eq c_5
    have br_1_6 : zB 0 0 r_1 := zB.eqL (a := 0) (b := 0) c_5 (zBc 0 0 (by decide))
    subst hQ
    exact W.vret hx hb hr (fun t ht hW => ⟨⟨F, rfl, trivial, by rw [ht]; exact h.1, h.2.1, zFr.rf⟩, h.2.2.F ht⟩) h.2.2.2.2 dX1_setNumber_15
  · have bi_7 : zB 0 1199 i := q_4 c_5
    have c_5 := z_ne c_5
    have br_1_8 : zB 1 1 r_1 := zB.neLo c_5 br_1 (zBc 0 0 (by decide)) (by decide)
    refine lv_aload_n hx hb dX1_setNumber_8 rfl (lv_at hl 0 rfl) ?_
    refine zt_getr (t := 1) (C := RX1) (T := TX1) (N := 4) Z h hth zin_1 rfl 1 rfl ⟨by decide, rfl⟩ (zm_RX1 (List.mem_of_getElem? (i := 5) rfl)) (fun _ h9 => h9) dX1_setNumber_9 (fun a_9 ka_9 ha_9 => ?_)
    refine lv_iload_n hx hb dX1_setNumber_12 rfl (lv_at hl 1 rfl) ?_
    refine lv_iload_n hx hb dX1_setNumber_13 rfl (lv_at hl 2 rfl) ?_
    refine zt_iast (t := 158) Z h ha_9 ⟨by decide, rfl⟩ bi_7 ⟨by decide, by decide⟩ (zB.all nu) dX1_setNumber_14 (fun H locs F_10 h hfF_10 => ?_)
    subst hQ
    exact W.vret hx hb hr (fun t ht hW => ⟨⟨F_10, rfl, trivial, by rw [ht]; exact h.1, h.2.1, hfF_10⟩, h.2.2.F ht⟩) h.2.2.2.2 dX1_setNumber_15

set_option maxHeartbeats 4000000 in
set_option maxRecDepth 100000 in
theorem zc_X2_begin (l : Launch) (D : va_G) (k : Nat → ClassId) (Γ : Nat → Option Nat) (L : List Nat) (F : Nat → va_E) (sz : Nat) (th : Nat) (to : Int32) (li : Int32) (ac : Int32) (hth : Γ th = some 2) (bto : zB (-1) 601 to) : Met l yX2_begin zwX2_begin ({ frames := 0, cells := 0, slots := 0, locals := 0 }) (va_Pc [.ref th, .int to, .int li, .int ac] (zP D k Γ L F sz)) (va_Qv (fun (u : Nat → va_E) => True) (zQ D k Γ L F [201, 203, 205, 206, 207]) (zA L sz)) 0 0 (zA L sz) := by
  refine Met.ofW (cc := cX2_begin) (maxL := 4) (ret := none) (by decide) rfl ?_
  intro p e s m args below meth c s₁ B hml hv
  obtain ⟨rfl, hsz, hP, hK, hLn, hE, hI⟩ := hv
  have hx := B.exec
  have hb := B.bytes
  have hr := B.returns
  have hg : ∀ w ∈ zG, w.before _ s = true := fun w h9 => atoms_spec (ws := zwX2_begin) B.pre w (List.mem_cons_of_mem _ h9)
  have hown : s.vm.findClass RX2 = some m.cls := findClass_of_methodNamed B.named
  have hlocks := B.notSynchronized
  subst hsz
  have Z : zC p m c cX2_begin 4 s _ zG RX2 D k L := ⟨⟨hx, hb, hml, hown, hg⟩, hK, hLn, hE⟩
  have h : zH D k Γ L s F s.heap [] := ⟨hP, hI, va_S.rf⟩
  have hl := lv_entry ([.ref th, .int to, .int li, .int ac]) (n := 4) (Nat.le_of_ble_eq_true rfl)
  rw [lg_entry_eq]
  generalize (lg_sl ([.ref th, .int to, .int li, .int ac]) ++ List.replicate (4 - (lg_sl ([.ref th, .int to, .int li, .int ac])).length) Slot.unset).toArray = ls at hl ⊢
  have hl : lv_has ls 4 [(0, .ref th), (1, .int to), (2, .int li), (3, .int ac)] := hl
  clear hP hK hLn hE hI
  generalize hargs : ([.ref th, .int to, .int li, .int ac] : List Value).toArray = args at *
  refine z_start (fun R Q hRf hRl hQ => ?_)
  have hRf : R.frames = 0 := hRf
  have hRl : R.locals = 0 := hRl
  refine lv_aload_n hx hb dX2_begin_0 rfl (lv_at hl 0 rfl) ?_
  refine lv_iload_n hx hb dX2_begin_1 rfl (lv_at hl 1 rfl) ?_
  refine zt_put (t := 2) (C := RX2) (T := TX2) (N := 9) (v := .int to) Z h hth zin_2 tyX2 tyX2_ok nmX2 rfl 1 rfl ⟨by decide, rfl⟩ (zm_RX2 (List.mem_of_getElem? (i := 2) rfl)) (fun _ h9 => h9) rfl (zV.i bto) rfl rfl dX2_begin_2 (fun H locs F_1 h hfF_1 kF_1 => ?_)
  refine lv_aload_n hx hb dX2_begin_5 rfl (lv_at hl 0 rfl) ?_
  refine lv_iload_n hx hb dX2_begin_6 rfl (lv_at hl 2 rfl) ?_
  refine zt_put (t := 2) (C := RX2) (T := TX2) (N := 9) (v := .int li) Z h hth zin_2 tyX2 tyX2_ok nmX2 rfl 3 rfl ⟨by decide, rfl⟩ (zm_RX2 (List.mem_of_getElem? (i := 3) rfl)) (fun _ h9 => h9) rfl (zV.i (zB.all li)) rfl rfl dX2_begin_7 (fun H locs F_2 h hfF_2 kF_2 => ?_)
  refine lv_aload_n hx hb dX2_begin_10 rfl (lv_at hl 0 rfl) ?_
  refine lv_iload_n hx hb dX2_begin_11 rfl (lv_at hl 3 rfl) ?_
  refine zt_put (t := 2) (C := RX2) (T := TX2) (N := 9) (v := .int ac) Z h hth zin_2 tyX2 tyX2_ok nmX2 rfl 5 rfl ⟨by decide, rfl⟩ (zm_RX2 (List.mem_of_getElem? (i := 4) rfl)) (fun _ h9 => h9) rfl (zV.i (zB.all ac)) rfl rfl dX2_begin_12 (fun H locs F_3 h hfF_3 kF_3 => ?_)
  refine lv_aload_n hx hb dX2_begin_15 rfl (lv_at hl 0 rfl) ?_
  refine lv_iconst (v := 0) hx hb dX2_begin_16 (by decide) ?_
  refine zt_put (t := 2) (C := RX2) (T := TX2) (N := 9) (v := .int 0) Z h hth zin_2 tyX2 tyX2_ok nmX2 rfl 6 rfl ⟨by decide, rfl⟩ (zm_RX2 (List.mem_of_getElem? (i := 5) rfl)) (fun _ h9 => h9) rfl (zV.i (zB.of ⟨by decide, by decide⟩)) rfl rfl dX2_begin_17 (fun H locs F_4 h hfF_4 kF_4 => ?_)
  refine lv_aload_n hx hb dX2_begin_20 rfl (lv_at hl 0 rfl) ?_
  refine lv_iconst (v := 0) hx hb dX2_begin_21 (by decide) ?_
  refine zt_put (t := 2) (C := RX2) (T := TX2) (N := 9) (v := .int 0) Z h hth zin_2 tyX2 tyX2_ok nmX2 rfl 7 rfl ⟨by decide, rfl⟩ (zm_RX2 (List.mem_of_getElem? (i := 6) rfl)) (fun _ h9 => h9) rfl (zV.i (zB.of ⟨by decide, by decide⟩)) rfl rfl dX2_begin_22 (fun H locs F_5 h hfF_5 kF_5 => ?_)
  subst hQ
  exact W.vret hx hb hr (fun t ht hW => ⟨⟨F_5, rfl, trivial, by rw [ht]; exact h.1, h.2.1, (((((hfF_1.w (by decide)).trans hfF_2 (by decide)).trans hfF_3 (by decide)).trans hfF_4 (by decide)).trans hfF_5 (by decide))⟩, h.2.2.F ht⟩) h.2.2.2.2 dX2_begin_25

set_option maxHeartbeats 4000000 in
set_option maxRecDepth 100000 in
theorem zc_X2_hasPlace (l : Launch) (D : va_G) (k : Nat → ClassId) (Γ : Nat → Option Nat) (L : List Nat) (F : Nat → va_E) (sz : Nat) (th : Nat) (q : Int32) (hth : Γ th = some 2) : Met l yX2_hasPlace zwX2_hasPlace ({ frames := 0, cells := 0, slots := 0, locals := 0 }) (va_Pc [.ref th, .int q] (zP D k Γ L F sz)) (va_Qi (fun (r : Int32) (u : Nat → va_E) => F = u ∧ zB 0 1 r ∧ True) (zQ D k Γ L F []) (zA L sz)) 0 0 (zA L sz) := by
  refine Met.ofW (cc := cX2_hasPlace) (maxL := 3) (ret := (some .boolean)) (by decide) rfl ?_
  intro p e s m args below meth c s₁ B hml hv
  obtain ⟨rfl, hsz, hP, hK, hLn, hE, hI⟩ := hv
  have hx := B.exec
  have hb := B.bytes
  have hr := B.returns
  have hg : ∀ w ∈ zG, w.before _ s = true := fun w h9 => atoms_spec (ws := zwX2_hasPlace) B.pre w (List.mem_cons_of_mem _ h9)
  have hown : s.vm.findClass RX2 = some m.cls := findClass_of_methodNamed B.named
  have hlocks := B.notSynchronized
  subst hsz
  have Z : zC p m c cX2_hasPlace 3 s _ zG RX2 D k L := ⟨⟨hx, hb, hml, hown, hg⟩, hK, hLn, hE⟩
  have h : zH D k Γ L s F s.heap [] := ⟨hP, hI, va_S.rf⟩
  have hl := lv_entry ([.ref th, .int q]) (n := 3) (Nat.le_of_ble_eq_true rfl)
  rw [lg_entry_eq]
  generalize (lg_sl ([.ref th, .int q]) ++ List.replicate (3 - (lg_sl ([.ref th, .int q])).length) Slot.unset).toArray = ls at hl ⊢
  have hl : lv_has ls 3 [(0, .ref th), (1, .int q)] := hl
  clear hP hK hLn hE hI
  generalize hargs : ([.ref th, .int q] : List Value).toArray = args at *
  refine z_start (fun R Q hRf hRl hQ => ?_)
  have hRf : R.frames = 0 := hRf
  have hRl : R.locals = 0 := hRl
  refine lv_iconst (v := 0) hx hb dX2_hasPlace_0 (by decide) ?_
  refine lv_istore_n (lv' := [(2, .int 0), (0, .ref th), (1, .int q)]) hx hb dX2_hasPlace_1 rfl hl (by decide) rfl (fun ls hl => ?_)
  have j_j2_1 : ∀ (n : Nat) (ls : Array Slot) (y2_j2_1 : Int32), lv_has ls 3 [(2, .int y2_j2_1), (0, .ref th), (1, .int q)] → zB 0 3 y2_j2_1 → (2147483647 - y2_j2_1.toInt).toNat = n → W p l e R s m args below meth c s.heap [] 0 0 Q (F0 m 2 ls []) := by
    intro n
    induction n using Nat.strongRecOn with
    | _ n ih_j2_1 =>
      intro ls y2_j2_1 hl by2_j2_1 hn_j2_1
      refine lv_iload_n hx hb dX2_hasPlace_2 rfl (lv_at hl 0 rfl) ?_
      refine lv_aload_n hx hb dX2_hasPlace_3 rfl (lv_at hl 1 rfl) ?_
      refine zt_geti (t := 2) (C := RX2) (T := TX2) (N := 9) Z h hth zin_2 rfl 7 rfl ⟨by decide, rfl⟩ (zm_RX2 (List.mem_of_getElem? (i := 6) rfl)) (fun _ h9 => h9) dX2_hasPlace_4 (fun x_2 kx_2 bx_2 => ?_)
      refine lv_icmp_ge (tgt := 37) hx hb dX2_hasPlace_7 (by decide) (fun c_3 => ?_) (fun c_3 => ?_)
      · have c_3 := z_le c_3
        refine lv_iconst (v := 0) hx hb dX2_hasPlace_37 (by decide) ?_
        subst hQ
        exact W.zret (v := 0) hx hb hr (by decide) (fun t ht hW => ⟨⟨0, F, rfl, ⟨rfl, (zB.of ⟨by decide, by decide⟩), trivial⟩, by rw [ht]; exact h.1, h.2.1, zFr.rf⟩, h.2.2.F ht⟩) h.2.2.2.2 dX2_hasPlace_38
      · have c_3 := z_nle c_3
        have by2_j2_1_4 : zB 0 2 y2_j2_1 := zB.ltL c_3 by2_j2_1 bx_2 (by decide)
        have bx_2_5 : zB 1 3 x_2 := zB.ltR c_3 by2_j2_1 bx_2 (by decide)
        refine lv_iload_n hx hb dX2_hasPlace_10 rfl (lv_at hl 0 rfl) ?_
        refine lv_aload_n hx hb dX2_hasPlace_11 rfl (lv_at hl 1 rfl) ?_
        refine zt_getr (t := 2) (C := RX2) (T := TX2) (N := 9) Z h hth zin_2 rfl 8 rfl ⟨by decide, rfl⟩ (zm_RX2 (List.mem_of_getElem? (i := 8) rfl)) (fun _ h9 => h9) dX2_hasPlace_12 (fun a_6 ka_6 ha_6 => ?_)
        refine zt_alen (t := 103) Z h ha_6 ⟨by decide, rfl⟩ (by decide) (v := 3) rfl dX2_hasPlace_15 ?_
        refine lv_icmp_ge (tgt := 37) hx hb dX2_hasPlace_16 (by decide) (fun c_7 => ?_) (fun c_7 => ?_)
        · have c_7 := z_le c_7
          exact zB.noLe c_7 (zBc 3 3 (by decide)) by2_j2_1_4 (by decide)
        · have c_7 := z_nle c_7
          refine lv_aload_n hx hb dX2_hasPlace_19 rfl (lv_at hl 1 rfl) ?_
          refine zt_getk (t := 2) (C := RX2) (T := TX2) (N := 9) Z h hth zin_2 rfl 8 ka_6 ⟨by decide, rfl, by decide⟩ (zm_RX2 (List.mem_of_getElem? (i := 8) rfl)) (fun _ h9 => h9) dX2_hasPlace_20 ?_
          refine lv_iload_n hx hb dX2_hasPlace_23 rfl (lv_at hl 0 rfl) ?_
          refine zt_ialde (t := 103) Z h ha_6 ⟨by decide, rfl⟩ by2_j2_1_4 ⟨by decide, by decide⟩ dX2_hasPlace_24 (fun x_8 ex_8 bx_8 => ?_)
          refine lv_iload_n hx hb dX2_hasPlace_25 rfl (lv_at hl 2 rfl) ?_
          refine lv_icmp_ne (tgt := 31) hx hb dX2_hasPlace_26 (by decide) (fun c_9 => ?_) (fun c_9 => ?_)
          · have c_9 := z_ne c_9
            obtain ⟨x_10, ex_10, bx_10, tx_10⟩ := z_inc (n := 1) (lo := 1) (hi := 3) by2_j2_1_4 (by decide)
            refine lv_iinc (v := x_10) (lv' := [(2, .int x_10), (0, .ref th), (1, .int q)]) hx hb dX2_hasPlace_31 hl (k := 0) rfl ex_10 (by decide) rfl (fun ls hl => ?_)
            refine lv_goto (tgt := 2) hx hb dX2_hasPlace_34 (by decide) ?_
            exact ih_j2_1 _ (by have := bx_10.1; have := bx_10.2; have := (zB.all q).1; have := (zB.all q).2; have := bx_2_5.1; have := bx_2_5.2; have : (3 : Int32).toInt = 3 := (by decide); have := by2_j2_1.1; have := by2_j2_1.2; omega) ls x_10 (lv_sub hl [0, 1, 2] rfl) (bx_10.w ⟨by decide, by decide⟩) rfl
          · have c_9 := z_eq c_9
            refine lv_iconst (v := 1) hx hb dX2_hasPlace_29 (by decide) ?_
            subst hQ
            exact W.zret (v := 1) hx hb hr (by decide) (fun t ht hW => ⟨⟨1, F, rfl, ⟨rfl, (zB.of ⟨by decide, by decide⟩), trivial⟩, by rw [ht]; exact h.1, h.2.1, zFr.rf⟩, h.2.2.F ht⟩) h.2.2.2.2 dX2_hasPlace_30
  exact j_j2_1 _ ls 0 (lv_sub hl [0, 1, 2] rfl) (zB.of ⟨by decide, by decide⟩) rfl

set_option maxHeartbeats 4000000 in
set_option maxRecDepth 100000 in
theorem zc_X2_addPlace (l : Launch) (D : va_G) (k : Nat → ClassId) (Γ : Nat → Option Nat) (L : List Nat) (F : Nat → va_E) (sz : Nat) (th : Nat) (q : Int32) (hth : Γ th = some 2) : Met l yX2_addPlace zwX2_addPlace ({ frames := 0, cells := 0, slots := 0, locals := 0 }) (va_Pc [.ref th, .int q] (zP D k Γ L F sz)) (va_Qv (fun (u : Nat → va_E) => True) (zQ D k Γ L F [207, 10300]) (zA L sz)) 0 0 (zA L sz) := by
  refine Met.ofW (cc := cX2_addPlace) (maxL := 2) (ret := none) (by decide) rfl ?_
  intro p e s m args below meth c s₁ B hml hv
  obtain ⟨rfl, hsz, hP, hK, hLn, hE, hI⟩ := hv
  have hx := B.exec
  have hb := B.bytes
  have hr := B.returns
  have hg : ∀ w ∈ zG, w.before _ s = true := fun w h9 => atoms_spec (ws := zwX2_addPlace) B.pre w (List.mem_cons_of_mem _ h9)
  have hown : s.vm.findClass RX2 = some m.cls := findClass_of_methodNamed B.named
  have hlocks := B.notSynchronized
  subst hsz
  have Z : zC p m c cX2_addPlace 2 s _ zG RX2 D k L := ⟨⟨hx, hb, hml, hown, hg⟩, hK, hLn, hE⟩
  have h : zH D k Γ L s F s.heap [] := ⟨hP, hI, va_S.rf⟩
  have hl := lv_entry ([.ref th, .int q]) (n := 2) (Nat.le_of_ble_eq_true rfl)
  rw [lg_entry_eq]
  generalize (lg_sl ([.ref th, .int q]) ++ List.replicate (2 - (lg_sl ([.ref th, .int q])).length) Slot.unset).toArray = ls at hl ⊢
  have hl : lv_has ls 2 [(0, .ref th), (1, .int q)] := hl
  clear hP hK hLn hE hI
  generalize hargs : ([.ref th, .int q] : List Value).toArray = args at *
  refine z_start (fun R Q hRf hRl hQ => ?_)
  have hRf : R.frames = 0 := hRf
  have hRl : R.locals = 0 := hRl
  refine lv_aload_n hx hb dX2_addPlace_0 rfl (lv_at hl 0 rfl) ?_
  refine zt_geti (t := 2) (C := RX2) (T := TX2) (N := 9) Z h hth zin_2 rfl 7 rfl ⟨by decide, rfl⟩ (zm_RX2 (List.mem_of_getElem? (i := 6) rfl)) (fun _ h9 => h9) dX2_addPlace_1 (fun x_1 kx_1 bx_1 => ?_)
  refine lv_aload_n hx hb dX2_addPlace_4 rfl (lv_at hl 0 rfl) ?_
  refine zt_getr (t := 2) (C := RX2) (T := TX2) (N := 9) Z h hth zin_2 rfl 8 rfl ⟨by decide, rfl⟩ (zm_RX2 (List.mem_of_getElem? (i := 8) rfl)) (fun _ h9 => h9) dX2_addPlace_5 (fun a_2 ka_2 ha_2 => ?_)
  refine zt_alen (t := 103) Z h ha_2 ⟨by decide, rfl⟩ (by decide) (v := 3) rfl dX2_addPlace_8 ?_
  refine lv_icmp_ge (tgt := 32) hx hb dX2_addPlace_9 (by decide) (fun c_3 => ?_) (fun c_3 => ?_)
  · have c_3 := z_le c_3
    have bx_1_4 : zB 3 3 x_1 := zB.leR c_3 (zBc 3 3 (by decide)) bx_1 (by decide)
    subst hQ
    exact W.vret hx hb hr (fun t ht hW => ⟨⟨F, rfl, trivial, by rw [ht]; exact h.1, h.2.1, zFr.rf⟩, h.2.2.F ht⟩) h.2.2.2.2 dX2_addPlace_32
  · have c_3 := z_nle c_3
    have bx_1_5 : zB 0 2 x_1 := zB.ltL c_3 bx_1 (zBc 3 3 (by decide)) (by decide)
    refine lv_aload_n hx hb dX2_addPlace_12 rfl (lv_at hl 0 rfl) ?_
    refine zt_getk (t := 2) (C := RX2) (T := TX2) (N := 9) Z h hth zin_2 rfl 8 ka_2 ⟨by decide, rfl, by decide⟩ (zm_RX2 (List.mem_of_getElem? (i := 8) rfl)) (fun _ h9 => h9) dX2_addPlace_13 ?_
    refine lv_aload_n hx hb dX2_addPlace_16 rfl (lv_at hl 0 rfl) ?_
    refine zt_getk (t := 2) (C := RX2) (T := TX2) (N := 9) Z h hth zin_2 rfl 7 kx_1 ⟨by decide, rfl, by decide⟩ (zm_RX2 (List.mem_of_getElem? (i := 6) rfl)) (fun _ h9 => h9) dX2_addPlace_17 ?_
    refine lv_iload_n hx hb dX2_addPlace_20 rfl (lv_at hl 1 rfl) ?_
    refine zt_iast (t := 103) Z h ha_2 ⟨by decide, rfl⟩ bx_1_5 ⟨by decide, by decide⟩ (zB.all q) dX2_addPlace_21 (fun H locs F_6 h hfF_6 => ?_)
    refine lv_aload_n hx hb dX2_addPlace_22 rfl (lv_at hl 0 rfl) ?_
    refine lv_dup hx hb dX2_addPlace_23 rfl ?_
    refine zt_getk (t := 2) (C := RX2) (T := TX2) (N := 9) Z h hth zin_2 rfl 7 (hfF_6.f hth 7 ⟨by decide, by decide⟩ kx_1) ⟨by decide, rfl, by decide⟩ (zm_RX2 (List.mem_of_getElem? (i := 6) rfl)) (fun _ h9 => h9) dX2_addPlace_24 ?_
    refine lv_iconst (v := 1) hx hb dX2_addPlace_27 (by decide) ?_
    refine lv_iadd hx hb dX2_addPlace_28 ?_
    refine zi_add (lo := 1) (hi := 3) bx_1_5 (zBc 1 1 (by decide)) (by decide) (fun x_7 bx_7 tx_7 => ?_)
    refine zt_put (t := 2) (C := RX2) (T := TX2) (N := 9) (v := .int x_7) Z h hth zin_2 tyX2 tyX2_ok nmX2 rfl 7 rfl ⟨by decide, rfl⟩ (zm_RX2 (List.mem_of_getElem? (i := 6) rfl)) (fun _ h9 => h9) rfl (zV.i (bx_7.w ⟨by decide, by decide⟩)) rfl rfl dX2_addPlace_29 (fun H locs F_8 h hfF_8 kF_8 => ?_)
    subst hQ
    exact W.vret hx hb hr (fun t ht hW => ⟨⟨F_8, rfl, trivial, by rw [ht]; exact h.1, h.2.1, ((hfF_6.w (by decide)).trans hfF_8 (by decide))⟩, h.2.2.F ht⟩) h.2.2.2.2 dX2_addPlace_32

set_option maxHeartbeats 4000000 in
set_option maxRecDepth 100000 in
theorem zc_X2_placeAt (l : Launch) (D : va_G) (k : Nat → ClassId) (Γ : Nat → Option Nat) (L : List Nat) (F : Nat → va_E) (sz : Nat) (th : Nat) (i : Int32) (hth : Γ th = some 2) : Met l yX2_placeAt zwX2_placeAt ({ frames := 0, cells := 0, slots := 0, locals := 0 }) (va_Pc [.ref th, .int i] (zP D k Γ L F sz)) (va_Qi (fun (r : Int32) (u : Nat → va_E) => F = u ∧ True) (zQ D k Γ L F []) (zA L sz)) 0 0 (zA L sz) := by
  refine Met.ofW (cc := cX2_placeAt) (maxL := 2) (ret := (some .int)) (by decide) rfl ?_
  intro p e s m args below meth c s₁ B hml hv
  obtain ⟨rfl, hsz, hP, hK, hLn, hE, hI⟩ := hv
  have hx := B.exec
  have hb := B.bytes
  have hr := B.returns
  have hg : ∀ w ∈ zG, w.before _ s = true := fun w h9 => atoms_spec (ws := zwX2_placeAt) B.pre w (List.mem_cons_of_mem _ h9)
  have hown : s.vm.findClass RX2 = some m.cls := findClass_of_methodNamed B.named
  have hlocks := B.notSynchronized
  subst hsz
  have Z : zC p m c cX2_placeAt 2 s _ zG RX2 D k L := ⟨⟨hx, hb, hml, hown, hg⟩, hK, hLn, hE⟩
  have h : zH D k Γ L s F s.heap [] := ⟨hP, hI, va_S.rf⟩
  have hl := lv_entry ([.ref th, .int i]) (n := 2) (Nat.le_of_ble_eq_true rfl)
  rw [lg_entry_eq]
  generalize (lg_sl ([.ref th, .int i]) ++ List.replicate (2 - (lg_sl ([.ref th, .int i])).length) Slot.unset).toArray = ls at hl ⊢
  have hl : lv_has ls 2 [(0, .ref th), (1, .int i)] := hl
  clear hP hK hLn hE hI
  generalize hargs : ([.ref th, .int i] : List Value).toArray = args at *
  refine z_start (fun R Q hRf hRl hQ => ?_)
  have hRf : R.frames = 0 := hRf
  have hRl : R.locals = 0 := hRl
  refine lv_iload_n hx hb dX2_placeAt_0 rfl (lv_at hl 1 rfl) ?_
  refine lv_if_lt (tgt := 30) hx hb dX2_placeAt_1 (by decide) (fun c_1 => ?_) (fun c_1 => ?_)
  · have c_1 := z_lt c_1
    have bi_2 : zB (-2147483648) (-1) i := zB.ltL c_1 (zB.all i) (zBc 0 0 (by decide)) (by decide)
    refine lv_iconst (v := 0) hx hb dX2_placeAt_30 (by decide) ?_
    subst hQ
    exact W.iret (v := 0) hx hb hr (fun t ht hW => ⟨⟨0, F, rfl, ⟨rfl, trivial⟩, by rw [ht]; exact h.1, h.2.1, zFr.rf⟩, h.2.2.F ht⟩) h.2.2.2.2 dX2_placeAt_31
  · have c_1 := z_nlt c_1
    have bi_3 : zB 0 2147483647 i := zB.leR c_1 (zBc 0 0 (by decide)) (zB.all i) (by decide)
    refine lv_iload_n hx hb dX2_placeAt_4 rfl (lv_at hl 1 rfl) ?_
    refine lv_aload_n hx hb dX2_placeAt_5 rfl (lv_at hl 0 rfl) ?_
    refine zt_geti (t := 2) (C := RX2) (T := TX2) (N := 9) Z h hth zin_2 rfl 7 rfl ⟨by decide, rfl⟩ (zm_RX2 (List.mem_of_getElem? (i := 6) rfl)) (fun _ h9 => h9) dX2_placeAt_6 (fun x_4 kx_4 bx_4 => ?_)
    refine lv_icmp_ge (tgt := 30) hx hb dX2_placeAt_9 (by decide) (fun c_5 => ?_) (fun c_5 => ?_)
    · have c_5 := z_le c_5
      refine lv_iconst (v := 0) hx hb dX2_placeAt_30 (by decide) ?_
      subst hQ
      exact W.iret (v := 0) hx hb hr (fun t ht hW => ⟨⟨0, F, rfl, ⟨rfl, trivial⟩, by rw [ht]; exact h.1, h.2.1, zFr.rf⟩, h.2.2.F ht⟩) h.2.2.2.2 dX2_placeAt_31
    · have c_5 := z_nle c_5
      have bi_6 : zB 0 2 i := zB.ltL c_5 bi_3 bx_4 (by decide)
      have bx_4_7 : zB 1 3 x_4 := zB.ltR c_5 bi_3 bx_4 (by decide)
      refine lv_iload_n hx hb dX2_placeAt_12 rfl (lv_at hl 1 rfl) ?_
      refine lv_aload_n hx hb dX2_placeAt_13 rfl (lv_at hl 0 rfl) ?_
      refine zt_getr (t := 2) (C := RX2) (T := TX2) (N := 9) Z h hth zin_2 rfl 8 rfl ⟨by decide, rfl⟩ (zm_RX2 (List.mem_of_getElem? (i := 8) rfl)) (fun _ h9 => h9) dX2_placeAt_14 (fun a_8 ka_8 ha_8 => ?_)
      refine zt_alen (t := 103) Z h ha_8 ⟨by decide, rfl⟩ (by decide) (v := 3) rfl dX2_placeAt_17 ?_
      refine lv_icmp_ge (tgt := 30) hx hb dX2_placeAt_18 (by decide) (fun c_9 => ?_) (fun c_9 => ?_)
      · have c_9 := z_le c_9
        exact zB.noLe c_9 (zBc 3 3 (by decide)) bi_6 (by decide)
      · have c_9 := z_nle c_9
        refine lv_aload_n hx hb dX2_placeAt_21 rfl (lv_at hl 0 rfl) ?_
        refine zt_getk (t := 2) (C := RX2) (T := TX2) (N := 9) Z h hth zin_2 rfl 8 ka_8 ⟨by decide, rfl, by decide⟩ (zm_RX2 (List.mem_of_getElem? (i := 8) rfl)) (fun _ h9 => h9) dX2_placeAt_22 ?_
        refine lv_iload_n hx hb dX2_placeAt_25 rfl (lv_at hl 1 rfl) ?_
        refine zt_ialde (t := 103) Z h ha_8 ⟨by decide, rfl⟩ bi_6 ⟨by decide, by decide⟩ dX2_placeAt_26 (fun x_10 ex_10 bx_10 => ?_)
        refine lv_goto (tgt := 31) hx hb dX2_placeAt_27 (by decide) ?_
        subst hQ
        exact W.iret (v := x_10) hx hb hr (fun t ht hW => ⟨⟨x_10, F, rfl, ⟨rfl, trivial⟩, by rw [ht]; exact h.1, h.2.1, zFr.rf⟩, h.2.2.F ht⟩) h.2.2.2.2 dX2_placeAt_31

set_option maxHeartbeats 4000000 in
set_option maxRecDepth 100000 in
theorem zc_X6_clear (l : Launch) (D : va_G) (k : Nat → ClassId) (Γ : Nat → Option Nat) (L : List Nat) (F : Nat → va_E) (sz : Nat) (th : Nat) (hth : Γ th = some 6) : Met l yX6_clear zwX6_clear ({ frames := 1, cells := 0, slots := 0, locals := 20 }) (va_Pc [.ref th] (zP D k Γ L F sz)) (va_Qv (fun (u : Nat → va_E) => True) (zQ D k Γ L F [103, 604, 605]) (zA L sz)) 0 0 (zA L sz) := by
  refine Met.ofW (cc := cX6_clear) (maxL := 1) (ret := none) (by decide) rfl ?_
  intro p e s m args below meth c s₁ B hml hv
  obtain ⟨rfl, hsz, hP, hK, hLn, hE, hI⟩ := hv
  have hx := B.exec
  have hb := B.bytes
  have hr := B.returns
  have hg : ∀ w ∈ zG, w.before _ s = true := fun w h9 => atoms_spec (ws := zwX6_clear) B.pre w (List.mem_cons_of_mem _ h9)
  have hown : s.vm.findClass RX6 = some m.cls := findClass_of_methodNamed B.named
  have hlocks := B.notSynchronized
  subst hsz
  have Z : zC p m c cX6_clear 1 s _ zG RX6 D k L := ⟨⟨hx, hb, hml, hown, hg⟩, hK, hLn, hE⟩
  have h : zH D k Γ L s F s.heap [] := ⟨hP, hI, va_S.rf⟩
  have hl := lv_entry ([.ref th]) (n := 1) (Nat.le_of_ble_eq_true rfl)
  rw [lg_entry_eq]
  generalize (lg_sl ([.ref th]) ++ List.replicate (1 - (lg_sl ([.ref th])).length) Slot.unset).toArray = ls at hl ⊢
  have hl : lv_has ls 1 [(0, .ref th)] := hl
  clear hP hK hLn hE hI
  generalize hargs : ([.ref th] : List Value).toArray = args at *
  refine z_start (fun R Q hRf hRl hQ => ?_)
  have hRf : R.frames = 1 := hRf
  have hRl : R.locals = 20 := hRl
  refine lv_aload_n hx hb dX6_clear_0 rfl (lv_at hl 0 rfl) ?_
  refine lv_iconst (v := 0) hx hb dX6_clear_1 (by decide) ?_
  refine zt_put (t := 6) (C := RX6) (T := TX6) (N := 6) (v := .int 0) Z h hth zin_6 tyX6 tyX6_ok nmX6 rfl 4 rfl ⟨by decide, rfl⟩ (zm_RX6 (List.mem_of_getElem? (i := 6) rfl)) (fun _ h9 => h9) rfl (zV.i (zB.of ⟨by decide, by decide⟩)) rfl rfl dX6_clear_2 (fun H locs F_1 h hfF_1 kF_1 => ?_)
  refine lv_aload_n hx hb dX6_clear_5 rfl (lv_at hl 0 rfl) ?_
  refine lv_iconst (v := 0) hx hb dX6_clear_6 (by decide) ?_
  refine zt_put (t := 6) (C := RX6) (T := TX6) (N := 6) (v := .int 0) Z h hth zin_6 tyX6 tyX6_ok nmX6 rfl 5 rfl ⟨by decide, rfl⟩ (zm_RX6 (List.mem_of_getElem? (i := 7) rfl)) (fun _ h9 => h9) rfl (zV.i (zB.of ⟨by decide, by decide⟩)) rfl rfl dX6_clear_7 (fun H locs F_2 h hfF_2 kF_2 => ?_)
  refine lv_aload_n hx hb dX6_clear_10 rfl (lv_at hl 0 rfl) ?_
  refine zt_getr (t := 6) (C := RX6) (T := TX6) (N := 6) Z h hth zin_6 rfl 1 rfl ⟨by decide, rfl⟩ (zm_RX6 (List.mem_of_getElem? (i := 8) rfl)) (fun _ h9 => h9) dX6_clear_11 (fun a_3 ka_3 ha_3 => ?_)
  refine zk_Vv (As := []) (rest := []) (bytes := cX1_clear) (maxL := 1) (ret := none) Z h (zc_X1_clear l D k Γ L F_2 H.size a_3 ha_3) (cwV 0 hg zv_RX6_46 rfl rfl rfl zd_X1_clear ⟨z_leR hRf (by decide), z_leR hRl (by decide)⟩) ha_3 (by decide) rfl rfl hl.1 rfl (Nat.le_of_ble_eq_true rfl) dX6_clear_14 ⟨Nat.zero_le _, Nat.zero_le _⟩ (fun F_4 H locs w_5 h hfF_4 => ?_)
  subst hQ
  exact W.vret hx hb hr (fun t ht hW => ⟨⟨F_4, rfl, trivial, by rw [ht]; exact h.1, h.2.1, (((hfF_1.w (by decide)).trans hfF_2 (by decide)).trans hfF_4 (by decide))⟩, h.2.2.F ht⟩) h.2.2.2.2 dX6_clear_17

set_option maxHeartbeats 4000000 in
set_option maxRecDepth 100000 in
theorem zc_X6_hasFunction (l : Launch) (D : va_G) (k : Nat → ClassId) (Γ : Nat → Option Nat) (L : List Nat) (F : Nat → va_E) (sz : Nat) (th : Nat) (f : Int32) (hth : Γ th = some 6) : Met l yX6_hasFunction zwX6_hasFunction ({ frames := 0, cells := 0, slots := 0, locals := 0 }) (va_Pc [.ref th, .int f] (zP D k Γ L F sz)) (va_Qi (fun (r : Int32) (u : Nat → va_E) => F = u ∧ zB 0 1 r ∧ (r ≠ 0 → zB 0 9 f) ∧ (r ≠ 0 → ∃ (c9 : Int32), zfld u th 4 = .int c9 ∧ zB 0 10 c9 ∧ (f.toInt < c9.toInt)) ∧ True) (zQ D k Γ L F []) (zA L sz)) 0 0 (zA L sz) := by
  refine Met.ofW (cc := cX6_hasFunction) (maxL := 2) (ret := (some .boolean)) (by decide) rfl ?_
  intro p e s m args below meth c s₁ B hml hv
  obtain ⟨rfl, hsz, hP, hK, hLn, hE, hI⟩ := hv
  have hx := B.exec
  have hb := B.bytes
  have hr := B.returns
  have hg : ∀ w ∈ zG, w.before _ s = true := fun w h9 => atoms_spec (ws := zwX6_hasFunction) B.pre w (List.mem_cons_of_mem _ h9)
  have hown : s.vm.findClass RX6 = some m.cls := findClass_of_methodNamed B.named
  have hlocks := B.notSynchronized
  subst hsz
  have Z : zC p m c cX6_hasFunction 2 s _ zG RX6 D k L := ⟨⟨hx, hb, hml, hown, hg⟩, hK, hLn, hE⟩
  have h : zH D k Γ L s F s.heap [] := ⟨hP, hI, va_S.rf⟩
  have hl := lv_entry ([.ref th, .int f]) (n := 2) (Nat.le_of_ble_eq_true rfl)
  rw [lg_entry_eq]
  generalize (lg_sl ([.ref th, .int f]) ++ List.replicate (2 - (lg_sl ([.ref th, .int f])).length) Slot.unset).toArray = ls at hl ⊢
  have hl : lv_has ls 2 [(0, .ref th), (1, .int f)] := hl
  clear hP hK hLn hE hI
  generalize hargs : ([.ref th, .int f] : List Value).toArray = args at *
  refine z_start (fun R Q hRf hRl hQ => ?_)
  have hRf : R.frames = 0 := hRf
  have hRl : R.locals = 0 := hRl
  refine lv_iload_n hx hb dX6_hasFunction_0 rfl (lv_at hl 1 rfl) ?_
  refine lv_if_lt (tgt := 25) hx hb dX6_hasFunction_1 (by decide) (fun c_1 => ?_) (fun c_1 => ?_)
  · have c_1 := z_lt c_1
    have bf_2 : zB (-2147483648) (-1) f := zB.ltL c_1 (zB.all f) (zBc 0 0 (by decide)) (by decide)
    refine lv_iconst (v := 0) hx hb dX6_hasFunction_25 (by decide) ?_
    subst hQ
    exact W.zret (v := 0) hx hb hr (by decide) (fun t ht hW => ⟨⟨0, F, rfl, ⟨rfl, (zB.of ⟨by decide, by decide⟩), (fun h9 => absurd rfl h9), (fun h9 => absurd rfl h9), trivial⟩, by rw [ht]; exact h.1, h.2.1, zFr.rf⟩, h.2.2.F ht⟩) h.2.2.2.2 dX6_hasFunction_26
  · have c_1 := z_nlt c_1
    have bf_3 : zB 0 2147483647 f := zB.leR c_1 (zBc 0 0 (by decide)) (zB.all f) (by decide)
    refine lv_iload_n hx hb dX6_hasFunction_4 rfl (lv_at hl 1 rfl) ?_
    refine lv_aload_n hx hb dX6_hasFunction_5 rfl (lv_at hl 0 rfl) ?_
    refine zt_geti (t := 6) (C := RX6) (T := TX6) (N := 6) Z h hth zin_6 rfl 4 rfl ⟨by decide, rfl⟩ (zm_RX6 (List.mem_of_getElem? (i := 6) rfl)) (fun _ h9 => h9) dX6_hasFunction_6 (fun x_4 kx_4 bx_4 => ?_)
    refine lv_icmp_ge (tgt := 25) hx hb dX6_hasFunction_9 (by decide) (fun c_5 => ?_) (fun c_5 => ?_)
    · have c_5 := z_le c_5
      refine lv_iconst (v := 0) hx hb dX6_hasFunction_25 (by decide) ?_
      subst hQ
      exact W.zret (v := 0) hx hb hr (by decide) (fun t ht hW => ⟨⟨0, F, rfl, ⟨rfl, (zB.of ⟨by decide, by decide⟩), (fun h9 => absurd rfl h9), (fun h9 => absurd rfl h9), trivial⟩, by rw [ht]; exact h.1, h.2.1, zFr.rf⟩, h.2.2.F ht⟩) h.2.2.2.2 dX6_hasFunction_26
    · have c_5 := z_nle c_5
      have bf_6 : zB 0 9 f := zB.ltL c_5 bf_3 bx_4 (by decide)
      have bx_4_7 : zB 1 10 x_4 := zB.ltR c_5 bf_3 bx_4 (by decide)
      refine lv_iload_n hx hb dX6_hasFunction_12 rfl (lv_at hl 1 rfl) ?_
      refine lv_aload_n hx hb dX6_hasFunction_13 rfl (lv_at hl 0 rfl) ?_
      refine zt_getr (t := 6) (C := RX6) (T := TX6) (N := 6) Z h hth zin_6 rfl 2 rfl ⟨by decide, rfl⟩ (zm_RX6 (List.mem_of_getElem? (i := 11) rfl)) (fun _ h9 => h9) dX6_hasFunction_14 (fun a_8 ka_8 ha_8 => ?_)
      refine zt_alen (t := 104) Z h ha_8 ⟨by decide, rfl⟩ (by decide) (v := 10) rfl dX6_hasFunction_17 ?_
      refine lv_icmp_ge (tgt := 25) hx hb dX6_hasFunction_18 (by decide) (fun c_9 => ?_) (fun c_9 => ?_)
      · have c_9 := z_le c_9
        exact zB.noLe c_9 (zBc 10 10 (by decide)) bf_6 (by decide)
      · have c_9 := z_nle c_9
        refine lv_iconst (v := 1) hx hb dX6_hasFunction_21 (by decide) ?_
        refine lv_goto (tgt := 26) hx hb dX6_hasFunction_22 (by decide) ?_
        subst hQ
        exact W.zret (v := 1) hx hb hr (by decide) (fun t ht hW => ⟨⟨1, F, rfl, ⟨rfl, (zB.of ⟨by decide, by decide⟩), (fun _ => bf_6), (fun _ => ⟨x_4, kx_4, (bx_4_7.w ⟨by decide, by decide⟩), (by have := bf_6.1; have := bf_6.2; have := bx_4_7.1; have := bx_4_7.2; have : (0 : Int32).toInt = 0 := (by decide); have : (1 : Int32).toInt = 1 := (by decide); have : (10 : Int32).toInt = 10 := (by decide); omega)⟩), trivial⟩, by rw [ht]; exact h.1, h.2.1, zFr.rf⟩, h.2.2.F ht⟩) h.2.2.2.2 dX6_hasFunction_26

set_option maxHeartbeats 4000000 in
set_option maxRecDepth 100000 in
theorem zc_X6_hasFunctionB (l : Launch) (D : va_G) (k : Nat → ClassId) (Γ : Nat → Option Nat) (L : List Nat) (F : Nat → va_E) (sz : Nat) (th : Nat) (f : Int32) (fc : Int32) (hth : Γ th = some 6) (bf : zB 0 9 f) (kfc : zfld F th 4 = .int fc) (bfc : zB 0 10 fc) (hr0 : f.toInt < fc.toInt) : Met l yX6_hasFunction zwX6_hasFunction ({ frames := 0, cells := 0, slots := 0, locals := 0 }) (va_Pc [.ref th, .int f] (zP D k Γ L F sz)) (va_Qi (fun (r : Int32) (u : Nat → va_E) => F = u ∧ zB 1 1 r ∧ True) (zQ D k Γ L F []) (zA L sz)) 0 0 (zA L sz) := by
  refine Met.ofW (cc := cX6_hasFunction) (maxL := 2) (ret := (some .boolean)) (by decide) rfl ?_
  intro p e s m args below meth c s₁ B hml hv
  obtain ⟨rfl, hsz, hP, hK, hLn, hE, hI⟩ := hv
  have hx := B.exec
  have hb := B.bytes
  have hr := B.returns
  have hg : ∀ w ∈ zG, w.before _ s = true := fun w h9 => atoms_spec (ws := zwX6_hasFunction) B.pre w (List.mem_cons_of_mem _ h9)
  have hown : s.vm.findClass RX6 = some m.cls := findClass_of_methodNamed B.named
  have hlocks := B.notSynchronized
  subst hsz
  have Z : zC p m c cX6_hasFunction 2 s _ zG RX6 D k L := ⟨⟨hx, hb, hml, hown, hg⟩, hK, hLn, hE⟩
  have h : zH D k Γ L s F s.heap [] := ⟨hP, hI, va_S.rf⟩
  have hl := lv_entry ([.ref th, .int f]) (n := 2) (Nat.le_of_ble_eq_true rfl)
  rw [lg_entry_eq]
  generalize (lg_sl ([.ref th, .int f]) ++ List.replicate (2 - (lg_sl ([.ref th, .int f])).length) Slot.unset).toArray = ls at hl ⊢
  have hl : lv_has ls 2 [(0, .ref th), (1, .int f)] := hl
  clear hP hK hLn hE hI
  generalize hargs : ([.ref th, .int f] : List Value).toArray = args at *
  refine z_start (fun R Q hRf hRl hQ => ?_)
  have hRf : R.frames = 0 := hRf
  have hRl : R.locals = 0 := hRl
  refine lv_iload_n hx hb dX6_hasFunction_0 rfl (lv_at hl 1 rfl) ?_
  refine lv_if_lt (tgt := 25) hx hb dX6_hasFunction_1 (by decide) (fun c_1 => ?_) (fun c_1 => ?_)
  · have c_1 := z_lt c_1
    exact zB.noLt c_1 bf (zBc 0 0 (by decide)) (by decide)
  · have c_1 := z_nlt c_1
    refine lv_iload_n hx hb dX6_hasFunction_4 rfl (lv_at hl 1 rfl) ?_
    refine lv_aload_n hx hb dX6_hasFunction_5 rfl (lv_at hl 0 rfl) ?_
    refine zt_getk (t := 6) (C := RX6) (T := TX6) (N := 6) Z h hth zin_6 rfl 4 kfc ⟨by decide, rfl, by decide⟩ (zm_RX6 (List.mem_of_getElem? (i := 6) rfl)) (fun _ h9 => h9) dX6_hasFunction_6 ?_
    refine lv_icmp_ge (tgt := 25) hx hb dX6_hasFunction_9 (by decide) (fun c_2 => ?_) (fun c_2 => ?_)
    · have c_2 := z_le c_2
      have bfc_3 : zB 0 9 fc := zB.leL c_2 bfc bf (by decide)
      refine lv_iconst (v := 0) hx hb dX6_hasFunction_25 (by decide) ?_
      exfalso
      have := bf.1; have := bf.2; have := bfc_3.1; have := bfc_3.2; have : (0 : Int32).toInt = 0 := (by decide); omega
    · have c_2 := z_nle c_2
      have bfc_4 : zB 1 10 fc := zB.ltR c_2 bf bfc (by decide)
      refine lv_iload_n hx hb dX6_hasFunction_12 rfl (lv_at hl 1 rfl) ?_
      refine lv_aload_n hx hb dX6_hasFunction_13 rfl (lv_at hl 0 rfl) ?_
      refine zt_getr (t := 6) (C := RX6) (T := TX6) (N := 6) Z h hth zin_6 rfl 2 rfl ⟨by decide, rfl⟩ (zm_RX6 (List.mem_of_getElem? (i := 11) rfl)) (fun _ h9 => h9) dX6_hasFunction_14 (fun a_5 ka_5 ha_5 => ?_)
      refine zt_alen (t := 104) Z h ha_5 ⟨by decide, rfl⟩ (by decide) (v := 10) rfl dX6_hasFunction_17 ?_
      refine lv_icmp_ge (tgt := 25) hx hb dX6_hasFunction_18 (by decide) (fun c_6 => ?_) (fun c_6 => ?_)
      · have c_6 := z_le c_6
        exact zB.noLe c_6 (zBc 10 10 (by decide)) bf (by decide)
      · have c_6 := z_nle c_6
        refine lv_iconst (v := 1) hx hb dX6_hasFunction_21 (by decide) ?_
        refine lv_goto (tgt := 26) hx hb dX6_hasFunction_22 (by decide) ?_
        subst hQ
        exact W.zret (v := 1) hx hb hr (by decide) (fun t ht hW => ⟨⟨1, F, rfl, ⟨rfl, (zB.of ⟨by decide, by decide⟩), trivial⟩, by rw [ht]; exact h.1, h.2.1, zFr.rf⟩, h.2.2.F ht⟩) h.2.2.2.2 dX6_hasFunction_26

set_option maxHeartbeats 4000000 in
set_option maxRecDepth 100000 in
theorem ze_X6_hasFunction (l : Launch) (D : va_G) (k : Nat → ClassId) (Γ : Nat → Option Nat) (L : List Nat) (F : Nat → va_E) (sz : Nat) (th : Nat) (f : Int32) (fc : Int32) (hth : Γ th = some 6) (kfc : zfld F th 4 = .int fc) (bfc : zB 0 10 fc) : Met l yX6_hasFunction zwX6_hasFunction ({ frames := 0, cells := 0, slots := 0, locals := 0 }) (va_Pc [.ref th, .int f] (zP D k Γ L F sz)) (va_Qi (fun (r : Int32) (u : Nat → va_E) => F = u ∧ zB 0 1 r ∧ (r ≠ 0 → 0 ≤ f.toInt ∧ f.toInt < fc.toInt) ∧ (r = 0 → f.toInt < 0 ∨ fc.toInt ≤ f.toInt) ∧ True) (zQ D k Γ L F []) (zA L sz)) 0 0 (zA L sz) := by
  refine Met.ofW (cc := cX6_hasFunction) (maxL := 2) (ret := (some .boolean)) (by decide) rfl ?_
  intro p e s m args below meth c s₁ B hml hv
  obtain ⟨rfl, hsz, hP, hK, hLn, hE, hI⟩ := hv
  have hx := B.exec
  have hb := B.bytes
  have hr := B.returns
  have hg : ∀ w ∈ zG, w.before _ s = true := fun w h9 => atoms_spec (ws := zwX6_hasFunction) B.pre w (List.mem_cons_of_mem _ h9)
  have hown : s.vm.findClass RX6 = some m.cls := findClass_of_methodNamed B.named
  have hlocks := B.notSynchronized
  subst hsz
  have Z : zC p m c cX6_hasFunction 2 s _ zG RX6 D k L := ⟨⟨hx, hb, hml, hown, hg⟩, hK, hLn, hE⟩
  have h : zH D k Γ L s F s.heap [] := ⟨hP, hI, va_S.rf⟩
  have hl := lv_entry ([.ref th, .int f]) (n := 2) (Nat.le_of_ble_eq_true rfl)
  rw [lg_entry_eq]
  generalize (lg_sl ([.ref th, .int f]) ++ List.replicate (2 - (lg_sl ([.ref th, .int f])).length) Slot.unset).toArray = ls at hl ⊢
  have hl : lv_has ls 2 [(0, .ref th), (1, .int f)] := hl
  clear hP hK hLn hE hI
  generalize hargs : ([.ref th, .int f] : List Value).toArray = args at *
  refine z_start (fun R Q hRf hRl hQ => ?_)
  have hRf : R.frames = 0 := hRf
  have hRl : R.locals = 0 := hRl
  have h9 := h
  refine lv_iload_n hx hb dX6_hasFunction_0 rfl (lv_at hl 1 rfl) ?_
  refine lv_if_lt (tgt := 25) hx hb dX6_hasFunction_1 (by decide) (fun c_1 => ?_) (fun c_1 => ?_)
  · have c_1 := z_lt c_1
    have bf_2 : zB (-2147483648) (-1) f := zB.ltL c_1 (zB.all f) (zBc 0 0 (by decide)) (by decide)
    refine lv_iconst (v := 0) hx hb dX6_hasFunction_25 (by decide) ?_
    subst hQ
    exact W.zret (v := 0) hx hb hr (by decide) (fun t ht hW => ⟨⟨0, F, rfl, ⟨rfl, (zB.of ⟨by decide, by decide⟩), (fun h9 => absurd rfl h9), (fun _ => by have := bf_2.1; have := bf_2.2; have := bfc.1; have := bfc.2; have : (0 : Int32).toInt = 0 := (by decide); omega), trivial⟩, by rw [ht]; exact h.1, h.2.1, zFr.rf⟩, h.2.2.F ht⟩) h.2.2.2.2 dX6_hasFunction_26
  · have c_1 := z_nlt c_1
    have bf_3 : zB 0 2147483647 f := zB.leR c_1 (zBc 0 0 (by decide)) (zB.all f) (by decide)
    refine lv_iload_n hx hb dX6_hasFunction_4 rfl (lv_at hl 1 rfl) ?_
    refine lv_aload_n hx hb dX6_hasFunction_5 rfl (lv_at hl 0 rfl) ?_
    refine zt_getk (t := 6) (C := RX6) (T := TX6) (N := 6) Z h hth zin_6 rfl 4 kfc ⟨by decide, rfl, by decide⟩ (zm_RX6 (List.mem_of_getElem? (i := 6) rfl)) (fun _ h9 => h9) dX6_hasFunction_6 ?_
    refine lv_icmp_ge (tgt := 25) hx hb dX6_hasFunction_9 (by decide) (fun c_4 => ?_) (fun c_4 => ?_)
    · have c_4 := z_le c_4
      refine lv_iconst (v := 0) hx hb dX6_hasFunction_25 (by decide) ?_
      subst hQ
      exact W.zret (v := 0) hx hb hr (by decide) (fun t ht hW => ⟨⟨0, F, rfl, ⟨rfl, (zB.of ⟨by decide, by decide⟩), (fun h9 => absurd rfl h9), (fun _ => by have := bf_3.1; have := bf_3.2; have := bfc.1; have := bfc.2; have : (0 : Int32).toInt = 0 := (by decide); omega), trivial⟩, by rw [ht]; exact h.1, h.2.1, zFr.rf⟩, h.2.2.F ht⟩) h.2.2.2.2 dX6_hasFunction_26
    · have c_4 := z_nle c_4
      have bf_5 : zB 0 9 f := zB.ltL c_4 bf_3 bfc (by decide)
      have bfc_6 : zB 1 10 fc := zB.ltR c_4 bf_3 bfc (by decide)
      refine lv_iload_n hx hb dX6_hasFunction_12 rfl (lv_at hl 1 rfl) ?_
      refine lv_aload_n hx hb dX6_hasFunction_13 rfl (lv_at hl 0 rfl) ?_
      refine zt_getr (t := 6) (C := RX6) (T := TX6) (N := 6) Z h hth zin_6 rfl 2 rfl ⟨by decide, rfl⟩ (zm_RX6 (List.mem_of_getElem? (i := 11) rfl)) (fun _ h9 => h9) dX6_hasFunction_14 (fun a_7 ka_7 ha_7 => ?_)
      refine zt_alen (t := 104) Z h ha_7 ⟨by decide, rfl⟩ (by decide) (v := 10) rfl dX6_hasFunction_17 ?_
      refine lv_icmp_ge (tgt := 25) hx hb dX6_hasFunction_18 (by decide) (fun c_8 => ?_) (fun c_8 => ?_)
      · have c_8 := z_le c_8
        exact zB.noLe c_8 (zBc 10 10 (by decide)) bf_5 (by decide)
      · have c_8 := z_nle c_8
        refine lv_iconst (v := 1) hx hb dX6_hasFunction_21 (by decide) ?_
        refine lv_goto (tgt := 26) hx hb dX6_hasFunction_22 (by decide) ?_
        subst hQ
        exact W.zret (v := 1) hx hb hr (by decide) (fun t ht hW => ⟨⟨1, F, rfl, ⟨rfl, (zB.of ⟨by decide, by decide⟩), (fun _ => by have := bf_5.1; have := bf_5.2; have := bfc_6.1; have := bfc_6.2; have : (0 : Int32).toInt = 0 := (by decide); have : (1 : Int32).toInt = 1 := (by decide); have : (10 : Int32).toInt = 10 := (by decide); omega), (fun h9 => absurd h9 (by decide)), trivial⟩, by rw [ht]; exact h.1, h.2.1, zFr.rf⟩, h.2.2.F ht⟩) h.2.2.2.2 dX6_hasFunction_26

set_option maxHeartbeats 4000000 in
set_option maxRecDepth 100000 in
theorem zc_X6_hasLine (l : Launch) (D : va_G) (k : Nat → ClassId) (Γ : Nat → Option Nat) (L : List Nat) (F : Nat → va_E) (sz : Nat) (th : Nat) (li : Int32) (hth : Γ th = some 6) : Met l yX6_hasLine zwX6_hasLine ({ frames := 0, cells := 0, slots := 0, locals := 0 }) (va_Pc [.ref th, .int li] (zP D k Γ L F sz)) (va_Qi (fun (r : Int32) (u : Nat → va_E) => F = u ∧ zB 0 1 r ∧ (r ≠ 0 → zB 0 59 li) ∧ True) (zQ D k Γ L F []) (zA L sz)) 0 0 (zA L sz) := by
  refine Met.ofW (cc := cX6_hasLine) (maxL := 2) (ret := (some .boolean)) (by decide) rfl ?_
  intro p e s m args below meth c s₁ B hml hv
  obtain ⟨rfl, hsz, hP, hK, hLn, hE, hI⟩ := hv
  have hx := B.exec
  have hb := B.bytes
  have hr := B.returns
  have hg : ∀ w ∈ zG, w.before _ s = true := fun w h9 => atoms_spec (ws := zwX6_hasLine) B.pre w (List.mem_cons_of_mem _ h9)
  have hown : s.vm.findClass RX6 = some m.cls := findClass_of_methodNamed B.named
  have hlocks := B.notSynchronized
  subst hsz
  have Z : zC p m c cX6_hasLine 2 s _ zG RX6 D k L := ⟨⟨hx, hb, hml, hown, hg⟩, hK, hLn, hE⟩
  have h : zH D k Γ L s F s.heap [] := ⟨hP, hI, va_S.rf⟩
  have hl := lv_entry ([.ref th, .int li]) (n := 2) (Nat.le_of_ble_eq_true rfl)
  rw [lg_entry_eq]
  generalize (lg_sl ([.ref th, .int li]) ++ List.replicate (2 - (lg_sl ([.ref th, .int li])).length) Slot.unset).toArray = ls at hl ⊢
  have hl : lv_has ls 2 [(0, .ref th), (1, .int li)] := hl
  clear hP hK hLn hE hI
  generalize hargs : ([.ref th, .int li] : List Value).toArray = args at *
  refine z_start (fun R Q hRf hRl hQ => ?_)
  have hRf : R.frames = 0 := hRf
  have hRl : R.locals = 0 := hRl
  refine lv_iload_n hx hb dX6_hasLine_0 rfl (lv_at hl 1 rfl) ?_
  refine lv_if_lt (tgt := 25) hx hb dX6_hasLine_1 (by decide) (fun c_1 => ?_) (fun c_1 => ?_)
  · have c_1 := z_lt c_1
    have bli_2 : zB (-2147483648) (-1) li := zB.ltL c_1 (zB.all li) (zBc 0 0 (by decide)) (by decide)
    refine lv_iconst (v := 0) hx hb dX6_hasLine_25 (by decide) ?_
    subst hQ
    exact W.zret (v := 0) hx hb hr (by decide) (fun t ht hW => ⟨⟨0, F, rfl, ⟨rfl, (zB.of ⟨by decide, by decide⟩), (fun h9 => absurd rfl h9), trivial⟩, by rw [ht]; exact h.1, h.2.1, zFr.rf⟩, h.2.2.F ht⟩) h.2.2.2.2 dX6_hasLine_26
  · have c_1 := z_nlt c_1
    have bli_3 : zB 0 2147483647 li := zB.leR c_1 (zBc 0 0 (by decide)) (zB.all li) (by decide)
    refine lv_iload_n hx hb dX6_hasLine_4 rfl (lv_at hl 1 rfl) ?_
    refine lv_aload_n hx hb dX6_hasLine_5 rfl (lv_at hl 0 rfl) ?_
    refine zt_geti (t := 6) (C := RX6) (T := TX6) (N := 6) Z h hth zin_6 rfl 5 rfl ⟨by decide, rfl⟩ (zm_RX6 (List.mem_of_getElem? (i := 7) rfl)) (fun _ h9 => h9) dX6_hasLine_6 (fun x_4 kx_4 bx_4 => ?_)
    refine lv_icmp_ge (tgt := 25) hx hb dX6_hasLine_9 (by decide) (fun c_5 => ?_) (fun c_5 => ?_)
    · have c_5 := z_le c_5
      refine lv_iconst (v := 0) hx hb dX6_hasLine_25 (by decide) ?_
      subst hQ
      exact W.zret (v := 0) hx hb hr (by decide) (fun t ht hW => ⟨⟨0, F, rfl, ⟨rfl, (zB.of ⟨by decide, by decide⟩), (fun h9 => absurd rfl h9), trivial⟩, by rw [ht]; exact h.1, h.2.1, zFr.rf⟩, h.2.2.F ht⟩) h.2.2.2.2 dX6_hasLine_26
    · have c_5 := z_nle c_5
      have bli_6 : zB 0 59 li := zB.ltL c_5 bli_3 bx_4 (by decide)
      have bx_4_7 : zB 1 60 x_4 := zB.ltR c_5 bli_3 bx_4 (by decide)
      refine lv_iload_n hx hb dX6_hasLine_12 rfl (lv_at hl 1 rfl) ?_
      refine lv_aload_n hx hb dX6_hasLine_13 rfl (lv_at hl 0 rfl) ?_
      refine zt_getr (t := 6) (C := RX6) (T := TX6) (N := 6) Z h hth zin_6 rfl 3 rfl ⟨by decide, rfl⟩ (zm_RX6 (List.mem_of_getElem? (i := 13) rfl)) (fun _ h9 => h9) dX6_hasLine_14 (fun a_8 ka_8 ha_8 => ?_)
      refine zt_alen (t := 105) Z h ha_8 ⟨by decide, rfl⟩ (by decide) (v := 60) rfl dX6_hasLine_17 ?_
      refine lv_icmp_ge (tgt := 25) hx hb dX6_hasLine_18 (by decide) (fun c_9 => ?_) (fun c_9 => ?_)
      · have c_9 := z_le c_9
        exact zB.noLe c_9 (zBc 60 60 (by decide)) bli_6 (by decide)
      · have c_9 := z_nle c_9
        refine lv_iconst (v := 1) hx hb dX6_hasLine_21 (by decide) ?_
        refine lv_goto (tgt := 26) hx hb dX6_hasLine_22 (by decide) ?_
        subst hQ
        exact W.zret (v := 1) hx hb hr (by decide) (fun t ht hW => ⟨⟨1, F, rfl, ⟨rfl, (zB.of ⟨by decide, by decide⟩), (fun _ => bli_6), trivial⟩, by rw [ht]; exact h.1, h.2.1, zFr.rf⟩, h.2.2.F ht⟩) h.2.2.2.2 dX6_hasLine_26

set_option maxHeartbeats 4000000 in
set_option maxRecDepth 100000 in
theorem ze_X6_hasLine (l : Launch) (D : va_G) (k : Nat → ClassId) (Γ : Nat → Option Nat) (L : List Nat) (F : Nat → va_E) (sz : Nat) (th : Nat) (li : Int32) (lc : Int32) (hth : Γ th = some 6) (klc : zfld F th 5 = .int lc) (blc : zB 0 60 lc) : Met l yX6_hasLine zwX6_hasLine ({ frames := 0, cells := 0, slots := 0, locals := 0 }) (va_Pc [.ref th, .int li] (zP D k Γ L F sz)) (va_Qi (fun (r : Int32) (u : Nat → va_E) => F = u ∧ zB 0 1 r ∧ (r ≠ 0 → zB 0 59 li) ∧ (r ≠ 0 → 0 ≤ li.toInt ∧ li.toInt < lc.toInt) ∧ (r = 0 → li.toInt < 0 ∨ lc.toInt ≤ li.toInt) ∧ True) (zQ D k Γ L F []) (zA L sz)) 0 0 (zA L sz) := by
  refine Met.ofW (cc := cX6_hasLine) (maxL := 2) (ret := (some .boolean)) (by decide) rfl ?_
  intro p e s m args below meth c s₁ B hml hv
  obtain ⟨rfl, hsz, hP, hK, hLn, hE, hI⟩ := hv
  have hx := B.exec
  have hb := B.bytes
  have hr := B.returns
  have hg : ∀ w ∈ zG, w.before _ s = true := fun w h9 => atoms_spec (ws := zwX6_hasLine) B.pre w (List.mem_cons_of_mem _ h9)
  have hown : s.vm.findClass RX6 = some m.cls := findClass_of_methodNamed B.named
  have hlocks := B.notSynchronized
  subst hsz
  have Z : zC p m c cX6_hasLine 2 s _ zG RX6 D k L := ⟨⟨hx, hb, hml, hown, hg⟩, hK, hLn, hE⟩
  have h : zH D k Γ L s F s.heap [] := ⟨hP, hI, va_S.rf⟩
  have hl := lv_entry ([.ref th, .int li]) (n := 2) (Nat.le_of_ble_eq_true rfl)
  rw [lg_entry_eq]
  generalize (lg_sl ([.ref th, .int li]) ++ List.replicate (2 - (lg_sl ([.ref th, .int li])).length) Slot.unset).toArray = ls at hl ⊢
  have hl : lv_has ls 2 [(0, .ref th), (1, .int li)] := hl
  clear hP hK hLn hE hI
  generalize hargs : ([.ref th, .int li] : List Value).toArray = args at *
  refine z_start (fun R Q hRf hRl hQ => ?_)
  have hRf : R.frames = 0 := hRf
  have hRl : R.locals = 0 := hRl
  have h9 := h
  refine lv_iload_n hx hb dX6_hasLine_0 rfl (lv_at hl 1 rfl) ?_
  refine lv_if_lt (tgt := 25) hx hb dX6_hasLine_1 (by decide) (fun c_1 => ?_) (fun c_1 => ?_)
  · have c_1 := z_lt c_1
    have bli_2 : zB (-2147483648) (-1) li := zB.ltL c_1 (zB.all li) (zBc 0 0 (by decide)) (by decide)
    refine lv_iconst (v := 0) hx hb dX6_hasLine_25 (by decide) ?_
    subst hQ
    exact W.zret (v := 0) hx hb hr (by decide) (fun t ht hW => ⟨⟨0, F, rfl, ⟨rfl, (zB.of ⟨by decide, by decide⟩), (fun h9 => absurd rfl h9), (fun h9 => absurd rfl h9), (fun _ => by have := bli_2.1; have := bli_2.2; have := blc.1; have := blc.2; have : (0 : Int32).toInt = 0 := (by decide); omega), trivial⟩, by rw [ht]; exact h.1, h.2.1, zFr.rf⟩, h.2.2.F ht⟩) h.2.2.2.2 dX6_hasLine_26
  · have c_1 := z_nlt c_1
    have bli_3 : zB 0 2147483647 li := zB.leR c_1 (zBc 0 0 (by decide)) (zB.all li) (by decide)
    refine lv_iload_n hx hb dX6_hasLine_4 rfl (lv_at hl 1 rfl) ?_
    refine lv_aload_n hx hb dX6_hasLine_5 rfl (lv_at hl 0 rfl) ?_
    refine zt_getk (t := 6) (C := RX6) (T := TX6) (N := 6) Z h hth zin_6 rfl 5 klc ⟨by decide, rfl, by decide⟩ (zm_RX6 (List.mem_of_getElem? (i := 7) rfl)) (fun _ h9 => h9) dX6_hasLine_6 ?_
    refine lv_icmp_ge (tgt := 25) hx hb dX6_hasLine_9 (by decide) (fun c_4 => ?_) (fun c_4 => ?_)
    · have c_4 := z_le c_4
      refine lv_iconst (v := 0) hx hb dX6_hasLine_25 (by decide) ?_
      subst hQ
      exact W.zret (v := 0) hx hb hr (by decide) (fun t ht hW => ⟨⟨0, F, rfl, ⟨rfl, (zB.of ⟨by decide, by decide⟩), (fun h9 => absurd rfl h9), (fun h9 => absurd rfl h9), (fun _ => by have := bli_3.1; have := bli_3.2; have := blc.1; have := blc.2; have : (0 : Int32).toInt = 0 := (by decide); omega), trivial⟩, by rw [ht]; exact h.1, h.2.1, zFr.rf⟩, h.2.2.F ht⟩) h.2.2.2.2 dX6_hasLine_26
    · have c_4 := z_nle c_4
      have bli_5 : zB 0 59 li := zB.ltL c_4 bli_3 blc (by decide)
      have blc_6 : zB 1 60 lc := zB.ltR c_4 bli_3 blc (by decide)
      refine lv_iload_n hx hb dX6_hasLine_12 rfl (lv_at hl 1 rfl) ?_
      refine lv_aload_n hx hb dX6_hasLine_13 rfl (lv_at hl 0 rfl) ?_
      refine zt_getr (t := 6) (C := RX6) (T := TX6) (N := 6) Z h hth zin_6 rfl 3 rfl ⟨by decide, rfl⟩ (zm_RX6 (List.mem_of_getElem? (i := 13) rfl)) (fun _ h9 => h9) dX6_hasLine_14 (fun a_7 ka_7 ha_7 => ?_)
      refine zt_alen (t := 105) Z h ha_7 ⟨by decide, rfl⟩ (by decide) (v := 60) rfl dX6_hasLine_17 ?_
      refine lv_icmp_ge (tgt := 25) hx hb dX6_hasLine_18 (by decide) (fun c_8 => ?_) (fun c_8 => ?_)
      · have c_8 := z_le c_8
        exact zB.noLe c_8 (zBc 60 60 (by decide)) bli_5 (by decide)
      · have c_8 := z_nle c_8
        refine lv_iconst (v := 1) hx hb dX6_hasLine_21 (by decide) ?_
        refine lv_goto (tgt := 26) hx hb dX6_hasLine_22 (by decide) ?_
        subst hQ
        exact W.zret (v := 1) hx hb hr (by decide) (fun t ht hW => ⟨⟨1, F, rfl, ⟨rfl, (zB.of ⟨by decide, by decide⟩), (fun _ => bli_5), (fun _ => by have := bli_5.1; have := bli_5.2; have := blc_6.1; have := blc_6.2; have : (0 : Int32).toInt = 0 := (by decide); have : (1 : Int32).toInt = 1 := (by decide); have : (60 : Int32).toInt = 60 := (by decide); omega), (fun h9 => absurd h9 (by decide)), trivial⟩, by rw [ht]; exact h.1, h.2.1, zFr.rf⟩, h.2.2.F ht⟩) h.2.2.2.2 dX6_hasLine_26

set_option maxHeartbeats 4000000 in
set_option maxRecDepth 100000 in
theorem zc_X6_addLine (l : Launch) (D : va_G) (k : Nat → ClassId) (Γ : Nat → Option Nat) (L : List Nat) (F : Nat → va_E) (sz : Nat) (th : Nat) (kd : Int32) (at_ : Int32) (bl : Int32) (hth : Γ th = some 6) : Met l yX6_addLine zwX6_addLine ({ frames := 0, cells := 0, slots := 0, locals := 0 }) (va_Pc [.ref th, .int kd, .int at_, .int bl] (zP D k Γ L F sz)) (va_Qi (fun (r : Int32) (u : Nat → va_E) => zB (-1) 59 r ∧ True) (zQ D k Γ L F [400, 401, 402, 403, 605]) (zA L sz)) 0 0 (zA L sz) := by
  refine Met.ofW (cc := cX6_addLine) (maxL := 5) (ret := (some .int)) (by decide) rfl ?_
  intro p e s m args below meth c s₁ B hml hv
  obtain ⟨rfl, hsz, hP, hK, hLn, hE, hI⟩ := hv
  have hx := B.exec
  have hb := B.bytes
  have hr := B.returns
  have hg : ∀ w ∈ zG, w.before _ s = true := fun w h9 => atoms_spec (ws := zwX6_addLine) B.pre w (List.mem_cons_of_mem _ h9)
  have hown : s.vm.findClass RX6 = some m.cls := findClass_of_methodNamed B.named
  have hlocks := B.notSynchronized
  subst hsz
  have Z : zC p m c cX6_addLine 5 s _ zG RX6 D k L := ⟨⟨hx, hb, hml, hown, hg⟩, hK, hLn, hE⟩
  have h : zH D k Γ L s F s.heap [] := ⟨hP, hI, va_S.rf⟩
  have hl := lv_entry ([.ref th, .int kd, .int at_, .int bl]) (n := 5) (Nat.le_of_ble_eq_true rfl)
  rw [lg_entry_eq]
  generalize (lg_sl ([.ref th, .int kd, .int at_, .int bl]) ++ List.replicate (5 - (lg_sl ([.ref th, .int kd, .int at_, .int bl])).length) Slot.unset).toArray = ls at hl ⊢
  have hl : lv_has ls 5 [(0, .ref th), (1, .int kd), (2, .int at_), (3, .int bl)] := hl
  clear hP hK hLn hE hI
  generalize hargs : ([.ref th, .int kd, .int at_, .int bl] : List Value).toArray = args at *
  refine z_start (fun R Q hRf hRl hQ => ?_)
  have hRf : R.frames = 0 := hRf
  have hRl : R.locals = 0 := hRl
  refine lv_aload_n hx hb dX6_addLine_0 rfl (lv_at hl 0 rfl) ?_
  refine zt_geti (t := 6) (C := RX6) (T := TX6) (N := 6) Z h hth zin_6 rfl 5 rfl ⟨by decide, rfl⟩ (zm_RX6 (List.mem_of_getElem? (i := 7) rfl)) (fun _ h9 => h9) dX6_addLine_1 (fun x_1 kx_1 bx_1 => ?_)
  refine lv_aload_n hx hb dX6_addLine_4 rfl (lv_at hl 0 rfl) ?_
  refine zt_getr (t := 6) (C := RX6) (T := TX6) (N := 6) Z h hth zin_6 rfl 3 rfl ⟨by decide, rfl⟩ (zm_RX6 (List.mem_of_getElem? (i := 13) rfl)) (fun _ h9 => h9) dX6_addLine_5 (fun a_2 ka_2 ha_2 => ?_)
  refine zt_alen (t := 105) Z h ha_2 ⟨by decide, rfl⟩ (by decide) (v := 60) rfl dX6_addLine_8 ?_
  refine lv_icmp_lt (tgt := 14) hx hb dX6_addLine_9 (by decide) (fun c_3 => ?_) (fun c_3 => ?_)
  · have c_3 := z_lt c_3
    have bx_1_4 : zB 0 59 x_1 := zB.ltL c_3 bx_1 (zBc 60 60 (by decide)) (by decide)
    refine lv_aload_n hx hb dX6_addLine_14 rfl (lv_at hl 0 rfl) ?_
    refine zt_getk (t := 6) (C := RX6) (T := TX6) (N := 6) Z h hth zin_6 rfl 3 ka_2 ⟨by decide, rfl, by decide⟩ (zm_RX6 (List.mem_of_getElem? (i := 13) rfl)) (fun _ h9 => h9) dX6_addLine_15 ?_
    refine lv_aload_n hx hb dX6_addLine_18 rfl (lv_at hl 0 rfl) ?_
    refine zt_getk (t := 6) (C := RX6) (T := TX6) (N := 6) Z h hth zin_6 rfl 5 kx_1 ⟨by decide, rfl, by decide⟩ (zm_RX6 (List.mem_of_getElem? (i := 7) rfl)) (fun _ h9 => h9) dX6_addLine_19 ?_
    refine zt_aald (t := 105) (t1 := 4) Z h ha_2 ⟨by decide, rfl⟩ (by decide) bx_1_4 ⟨by decide, by decide⟩ dX6_addLine_22 (fun a_5 ha_5 => ?_)
    refine lv_astore (lv' := [(4, .ref a_5), (0, .ref th), (1, .int kd), (2, .int at_), (3, .int bl)]) hx hb dX6_addLine_23 hl (by decide) rfl (fun ls hl => ?_)
    refine lv_aload hx hb dX6_addLine_25 (lv_at hl 0 rfl) ?_
    refine lv_iload_n hx hb dX6_addLine_27 rfl (lv_at hl 2 rfl) ?_
    refine zt_put (t := 4) (C := RX4) (T := TX4) (N := 4) (v := .int kd) Z h ha_5 zin_4 tyX4 tyX4_ok nmX4 rfl 0 rfl ⟨by decide, rfl⟩ (zm_RX6 (List.mem_of_getElem? (i := 15) rfl)) (fun _ h9 => h9) rfl (zV.i (zB.all kd)) rfl rfl dX6_addLine_28 (fun H locs F_6 h hfF_6 kF_6 => ?_)
    refine lv_aload hx hb dX6_addLine_31 (lv_at hl 0 rfl) ?_
    refine lv_aload_n hx hb dX6_addLine_33 rfl (lv_at hl 1 rfl) ?_
    refine zt_geti (t := 6) (C := RX6) (T := TX6) (N := 6) Z h hth zin_6 rfl 4 rfl ⟨by decide, rfl⟩ (zm_RX6 (List.mem_of_getElem? (i := 6) rfl)) (fun _ h9 => h9) dX6_addLine_34 (fun x_7 kx_7 bx_7 => ?_)
    refine zt_put (t := 4) (C := RX4) (T := TX4) (N := 4) (v := .int x_7) Z h ha_5 zin_4 tyX4 tyX4_ok nmX4 rfl 1 rfl ⟨by decide, rfl⟩ (zm_RX6 (List.mem_of_getElem? (i := 16) rfl)) (fun _ h9 => h9) rfl (zV.i (bx_7.w ⟨by decide, by decide⟩)) rfl rfl dX6_addLine_37 (fun H locs F_8 h hfF_8 kF_8 => ?_)
    refine lv_aload hx hb dX6_addLine_40 (lv_at hl 0 rfl) ?_
    refine lv_iload_n hx hb dX6_addLine_42 rfl (lv_at hl 3 rfl) ?_
    refine zt_put (t := 4) (C := RX4) (T := TX4) (N := 4) (v := .int at_) Z h ha_5 zin_4 tyX4 tyX4_ok nmX4 rfl 2 rfl ⟨by decide, rfl⟩ (zm_RX6 (List.mem_of_getElem? (i := 17) rfl)) (fun _ h9 => h9) rfl (zV.i (zB.all at_)) rfl rfl dX6_addLine_43 (fun H locs F_9 h hfF_9 kF_9 => ?_)
    refine lv_aload hx hb dX6_addLine_46 (lv_at hl 0 rfl) ?_
    refine lv_iload_n hx hb dX6_addLine_48 rfl (lv_at hl 4 rfl) ?_
    refine zt_put (t := 4) (C := RX4) (T := TX4) (N := 4) (v := .int bl) Z h ha_5 zin_4 tyX4 tyX4_ok nmX4 rfl 3 rfl ⟨by decide, rfl⟩ (zm_RX6 (List.mem_of_getElem? (i := 18) rfl)) (fun _ h9 => h9) rfl (zV.i (zB.all bl)) rfl rfl dX6_addLine_49 (fun H locs F_10 h hfF_10 kF_10 => ?_)
    refine lv_aload_n hx hb dX6_addLine_52 rfl (lv_at hl 1 rfl) ?_
    refine lv_dup hx hb dX6_addLine_53 rfl ?_
    refine zt_getk (t := 6) (C := RX6) (T := TX6) (N := 6) Z h hth zin_6 rfl 5 (hfF_10.f hth 5 ⟨by decide, by decide⟩ (hfF_9.f hth 5 ⟨by decide, by decide⟩ (hfF_8.f hth 5 ⟨by decide, by decide⟩ (hfF_6.f hth 5 ⟨by decide, by decide⟩ kx_1)))) ⟨by decide, rfl, by decide⟩ (zm_RX6 (List.mem_of_getElem? (i := 7) rfl)) (fun _ h9 => h9) dX6_addLine_54 ?_
    refine lv_iconst (v := 1) hx hb dX6_addLine_57 (by decide) ?_
    refine lv_iadd hx hb dX6_addLine_58 ?_
    refine zi_add (lo := 1) (hi := 60) bx_1_4 (zBc 1 1 (by decide)) (by decide) (fun x_11 bx_11 tx_11 => ?_)
    refine zt_put (t := 6) (C := RX6) (T := TX6) (N := 6) (v := .int x_11) Z h hth zin_6 tyX6 tyX6_ok nmX6 rfl 5 rfl ⟨by decide, rfl⟩ (zm_RX6 (List.mem_of_getElem? (i := 7) rfl)) (fun _ h9 => h9) rfl (zV.i (bx_11.w ⟨by decide, by decide⟩)) rfl rfl dX6_addLine_59 (fun H locs F_12 h hfF_12 kF_12 => ?_)
    refine lv_aload_n hx hb dX6_addLine_62 rfl (lv_at hl 1 rfl) ?_
    refine zt_getk (t := 6) (C := RX6) (T := TX6) (N := 6) Z h hth zin_6 rfl 5 kF_12 ⟨by decide, rfl, by decide⟩ (zm_RX6 (List.mem_of_getElem? (i := 7) rfl)) (fun _ h9 => h9) dX6_addLine_63 ?_
    refine lv_iconst (v := 1) hx hb dX6_addLine_66 (by decide) ?_
    refine lv_isub hx hb dX6_addLine_67 ?_
    refine zi_sub (lo := 0) (hi := 59) bx_11 (zBc 1 1 (by decide)) (by decide) (fun x_13 bx_13 tx_13 => ?_)
    subst hQ
    exact W.iret (v := x_13) hx hb hr (fun t ht hW => ⟨⟨x_13, F_12, rfl, ⟨(bx_13.w ⟨by decide, by decide⟩), trivial⟩, by rw [ht]; exact h.1, h.2.1, (((((hfF_6.w (by decide)).trans hfF_8 (by decide)).trans hfF_9 (by decide)).trans hfF_10 (by decide)).trans hfF_12 (by decide))⟩, h.2.2.F ht⟩) h.2.2.2.2 dX6_addLine_68
  · have c_3 := z_nlt c_3
    have bx_1_14 : zB 60 60 x_1 := zB.leR c_3 (zBc 60 60 (by decide)) bx_1 (by decide)
    refine lv_iconst (v := (-1)) hx hb dX6_addLine_12 (by decide) ?_
    subst hQ
    exact W.iret (v := (-1)) hx hb hr (fun t ht hW => ⟨⟨(-1), F, rfl, ⟨(zB.of ⟨by decide, by decide⟩), trivial⟩, by rw [ht]; exact h.1, h.2.1, zFr.rf⟩, h.2.2.F ht⟩) h.2.2.2.2 dX6_addLine_13

set_option maxHeartbeats 4000000 in
set_option maxRecDepth 100000 in
theorem zc_X6_functionNamed (l : Launch) (D : va_G) (k : Nat → ClassId) (Γ : Nat → Option Nat) (L : List Nat) (F : Nat → va_E) (sz : Nat) (th : Nat) (ot : Nat) (t : Int32) (hth : Γ th = some 6) (hot : Γ ot = some 8) : Met l yX6_functionNamed zwX6_functionNamed ({ frames := 3, cells := 0, slots := 0, locals := 67 }) (va_Pc [.ref th, .ref ot, .int t] (zP D k Γ L F sz)) (va_Qi (fun (r : Int32) (u : Nat → va_E) => F = u ∧ zB (-1) 9 r ∧ True) (zQ D k Γ L F []) (zA L sz)) 0 0 (zA L sz) := by
  refine Met.ofW (cc := cX6_functionNamed) (maxL := 4) (ret := (some .int)) (by decide) rfl ?_
  intro p e s m args below meth c s₁ B hml hv
  obtain ⟨rfl, hsz, hP, hK, hLn, hE, hI⟩ := hv
  have hx := B.exec
  have hb := B.bytes
  have hr := B.returns
  have hg : ∀ w ∈ zG, w.before _ s = true := fun w h9 => atoms_spec (ws := zwX6_functionNamed) B.pre w (List.mem_cons_of_mem _ h9)
  have hown : s.vm.findClass RX6 = some m.cls := findClass_of_methodNamed B.named
  have hlocks := B.notSynchronized
  subst hsz
  have Z : zC p m c cX6_functionNamed 4 s _ zG RX6 D k L := ⟨⟨hx, hb, hml, hown, hg⟩, hK, hLn, hE⟩
  have h : zH D k Γ L s F s.heap [] := ⟨hP, hI, va_S.rf⟩
  have hl := lv_entry ([.ref th, .ref ot, .int t]) (n := 4) (Nat.le_of_ble_eq_true rfl)
  rw [lg_entry_eq]
  generalize (lg_sl ([.ref th, .ref ot, .int t]) ++ List.replicate (4 - (lg_sl ([.ref th, .ref ot, .int t])).length) Slot.unset).toArray = ls at hl ⊢
  have hl : lv_has ls 4 [(0, .ref th), (1, .ref ot), (2, .int t)] := hl
  clear hP hK hLn hE hI
  generalize hargs : ([.ref th, .ref ot, .int t] : List Value).toArray = args at *
  refine z_start (fun R Q hRf hRl hQ => ?_)
  have hRf : R.frames = 3 := hRf
  have hRl : R.locals = 67 := hRl
  refine lv_iconst (v := 0) hx hb dX6_functionNamed_0 (by decide) ?_
  refine lv_istore_n (lv' := [(3, .int 0), (0, .ref th), (1, .ref ot), (2, .int t)]) hx hb dX6_functionNamed_1 rfl hl (by decide) rfl (fun ls hl => ?_)
  have j_j2_1 : ∀ (n : Nat) (ls : Array Slot) (y3_j2_1 : Int32) (H : Heap) (locs : List Loc), lv_has ls 4 [(3, .int y3_j2_1), (0, .ref th), (1, .ref ot), (2, .int t)] → zB 0 10 y3_j2_1 → zH D k Γ L s F H locs → (2147483647 - y3_j2_1.toInt).toNat = n → W p l e R s m args below meth c H locs 0 0 Q (F0 m 2 ls []) := by
    intro n
    induction n using Nat.strongRecOn with
    | _ n ih_j2_1 =>
      intro ls y3_j2_1 H locs hl by3_j2_1 h hn_j2_1
      refine lv_iload_n hx hb dX6_functionNamed_2 rfl (lv_at hl 0 rfl) ?_
      refine lv_aload_n hx hb dX6_functionNamed_3 rfl (lv_at hl 1 rfl) ?_
      refine zt_geti (t := 6) (C := RX6) (T := TX6) (N := 6) Z h hth zin_6 rfl 4 rfl ⟨by decide, rfl⟩ (zm_RX6 (List.mem_of_getElem? (i := 6) rfl)) (fun _ h9 => h9) dX6_functionNamed_4 (fun x_2 kx_2 bx_2 => ?_)
      refine lv_icmp_ge (tgt := 48) hx hb dX6_functionNamed_7 (by decide) (fun c_3 => ?_) (fun c_3 => ?_)
      · have c_3 := z_le c_3
        refine lv_iconst (v := (-1)) hx hb dX6_functionNamed_48 (by decide) ?_
        subst hQ
        exact W.iret (v := (-1)) hx hb hr (fun t ht hW => ⟨⟨(-1), F, rfl, ⟨rfl, (zB.of ⟨by decide, by decide⟩), trivial⟩, by rw [ht]; exact h.1, h.2.1, zFr.rf⟩, h.2.2.F ht⟩) h.2.2.2.2 dX6_functionNamed_49
      · have c_3 := z_nle c_3
        have by3_j2_1_4 : zB 0 9 y3_j2_1 := zB.ltL c_3 by3_j2_1 bx_2 (by decide)
        have bx_2_5 : zB 1 10 x_2 := zB.ltR c_3 by3_j2_1 bx_2 (by decide)
        refine lv_iload_n hx hb dX6_functionNamed_10 rfl (lv_at hl 0 rfl) ?_
        refine lv_aload_n hx hb dX6_functionNamed_11 rfl (lv_at hl 1 rfl) ?_
        refine zt_getr (t := 6) (C := RX6) (T := TX6) (N := 6) Z h hth zin_6 rfl 2 rfl ⟨by decide, rfl⟩ (zm_RX6 (List.mem_of_getElem? (i := 11) rfl)) (fun _ h9 => h9) dX6_functionNamed_12 (fun a_6 ka_6 ha_6 => ?_)
        refine zt_alen (t := 104) Z h ha_6 ⟨by decide, rfl⟩ (by decide) (v := 10) rfl dX6_functionNamed_15 ?_
        refine lv_icmp_ge (tgt := 48) hx hb dX6_functionNamed_16 (by decide) (fun c_7 => ?_) (fun c_7 => ?_)
        · have c_7 := z_le c_7
          exact zB.noLe c_7 (zBc 10 10 (by decide)) by3_j2_1_4 (by decide)
        · have c_7 := z_nle c_7
          refine lv_aload_n hx hb dX6_functionNamed_19 rfl (lv_at hl 1 rfl) ?_
          refine zt_getr (t := 6) (C := RX6) (T := TX6) (N := 6) Z h hth zin_6 rfl 0 rfl ⟨by decide, rfl⟩ (zm_RX6 (List.mem_of_getElem? (i := 20) rfl)) (fun _ h9 => h9) dX6_functionNamed_20 (fun a_8 ka_8 ha_8 => ?_)
          refine lv_aload_n hx hb dX6_functionNamed_23 rfl (lv_at hl 1 rfl) ?_
          refine zt_getk (t := 6) (C := RX6) (T := TX6) (N := 6) Z h hth zin_6 rfl 2 ka_6 ⟨by decide, rfl, by decide⟩ (zm_RX6 (List.mem_of_getElem? (i := 11) rfl)) (fun _ h9 => h9) dX6_functionNamed_24 ?_
          refine lv_iload_n hx hb dX6_functionNamed_27 rfl (lv_at hl 0 rfl) ?_
          refine zt_aald (t := 104) (t1 := 2) Z h ha_6 ⟨by decide, rfl⟩ (by decide) by3_j2_1_4 ⟨by decide, by decide⟩ dX6_functionNamed_28 (fun a_9 ha_9 => ?_)
          refine zt_geti (t := 2) (C := RX2) (T := TX2) (N := 9) Z h ha_9 zin_2 rfl 0 rfl ⟨by decide, rfl⟩ (zm_RX6 (List.mem_of_getElem? (i := 21) rfl)) (fun _ h9 => h9) dX6_functionNamed_29 (fun x_10 kx_10 bx_10 => ?_)
          refine lv_aload_n hx hb dX6_functionNamed_32 rfl (lv_at hl 2 rfl) ?_
          refine lv_iload_n hx hb dX6_functionNamed_33 rfl (lv_at hl 3 rfl) ?_
          refine zk_Vi (As := [.int x_10, .ref ot, .int t]) (rest := []) (bytes := cX8_isLike) (maxL := 5) (ret := (some .boolean)) Z h (zc_X8_isLike l D k Γ L F H.size a_8 x_10 ot t ha_8 hot) (cwV 3 hg zv_RX6_64 rfl rfl rfl zd_X8_isLike ⟨z_leR hRf (by decide), z_leR hRl (by decide)⟩) ha_8 (by decide) rfl rfl hl.1 rfl (Nat.le_of_ble_eq_true rfl) dX6_functionNamed_34 ⟨Nat.zero_le _, Nat.zero_le _⟩ (fun r_11 F_12 H locs w_13 h hfF_12 => ?_)
          obtain ⟨rfl, br_11, -⟩ := w_13
          refine lv_if_eq (tgt := 42) hx hb dX6_functionNamed_37 (by decide) (fun c_14 => ?_) (fun c_14 => ?_)
          · have c_14 := z_eq c_14
            have br_11_15 : zB 0 0 r_11 := zB.eqL (a := 0) (b := 0) c_14 (zBc 0 0 (by decide))
            obtain ⟨x_16, ex_16, bx_16, tx_16⟩ := z_inc (n := 1) (lo := 1) (hi := 10) by3_j2_1_4 (by decide)
            refine lv_iinc (v := x_16) (lv' := [(3, .int x_16), (0, .ref th), (1, .ref ot), (2, .int t)]) hx hb dX6_functionNamed_42 hl (k := 0) rfl ex_16 (by decide) rfl (fun ls hl => ?_)
            refine lv_goto (tgt := 2) hx hb dX6_functionNamed_45 (by decide) ?_
            exact ih_j2_1 _ (by have := bx_16.1; have := bx_16.2; have := (zB.all t).1; have := (zB.all t).2; have := bx_2_5.1; have := bx_2_5.2; have := bx_10.1; have := bx_10.2; have : (0 : Int32).toInt = 0 := (by decide); have : (10 : Int32).toInt = 10 := (by decide); have := by3_j2_1.1; have := by3_j2_1.2; omega) ls x_16 H locs (lv_sub hl [0, 1, 2, 3] rfl) (bx_16.w ⟨by decide, by decide⟩) h rfl
          · have c_14 := z_ne c_14
            have br_11_17 : zB 1 1 r_11 := zB.neLo c_14 br_11 (zBc 0 0 (by decide)) (by decide)
            refine lv_iload_n hx hb dX6_functionNamed_40 rfl (lv_at hl 0 rfl) ?_
            subst hQ
            exact W.iret (v := y3_j2_1) hx hb hr (fun t ht hW => ⟨⟨y3_j2_1, F, rfl, ⟨rfl, (by3_j2_1_4.w ⟨by decide, by decide⟩), trivial⟩, by rw [ht]; exact h.1, h.2.1, zFr.rf⟩, h.2.2.F ht⟩) h.2.2.2.2 dX6_functionNamed_41
  exact j_j2_1 _ ls 0 s.heap [] (lv_sub hl [0, 1, 2, 3] rfl) (zB.of ⟨by decide, by decide⟩) h rfl

set_option maxHeartbeats 4000000 in
set_option maxRecDepth 100000 in
theorem zc_J6_bitCount_0f7a4 (l : Launch) (D : va_G) (k : Nat → ClassId) (Γ : Nat → Option Nat) (L : List Nat) (F : Nat → va_E) (sz : Nat) (v : Int32) : Met l yJ6_bitCount_0f7a4 zwJ6_bitCount_0f7a4 ({ frames := 0, cells := 0, slots := 0, locals := 0 }) (va_Pc [.int v] (zP D k Γ L F sz)) (va_Qi (fun (r : Int32) (u : Nat → va_E) => F = u ∧ zB 0 63 r ∧ True) (zQ D k Γ L F []) (zA L sz)) 0 0 (zA L sz) := by
  refine Met.ofW (cc := cJ6_bitCount_0f7a4) (maxL := 1) (ret := (some .int)) (by decide) rfl ?_
  intro p e s m args below meth c s₁ B hml hv
  obtain ⟨rfl, hsz, hP, hK, hLn, hE, hI⟩ := hv
  have hx := B.exec
  have hb := B.bytes
  have hr := B.returns
  have hg : ∀ w ∈ zG, w.before _ s = true := fun w h9 => atoms_spec (ws := zwJ6_bitCount_0f7a4) B.pre w (List.mem_cons_of_mem _ h9)
  have hown : s.vm.findClass RJ6 = some m.cls := findClass_of_methodNamed B.named
  have hlocks := B.notSynchronized
  subst hsz
  have Z : zC p m c cJ6_bitCount_0f7a4 1 s _ zG RJ6 D k L := ⟨⟨hx, hb, hml, hown, hg⟩, hK, hLn, hE⟩
  have h : zH D k Γ L s F s.heap [] := ⟨hP, hI, va_S.rf⟩
  have hl := lv_entry ([.int v]) (n := 1) (Nat.le_of_ble_eq_true rfl)
  rw [lg_entry_eq]
  generalize (lg_sl ([.int v]) ++ List.replicate (1 - (lg_sl ([.int v])).length) Slot.unset).toArray = ls at hl ⊢
  have hl : lv_has ls 1 [(0, .int v)] := hl
  clear hP hK hLn hE hI
  generalize hargs : ([.int v] : List Value).toArray = args at *
  refine z_start (fun R Q hRf hRl hQ => ?_)
  have hRf : R.frames = 0 := hRf
  have hRl : R.locals = 0 := hRl
  refine lv_iload_n hx hb dJ6_bitCount_0f7a4_0 rfl (lv_at hl 0 rfl) ?_
  refine lv_iload_n hx hb dJ6_bitCount_0f7a4_1 rfl (lv_at hl 0 rfl) ?_
  refine lv_iconst (v := 1) hx hb dJ6_bitCount_0f7a4_2 (by decide) ?_
  refine lv_iushr hx hb dJ6_bitCount_0f7a4_3 rfl ?_
  refine zi_any (fun x_1 bx_1 ex_1 => ?_)
  refine lv_ldcw hx hb hown (hg _ (zm_RJ6 (List.mem_of_getElem? (i := 2) rfl))) dJ6_bitCount_0f7a4_4 ?_
  refine lv_iand hx hb dJ6_bitCount_0f7a4_7 ?_
  refine zi_and ((zBc 1431655765 1431655765 (by decide)).w ⟨by decide, by decide⟩ : zB 0 1431655765 _) (fun x_2 bx_2 ex_2 => ?_)
  refine lv_isub hx hb dJ6_bitCount_0f7a4_8 ?_
  refine zi_any (fun x_3 bx_3 ex_3 => ?_)
  refine lv_istore_n (lv' := [(0, .int x_3)]) hx hb dJ6_bitCount_0f7a4_9 rfl hl (by decide) rfl (fun ls hl => ?_)
  refine lv_iload_n hx hb dJ6_bitCount_0f7a4_10 rfl (lv_at hl 0 rfl) ?_
  refine lv_ldcw hx hb hown (hg _ (zm_RJ6 (List.mem_of_getElem? (i := 3) rfl))) dJ6_bitCount_0f7a4_11 ?_
  refine lv_iand hx hb dJ6_bitCount_0f7a4_14 ?_
  refine zi_and ((zBc 858993459 858993459 (by decide)).w ⟨by decide, by decide⟩ : zB 0 858993459 _) (fun x_4 bx_4 ex_4 => ?_)
  refine lv_iload_n hx hb dJ6_bitCount_0f7a4_15 rfl (lv_at hl 0 rfl) ?_
  refine lv_iconst (v := 2) hx hb dJ6_bitCount_0f7a4_16 (by decide) ?_
  refine lv_iushr hx hb dJ6_bitCount_0f7a4_17 rfl ?_
  refine zi_any (fun x_5 bx_5 ex_5 => ?_)
  refine lv_ldcw hx hb hown (hg _ (zm_RJ6 (List.mem_of_getElem? (i := 3) rfl))) dJ6_bitCount_0f7a4_18 ?_
  refine lv_iand hx hb dJ6_bitCount_0f7a4_21 ?_
  refine zi_and ((zBc 858993459 858993459 (by decide)).w ⟨by decide, by decide⟩ : zB 0 858993459 _) (fun x_6 bx_6 ex_6 => ?_)
  refine lv_iadd hx hb dJ6_bitCount_0f7a4_22 ?_
  refine zi_add (lo := 0) (hi := 1717986918) bx_4 bx_6 (by decide) (fun x_7 bx_7 tx_7 => ?_)
  refine lv_istore_n (lv' := [(0, .int x_7)]) hx hb dJ6_bitCount_0f7a4_23 rfl hl (by decide) rfl (fun ls hl => ?_)
  refine lv_iload_n hx hb dJ6_bitCount_0f7a4_24 rfl (lv_at hl 0 rfl) ?_
  refine lv_iload_n hx hb dJ6_bitCount_0f7a4_25 rfl (lv_at hl 0 rfl) ?_
  refine lv_iconst (v := 4) hx hb dJ6_bitCount_0f7a4_26 (by decide) ?_
  refine lv_iushr hx hb dJ6_bitCount_0f7a4_27 rfl ?_
  refine zi_any (fun x_8 bx_8 ex_8 => ?_)
  refine lv_iadd hx hb dJ6_bitCount_0f7a4_28 ?_
  refine zi_any (fun x_9 bx_9 ex_9 => ?_)
  refine lv_ldcw hx hb hown (hg _ (zm_RJ6 (List.mem_of_getElem? (i := 4) rfl))) dJ6_bitCount_0f7a4_29 ?_
  refine lv_iand hx hb dJ6_bitCount_0f7a4_32 ?_
  refine zi_and ((zBc 252645135 252645135 (by decide)).w ⟨by decide, by decide⟩ : zB 0 252645135 _) (fun x_10 bx_10 ex_10 => ?_)
  refine lv_istore_n (lv' := [(0, .int x_10)]) hx hb dJ6_bitCount_0f7a4_33 rfl hl (by decide) rfl (fun ls hl => ?_)
  refine lv_iload_n hx hb dJ6_bitCount_0f7a4_34 rfl (lv_at hl 0 rfl) ?_
  refine lv_iload_n hx hb dJ6_bitCount_0f7a4_35 rfl (lv_at hl 0 rfl) ?_
  refine lv_bipush (v := 8) hx hb dJ6_bitCount_0f7a4_36 (by decide) ?_
  refine lv_iushr hx hb dJ6_bitCount_0f7a4_38 rfl ?_
  refine zi_any (fun x_11 bx_11 ex_11 => ?_)
  refine lv_iadd hx hb dJ6_bitCount_0f7a4_39 ?_
  refine zi_any (fun x_12 bx_12 ex_12 => ?_)
  refine lv_istore_n (lv' := [(0, .int x_12)]) hx hb dJ6_bitCount_0f7a4_40 rfl hl (by decide) rfl (fun ls hl => ?_)
  refine lv_iload_n hx hb dJ6_bitCount_0f7a4_41 rfl (lv_at hl 0 rfl) ?_
  refine lv_iload_n hx hb dJ6_bitCount_0f7a4_42 rfl (lv_at hl 0 rfl) ?_
  refine lv_bipush (v := 16) hx hb dJ6_bitCount_0f7a4_43 (by decide) ?_
  refine lv_iushr hx hb dJ6_bitCount_0f7a4_45 rfl ?_
  refine zi_any (fun x_13 bx_13 ex_13 => ?_)
  refine lv_iadd hx hb dJ6_bitCount_0f7a4_46 ?_
  refine zi_any (fun x_14 bx_14 ex_14 => ?_)
  refine lv_istore_n (lv' := [(0, .int x_14)]) hx hb dJ6_bitCount_0f7a4_47 rfl hl (by decide) rfl (fun ls hl => ?_)
  refine lv_iload_n hx hb dJ6_bitCount_0f7a4_48 rfl (lv_at hl 0 rfl) ?_
  refine lv_bipush (v := 63) hx hb dJ6_bitCount_0f7a4_49 (by decide) ?_
  refine lv_iand hx hb dJ6_bitCount_0f7a4_51 ?_
  refine zi_and ((zBc 63 63 (by decide)).w ⟨by decide, by decide⟩ : zB 0 63 _) (fun x_15 bx_15 ex_15 => ?_)
  subst hQ
  exact W.iret (v := x_15) hx hb hr (fun t ht hW => ⟨⟨x_15, F, rfl, ⟨rfl, bx_15, trivial⟩, by rw [ht]; exact h.1, h.2.1, zFr.rf⟩, h.2.2.F ht⟩) h.2.2.2.2 dJ6_bitCount_0f7a4_52

set_option maxHeartbeats 4000000 in
set_option maxRecDepth 100000 in
theorem zc_J13_bitCount_95d88 (l : Launch) (D : va_G) (k : Nat → ClassId) (Γ : Nat → Option Nat) (L : List Nat) (F : Nat → va_E) (sz : Nat) (v : Int64) : Met l yJ13_bitCount_95d88 zwJ13_bitCount_95d88 ({ frames := 0, cells := 0, slots := 0, locals := 0 }) (va_Pc [.long v] (zP D k Γ L F sz)) (va_Qi (fun (r : Int32) (u : Nat → va_E) => F = u ∧ zB 0 127 r ∧ True) (zQ D k Γ L F []) (zA L sz)) 0 0 (zA L sz) := by
  refine Met.ofW (cc := cJ13_bitCount_95d88) (maxL := 2) (ret := (some .int)) (by decide) rfl ?_
  intro p e s m args below meth c s₁ B hml hv
  obtain ⟨rfl, hsz, hP, hK, hLn, hE, hI⟩ := hv
  have hx := B.exec
  have hb := B.bytes
  have hr := B.returns
  have hg : ∀ w ∈ zG, w.before _ s = true := fun w h9 => atoms_spec (ws := zwJ13_bitCount_95d88) B.pre w (List.mem_cons_of_mem _ h9)
  have hown : s.vm.findClass RJ13 = some m.cls := findClass_of_methodNamed B.named
  have hlocks := B.notSynchronized
  subst hsz
  have Z : zC p m c cJ13_bitCount_95d88 2 s _ zG RJ13 D k L := ⟨⟨hx, hb, hml, hown, hg⟩, hK, hLn, hE⟩
  have h : zH D k Γ L s F s.heap [] := ⟨hP, hI, va_S.rf⟩
  have hl := lv_entry ([.long v]) (n := 2) (Nat.le_of_ble_eq_true rfl)
  rw [lg_entry_eq]
  generalize (lg_sl ([.long v]) ++ List.replicate (2 - (lg_sl ([.long v])).length) Slot.unset).toArray = ls at hl ⊢
  have hl : lv_has ls 2 [(0, .long v)] := hl
  clear hP hK hLn hE hI
  generalize hargs : ([.long v] : List Value).toArray = args at *
  refine z_start (fun R Q hRf hRl hQ => ?_)
  have hRf : R.frames = 0 := hRf
  have hRl : R.locals = 0 := hRl
  refine lv_lload_n hx hb dJ13_bitCount_95d88_0 rfl (lv_at hl 0 rfl) ?_
  refine lv_lload_n hx hb dJ13_bitCount_95d88_1 rfl (lv_at hl 0 rfl) ?_
  refine lv_iconst (v := 1) hx hb dJ13_bitCount_95d88_2 (by decide) ?_
  refine lv_lushr hx hb dJ13_bitCount_95d88_3 rfl ?_
  refine lv_topl (fun g_1 _ => ?_)
  refine lv_ldc2 hx hb hown (hg _ (zm_RJ13 (List.mem_of_getElem? (i := 2) rfl))) dJ13_bitCount_95d88_4 ?_
  refine lv_land hx hb dJ13_bitCount_95d88_7 ?_
  refine lv_topl (fun g_2 _ => ?_)
  refine lv_lsub hx hb dJ13_bitCount_95d88_8 ?_
  refine lv_topl (fun g_3 _ => ?_)
  refine lv_lstore_n (lv' := [(0, .long g_3)]) hx hb dJ13_bitCount_95d88_9 rfl hl (by decide) rfl (fun ls hl => ?_)
  refine lv_lload_n hx hb dJ13_bitCount_95d88_10 rfl (lv_at hl 0 rfl) ?_
  refine lv_ldc2 hx hb hown (hg _ (zm_RJ13 (List.mem_of_getElem? (i := 3) rfl))) dJ13_bitCount_95d88_11 ?_
  refine lv_land hx hb dJ13_bitCount_95d88_14 ?_
  refine lv_topl (fun g_4 _ => ?_)
  refine lv_lload_n hx hb dJ13_bitCount_95d88_15 rfl (lv_at hl 0 rfl) ?_
  refine lv_iconst (v := 2) hx hb dJ13_bitCount_95d88_16 (by decide) ?_
  refine lv_lushr hx hb dJ13_bitCount_95d88_17 rfl ?_
  refine lv_topl (fun g_5 _ => ?_)
  refine lv_ldc2 hx hb hown (hg _ (zm_RJ13 (List.mem_of_getElem? (i := 3) rfl))) dJ13_bitCount_95d88_18 ?_
  refine lv_land hx hb dJ13_bitCount_95d88_21 ?_
  refine lv_topl (fun g_6 _ => ?_)
  refine lv_ladd hx hb dJ13_bitCount_95d88_22 ?_
  refine lv_topl (fun g_7 _ => ?_)
  refine lv_lstore_n (lv' := [(0, .long g_7)]) hx hb dJ13_bitCount_95d88_23 rfl hl (by decide) rfl (fun ls hl => ?_)
  refine lv_lload_n hx hb dJ13_bitCount_95d88_24 rfl (lv_at hl 0 rfl) ?_
  refine lv_lload_n hx hb dJ13_bitCount_95d88_25 rfl (lv_at hl 0 rfl) ?_
  refine lv_iconst (v := 4) hx hb dJ13_bitCount_95d88_26 (by decide) ?_
  refine lv_lushr hx hb dJ13_bitCount_95d88_27 rfl ?_
  refine lv_topl (fun g_8 _ => ?_)
  refine lv_ladd hx hb dJ13_bitCount_95d88_28 ?_
  refine lv_topl (fun g_9 _ => ?_)
  refine lv_ldc2 hx hb hown (hg _ (zm_RJ13 (List.mem_of_getElem? (i := 4) rfl))) dJ13_bitCount_95d88_29 ?_
  refine lv_land hx hb dJ13_bitCount_95d88_32 ?_
  refine lv_topl (fun g_10 _ => ?_)
  refine lv_lstore_n (lv' := [(0, .long g_10)]) hx hb dJ13_bitCount_95d88_33 rfl hl (by decide) rfl (fun ls hl => ?_)
  refine lv_lload_n hx hb dJ13_bitCount_95d88_34 rfl (lv_at hl 0 rfl) ?_
  refine lv_lload_n hx hb dJ13_bitCount_95d88_35 rfl (lv_at hl 0 rfl) ?_
  refine lv_bipush (v := 8) hx hb dJ13_bitCount_95d88_36 (by decide) ?_
  refine lv_lushr hx hb dJ13_bitCount_95d88_38 rfl ?_
  refine lv_topl (fun g_11 _ => ?_)
  refine lv_ladd hx hb dJ13_bitCount_95d88_39 ?_
  refine lv_topl (fun g_12 _ => ?_)
  refine lv_lstore_n (lv' := [(0, .long g_12)]) hx hb dJ13_bitCount_95d88_40 rfl hl (by decide) rfl (fun ls hl => ?_)
  refine lv_lload_n hx hb dJ13_bitCount_95d88_41 rfl (lv_at hl 0 rfl) ?_
  refine lv_lload_n hx hb dJ13_bitCount_95d88_42 rfl (lv_at hl 0 rfl) ?_
  refine lv_bipush (v := 16) hx hb dJ13_bitCount_95d88_43 (by decide) ?_
  refine lv_lushr hx hb dJ13_bitCount_95d88_45 rfl ?_
  refine lv_topl (fun g_13 _ => ?_)
  refine lv_ladd hx hb dJ13_bitCount_95d88_46 ?_
  refine lv_topl (fun g_14 _ => ?_)
  refine lv_lstore_n (lv' := [(0, .long g_14)]) hx hb dJ13_bitCount_95d88_47 rfl hl (by decide) rfl (fun ls hl => ?_)
  refine lv_lload_n hx hb dJ13_bitCount_95d88_48 rfl (lv_at hl 0 rfl) ?_
  refine lv_lload_n hx hb dJ13_bitCount_95d88_49 rfl (lv_at hl 0 rfl) ?_
  refine lv_bipush (v := 32) hx hb dJ13_bitCount_95d88_50 (by decide) ?_
  refine lv_lushr hx hb dJ13_bitCount_95d88_52 rfl ?_
  refine lv_topl (fun g_15 _ => ?_)
  refine lv_ladd hx hb dJ13_bitCount_95d88_53 ?_
  refine lv_topl (fun g_16 _ => ?_)
  refine lv_lstore_n (lv' := [(0, .long g_16)]) hx hb dJ13_bitCount_95d88_54 rfl hl (by decide) rfl (fun ls hl => ?_)
  refine lv_lload_n hx hb dJ13_bitCount_95d88_55 rfl (lv_at hl 0 rfl) ?_
  refine lv_l2i hx hb dJ13_bitCount_95d88_56 rfl ?_
  refine zi_any (fun x_17 bx_17 ex_17 => ?_)
  refine lv_bipush (v := 127) hx hb dJ13_bitCount_95d88_57 (by decide) ?_
  refine lv_iand hx hb dJ13_bitCount_95d88_59 ?_
  refine zi_and ((zBc 127 127 (by decide)).w ⟨by decide, by decide⟩ : zB 0 127 _) (fun x_18 bx_18 ex_18 => ?_)
  subst hQ
  exact W.iret (v := x_18) hx hb hr (fun t ht hW => ⟨⟨x_18, F, rfl, ⟨rfl, bx_18, trivial⟩, by rw [ht]; exact h.1, h.2.1, zFr.rf⟩, h.2.2.F ht⟩) h.2.2.2.2 dJ13_bitCount_95d88_60
