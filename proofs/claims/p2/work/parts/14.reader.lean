set_option maxHeartbeats 4000000 in
set_option maxRecDepth 100000 in
theorem zc_X7_kind (l : Launch) (D : va_G) (k : Nat → ClassId) (Γ : Nat → Option Nat) (L : List Nat) (F : Nat → va_E) (sz : Nat) (th : Nat) (tk : Nat) (hth : Γ th = some 7) (ktk : zfld F th 4 = .ref tk) (htk : Γ tk = some 8) : Met l yX7_kind zwX7_kind ({ frames := 0, cells := 0, slots := 0, locals := 0 }) (va_Pc [.ref th] (zP D k Γ L F sz)) (va_Qi (fun (r : Int32) (u : Nat → va_E) => F = u ∧ (r ≠ 0 → ∃ x, zfld u th 6 = .int x ∧ zB 0 600 x) ∧ True) (zQ D k Γ L F []) (zA L sz)) 0 0 (zA L sz) := by
  refine Met.ofW (cc := cX7_kind) (maxL := 2) (ret := (some .int)) (by decide) rfl ?_
  intro p e s m args below meth c s₁ B hml hv
  obtain ⟨rfl, hsz, hP, hK, hLn, hE, hI⟩ := hv
  have hx := B.exec
  have hb := B.bytes
  have hr := B.returns
  have hg : ∀ w ∈ zG, w.before _ s = true := fun w h9 => atoms_spec (ws := zwX7_kind) B.pre w (List.mem_cons_of_mem _ h9)
  have hown : s.vm.findClass RX7 = some m.cls := findClass_of_methodNamed B.named
  have hlocks := B.notSynchronized
  subst hsz
  have Z : zC p m c cX7_kind 2 s _ zG RX7 D k L := ⟨⟨hx, hb, hml, hown, hg⟩, hK, hLn, hE⟩
  have h : zH D k Γ L s F s.heap [] := ⟨hP, hI, va_S.rf⟩
  have hl := lv_entry ([.ref th]) (n := 2) (Nat.le_of_ble_eq_true rfl)
  rw [lg_entry_eq]
  generalize (lg_sl ([.ref th]) ++ List.replicate (2 - (lg_sl ([.ref th])).length) Slot.unset).toArray = ls at hl ⊢
  have hl : lv_has ls 2 [(0, .ref th)] := hl
  clear hP hK hLn hE hI
  generalize hargs : ([.ref th] : List Value).toArray = args at *
  refine z_start (fun R Q hRf hRl hQ => ?_)
  have hRf : R.frames = 0 := hRf
  have hRl : R.locals = 0 := hRl
  refine lv_aload_n hx hb dX7_kind_0 rfl (lv_at hl 0 rfl) ?_
  refine zt_geti (t := 7) (C := RX7) (T := TX7) (N := 12) Z h hth zin_7 rfl 6 rfl ⟨by decide, rfl⟩ (zm_RX7 (List.mem_of_getElem? (i := 9) rfl)) (fun _ h9 => h9) dX7_kind_1 (fun x_1 kx_1 bx_1 => ?_)
  refine lv_if_lt (tgt := 40) hx hb dX7_kind_4 (by decide) (fun c_2 => ?_) (fun c_2 => ?_)
  · have c_2 := z_lt c_2
    have bx_1_3 : zB (-1) (-1) x_1 := zB.ltL c_2 bx_1 (zBc 0 0 (by decide)) (by decide)
    refine lv_iconst (v := 0) hx hb dX7_kind_40 (by decide) ?_
    refine lv_istore_n (lv' := [(1, .int 0), (0, .ref th)]) hx hb dX7_kind_41 rfl hl (by decide) rfl (fun ls hl => ?_)
    refine lv_iload_n hx hb dX7_kind_42 rfl (lv_at hl 0 rfl) ?_
    refine lv_if_eq (tgt := 61) hx hb dX7_kind_43 (by decide) (fun _ => ?_) (fun h9 => absurd (by decide) h9)
    refine lv_iconst (v := 0) hx hb dX7_kind_61 (by decide) ?_
    subst hQ
    exact W.iret (v := 0) hx hb hr (fun t ht hW => ⟨⟨0, F, rfl, ⟨rfl, (fun h9 => absurd rfl h9), trivial⟩, by rw [ht]; exact h.1, h.2.1, zFr.rf⟩, h.2.2.F ht⟩) h.2.2.2.2 dX7_kind_62
  · have c_2 := z_nlt c_2
    have bx_1_4 : zB 0 601 x_1 := zB.leR c_2 (zBc 0 0 (by decide)) bx_1 (by decide)
    refine lv_aload_n hx hb dX7_kind_7 rfl (lv_at hl 0 rfl) ?_
    refine zt_getk (t := 7) (C := RX7) (T := TX7) (N := 12) Z h hth zin_7 rfl 6 kx_1 ⟨by decide, rfl, by decide⟩ (zm_RX7 (List.mem_of_getElem? (i := 9) rfl)) (fun _ h9 => h9) dX7_kind_8 ?_
    refine lv_aload_n hx hb dX7_kind_11 rfl (lv_at hl 0 rfl) ?_
    refine zt_getk (t := 7) (C := RX7) (T := TX7) (N := 12) Z h hth zin_7 rfl 4 ktk ⟨by decide, rfl, by decide⟩ (zm_RX7 (List.mem_of_getElem? (i := 4) rfl)) (fun _ h9 => h9) dX7_kind_12 ?_
    refine zt_geti (t := 8) (C := RX8) (T := TX8) (N := 6) Z h htk zin_8 rfl 5 rfl ⟨by decide, rfl⟩ (zm_RX7 (List.mem_of_getElem? (i := 56) rfl)) (fun _ h9 => h9) dX7_kind_15 (fun x_5 kx_5 bx_5 => ?_)
    refine lv_icmp_ge (tgt := 40) hx hb dX7_kind_18 (by decide) (fun c_6 => ?_) (fun c_6 => ?_)
    · have c_6 := z_le c_6
      refine lv_iconst (v := 0) hx hb dX7_kind_40 (by decide) ?_
      refine lv_istore_n (lv' := [(1, .int 0), (0, .ref th)]) hx hb dX7_kind_41 rfl hl (by decide) rfl (fun ls hl => ?_)
      refine lv_iload_n hx hb dX7_kind_42 rfl (lv_at hl 0 rfl) ?_
      refine lv_if_eq (tgt := 61) hx hb dX7_kind_43 (by decide) (fun _ => ?_) (fun h9 => absurd (by decide) h9)
      refine lv_iconst (v := 0) hx hb dX7_kind_61 (by decide) ?_
      subst hQ
      exact W.iret (v := 0) hx hb hr (fun t ht hW => ⟨⟨0, F, rfl, ⟨rfl, (fun h9 => absurd rfl h9), trivial⟩, by rw [ht]; exact h.1, h.2.1, zFr.rf⟩, h.2.2.F ht⟩) h.2.2.2.2 dX7_kind_62
    · have c_6 := z_nle c_6
      have bx_1_7 : zB 0 600 x_1 := zB.ltL c_6 bx_1_4 bx_5 (by decide)
      have bx_5_8 : zB 1 601 x_5 := zB.ltR c_6 bx_1_4 bx_5 (by decide)
      refine lv_aload_n hx hb dX7_kind_21 rfl (lv_at hl 0 rfl) ?_
      refine zt_getk (t := 7) (C := RX7) (T := TX7) (N := 12) Z h hth zin_7 rfl 6 kx_1 ⟨by decide, rfl, by decide⟩ (zm_RX7 (List.mem_of_getElem? (i := 9) rfl)) (fun _ h9 => h9) dX7_kind_22 ?_
      refine lv_aload_n hx hb dX7_kind_25 rfl (lv_at hl 0 rfl) ?_
      refine zt_getk (t := 7) (C := RX7) (T := TX7) (N := 12) Z h hth zin_7 rfl 4 ktk ⟨by decide, rfl, by decide⟩ (zm_RX7 (List.mem_of_getElem? (i := 4) rfl)) (fun _ h9 => h9) dX7_kind_26 ?_
      refine zt_getr (t := 8) (C := RX8) (T := TX8) (N := 6) Z h htk zin_8 rfl 2 rfl ⟨by decide, rfl⟩ (zm_RX7 (List.mem_of_getElem? (i := 128) rfl)) (fun _ h9 => h9) dX7_kind_29 (fun a_9 ka_9 ha_9 => ?_)
      refine zt_alen (t := 101) Z h ha_9 ⟨by decide, rfl⟩ (by decide) (v := 601) rfl dX7_kind_32 ?_
      refine lv_icmp_ge (tgt := 40) hx hb dX7_kind_33 (by decide) (fun c_10 => ?_) (fun c_10 => ?_)
      · have c_10 := z_le c_10
        exact zB.noLe c_10 (zBc 601 601 (by decide)) bx_1_7 (by decide)
      · have c_10 := z_nle c_10
        refine lv_iconst (v := 1) hx hb dX7_kind_36 (by decide) ?_
        refine lv_goto (tgt := 41) hx hb dX7_kind_37 (by decide) ?_
        refine lv_istore_n (lv' := [(1, .int 1), (0, .ref th)]) hx hb dX7_kind_41 rfl hl (by decide) rfl (fun ls hl => ?_)
        refine lv_iload_n hx hb dX7_kind_42 rfl (lv_at hl 0 rfl) ?_
        refine lv_if_eq (tgt := 61) hx hb dX7_kind_43 (by decide) (fun h9 => absurd h9 (by decide)) (fun _ => ?_)
        refine lv_aload_n hx hb dX7_kind_46 rfl (lv_at hl 1 rfl) ?_
        refine zt_getk (t := 7) (C := RX7) (T := TX7) (N := 12) Z h hth zin_7 rfl 4 ktk ⟨by decide, rfl, by decide⟩ (zm_RX7 (List.mem_of_getElem? (i := 4) rfl)) (fun _ h9 => h9) dX7_kind_47 ?_
        refine zt_getk (t := 8) (C := RX8) (T := TX8) (N := 6) Z h htk zin_8 rfl 2 ka_9 ⟨by decide, rfl, by decide⟩ (zm_RX7 (List.mem_of_getElem? (i := 128) rfl)) (fun _ h9 => h9) dX7_kind_50 ?_
        refine lv_aload_n hx hb dX7_kind_53 rfl (lv_at hl 1 rfl) ?_
        refine zt_getk (t := 7) (C := RX7) (T := TX7) (N := 12) Z h hth zin_7 rfl 6 kx_1 ⟨by decide, rfl, by decide⟩ (zm_RX7 (List.mem_of_getElem? (i := 9) rfl)) (fun _ h9 => h9) dX7_kind_54 ?_
        refine zt_ialde (t := 101) Z h ha_9 ⟨by decide, rfl⟩ bx_1_7 ⟨by decide, by decide⟩ dX7_kind_57 (fun x_11 ex_11 bx_11 => ?_)
        refine lv_goto (tgt := 62) hx hb dX7_kind_58 (by decide) ?_
        subst hQ
        exact W.iret (v := x_11) hx hb hr (fun t ht hW => ⟨⟨x_11, F, rfl, ⟨rfl, (fun _ => ⟨x_1, kx_1, bx_1_7⟩), trivial⟩, by rw [ht]; exact h.1, h.2.1, zFr.rf⟩, h.2.2.F ht⟩) h.2.2.2.2 dX7_kind_62

set_option maxHeartbeats 4000000 in
set_option maxRecDepth 100000 in
theorem zc_X7_fail (l : Launch) (D : va_G) (k : Nat → ClassId) (Γ : Nat → Option Nat) (L : List Nat) (F : Nat → va_E) (sz : Nat) (th : Nat) (fa : Int32) (tk : Nat) (hth : Γ th = some 7) (ktk : zfld F th 4 = .ref tk) (htk : Γ tk = some 8) : Met l yX7_fail zwX7_fail ({ frames := 0, cells := 0, slots := 0, locals := 0 }) (va_Pc [.ref th, .int fa] (zP D k Γ L F sz)) (va_Qv (fun (u : Nat → va_E) => True) (zQ D k Γ L F [701, 702, 706]) (zA L sz)) 0 0 (zA L sz) := by
  refine Met.ofW (cc := cX7_fail) (maxL := 2) (ret := none) (by decide) rfl ?_
  intro p e s m args below meth c s₁ B hml hv
  obtain ⟨rfl, hsz, hP, hK, hLn, hE, hI⟩ := hv
  have hx := B.exec
  have hb := B.bytes
  have hr := B.returns
  have hg : ∀ w ∈ zG, w.before _ s = true := fun w h9 => atoms_spec (ws := zwX7_fail) B.pre w (List.mem_cons_of_mem _ h9)
  have hown : s.vm.findClass RX7 = some m.cls := findClass_of_methodNamed B.named
  have hlocks := B.notSynchronized
  subst hsz
  have Z : zC p m c cX7_fail 2 s _ zG RX7 D k L := ⟨⟨hx, hb, hml, hown, hg⟩, hK, hLn, hE⟩
  have h : zH D k Γ L s F s.heap [] := ⟨hP, hI, va_S.rf⟩
  have hl := lv_entry ([.ref th, .int fa]) (n := 2) (Nat.le_of_ble_eq_true rfl)
  rw [lg_entry_eq]
  generalize (lg_sl ([.ref th, .int fa]) ++ List.replicate (2 - (lg_sl ([.ref th, .int fa])).length) Slot.unset).toArray = ls at hl ⊢
  have hl : lv_has ls 2 [(0, .ref th), (1, .int fa)] := hl
  clear hP hK hLn hE hI
  generalize hargs : ([.ref th, .int fa] : List Value).toArray = args at *
  refine z_start (fun R Q hRf hRl hQ => ?_)
  have hRf : R.frames = 0 := hRf
  have hRl : R.locals = 0 := hRl
  refine lv_aload_n hx hb dX7_fail_0 rfl (lv_at hl 0 rfl) ?_
  refine zt_geti (t := 7) (C := RX7) (T := TX7) (N := 12) Z h hth zin_7 rfl 1 rfl ⟨by decide, rfl⟩ (zm_RX7 (List.mem_of_getElem? (i := 11) rfl)) (fun _ h9 => h9) dX7_fail_1 (fun x_1 kx_1 bx_1 => ?_)
  refine lv_if_ne (tgt := 20) hx hb dX7_fail_4 (by decide) (fun c_2 => ?_) (fun c_2 => ?_)
  · have c_2 := z_ne c_2
    refine lv_aload_n hx hb dX7_fail_20 rfl (lv_at hl 0 rfl) ?_
    refine lv_aload_n hx hb dX7_fail_21 rfl (lv_at hl 0 rfl) ?_
    refine zt_getk (t := 7) (C := RX7) (T := TX7) (N := 12) Z h hth zin_7 rfl 4 ktk ⟨by decide, rfl, by decide⟩ (zm_RX7 (List.mem_of_getElem? (i := 4) rfl)) (fun _ h9 => h9) dX7_fail_22 ?_
    refine zt_geti (t := 8) (C := RX8) (T := TX8) (N := 6) Z h htk zin_8 rfl 5 rfl ⟨by decide, rfl⟩ (zm_RX7 (List.mem_of_getElem? (i := 56) rfl)) (fun _ h9 => h9) dX7_fail_25 (fun x_3 kx_3 bx_3 => ?_)
    refine lv_iconst (v := 1) hx hb dX7_fail_28 (by decide) ?_
    refine lv_isub hx hb dX7_fail_29 ?_
    refine zi_sub (lo := (-1)) (hi := 600) bx_3 (zBc 1 1 (by decide)) (by decide) (fun x_4 bx_4 tx_4 => ?_)
    refine zt_put (t := 7) (C := RX7) (T := TX7) (N := 12) (v := .int x_4) Z h hth zin_7 tyX7 tyX7_ok nmX7 rfl 6 rfl ⟨by decide, rfl⟩ (zm_RX7 (List.mem_of_getElem? (i := 9) rfl)) (fun _ h9 => h9) rfl (zV.i (bx_4.w ⟨by decide, by decide⟩)) rfl rfl dX7_fail_30 (fun H locs F_5 h hfF_5 kF_5 => ?_)
    subst hQ
    exact W.vret hx hb hr (fun t ht hW => ⟨⟨F_5, rfl, trivial, by rw [ht]; exact h.1, h.2.1, (hfF_5.w (by decide))⟩, h.2.2.F ht⟩) h.2.2.2.2 dX7_fail_33
  · have c_2 := z_eq c_2
    have bx_1_6 : zB 0 0 x_1 := zB.eqL (a := 0) (b := 0) c_2 (zBc 0 0 (by decide))
    refine lv_aload_n hx hb dX7_fail_7 rfl (lv_at hl 0 rfl) ?_
    refine lv_iload_n hx hb dX7_fail_8 rfl (lv_at hl 1 rfl) ?_
    refine zt_put (t := 7) (C := RX7) (T := TX7) (N := 12) (v := .int fa) Z h hth zin_7 tyX7 tyX7_ok nmX7 rfl 1 rfl ⟨by decide, rfl⟩ (zm_RX7 (List.mem_of_getElem? (i := 11) rfl)) (fun _ h9 => h9) rfl (zV.i (zB.all fa)) rfl rfl dX7_fail_9 (fun H locs F_7 h hfF_7 kF_7 => ?_)
    refine lv_aload_n hx hb dX7_fail_12 rfl (lv_at hl 0 rfl) ?_
    refine lv_aload_n hx hb dX7_fail_13 rfl (lv_at hl 0 rfl) ?_
    refine zt_geti (t := 7) (C := RX7) (T := TX7) (N := 12) Z h hth zin_7 rfl 6 rfl ⟨by decide, rfl⟩ (zm_RX7 (List.mem_of_getElem? (i := 9) rfl)) (fun _ h9 => h9) dX7_fail_14 (fun x_8 kx_8 bx_8 => ?_)
    refine zt_put (t := 7) (C := RX7) (T := TX7) (N := 12) (v := .int x_8) Z h hth zin_7 tyX7 tyX7_ok nmX7 rfl 2 rfl ⟨by decide, rfl⟩ (zm_RX7 (List.mem_of_getElem? (i := 12) rfl)) (fun _ h9 => h9) rfl (zV.i (bx_8.w ⟨by decide, by decide⟩)) rfl rfl dX7_fail_17 (fun H locs F_9 h hfF_9 kF_9 => ?_)
    refine lv_aload_n hx hb dX7_fail_20 rfl (lv_at hl 0 rfl) ?_
    refine lv_aload_n hx hb dX7_fail_21 rfl (lv_at hl 0 rfl) ?_
    refine zt_getk (t := 7) (C := RX7) (T := TX7) (N := 12) Z h hth zin_7 rfl 4 (hfF_9.f hth 4 ⟨by decide, by decide⟩ (hfF_7.f hth 4 ⟨by decide, by decide⟩ ktk)) ⟨by decide, rfl, by decide⟩ (zm_RX7 (List.mem_of_getElem? (i := 4) rfl)) (fun _ h9 => h9) dX7_fail_22 ?_
    refine zt_geti (t := 8) (C := RX8) (T := TX8) (N := 6) Z h htk zin_8 rfl 5 rfl ⟨by decide, rfl⟩ (zm_RX7 (List.mem_of_getElem? (i := 56) rfl)) (fun _ h9 => h9) dX7_fail_25 (fun x_10 kx_10 bx_10 => ?_)
    refine lv_iconst (v := 1) hx hb dX7_fail_28 (by decide) ?_
    refine lv_isub hx hb dX7_fail_29 ?_
    refine zi_sub (lo := (-1)) (hi := 600) bx_10 (zBc 1 1 (by decide)) (by decide) (fun x_11 bx_11 tx_11 => ?_)
    refine zt_put (t := 7) (C := RX7) (T := TX7) (N := 12) (v := .int x_11) Z h hth zin_7 tyX7 tyX7_ok nmX7 rfl 6 rfl ⟨by decide, rfl⟩ (zm_RX7 (List.mem_of_getElem? (i := 9) rfl)) (fun _ h9 => h9) rfl (zV.i (bx_11.w ⟨by decide, by decide⟩)) rfl rfl dX7_fail_30 (fun H locs F_12 h hfF_12 kF_12 => ?_)
    subst hQ
    exact W.vret hx hb hr (fun t ht hW => ⟨⟨F_12, rfl, trivial, by rw [ht]; exact h.1, h.2.1, (((hfF_7.w (by decide)).trans hfF_9 (by decide)).trans hfF_12 (by decide))⟩, h.2.2.F ht⟩) h.2.2.2.2 dX7_fail_33

set_option maxHeartbeats 4000000 in
set_option maxRecDepth 100000 in
theorem zc_X7_take (l : Launch) (D : va_G) (k : Nat → ClassId) (Γ : Nat → Option Nat) (L : List Nat) (F : Nat → va_E) (sz : Nat) (th : Nat) (sg : Int32) (tk : Nat) (hth : Γ th = some 7) (bsg : zB 1 127 sg) (ktk : zfld F th 4 = .ref tk) (htk : Γ tk = some 8) : Met l yX7_take zwX7_take ({ frames := 1, cells := 0, slots := 0, locals := 21 }) (va_Pc [.ref th, .int sg] (zP D k Γ L F sz)) (va_Qv (fun (u : Nat → va_E) => True) (zQ D k Γ L F [701, 702, 706]) (zA L sz)) 0 0 (zA L sz) := by
  refine Met.ofW (cc := cX7_take) (maxL := 2) (ret := none) (by decide) rfl ?_
  intro p e s m args below meth c s₁ B hml hv
  obtain ⟨rfl, hsz, hP, hK, hLn, hE, hI⟩ := hv
  have hx := B.exec
  have hb := B.bytes
  have hr := B.returns
  have hg : ∀ w ∈ zG, w.before _ s = true := fun w h9 => atoms_spec (ws := zwX7_take) B.pre w (List.mem_cons_of_mem _ h9)
  have hown : s.vm.findClass RX7 = some m.cls := findClass_of_methodNamed B.named
  have hlocks := B.notSynchronized
  subst hsz
  have Z : zC p m c cX7_take 2 s _ zG RX7 D k L := ⟨⟨hx, hb, hml, hown, hg⟩, hK, hLn, hE⟩
  have h : zH D k Γ L s F s.heap [] := ⟨hP, hI, va_S.rf⟩
  have hl := lv_entry ([.ref th, .int sg]) (n := 2) (Nat.le_of_ble_eq_true rfl)
  rw [lg_entry_eq]
  generalize (lg_sl ([.ref th, .int sg]) ++ List.replicate (2 - (lg_sl ([.ref th, .int sg])).length) Slot.unset).toArray = ls at hl ⊢
  have hl : lv_has ls 2 [(0, .ref th), (1, .int sg)] := hl
  clear hP hK hLn hE hI
  generalize hargs : ([.ref th, .int sg] : List Value).toArray = args at *
  refine z_start (fun R Q hRf hRl hQ => ?_)
  have hRf : R.frames = 1 := hRf
  have hRl : R.locals = 21 := hRl
  refine lv_aload_n hx hb dX7_take_0 rfl (lv_at hl 0 rfl) ?_
  refine zk_Vi (As := []) (rest := []) (bytes := cX7_kind) (maxL := 2) (ret := (some .int)) Z h (zc_X7_kind l D k Γ L F s.heap.size th tk hth ktk htk) (cwV 0 hg zv_RX7_65 rfl rfl rfl zd_X7_kind ⟨z_leR hRf (by decide), z_leR hRl (by decide)⟩) hth (by decide) rfl rfl hl.1 rfl (Nat.le_of_ble_eq_true rfl) dX7_take_1 ⟨Nat.zero_le _, Nat.zero_le _⟩ (fun r_1 F_2 H locs w_3 h hfF_2 => ?_)
  obtain ⟨rfl, q_4, -⟩ := w_3
  have br_1 := zB.all r_1
  refine lv_iload_n hx hb dX7_take_4 rfl (lv_at hl 1 rfl) ?_
  refine lv_icmp_ne (tgt := 21) hx hb dX7_take_5 (by decide) (fun c_5 => ?_) (fun c_5 => ?_)
  · have c_5 := z_ne c_5
    refine lv_aload_n hx hb dX7_take_21 rfl (lv_at hl 0 rfl) ?_
    refine lv_iconst (v := 1) hx hb dX7_take_22 (by decide) ?_
    refine zk_Vv (As := [.int 1]) (rest := []) (bytes := cX7_fail) (maxL := 2) (ret := none) Z h (zc_X7_fail l D k Γ L F H.size th 1 tk hth ktk htk) (cwV 1 hg zv_RX7_79 rfl rfl rfl zd_X7_fail ⟨z_leR hRf (by decide), z_leR hRl (by decide)⟩) hth (by decide) rfl rfl hl.1 rfl (Nat.le_of_ble_eq_true rfl) dX7_take_23 ⟨Nat.zero_le _, Nat.zero_le _⟩ (fun F_6 H locs w_7 h hfF_6 => ?_)
    subst hQ
    exact W.vret hx hb hr (fun t ht hW => ⟨⟨F_6, rfl, trivial, by rw [ht]; exact h.1, h.2.1, hfF_6⟩, h.2.2.F ht⟩) h.2.2.2.2 dX7_take_26
  · have c_5 := z_eq c_5
    have br_1_8 : zB 1 127 r_1 := zB.eqL (a := 0) (b := 0) c_5 bsg
    have c_9 := z_not0 br_1_8 (by decide)
    obtain ⟨x_10, kx_10, bx_10⟩ := q_4 c_9
    refine lv_aload_n hx hb dX7_take_8 rfl (lv_at hl 0 rfl) ?_
    refine lv_dup hx hb dX7_take_9 rfl ?_
    refine zt_getk (t := 7) (C := RX7) (T := TX7) (N := 12) Z h hth zin_7 rfl 6 kx_10 ⟨by decide, rfl, by decide⟩ (zm_RX7 (List.mem_of_getElem? (i := 9) rfl)) (fun _ h9 => h9) dX7_take_10 ?_
    refine lv_iconst (v := 1) hx hb dX7_take_13 (by decide) ?_
    refine lv_iadd hx hb dX7_take_14 ?_
    refine zi_add (lo := 1) (hi := 601) bx_10 (zBc 1 1 (by decide)) (by decide) (fun x_11 bx_11 tx_11 => ?_)
    refine zt_put (t := 7) (C := RX7) (T := TX7) (N := 12) (v := .int x_11) Z h hth zin_7 tyX7 tyX7_ok nmX7 rfl 6 rfl ⟨by decide, rfl⟩ (zm_RX7 (List.mem_of_getElem? (i := 9) rfl)) (fun _ h9 => h9) rfl (zV.i (bx_11.w ⟨by decide, by decide⟩)) rfl rfl dX7_take_15 (fun H locs F_12 h hfF_12 kF_12 => ?_)
    refine lv_goto (tgt := 26) hx hb dX7_take_18 (by decide) ?_
    subst hQ
    exact W.vret hx hb hr (fun t ht hW => ⟨⟨F_12, rfl, trivial, by rw [ht]; exact h.1, h.2.1, (hfF_12.w (by decide))⟩, h.2.2.F ht⟩) h.2.2.2.2 dX7_take_26

set_option maxHeartbeats 4000000 in
set_option maxRecDepth 100000 in
theorem zc_X7_beginsSum (l : Launch) (D : va_G) (k : Nat → ClassId) (Γ : Nat → Option Nat) (L : List Nat) (F : Nat → va_E) (sz : Nat) (tk : Int32) : Met l yX7_beginsSum zwX7_beginsSum ({ frames := 0, cells := 0, slots := 0, locals := 0 }) (va_Pc [.int tk] (zP D k Γ L F sz)) (va_Qi (fun (r : Int32) (u : Nat → va_E) => F = u ∧ zB 0 1 r ∧ True) (zQ D k Γ L F []) (zA L sz)) 0 0 (zA L sz) := by
  refine Met.ofW (cc := cX7_beginsSum) (maxL := 1) (ret := (some .boolean)) (by decide) rfl ?_
  intro p e s m args below meth c s₁ B hml hv
  obtain ⟨rfl, hsz, hP, hK, hLn, hE, hI⟩ := hv
  have hx := B.exec
  have hb := B.bytes
  have hr := B.returns
  have hg : ∀ w ∈ zG, w.before _ s = true := fun w h9 => atoms_spec (ws := zwX7_beginsSum) B.pre w (List.mem_cons_of_mem _ h9)
  have hown : s.vm.findClass RX7 = some m.cls := findClass_of_methodNamed B.named
  have hlocks := B.notSynchronized
  subst hsz
  have Z : zC p m c cX7_beginsSum 1 s _ zG RX7 D k L := ⟨⟨hx, hb, hml, hown, hg⟩, hK, hLn, hE⟩
  have h : zH D k Γ L s F s.heap [] := ⟨hP, hI, va_S.rf⟩
  have hl := lv_entry ([.int tk]) (n := 1) (Nat.le_of_ble_eq_true rfl)
  rw [lg_entry_eq]
  generalize (lg_sl ([.int tk]) ++ List.replicate (1 - (lg_sl ([.int tk])).length) Slot.unset).toArray = ls at hl ⊢
  have hl : lv_has ls 1 [(0, .int tk)] := hl
  clear hP hK hLn hE hI
  generalize hargs : ([.int tk] : List Value).toArray = args at *
  refine z_start (fun R Q hRf hRl hQ => ?_)
  have hRf : R.frames = 0 := hRf
  have hRl : R.locals = 0 := hRl
  refine lv_iload_n hx hb dX7_beginsSum_0 rfl (lv_at hl 0 rfl) ?_
  refine lv_iconst (v := 2) hx hb dX7_beginsSum_1 (by decide) ?_
  refine lv_icmp_eq (tgt := 21) hx hb dX7_beginsSum_2 (by decide) (fun c_1 => ?_) (fun c_1 => ?_)
  · have c_1 := z_eq c_1
    have btk_2 : zB 2 2 tk := zB.eqL (a := 0) (b := 0) c_1 (zBc 2 2 (by decide))
    refine lv_iconst (v := 1) hx hb dX7_beginsSum_21 (by decide) ?_
    refine lv_goto (tgt := 26) hx hb dX7_beginsSum_22 (by decide) ?_
    subst hQ
    exact W.zret (v := 1) hx hb hr (by decide) (fun t ht hW => ⟨⟨1, F, rfl, ⟨rfl, (zB.of ⟨by decide, by decide⟩), trivial⟩, by rw [ht]; exact h.1, h.2.1, zFr.rf⟩, h.2.2.F ht⟩) h.2.2.2.2 dX7_beginsSum_26
  · have c_1 := z_ne c_1
    refine lv_iload_n hx hb dX7_beginsSum_5 rfl (lv_at hl 0 rfl) ?_
    refine lv_iconst (v := 3) hx hb dX7_beginsSum_6 (by decide) ?_
    refine lv_icmp_eq (tgt := 21) hx hb dX7_beginsSum_7 (by decide) (fun c_3 => ?_) (fun c_3 => ?_)
    · have c_3 := z_eq c_3
      have btk_4 : zB 3 3 tk := zB.eqL (a := 0) (b := 0) c_3 (zBc 3 3 (by decide))
      refine lv_iconst (v := 1) hx hb dX7_beginsSum_21 (by decide) ?_
      refine lv_goto (tgt := 26) hx hb dX7_beginsSum_22 (by decide) ?_
      subst hQ
      exact W.zret (v := 1) hx hb hr (by decide) (fun t ht hW => ⟨⟨1, F, rfl, ⟨rfl, (zB.of ⟨by decide, by decide⟩), trivial⟩, by rw [ht]; exact h.1, h.2.1, zFr.rf⟩, h.2.2.F ht⟩) h.2.2.2.2 dX7_beginsSum_26
    · have c_3 := z_ne c_3
      refine lv_iload_n hx hb dX7_beginsSum_10 rfl (lv_at hl 0 rfl) ?_
      refine lv_iconst (v := 4) hx hb dX7_beginsSum_11 (by decide) ?_
      refine lv_icmp_eq (tgt := 21) hx hb dX7_beginsSum_12 (by decide) (fun c_5 => ?_) (fun c_5 => ?_)
      · have c_5 := z_eq c_5
        have btk_6 : zB 4 4 tk := zB.eqL (a := 0) (b := 0) c_5 (zBc 4 4 (by decide))
        refine lv_iconst (v := 1) hx hb dX7_beginsSum_21 (by decide) ?_
        refine lv_goto (tgt := 26) hx hb dX7_beginsSum_22 (by decide) ?_
        subst hQ
        exact W.zret (v := 1) hx hb hr (by decide) (fun t ht hW => ⟨⟨1, F, rfl, ⟨rfl, (zB.of ⟨by decide, by decide⟩), trivial⟩, by rw [ht]; exact h.1, h.2.1, zFr.rf⟩, h.2.2.F ht⟩) h.2.2.2.2 dX7_beginsSum_26
      · have c_5 := z_ne c_5
        refine lv_iload_n hx hb dX7_beginsSum_15 rfl (lv_at hl 0 rfl) ?_
        refine lv_bipush (v := 40) hx hb dX7_beginsSum_16 (by decide) ?_
        refine lv_icmp_ne (tgt := 25) hx hb dX7_beginsSum_18 (by decide) (fun c_7 => ?_) (fun c_7 => ?_)
        · have c_7 := z_ne c_7
          refine lv_iconst (v := 0) hx hb dX7_beginsSum_25 (by decide) ?_
          subst hQ
          exact W.zret (v := 0) hx hb hr (by decide) (fun t ht hW => ⟨⟨0, F, rfl, ⟨rfl, (zB.of ⟨by decide, by decide⟩), trivial⟩, by rw [ht]; exact h.1, h.2.1, zFr.rf⟩, h.2.2.F ht⟩) h.2.2.2.2 dX7_beginsSum_26
        · have c_7 := z_eq c_7
          have btk_8 : zB 40 40 tk := zB.eqL (a := 0) (b := 0) c_7 (zBc 40 40 (by decide))
          refine lv_iconst (v := 1) hx hb dX7_beginsSum_21 (by decide) ?_
          refine lv_goto (tgt := 26) hx hb dX7_beginsSum_22 (by decide) ?_
          subst hQ
          exact W.zret (v := 1) hx hb hr (by decide) (fun t ht hW => ⟨⟨1, F, rfl, ⟨rfl, (zB.of ⟨by decide, by decide⟩), trivial⟩, by rw [ht]; exact h.1, h.2.1, zFr.rf⟩, h.2.2.F ht⟩) h.2.2.2.2 dX7_beginsSum_26

set_option maxHeartbeats 4000000 in
set_option maxRecDepth 100000 in
theorem zc_X7_lineKindOf (l : Launch) (D : va_G) (k : Nat → ClassId) (Γ : Nat → Option Nat) (L : List Nat) (F : Nat → va_E) (sz : Nat) (tk : Int32) : Met l yX7_lineKindOf zwX7_lineKindOf ({ frames := 0, cells := 0, slots := 0, locals := 0 }) (va_Pc [.int tk] (zP D k Γ L F sz)) (va_Qi (fun (r : Int32) (u : Nat → va_E) => F = u ∧ zB (-1) 4 r ∧ (r.toInt ≠ -1 → tk.toInt ≠ 0) ∧ True) (zQ D k Γ L F []) (zA L sz)) 0 0 (zA L sz) := by
  refine Met.ofW (cc := cX7_lineKindOf) (maxL := 1) (ret := (some .int)) (by decide) rfl ?_
  intro p e s m args below meth c s₁ B hml hv
  obtain ⟨rfl, hsz, hP, hK, hLn, hE, hI⟩ := hv
  have hx := B.exec
  have hb := B.bytes
  have hr := B.returns
  have hg : ∀ w ∈ zG, w.before _ s = true := fun w h9 => atoms_spec (ws := zwX7_lineKindOf) B.pre w (List.mem_cons_of_mem _ h9)
  have hown : s.vm.findClass RX7 = some m.cls := findClass_of_methodNamed B.named
  have hlocks := B.notSynchronized
  subst hsz
  have Z : zC p m c cX7_lineKindOf 1 s _ zG RX7 D k L := ⟨⟨hx, hb, hml, hown, hg⟩, hK, hLn, hE⟩
  have h : zH D k Γ L s F s.heap [] := ⟨hP, hI, va_S.rf⟩
  have hl := lv_entry ([.int tk]) (n := 1) (Nat.le_of_ble_eq_true rfl)
  rw [lg_entry_eq]
  generalize (lg_sl ([.int tk]) ++ List.replicate (1 - (lg_sl ([.int tk])).length) Slot.unset).toArray = ls at hl ⊢
  have hl : lv_has ls 1 [(0, .int tk)] := hl
  clear hP hK hLn hE hI
  generalize hargs : ([.int tk] : List Value).toArray = args at *
  refine z_start (fun R Q hRf hRl hQ => ?_)
  have hRf : R.frames = 0 := hRf
  have hRl : R.locals = 0 := hRl
  refine lv_iload_n hx hb dX7_lineKindOf_0 rfl (lv_at hl 0 rfl) ?_
  by_cases c_1 : tk = 3
  · refine lv_tableIn (off := 47) (tgt := 48) hx hb dX7_lineKindOf_1 (by rw [c_1]; decide) (by rw [c_1]; decide) (by rw [c_1]; rfl) (by decide) ?_
    have btk_1 : zB 3 3 tk := by rw [c_1]; exact zBc _ _ (by decide)
    refine lv_iconst (v := 0) hx hb dX7_lineKindOf_48 (by decide) ?_
    subst hQ
    exact W.iret (v := 0) hx hb hr (fun t ht hW => ⟨⟨0, F, rfl, ⟨rfl, (zB.of ⟨by decide, by decide⟩), (by have := btk_1.1; have := btk_1.2; have : (0 : Int32).toInt = 0 := (by decide); omega), trivial⟩, by rw [ht]; exact h.1, h.2.1, zFr.rf⟩, h.2.2.F ht⟩) h.2.2.2.2 dX7_lineKindOf_49
  · by_cases c_3 : tk = 4
    · refine lv_tableIn (off := 57) (tgt := 58) hx hb dX7_lineKindOf_1 (by rw [c_3]; decide) (by rw [c_3]; decide) (by rw [c_3]; rfl) (by decide) ?_
      have btk_3 : zB 4 4 tk := by rw [c_3]; exact zBc _ _ (by decide)
      refine lv_iconst (v := (-1)) hx hb dX7_lineKindOf_58 (by decide) ?_
      subst hQ
      exact W.iret (v := (-1)) hx hb hr (fun t ht hW => ⟨⟨(-1), F, rfl, ⟨rfl, (zB.of ⟨by decide, by decide⟩), (by have := btk_3.1; have := btk_3.2; have : ((-1) : Int32).toInt = (-1) := (by decide); omega), trivial⟩, by rw [ht]; exact h.1, h.2.1, zFr.rf⟩, h.2.2.F ht⟩) h.2.2.2.2 dX7_lineKindOf_59
    · by_cases c_5 : tk = 5
      · refine lv_tableIn (off := 57) (tgt := 58) hx hb dX7_lineKindOf_1 (by rw [c_5]; decide) (by rw [c_5]; decide) (by rw [c_5]; rfl) (by decide) ?_
        have btk_5 : zB 5 5 tk := by rw [c_5]; exact zBc _ _ (by decide)
        refine lv_iconst (v := (-1)) hx hb dX7_lineKindOf_58 (by decide) ?_
        subst hQ
        exact W.iret (v := (-1)) hx hb hr (fun t ht hW => ⟨⟨(-1), F, rfl, ⟨rfl, (zB.of ⟨by decide, by decide⟩), (by have := btk_5.1; have := btk_5.2; have : ((-1) : Int32).toInt = (-1) := (by decide); omega), trivial⟩, by rw [ht]; exact h.1, h.2.1, zFr.rf⟩, h.2.2.F ht⟩) h.2.2.2.2 dX7_lineKindOf_59
      · by_cases c_7 : tk = 6
        · refine lv_tableIn (off := 49) (tgt := 50) hx hb dX7_lineKindOf_1 (by rw [c_7]; decide) (by rw [c_7]; decide) (by rw [c_7]; rfl) (by decide) ?_
          have btk_7 : zB 6 6 tk := by rw [c_7]; exact zBc _ _ (by decide)
          refine lv_iconst (v := 1) hx hb dX7_lineKindOf_50 (by decide) ?_
          subst hQ
          exact W.iret (v := 1) hx hb hr (fun t ht hW => ⟨⟨1, F, rfl, ⟨rfl, (zB.of ⟨by decide, by decide⟩), (by have := btk_7.1; have := btk_7.2; have : (1 : Int32).toInt = 1 := (by decide); omega), trivial⟩, by rw [ht]; exact h.1, h.2.1, zFr.rf⟩, h.2.2.F ht⟩) h.2.2.2.2 dX7_lineKindOf_51
        · by_cases c_9 : tk = 7
          · refine lv_tableIn (off := 51) (tgt := 52) hx hb dX7_lineKindOf_1 (by rw [c_9]; decide) (by rw [c_9]; decide) (by rw [c_9]; rfl) (by decide) ?_
            have btk_9 : zB 7 7 tk := by rw [c_9]; exact zBc _ _ (by decide)
            refine lv_iconst (v := 2) hx hb dX7_lineKindOf_52 (by decide) ?_
            subst hQ
            exact W.iret (v := 2) hx hb hr (fun t ht hW => ⟨⟨2, F, rfl, ⟨rfl, (zB.of ⟨by decide, by decide⟩), (by have := btk_9.1; have := btk_9.2; have : (2 : Int32).toInt = 2 := (by decide); omega), trivial⟩, by rw [ht]; exact h.1, h.2.1, zFr.rf⟩, h.2.2.F ht⟩) h.2.2.2.2 dX7_lineKindOf_53
          · by_cases c_11 : tk = 8
            · refine lv_tableIn (off := 53) (tgt := 54) hx hb dX7_lineKindOf_1 (by rw [c_11]; decide) (by rw [c_11]; decide) (by rw [c_11]; rfl) (by decide) ?_
              have btk_11 : zB 8 8 tk := by rw [c_11]; exact zBc _ _ (by decide)
              refine lv_iconst (v := 3) hx hb dX7_lineKindOf_54 (by decide) ?_
              subst hQ
              exact W.iret (v := 3) hx hb hr (fun t ht hW => ⟨⟨3, F, rfl, ⟨rfl, (zB.of ⟨by decide, by decide⟩), (by have := btk_11.1; have := btk_11.2; have : (3 : Int32).toInt = 3 := (by decide); omega), trivial⟩, by rw [ht]; exact h.1, h.2.1, zFr.rf⟩, h.2.2.F ht⟩) h.2.2.2.2 dX7_lineKindOf_55
            · by_cases c_13 : tk = 9
              · refine lv_tableIn (off := 57) (tgt := 58) hx hb dX7_lineKindOf_1 (by rw [c_13]; decide) (by rw [c_13]; decide) (by rw [c_13]; rfl) (by decide) ?_
                have btk_13 : zB 9 9 tk := by rw [c_13]; exact zBc _ _ (by decide)
                refine lv_iconst (v := (-1)) hx hb dX7_lineKindOf_58 (by decide) ?_
                subst hQ
                exact W.iret (v := (-1)) hx hb hr (fun t ht hW => ⟨⟨(-1), F, rfl, ⟨rfl, (zB.of ⟨by decide, by decide⟩), (by have := btk_13.1; have := btk_13.2; have : ((-1) : Int32).toInt = (-1) := (by decide); omega), trivial⟩, by rw [ht]; exact h.1, h.2.1, zFr.rf⟩, h.2.2.F ht⟩) h.2.2.2.2 dX7_lineKindOf_59
              · by_cases c_15 : tk = 10
                · refine lv_tableIn (off := 55) (tgt := 56) hx hb dX7_lineKindOf_1 (by rw [c_15]; decide) (by rw [c_15]; decide) (by rw [c_15]; rfl) (by decide) ?_
                  have btk_15 : zB 10 10 tk := by rw [c_15]; exact zBc _ _ (by decide)
                  refine lv_iconst (v := 4) hx hb dX7_lineKindOf_56 (by decide) ?_
                  subst hQ
                  exact W.iret (v := 4) hx hb hr (fun t ht hW => ⟨⟨4, F, rfl, ⟨rfl, (zB.of ⟨by decide, by decide⟩), (by have := btk_15.1; have := btk_15.2; have : (4 : Int32).toInt = 4 := (by decide); omega), trivial⟩, by rw [ht]; exact h.1, h.2.1, zFr.rf⟩, h.2.2.F ht⟩) h.2.2.2.2 dX7_lineKindOf_57
                · have nc_1 : tk.toInt ≠ 3 := z_nev c_1 (by decide)
                  have nc_3 : tk.toInt ≠ 4 := z_nev c_3 (by decide)
                  have nc_5 : tk.toInt ≠ 5 := z_nev c_5 (by decide)
                  have nc_7 : tk.toInt ≠ 6 := z_nev c_7 (by decide)
                  have nc_9 : tk.toInt ≠ 7 := z_nev c_9 (by decide)
                  have nc_11 : tk.toInt ≠ 8 := z_nev c_11 (by decide)
                  have nc_13 : tk.toInt ≠ 9 := z_nev c_13 (by decide)
                  have nc_15 : tk.toInt ≠ 10 := z_nev c_15 (by decide)
                  refine lv_tableOut (tgt := 58) hx hb dX7_lineKindOf_1 (by have := (zB.all tk).1; have := (zB.all tk).2; omega) (by decide) ?_
                  refine lv_iconst (v := (-1)) hx hb dX7_lineKindOf_58 (by decide) ?_
                  subst hQ
                  exact W.iret (v := (-1)) hx hb hr (fun t ht hW => ⟨⟨(-1), F, rfl, ⟨rfl, (zB.of ⟨by decide, by decide⟩), (by have := (zB.all tk).1; have := (zB.all tk).2; have : ((-1) : Int32).toInt = (-1) := (by decide); omega), trivial⟩, by rw [ht]; exact h.1, h.2.1, zFr.rf⟩, h.2.2.F ht⟩) h.2.2.2.2 dX7_lineKindOf_59

set_option maxHeartbeats 4000000 in
set_option maxRecDepth 100000 in
theorem zc_X7_openBracket (l : Launch) (D : va_G) (k : Nat → ClassId) (Γ : Nat → Option Nat) (L : List Nat) (F : Nat → va_E) (sz : Nat) (th : Nat) (d : Int32) (tk : Nat) (hth : Γ th = some 7) (ktk : zfld F th 4 = .ref tk) (htk : Γ tk = some 8) : Met l yX7_openBracket zwX7_openBracket ({ frames := 1, cells := 0, slots := 0, locals := 21 }) (va_Pc [.ref th, .int d] (zP D k Γ L F sz)) (va_Qv (fun (u : Nat → va_E) => True) (zQ D k Γ L F [701, 702, 706]) (zA L sz)) 0 0 (zA L sz) := by
  refine Met.ofW (cc := cX7_openBracket) (maxL := 2) (ret := none) (by decide) rfl ?_
  intro p e s m args below meth c s₁ B hml hv
  obtain ⟨rfl, hsz, hP, hK, hLn, hE, hI⟩ := hv
  have hx := B.exec
  have hb := B.bytes
  have hr := B.returns
  have hg : ∀ w ∈ zG, w.before _ s = true := fun w h9 => atoms_spec (ws := zwX7_openBracket) B.pre w (List.mem_cons_of_mem _ h9)
  have hown : s.vm.findClass RX7 = some m.cls := findClass_of_methodNamed B.named
  have hlocks := B.notSynchronized
  subst hsz
  have Z : zC p m c cX7_openBracket 2 s _ zG RX7 D k L := ⟨⟨hx, hb, hml, hown, hg⟩, hK, hLn, hE⟩
  have h : zH D k Γ L s F s.heap [] := ⟨hP, hI, va_S.rf⟩
  have hl := lv_entry ([.ref th, .int d]) (n := 2) (Nat.le_of_ble_eq_true rfl)
  rw [lg_entry_eq]
  generalize (lg_sl ([.ref th, .int d]) ++ List.replicate (2 - (lg_sl ([.ref th, .int d])).length) Slot.unset).toArray = ls at hl ⊢
  have hl : lv_has ls 2 [(0, .ref th), (1, .int d)] := hl
  clear hP hK hLn hE hI
  generalize hargs : ([.ref th, .int d] : List Value).toArray = args at *
  refine z_start (fun R Q hRf hRl hQ => ?_)
  have hRf : R.frames = 1 := hRf
  have hRl : R.locals = 21 := hRl
  refine lv_aload_n hx hb dX7_openBracket_0 rfl (lv_at hl 0 rfl) ?_
  refine zk_Vi (As := []) (rest := []) (bytes := cX7_kind) (maxL := 2) (ret := (some .int)) Z h (zc_X7_kind l D k Γ L F s.heap.size th tk hth ktk htk) (cwV 0 hg zv_RX7_65 rfl rfl rfl zd_X7_kind ⟨z_leR hRf (by decide), z_leR hRl (by decide)⟩) hth (by decide) rfl rfl hl.1 rfl (Nat.le_of_ble_eq_true rfl) dX7_openBracket_1 ⟨Nat.zero_le _, Nat.zero_le _⟩ (fun r_1 F_2 H locs w_3 h hfF_2 => ?_)
  obtain ⟨rfl, q_4, -⟩ := w_3
  have br_1 := zB.all r_1
  refine lv_bipush (v := 40) hx hb dX7_openBracket_4 (by decide) ?_
  refine lv_icmp_eq (tgt := 17) hx hb dX7_openBracket_6 (by decide) (fun c_5 => ?_) (fun c_5 => ?_)
  · have c_5 := z_eq c_5
    have br_1_6 : zB 40 40 r_1 := zB.eqL (a := 0) (b := 0) c_5 (zBc 40 40 (by decide))
    have c_7 := z_not0 br_1_6 (by decide)
    obtain ⟨x_8, kx_8, bx_8⟩ := q_4 c_7
    refine lv_iload_n hx hb dX7_openBracket_17 rfl (lv_at hl 1 rfl) ?_
    refine lv_bipush (v := 6) hx hb dX7_openBracket_18 (by decide) ?_
    refine lv_icmp_lt (tgt := 31) hx hb dX7_openBracket_20 (by decide) (fun c_9 => ?_) (fun c_9 => ?_)
    · have c_9 := z_lt c_9
      have bd_10 : zB (-2147483648) 5 d := zB.ltL c_9 (zB.all d) (zBc 6 6 (by decide)) (by decide)
      refine lv_aload_n hx hb dX7_openBracket_31 rfl (lv_at hl 0 rfl) ?_
      refine lv_dup hx hb dX7_openBracket_32 rfl ?_
      refine zt_getk (t := 7) (C := RX7) (T := TX7) (N := 12) Z h hth zin_7 rfl 6 kx_8 ⟨by decide, rfl, by decide⟩ (zm_RX7 (List.mem_of_getElem? (i := 9) rfl)) (fun _ h9 => h9) dX7_openBracket_33 ?_
      refine lv_iconst (v := 1) hx hb dX7_openBracket_36 (by decide) ?_
      refine lv_iadd hx hb dX7_openBracket_37 ?_
      refine zi_add (lo := 1) (hi := 601) bx_8 (zBc 1 1 (by decide)) (by decide) (fun x_11 bx_11 tx_11 => ?_)
      refine zt_put (t := 7) (C := RX7) (T := TX7) (N := 12) (v := .int x_11) Z h hth zin_7 tyX7 tyX7_ok nmX7 rfl 6 rfl ⟨by decide, rfl⟩ (zm_RX7 (List.mem_of_getElem? (i := 9) rfl)) (fun _ h9 => h9) rfl (zV.i (bx_11.w ⟨by decide, by decide⟩)) rfl rfl dX7_openBracket_38 (fun H locs F_12 h hfF_12 kF_12 => ?_)
      subst hQ
      exact W.vret hx hb hr (fun t ht hW => ⟨⟨F_12, rfl, trivial, by rw [ht]; exact h.1, h.2.1, (hfF_12.w (by decide))⟩, h.2.2.F ht⟩) h.2.2.2.2 dX7_openBracket_41
    · have c_9 := z_nlt c_9
      have bd_13 : zB 6 2147483647 d := zB.leR c_9 (zBc 6 6 (by decide)) (zB.all d) (by decide)
      refine lv_aload_n hx hb dX7_openBracket_23 rfl (lv_at hl 0 rfl) ?_
      refine lv_iconst (v := 3) hx hb dX7_openBracket_24 (by decide) ?_
      refine zk_Vv (As := [.int 3]) (rest := []) (bytes := cX7_fail) (maxL := 2) (ret := none) Z h (zc_X7_fail l D k Γ L F H.size th 3 tk hth ktk htk) (cwV 1 hg zv_RX7_79 rfl rfl rfl zd_X7_fail ⟨z_leR hRf (by decide), z_leR hRl (by decide)⟩) hth (by decide) rfl rfl hl.1 rfl (Nat.le_of_ble_eq_true rfl) dX7_openBracket_25 ⟨Nat.zero_le _, Nat.zero_le _⟩ (fun F_14 H locs w_15 h hfF_14 => ?_)
      refine lv_goto (tgt := 41) hx hb dX7_openBracket_28 (by decide) ?_
      subst hQ
      exact W.vret hx hb hr (fun t ht hW => ⟨⟨F_14, rfl, trivial, by rw [ht]; exact h.1, h.2.1, hfF_14⟩, h.2.2.F ht⟩) h.2.2.2.2 dX7_openBracket_41
  · have c_5 := z_ne c_5
    refine lv_aload_n hx hb dX7_openBracket_9 rfl (lv_at hl 0 rfl) ?_
    refine lv_iconst (v := 1) hx hb dX7_openBracket_10 (by decide) ?_
    refine zk_Vv (As := [.int 1]) (rest := []) (bytes := cX7_fail) (maxL := 2) (ret := none) Z h (zc_X7_fail l D k Γ L F H.size th 1 tk hth ktk htk) (cwV 1 hg zv_RX7_79 rfl rfl rfl zd_X7_fail ⟨z_leR hRf (by decide), z_leR hRl (by decide)⟩) hth (by decide) rfl rfl hl.1 rfl (Nat.le_of_ble_eq_true rfl) dX7_openBracket_11 ⟨Nat.zero_le _, Nat.zero_le _⟩ (fun F_16 H locs w_17 h hfF_16 => ?_)
    refine lv_goto (tgt := 41) hx hb dX7_openBracket_14 (by decide) ?_
    subst hQ
    exact W.vret hx hb hr (fun t ht hW => ⟨⟨F_16, rfl, trivial, by rw [ht]; exact h.1, h.2.1, hfF_16⟩, h.2.2.F ht⟩) h.2.2.2.2 dX7_openBracket_41

set_option maxHeartbeats 4000000 in
set_option maxRecDepth 100000 in
theorem zc_X7_addCall (l : Launch) (D : va_G) (k : Nat → ClassId) (Γ : Nat → Option Nat) (L : List Nat) (F : Nat → va_E) (sz : Nat) (th : Nat) (nt : Int32) (pr : Nat) (hth : Γ th = some 7) (bnt : zB (-1) 601 nt) (kpr : zfld F th 3 = .ref pr) (hpr : Γ pr = some 6) : Met l yX7_addCall zwX7_addCall ({ frames := 0, cells := 0, slots := 0, locals := 0 }) (va_Pc [.ref th, .int nt] (zP D k Γ L F sz)) (va_Qi (fun (r : Int32) (u : Nat → va_E) => zB (-1) 149 r ∧ True) (zQ D k Γ L F [711, 10600, 10700]) (zA L sz)) 0 0 (zA L sz) := by
  refine Met.ofW (cc := cX7_addCall) (maxL := 2) (ret := (some .int)) (by decide) rfl ?_
  intro p e s m args below meth c s₁ B hml hv
  obtain ⟨rfl, hsz, hP, hK, hLn, hE, hI⟩ := hv
  have hx := B.exec
  have hb := B.bytes
  have hr := B.returns
  have hg : ∀ w ∈ zG, w.before _ s = true := fun w h9 => atoms_spec (ws := zwX7_addCall) B.pre w (List.mem_cons_of_mem _ h9)
  have hown : s.vm.findClass RX7 = some m.cls := findClass_of_methodNamed B.named
  have hlocks := B.notSynchronized
  subst hsz
  have Z : zC p m c cX7_addCall 2 s _ zG RX7 D k L := ⟨⟨hx, hb, hml, hown, hg⟩, hK, hLn, hE⟩
  have h : zH D k Γ L s F s.heap [] := ⟨hP, hI, va_S.rf⟩
  have hl := lv_entry ([.ref th, .int nt]) (n := 2) (Nat.le_of_ble_eq_true rfl)
  rw [lg_entry_eq]
  generalize (lg_sl ([.ref th, .int nt]) ++ List.replicate (2 - (lg_sl ([.ref th, .int nt])).length) Slot.unset).toArray = ls at hl ⊢
  have hl : lv_has ls 2 [(0, .ref th), (1, .int nt)] := hl
  clear hP hK hLn hE hI
  generalize hargs : ([.ref th, .int nt] : List Value).toArray = args at *
  refine z_start (fun R Q hRf hRl hQ => ?_)
  have hRf : R.frames = 0 := hRf
  have hRl : R.locals = 0 := hRl
  refine lv_aload_n hx hb dX7_addCall_0 rfl (lv_at hl 0 rfl) ?_
  refine zt_geti (t := 7) (C := RX7) (T := TX7) (N := 12) Z h hth zin_7 rfl 11 rfl ⟨by decide, rfl⟩ (zm_RX7 (List.mem_of_getElem? (i := 10) rfl)) (fun _ h9 => h9) dX7_addCall_1 (fun x_1 kx_1 bx_1 => ?_)
  refine lv_aload_n hx hb dX7_addCall_4 rfl (lv_at hl 0 rfl) ?_
  refine zt_getr (t := 7) (C := RX7) (T := TX7) (N := 12) Z h hth zin_7 rfl 7 rfl ⟨by decide, rfl⟩ (zm_RX7 (List.mem_of_getElem? (i := 122) rfl)) (fun _ h9 => h9) dX7_addCall_5 (fun a_2 ka_2 ha_2 => ?_)
  refine zt_alen (t := 106) Z h ha_2 ⟨by decide, rfl⟩ (by decide) (v := 150) rfl dX7_addCall_8 ?_
  refine lv_icmp_lt (tgt := 14) hx hb dX7_addCall_9 (by decide) (fun c_3 => ?_) (fun c_3 => ?_)
  · have c_3 := z_lt c_3
    have bx_1_4 : zB 0 149 x_1 := zB.ltL c_3 bx_1 (zBc 150 150 (by decide)) (by decide)
    refine lv_aload_n hx hb dX7_addCall_14 rfl (lv_at hl 0 rfl) ?_
    refine zt_getk (t := 7) (C := RX7) (T := TX7) (N := 12) Z h hth zin_7 rfl 7 ka_2 ⟨by decide, rfl, by decide⟩ (zm_RX7 (List.mem_of_getElem? (i := 122) rfl)) (fun _ h9 => h9) dX7_addCall_15 ?_
    refine lv_aload_n hx hb dX7_addCall_18 rfl (lv_at hl 0 rfl) ?_
    refine zt_getk (t := 7) (C := RX7) (T := TX7) (N := 12) Z h hth zin_7 rfl 11 kx_1 ⟨by decide, rfl, by decide⟩ (zm_RX7 (List.mem_of_getElem? (i := 10) rfl)) (fun _ h9 => h9) dX7_addCall_19 ?_
    refine lv_iload_n hx hb dX7_addCall_22 rfl (lv_at hl 1 rfl) ?_
    refine zt_iast (t := 106) Z h ha_2 ⟨by decide, rfl⟩ bx_1_4 ⟨by decide, by decide⟩ bnt dX7_addCall_23 (fun H locs F_5 h hfF_5 => ?_)
    refine lv_aload_n hx hb dX7_addCall_24 rfl (lv_at hl 0 rfl) ?_
    refine zt_getr (t := 7) (C := RX7) (T := TX7) (N := 12) Z h hth zin_7 rfl 10 rfl ⟨by decide, rfl⟩ (zm_RX7 (List.mem_of_getElem? (i := 123) rfl)) (fun _ h9 => h9) dX7_addCall_25 (fun a_6 ka_6 ha_6 => ?_)
    refine lv_aload_n hx hb dX7_addCall_28 rfl (lv_at hl 0 rfl) ?_
    refine zt_getk (t := 7) (C := RX7) (T := TX7) (N := 12) Z h hth zin_7 rfl 11 (hfF_5.f hth 11 ⟨by decide, by decide⟩ kx_1) ⟨by decide, rfl, by decide⟩ (zm_RX7 (List.mem_of_getElem? (i := 10) rfl)) (fun _ h9 => h9) dX7_addCall_29 ?_
    refine lv_aload_n hx hb dX7_addCall_32 rfl (lv_at hl 0 rfl) ?_
    refine zt_getk (t := 7) (C := RX7) (T := TX7) (N := 12) Z h hth zin_7 rfl 3 (hfF_5.f hth 3 ⟨by decide, by decide⟩ kpr) ⟨by decide, rfl, by decide⟩ (zm_RX7 (List.mem_of_getElem? (i := 2) rfl)) (fun _ h9 => h9) dX7_addCall_33 ?_
    refine zt_geti (t := 6) (C := RX6) (T := TX6) (N := 6) Z h hpr zin_6 rfl 4 rfl ⟨by decide, rfl⟩ (zm_RX7 (List.mem_of_getElem? (i := 28) rfl)) (fun _ h9 => h9) dX7_addCall_36 (fun x_7 kx_7 bx_7 => ?_)
    refine zt_iast (t := 107) Z h ha_6 ⟨by decide, rfl⟩ bx_1_4 ⟨by decide, by decide⟩ (bx_7.w ⟨by decide, by decide⟩) dX7_addCall_39 (fun H locs F_8 h hfF_8 => ?_)
    refine lv_aload_n hx hb dX7_addCall_40 rfl (lv_at hl 0 rfl) ?_
    refine lv_dup hx hb dX7_addCall_41 rfl ?_
    refine zt_getk (t := 7) (C := RX7) (T := TX7) (N := 12) Z h hth zin_7 rfl 11 (hfF_8.f hth 11 ⟨by decide, by decide⟩ (hfF_5.f hth 11 ⟨by decide, by decide⟩ kx_1)) ⟨by decide, rfl, by decide⟩ (zm_RX7 (List.mem_of_getElem? (i := 10) rfl)) (fun _ h9 => h9) dX7_addCall_42 ?_
    refine lv_iconst (v := 1) hx hb dX7_addCall_45 (by decide) ?_
    refine lv_iadd hx hb dX7_addCall_46 ?_
    refine zi_add (lo := 1) (hi := 150) bx_1_4 (zBc 1 1 (by decide)) (by decide) (fun x_9 bx_9 tx_9 => ?_)
    refine zt_put (t := 7) (C := RX7) (T := TX7) (N := 12) (v := .int x_9) Z h hth zin_7 tyX7 tyX7_ok nmX7 rfl 11 rfl ⟨by decide, rfl⟩ (zm_RX7 (List.mem_of_getElem? (i := 10) rfl)) (fun _ h9 => h9) rfl (zV.i (bx_9.w ⟨by decide, by decide⟩)) rfl rfl dX7_addCall_47 (fun H locs F_10 h hfF_10 kF_10 => ?_)
    refine lv_aload_n hx hb dX7_addCall_50 rfl (lv_at hl 0 rfl) ?_
    refine zt_getk (t := 7) (C := RX7) (T := TX7) (N := 12) Z h hth zin_7 rfl 11 kF_10 ⟨by decide, rfl, by decide⟩ (zm_RX7 (List.mem_of_getElem? (i := 10) rfl)) (fun _ h9 => h9) dX7_addCall_51 ?_
    refine lv_iconst (v := 1) hx hb dX7_addCall_54 (by decide) ?_
    refine lv_isub hx hb dX7_addCall_55 ?_
    refine zi_sub (lo := 0) (hi := 149) bx_9 (zBc 1 1 (by decide)) (by decide) (fun x_11 bx_11 tx_11 => ?_)
    subst hQ
    exact W.iret (v := x_11) hx hb hr (fun t ht hW => ⟨⟨x_11, F_10, rfl, ⟨(bx_11.w ⟨by decide, by decide⟩), trivial⟩, by rw [ht]; exact h.1, h.2.1, (((hfF_5.w (by decide)).trans hfF_8 (by decide)).trans hfF_10 (by decide))⟩, h.2.2.F ht⟩) h.2.2.2.2 dX7_addCall_56
  · have c_3 := z_nlt c_3
    have bx_1_12 : zB 150 150 x_1 := zB.leR c_3 (zBc 150 150 (by decide)) bx_1 (by decide)
    refine lv_iconst (v := (-1)) hx hb dX7_addCall_12 (by decide) ?_
    subst hQ
    exact W.iret (v := (-1)) hx hb hr (fun t ht hW => ⟨⟨(-1), F, rfl, ⟨(zB.of ⟨by decide, by decide⟩), trivial⟩, by rw [ht]; exact h.1, h.2.1, zFr.rf⟩, h.2.2.F ht⟩) h.2.2.2.2 dX7_addCall_13

set_option maxHeartbeats 4000000 in
set_option maxRecDepth 100000 in
theorem zc_X7_joinCalls (l : Launch) (D : va_G) (k : Nat → ClassId) (Γ : Nat → Option Nat) (L : List Nat) (F : Nat → va_E) (sz : Nat) (th : Nat) (pr : Nat) (tk : Nat) (co : Nat) (hth : Γ th = some 7) (kpr : zfld F th 3 = .ref pr) (hpr : Γ pr = some 6) (ktk : zfld F th 4 = .ref tk) (htk : Γ tk = some 8) (kco : zfld F th 5 = .ref co) (hco : Γ co = some 1) : Met l yX7_joinCalls zwX7_joinCalls ({ frames := 4, cells := 0, slots := 0, locals := 90 }) (va_Pc [.ref th] (zP D k Γ L F sz)) (va_Qv (fun (u : Nat → va_E) => True) (zQ D k Γ L F [206, 701, 702, 706, 10200]) (zA L sz)) 0 0 (zA L sz) := by
  refine Met.ofW (cc := cX7_joinCalls) (maxL := 3) (ret := none) (by decide) rfl ?_
  intro p e s m args below meth c s₁ B hml hv
  obtain ⟨rfl, hsz, hP, hK, hLn, hE, hI⟩ := hv
  have hx := B.exec
  have hb := B.bytes
  have hr := B.returns
  have hg : ∀ w ∈ zG, w.before _ s = true := fun w h9 => atoms_spec (ws := zwX7_joinCalls) B.pre w (List.mem_cons_of_mem _ h9)
  have hown : s.vm.findClass RX7 = some m.cls := findClass_of_methodNamed B.named
  have hlocks := B.notSynchronized
  subst hsz
  have Z : zC p m c cX7_joinCalls 3 s _ zG RX7 D k L := ⟨⟨hx, hb, hml, hown, hg⟩, hK, hLn, hE⟩
  have h : zH D k Γ L s F s.heap [] := ⟨hP, hI, va_S.rf⟩
  have hl := lv_entry ([.ref th]) (n := 3) (Nat.le_of_ble_eq_true rfl)
  rw [lg_entry_eq]
  generalize (lg_sl ([.ref th]) ++ List.replicate (3 - (lg_sl ([.ref th])).length) Slot.unset).toArray = ls at hl ⊢
  have hl : lv_has ls 3 [(0, .ref th)] := hl
  clear hP hK hLn hE hI
  generalize hargs : ([.ref th] : List Value).toArray = args at *
  refine z_start (fun R Q hRf hRl hQ => ?_)
  have hRf : R.frames = 4 := hRf
  have hRl : R.locals = 90 := hRl
  refine lv_iconst (v := 0) hx hb dX7_joinCalls_0 (by decide) ?_
  refine lv_istore_n (lv' := [(1, .int 0), (0, .ref th)]) hx hb dX7_joinCalls_1 rfl hl (by decide) rfl (fun ls hl => ?_)
  have j_j2_1 : ∀ (n : Nat) (ls : Array Slot) (y1_j2_1 : Int32) (F_2 : Nat → va_E) (H : Heap) (locs : List Loc), lv_has ls 3 [(1, .int y1_j2_1), (0, .ref th)] → zB 0 150 y1_j2_1 → zH D k Γ L s F_2 H locs → zFr Γ [206, 10200] F F_2 → (2147483647 - y1_j2_1.toInt).toNat = n → W p l e R s m args below meth c H locs 0 0 Q (F0 m 2 ls []) := by
    intro n
    induction n using Nat.strongRecOn with
    | _ n ih_j2_1 =>
      intro ls y1_j2_1 F_2 H locs hl by1_j2_1 h hfF_2 hn_j2_1
      refine lv_iload_n hx hb dX7_joinCalls_2 rfl (lv_at hl 0 rfl) ?_
      refine lv_aload_n hx hb dX7_joinCalls_3 rfl (lv_at hl 1 rfl) ?_
      refine zt_geti (t := 7) (C := RX7) (T := TX7) (N := 12) Z h hth zin_7 rfl 11 rfl ⟨by decide, rfl⟩ (zm_RX7 (List.mem_of_getElem? (i := 10) rfl)) (fun _ h9 => h9) dX7_joinCalls_4 (fun x_3 kx_3 bx_3 => ?_)
      refine lv_icmp_ge (tgt := 140) hx hb dX7_joinCalls_7 (by decide) (fun c_4 => ?_) (fun c_4 => ?_)
      · have c_4 := z_le c_4
        subst hQ
        exact W.vret hx hb hr (fun t ht hW => ⟨⟨F_2, rfl, trivial, by rw [ht]; exact h.1, h.2.1, (hfF_2.w (by decide))⟩, h.2.2.F ht⟩) h.2.2.2.2 dX7_joinCalls_140
      · have c_4 := z_nle c_4
        have by1_j2_1_5 : zB 0 149 y1_j2_1 := zB.ltL c_4 by1_j2_1 bx_3 (by decide)
        have bx_3_6 : zB 1 150 x_3 := zB.ltR c_4 by1_j2_1 bx_3 (by decide)
        refine lv_iload_n hx hb dX7_joinCalls_10 rfl (lv_at hl 0 rfl) ?_
        refine lv_aload_n hx hb dX7_joinCalls_11 rfl (lv_at hl 1 rfl) ?_
        refine zt_getr (t := 7) (C := RX7) (T := TX7) (N := 12) Z h hth zin_7 rfl 7 rfl ⟨by decide, rfl⟩ (zm_RX7 (List.mem_of_getElem? (i := 122) rfl)) (fun _ h9 => h9) dX7_joinCalls_12 (fun a_7 ka_7 ha_7 => ?_)
        refine zt_alen (t := 106) Z h ha_7 ⟨by decide, rfl⟩ (by decide) (v := 150) rfl dX7_joinCalls_15 ?_
        refine lv_icmp_ge (tgt := 140) hx hb dX7_joinCalls_16 (by decide) (fun c_8 => ?_) (fun c_8 => ?_)
        · have c_8 := z_le c_8
          exact zB.noLe c_8 (zBc 150 150 (by decide)) by1_j2_1_5 (by decide)
        · have c_8 := z_nle c_8
          refine lv_aload_n hx hb dX7_joinCalls_19 rfl (lv_at hl 1 rfl) ?_
          refine zt_getk (t := 7) (C := RX7) (T := TX7) (N := 12) Z h hth zin_7 rfl 3 (hfF_2.f hth 3 ⟨by decide, by decide⟩ kpr) ⟨by decide, rfl, by decide⟩ (zm_RX7 (List.mem_of_getElem? (i := 2) rfl)) (fun _ h9 => h9) dX7_joinCalls_20 ?_
          refine lv_aload_n hx hb dX7_joinCalls_23 rfl (lv_at hl 1 rfl) ?_
          refine zt_getk (t := 7) (C := RX7) (T := TX7) (N := 12) Z h hth zin_7 rfl 4 (hfF_2.f hth 4 ⟨by decide, by decide⟩ ktk) ⟨by decide, rfl, by decide⟩ (zm_RX7 (List.mem_of_getElem? (i := 4) rfl)) (fun _ h9 => h9) dX7_joinCalls_24 ?_
          refine lv_aload_n hx hb dX7_joinCalls_27 rfl (lv_at hl 1 rfl) ?_
          refine zt_getk (t := 7) (C := RX7) (T := TX7) (N := 12) Z h hth zin_7 rfl 7 ka_7 ⟨by decide, rfl, by decide⟩ (zm_RX7 (List.mem_of_getElem? (i := 122) rfl)) (fun _ h9 => h9) dX7_joinCalls_28 ?_
          refine lv_iload_n hx hb dX7_joinCalls_31 rfl (lv_at hl 0 rfl) ?_
          refine zt_ialde (t := 106) Z h ha_7 ⟨by decide, rfl⟩ by1_j2_1_5 ⟨by decide, by decide⟩ dX7_joinCalls_32 (fun x_9 ex_9 bx_9 => ?_)
          refine zk_Vi (As := [.ref tk, .int x_9]) (rest := []) (bytes := cX6_functionNamed) (maxL := 4) (ret := (some .int)) Z h (zc_X6_functionNamed l D k Γ L F_2 H.size pr tk x_9 hpr htk) (cwV 2 hg zv_RX7_128 rfl rfl rfl zd_X6_functionNamed ⟨z_leR hRf (by decide), z_leR hRl (by decide)⟩) hpr (by decide) rfl rfl hl.1 rfl (Nat.le_of_ble_eq_true rfl) dX7_joinCalls_33 ⟨Nat.zero_le _, Nat.zero_le _⟩ (fun r_10 F_11 H locs w_12 h hfF_11 => ?_)
          obtain ⟨rfl, br_10, -⟩ := w_12
          refine lv_istore_n (lv' := [(2, .int r_10), (1, .int y1_j2_1), (0, .ref th)]) hx hb dX7_joinCalls_36 rfl hl (by decide) rfl (fun ls hl => ?_)
          refine lv_iload_n hx hb dX7_joinCalls_37 rfl (lv_at hl 0 rfl) ?_
          refine lv_iconst (v := (-1)) hx hb dX7_joinCalls_38 (by decide) ?_
          refine lv_icmp_eq (tgt := 63) hx hb dX7_joinCalls_39 (by decide) (fun c_13 => ?_) (fun c_13 => ?_)
          · have c_13 := z_eq c_13
            have br_10_14 : zB (-1) (-1) r_10 := zB.eqL (a := 0) (b := 0) c_13 (zBc (-1) (-1) (by decide))
            refine lv_aload_n hx hb dX7_joinCalls_63 rfl (lv_at hl 2 rfl) ?_
            refine lv_aload_n hx hb dX7_joinCalls_64 rfl (lv_at hl 2 rfl) ?_
            refine zt_getk (t := 7) (C := RX7) (T := TX7) (N := 12) Z h hth zin_7 rfl 7 ka_7 ⟨by decide, rfl, by decide⟩ (zm_RX7 (List.mem_of_getElem? (i := 122) rfl)) (fun _ h9 => h9) dX7_joinCalls_65 ?_
            refine lv_iload_n hx hb dX7_joinCalls_68 rfl (lv_at hl 1 rfl) ?_
            refine zt_ialdk (t := 106) Z h ha_7 ⟨by decide, rfl⟩ by1_j2_1_5 ⟨by decide, by decide⟩ ex_9 dX7_joinCalls_69 ?_
            refine zt_put (t := 7) (C := RX7) (T := TX7) (N := 12) (v := .int x_9) Z h hth zin_7 tyX7 tyX7_ok nmX7 rfl 6 rfl ⟨by decide, rfl⟩ (zm_RX7 (List.mem_of_getElem? (i := 9) rfl)) (fun _ h9 => h9) rfl (zV.i bx_9) rfl rfl dX7_joinCalls_70 (fun H locs F_15 h hfF_15 kF_15 => ?_)
            refine lv_aload_n hx hb dX7_joinCalls_73 rfl (lv_at hl 2 rfl) ?_
            refine lv_iconst (v := 4) hx hb dX7_joinCalls_74 (by decide) ?_
            refine zk_Vv (As := [.int 4]) (rest := []) (bytes := cX7_fail) (maxL := 2) (ret := none) Z h (zc_X7_fail l D k Γ L F_15 H.size th 4 tk hth (hfF_15.f hth 4 ⟨by decide, by decide⟩ (hfF_2.f hth 4 ⟨by decide, by decide⟩ ktk)) htk) (cwV 1 hg zv_RX7_79 rfl rfl rfl zd_X7_fail ⟨z_leR hRf (by decide), z_leR hRl (by decide)⟩) hth (by decide) rfl rfl hl.1 rfl (Nat.le_of_ble_eq_true rfl) dX7_joinCalls_75 ⟨Nat.zero_le _, Nat.zero_le _⟩ (fun F_16 H locs w_17 h hfF_16 => ?_)
            subst hQ
            exact W.vret hx hb hr (fun t ht hW => ⟨⟨F_16, rfl, trivial, by rw [ht]; exact h.1, h.2.1, (((hfF_2.w (by decide)).trans hfF_15 (by decide)).trans hfF_16 (by decide))⟩, h.2.2.F ht⟩) h.2.2.2.2 dX7_joinCalls_78
          · have c_13 := z_ne c_13
            have br_10_18 : zB 0 9 r_10 := zB.neLo c_13 br_10 (zBc (-1) (-1) (by decide)) (by decide)
            refine lv_aload_n hx hb dX7_joinCalls_42 rfl (lv_at hl 2 rfl) ?_
            refine zt_getk (t := 7) (C := RX7) (T := TX7) (N := 12) Z h hth zin_7 rfl 3 (hfF_2.f hth 3 ⟨by decide, by decide⟩ kpr) ⟨by decide, rfl, by decide⟩ (zm_RX7 (List.mem_of_getElem? (i := 2) rfl)) (fun _ h9 => h9) dX7_joinCalls_43 ?_
            refine zt_getr (t := 6) (C := RX6) (T := TX6) (N := 6) Z h hpr zin_6 rfl 2 rfl ⟨by decide, rfl⟩ (zm_RX7 (List.mem_of_getElem? (i := 29) rfl)) (fun _ h9 => h9) dX7_joinCalls_46 (fun a_19 ka_19 ha_19 => ?_)
            refine lv_iload_n hx hb dX7_joinCalls_49 rfl (lv_at hl 0 rfl) ?_
            refine zt_aald (t := 104) (t1 := 2) Z h ha_19 ⟨by decide, rfl⟩ (by decide) br_10_18 ⟨by decide, by decide⟩ dX7_joinCalls_50 (fun a_20 ha_20 => ?_)
            refine zt_geti (t := 2) (C := RX2) (T := TX2) (N := 9) Z h ha_20 zin_2 rfl 7 rfl ⟨by decide, rfl⟩ (zm_RX7 (List.mem_of_getElem? (i := 60) rfl)) (fun _ h9 => h9) dX7_joinCalls_51 (fun x_21 kx_21 bx_21 => ?_)
            refine lv_aload_n hx hb dX7_joinCalls_54 rfl (lv_at hl 2 rfl) ?_
            refine zt_getr (t := 7) (C := RX7) (T := TX7) (N := 12) Z h hth zin_7 rfl 8 rfl ⟨by decide, rfl⟩ (zm_RX7 (List.mem_of_getElem? (i := 113) rfl)) (fun _ h9 => h9) dX7_joinCalls_55 (fun a_22 ka_22 ha_22 => ?_)
            refine lv_iload_n hx hb dX7_joinCalls_58 rfl (lv_at hl 1 rfl) ?_
            refine zt_ialde (t := 107) Z h ha_22 ⟨by decide, rfl⟩ by1_j2_1_5 ⟨by decide, by decide⟩ dX7_joinCalls_59 (fun x_23 ex_23 bx_23 => ?_)
            refine lv_icmp_eq (tgt := 79) hx hb dX7_joinCalls_60 (by decide) (fun c_24 => ?_) (fun c_24 => ?_)
            · have c_24 := z_eq c_24
              have bx_23_25 : zB 0 3 x_23 := zB.eqR (c := 0) (d := 0) c_24 bx_21
              refine lv_aload_n hx hb dX7_joinCalls_79 rfl (lv_at hl 2 rfl) ?_
              refine zt_getk (t := 7) (C := RX7) (T := TX7) (N := 12) Z h hth zin_7 rfl 5 (hfF_2.f hth 5 ⟨by decide, by decide⟩ kco) ⟨by decide, rfl, by decide⟩ (zm_RX7 (List.mem_of_getElem? (i := 6) rfl)) (fun _ h9 => h9) dX7_joinCalls_80 ?_
              refine lv_aload_n hx hb dX7_joinCalls_83 rfl (lv_at hl 2 rfl) ?_
              refine zt_getr (t := 7) (C := RX7) (T := TX7) (N := 12) Z h hth zin_7 rfl 9 rfl ⟨by decide, rfl⟩ (zm_RX7 (List.mem_of_getElem? (i := 114) rfl)) (fun _ h9 => h9) dX7_joinCalls_84 (fun a_26 ka_26 ha_26 => ?_)
              refine lv_iload_n hx hb dX7_joinCalls_87 rfl (lv_at hl 1 rfl) ?_
              refine zt_ialde (t := 107) Z h ha_26 ⟨by decide, rfl⟩ by1_j2_1_5 ⟨by decide, by decide⟩ dX7_joinCalls_88 (fun x_27 ex_27 bx_27 => ?_)
              refine lv_iload_n hx hb dX7_joinCalls_89 rfl (lv_at hl 0 rfl) ?_
              refine zk_Vv (As := [.int x_27, .int r_10]) (rest := []) (bytes := cX1_setNumber) (maxL := 3) (ret := none) Z h (zc_X1_setNumber l D k Γ L F_2 H.size co x_27 r_10 hco) (cwV 2 hg zv_RX7_176 rfl rfl rfl zd_X1_setNumber ⟨z_leR hRf (by decide), z_leR hRl (by decide)⟩) hco (by decide) rfl rfl hl.1 rfl (Nat.le_of_ble_eq_true rfl) dX7_joinCalls_90 ⟨Nat.zero_le _, Nat.zero_le _⟩ (fun F_28 H locs w_29 h hfF_28 => ?_)
              refine lv_aload_n hx hb dX7_joinCalls_93 rfl (lv_at hl 2 rfl) ?_
              refine zt_getk (t := 7) (C := RX7) (T := TX7) (N := 12) Z h hth zin_7 rfl 3 (hfF_28.f hth 3 ⟨by decide, by decide⟩ (hfF_2.f hth 3 ⟨by decide, by decide⟩ kpr)) ⟨by decide, rfl, by decide⟩ (zm_RX7 (List.mem_of_getElem? (i := 2) rfl)) (fun _ h9 => h9) dX7_joinCalls_94 ?_
              refine lv_aload_n hx hb dX7_joinCalls_97 rfl (lv_at hl 2 rfl) ?_
              refine zt_getr (t := 7) (C := RX7) (T := TX7) (N := 12) Z h hth zin_7 rfl 10 rfl ⟨by decide, rfl⟩ (zm_RX7 (List.mem_of_getElem? (i := 123) rfl)) (fun _ h9 => h9) dX7_joinCalls_98 (fun a_30 ka_30 ha_30 => ?_)
              refine lv_iload_n hx hb dX7_joinCalls_101 rfl (lv_at hl 1 rfl) ?_
              refine zt_ialde (t := 107) Z h ha_30 ⟨by decide, rfl⟩ by1_j2_1_5 ⟨by decide, by decide⟩ dX7_joinCalls_102 (fun x_31 ex_31 bx_31 => ?_)
              refine zk_Vi (As := [.int x_31]) (rest := []) (bytes := cX6_hasFunction) (maxL := 2) (ret := (some .boolean)) Z h (zc_X6_hasFunction l D k Γ L F_28 H.size pr x_31 hpr) (cwV 1 hg zv_RX7_206 rfl rfl rfl zd_X6_hasFunction ⟨z_leR hRf (by decide), z_leR hRl (by decide)⟩) hpr (by decide) rfl rfl hl.1 rfl (Nat.le_of_ble_eq_true rfl) dX7_joinCalls_103 ⟨Nat.zero_le _, Nat.zero_le _⟩ (fun r_32 F_33 H locs w_34 h hfF_33 => ?_)
              obtain ⟨rfl, br_32, q_35, q_36, -⟩ := w_34
              refine lv_if_eq (tgt := 134) hx hb dX7_joinCalls_106 (by decide) (fun c_37 => ?_) (fun c_37 => ?_)
              · have c_37 := z_eq c_37
                have br_32_38 : zB 0 0 r_32 := zB.eqL (a := 0) (b := 0) c_37 (zBc 0 0 (by decide))
                obtain ⟨x_39, ex_39, bx_39, tx_39⟩ := z_inc (n := 1) (lo := 1) (hi := 150) by1_j2_1_5 (by decide)
                refine lv_iinc (v := x_39) (lv' := [(1, .int x_39), (2, .int r_10), (0, .ref th)]) hx hb dX7_joinCalls_134 hl (k := 1) rfl ex_39 (by decide) rfl (fun ls hl => ?_)
                refine lv_goto (tgt := 2) hx hb dX7_joinCalls_137 (by decide) ?_
                exact ih_j2_1 _ (by have := bx_39.1; have := bx_39.2; have := br_10_18.1; have := br_10_18.2; have := bx_3_6.1; have := bx_3_6.2; have := bx_21.1; have := bx_21.2; have : ((-1) : Int32).toInt = (-1) := (by decide); have : (0 : Int32).toInt = 0 := (by decide); have : (150 : Int32).toInt = 150 := (by decide); have := by1_j2_1.1; have := by1_j2_1.2; omega) ls x_39 F_28 H locs (lv_sub hl [0, 2] rfl) (bx_39.w ⟨by decide, by decide⟩) h (hfF_2.trans hfF_28 (by decide)) rfl
              · have bx_31_40 : zB 0 9 x_31 := q_35 c_37
                obtain ⟨x_41, kx_41, bx_41, q_42⟩ := q_36 c_37
                have c_37 := z_ne c_37
                have br_32_43 : zB 1 1 r_32 := zB.neLo c_37 br_32 (zBc 0 0 (by decide)) (by decide)
                refine lv_aload_n hx hb dX7_joinCalls_109 rfl (lv_at hl 2 rfl) ?_
                refine zt_getk (t := 7) (C := RX7) (T := TX7) (N := 12) Z h hth zin_7 rfl 3 (hfF_28.f hth 3 ⟨by decide, by decide⟩ (hfF_2.f hth 3 ⟨by decide, by decide⟩ kpr)) ⟨by decide, rfl, by decide⟩ (zm_RX7 (List.mem_of_getElem? (i := 2) rfl)) (fun _ h9 => h9) dX7_joinCalls_110 ?_
                refine zt_getk (t := 6) (C := RX6) (T := TX6) (N := 6) Z h hpr zin_6 rfl 2 (hfF_28.f hpr 2 ⟨by decide, by decide⟩ ka_19) ⟨by decide, rfl, by decide⟩ (zm_RX7 (List.mem_of_getElem? (i := 29) rfl)) (fun _ h9 => h9) dX7_joinCalls_113 ?_
                refine lv_aload_n hx hb dX7_joinCalls_116 rfl (lv_at hl 2 rfl) ?_
                refine zt_getk (t := 7) (C := RX7) (T := TX7) (N := 12) Z h hth zin_7 rfl 10 ka_30 ⟨by decide, rfl, by decide⟩ (zm_RX7 (List.mem_of_getElem? (i := 123) rfl)) (fun _ h9 => h9) dX7_joinCalls_117 ?_
                refine lv_iload_n hx hb dX7_joinCalls_120 rfl (lv_at hl 1 rfl) ?_
                refine zt_ialdk (t := 107) Z h ha_30 ⟨by decide, rfl⟩ by1_j2_1_5 ⟨by decide, by decide⟩ ex_31 dX7_joinCalls_121 ?_
                refine zt_aald (t := 104) (t1 := 2) Z h ha_19 ⟨by decide, rfl⟩ (by decide) bx_31_40 ⟨by decide, by decide⟩ dX7_joinCalls_122 (fun a_44 ha_44 => ?_)
                refine lv_dup hx hb dX7_joinCalls_123 rfl ?_
                refine zt_geti (t := 2) (C := RX2) (T := TX2) (N := 9) Z h ha_44 zin_2 rfl 6 rfl ⟨by decide, rfl⟩ (zm_RX7 (List.mem_of_getElem? (i := 126) rfl)) (fun _ h9 => h9) dX7_joinCalls_124 (fun x_45 kx_45 bx_45 => ?_)
                refine lv_iconst (v := 1) hx hb dX7_joinCalls_127 (by decide) ?_
                refine lv_iload_n hx hb dX7_joinCalls_128 rfl (lv_at hl 0 rfl) ?_
                refine lv_ishl hx hb dX7_joinCalls_129 ?_
                refine zi_shl1 (n := 9) (hi := 512) br_10_18 (by decide) rfl (fun x_46 bx_46 => ?_)
                refine lv_ior hx hb dX7_joinCalls_130 ?_
                refine zi_any (fun x_47 bx_47 ex_47 => ?_)
                refine zt_put (t := 2) (C := RX2) (T := TX2) (N := 9) (v := .int x_47) Z h ha_44 zin_2 tyX2 tyX2_ok nmX2 rfl 6 rfl ⟨by decide, rfl⟩ (zm_RX7 (List.mem_of_getElem? (i := 126) rfl)) (fun _ h9 => h9) rfl (zV.i bx_47) rfl rfl dX7_joinCalls_131 (fun H locs F_48 h hfF_48 kF_48 => ?_)
                obtain ⟨x_49, ex_49, bx_49, tx_49⟩ := z_inc (n := 1) (lo := 1) (hi := 150) by1_j2_1_5 (by decide)
                refine lv_iinc (v := x_49) (lv' := [(1, .int x_49), (2, .int r_10), (0, .ref th)]) hx hb dX7_joinCalls_134 hl (k := 1) rfl ex_49 (by decide) rfl (fun ls hl => ?_)
                refine lv_goto (tgt := 2) hx hb dX7_joinCalls_137 (by decide) ?_
                exact ih_j2_1 _ (by have := bx_49.1; have := bx_49.2; have := br_10_18.1; have := br_10_18.2; have := bx_3_6.1; have := bx_3_6.2; have := bx_21.1; have := bx_21.2; have := bx_41.1; have := bx_41.2; have := bx_47.1; have := bx_47.2; have : ((-1) : Int32).toInt = (-1) := (by decide); have : (0 : Int32).toInt = 0 := (by decide); have : (1 : Int32).toInt = 1 := (by decide); have : (150 : Int32).toInt = 150 := (by decide); have := by1_j2_1.1; have := by1_j2_1.2; omega) ls x_49 F_48 H locs (lv_sub hl [0, 2] rfl) (bx_49.w ⟨by decide, by decide⟩) h ((hfF_2.trans hfF_28 (by decide)).trans hfF_48 (by decide)) rfl
            · have c_24 := z_ne c_24
              refine lv_aload_n hx hb dX7_joinCalls_63 rfl (lv_at hl 2 rfl) ?_
              refine lv_aload_n hx hb dX7_joinCalls_64 rfl (lv_at hl 2 rfl) ?_
              refine zt_getk (t := 7) (C := RX7) (T := TX7) (N := 12) Z h hth zin_7 rfl 7 ka_7 ⟨by decide, rfl, by decide⟩ (zm_RX7 (List.mem_of_getElem? (i := 122) rfl)) (fun _ h9 => h9) dX7_joinCalls_65 ?_
              refine lv_iload_n hx hb dX7_joinCalls_68 rfl (lv_at hl 1 rfl) ?_
              refine zt_ialdk (t := 106) Z h ha_7 ⟨by decide, rfl⟩ by1_j2_1_5 ⟨by decide, by decide⟩ ex_9 dX7_joinCalls_69 ?_
              refine zt_put (t := 7) (C := RX7) (T := TX7) (N := 12) (v := .int x_9) Z h hth zin_7 tyX7 tyX7_ok nmX7 rfl 6 rfl ⟨by decide, rfl⟩ (zm_RX7 (List.mem_of_getElem? (i := 9) rfl)) (fun _ h9 => h9) rfl (zV.i bx_9) rfl rfl dX7_joinCalls_70 (fun H locs F_50 h hfF_50 kF_50 => ?_)
              refine lv_aload_n hx hb dX7_joinCalls_73 rfl (lv_at hl 2 rfl) ?_
              refine lv_iconst (v := 4) hx hb dX7_joinCalls_74 (by decide) ?_
              refine zk_Vv (As := [.int 4]) (rest := []) (bytes := cX7_fail) (maxL := 2) (ret := none) Z h (zc_X7_fail l D k Γ L F_50 H.size th 4 tk hth (hfF_50.f hth 4 ⟨by decide, by decide⟩ (hfF_2.f hth 4 ⟨by decide, by decide⟩ ktk)) htk) (cwV 1 hg zv_RX7_79 rfl rfl rfl zd_X7_fail ⟨z_leR hRf (by decide), z_leR hRl (by decide)⟩) hth (by decide) rfl rfl hl.1 rfl (Nat.le_of_ble_eq_true rfl) dX7_joinCalls_75 ⟨Nat.zero_le _, Nat.zero_le _⟩ (fun F_51 H locs w_52 h hfF_51 => ?_)
              subst hQ
              exact W.vret hx hb hr (fun t ht hW => ⟨⟨F_51, rfl, trivial, by rw [ht]; exact h.1, h.2.1, (((hfF_2.w (by decide)).trans hfF_50 (by decide)).trans hfF_51 (by decide))⟩, h.2.2.F ht⟩) h.2.2.2.2 dX7_joinCalls_78
  exact j_j2_1 _ ls 0 F s.heap [] (lv_sub hl [0, 1] rfl) (zB.of ⟨by decide, by decide⟩) h zFr.rf rfl

set_option maxHeartbeats 4000000 in
set_option maxRecDepth 100000 in
theorem zc_X7_readName (l : Launch) (D : va_G) (k : Nat → ClassId) (Γ : Nat → Option Nat) (L : List Nat) (F : Nat → va_E) (sz : Nat) (th : Nat) (fu : Nat) (pr : Nat) (tk : Nat) (hth : Γ th = some 7) (hfu : Γ fu = some 2) (kpr : zfld F th 3 = .ref pr) (hpr : Γ pr = some 6) (ktk : zfld F th 4 = .ref tk) (htk : Γ tk = some 8) : Met l yX7_readName zwX7_readName ({ frames := 4, cells := 0, slots := 0, locals := 90 }) (va_Pc [.ref th, .ref fu] (zP D k Γ L F sz)) (va_Qv (fun (u : Nat → va_E) => True) (zQ D k Γ L F [200, 701, 702, 706]) (zA L sz)) 0 0 (zA L sz) := by
  refine Met.ofW (cc := cX7_readName) (maxL := 2) (ret := none) (by decide) rfl ?_
  intro p e s m args below meth c s₁ B hml hv
  obtain ⟨rfl, hsz, hP, hK, hLn, hE, hI⟩ := hv
  have hx := B.exec
  have hb := B.bytes
  have hr := B.returns
  have hg : ∀ w ∈ zG, w.before _ s = true := fun w h9 => atoms_spec (ws := zwX7_readName) B.pre w (List.mem_cons_of_mem _ h9)
  have hown : s.vm.findClass RX7 = some m.cls := findClass_of_methodNamed B.named
  have hlocks := B.notSynchronized
  subst hsz
  have Z : zC p m c cX7_readName 2 s _ zG RX7 D k L := ⟨⟨hx, hb, hml, hown, hg⟩, hK, hLn, hE⟩
  have h : zH D k Γ L s F s.heap [] := ⟨hP, hI, va_S.rf⟩
  have hl := lv_entry ([.ref th, .ref fu]) (n := 2) (Nat.le_of_ble_eq_true rfl)
  rw [lg_entry_eq]
  generalize (lg_sl ([.ref th, .ref fu]) ++ List.replicate (2 - (lg_sl ([.ref th, .ref fu])).length) Slot.unset).toArray = ls at hl ⊢
  have hl : lv_has ls 2 [(0, .ref th), (1, .ref fu)] := hl
  clear hP hK hLn hE hI
  generalize hargs : ([.ref th, .ref fu] : List Value).toArray = args at *
  refine z_start (fun R Q hRf hRl hQ => ?_)
  have hRf : R.frames = 4 := hRf
  have hRl : R.locals = 90 := hRl
  refine lv_aload_n hx hb dX7_readName_0 rfl (lv_at hl 0 rfl) ?_
  refine zk_Vi (As := []) (rest := []) (bytes := cX7_kind) (maxL := 2) (ret := (some .int)) Z h (zc_X7_kind l D k Γ L F s.heap.size th tk hth ktk htk) (cwV 0 hg zv_RX7_65 rfl rfl rfl zd_X7_kind ⟨z_leR hRf (by decide), z_leR hRl (by decide)⟩) hth (by decide) rfl rfl hl.1 rfl (Nat.le_of_ble_eq_true rfl) dX7_readName_1 ⟨Nat.zero_le _, Nat.zero_le _⟩ (fun r_1 F_2 H locs w_3 h hfF_2 => ?_)
  obtain ⟨rfl, q_4, -⟩ := w_3
  have br_1 := zB.all r_1
  refine lv_iconst (v := 4) hx hb dX7_readName_4 (by decide) ?_
  refine lv_icmp_eq (tgt := 16) hx hb dX7_readName_5 (by decide) (fun c_5 => ?_) (fun c_5 => ?_)
  · have c_5 := z_eq c_5
    have br_1_6 : zB 4 4 r_1 := zB.eqL (a := 0) (b := 0) c_5 (zBc 4 4 (by decide))
    have c_7 := z_not0 br_1_6 (by decide)
    obtain ⟨x_8, kx_8, bx_8⟩ := q_4 c_7
    refine lv_aload_n hx hb dX7_readName_16 rfl (lv_at hl 0 rfl) ?_
    refine zt_getk (t := 7) (C := RX7) (T := TX7) (N := 12) Z h hth zin_7 rfl 3 kpr ⟨by decide, rfl, by decide⟩ (zm_RX7 (List.mem_of_getElem? (i := 2) rfl)) (fun _ h9 => h9) dX7_readName_17 ?_
    refine lv_aload_n hx hb dX7_readName_20 rfl (lv_at hl 0 rfl) ?_
    refine zt_getk (t := 7) (C := RX7) (T := TX7) (N := 12) Z h hth zin_7 rfl 4 ktk ⟨by decide, rfl, by decide⟩ (zm_RX7 (List.mem_of_getElem? (i := 4) rfl)) (fun _ h9 => h9) dX7_readName_21 ?_
    refine lv_aload_n hx hb dX7_readName_24 rfl (lv_at hl 0 rfl) ?_
    refine zt_getk (t := 7) (C := RX7) (T := TX7) (N := 12) Z h hth zin_7 rfl 6 kx_8 ⟨by decide, rfl, by decide⟩ (zm_RX7 (List.mem_of_getElem? (i := 9) rfl)) (fun _ h9 => h9) dX7_readName_25 ?_
    refine zk_Vi (As := [.ref tk, .int x_8]) (rest := []) (bytes := cX6_functionNamed) (maxL := 4) (ret := (some .int)) Z h (zc_X6_functionNamed l D k Γ L F H.size pr tk x_8 hpr htk) (cwV 2 hg zv_RX7_128 rfl rfl rfl zd_X6_functionNamed ⟨z_leR hRf (by decide), z_leR hRl (by decide)⟩) hpr (by decide) rfl rfl hl.1 rfl (Nat.le_of_ble_eq_true rfl) dX7_readName_28 ⟨Nat.zero_le _, Nat.zero_le _⟩ (fun r_9 F_10 H locs w_11 h hfF_10 => ?_)
    obtain ⟨rfl, br_9, -⟩ := w_11
    refine lv_iconst (v := (-1)) hx hb dX7_readName_31 (by decide) ?_
    refine lv_icmp_eq (tgt := 43) hx hb dX7_readName_32 (by decide) (fun c_12 => ?_) (fun c_12 => ?_)
    · have c_12 := z_eq c_12
      have br_9_13 : zB (-1) (-1) r_9 := zB.eqL (a := 0) (b := 0) c_12 (zBc (-1) (-1) (by decide))
      refine lv_aload_n hx hb dX7_readName_43 rfl (lv_at hl 1 rfl) ?_
      refine lv_aload_n hx hb dX7_readName_44 rfl (lv_at hl 0 rfl) ?_
      refine zt_getk (t := 7) (C := RX7) (T := TX7) (N := 12) Z h hth zin_7 rfl 6 kx_8 ⟨by decide, rfl, by decide⟩ (zm_RX7 (List.mem_of_getElem? (i := 9) rfl)) (fun _ h9 => h9) dX7_readName_45 ?_
      refine zt_put (t := 2) (C := RX2) (T := TX2) (N := 9) (v := .int x_8) Z h hfu zin_2 tyX2 tyX2_ok nmX2 rfl 0 rfl ⟨by decide, rfl⟩ (zm_RX7 (List.mem_of_getElem? (i := 51) rfl)) (fun _ h9 => h9) rfl (zV.i (bx_8.w ⟨by decide, by decide⟩)) rfl rfl dX7_readName_48 (fun H locs F_14 h hfF_14 kF_14 => ?_)
      refine lv_aload_n hx hb dX7_readName_51 rfl (lv_at hl 0 rfl) ?_
      refine lv_dup hx hb dX7_readName_52 rfl ?_
      refine zt_getk (t := 7) (C := RX7) (T := TX7) (N := 12) Z h hth zin_7 rfl 6 (hfF_14.f hth 6 ⟨by decide, by decide⟩ kx_8) ⟨by decide, rfl, by decide⟩ (zm_RX7 (List.mem_of_getElem? (i := 9) rfl)) (fun _ h9 => h9) dX7_readName_53 ?_
      refine lv_iconst (v := 1) hx hb dX7_readName_56 (by decide) ?_
      refine lv_iadd hx hb dX7_readName_57 ?_
      refine zi_add (lo := 1) (hi := 601) bx_8 (zBc 1 1 (by decide)) (by decide) (fun x_15 bx_15 tx_15 => ?_)
      refine zt_put (t := 7) (C := RX7) (T := TX7) (N := 12) (v := .int x_15) Z h hth zin_7 tyX7 tyX7_ok nmX7 rfl 6 rfl ⟨by decide, rfl⟩ (zm_RX7 (List.mem_of_getElem? (i := 9) rfl)) (fun _ h9 => h9) rfl (zV.i (bx_15.w ⟨by decide, by decide⟩)) rfl rfl dX7_readName_58 (fun H locs F_16 h hfF_16 kF_16 => ?_)
      subst hQ
      exact W.vret hx hb hr (fun t ht hW => ⟨⟨F_16, rfl, trivial, by rw [ht]; exact h.1, h.2.1, ((hfF_14.w (by decide)).trans hfF_16 (by decide))⟩, h.2.2.F ht⟩) h.2.2.2.2 dX7_readName_61
    · have c_12 := z_ne c_12
      have br_9_17 : zB 0 9 r_9 := zB.neLo c_12 br_9 (zBc (-1) (-1) (by decide)) (by decide)
      refine lv_aload_n hx hb dX7_readName_35 rfl (lv_at hl 0 rfl) ?_
      refine lv_iconst (v := 2) hx hb dX7_readName_36 (by decide) ?_
      refine zk_Vv (As := [.int 2]) (rest := []) (bytes := cX7_fail) (maxL := 2) (ret := none) Z h (zc_X7_fail l D k Γ L F H.size th 2 tk hth ktk htk) (cwV 1 hg zv_RX7_79 rfl rfl rfl zd_X7_fail ⟨z_leR hRf (by decide), z_leR hRl (by decide)⟩) hth (by decide) rfl rfl hl.1 rfl (Nat.le_of_ble_eq_true rfl) dX7_readName_37 ⟨Nat.zero_le _, Nat.zero_le _⟩ (fun F_18 H locs w_19 h hfF_18 => ?_)
      refine lv_goto (tgt := 61) hx hb dX7_readName_40 (by decide) ?_
      subst hQ
      exact W.vret hx hb hr (fun t ht hW => ⟨⟨F_18, rfl, trivial, by rw [ht]; exact h.1, h.2.1, (hfF_18.w (by decide))⟩, h.2.2.F ht⟩) h.2.2.2.2 dX7_readName_61
  · have c_5 := z_ne c_5
    refine lv_aload_n hx hb dX7_readName_8 rfl (lv_at hl 0 rfl) ?_
    refine lv_iconst (v := 1) hx hb dX7_readName_9 (by decide) ?_
    refine zk_Vv (As := [.int 1]) (rest := []) (bytes := cX7_fail) (maxL := 2) (ret := none) Z h (zc_X7_fail l D k Γ L F H.size th 1 tk hth ktk htk) (cwV 1 hg zv_RX7_79 rfl rfl rfl zd_X7_fail ⟨z_leR hRf (by decide), z_leR hRl (by decide)⟩) hth (by decide) rfl rfl hl.1 rfl (Nat.le_of_ble_eq_true rfl) dX7_readName_10 ⟨Nat.zero_le _, Nat.zero_le _⟩ (fun F_20 H locs w_21 h hfF_20 => ?_)
    refine lv_goto (tgt := 61) hx hb dX7_readName_13 (by decide) ?_
    subst hQ
    exact W.vret hx hb hr (fun t ht hW => ⟨⟨F_20, rfl, trivial, by rw [ht]; exact h.1, h.2.1, (hfF_20.w (by decide))⟩, h.2.2.F ht⟩) h.2.2.2.2 dX7_readName_61

set_option maxHeartbeats 4000000 in
set_option maxRecDepth 100000 in
theorem zc_X7_readPlace (l : Launch) (D : va_G) (k : Nat → ClassId) (Γ : Nat → Option Nat) (L : List Nat) (F : Nat → va_E) (sz : Nat) (th : Nat) (fu : Nat) (tk : Nat) (hth : Γ th = some 7) (hfu : Γ fu = some 2) (ktk : zfld F th 4 = .ref tk) (htk : Γ tk = some 8) : Met l yX7_readPlace zwX7_readPlace ({ frames := 2, cells := 0, slots := 0, locals := 61 }) (va_Pc [.ref th, .ref fu] (zP D k Γ L F sz)) (va_Qv (fun (u : Nat → va_E) => True) (zQ D k Γ L F [207, 701, 702, 706, 10300]) (zA L sz)) 0 0 (zA L sz) := by
  refine Met.ofW (cc := cX7_readPlace) (maxL := 2) (ret := none) (by decide) rfl ?_
  intro p e s m args below meth c s₁ B hml hv
  obtain ⟨rfl, hsz, hP, hK, hLn, hE, hI⟩ := hv
  have hx := B.exec
  have hb := B.bytes
  have hr := B.returns
  have hg : ∀ w ∈ zG, w.before _ s = true := fun w h9 => atoms_spec (ws := zwX7_readPlace) B.pre w (List.mem_cons_of_mem _ h9)
  have hown : s.vm.findClass RX7 = some m.cls := findClass_of_methodNamed B.named
  have hlocks := B.notSynchronized
  subst hsz
  have Z : zC p m c cX7_readPlace 2 s _ zG RX7 D k L := ⟨⟨hx, hb, hml, hown, hg⟩, hK, hLn, hE⟩
  have h : zH D k Γ L s F s.heap [] := ⟨hP, hI, va_S.rf⟩
  have hl := lv_entry ([.ref th, .ref fu]) (n := 2) (Nat.le_of_ble_eq_true rfl)
  rw [lg_entry_eq]
  generalize (lg_sl ([.ref th, .ref fu]) ++ List.replicate (2 - (lg_sl ([.ref th, .ref fu])).length) Slot.unset).toArray = ls at hl ⊢
  have hl : lv_has ls 2 [(0, .ref th), (1, .ref fu)] := hl
  clear hP hK hLn hE hI
  generalize hargs : ([.ref th, .ref fu] : List Value).toArray = args at *
  refine z_start (fun R Q hRf hRl hQ => ?_)
  have hRf : R.frames = 2 := hRf
  have hRl : R.locals = 61 := hRl
  refine lv_aload_n hx hb dX7_readPlace_0 rfl (lv_at hl 0 rfl) ?_
  refine zk_Vi (As := []) (rest := []) (bytes := cX7_kind) (maxL := 2) (ret := (some .int)) Z h (zc_X7_kind l D k Γ L F s.heap.size th tk hth ktk htk) (cwV 0 hg zv_RX7_65 rfl rfl rfl zd_X7_kind ⟨z_leR hRf (by decide), z_leR hRl (by decide)⟩) hth (by decide) rfl rfl hl.1 rfl (Nat.le_of_ble_eq_true rfl) dX7_readPlace_1 ⟨Nat.zero_le _, Nat.zero_le _⟩ (fun r_1 F_2 H locs w_3 h hfF_2 => ?_)
  obtain ⟨rfl, q_4, -⟩ := w_3
  have br_1 := zB.all r_1
  refine lv_iconst (v := 3) hx hb dX7_readPlace_4 (by decide) ?_
  refine lv_icmp_eq (tgt := 16) hx hb dX7_readPlace_5 (by decide) (fun c_5 => ?_) (fun c_5 => ?_)
  · have c_5 := z_eq c_5
    have br_1_6 : zB 3 3 r_1 := zB.eqL (a := 0) (b := 0) c_5 (zBc 3 3 (by decide))
    have c_7 := z_not0 br_1_6 (by decide)
    obtain ⟨x_8, kx_8, bx_8⟩ := q_4 c_7
    refine lv_aload_n hx hb dX7_readPlace_16 rfl (lv_at hl 1 rfl) ?_
    refine lv_aload_n hx hb dX7_readPlace_17 rfl (lv_at hl 0 rfl) ?_
    refine zt_getk (t := 7) (C := RX7) (T := TX7) (N := 12) Z h hth zin_7 rfl 4 ktk ⟨by decide, rfl, by decide⟩ (zm_RX7 (List.mem_of_getElem? (i := 4) rfl)) (fun _ h9 => h9) dX7_readPlace_18 ?_
    refine lv_aload_n hx hb dX7_readPlace_21 rfl (lv_at hl 0 rfl) ?_
    refine zt_getk (t := 7) (C := RX7) (T := TX7) (N := 12) Z h hth zin_7 rfl 6 kx_8 ⟨by decide, rfl, by decide⟩ (zm_RX7 (List.mem_of_getElem? (i := 9) rfl)) (fun _ h9 => h9) dX7_readPlace_22 ?_
    refine zk_Vi (As := [.int x_8]) (rest := [.ref fu]) (bytes := cX8_letterOf) (maxL := 2) (ret := (some .int)) Z h (zc_X8_letterOf l D k Γ L F H.size tk x_8 htk) (cwV 1 hg zv_RX7_139 rfl rfl rfl zd_X8_letterOf ⟨z_leR hRf (by decide), z_leR hRl (by decide)⟩) htk (by decide) rfl rfl hl.1 rfl (Nat.le_of_ble_eq_true rfl) dX7_readPlace_25 ⟨Nat.zero_le _, Nat.zero_le _⟩ (fun r_9 F_10 H locs w_11 h hfF_10 => ?_)
    obtain ⟨rfl, br_9, -⟩ := w_11
    refine zk_Vi (As := [.int r_9]) (rest := []) (bytes := cX2_hasPlace) (maxL := 3) (ret := (some .boolean)) Z h (zc_X2_hasPlace l D k Γ L F H.size fu r_9 hfu) (cwV 1 hg zv_RX7_142 rfl rfl rfl zd_X2_hasPlace ⟨z_leR hRf (by decide), z_leR hRl (by decide)⟩) hfu (by decide) rfl rfl hl.1 rfl (Nat.le_of_ble_eq_true rfl) dX7_readPlace_28 ⟨Nat.zero_le _, Nat.zero_le _⟩ (fun r_12 F_13 H locs w_14 h hfF_13 => ?_)
    obtain ⟨rfl, br_12, -⟩ := w_14
    refine lv_if_eq (tgt := 42) hx hb dX7_readPlace_31 (by decide) (fun c_15 => ?_) (fun c_15 => ?_)
    · have c_15 := z_eq c_15
      have br_12_16 : zB 0 0 r_12 := zB.eqL (a := 0) (b := 0) c_15 (zBc 0 0 (by decide))
      refine lv_aload_n hx hb dX7_readPlace_42 rfl (lv_at hl 1 rfl) ?_
      refine zt_geti (t := 2) (C := RX2) (T := TX2) (N := 9) Z h hfu zin_2 rfl 7 rfl ⟨by decide, rfl⟩ (zm_RX7 (List.mem_of_getElem? (i := 60) rfl)) (fun _ h9 => h9) dX7_readPlace_43 (fun x_17 kx_17 bx_17 => ?_)
      refine lv_iconst (v := 3) hx hb dX7_readPlace_46 (by decide) ?_
      refine lv_icmp_lt (tgt := 58) hx hb dX7_readPlace_47 (by decide) (fun c_18 => ?_) (fun c_18 => ?_)
      · have c_18 := z_lt c_18
        have bx_17_19 : zB 0 2 x_17 := zB.ltL c_18 bx_17 (zBc 3 3 (by decide)) (by decide)
        refine lv_aload_n hx hb dX7_readPlace_58 rfl (lv_at hl 1 rfl) ?_
        refine lv_aload_n hx hb dX7_readPlace_59 rfl (lv_at hl 0 rfl) ?_
        refine zt_getk (t := 7) (C := RX7) (T := TX7) (N := 12) Z h hth zin_7 rfl 4 ktk ⟨by decide, rfl, by decide⟩ (zm_RX7 (List.mem_of_getElem? (i := 4) rfl)) (fun _ h9 => h9) dX7_readPlace_60 ?_
        refine lv_aload_n hx hb dX7_readPlace_63 rfl (lv_at hl 0 rfl) ?_
        refine zt_getk (t := 7) (C := RX7) (T := TX7) (N := 12) Z h hth zin_7 rfl 6 kx_8 ⟨by decide, rfl, by decide⟩ (zm_RX7 (List.mem_of_getElem? (i := 9) rfl)) (fun _ h9 => h9) dX7_readPlace_64 ?_
        refine zk_Vi (As := [.int x_8]) (rest := [.ref fu]) (bytes := cX8_letterOf) (maxL := 2) (ret := (some .int)) Z h (zc_X8_letterOf l D k Γ L F H.size tk x_8 htk) (cwV 1 hg zv_RX7_139 rfl rfl rfl zd_X8_letterOf ⟨z_leR hRf (by decide), z_leR hRl (by decide)⟩) htk (by decide) rfl rfl hl.1 rfl (Nat.le_of_ble_eq_true rfl) dX7_readPlace_67 ⟨Nat.zero_le _, Nat.zero_le _⟩ (fun r_20 F_21 H locs w_22 h hfF_21 => ?_)
        obtain ⟨rfl, br_20, -⟩ := w_22
        refine zk_Vv (As := [.int r_20]) (rest := []) (bytes := cX2_addPlace) (maxL := 2) (ret := none) Z h (zc_X2_addPlace l D k Γ L F H.size fu r_20 hfu) (cwV 1 hg zv_RX7_149 rfl rfl rfl zd_X2_addPlace ⟨z_leR hRf (by decide), z_leR hRl (by decide)⟩) hfu (by decide) rfl rfl hl.1 rfl (Nat.le_of_ble_eq_true rfl) dX7_readPlace_70 ⟨Nat.zero_le _, Nat.zero_le _⟩ (fun F_23 H locs w_24 h hfF_23 => ?_)
        refine lv_aload_n hx hb dX7_readPlace_73 rfl (lv_at hl 0 rfl) ?_
        refine lv_dup hx hb dX7_readPlace_74 rfl ?_
        refine zt_getk (t := 7) (C := RX7) (T := TX7) (N := 12) Z h hth zin_7 rfl 6 (hfF_23.f hth 6 ⟨by decide, by decide⟩ kx_8) ⟨by decide, rfl, by decide⟩ (zm_RX7 (List.mem_of_getElem? (i := 9) rfl)) (fun _ h9 => h9) dX7_readPlace_75 ?_
        refine lv_iconst (v := 1) hx hb dX7_readPlace_78 (by decide) ?_
        refine lv_iadd hx hb dX7_readPlace_79 ?_
        refine zi_add (lo := 1) (hi := 601) bx_8 (zBc 1 1 (by decide)) (by decide) (fun x_25 bx_25 tx_25 => ?_)
        refine zt_put (t := 7) (C := RX7) (T := TX7) (N := 12) (v := .int x_25) Z h hth zin_7 tyX7 tyX7_ok nmX7 rfl 6 rfl ⟨by decide, rfl⟩ (zm_RX7 (List.mem_of_getElem? (i := 9) rfl)) (fun _ h9 => h9) rfl (zV.i (bx_25.w ⟨by decide, by decide⟩)) rfl rfl dX7_readPlace_80 (fun H locs F_26 h hfF_26 kF_26 => ?_)
        subst hQ
        exact W.vret hx hb hr (fun t ht hW => ⟨⟨F_26, rfl, trivial, by rw [ht]; exact h.1, h.2.1, ((hfF_23.w (by decide)).trans hfF_26 (by decide))⟩, h.2.2.F ht⟩) h.2.2.2.2 dX7_readPlace_83
      · have c_18 := z_nlt c_18
        have bx_17_27 : zB 3 3 x_17 := zB.leR c_18 (zBc 3 3 (by decide)) bx_17 (by decide)
        refine lv_aload_n hx hb dX7_readPlace_50 rfl (lv_at hl 0 rfl) ?_
        refine lv_iconst (v := 3) hx hb dX7_readPlace_51 (by decide) ?_
        refine zk_Vv (As := [.int 3]) (rest := []) (bytes := cX7_fail) (maxL := 2) (ret := none) Z h (zc_X7_fail l D k Γ L F H.size th 3 tk hth ktk htk) (cwV 1 hg zv_RX7_79 rfl rfl rfl zd_X7_fail ⟨z_leR hRf (by decide), z_leR hRl (by decide)⟩) hth (by decide) rfl rfl hl.1 rfl (Nat.le_of_ble_eq_true rfl) dX7_readPlace_52 ⟨Nat.zero_le _, Nat.zero_le _⟩ (fun F_28 H locs w_29 h hfF_28 => ?_)
        refine lv_goto (tgt := 83) hx hb dX7_readPlace_55 (by decide) ?_
        subst hQ
        exact W.vret hx hb hr (fun t ht hW => ⟨⟨F_28, rfl, trivial, by rw [ht]; exact h.1, h.2.1, (hfF_28.w (by decide))⟩, h.2.2.F ht⟩) h.2.2.2.2 dX7_readPlace_83
    · have c_15 := z_ne c_15
      have br_12_30 : zB 1 1 r_12 := zB.neLo c_15 br_12 (zBc 0 0 (by decide)) (by decide)
      refine lv_aload_n hx hb dX7_readPlace_34 rfl (lv_at hl 0 rfl) ?_
      refine lv_iconst (v := 2) hx hb dX7_readPlace_35 (by decide) ?_
      refine zk_Vv (As := [.int 2]) (rest := []) (bytes := cX7_fail) (maxL := 2) (ret := none) Z h (zc_X7_fail l D k Γ L F H.size th 2 tk hth ktk htk) (cwV 1 hg zv_RX7_79 rfl rfl rfl zd_X7_fail ⟨z_leR hRf (by decide), z_leR hRl (by decide)⟩) hth (by decide) rfl rfl hl.1 rfl (Nat.le_of_ble_eq_true rfl) dX7_readPlace_36 ⟨Nat.zero_le _, Nat.zero_le _⟩ (fun F_31 H locs w_32 h hfF_31 => ?_)
      refine lv_goto (tgt := 83) hx hb dX7_readPlace_39 (by decide) ?_
      subst hQ
      exact W.vret hx hb hr (fun t ht hW => ⟨⟨F_31, rfl, trivial, by rw [ht]; exact h.1, h.2.1, (hfF_31.w (by decide))⟩, h.2.2.F ht⟩) h.2.2.2.2 dX7_readPlace_83
  · have c_5 := z_ne c_5
    refine lv_aload_n hx hb dX7_readPlace_8 rfl (lv_at hl 0 rfl) ?_
    refine lv_iconst (v := 1) hx hb dX7_readPlace_9 (by decide) ?_
    refine zk_Vv (As := [.int 1]) (rest := []) (bytes := cX7_fail) (maxL := 2) (ret := none) Z h (zc_X7_fail l D k Γ L F H.size th 1 tk hth ktk htk) (cwV 1 hg zv_RX7_79 rfl rfl rfl zd_X7_fail ⟨z_leR hRf (by decide), z_leR hRl (by decide)⟩) hth (by decide) rfl rfl hl.1 rfl (Nat.le_of_ble_eq_true rfl) dX7_readPlace_10 ⟨Nat.zero_le _, Nat.zero_le _⟩ (fun F_33 H locs w_34 h hfF_33 => ?_)
    refine lv_goto (tgt := 83) hx hb dX7_readPlace_13 (by decide) ?_
    subst hQ
    exact W.vret hx hb hr (fun t ht hW => ⟨⟨F_33, rfl, trivial, by rw [ht]; exact h.1, h.2.1, (hfF_33.w (by decide))⟩, h.2.2.F ht⟩) h.2.2.2.2 dX7_readPlace_83

set_option maxHeartbeats 4000000 in
set_option maxRecDepth 100000 in
theorem zc_X7_readPlaces (l : Launch) (D : va_G) (k : Nat → ClassId) (Γ : Nat → Option Nat) (L : List Nat) (F : Nat → va_E) (sz : Nat) (th : Nat) (fu : Nat) (tk : Nat) (hth : Γ th = some 7) (hfu : Γ fu = some 2) (ktk : zfld F th 4 = .ref tk) (htk : Γ tk = some 8) : Met l yX7_readPlaces zwX7_readPlaces ({ frames := 3, cells := 0, slots := 0, locals := 82 }) (va_Pc [.ref th, .ref fu] (zP D k Γ L F sz)) (va_Qv (fun (u : Nat → va_E) => True) (zQ D k Γ L F [207, 701, 702, 706, 10300]) (zA L sz)) 0 0 (zA L sz) := by
  refine Met.ofW (cc := cX7_readPlaces) (maxL := 3) (ret := none) (by decide) rfl ?_
  intro p e s m args below meth c s₁ B hml hv
  obtain ⟨rfl, hsz, hP, hK, hLn, hE, hI⟩ := hv
  have hx := B.exec
  have hb := B.bytes
  have hr := B.returns
  have hg : ∀ w ∈ zG, w.before _ s = true := fun w h9 => atoms_spec (ws := zwX7_readPlaces) B.pre w (List.mem_cons_of_mem _ h9)
  have hown : s.vm.findClass RX7 = some m.cls := findClass_of_methodNamed B.named
  have hlocks := B.notSynchronized
  subst hsz
  have Z : zC p m c cX7_readPlaces 3 s _ zG RX7 D k L := ⟨⟨hx, hb, hml, hown, hg⟩, hK, hLn, hE⟩
  have h : zH D k Γ L s F s.heap [] := ⟨hP, hI, va_S.rf⟩
  have hl := lv_entry ([.ref th, .ref fu]) (n := 3) (Nat.le_of_ble_eq_true rfl)
  rw [lg_entry_eq]
  generalize (lg_sl ([.ref th, .ref fu]) ++ List.replicate (3 - (lg_sl ([.ref th, .ref fu])).length) Slot.unset).toArray = ls at hl ⊢
  have hl : lv_has ls 3 [(0, .ref th), (1, .ref fu)] := hl
  clear hP hK hLn hE hI
  generalize hargs : ([.ref th, .ref fu] : List Value).toArray = args at *
  refine z_start (fun R Q hRf hRl hQ => ?_)
  have hRf : R.frames = 3 := hRf
  have hRl : R.locals = 82 := hRl
  refine lv_aload_n hx hb dX7_readPlaces_0 rfl (lv_at hl 0 rfl) ?_
  refine zk_Vi (As := []) (rest := []) (bytes := cX7_kind) (maxL := 2) (ret := (some .int)) Z h (zc_X7_kind l D k Γ L F s.heap.size th tk hth ktk htk) (cwV 0 hg zv_RX7_65 rfl rfl rfl zd_X7_kind ⟨z_leR hRf (by decide), z_leR hRl (by decide)⟩) hth (by decide) rfl rfl hl.1 rfl (Nat.le_of_ble_eq_true rfl) dX7_readPlaces_1 ⟨Nat.zero_le _, Nat.zero_le _⟩ (fun r_1 F_2 H locs w_3 h hfF_2 => ?_)
  obtain ⟨rfl, q_4, -⟩ := w_3
  have br_1 := zB.all r_1
  refine lv_bipush (v := 41) hx hb dX7_readPlaces_4 (by decide) ?_
  refine lv_icmp_ne (tgt := 10) hx hb dX7_readPlaces_6 (by decide) (fun c_5 => ?_) (fun c_5 => ?_)
  · have c_5 := z_ne c_5
    refine lv_aload_n hx hb dX7_readPlaces_10 rfl (lv_at hl 0 rfl) ?_
    refine lv_aload_n hx hb dX7_readPlaces_11 rfl (lv_at hl 1 rfl) ?_
    refine zk_Vv (As := [.ref fu]) (rest := []) (bytes := cX7_readPlace) (maxL := 2) (ret := none) Z h (zc_X7_readPlace l D k Γ L F H.size th fu tk hth hfu ktk htk) (cwV 1 hg zv_RX7_135 rfl rfl rfl zd_X7_readPlace ⟨z_leR hRf (by decide), z_leR hRl (by decide)⟩) hth (by decide) rfl rfl hl.1 rfl (Nat.le_of_ble_eq_true rfl) dX7_readPlaces_12 ⟨Nat.zero_le _, Nat.zero_le _⟩ (fun F_6 H locs w_7 h hfF_6 => ?_)
    refine lv_iconst (v := 0) hx hb dX7_readPlaces_15 (by decide) ?_
    refine lv_istore_n (lv' := [(2, .int 0), (0, .ref th), (1, .ref fu)]) hx hb dX7_readPlaces_16 rfl hl (by decide) rfl (fun ls hl => ?_)
    have j_j17_8 : ∀ (n : Nat) (ls : Array Slot) (y2_j17_8 : Int32) (F_9 : Nat → va_E) (H : Heap) (locs : List Loc), lv_has ls 3 [(2, .int y2_j17_8), (0, .ref th), (1, .ref fu)] → zB 0 601 y2_j17_8 → zH D k Γ L s F_9 H locs → zFr Γ [207, 701, 702, 706, 10300] F_6 F_9 → (2147483647 - y2_j17_8.toInt).toNat = n → W p l e R s m args below meth c H locs 0 0 Q (F0 m 17 ls []) := by
      intro n
      induction n using Nat.strongRecOn with
      | _ n ih_j17_8 =>
        intro ls y2_j17_8 F_9 H locs hl by2_j17_8 h hfF_9 hn_j17_8
        refine lv_iload_n hx hb dX7_readPlaces_17 rfl (lv_at hl 0 rfl) ?_
        refine lv_aload_n hx hb dX7_readPlaces_18 rfl (lv_at hl 1 rfl) ?_
        refine zt_getk (t := 7) (C := RX7) (T := TX7) (N := 12) Z h hth zin_7 rfl 4 (hfF_9.f hth 4 ⟨by decide, by decide⟩ (hfF_6.f hth 4 ⟨by decide, by decide⟩ ktk)) ⟨by decide, rfl, by decide⟩ (zm_RX7 (List.mem_of_getElem? (i := 4) rfl)) (fun _ h9 => h9) dX7_readPlaces_19 ?_
        refine zt_geti (t := 8) (C := RX8) (T := TX8) (N := 6) Z h htk zin_8 rfl 5 rfl ⟨by decide, rfl⟩ (zm_RX7 (List.mem_of_getElem? (i := 56) rfl)) (fun _ h9 => h9) dX7_readPlaces_22 (fun x_10 kx_10 bx_10 => ?_)
        refine lv_icmp_ge (tgt := 58) hx hb dX7_readPlaces_25 (by decide) (fun c_11 => ?_) (fun c_11 => ?_)
        · have c_11 := z_le c_11
          subst hQ
          exact W.vret hx hb hr (fun t ht hW => ⟨⟨F_9, rfl, trivial, by rw [ht]; exact h.1, h.2.1, (hfF_6.trans hfF_9 (by decide))⟩, h.2.2.F ht⟩) h.2.2.2.2 dX7_readPlaces_58
        · have c_11 := z_nle c_11
          have by2_j17_8_12 : zB 0 600 y2_j17_8 := zB.ltL c_11 by2_j17_8 bx_10 (by decide)
          have bx_10_13 : zB 1 601 x_10 := zB.ltR c_11 by2_j17_8 bx_10 (by decide)
          refine lv_aload_n hx hb dX7_readPlaces_28 rfl (lv_at hl 1 rfl) ?_
          refine zk_Vi (As := []) (rest := []) (bytes := cX7_kind) (maxL := 2) (ret := (some .int)) Z h (zc_X7_kind l D k Γ L F_9 H.size th tk hth (hfF_9.f hth 4 ⟨by decide, by decide⟩ (hfF_6.f hth 4 ⟨by decide, by decide⟩ ktk)) htk) (cwV 0 hg zv_RX7_65 rfl rfl rfl zd_X7_kind ⟨z_leR hRf (by decide), z_leR hRl (by decide)⟩) hth (by decide) rfl rfl hl.1 rfl (Nat.le_of_ble_eq_true rfl) dX7_readPlaces_29 ⟨Nat.zero_le _, Nat.zero_le _⟩ (fun r_14 F_15 H locs w_16 h hfF_15 => ?_)
          obtain ⟨rfl, q_17, -⟩ := w_16
          have br_14 := zB.all r_14
          refine lv_bipush (v := 44) hx hb dX7_readPlaces_32 (by decide) ?_
          refine lv_icmp_ne (tgt := 58) hx hb dX7_readPlaces_34 (by decide) (fun c_18 => ?_) (fun c_18 => ?_)
          · have c_18 := z_ne c_18
            subst hQ
            exact W.vret hx hb hr (fun t ht hW => ⟨⟨F_9, rfl, trivial, by rw [ht]; exact h.1, h.2.1, (hfF_6.trans hfF_9 (by decide))⟩, h.2.2.F ht⟩) h.2.2.2.2 dX7_readPlaces_58
          · have c_18 := z_eq c_18
            have br_14_19 : zB 44 44 r_14 := zB.eqL (a := 0) (b := 0) c_18 (zBc 44 44 (by decide))
            have c_20 := z_not0 br_14_19 (by decide)
            obtain ⟨x_21, kx_21, bx_21⟩ := q_17 c_20
            refine lv_aload_n hx hb dX7_readPlaces_37 rfl (lv_at hl 1 rfl) ?_
            refine lv_dup hx hb dX7_readPlaces_38 rfl ?_
            refine zt_getk (t := 7) (C := RX7) (T := TX7) (N := 12) Z h hth zin_7 rfl 6 kx_21 ⟨by decide, rfl, by decide⟩ (zm_RX7 (List.mem_of_getElem? (i := 9) rfl)) (fun _ h9 => h9) dX7_readPlaces_39 ?_
            refine lv_iconst (v := 1) hx hb dX7_readPlaces_42 (by decide) ?_
            refine lv_iadd hx hb dX7_readPlaces_43 ?_
            refine zi_add (lo := 1) (hi := 601) bx_21 (zBc 1 1 (by decide)) (by decide) (fun x_22 bx_22 tx_22 => ?_)
            refine zt_put (t := 7) (C := RX7) (T := TX7) (N := 12) (v := .int x_22) Z h hth zin_7 tyX7 tyX7_ok nmX7 rfl 6 rfl ⟨by decide, rfl⟩ (zm_RX7 (List.mem_of_getElem? (i := 9) rfl)) (fun _ h9 => h9) rfl (zV.i (bx_22.w ⟨by decide, by decide⟩)) rfl rfl dX7_readPlaces_44 (fun H locs F_23 h hfF_23 kF_23 => ?_)
            refine lv_aload_n hx hb dX7_readPlaces_47 rfl (lv_at hl 1 rfl) ?_
            refine lv_aload_n hx hb dX7_readPlaces_48 rfl (lv_at hl 2 rfl) ?_
            refine zk_Vv (As := [.ref fu]) (rest := []) (bytes := cX7_readPlace) (maxL := 2) (ret := none) Z h (zc_X7_readPlace l D k Γ L F_23 H.size th fu tk hth hfu (hfF_23.f hth 4 ⟨by decide, by decide⟩ (hfF_9.f hth 4 ⟨by decide, by decide⟩ (hfF_6.f hth 4 ⟨by decide, by decide⟩ ktk))) htk) (cwV 1 hg zv_RX7_135 rfl rfl rfl zd_X7_readPlace ⟨z_leR hRf (by decide), z_leR hRl (by decide)⟩) hth (by decide) rfl rfl hl.1 rfl (Nat.le_of_ble_eq_true rfl) dX7_readPlaces_49 ⟨Nat.zero_le _, Nat.zero_le _⟩ (fun F_24 H locs w_25 h hfF_24 => ?_)
            obtain ⟨x_26, ex_26, bx_26, tx_26⟩ := z_inc (n := 1) (lo := 1) (hi := 601) by2_j17_8_12 (by decide)
            refine lv_iinc (v := x_26) (lv' := [(2, .int x_26), (0, .ref th), (1, .ref fu)]) hx hb dX7_readPlaces_52 hl (k := 0) rfl ex_26 (by decide) rfl (fun ls hl => ?_)
            refine lv_goto (tgt := 17) hx hb dX7_readPlaces_55 (by decide) ?_
            exact ih_j17_8 _ (by have := bx_26.1; have := bx_26.2; have := bx_10_13.1; have := bx_10_13.2; have : (1 : Int32).toInt = 1 := (by decide); have : (41 : Int32).toInt = 41 := (by decide); have : (44 : Int32).toInt = 44 := (by decide); have := by2_j17_8.1; have := by2_j17_8.2; omega) ls x_26 F_24 H locs (lv_sub hl [0, 1, 2] rfl) (bx_26.w ⟨by decide, by decide⟩) h ((hfF_9.trans hfF_23 (by decide)).trans hfF_24 (by decide)) rfl
    exact j_j17_8 _ ls 0 F_6 H locs (lv_sub hl [0, 1, 2] rfl) (zB.of ⟨by decide, by decide⟩) h zFr.rf rfl
  · have c_5 := z_eq c_5
    have br_1_27 : zB 41 41 r_1 := zB.eqL (a := 0) (b := 0) c_5 (zBc 41 41 (by decide))
    have c_28 := z_not0 br_1_27 (by decide)
    obtain ⟨x_29, kx_29, bx_29⟩ := q_4 c_28
    subst hQ
    exact W.vret hx hb hr (fun t ht hW => ⟨⟨F, rfl, trivial, by rw [ht]; exact h.1, h.2.1, zFr.rf⟩, h.2.2.F ht⟩) h.2.2.2.2 dX7_readPlaces_9

abbrev zR_sum (l : Launch) (nv : Nat) : Prop := ∀ (D : va_G) (k : Nat → ClassId) (Γ : Nat → Option Nat) (L : List Nat) (F : Nat → va_E) (sz : Nat) (th : Nat) (d : Int32) (pr : Nat) (tk : Nat) (co : Nat) (hth : Γ th = some 7) (bd : zB 0 6 d) (kpr : zfld F th 3 = .ref pr) (hpr : Γ pr = some 6) (ktk : zfld F th 4 = .ref tk) (htk : Γ tk = some 8) (kco : zfld F th 5 = .ref co) (hco : Γ co = some 1) (hr0 : 6 ≤ d.toInt + (nv : Int)), Met l yX7_readSum zwX7_readSum ({ frames := 10 * nv + 9, cells := 0, slots := 0, locals := 400 * nv + 300 }) (va_Pc [.ref th, .int d] (zP D k Γ L F sz)) (va_Qv (fun (u : Nat → va_E) => True) (zQ D k Γ L F [103, 701, 702, 706, 711, 10200, 10600, 10700]) (zA L sz)) 0 0 (zA L sz)

set_option maxHeartbeats 4000000 in
set_option maxRecDepth 100000 in
theorem zc_X7_readSumWithin (l : Launch) (D : va_G) (k : Nat → ClassId) (Γ : Nat → Option Nat) (L : List Nat) (F : Nat → va_E) (sz : Nat) (th : Nat) (d : Int32) (pr : Nat) (tk : Nat) (co : Nat) (nv : Nat) (hth : Γ th = some 7) (bd : zB 0 6 d) (kpr : zfld F th 3 = .ref pr) (hpr : Γ pr = some 6) (ktk : zfld F th 4 = .ref tk) (htk : Γ tk = some 8) (kco : zfld F th 5 = .ref co) (hco : Γ co = some 1) (hr0 : 6 ≤ d.toInt + (nv : Int)) (hrec : ∀ q : Nat, nv = q + 1 → zR_sum l q) : Met l yX7_readSumWithin zwX7_readSumWithin ({ frames := 10 * nv + 4, cells := 0, slots := 0, locals := 400 * nv + 100 }) (va_Pc [.ref th, .int d] (zP D k Γ L F sz)) (va_Qv (fun (u : Nat → va_E) => True) (zQ D k Γ L F [103, 701, 702, 706, 711, 10200, 10600, 10700]) (zA L sz)) 0 0 (zA L sz) := by
  refine Met.ofW (cc := cX7_readSumWithin) (maxL := 2) (ret := none) (by decide) rfl ?_
  intro p e s m args below meth c s₁ B hml hv
  obtain ⟨rfl, hsz, hP, hK, hLn, hE, hI⟩ := hv
  have hx := B.exec
  have hb := B.bytes
  have hr := B.returns
  have hg : ∀ w ∈ zG, w.before _ s = true := fun w h9 => atoms_spec (ws := zwX7_readSumWithin) B.pre w (List.mem_cons_of_mem _ h9)
  have hown : s.vm.findClass RX7 = some m.cls := findClass_of_methodNamed B.named
  have hlocks := B.notSynchronized
  subst hsz
  have Z : zC p m c cX7_readSumWithin 2 s _ zG RX7 D k L := ⟨⟨hx, hb, hml, hown, hg⟩, hK, hLn, hE⟩
  have h : zH D k Γ L s F s.heap [] := ⟨hP, hI, va_S.rf⟩
  have hl := lv_entry ([.ref th, .int d]) (n := 2) (Nat.le_of_ble_eq_true rfl)
  rw [lg_entry_eq]
  generalize (lg_sl ([.ref th, .int d]) ++ List.replicate (2 - (lg_sl ([.ref th, .int d])).length) Slot.unset).toArray = ls at hl ⊢
  have hl : lv_has ls 2 [(0, .ref th), (1, .int d)] := hl
  clear hP hK hLn hE hI
  generalize hargs : ([.ref th, .int d] : List Value).toArray = args at *
  refine z_start (fun R Q hRf hRl hQ => ?_)
  have hRf : R.frames = 10 * nv + 4 := hRf
  have hRl : R.locals = 400 * nv + 100 := hRl
  refine lv_iload_n hx hb dX7_readSumWithin_0 rfl (lv_at hl 1 rfl) ?_
  refine lv_bipush (v := 6) hx hb dX7_readSumWithin_1 (by decide) ?_
  refine lv_icmp_ge (tgt := 13) hx hb dX7_readSumWithin_3 (by decide) (fun c_1 => ?_) (fun c_1 => ?_)
  · have c_1 := z_le c_1
    have bd_2 : zB 6 6 d := zB.leR c_1 (zBc 6 6 (by decide)) bd (by decide)
    subst hQ
    exact W.vret hx hb hr (fun t ht hW => ⟨⟨F, rfl, trivial, by rw [ht]; exact h.1, h.2.1, zFr.rf⟩, h.2.2.F ht⟩) h.2.2.2.2 dX7_readSumWithin_13
  · have c_1 := z_nle c_1
    have bd_3 : zB 0 5 d := zB.ltL c_1 bd (zBc 6 6 (by decide)) (by decide)
    refine lv_aload_n hx hb dX7_readSumWithin_6 rfl (lv_at hl 0 rfl) ?_
    refine lv_iload_n hx hb dX7_readSumWithin_7 rfl (lv_at hl 1 rfl) ?_
    refine lv_iconst (v := 1) hx hb dX7_readSumWithin_8 (by decide) ?_
    refine lv_iadd hx hb dX7_readSumWithin_9 ?_
    refine zi_add (lo := 1) (hi := 6) bd_3 (zBc 1 1 (by decide)) (by decide) (fun x_4 bx_4 tx_4 => ?_)
    refine zk_Vv (As := [.int x_4]) (rest := []) (bytes := cX7_readSum) (maxL := 4) (ret := none) Z h (hrec (nv - 1) (by have := bd_3.1; have := bd_3.2; have := bx_4.1; have := bx_4.2; have : (1 : Int32).toInt = 1 := (by decide); have : (6 : Int32).toInt = 6 := (by decide); omega) D k Γ L F s.heap.size th x_4 pr tk co  hth (bx_4.w ⟨by decide, by decide⟩) kpr hpr ktk htk kco hco (by have := bd_3.1; have := bd_3.2; have := bx_4.1; have := bx_4.2; have : (1 : Int32).toInt = 1 := (by decide); have : (6 : Int32).toInt = 6 := (by decide); omega)) (cwV 1 hg zv_RX7_161 rfl rfl rfl zd_X7_readSum ⟨z_leR hRf (by have := bd_3.1; have := bd_3.2; have := bx_4.1; have := bx_4.2; have : (1 : Int32).toInt = 1 := (by decide); have : (6 : Int32).toInt = 6 := (by decide); dsimp only; omega), z_leR hRl (by have := bd_3.1; have := bd_3.2; have := bx_4.1; have := bx_4.2; have : (1 : Int32).toInt = 1 := (by decide); have : (6 : Int32).toInt = 6 := (by decide); dsimp only; omega)⟩) hth (by decide) rfl rfl hl.1 rfl (Nat.le_of_ble_eq_true rfl) dX7_readSumWithin_10 ⟨Nat.zero_le _, Nat.zero_le _⟩ (fun F_5 H locs w_6 h hfF_5 => ?_)
    subst hQ
    exact W.vret hx hb hr (fun t ht hW => ⟨⟨F_5, rfl, trivial, by rw [ht]; exact h.1, h.2.1, hfF_5⟩, h.2.2.F ht⟩) h.2.2.2.2 dX7_readSumWithin_13

set_option maxHeartbeats 4000000 in
set_option maxRecDepth 100000 in
theorem zc_X7_readSums (l : Launch) (D : va_G) (k : Nat → ClassId) (Γ : Nat → Option Nat) (L : List Nat) (F : Nat → va_E) (sz : Nat) (th : Nat) (d : Int32) (pr : Nat) (tk : Nat) (co : Nat) (nv : Nat) (hth : Γ th = some 7) (bd : zB 0 6 d) (kpr : zfld F th 3 = .ref pr) (hpr : Γ pr = some 6) (ktk : zfld F th 4 = .ref tk) (htk : Γ tk = some 8) (kco : zfld F th 5 = .ref co) (hco : Γ co = some 1) (hr0 : 6 ≤ d.toInt + (nv : Int)) (hrec : ∀ q : Nat, nv = q + 1 → zR_sum l q) : Met l yX7_readSums zwX7_readSums ({ frames := 10 * nv + 5, cells := 0, slots := 0, locals := 400 * nv + 140 }) (va_Pc [.ref th, .int d] (zP D k Γ L F sz)) (va_Qi (fun (r : Int32) (u : Nat → va_E) => True) (zQ D k Γ L F [103, 701, 702, 706, 711, 10200, 10600, 10700]) (zA L sz)) 0 0 (zA L sz) := by
  refine Met.ofW (cc := cX7_readSums) (maxL := 4) (ret := (some .int)) (by decide) rfl ?_
  intro p e s m args below meth c s₁ B hml hv
  obtain ⟨rfl, hsz, hP, hK, hLn, hE, hI⟩ := hv
  have hx := B.exec
  have hb := B.bytes
  have hr := B.returns
  have hg : ∀ w ∈ zG, w.before _ s = true := fun w h9 => atoms_spec (ws := zwX7_readSums) B.pre w (List.mem_cons_of_mem _ h9)
  have hown : s.vm.findClass RX7 = some m.cls := findClass_of_methodNamed B.named
  have hlocks := B.notSynchronized
  subst hsz
  have Z : zC p m c cX7_readSums 4 s _ zG RX7 D k L := ⟨⟨hx, hb, hml, hown, hg⟩, hK, hLn, hE⟩
  have h : zH D k Γ L s F s.heap [] := ⟨hP, hI, va_S.rf⟩
  have hl := lv_entry ([.ref th, .int d]) (n := 4) (Nat.le_of_ble_eq_true rfl)
  rw [lg_entry_eq]
  generalize (lg_sl ([.ref th, .int d]) ++ List.replicate (4 - (lg_sl ([.ref th, .int d])).length) Slot.unset).toArray = ls at hl ⊢
  have hl : lv_has ls 4 [(0, .ref th), (1, .int d)] := hl
  clear hP hK hLn hE hI
  generalize hargs : ([.ref th, .int d] : List Value).toArray = args at *
  refine z_start (fun R Q hRf hRl hQ => ?_)
  have hRf : R.frames = 10 * nv + 5 := hRf
  have hRl : R.locals = 400 * nv + 140 := hRl
  refine lv_aload_n hx hb dX7_readSums_0 rfl (lv_at hl 0 rfl) ?_
  refine zk_Vi (As := []) (rest := []) (bytes := cX7_kind) (maxL := 2) (ret := (some .int)) Z h (zc_X7_kind l D k Γ L F s.heap.size th tk hth ktk htk) (cwV 0 hg zv_RX7_65 rfl rfl rfl zd_X7_kind ⟨z_leR hRf (by have := bd.1; have := bd.2; dsimp only; omega), z_leR hRl (by have := bd.1; have := bd.2; dsimp only; omega)⟩) hth (by decide) rfl rfl hl.1 rfl (Nat.le_of_ble_eq_true rfl) dX7_readSums_1 ⟨Nat.zero_le _, Nat.zero_le _⟩ (fun r_1 F_2 H locs w_3 h hfF_2 => ?_)
  obtain ⟨rfl, q_4, -⟩ := w_3
  have br_1 := zB.all r_1
  refine lv_bipush (v := 41) hx hb dX7_readSums_4 (by decide) ?_
  refine lv_icmp_ne (tgt := 11) hx hb dX7_readSums_6 (by decide) (fun c_5 => ?_) (fun c_5 => ?_)
  · have c_5 := z_ne c_5
    refine lv_aload_n hx hb dX7_readSums_11 rfl (lv_at hl 0 rfl) ?_
    refine lv_iload_n hx hb dX7_readSums_12 rfl (lv_at hl 1 rfl) ?_
    refine zk_Vv (As := [.int d]) (rest := []) (bytes := cX7_readSumWithin) (maxL := 2) (ret := none) Z h (zc_X7_readSumWithin l D k Γ L F H.size th d pr tk co nv hth bd kpr hpr ktk htk kco hco (by have := bd.1; have := bd.2; have : (41 : Int32).toInt = 41 := (by decide); omega) hrec) (cwV 1 hg zv_RX7_191 rfl rfl rfl zd_X7_readSumWithin ⟨z_leR hRf (by have := bd.1; have := bd.2; have : (41 : Int32).toInt = 41 := (by decide); dsimp only; omega), z_leR hRl (by have := bd.1; have := bd.2; have : (41 : Int32).toInt = 41 := (by decide); dsimp only; omega)⟩) hth (by decide) rfl rfl hl.1 rfl (Nat.le_of_ble_eq_true rfl) dX7_readSums_13 ⟨Nat.zero_le _, Nat.zero_le _⟩ (fun F_6 H locs w_7 h hfF_6 => ?_)
    refine lv_iconst (v := 1) hx hb dX7_readSums_16 (by decide) ?_
    refine lv_istore_n (lv' := [(2, .int 1), (0, .ref th), (1, .int d)]) hx hb dX7_readSums_17 rfl hl (by decide) rfl (fun ls hl => ?_)
    refine lv_iconst (v := 0) hx hb dX7_readSums_18 (by decide) ?_
    refine lv_istore_n (lv' := [(3, .int 0), (2, .int 1), (0, .ref th), (1, .int d)]) hx hb dX7_readSums_19 rfl hl (by decide) rfl (fun ls hl => ?_)
    have j_j20_8 : ∀ (n : Nat) (ls : Array Slot) (y3_j20_8 : Int32) (y2_j20_8 : Int32) (F_9 : Nat → va_E) (H : Heap) (locs : List Loc), lv_has ls 4 [(3, .int y3_j20_8), (2, .int y2_j20_8), (0, .ref th), (1, .int d)] → zB 0 601 y3_j20_8 → zB 1 3 y2_j20_8 → zH D k Γ L s F_9 H locs → zFr Γ [103, 701, 702, 706, 711, 10200, 10600, 10700] F_6 F_9 → (2147483647 - y3_j20_8.toInt).toNat = n → W p l e R s m args below meth c H locs 0 0 Q (F0 m 20 ls []) := by
      intro n
      induction n using Nat.strongRecOn with
      | _ n ih_j20_8 =>
        intro ls y3_j20_8 y2_j20_8 F_9 H locs hl by3_j20_8 by2_j20_8 h hfF_9 hn_j20_8
        refine lv_iload_n hx hb dX7_readSums_20 rfl (lv_at hl 0 rfl) ?_
        refine lv_aload_n hx hb dX7_readSums_21 rfl (lv_at hl 2 rfl) ?_
        refine zt_getk (t := 7) (C := RX7) (T := TX7) (N := 12) Z h hth zin_7 rfl 4 (hfF_9.f hth 4 ⟨by decide, by decide⟩ (hfF_6.f hth 4 ⟨by decide, by decide⟩ ktk)) ⟨by decide, rfl, by decide⟩ (zm_RX7 (List.mem_of_getElem? (i := 4) rfl)) (fun _ h9 => h9) dX7_readSums_22 ?_
        refine zt_geti (t := 8) (C := RX8) (T := TX8) (N := 6) Z h htk zin_8 rfl 5 rfl ⟨by decide, rfl⟩ (zm_RX7 (List.mem_of_getElem? (i := 56) rfl)) (fun _ h9 => h9) dX7_readSums_25 (fun x_10 kx_10 bx_10 => ?_)
        refine lv_icmp_ge (tgt := 91) hx hb dX7_readSums_28 (by decide) (fun c_11 => ?_) (fun c_11 => ?_)
        · have c_11 := z_le c_11
          refine lv_iload_n hx hb dX7_readSums_91 rfl (lv_at hl 1 rfl) ?_
          subst hQ
          exact W.iret (v := y2_j20_8) hx hb hr (fun t ht hW => ⟨⟨y2_j20_8, F_9, rfl, trivial, by rw [ht]; exact h.1, h.2.1, (hfF_6.trans hfF_9 (by decide))⟩, h.2.2.F ht⟩) h.2.2.2.2 dX7_readSums_92
        · have c_11 := z_nle c_11
          have by3_j20_8_12 : zB 0 600 y3_j20_8 := zB.ltL c_11 by3_j20_8 bx_10 (by decide)
          have bx_10_13 : zB 1 601 x_10 := zB.ltR c_11 by3_j20_8 bx_10 (by decide)
          refine lv_aload_n hx hb dX7_readSums_31 rfl (lv_at hl 2 rfl) ?_
          refine zk_Vi (As := []) (rest := []) (bytes := cX7_kind) (maxL := 2) (ret := (some .int)) Z h (zc_X7_kind l D k Γ L F_9 H.size th tk hth (hfF_9.f hth 4 ⟨by decide, by decide⟩ (hfF_6.f hth 4 ⟨by decide, by decide⟩ ktk)) htk) (cwV 0 hg zv_RX7_65 rfl rfl rfl zd_X7_kind ⟨z_leR hRf (by have := by3_j20_8_12.1; have := by3_j20_8_12.2; have := by2_j20_8.1; have := by2_j20_8.2; have := bd.1; have := bd.2; have := bx_10_13.1; have := bx_10_13.2; have : (41 : Int32).toInt = 41 := (by decide); dsimp only; omega), z_leR hRl (by have := by3_j20_8_12.1; have := by3_j20_8_12.2; have := by2_j20_8.1; have := by2_j20_8.2; have := bd.1; have := bd.2; have := bx_10_13.1; have := bx_10_13.2; have : (41 : Int32).toInt = 41 := (by decide); dsimp only; omega)⟩) hth (by decide) rfl rfl hl.1 rfl (Nat.le_of_ble_eq_true rfl) dX7_readSums_32 ⟨Nat.zero_le _, Nat.zero_le _⟩ (fun r_14 F_15 H locs w_16 h hfF_15 => ?_)
          obtain ⟨rfl, q_17, -⟩ := w_16
          have br_14 := zB.all r_14
          refine lv_bipush (v := 44) hx hb dX7_readSums_35 (by decide) ?_
          refine lv_icmp_ne (tgt := 91) hx hb dX7_readSums_37 (by decide) (fun c_18 => ?_) (fun c_18 => ?_)
          · have c_18 := z_ne c_18
            refine lv_iload_n hx hb dX7_readSums_91 rfl (lv_at hl 1 rfl) ?_
            subst hQ
            exact W.iret (v := y2_j20_8) hx hb hr (fun t ht hW => ⟨⟨y2_j20_8, F_9, rfl, trivial, by rw [ht]; exact h.1, h.2.1, (hfF_6.trans hfF_9 (by decide))⟩, h.2.2.F ht⟩) h.2.2.2.2 dX7_readSums_92
          · have c_18 := z_eq c_18
            have br_14_19 : zB 44 44 r_14 := zB.eqL (a := 0) (b := 0) c_18 (zBc 44 44 (by decide))
            have c_20 := z_not0 br_14_19 (by decide)
            obtain ⟨x_21, kx_21, bx_21⟩ := q_17 c_20
            refine lv_aload_n hx hb dX7_readSums_40 rfl (lv_at hl 2 rfl) ?_
            refine lv_dup hx hb dX7_readSums_41 rfl ?_
            refine zt_getk (t := 7) (C := RX7) (T := TX7) (N := 12) Z h hth zin_7 rfl 6 kx_21 ⟨by decide, rfl, by decide⟩ (zm_RX7 (List.mem_of_getElem? (i := 9) rfl)) (fun _ h9 => h9) dX7_readSums_42 ?_
            refine lv_iconst (v := 1) hx hb dX7_readSums_45 (by decide) ?_
            refine lv_iadd hx hb dX7_readSums_46 ?_
            refine zi_add (lo := 1) (hi := 601) bx_21 (zBc 1 1 (by decide)) (by decide) (fun x_22 bx_22 tx_22 => ?_)
            refine zt_put (t := 7) (C := RX7) (T := TX7) (N := 12) (v := .int x_22) Z h hth zin_7 tyX7 tyX7_ok nmX7 rfl 6 rfl ⟨by decide, rfl⟩ (zm_RX7 (List.mem_of_getElem? (i := 9) rfl)) (fun _ h9 => h9) rfl (zV.i (bx_22.w ⟨by decide, by decide⟩)) rfl rfl dX7_readSums_47 (fun H locs F_23 h hfF_23 kF_23 => ?_)
            refine lv_iload_n hx hb dX7_readSums_50 rfl (lv_at hl 1 rfl) ?_
            refine lv_iconst (v := 3) hx hb dX7_readSums_51 (by decide) ?_
            refine lv_icmp_lt (tgt := 77) hx hb dX7_readSums_52 (by decide) (fun c_24 => ?_) (fun c_24 => ?_)
            · have c_24 := z_lt c_24
              have by2_j20_8_25 : zB 1 2 y2_j20_8 := zB.ltL c_24 by2_j20_8 (zBc 3 3 (by decide)) (by decide)
              refine lv_aload_n hx hb dX7_readSums_77 rfl (lv_at hl 2 rfl) ?_
              refine lv_iload_n hx hb dX7_readSums_78 rfl (lv_at hl 3 rfl) ?_
              refine zk_Vv (As := [.int d]) (rest := []) (bytes := cX7_readSumWithin) (maxL := 2) (ret := none) Z h (zc_X7_readSumWithin l D k Γ L F_23 H.size th d pr tk co nv hth bd (hfF_23.f hth 3 ⟨by decide, by decide⟩ (hfF_9.f hth 3 ⟨by decide, by decide⟩ (hfF_6.f hth 3 ⟨by decide, by decide⟩ kpr))) hpr (hfF_23.f hth 4 ⟨by decide, by decide⟩ (hfF_9.f hth 4 ⟨by decide, by decide⟩ (hfF_6.f hth 4 ⟨by decide, by decide⟩ ktk))) htk (hfF_23.f hth 5 ⟨by decide, by decide⟩ (hfF_9.f hth 5 ⟨by decide, by decide⟩ (hfF_6.f hth 5 ⟨by decide, by decide⟩ kco))) hco (by have := by3_j20_8_12.1; have := by3_j20_8_12.2; have := by2_j20_8_25.1; have := by2_j20_8_25.2; have := bd.1; have := bd.2; have := bx_10_13.1; have := bx_10_13.2; have := bx_22.1; have := bx_22.2; have : (1 : Int32).toInt = 1 := (by decide); have : (3 : Int32).toInt = 3 := (by decide); have : (41 : Int32).toInt = 41 := (by decide); have : (44 : Int32).toInt = 44 := (by decide); omega) hrec) (cwV 1 hg zv_RX7_191 rfl rfl rfl zd_X7_readSumWithin ⟨z_leR hRf (by have := by3_j20_8_12.1; have := by3_j20_8_12.2; have := by2_j20_8_25.1; have := by2_j20_8_25.2; have := bd.1; have := bd.2; have := bx_10_13.1; have := bx_10_13.2; have := bx_22.1; have := bx_22.2; have : (1 : Int32).toInt = 1 := (by decide); have : (3 : Int32).toInt = 3 := (by decide); have : (41 : Int32).toInt = 41 := (by decide); have : (44 : Int32).toInt = 44 := (by decide); dsimp only; omega), z_leR hRl (by have := by3_j20_8_12.1; have := by3_j20_8_12.2; have := by2_j20_8_25.1; have := by2_j20_8_25.2; have := bd.1; have := bd.2; have := bx_10_13.1; have := bx_10_13.2; have := bx_22.1; have := bx_22.2; have : (1 : Int32).toInt = 1 := (by decide); have : (3 : Int32).toInt = 3 := (by decide); have : (41 : Int32).toInt = 41 := (by decide); have : (44 : Int32).toInt = 44 := (by decide); dsimp only; omega)⟩) hth (by decide) rfl rfl hl.1 rfl (Nat.le_of_ble_eq_true rfl) dX7_readSums_79 ⟨Nat.zero_le _, Nat.zero_le _⟩ (fun F_26 H locs w_27 h hfF_26 => ?_)
              obtain ⟨x_28, ex_28, bx_28, tx_28⟩ := z_inc (n := 1) (lo := 2) (hi := 3) by2_j20_8_25 (by decide)
              refine lv_iinc (v := x_28) (lv' := [(2, .int x_28), (3, .int y3_j20_8), (0, .ref th), (1, .int d)]) hx hb dX7_readSums_82 hl (k := 1) rfl ex_28 (by decide) rfl (fun ls hl => ?_)
              obtain ⟨x_29, ex_29, bx_29, tx_29⟩ := z_inc (n := 1) (lo := 1) (hi := 601) by3_j20_8_12 (by decide)
              refine lv_iinc (v := x_29) (lv' := [(3, .int x_29), (2, .int x_28), (0, .ref th), (1, .int d)]) hx hb dX7_readSums_85 hl (k := 1) rfl ex_29 (by decide) rfl (fun ls hl => ?_)
              refine lv_goto (tgt := 20) hx hb dX7_readSums_88 (by decide) ?_
              exact ih_j20_8 _ (by have := bx_29.1; have := bx_29.2; have := bx_28.1; have := bx_28.2; have := bd.1; have := bd.2; have := bx_10_13.1; have := bx_10_13.2; have : (1 : Int32).toInt = 1 := (by decide); have : (3 : Int32).toInt = 3 := (by decide); have : (41 : Int32).toInt = 41 := (by decide); have : (44 : Int32).toInt = 44 := (by decide); have := by3_j20_8.1; have := by3_j20_8.2; have := by2_j20_8.1; have := by2_j20_8.2; omega) ls x_29 x_28 F_26 H locs (lv_sub hl [0, 1, 2, 3] rfl) (bx_29.w ⟨by decide, by decide⟩) (bx_28.w ⟨by decide, by decide⟩) h ((hfF_9.trans hfF_23 (by decide)).trans hfF_26 (by decide)) rfl
            · have c_24 := z_nlt c_24
              have by2_j20_8_30 : zB 3 3 y2_j20_8 := zB.leR c_24 (zBc 3 3 (by decide)) by2_j20_8 (by decide)
              refine lv_aload_n hx hb dX7_readSums_55 rfl (lv_at hl 2 rfl) ?_
              refine lv_aload_n hx hb dX7_readSums_56 rfl (lv_at hl 2 rfl) ?_
              refine zk_Vi (As := []) (rest := [.ref th]) (bytes := cX7_kind) (maxL := 2) (ret := (some .int)) Z h (zc_X7_kind l D k Γ L F_23 H.size th tk hth (hfF_23.f hth 4 ⟨by decide, by decide⟩ (hfF_9.f hth 4 ⟨by decide, by decide⟩ (hfF_6.f hth 4 ⟨by decide, by decide⟩ ktk))) htk) (cwV 0 hg zv_RX7_65 rfl rfl rfl zd_X7_kind ⟨z_leR hRf (by have := by3_j20_8_12.1; have := by3_j20_8_12.2; have := by2_j20_8_30.1; have := by2_j20_8_30.2; have := bd.1; have := bd.2; have := bx_10_13.1; have := bx_10_13.2; have := bx_22.1; have := bx_22.2; have : (1 : Int32).toInt = 1 := (by decide); have : (3 : Int32).toInt = 3 := (by decide); have : (41 : Int32).toInt = 41 := (by decide); have : (44 : Int32).toInt = 44 := (by decide); dsimp only; omega), z_leR hRl (by have := by3_j20_8_12.1; have := by3_j20_8_12.2; have := by2_j20_8_30.1; have := by2_j20_8_30.2; have := bd.1; have := bd.2; have := bx_10_13.1; have := bx_10_13.2; have := bx_22.1; have := bx_22.2; have : (1 : Int32).toInt = 1 := (by decide); have : (3 : Int32).toInt = 3 := (by decide); have : (41 : Int32).toInt = 41 := (by decide); have : (44 : Int32).toInt = 44 := (by decide); dsimp only; omega)⟩) hth (by decide) rfl rfl hl.1 rfl (Nat.le_of_ble_eq_true rfl) dX7_readSums_57 ⟨Nat.zero_le _, Nat.zero_le _⟩ (fun r_31 F_32 H locs w_33 h hfF_32 => ?_)
              obtain ⟨rfl, q_34, -⟩ := w_33
              have br_31 := zB.all r_31
              refine zk_Si (As := [.int r_31]) (rest := [.ref th]) (bytes := cX7_beginsSum) (maxL := 1) (ret := (some .boolean)) Z h (zc_X7_beginsSum l D k Γ L F_23 H.size r_31) (va_cwS 1 hg zv_RX7_203 rfl rfl rfl zd_X7_beginsSum ⟨z_leR hRf (by have := by3_j20_8_12.1; have := by3_j20_8_12.2; have := by2_j20_8_30.1; have := by2_j20_8_30.2; have := bd.1; have := bd.2; have := br_31.1; have := br_31.2; have := bx_10_13.1; have := bx_10_13.2; have := bx_22.1; have := bx_22.2; have : (1 : Int32).toInt = 1 := (by decide); have : (3 : Int32).toInt = 3 := (by decide); have : (41 : Int32).toInt = 41 := (by decide); have : (44 : Int32).toInt = 44 := (by decide); dsimp only; omega), z_leR hRl (by have := by3_j20_8_12.1; have := by3_j20_8_12.2; have := by2_j20_8_30.1; have := by2_j20_8_30.2; have := bd.1; have := bd.2; have := br_31.1; have := br_31.2; have := bx_10_13.1; have := bx_10_13.2; have := bx_22.1; have := bx_22.2; have : (1 : Int32).toInt = 1 := (by decide); have : (3 : Int32).toInt = 3 := (by decide); have : (41 : Int32).toInt = 41 := (by decide); have : (44 : Int32).toInt = 44 := (by decide); dsimp only; omega)⟩) rfl hl.1 rfl (Nat.le_of_ble_eq_true rfl) dX7_readSums_60 ⟨Nat.zero_le _, Nat.zero_le _⟩ (fun r_35 F_36 H locs w_37 h hfF_36 => ?_)
              obtain ⟨rfl, br_35, -⟩ := w_37
              refine lv_if_eq (tgt := 70) hx hb dX7_readSums_63 (by decide) (fun c_38 => ?_) (fun c_38 => ?_)
              · have c_38 := z_eq c_38
                have br_35_39 : zB 0 0 r_35 := zB.eqL (a := 0) (b := 0) c_38 (zBc 0 0 (by decide))
                refine lv_iconst (v := 1) hx hb dX7_readSums_70 (by decide) ?_
                refine zk_Vv (As := [.int 1]) (rest := []) (bytes := cX7_fail) (maxL := 2) (ret := none) Z h (zc_X7_fail l D k Γ L F_23 H.size th 1 tk hth (hfF_23.f hth 4 ⟨by decide, by decide⟩ (hfF_9.f hth 4 ⟨by decide, by decide⟩ (hfF_6.f hth 4 ⟨by decide, by decide⟩ ktk))) htk) (cwV 1 hg zv_RX7_79 rfl rfl rfl zd_X7_fail ⟨z_leR hRf (by have := by3_j20_8_12.1; have := by3_j20_8_12.2; have := by2_j20_8_30.1; have := by2_j20_8_30.2; have := bd.1; have := bd.2; have := bx_10_13.1; have := bx_10_13.2; have := bx_22.1; have := bx_22.2; have : (0 : Int32).toInt = 0 := (by decide); have : (1 : Int32).toInt = 1 := (by decide); have : (3 : Int32).toInt = 3 := (by decide); have : (41 : Int32).toInt = 41 := (by decide); have : (44 : Int32).toInt = 44 := (by decide); dsimp only; omega), z_leR hRl (by have := by3_j20_8_12.1; have := by3_j20_8_12.2; have := by2_j20_8_30.1; have := by2_j20_8_30.2; have := bd.1; have := bd.2; have := bx_10_13.1; have := bx_10_13.2; have := bx_22.1; have := bx_22.2; have : (0 : Int32).toInt = 0 := (by decide); have : (1 : Int32).toInt = 1 := (by decide); have : (3 : Int32).toInt = 3 := (by decide); have : (41 : Int32).toInt = 41 := (by decide); have : (44 : Int32).toInt = 44 := (by decide); dsimp only; omega)⟩) hth (by decide) rfl rfl hl.1 rfl (Nat.le_of_ble_eq_true rfl) dX7_readSums_71 ⟨Nat.zero_le _, Nat.zero_le _⟩ (fun F_40 H locs w_41 h hfF_40 => ?_)
                refine lv_goto (tgt := 85) hx hb dX7_readSums_74 (by decide) ?_
                obtain ⟨x_42, ex_42, bx_42, tx_42⟩ := z_inc (n := 1) (lo := 1) (hi := 601) by3_j20_8_12 (by decide)
                refine lv_iinc (v := x_42) (lv' := [(3, .int x_42), (2, .int y2_j20_8), (0, .ref th), (1, .int d)]) hx hb dX7_readSums_85 hl (k := 0) rfl ex_42 (by decide) rfl (fun ls hl => ?_)
                refine lv_goto (tgt := 20) hx hb dX7_readSums_88 (by decide) ?_
                exact ih_j20_8 _ (by have := bx_42.1; have := bx_42.2; have := by2_j20_8_30.1; have := by2_j20_8_30.2; have := bd.1; have := bd.2; have := bx_10_13.1; have := bx_10_13.2; have : (0 : Int32).toInt = 0 := (by decide); have : (1 : Int32).toInt = 1 := (by decide); have : (3 : Int32).toInt = 3 := (by decide); have : (41 : Int32).toInt = 41 := (by decide); have : (44 : Int32).toInt = 44 := (by decide); have := by3_j20_8.1; have := by3_j20_8.2; have := by2_j20_8.1; have := by2_j20_8.2; omega) ls x_42 y2_j20_8 F_40 H locs (lv_sub hl [0, 1, 2, 3] rfl) (bx_42.w ⟨by decide, by decide⟩) (by2_j20_8_30.w ⟨by decide, by decide⟩) h ((hfF_9.trans hfF_23 (by decide)).trans hfF_40 (by decide)) rfl
              · have c_38 := z_ne c_38
                have br_35_43 : zB 1 1 r_35 := zB.neLo c_38 br_35 (zBc 0 0 (by decide)) (by decide)
                refine lv_iconst (v := 3) hx hb dX7_readSums_66 (by decide) ?_
                refine lv_goto (tgt := 71) hx hb dX7_readSums_67 (by decide) ?_
                refine zk_Vv (As := [.int 3]) (rest := []) (bytes := cX7_fail) (maxL := 2) (ret := none) Z h (zc_X7_fail l D k Γ L F_23 H.size th 3 tk hth (hfF_23.f hth 4 ⟨by decide, by decide⟩ (hfF_9.f hth 4 ⟨by decide, by decide⟩ (hfF_6.f hth 4 ⟨by decide, by decide⟩ ktk))) htk) (cwV 1 hg zv_RX7_79 rfl rfl rfl zd_X7_fail ⟨z_leR hRf (by have := by3_j20_8_12.1; have := by3_j20_8_12.2; have := by2_j20_8_30.1; have := by2_j20_8_30.2; have := bd.1; have := bd.2; have := bx_10_13.1; have := bx_10_13.2; have := bx_22.1; have := bx_22.2; have : (0 : Int32).toInt = 0 := (by decide); have : (1 : Int32).toInt = 1 := (by decide); have : (3 : Int32).toInt = 3 := (by decide); have : (41 : Int32).toInt = 41 := (by decide); have : (44 : Int32).toInt = 44 := (by decide); dsimp only; omega), z_leR hRl (by have := by3_j20_8_12.1; have := by3_j20_8_12.2; have := by2_j20_8_30.1; have := by2_j20_8_30.2; have := bd.1; have := bd.2; have := bx_10_13.1; have := bx_10_13.2; have := bx_22.1; have := bx_22.2; have : (0 : Int32).toInt = 0 := (by decide); have : (1 : Int32).toInt = 1 := (by decide); have : (3 : Int32).toInt = 3 := (by decide); have : (41 : Int32).toInt = 41 := (by decide); have : (44 : Int32).toInt = 44 := (by decide); dsimp only; omega)⟩) hth (by decide) rfl rfl hl.1 rfl (Nat.le_of_ble_eq_true rfl) dX7_readSums_71 ⟨Nat.zero_le _, Nat.zero_le _⟩ (fun F_44 H locs w_45 h hfF_44 => ?_)
                refine lv_goto (tgt := 85) hx hb dX7_readSums_74 (by decide) ?_
                obtain ⟨x_46, ex_46, bx_46, tx_46⟩ := z_inc (n := 1) (lo := 1) (hi := 601) by3_j20_8_12 (by decide)
                refine lv_iinc (v := x_46) (lv' := [(3, .int x_46), (2, .int y2_j20_8), (0, .ref th), (1, .int d)]) hx hb dX7_readSums_85 hl (k := 0) rfl ex_46 (by decide) rfl (fun ls hl => ?_)
                refine lv_goto (tgt := 20) hx hb dX7_readSums_88 (by decide) ?_
                exact ih_j20_8 _ (by have := bx_46.1; have := bx_46.2; have := by2_j20_8_30.1; have := by2_j20_8_30.2; have := bd.1; have := bd.2; have := bx_10_13.1; have := bx_10_13.2; have : (0 : Int32).toInt = 0 := (by decide); have : (1 : Int32).toInt = 1 := (by decide); have : (3 : Int32).toInt = 3 := (by decide); have : (41 : Int32).toInt = 41 := (by decide); have : (44 : Int32).toInt = 44 := (by decide); have := by3_j20_8.1; have := by3_j20_8.2; have := by2_j20_8.1; have := by2_j20_8.2; omega) ls x_46 y2_j20_8 F_44 H locs (lv_sub hl [0, 1, 2, 3] rfl) (bx_46.w ⟨by decide, by decide⟩) (by2_j20_8_30.w ⟨by decide, by decide⟩) h ((hfF_9.trans hfF_23 (by decide)).trans hfF_44 (by decide)) rfl
    exact j_j20_8 _ ls 0 1 F_6 H locs (lv_sub hl [0, 1, 2, 3] rfl) (zB.of ⟨by decide, by decide⟩) (zB.of ⟨by decide, by decide⟩) h zFr.rf rfl
  · have c_5 := z_eq c_5
    have br_1_47 : zB 41 41 r_1 := zB.eqL (a := 0) (b := 0) c_5 (zBc 41 41 (by decide))
    have c_48 := z_not0 br_1_47 (by decide)
    obtain ⟨x_49, kx_49, bx_49⟩ := q_4 c_48
    refine lv_iconst (v := 0) hx hb dX7_readSums_9 (by decide) ?_
    subst hQ
    exact W.iret (v := 0) hx hb hr (fun t ht hW => ⟨⟨0, F, rfl, trivial, by rw [ht]; exact h.1, h.2.1, zFr.rf⟩, h.2.2.F ht⟩) h.2.2.2.2 dX7_readSums_10

set_option maxHeartbeats 4000000 in
set_option maxRecDepth 100000 in
theorem zc_X7_readCall (l : Launch) (D : va_G) (k : Nat → ClassId) (Γ : Nat → Option Nat) (L : List Nat) (F : Nat → va_E) (sz : Nat) (th : Nat) (d : Int32) (pr : Nat) (tk : Nat) (co : Nat) (nx : Int32) (nv : Nat) (hth : Γ th = some 7) (bd : zB 0 6 d) (kpr : zfld F th 3 = .ref pr) (hpr : Γ pr = some 6) (ktk : zfld F th 4 = .ref tk) (htk : Γ tk = some 8) (kco : zfld F th 5 = .ref co) (hco : Γ co = some 1) (knx : zfld F th 6 = .int nx) (bnx : zB 0 600 nx) (hr0 : 6 ≤ d.toInt + (nv : Int)) (hrec : ∀ q : Nat, nv = q + 1 → zR_sum l q) : Met l yX7_readCall zwX7_readCall ({ frames := 10 * nv + 6, cells := 0, slots := 0, locals := 400 * nv + 180 }) (va_Pc [.ref th, .int d] (zP D k Γ L F sz)) (va_Qv (fun (u : Nat → va_E) => True) (zQ D k Γ L F [103, 701, 702, 706, 711, 10200, 10600, 10700]) (zA L sz)) 0 0 (zA L sz) := by
  refine Met.ofW (cc := cX7_readCall) (maxL := 5) (ret := none) (by decide) rfl ?_
  intro p e s m args below meth c s₁ B hml hv
  obtain ⟨rfl, hsz, hP, hK, hLn, hE, hI⟩ := hv
  have hx := B.exec
  have hb := B.bytes
  have hr := B.returns
  have hg : ∀ w ∈ zG, w.before _ s = true := fun w h9 => atoms_spec (ws := zwX7_readCall) B.pre w (List.mem_cons_of_mem _ h9)
  have hown : s.vm.findClass RX7 = some m.cls := findClass_of_methodNamed B.named
  have hlocks := B.notSynchronized
  subst hsz
  have Z : zC p m c cX7_readCall 5 s _ zG RX7 D k L := ⟨⟨hx, hb, hml, hown, hg⟩, hK, hLn, hE⟩
  have h : zH D k Γ L s F s.heap [] := ⟨hP, hI, va_S.rf⟩
  have hl := lv_entry ([.ref th, .int d]) (n := 5) (Nat.le_of_ble_eq_true rfl)
  rw [lg_entry_eq]
  generalize (lg_sl ([.ref th, .int d]) ++ List.replicate (5 - (lg_sl ([.ref th, .int d])).length) Slot.unset).toArray = ls at hl ⊢
  have hl : lv_has ls 5 [(0, .ref th), (1, .int d)] := hl
  clear hP hK hLn hE hI
  generalize hargs : ([.ref th, .int d] : List Value).toArray = args at *
  refine z_start (fun R Q hRf hRl hQ => ?_)
  have hRf : R.frames = 10 * nv + 6 := hRf
  have hRl : R.locals = 400 * nv + 180 := hRl
  refine lv_aload_n hx hb dX7_readCall_0 rfl (lv_at hl 0 rfl) ?_
  refine lv_aload_n hx hb dX7_readCall_1 rfl (lv_at hl 0 rfl) ?_
  refine zt_getk (t := 7) (C := RX7) (T := TX7) (N := 12) Z h hth zin_7 rfl 6 knx ⟨by decide, rfl, by decide⟩ (zm_RX7 (List.mem_of_getElem? (i := 9) rfl)) (fun _ h9 => h9) dX7_readCall_2 ?_
  refine zk_Vi (As := [.int nx]) (rest := []) (bytes := cX7_addCall) (maxL := 2) (ret := (some .int)) Z h (zc_X7_addCall l D k Γ L F s.heap.size th nx pr hth (bnx.w ⟨by decide, by decide⟩) kpr hpr) (cwV 1 hg zv_RX7_197 rfl rfl rfl zd_X7_addCall ⟨z_leR hRf (by have := bd.1; have := bd.2; have := bnx.1; have := bnx.2; dsimp only; omega), z_leR hRl (by have := bd.1; have := bd.2; have := bnx.1; have := bnx.2; dsimp only; omega)⟩) hth (by decide) rfl rfl hl.1 rfl (Nat.le_of_ble_eq_true rfl) dX7_readCall_5 ⟨Nat.zero_le _, Nat.zero_le _⟩ (fun r_1 F_2 H locs w_3 h hfF_2 => ?_)
  obtain ⟨br_1, -⟩ := w_3
  refine lv_istore_n (lv' := [(2, .int r_1), (0, .ref th), (1, .int d)]) hx hb dX7_readCall_8 rfl hl (by decide) rfl (fun ls hl => ?_)
  refine lv_aload_n hx hb dX7_readCall_9 rfl (lv_at hl 1 rfl) ?_
  refine lv_dup hx hb dX7_readCall_10 rfl ?_
  refine zt_getk (t := 7) (C := RX7) (T := TX7) (N := 12) Z h hth zin_7 rfl 6 (hfF_2.f hth 6 ⟨by decide, by decide⟩ knx) ⟨by decide, rfl, by decide⟩ (zm_RX7 (List.mem_of_getElem? (i := 9) rfl)) (fun _ h9 => h9) dX7_readCall_11 ?_
  refine lv_iconst (v := 1) hx hb dX7_readCall_14 (by decide) ?_
  refine lv_iadd hx hb dX7_readCall_15 ?_
  refine zi_add (lo := 1) (hi := 601) bnx (zBc 1 1 (by decide)) (by decide) (fun x_4 bx_4 tx_4 => ?_)
  refine zt_put (t := 7) (C := RX7) (T := TX7) (N := 12) (v := .int x_4) Z h hth zin_7 tyX7 tyX7_ok nmX7 rfl 6 rfl ⟨by decide, rfl⟩ (zm_RX7 (List.mem_of_getElem? (i := 9) rfl)) (fun _ h9 => h9) rfl (zV.i (bx_4.w ⟨by decide, by decide⟩)) rfl rfl dX7_readCall_16 (fun H locs F_5 h hfF_5 kF_5 => ?_)
  refine lv_aload_n hx hb dX7_readCall_19 rfl (lv_at hl 1 rfl) ?_
  refine lv_iload_n hx hb dX7_readCall_20 rfl (lv_at hl 2 rfl) ?_
  refine zk_Vv (As := [.int d]) (rest := []) (bytes := cX7_openBracket) (maxL := 2) (ret := none) Z h (zc_X7_openBracket l D k Γ L F_5 H.size th d tk hth (hfF_5.f hth 4 ⟨by decide, by decide⟩ (hfF_2.f hth 4 ⟨by decide, by decide⟩ ktk)) htk) (cwV 1 hg zv_RX7_188 rfl rfl rfl zd_X7_openBracket ⟨z_leR hRf (by have := br_1.1; have := br_1.2; have := bd.1; have := bd.2; have := bx_4.1; have := bx_4.2; have : (1 : Int32).toInt = 1 := (by decide); dsimp only; omega), z_leR hRl (by have := br_1.1; have := br_1.2; have := bd.1; have := bd.2; have := bx_4.1; have := bx_4.2; have : (1 : Int32).toInt = 1 := (by decide); dsimp only; omega)⟩) hth (by decide) rfl rfl hl.1 rfl (Nat.le_of_ble_eq_true rfl) dX7_readCall_21 ⟨Nat.zero_le _, Nat.zero_le _⟩ (fun F_6 H locs w_7 h hfF_6 => ?_)
  refine lv_aload_n hx hb dX7_readCall_24 rfl (lv_at hl 1 rfl) ?_
  refine lv_iload_n hx hb dX7_readCall_25 rfl (lv_at hl 2 rfl) ?_
  refine zk_Vi (As := [.int d]) (rest := []) (bytes := cX7_readSums) (maxL := 4) (ret := (some .int)) Z h (zc_X7_readSums l D k Γ L F_6 H.size th d pr tk co nv hth bd (hfF_6.f hth 3 ⟨by decide, by decide⟩ (hfF_5.f hth 3 ⟨by decide, by decide⟩ (hfF_2.f hth 3 ⟨by decide, by decide⟩ kpr))) hpr (hfF_6.f hth 4 ⟨by decide, by decide⟩ (hfF_5.f hth 4 ⟨by decide, by decide⟩ (hfF_2.f hth 4 ⟨by decide, by decide⟩ ktk))) htk (hfF_6.f hth 5 ⟨by decide, by decide⟩ (hfF_5.f hth 5 ⟨by decide, by decide⟩ (hfF_2.f hth 5 ⟨by decide, by decide⟩ kco))) hco (by have := br_1.1; have := br_1.2; have := bd.1; have := bd.2; have : (1 : Int32).toInt = 1 := (by decide); omega) hrec) (cwV 1 hg zv_RX7_200 rfl rfl rfl zd_X7_readSums ⟨z_leR hRf (by have := br_1.1; have := br_1.2; have := bd.1; have := bd.2; have : (1 : Int32).toInt = 1 := (by decide); dsimp only; omega), z_leR hRl (by have := br_1.1; have := br_1.2; have := bd.1; have := bd.2; have : (1 : Int32).toInt = 1 := (by decide); dsimp only; omega)⟩) hth (by decide) rfl rfl hl.1 rfl (Nat.le_of_ble_eq_true rfl) dX7_readCall_26 ⟨Nat.zero_le _, Nat.zero_le _⟩ (fun r_8 F_9 H locs w_10 h hfF_9 => ?_)
  have br_8 := zB.all r_8
  refine lv_istore_n (lv' := [(3, .int r_8), (2, .int r_1), (0, .ref th), (1, .int d)]) hx hb dX7_readCall_29 rfl hl (by decide) rfl (fun ls hl => ?_)
  refine lv_aload_n hx hb dX7_readCall_30 rfl (lv_at hl 2 rfl) ?_
  refine lv_bipush (v := 41) hx hb dX7_readCall_31 (by decide) ?_
  refine zk_Vv (As := [.int 41]) (rest := []) (bytes := cX7_take) (maxL := 2) (ret := none) Z h (zc_X7_take l D k Γ L F_9 H.size th 41 tk hth (zB.of ⟨by decide, by decide⟩) (hfF_9.f hth 4 ⟨by decide, by decide⟩ (hfF_6.f hth 4 ⟨by decide, by decide⟩ (hfF_5.f hth 4 ⟨by decide, by decide⟩ (hfF_2.f hth 4 ⟨by decide, by decide⟩ ktk)))) htk) (cwV 1 hg zv_RX7_108 rfl rfl rfl zd_X7_take ⟨z_leR hRf (by have := br_8.1; have := br_8.2; have := br_1.1; have := br_1.2; have := bd.1; have := bd.2; have : (1 : Int32).toInt = 1 := (by decide); have : (41 : Int32).toInt = 41 := (by decide); dsimp only; omega), z_leR hRl (by have := br_8.1; have := br_8.2; have := br_1.1; have := br_1.2; have := bd.1; have := bd.2; have : (1 : Int32).toInt = 1 := (by decide); have : (41 : Int32).toInt = 41 := (by decide); dsimp only; omega)⟩) hth (by decide) rfl rfl hl.1 rfl (Nat.le_of_ble_eq_true rfl) dX7_readCall_33 ⟨Nat.zero_le _, Nat.zero_le _⟩ (fun F_11 H locs w_12 h hfF_11 => ?_)
  refine lv_aload_n hx hb dX7_readCall_36 rfl (lv_at hl 2 rfl) ?_
  refine zt_getk (t := 7) (C := RX7) (T := TX7) (N := 12) Z h hth zin_7 rfl 5 (hfF_11.f hth 5 ⟨by decide, by decide⟩ (hfF_9.f hth 5 ⟨by decide, by decide⟩ (hfF_6.f hth 5 ⟨by decide, by decide⟩ (hfF_5.f hth 5 ⟨by decide, by decide⟩ (hfF_2.f hth 5 ⟨by decide, by decide⟩ kco))))) ⟨by decide, rfl, by decide⟩ (zm_RX7 (List.mem_of_getElem? (i := 6) rfl)) (fun _ h9 => h9) dX7_readCall_37 ?_
  refine lv_bipush (v := 9) hx hb dX7_readCall_40 (by decide) ?_
  refine lv_iconst (v := 0) hx hb dX7_readCall_42 (by decide) ?_
  refine lv_iconst (v := 0) hx hb dX7_readCall_43 (by decide) ?_
  refine zk_Vi (As := [.int 9, .int 0, .int 0]) (rest := []) (bytes := cX1_add) (maxL := 4) (ret := (some .int)) Z h (zc_X1_add l D k Γ L F_11 H.size co 9 0 0 hco) (cwV 3 hg zv_RX7_117 rfl rfl rfl zd_X1_add ⟨z_leR hRf (by have := br_8.1; have := br_8.2; have := br_1.1; have := br_1.2; have := bd.1; have := bd.2; have : (0 : Int32).toInt = 0 := (by decide); have : (1 : Int32).toInt = 1 := (by decide); have : (9 : Int32).toInt = 9 := (by decide); dsimp only; omega), z_leR hRl (by have := br_8.1; have := br_8.2; have := br_1.1; have := br_1.2; have := bd.1; have := bd.2; have : (0 : Int32).toInt = 0 := (by decide); have : (1 : Int32).toInt = 1 := (by decide); have : (9 : Int32).toInt = 9 := (by decide); dsimp only; omega)⟩) hco (by decide) rfl rfl hl.1 rfl (Nat.le_of_ble_eq_true rfl) dX7_readCall_44 ⟨Nat.zero_le _, Nat.zero_le _⟩ (fun r_13 F_14 H locs w_15 h hfF_14 => ?_)
  obtain ⟨br_13, -⟩ := w_15
  refine lv_istore (lv' := [(4, .int r_13), (3, .int r_8), (2, .int r_1), (0, .ref th), (1, .int d)]) hx hb dX7_readCall_47 hl (by decide) rfl (fun ls hl => ?_)
  refine lv_iload_n hx hb dX7_readCall_49 rfl (lv_at hl 2 rfl) ?_
  refine lv_if_lt (tgt := 76) hx hb dX7_readCall_50 (by decide) (fun c_16 => ?_) (fun c_16 => ?_)
  · have c_16 := z_lt c_16
    have br_1_17 : zB (-1) (-1) r_1 := zB.ltL c_16 br_1 (zBc 0 0 (by decide)) (by decide)
    subst hQ
    exact W.vret hx hb hr (fun t ht hW => ⟨⟨F_14, rfl, trivial, by rw [ht]; exact h.1, h.2.1, ((((((hfF_2.w (by decide)).trans hfF_5 (by decide)).trans hfF_6 (by decide)).trans hfF_9 (by decide)).trans hfF_11 (by decide)).trans hfF_14 (by decide))⟩, h.2.2.F ht⟩) h.2.2.2.2 dX7_readCall_76
  · have c_16 := z_nlt c_16
    have br_1_18 : zB 0 149 r_1 := zB.leR c_16 (zBc 0 0 (by decide)) br_1 (by decide)
    refine lv_iload_n hx hb dX7_readCall_53 rfl (lv_at hl 2 rfl) ?_
    refine lv_aload_n hx hb dX7_readCall_54 rfl (lv_at hl 3 rfl) ?_
    refine zt_geti (t := 7) (C := RX7) (T := TX7) (N := 12) Z h hth zin_7 rfl 11 rfl ⟨by decide, rfl⟩ (zm_RX7 (List.mem_of_getElem? (i := 10) rfl)) (fun _ h9 => h9) dX7_readCall_55 (fun x_19 kx_19 bx_19 => ?_)
    refine lv_icmp_ge (tgt := 76) hx hb dX7_readCall_58 (by decide) (fun c_20 => ?_) (fun c_20 => ?_)
    · have c_20 := z_le c_20
      have bx_19_21 : zB 0 149 x_19 := zB.leL c_20 bx_19 br_1_18 (by decide)
      subst hQ
      exact W.vret hx hb hr (fun t ht hW => ⟨⟨F_14, rfl, trivial, by rw [ht]; exact h.1, h.2.1, ((((((hfF_2.w (by decide)).trans hfF_5 (by decide)).trans hfF_6 (by decide)).trans hfF_9 (by decide)).trans hfF_11 (by decide)).trans hfF_14 (by decide))⟩, h.2.2.F ht⟩) h.2.2.2.2 dX7_readCall_76
    · have c_20 := z_nle c_20
      have bx_19_22 : zB 1 150 x_19 := zB.ltR c_20 br_1_18 bx_19 (by decide)
      refine lv_aload_n hx hb dX7_readCall_61 rfl (lv_at hl 3 rfl) ?_
      refine zt_getr (t := 7) (C := RX7) (T := TX7) (N := 12) Z h hth zin_7 rfl 8 rfl ⟨by decide, rfl⟩ (zm_RX7 (List.mem_of_getElem? (i := 113) rfl)) (fun _ h9 => h9) dX7_readCall_62 (fun a_23 ka_23 ha_23 => ?_)
      refine lv_iload_n hx hb dX7_readCall_65 rfl (lv_at hl 2 rfl) ?_
      refine lv_iload_n hx hb dX7_readCall_66 rfl (lv_at hl 1 rfl) ?_
      refine zt_iast (t := 107) Z h ha_23 ⟨by decide, rfl⟩ br_1_18 ⟨by decide, by decide⟩ br_8 dX7_readCall_67 (fun H locs F_24 h hfF_24 => ?_)
      refine lv_aload_n hx hb dX7_readCall_68 rfl (lv_at hl 3 rfl) ?_
      refine zt_getr (t := 7) (C := RX7) (T := TX7) (N := 12) Z h hth zin_7 rfl 9 rfl ⟨by decide, rfl⟩ (zm_RX7 (List.mem_of_getElem? (i := 114) rfl)) (fun _ h9 => h9) dX7_readCall_69 (fun a_25 ka_25 ha_25 => ?_)
      refine lv_iload_n hx hb dX7_readCall_72 rfl (lv_at hl 2 rfl) ?_
      refine lv_iload hx hb dX7_readCall_73 (lv_at hl 0 rfl) ?_
      refine zt_iast (t := 107) Z h ha_25 ⟨by decide, rfl⟩ br_1_18 ⟨by decide, by decide⟩ (br_13.w ⟨by decide, by decide⟩) dX7_readCall_75 (fun H locs F_26 h hfF_26 => ?_)
      subst hQ
      exact W.vret hx hb hr (fun t ht hW => ⟨⟨F_26, rfl, trivial, by rw [ht]; exact h.1, h.2.1, ((((((((hfF_2.w (by decide)).trans hfF_5 (by decide)).trans hfF_6 (by decide)).trans hfF_9 (by decide)).trans hfF_11 (by decide)).trans hfF_14 (by decide)).trans hfF_24 (by decide)).trans hfF_26 (by decide))⟩, h.2.2.F ht⟩) h.2.2.2.2 dX7_readCall_76

set_option maxHeartbeats 4000000 in
set_option maxRecDepth 100000 in
theorem zc_X7_readPart (l : Launch) (D : va_G) (k : Nat → ClassId) (Γ : Nat → Option Nat) (L : List Nat) (F : Nat → va_E) (sz : Nat) (th : Nat) (d : Int32) (pr : Nat) (tk : Nat) (co : Nat) (nv : Nat) (hth : Γ th = some 7) (bd : zB 0 6 d) (kpr : zfld F th 3 = .ref pr) (hpr : Γ pr = some 6) (ktk : zfld F th 4 = .ref tk) (htk : Γ tk = some 8) (kco : zfld F th 5 = .ref co) (hco : Γ co = some 1) (hr0 : 6 ≤ d.toInt + (nv : Int)) (hrec : ∀ q : Nat, nv = q + 1 → zR_sum l q) : Met l yX7_readPart zwX7_readPart ({ frames := 10 * nv + 7, cells := 0, slots := 0, locals := 400 * nv + 220 }) (va_Pc [.ref th, .int d] (zP D k Γ L F sz)) (va_Qv (fun (u : Nat → va_E) => True) (zQ D k Γ L F [103, 701, 702, 706, 711, 10200, 10600, 10700]) (zA L sz)) 0 0 (zA L sz) := by
  refine Met.ofW (cc := cX7_readPart) (maxL := 2) (ret := none) (by decide) rfl ?_
  intro p e s m args below meth c s₁ B hml hv
  obtain ⟨rfl, hsz, hP, hK, hLn, hE, hI⟩ := hv
  have hx := B.exec
  have hb := B.bytes
  have hr := B.returns
  have hg : ∀ w ∈ zG, w.before _ s = true := fun w h9 => atoms_spec (ws := zwX7_readPart) B.pre w (List.mem_cons_of_mem _ h9)
  have hown : s.vm.findClass RX7 = some m.cls := findClass_of_methodNamed B.named
  have hlocks := B.notSynchronized
  subst hsz
  have Z : zC p m c cX7_readPart 2 s _ zG RX7 D k L := ⟨⟨hx, hb, hml, hown, hg⟩, hK, hLn, hE⟩
  have h : zH D k Γ L s F s.heap [] := ⟨hP, hI, va_S.rf⟩
  have hl := lv_entry ([.ref th, .int d]) (n := 2) (Nat.le_of_ble_eq_true rfl)
  rw [lg_entry_eq]
  generalize (lg_sl ([.ref th, .int d]) ++ List.replicate (2 - (lg_sl ([.ref th, .int d])).length) Slot.unset).toArray = ls at hl ⊢
  have hl : lv_has ls 2 [(0, .ref th), (1, .int d)] := hl
  clear hP hK hLn hE hI
  generalize hargs : ([.ref th, .int d] : List Value).toArray = args at *
  refine z_start (fun R Q hRf hRl hQ => ?_)
  have hRf : R.frames = 10 * nv + 7 := hRf
  have hRl : R.locals = 400 * nv + 220 := hRl
  refine lv_aload_n hx hb dX7_readPart_0 rfl (lv_at hl 0 rfl) ?_
  refine zk_Vi (As := []) (rest := []) (bytes := cX7_kind) (maxL := 2) (ret := (some .int)) Z h (zc_X7_kind l D k Γ L F s.heap.size th tk hth ktk htk) (cwV 0 hg zv_RX7_65 rfl rfl rfl zd_X7_kind ⟨z_leR hRf (by have := bd.1; have := bd.2; dsimp only; omega), z_leR hRl (by have := bd.1; have := bd.2; dsimp only; omega)⟩) hth (by decide) rfl rfl hl.1 rfl (Nat.le_of_ble_eq_true rfl) dX7_readPart_1 ⟨Nat.zero_le _, Nat.zero_le _⟩ (fun r_1 F_2 H locs w_3 h hfF_2 => ?_)
  obtain ⟨rfl, q_4, -⟩ := w_3
  have br_1 := zB.all r_1
  by_cases c_5 : r_1 = 2
  · refine lv_lookup (off := 44) (tgt := 48) hx hb dX7_readPart_4 (by decide) (by rw [c_5]; rfl) (by decide) ?_
    have br_1_5 : zB 2 2 r_1 := by rw [c_5]; exact zBc _ _ (by decide)
    have c_7 := z_not0 br_1_5 (by decide)
    obtain ⟨x_8, kx_8, bx_8⟩ := q_4 c_7
    refine lv_aload_n hx hb dX7_readPart_48 rfl (lv_at hl 0 rfl) ?_
    refine zt_getk (t := 7) (C := RX7) (T := TX7) (N := 12) Z h hth zin_7 rfl 5 kco ⟨by decide, rfl, by decide⟩ (zm_RX7 (List.mem_of_getElem? (i := 6) rfl)) (fun _ h9 => h9) dX7_readPart_49 ?_
    refine lv_iconst (v := 1) hx hb dX7_readPart_52 (by decide) ?_
    refine lv_aload_n hx hb dX7_readPart_53 rfl (lv_at hl 0 rfl) ?_
    refine zt_getk (t := 7) (C := RX7) (T := TX7) (N := 12) Z h hth zin_7 rfl 4 ktk ⟨by decide, rfl, by decide⟩ (zm_RX7 (List.mem_of_getElem? (i := 4) rfl)) (fun _ h9 => h9) dX7_readPart_54 ?_
    refine lv_aload_n hx hb dX7_readPart_57 rfl (lv_at hl 0 rfl) ?_
    refine zt_getk (t := 7) (C := RX7) (T := TX7) (N := 12) Z h hth zin_7 rfl 6 kx_8 ⟨by decide, rfl, by decide⟩ (zm_RX7 (List.mem_of_getElem? (i := 9) rfl)) (fun _ h9 => h9) dX7_readPart_58 ?_
    refine zk_Vi (As := [.int x_8]) (rest := [.int 1, .ref co]) (bytes := cX8_valueOf) (maxL := 4) (ret := (some .int)) Z h (zc_X8_valueOf l D k Γ L F H.size tk x_8 htk) (cwV 1 hg zv_RX7_185 rfl rfl rfl zd_X8_valueOf ⟨z_leR hRf (by have := bd.1; have := bd.2; have := bx_8.1; have := bx_8.2; have : (1 : Int32).toInt = 1 := (by decide); dsimp only; omega), z_leR hRl (by have := bd.1; have := bd.2; have := bx_8.1; have := bx_8.2; have : (1 : Int32).toInt = 1 := (by decide); dsimp only; omega)⟩) htk (by decide) rfl rfl hl.1 rfl (Nat.le_of_ble_eq_true rfl) dX7_readPart_61 ⟨Nat.zero_le _, Nat.zero_le _⟩ (fun r_9 F_10 H locs w_11 h hfF_10 => ?_)
    obtain ⟨rfl, -⟩ := w_11
    have br_9 := zB.all r_9
    refine lv_iconst (v := 0) hx hb dX7_readPart_64 (by decide) ?_
    refine zk_Vi (As := [.int 1, .int r_9, .int 0]) (rest := []) (bytes := cX1_add) (maxL := 4) (ret := (some .int)) Z h (zc_X1_add l D k Γ L F H.size co 1 r_9 0 hco) (cwV 3 hg zv_RX7_117 rfl rfl rfl zd_X1_add ⟨z_leR hRf (by have := bd.1; have := bd.2; have := br_9.1; have := br_9.2; have := bx_8.1; have := bx_8.2; have : (0 : Int32).toInt = 0 := (by decide); have : (1 : Int32).toInt = 1 := (by decide); dsimp only; omega), z_leR hRl (by have := bd.1; have := bd.2; have := br_9.1; have := br_9.2; have := bx_8.1; have := bx_8.2; have : (0 : Int32).toInt = 0 := (by decide); have : (1 : Int32).toInt = 1 := (by decide); dsimp only; omega)⟩) hco (by decide) rfl rfl hl.1 rfl (Nat.le_of_ble_eq_true rfl) dX7_readPart_65 ⟨Nat.zero_le _, Nat.zero_le _⟩ (fun r_12 F_13 H locs w_14 h hfF_13 => ?_)
    obtain ⟨br_12, -⟩ := w_14
    refine lv_pop hx hb dX7_readPart_68 rfl ?_
    refine lv_aload_n hx hb dX7_readPart_69 rfl (lv_at hl 0 rfl) ?_
    refine lv_dup hx hb dX7_readPart_70 rfl ?_
    refine zt_getk (t := 7) (C := RX7) (T := TX7) (N := 12) Z h hth zin_7 rfl 6 (hfF_13.f hth 6 ⟨by decide, by decide⟩ kx_8) ⟨by decide, rfl, by decide⟩ (zm_RX7 (List.mem_of_getElem? (i := 9) rfl)) (fun _ h9 => h9) dX7_readPart_71 ?_
    refine lv_iconst (v := 1) hx hb dX7_readPart_74 (by decide) ?_
    refine lv_iadd hx hb dX7_readPart_75 ?_
    refine zi_add (lo := 1) (hi := 601) bx_8 (zBc 1 1 (by decide)) (by decide) (fun x_15 bx_15 tx_15 => ?_)
    refine zt_put (t := 7) (C := RX7) (T := TX7) (N := 12) (v := .int x_15) Z h hth zin_7 tyX7 tyX7_ok nmX7 rfl 6 rfl ⟨by decide, rfl⟩ (zm_RX7 (List.mem_of_getElem? (i := 9) rfl)) (fun _ h9 => h9) rfl (zV.i (bx_15.w ⟨by decide, by decide⟩)) rfl rfl dX7_readPart_76 (fun H locs F_16 h hfF_16 kF_16 => ?_)
    refine lv_goto (tgt := 148) hx hb dX7_readPart_79 (by decide) ?_
    subst hQ
    exact W.vret hx hb hr (fun t ht hW => ⟨⟨F_16, rfl, trivial, by rw [ht]; exact h.1, h.2.1, ((hfF_13.w (by decide)).trans hfF_16 (by decide))⟩, h.2.2.F ht⟩) h.2.2.2.2 dX7_readPart_148
  · by_cases c_17 : r_1 = 3
    · refine lv_lookup (off := 78) (tgt := 82) hx hb dX7_readPart_4 (by decide) (by rw [c_17]; rfl) (by decide) ?_
      have br_1_17 : zB 3 3 r_1 := by rw [c_17]; exact zBc _ _ (by decide)
      have c_19 := z_not0 br_1_17 (by decide)
      obtain ⟨x_20, kx_20, bx_20⟩ := q_4 c_19
      refine lv_aload_n hx hb dX7_readPart_82 rfl (lv_at hl 0 rfl) ?_
      refine zt_getk (t := 7) (C := RX7) (T := TX7) (N := 12) Z h hth zin_7 rfl 5 kco ⟨by decide, rfl, by decide⟩ (zm_RX7 (List.mem_of_getElem? (i := 6) rfl)) (fun _ h9 => h9) dX7_readPart_83 ?_
      refine lv_iconst (v := 2) hx hb dX7_readPart_86 (by decide) ?_
      refine lv_aload_n hx hb dX7_readPart_87 rfl (lv_at hl 0 rfl) ?_
      refine zt_getk (t := 7) (C := RX7) (T := TX7) (N := 12) Z h hth zin_7 rfl 4 ktk ⟨by decide, rfl, by decide⟩ (zm_RX7 (List.mem_of_getElem? (i := 4) rfl)) (fun _ h9 => h9) dX7_readPart_88 ?_
      refine lv_aload_n hx hb dX7_readPart_91 rfl (lv_at hl 0 rfl) ?_
      refine zt_getk (t := 7) (C := RX7) (T := TX7) (N := 12) Z h hth zin_7 rfl 6 kx_20 ⟨by decide, rfl, by decide⟩ (zm_RX7 (List.mem_of_getElem? (i := 9) rfl)) (fun _ h9 => h9) dX7_readPart_92 ?_
      refine zk_Vi (As := [.int x_20]) (rest := [.int 2, .ref co]) (bytes := cX8_letterOf) (maxL := 2) (ret := (some .int)) Z h (zc_X8_letterOf l D k Γ L F H.size tk x_20 htk) (cwV 1 hg zv_RX7_139 rfl rfl rfl zd_X8_letterOf ⟨z_leR hRf (by have := bd.1; have := bd.2; have := bx_20.1; have := bx_20.2; have : (2 : Int32).toInt = 2 := (by decide); dsimp only; omega), z_leR hRl (by have := bd.1; have := bd.2; have := bx_20.1; have := bx_20.2; have : (2 : Int32).toInt = 2 := (by decide); dsimp only; omega)⟩) htk (by decide) rfl rfl hl.1 rfl (Nat.le_of_ble_eq_true rfl) dX7_readPart_95 ⟨Nat.zero_le _, Nat.zero_le _⟩ (fun r_21 F_22 H locs w_23 h hfF_22 => ?_)
      obtain ⟨rfl, br_21, -⟩ := w_23
      refine lv_iconst (v := 0) hx hb dX7_readPart_98 (by decide) ?_
      refine zk_Vi (As := [.int 2, .int r_21, .int 0]) (rest := []) (bytes := cX1_add) (maxL := 4) (ret := (some .int)) Z h (zc_X1_add l D k Γ L F H.size co 2 r_21 0 hco) (cwV 3 hg zv_RX7_117 rfl rfl rfl zd_X1_add ⟨z_leR hRf (by have := bd.1; have := bd.2; have := br_21.1; have := br_21.2; have := bx_20.1; have := bx_20.2; have : (0 : Int32).toInt = 0 := (by decide); have : (2 : Int32).toInt = 2 := (by decide); dsimp only; omega), z_leR hRl (by have := bd.1; have := bd.2; have := br_21.1; have := br_21.2; have := bx_20.1; have := bx_20.2; have : (0 : Int32).toInt = 0 := (by decide); have : (2 : Int32).toInt = 2 := (by decide); dsimp only; omega)⟩) hco (by decide) rfl rfl hl.1 rfl (Nat.le_of_ble_eq_true rfl) dX7_readPart_99 ⟨Nat.zero_le _, Nat.zero_le _⟩ (fun r_24 F_25 H locs w_26 h hfF_25 => ?_)
      obtain ⟨br_24, -⟩ := w_26
      refine lv_pop hx hb dX7_readPart_102 rfl ?_
      refine lv_aload_n hx hb dX7_readPart_103 rfl (lv_at hl 0 rfl) ?_
      refine lv_dup hx hb dX7_readPart_104 rfl ?_
      refine zt_getk (t := 7) (C := RX7) (T := TX7) (N := 12) Z h hth zin_7 rfl 6 (hfF_25.f hth 6 ⟨by decide, by decide⟩ kx_20) ⟨by decide, rfl, by decide⟩ (zm_RX7 (List.mem_of_getElem? (i := 9) rfl)) (fun _ h9 => h9) dX7_readPart_105 ?_
      refine lv_iconst (v := 1) hx hb dX7_readPart_108 (by decide) ?_
      refine lv_iadd hx hb dX7_readPart_109 ?_
      refine zi_add (lo := 1) (hi := 601) bx_20 (zBc 1 1 (by decide)) (by decide) (fun x_27 bx_27 tx_27 => ?_)
      refine zt_put (t := 7) (C := RX7) (T := TX7) (N := 12) (v := .int x_27) Z h hth zin_7 tyX7 tyX7_ok nmX7 rfl 6 rfl ⟨by decide, rfl⟩ (zm_RX7 (List.mem_of_getElem? (i := 9) rfl)) (fun _ h9 => h9) rfl (zV.i (bx_27.w ⟨by decide, by decide⟩)) rfl rfl dX7_readPart_110 (fun H locs F_28 h hfF_28 kF_28 => ?_)
      refine lv_goto (tgt := 148) hx hb dX7_readPart_113 (by decide) ?_
      subst hQ
      exact W.vret hx hb hr (fun t ht hW => ⟨⟨F_28, rfl, trivial, by rw [ht]; exact h.1, h.2.1, ((hfF_25.w (by decide)).trans hfF_28 (by decide))⟩, h.2.2.F ht⟩) h.2.2.2.2 dX7_readPart_148
    · by_cases c_29 : r_1 = 4
      · refine lv_lookup (off := 131) (tgt := 135) hx hb dX7_readPart_4 (by decide) (by rw [c_29]; rfl) (by decide) ?_
        have br_1_29 : zB 4 4 r_1 := by rw [c_29]; exact zBc _ _ (by decide)
        have c_31 := z_not0 br_1_29 (by decide)
        obtain ⟨x_32, kx_32, bx_32⟩ := q_4 c_31
        refine lv_aload_n hx hb dX7_readPart_135 rfl (lv_at hl 0 rfl) ?_
        refine lv_iload_n hx hb dX7_readPart_136 rfl (lv_at hl 1 rfl) ?_
        refine zk_Vv (As := [.int d]) (rest := []) (bytes := cX7_readCall) (maxL := 5) (ret := none) Z h (zc_X7_readCall l D k Γ L F H.size th d pr tk co x_32 nv hth bd kpr hpr ktk htk kco hco kx_32 bx_32 (by have := bd.1; have := bd.2; have := bx_32.1; have := bx_32.2; omega) hrec) (cwV 1 hg zv_RX7_194 rfl rfl rfl zd_X7_readCall ⟨z_leR hRf (by have := bd.1; have := bd.2; have := bx_32.1; have := bx_32.2; dsimp only; omega), z_leR hRl (by have := bd.1; have := bd.2; have := bx_32.1; have := bx_32.2; dsimp only; omega)⟩) hth (by decide) rfl rfl hl.1 rfl (Nat.le_of_ble_eq_true rfl) dX7_readPart_137 ⟨Nat.zero_le _, Nat.zero_le _⟩ (fun F_33 H locs w_34 h hfF_33 => ?_)
        refine lv_goto (tgt := 148) hx hb dX7_readPart_140 (by decide) ?_
        subst hQ
        exact W.vret hx hb hr (fun t ht hW => ⟨⟨F_33, rfl, trivial, by rw [ht]; exact h.1, h.2.1, hfF_33⟩, h.2.2.F ht⟩) h.2.2.2.2 dX7_readPart_148
      · by_cases c_35 : r_1 = 40
        · refine lv_lookup (off := 112) (tgt := 116) hx hb dX7_readPart_4 (by decide) (by rw [c_35]; rfl) (by decide) ?_
          have br_1_35 : zB 40 40 r_1 := by rw [c_35]; exact zBc _ _ (by decide)
          have c_37 := z_not0 br_1_35 (by decide)
          obtain ⟨x_38, kx_38, bx_38⟩ := q_4 c_37
          refine lv_aload_n hx hb dX7_readPart_116 rfl (lv_at hl 0 rfl) ?_
          refine lv_iload_n hx hb dX7_readPart_117 rfl (lv_at hl 1 rfl) ?_
          refine zk_Vv (As := [.int d]) (rest := []) (bytes := cX7_openBracket) (maxL := 2) (ret := none) Z h (zc_X7_openBracket l D k Γ L F H.size th d tk hth ktk htk) (cwV 1 hg zv_RX7_188 rfl rfl rfl zd_X7_openBracket ⟨z_leR hRf (by have := bd.1; have := bd.2; have := bx_38.1; have := bx_38.2; dsimp only; omega), z_leR hRl (by have := bd.1; have := bd.2; have := bx_38.1; have := bx_38.2; dsimp only; omega)⟩) hth (by decide) rfl rfl hl.1 rfl (Nat.le_of_ble_eq_true rfl) dX7_readPart_118 ⟨Nat.zero_le _, Nat.zero_le _⟩ (fun F_39 H locs w_40 h hfF_39 => ?_)
          refine lv_aload_n hx hb dX7_readPart_121 rfl (lv_at hl 0 rfl) ?_
          refine lv_iload_n hx hb dX7_readPart_122 rfl (lv_at hl 1 rfl) ?_
          refine zk_Vv (As := [.int d]) (rest := []) (bytes := cX7_readSumWithin) (maxL := 2) (ret := none) Z h (zc_X7_readSumWithin l D k Γ L F_39 H.size th d pr tk co nv hth bd (hfF_39.f hth 3 ⟨by decide, by decide⟩ kpr) hpr (hfF_39.f hth 4 ⟨by decide, by decide⟩ ktk) htk (hfF_39.f hth 5 ⟨by decide, by decide⟩ kco) hco (by have := bd.1; have := bd.2; omega) hrec) (cwV 1 hg zv_RX7_191 rfl rfl rfl zd_X7_readSumWithin ⟨z_leR hRf (by have := bd.1; have := bd.2; dsimp only; omega), z_leR hRl (by have := bd.1; have := bd.2; dsimp only; omega)⟩) hth (by decide) rfl rfl hl.1 rfl (Nat.le_of_ble_eq_true rfl) dX7_readPart_123 ⟨Nat.zero_le _, Nat.zero_le _⟩ (fun F_41 H locs w_42 h hfF_41 => ?_)
          refine lv_aload_n hx hb dX7_readPart_126 rfl (lv_at hl 0 rfl) ?_
          refine lv_bipush (v := 41) hx hb dX7_readPart_127 (by decide) ?_
          refine zk_Vv (As := [.int 41]) (rest := []) (bytes := cX7_take) (maxL := 2) (ret := none) Z h (zc_X7_take l D k Γ L F_41 H.size th 41 tk hth (zB.of ⟨by decide, by decide⟩) (hfF_41.f hth 4 ⟨by decide, by decide⟩ (hfF_39.f hth 4 ⟨by decide, by decide⟩ ktk)) htk) (cwV 1 hg zv_RX7_108 rfl rfl rfl zd_X7_take ⟨z_leR hRf (by have := bd.1; have := bd.2; have : (41 : Int32).toInt = 41 := (by decide); dsimp only; omega), z_leR hRl (by have := bd.1; have := bd.2; have : (41 : Int32).toInt = 41 := (by decide); dsimp only; omega)⟩) hth (by decide) rfl rfl hl.1 rfl (Nat.le_of_ble_eq_true rfl) dX7_readPart_129 ⟨Nat.zero_le _, Nat.zero_le _⟩ (fun F_43 H locs w_44 h hfF_43 => ?_)
          refine lv_goto (tgt := 148) hx hb dX7_readPart_132 (by decide) ?_
          subst hQ
          exact W.vret hx hb hr (fun t ht hW => ⟨⟨F_43, rfl, trivial, by rw [ht]; exact h.1, h.2.1, (((hfF_39.w (by decide)).trans hfF_41 (by decide)).trans hfF_43 (by decide))⟩, h.2.2.F ht⟩) h.2.2.2.2 dX7_readPart_148
        · have nc_5 : r_1.toInt ≠ 2 := z_nev c_5 (by decide)
          have nc_17 : r_1.toInt ≠ 3 := z_nev c_17 (by decide)
          have nc_29 : r_1.toInt ≠ 4 := z_nev c_29 (by decide)
          have nc_35 : r_1.toInt ≠ 40 := z_nev c_35 (by decide)
          refine lv_lookup (off := 139) (tgt := 143) hx hb dX7_readPart_4 (by decide) ((lv_osw (k := 2) c_5 (by decide)).trans ((lv_osw (k := 3) c_17 (by decide)).trans ((lv_osw (k := 4) c_29 (by decide)).trans ((lv_osw (k := 40) c_35 (by decide)).trans rfl)))) (by decide) ?_
          refine lv_aload_n hx hb dX7_readPart_143 rfl (lv_at hl 0 rfl) ?_
          refine lv_iconst (v := 1) hx hb dX7_readPart_144 (by decide) ?_
          refine zk_Vv (As := [.int 1]) (rest := []) (bytes := cX7_fail) (maxL := 2) (ret := none) Z h (zc_X7_fail l D k Γ L F H.size th 1 tk hth ktk htk) (cwV 1 hg zv_RX7_79 rfl rfl rfl zd_X7_fail ⟨z_leR hRf (by have := bd.1; have := bd.2; have : (1 : Int32).toInt = 1 := (by decide); dsimp only; omega), z_leR hRl (by have := bd.1; have := bd.2; have : (1 : Int32).toInt = 1 := (by decide); dsimp only; omega)⟩) hth (by decide) rfl rfl hl.1 rfl (Nat.le_of_ble_eq_true rfl) dX7_readPart_145 ⟨Nat.zero_le _, Nat.zero_le _⟩ (fun F_45 H locs w_46 h hfF_45 => ?_)
          subst hQ
          exact W.vret hx hb hr (fun t ht hW => ⟨⟨F_45, rfl, trivial, by rw [ht]; exact h.1, h.2.1, (hfF_45.w (by decide))⟩, h.2.2.F ht⟩) h.2.2.2.2 dX7_readPart_148

set_option maxHeartbeats 4000000 in
set_option maxRecDepth 100000 in
theorem zc_X7_readTerm (l : Launch) (D : va_G) (k : Nat → ClassId) (Γ : Nat → Option Nat) (L : List Nat) (F : Nat → va_E) (sz : Nat) (th : Nat) (d : Int32) (pr : Nat) (tk : Nat) (co : Nat) (nv : Nat) (hth : Γ th = some 7) (bd : zB 0 6 d) (kpr : zfld F th 3 = .ref pr) (hpr : Γ pr = some 6) (ktk : zfld F th 4 = .ref tk) (htk : Γ tk = some 8) (kco : zfld F th 5 = .ref co) (hco : Γ co = some 1) (hr0 : 6 ≤ d.toInt + (nv : Int)) (hrec : ∀ q : Nat, nv = q + 1 → zR_sum l q) : Met l yX7_readTerm zwX7_readTerm ({ frames := 10 * nv + 8, cells := 0, slots := 0, locals := 400 * nv + 260 }) (va_Pc [.ref th, .int d] (zP D k Γ L F sz)) (va_Qv (fun (u : Nat → va_E) => True) (zQ D k Γ L F [103, 701, 702, 706, 711, 10200, 10600, 10700]) (zA L sz)) 0 0 (zA L sz) := by
  refine Met.ofW (cc := cX7_readTerm) (maxL := 3) (ret := none) (by decide) rfl ?_
  intro p e s m args below meth c s₁ B hml hv
  obtain ⟨rfl, hsz, hP, hK, hLn, hE, hI⟩ := hv
  have hx := B.exec
  have hb := B.bytes
  have hr := B.returns
  have hg : ∀ w ∈ zG, w.before _ s = true := fun w h9 => atoms_spec (ws := zwX7_readTerm) B.pre w (List.mem_cons_of_mem _ h9)
  have hown : s.vm.findClass RX7 = some m.cls := findClass_of_methodNamed B.named
  have hlocks := B.notSynchronized
  subst hsz
  have Z : zC p m c cX7_readTerm 3 s _ zG RX7 D k L := ⟨⟨hx, hb, hml, hown, hg⟩, hK, hLn, hE⟩
  have h : zH D k Γ L s F s.heap [] := ⟨hP, hI, va_S.rf⟩
  have hl := lv_entry ([.ref th, .int d]) (n := 3) (Nat.le_of_ble_eq_true rfl)
  rw [lg_entry_eq]
  generalize (lg_sl ([.ref th, .int d]) ++ List.replicate (3 - (lg_sl ([.ref th, .int d])).length) Slot.unset).toArray = ls at hl ⊢
  have hl : lv_has ls 3 [(0, .ref th), (1, .int d)] := hl
  clear hP hK hLn hE hI
  generalize hargs : ([.ref th, .int d] : List Value).toArray = args at *
  refine z_start (fun R Q hRf hRl hQ => ?_)
  have hRf : R.frames = 10 * nv + 8 := hRf
  have hRl : R.locals = 400 * nv + 260 := hRl
  refine lv_aload_n hx hb dX7_readTerm_0 rfl (lv_at hl 0 rfl) ?_
  refine lv_iload_n hx hb dX7_readTerm_1 rfl (lv_at hl 1 rfl) ?_
  refine zk_Vv (As := [.int d]) (rest := []) (bytes := cX7_readPart) (maxL := 2) (ret := none) Z h (zc_X7_readPart l D k Γ L F s.heap.size th d pr tk co nv hth bd kpr hpr ktk htk kco hco (by have := bd.1; have := bd.2; omega) hrec) (cwV 1 hg zv_RX7_182 rfl rfl rfl zd_X7_readPart ⟨z_leR hRf (by have := bd.1; have := bd.2; dsimp only; omega), z_leR hRl (by have := bd.1; have := bd.2; dsimp only; omega)⟩) hth (by decide) rfl rfl hl.1 rfl (Nat.le_of_ble_eq_true rfl) dX7_readTerm_2 ⟨Nat.zero_le _, Nat.zero_le _⟩ (fun F_1 H locs w_2 h hfF_1 => ?_)
  refine lv_iconst (v := 0) hx hb dX7_readTerm_5 (by decide) ?_
  refine lv_istore_n (lv' := [(2, .int 0), (0, .ref th), (1, .int d)]) hx hb dX7_readTerm_6 rfl hl (by decide) rfl (fun ls hl => ?_)
  have j_j7_3 : ∀ (n : Nat) (ls : Array Slot) (y2_j7_3 : Int32) (F_4 : Nat → va_E) (H : Heap) (locs : List Loc), lv_has ls 3 [(2, .int y2_j7_3), (0, .ref th), (1, .int d)] → zB 0 601 y2_j7_3 → zH D k Γ L s F_4 H locs → zFr Γ [103, 701, 702, 706, 711, 10200, 10600, 10700] F_1 F_4 → (2147483647 - y2_j7_3.toInt).toNat = n → W p l e R s m args below meth c H locs 0 0 Q (F0 m 7 ls []) := by
    intro n
    induction n using Nat.strongRecOn with
    | _ n ih_j7_3 =>
      intro ls y2_j7_3 F_4 H locs hl by2_j7_3 h hfF_4 hn_j7_3
      refine lv_iload_n hx hb dX7_readTerm_7 rfl (lv_at hl 0 rfl) ?_
      refine lv_aload_n hx hb dX7_readTerm_8 rfl (lv_at hl 1 rfl) ?_
      refine zt_getk (t := 7) (C := RX7) (T := TX7) (N := 12) Z h hth zin_7 rfl 4 (hfF_4.f hth 4 ⟨by decide, by decide⟩ (hfF_1.f hth 4 ⟨by decide, by decide⟩ ktk)) ⟨by decide, rfl, by decide⟩ (zm_RX7 (List.mem_of_getElem? (i := 4) rfl)) (fun _ h9 => h9) dX7_readTerm_9 ?_
      refine zt_geti (t := 8) (C := RX8) (T := TX8) (N := 6) Z h htk zin_8 rfl 5 rfl ⟨by decide, rfl⟩ (zm_RX7 (List.mem_of_getElem? (i := 56) rfl)) (fun _ h9 => h9) dX7_readTerm_12 (fun x_5 kx_5 bx_5 => ?_)
      refine lv_icmp_ge (tgt := 59) hx hb dX7_readTerm_15 (by decide) (fun c_6 => ?_) (fun c_6 => ?_)
      · have c_6 := z_le c_6
        subst hQ
        exact W.vret hx hb hr (fun t ht hW => ⟨⟨F_4, rfl, trivial, by rw [ht]; exact h.1, h.2.1, (hfF_1.trans hfF_4 (by decide))⟩, h.2.2.F ht⟩) h.2.2.2.2 dX7_readTerm_59
      · have c_6 := z_nle c_6
        have by2_j7_3_7 : zB 0 600 y2_j7_3 := zB.ltL c_6 by2_j7_3 bx_5 (by decide)
        have bx_5_8 : zB 1 601 x_5 := zB.ltR c_6 by2_j7_3 bx_5 (by decide)
        refine lv_aload_n hx hb dX7_readTerm_18 rfl (lv_at hl 1 rfl) ?_
        refine zk_Vi (As := []) (rest := []) (bytes := cX7_kind) (maxL := 2) (ret := (some .int)) Z h (zc_X7_kind l D k Γ L F_4 H.size th tk hth (hfF_4.f hth 4 ⟨by decide, by decide⟩ (hfF_1.f hth 4 ⟨by decide, by decide⟩ ktk)) htk) (cwV 0 hg zv_RX7_65 rfl rfl rfl zd_X7_kind ⟨z_leR hRf (by have := by2_j7_3_7.1; have := by2_j7_3_7.2; have := bd.1; have := bd.2; have := bx_5_8.1; have := bx_5_8.2; dsimp only; omega), z_leR hRl (by have := by2_j7_3_7.1; have := by2_j7_3_7.2; have := bd.1; have := bd.2; have := bx_5_8.1; have := bx_5_8.2; dsimp only; omega)⟩) hth (by decide) rfl rfl hl.1 rfl (Nat.le_of_ble_eq_true rfl) dX7_readTerm_19 ⟨Nat.zero_le _, Nat.zero_le _⟩ (fun r_9 F_10 H locs w_11 h hfF_10 => ?_)
        obtain ⟨rfl, q_12, -⟩ := w_11
        have br_9 := zB.all r_9
        refine lv_bipush (v := 42) hx hb dX7_readTerm_22 (by decide) ?_
        refine lv_icmp_ne (tgt := 59) hx hb dX7_readTerm_24 (by decide) (fun c_13 => ?_) (fun c_13 => ?_)
        · have c_13 := z_ne c_13
          subst hQ
          exact W.vret hx hb hr (fun t ht hW => ⟨⟨F_4, rfl, trivial, by rw [ht]; exact h.1, h.2.1, (hfF_1.trans hfF_4 (by decide))⟩, h.2.2.F ht⟩) h.2.2.2.2 dX7_readTerm_59
        · have c_13 := z_eq c_13
          have br_9_14 : zB 42 42 r_9 := zB.eqL (a := 0) (b := 0) c_13 (zBc 42 42 (by decide))
          have c_15 := z_not0 br_9_14 (by decide)
          obtain ⟨x_16, kx_16, bx_16⟩ := q_12 c_15
          refine lv_aload_n hx hb dX7_readTerm_27 rfl (lv_at hl 1 rfl) ?_
          refine lv_dup hx hb dX7_readTerm_28 rfl ?_
          refine zt_getk (t := 7) (C := RX7) (T := TX7) (N := 12) Z h hth zin_7 rfl 6 kx_16 ⟨by decide, rfl, by decide⟩ (zm_RX7 (List.mem_of_getElem? (i := 9) rfl)) (fun _ h9 => h9) dX7_readTerm_29 ?_
          refine lv_iconst (v := 1) hx hb dX7_readTerm_32 (by decide) ?_
          refine lv_iadd hx hb dX7_readTerm_33 ?_
          refine zi_add (lo := 1) (hi := 601) bx_16 (zBc 1 1 (by decide)) (by decide) (fun x_17 bx_17 tx_17 => ?_)
          refine zt_put (t := 7) (C := RX7) (T := TX7) (N := 12) (v := .int x_17) Z h hth zin_7 tyX7 tyX7_ok nmX7 rfl 6 rfl ⟨by decide, rfl⟩ (zm_RX7 (List.mem_of_getElem? (i := 9) rfl)) (fun _ h9 => h9) rfl (zV.i (bx_17.w ⟨by decide, by decide⟩)) rfl rfl dX7_readTerm_34 (fun H locs F_18 h hfF_18 kF_18 => ?_)
          refine lv_aload_n hx hb dX7_readTerm_37 rfl (lv_at hl 1 rfl) ?_
          refine lv_iload_n hx hb dX7_readTerm_38 rfl (lv_at hl 2 rfl) ?_
          refine zk_Vv (As := [.int d]) (rest := []) (bytes := cX7_readPart) (maxL := 2) (ret := none) Z h (zc_X7_readPart l D k Γ L F_18 H.size th d pr tk co nv hth bd (hfF_18.f hth 3 ⟨by decide, by decide⟩ (hfF_4.f hth 3 ⟨by decide, by decide⟩ (hfF_1.f hth 3 ⟨by decide, by decide⟩ kpr))) hpr (hfF_18.f hth 4 ⟨by decide, by decide⟩ (hfF_4.f hth 4 ⟨by decide, by decide⟩ (hfF_1.f hth 4 ⟨by decide, by decide⟩ ktk))) htk (hfF_18.f hth 5 ⟨by decide, by decide⟩ (hfF_4.f hth 5 ⟨by decide, by decide⟩ (hfF_1.f hth 5 ⟨by decide, by decide⟩ kco))) hco (by have := by2_j7_3_7.1; have := by2_j7_3_7.2; have := bd.1; have := bd.2; have := bx_5_8.1; have := bx_5_8.2; have := bx_17.1; have := bx_17.2; have : (1 : Int32).toInt = 1 := (by decide); have : (42 : Int32).toInt = 42 := (by decide); omega) hrec) (cwV 1 hg zv_RX7_182 rfl rfl rfl zd_X7_readPart ⟨z_leR hRf (by have := by2_j7_3_7.1; have := by2_j7_3_7.2; have := bd.1; have := bd.2; have := bx_5_8.1; have := bx_5_8.2; have := bx_17.1; have := bx_17.2; have : (1 : Int32).toInt = 1 := (by decide); have : (42 : Int32).toInt = 42 := (by decide); dsimp only; omega), z_leR hRl (by have := by2_j7_3_7.1; have := by2_j7_3_7.2; have := bd.1; have := bd.2; have := bx_5_8.1; have := bx_5_8.2; have := bx_17.1; have := bx_17.2; have : (1 : Int32).toInt = 1 := (by decide); have : (42 : Int32).toInt = 42 := (by decide); dsimp only; omega)⟩) hth (by decide) rfl rfl hl.1 rfl (Nat.le_of_ble_eq_true rfl) dX7_readTerm_39 ⟨Nat.zero_le _, Nat.zero_le _⟩ (fun F_19 H locs w_20 h hfF_19 => ?_)
          refine lv_aload_n hx hb dX7_readTerm_42 rfl (lv_at hl 1 rfl) ?_
          refine zt_getk (t := 7) (C := RX7) (T := TX7) (N := 12) Z h hth zin_7 rfl 5 (hfF_19.f hth 5 ⟨by decide, by decide⟩ (hfF_18.f hth 5 ⟨by decide, by decide⟩ (hfF_4.f hth 5 ⟨by decide, by decide⟩ (hfF_1.f hth 5 ⟨by decide, by decide⟩ kco)))) ⟨by decide, rfl, by decide⟩ (zm_RX7 (List.mem_of_getElem? (i := 6) rfl)) (fun _ h9 => h9) dX7_readTerm_43 ?_
          refine lv_iconst (v := 5) hx hb dX7_readTerm_46 (by decide) ?_
          refine lv_iconst (v := 0) hx hb dX7_readTerm_47 (by decide) ?_
          refine lv_iconst (v := 0) hx hb dX7_readTerm_48 (by decide) ?_
          refine zk_Vi (As := [.int 5, .int 0, .int 0]) (rest := []) (bytes := cX1_add) (maxL := 4) (ret := (some .int)) Z h (zc_X1_add l D k Γ L F_19 H.size co 5 0 0 hco) (cwV 3 hg zv_RX7_117 rfl rfl rfl zd_X1_add ⟨z_leR hRf (by have := by2_j7_3_7.1; have := by2_j7_3_7.2; have := bd.1; have := bd.2; have := bx_5_8.1; have := bx_5_8.2; have : (0 : Int32).toInt = 0 := (by decide); have : (1 : Int32).toInt = 1 := (by decide); have : (5 : Int32).toInt = 5 := (by decide); have : (42 : Int32).toInt = 42 := (by decide); dsimp only; omega), z_leR hRl (by have := by2_j7_3_7.1; have := by2_j7_3_7.2; have := bd.1; have := bd.2; have := bx_5_8.1; have := bx_5_8.2; have : (0 : Int32).toInt = 0 := (by decide); have : (1 : Int32).toInt = 1 := (by decide); have : (5 : Int32).toInt = 5 := (by decide); have : (42 : Int32).toInt = 42 := (by decide); dsimp only; omega)⟩) hco (by decide) rfl rfl hl.1 rfl (Nat.le_of_ble_eq_true rfl) dX7_readTerm_49 ⟨Nat.zero_le _, Nat.zero_le _⟩ (fun r_21 F_22 H locs w_23 h hfF_22 => ?_)
          obtain ⟨br_21, -⟩ := w_23
          refine lv_pop hx hb dX7_readTerm_52 rfl ?_
          obtain ⟨x_24, ex_24, bx_24, tx_24⟩ := z_inc (n := 1) (lo := 1) (hi := 601) by2_j7_3_7 (by decide)
          refine lv_iinc (v := x_24) (lv' := [(2, .int x_24), (0, .ref th), (1, .int d)]) hx hb dX7_readTerm_53 hl (k := 0) rfl ex_24 (by decide) rfl (fun ls hl => ?_)
          refine lv_goto (tgt := 7) hx hb dX7_readTerm_56 (by decide) ?_
          exact ih_j7_3 _ (by have := bx_24.1; have := bx_24.2; have := bd.1; have := bd.2; have := bx_5_8.1; have := bx_5_8.2; have : (1 : Int32).toInt = 1 := (by decide); have : (42 : Int32).toInt = 42 := (by decide); have := by2_j7_3.1; have := by2_j7_3.2; omega) ls x_24 F_22 H locs (lv_sub hl [0, 1, 2] rfl) (bx_24.w ⟨by decide, by decide⟩) h (((hfF_4.trans hfF_18 (by decide)).trans hfF_19 (by decide)).trans hfF_22 (by decide)) rfl
  exact j_j7_3 _ ls 0 F_1 H locs (lv_sub hl [0, 1, 2] rfl) (zB.of ⟨by decide, by decide⟩) h zFr.rf rfl

set_option maxHeartbeats 4000000 in
set_option maxRecDepth 100000 in
theorem zc_X7_readSum (l : Launch) (D : va_G) (k : Nat → ClassId) (Γ : Nat → Option Nat) (L : List Nat) (F : Nat → va_E) (sz : Nat) (th : Nat) (d : Int32) (pr : Nat) (tk : Nat) (co : Nat) (nv : Nat) (hth : Γ th = some 7) (bd : zB 0 6 d) (kpr : zfld F th 3 = .ref pr) (hpr : Γ pr = some 6) (ktk : zfld F th 4 = .ref tk) (htk : Γ tk = some 8) (kco : zfld F th 5 = .ref co) (hco : Γ co = some 1) (hr0 : 6 ≤ d.toInt + (nv : Int)) (hrec : ∀ q : Nat, nv = q + 1 → zR_sum l q) : Met l yX7_readSum zwX7_readSum ({ frames := 10 * nv + 9, cells := 0, slots := 0, locals := 400 * nv + 300 }) (va_Pc [.ref th, .int d] (zP D k Γ L F sz)) (va_Qv (fun (u : Nat → va_E) => True) (zQ D k Γ L F [103, 701, 702, 706, 711, 10200, 10600, 10700]) (zA L sz)) 0 0 (zA L sz) := by
  refine Met.ofW (cc := cX7_readSum) (maxL := 4) (ret := none) (by decide) rfl ?_
  intro p e s m args below meth c s₁ B hml hv
  obtain ⟨rfl, hsz, hP, hK, hLn, hE, hI⟩ := hv
  have hx := B.exec
  have hb := B.bytes
  have hr := B.returns
  have hg : ∀ w ∈ zG, w.before _ s = true := fun w h9 => atoms_spec (ws := zwX7_readSum) B.pre w (List.mem_cons_of_mem _ h9)
  have hown : s.vm.findClass RX7 = some m.cls := findClass_of_methodNamed B.named
  have hlocks := B.notSynchronized
  subst hsz
  have Z : zC p m c cX7_readSum 4 s _ zG RX7 D k L := ⟨⟨hx, hb, hml, hown, hg⟩, hK, hLn, hE⟩
  have h : zH D k Γ L s F s.heap [] := ⟨hP, hI, va_S.rf⟩
  have hl := lv_entry ([.ref th, .int d]) (n := 4) (Nat.le_of_ble_eq_true rfl)
  rw [lg_entry_eq]
  generalize (lg_sl ([.ref th, .int d]) ++ List.replicate (4 - (lg_sl ([.ref th, .int d])).length) Slot.unset).toArray = ls at hl ⊢
  have hl : lv_has ls 4 [(0, .ref th), (1, .int d)] := hl
  clear hP hK hLn hE hI
  generalize hargs : ([.ref th, .int d] : List Value).toArray = args at *
  refine z_start (fun R Q hRf hRl hQ => ?_)
  have hRf : R.frames = 10 * nv + 9 := hRf
  have hRl : R.locals = 400 * nv + 300 := hRl
  refine lv_aload_n hx hb dX7_readSum_0 rfl (lv_at hl 0 rfl) ?_
  refine lv_iload_n hx hb dX7_readSum_1 rfl (lv_at hl 1 rfl) ?_
  refine zk_Vv (As := [.int d]) (rest := []) (bytes := cX7_readTerm) (maxL := 3) (ret := none) Z h (zc_X7_readTerm l D k Γ L F s.heap.size th d pr tk co nv hth bd kpr hpr ktk htk kco hco (by have := bd.1; have := bd.2; omega) hrec) (cwV 1 hg zv_RX7_179 rfl rfl rfl zd_X7_readTerm ⟨z_leR hRf (by have := bd.1; have := bd.2; dsimp only; omega), z_leR hRl (by have := bd.1; have := bd.2; dsimp only; omega)⟩) hth (by decide) rfl rfl hl.1 rfl (Nat.le_of_ble_eq_true rfl) dX7_readSum_2 ⟨Nat.zero_le _, Nat.zero_le _⟩ (fun F_1 H locs w_2 h hfF_1 => ?_)
  refine lv_iconst (v := 0) hx hb dX7_readSum_5 (by decide) ?_
  refine lv_istore_n (lv' := [(2, .int 0), (0, .ref th), (1, .int d)]) hx hb dX7_readSum_6 rfl hl (by decide) rfl (fun ls hl => ?_)
  have j_j7_3 : ∀ (n : Nat) (ls : Array Slot) (y2_j7_3 : Int32) (F_4 : Nat → va_E) (H : Heap) (locs : List Loc), lv_has ls 4 [(2, .int y2_j7_3), (0, .ref th), (1, .int d)] → zB 0 601 y2_j7_3 → zH D k Γ L s F_4 H locs → zFr Γ [103, 701, 702, 706, 711, 10200, 10600, 10700] F_1 F_4 → (2147483647 - y2_j7_3.toInt).toNat = n → W p l e R s m args below meth c H locs 0 0 Q (F0 m 7 ls []) := by
    intro n
    induction n using Nat.strongRecOn with
    | _ n ih_j7_3 =>
      intro ls y2_j7_3 F_4 H locs hl by2_j7_3 h hfF_4 hn_j7_3
      refine lv_iload_n hx hb dX7_readSum_7 rfl (lv_at hl 0 rfl) ?_
      refine lv_aload_n hx hb dX7_readSum_8 rfl (lv_at hl 1 rfl) ?_
      refine zt_getk (t := 7) (C := RX7) (T := TX7) (N := 12) Z h hth zin_7 rfl 4 (hfF_4.f hth 4 ⟨by decide, by decide⟩ (hfF_1.f hth 4 ⟨by decide, by decide⟩ ktk)) ⟨by decide, rfl, by decide⟩ (zm_RX7 (List.mem_of_getElem? (i := 4) rfl)) (fun _ h9 => h9) dX7_readSum_9 ?_
      refine zt_geti (t := 8) (C := RX8) (T := TX8) (N := 6) Z h htk zin_8 rfl 5 rfl ⟨by decide, rfl⟩ (zm_RX7 (List.mem_of_getElem? (i := 56) rfl)) (fun _ h9 => h9) dX7_readSum_12 (fun x_5 kx_5 bx_5 => ?_)
      refine lv_icmp_ge (tgt := 83) hx hb dX7_readSum_15 (by decide) (fun c_6 => ?_) (fun c_6 => ?_)
      · have c_6 := z_le c_6
        subst hQ
        exact W.vret hx hb hr (fun t ht hW => ⟨⟨F_4, rfl, trivial, by rw [ht]; exact h.1, h.2.1, (hfF_1.trans hfF_4 (by decide))⟩, h.2.2.F ht⟩) h.2.2.2.2 dX7_readSum_83
      · have c_6 := z_nle c_6
        have by2_j7_3_7 : zB 0 600 y2_j7_3 := zB.ltL c_6 by2_j7_3 bx_5 (by decide)
        have bx_5_8 : zB 1 601 x_5 := zB.ltR c_6 by2_j7_3 bx_5 (by decide)
        refine lv_aload_n hx hb dX7_readSum_18 rfl (lv_at hl 1 rfl) ?_
        refine zk_Vi (As := []) (rest := []) (bytes := cX7_kind) (maxL := 2) (ret := (some .int)) Z h (zc_X7_kind l D k Γ L F_4 H.size th tk hth (hfF_4.f hth 4 ⟨by decide, by decide⟩ (hfF_1.f hth 4 ⟨by decide, by decide⟩ ktk)) htk) (cwV 0 hg zv_RX7_65 rfl rfl rfl zd_X7_kind ⟨z_leR hRf (by have := by2_j7_3_7.1; have := by2_j7_3_7.2; have := bd.1; have := bd.2; have := bx_5_8.1; have := bx_5_8.2; dsimp only; omega), z_leR hRl (by have := by2_j7_3_7.1; have := by2_j7_3_7.2; have := bd.1; have := bd.2; have := bx_5_8.1; have := bx_5_8.2; dsimp only; omega)⟩) hth (by decide) rfl rfl hl.1 rfl (Nat.le_of_ble_eq_true rfl) dX7_readSum_19 ⟨Nat.zero_le _, Nat.zero_le _⟩ (fun r_9 F_10 H locs w_11 h hfF_10 => ?_)
        obtain ⟨rfl, q_12, -⟩ := w_11
        have br_9 := zB.all r_9
        refine lv_bipush (v := 43) hx hb dX7_readSum_22 (by decide) ?_
        refine lv_icmp_eq (tgt := 36) hx hb dX7_readSum_24 (by decide) (fun c_13 => ?_) (fun c_13 => ?_)
        · have c_13 := z_eq c_13
          have br_9_14 : zB 43 43 r_9 := zB.eqL (a := 0) (b := 0) c_13 (zBc 43 43 (by decide))
          have c_15 := z_not0 br_9_14 (by decide)
          obtain ⟨x_16, kx_16, bx_16⟩ := q_12 c_15
          refine lv_aload_n hx hb dX7_readSum_36 rfl (lv_at hl 1 rfl) ?_
          refine zk_Vi (As := []) (rest := []) (bytes := cX7_kind) (maxL := 2) (ret := (some .int)) Z h (zc_X7_kind l D k Γ L F_4 H.size th tk hth (hfF_4.f hth 4 ⟨by decide, by decide⟩ (hfF_1.f hth 4 ⟨by decide, by decide⟩ ktk)) htk) (cwV 0 hg zv_RX7_65 rfl rfl rfl zd_X7_kind ⟨z_leR hRf (by have := by2_j7_3_7.1; have := by2_j7_3_7.2; have := bd.1; have := bd.2; have := bx_5_8.1; have := bx_5_8.2; have := bx_16.1; have := bx_16.2; have : (43 : Int32).toInt = 43 := (by decide); dsimp only; omega), z_leR hRl (by have := by2_j7_3_7.1; have := by2_j7_3_7.2; have := bd.1; have := bd.2; have := bx_5_8.1; have := bx_5_8.2; have := bx_16.1; have := bx_16.2; have : (43 : Int32).toInt = 43 := (by decide); dsimp only; omega)⟩) hth (by decide) rfl rfl hl.1 rfl (Nat.le_of_ble_eq_true rfl) dX7_readSum_37 ⟨Nat.zero_le _, Nat.zero_le _⟩ (fun r_17 F_18 H locs w_19 h hfF_18 => ?_)
          obtain ⟨rfl, q_20, -⟩ := w_19
          have br_17 := zB.all r_17
          refine lv_bipush (v := 43) hx hb dX7_readSum_40 (by decide) ?_
          refine lv_icmp_ne (tgt := 49) hx hb dX7_readSum_42 (by decide) (fun c_21 => ?_) (fun c_21 => ?_)
          · have c_21 := z_ne c_21
            refine lv_iconst (v := 4) hx hb dX7_readSum_49 (by decide) ?_
            refine lv_istore_n (lv' := [(3, .int 4), (2, .int y2_j7_3), (0, .ref th), (1, .int d)]) hx hb dX7_readSum_50 rfl hl (by decide) rfl (fun ls hl => ?_)
            refine lv_aload_n hx hb dX7_readSum_51 rfl (lv_at hl 2 rfl) ?_
            refine lv_dup hx hb dX7_readSum_52 rfl ?_
            refine zt_getk (t := 7) (C := RX7) (T := TX7) (N := 12) Z h hth zin_7 rfl 6 kx_16 ⟨by decide, rfl, by decide⟩ (zm_RX7 (List.mem_of_getElem? (i := 9) rfl)) (fun _ h9 => h9) dX7_readSum_53 ?_
            refine lv_iconst (v := 1) hx hb dX7_readSum_56 (by decide) ?_
            refine lv_iadd hx hb dX7_readSum_57 ?_
            refine zi_add (lo := 1) (hi := 601) bx_16 (zBc 1 1 (by decide)) (by decide) (fun x_22 bx_22 tx_22 => ?_)
            refine zt_put (t := 7) (C := RX7) (T := TX7) (N := 12) (v := .int x_22) Z h hth zin_7 tyX7 tyX7_ok nmX7 rfl 6 rfl ⟨by decide, rfl⟩ (zm_RX7 (List.mem_of_getElem? (i := 9) rfl)) (fun _ h9 => h9) rfl (zV.i (bx_22.w ⟨by decide, by decide⟩)) rfl rfl dX7_readSum_58 (fun H locs F_23 h hfF_23 kF_23 => ?_)
            refine lv_aload_n hx hb dX7_readSum_61 rfl (lv_at hl 2 rfl) ?_
            refine lv_iload_n hx hb dX7_readSum_62 rfl (lv_at hl 3 rfl) ?_
            refine zk_Vv (As := [.int d]) (rest := []) (bytes := cX7_readTerm) (maxL := 3) (ret := none) Z h (zc_X7_readTerm l D k Γ L F_23 H.size th d pr tk co nv hth bd (hfF_23.f hth 3 ⟨by decide, by decide⟩ (hfF_4.f hth 3 ⟨by decide, by decide⟩ (hfF_1.f hth 3 ⟨by decide, by decide⟩ kpr))) hpr (hfF_23.f hth 4 ⟨by decide, by decide⟩ (hfF_4.f hth 4 ⟨by decide, by decide⟩ (hfF_1.f hth 4 ⟨by decide, by decide⟩ ktk))) htk (hfF_23.f hth 5 ⟨by decide, by decide⟩ (hfF_4.f hth 5 ⟨by decide, by decide⟩ (hfF_1.f hth 5 ⟨by decide, by decide⟩ kco))) hco (by have := by2_j7_3_7.1; have := by2_j7_3_7.2; have := bd.1; have := bd.2; have := bx_5_8.1; have := bx_5_8.2; have := bx_22.1; have := bx_22.2; have : (1 : Int32).toInt = 1 := (by decide); have : (4 : Int32).toInt = 4 := (by decide); have : (43 : Int32).toInt = 43 := (by decide); omega) hrec) (cwV 1 hg zv_RX7_179 rfl rfl rfl zd_X7_readTerm ⟨z_leR hRf (by have := by2_j7_3_7.1; have := by2_j7_3_7.2; have := bd.1; have := bd.2; have := bx_5_8.1; have := bx_5_8.2; have := bx_22.1; have := bx_22.2; have : (1 : Int32).toInt = 1 := (by decide); have : (4 : Int32).toInt = 4 := (by decide); have : (43 : Int32).toInt = 43 := (by decide); dsimp only; omega), z_leR hRl (by have := by2_j7_3_7.1; have := by2_j7_3_7.2; have := bd.1; have := bd.2; have := bx_5_8.1; have := bx_5_8.2; have := bx_22.1; have := bx_22.2; have : (1 : Int32).toInt = 1 := (by decide); have : (4 : Int32).toInt = 4 := (by decide); have : (43 : Int32).toInt = 43 := (by decide); dsimp only; omega)⟩) hth (by decide) rfl rfl hl.1 rfl (Nat.le_of_ble_eq_true rfl) dX7_readSum_63 ⟨Nat.zero_le _, Nat.zero_le _⟩ (fun F_24 H locs w_25 h hfF_24 => ?_)
            refine lv_aload_n hx hb dX7_readSum_66 rfl (lv_at hl 2 rfl) ?_
            refine zt_getk (t := 7) (C := RX7) (T := TX7) (N := 12) Z h hth zin_7 rfl 5 (hfF_24.f hth 5 ⟨by decide, by decide⟩ (hfF_23.f hth 5 ⟨by decide, by decide⟩ (hfF_4.f hth 5 ⟨by decide, by decide⟩ (hfF_1.f hth 5 ⟨by decide, by decide⟩ kco)))) ⟨by decide, rfl, by decide⟩ (zm_RX7 (List.mem_of_getElem? (i := 6) rfl)) (fun _ h9 => h9) dX7_readSum_67 ?_
            refine lv_iload_n hx hb dX7_readSum_70 rfl (lv_at hl 0 rfl) ?_
            refine lv_iconst (v := 0) hx hb dX7_readSum_71 (by decide) ?_
            refine lv_iconst (v := 0) hx hb dX7_readSum_72 (by decide) ?_
            refine zk_Vi (As := [.int 4, .int 0, .int 0]) (rest := []) (bytes := cX1_add) (maxL := 4) (ret := (some .int)) Z h (zc_X1_add l D k Γ L F_24 H.size co 4 0 0 hco) (cwV 3 hg zv_RX7_117 rfl rfl rfl zd_X1_add ⟨z_leR hRf (by have := by2_j7_3_7.1; have := by2_j7_3_7.2; have := bd.1; have := bd.2; have := bx_5_8.1; have := bx_5_8.2; have : (0 : Int32).toInt = 0 := (by decide); have : (1 : Int32).toInt = 1 := (by decide); have : (4 : Int32).toInt = 4 := (by decide); have : (43 : Int32).toInt = 43 := (by decide); dsimp only; omega), z_leR hRl (by have := by2_j7_3_7.1; have := by2_j7_3_7.2; have := bd.1; have := bd.2; have := bx_5_8.1; have := bx_5_8.2; have : (0 : Int32).toInt = 0 := (by decide); have : (1 : Int32).toInt = 1 := (by decide); have : (4 : Int32).toInt = 4 := (by decide); have : (43 : Int32).toInt = 43 := (by decide); dsimp only; omega)⟩) hco (by decide) rfl rfl hl.1 rfl (Nat.le_of_ble_eq_true rfl) dX7_readSum_73 ⟨Nat.zero_le _, Nat.zero_le _⟩ (fun r_26 F_27 H locs w_28 h hfF_27 => ?_)
            obtain ⟨br_26, -⟩ := w_28
            refine lv_pop hx hb dX7_readSum_76 rfl ?_
            obtain ⟨x_29, ex_29, bx_29, tx_29⟩ := z_inc (n := 1) (lo := 1) (hi := 601) by2_j7_3_7 (by decide)
            refine lv_iinc (v := x_29) (lv' := [(2, .int x_29), (3, .int 4), (0, .ref th), (1, .int d)]) hx hb dX7_readSum_77 hl (k := 1) rfl ex_29 (by decide) rfl (fun ls hl => ?_)
            refine lv_goto (tgt := 7) hx hb dX7_readSum_80 (by decide) ?_
            exact ih_j7_3 _ (by have := bx_29.1; have := bx_29.2; have := bd.1; have := bd.2; have := bx_5_8.1; have := bx_5_8.2; have : (1 : Int32).toInt = 1 := (by decide); have : (4 : Int32).toInt = 4 := (by decide); have : (43 : Int32).toInt = 43 := (by decide); have := by2_j7_3.1; have := by2_j7_3.2; omega) ls x_29 F_27 H locs (lv_sub hl [0, 2, 3] rfl) (bx_29.w ⟨by decide, by decide⟩) h (((hfF_4.trans hfF_23 (by decide)).trans hfF_24 (by decide)).trans hfF_27 (by decide)) rfl
          · have c_21 := z_eq c_21
            have br_17_30 : zB 43 43 r_17 := zB.eqL (a := 0) (b := 0) c_21 (zBc 43 43 (by decide))
            have c_31 := z_not0 br_17_30 (by decide)
            obtain ⟨x_32, kx_32, bx_32⟩ := q_20 c_31
            have bx_16_33 : zB 0 600 x_16 := by rw [z_same kx_16 kx_32]; exact bx_32
            refine lv_iconst (v := 3) hx hb dX7_readSum_45 (by decide) ?_
            refine lv_goto (tgt := 50) hx hb dX7_readSum_46 (by decide) ?_
            refine lv_istore_n (lv' := [(3, .int 3), (2, .int y2_j7_3), (0, .ref th), (1, .int d)]) hx hb dX7_readSum_50 rfl hl (by decide) rfl (fun ls hl => ?_)
            refine lv_aload_n hx hb dX7_readSum_51 rfl (lv_at hl 2 rfl) ?_
            refine lv_dup hx hb dX7_readSum_52 rfl ?_
            refine zt_getk (t := 7) (C := RX7) (T := TX7) (N := 12) Z h hth zin_7 rfl 6 kx_16 ⟨by decide, rfl, by decide⟩ (zm_RX7 (List.mem_of_getElem? (i := 9) rfl)) (fun _ h9 => h9) dX7_readSum_53 ?_
            refine lv_iconst (v := 1) hx hb dX7_readSum_56 (by decide) ?_
            refine lv_iadd hx hb dX7_readSum_57 ?_
            refine zi_add (lo := 1) (hi := 601) bx_16_33 (zBc 1 1 (by decide)) (by decide) (fun x_34 bx_34 tx_34 => ?_)
            refine zt_put (t := 7) (C := RX7) (T := TX7) (N := 12) (v := .int x_34) Z h hth zin_7 tyX7 tyX7_ok nmX7 rfl 6 rfl ⟨by decide, rfl⟩ (zm_RX7 (List.mem_of_getElem? (i := 9) rfl)) (fun _ h9 => h9) rfl (zV.i (bx_34.w ⟨by decide, by decide⟩)) rfl rfl dX7_readSum_58 (fun H locs F_35 h hfF_35 kF_35 => ?_)
            refine lv_aload_n hx hb dX7_readSum_61 rfl (lv_at hl 2 rfl) ?_
            refine lv_iload_n hx hb dX7_readSum_62 rfl (lv_at hl 3 rfl) ?_
            refine zk_Vv (As := [.int d]) (rest := []) (bytes := cX7_readTerm) (maxL := 3) (ret := none) Z h (zc_X7_readTerm l D k Γ L F_35 H.size th d pr tk co nv hth bd (hfF_35.f hth 3 ⟨by decide, by decide⟩ (hfF_4.f hth 3 ⟨by decide, by decide⟩ (hfF_1.f hth 3 ⟨by decide, by decide⟩ kpr))) hpr (hfF_35.f hth 4 ⟨by decide, by decide⟩ (hfF_4.f hth 4 ⟨by decide, by decide⟩ (hfF_1.f hth 4 ⟨by decide, by decide⟩ ktk))) htk (hfF_35.f hth 5 ⟨by decide, by decide⟩ (hfF_4.f hth 5 ⟨by decide, by decide⟩ (hfF_1.f hth 5 ⟨by decide, by decide⟩ kco))) hco (by have := by2_j7_3_7.1; have := by2_j7_3_7.2; have := bd.1; have := bd.2; have := bx_5_8.1; have := bx_5_8.2; have := bx_34.1; have := bx_34.2; have : (1 : Int32).toInt = 1 := (by decide); have : (3 : Int32).toInt = 3 := (by decide); have : (43 : Int32).toInt = 43 := (by decide); omega) hrec) (cwV 1 hg zv_RX7_179 rfl rfl rfl zd_X7_readTerm ⟨z_leR hRf (by have := by2_j7_3_7.1; have := by2_j7_3_7.2; have := bd.1; have := bd.2; have := bx_5_8.1; have := bx_5_8.2; have := bx_34.1; have := bx_34.2; have : (1 : Int32).toInt = 1 := (by decide); have : (3 : Int32).toInt = 3 := (by decide); have : (43 : Int32).toInt = 43 := (by decide); dsimp only; omega), z_leR hRl (by have := by2_j7_3_7.1; have := by2_j7_3_7.2; have := bd.1; have := bd.2; have := bx_5_8.1; have := bx_5_8.2; have := bx_34.1; have := bx_34.2; have : (1 : Int32).toInt = 1 := (by decide); have : (3 : Int32).toInt = 3 := (by decide); have : (43 : Int32).toInt = 43 := (by decide); dsimp only; omega)⟩) hth (by decide) rfl rfl hl.1 rfl (Nat.le_of_ble_eq_true rfl) dX7_readSum_63 ⟨Nat.zero_le _, Nat.zero_le _⟩ (fun F_36 H locs w_37 h hfF_36 => ?_)
            refine lv_aload_n hx hb dX7_readSum_66 rfl (lv_at hl 2 rfl) ?_
            refine zt_getk (t := 7) (C := RX7) (T := TX7) (N := 12) Z h hth zin_7 rfl 5 (hfF_36.f hth 5 ⟨by decide, by decide⟩ (hfF_35.f hth 5 ⟨by decide, by decide⟩ (hfF_4.f hth 5 ⟨by decide, by decide⟩ (hfF_1.f hth 5 ⟨by decide, by decide⟩ kco)))) ⟨by decide, rfl, by decide⟩ (zm_RX7 (List.mem_of_getElem? (i := 6) rfl)) (fun _ h9 => h9) dX7_readSum_67 ?_
            refine lv_iload_n hx hb dX7_readSum_70 rfl (lv_at hl 0 rfl) ?_
            refine lv_iconst (v := 0) hx hb dX7_readSum_71 (by decide) ?_
            refine lv_iconst (v := 0) hx hb dX7_readSum_72 (by decide) ?_
            refine zk_Vi (As := [.int 3, .int 0, .int 0]) (rest := []) (bytes := cX1_add) (maxL := 4) (ret := (some .int)) Z h (zc_X1_add l D k Γ L F_36 H.size co 3 0 0 hco) (cwV 3 hg zv_RX7_117 rfl rfl rfl zd_X1_add ⟨z_leR hRf (by have := by2_j7_3_7.1; have := by2_j7_3_7.2; have := bd.1; have := bd.2; have := bx_5_8.1; have := bx_5_8.2; have : (0 : Int32).toInt = 0 := (by decide); have : (1 : Int32).toInt = 1 := (by decide); have : (3 : Int32).toInt = 3 := (by decide); have : (43 : Int32).toInt = 43 := (by decide); dsimp only; omega), z_leR hRl (by have := by2_j7_3_7.1; have := by2_j7_3_7.2; have := bd.1; have := bd.2; have := bx_5_8.1; have := bx_5_8.2; have : (0 : Int32).toInt = 0 := (by decide); have : (1 : Int32).toInt = 1 := (by decide); have : (3 : Int32).toInt = 3 := (by decide); have : (43 : Int32).toInt = 43 := (by decide); dsimp only; omega)⟩) hco (by decide) rfl rfl hl.1 rfl (Nat.le_of_ble_eq_true rfl) dX7_readSum_73 ⟨Nat.zero_le _, Nat.zero_le _⟩ (fun r_38 F_39 H locs w_40 h hfF_39 => ?_)
            obtain ⟨br_38, -⟩ := w_40
            refine lv_pop hx hb dX7_readSum_76 rfl ?_
            obtain ⟨x_41, ex_41, bx_41, tx_41⟩ := z_inc (n := 1) (lo := 1) (hi := 601) by2_j7_3_7 (by decide)
            refine lv_iinc (v := x_41) (lv' := [(2, .int x_41), (3, .int 3), (0, .ref th), (1, .int d)]) hx hb dX7_readSum_77 hl (k := 1) rfl ex_41 (by decide) rfl (fun ls hl => ?_)
            refine lv_goto (tgt := 7) hx hb dX7_readSum_80 (by decide) ?_
            exact ih_j7_3 _ (by have := bx_41.1; have := bx_41.2; have := bd.1; have := bd.2; have := bx_5_8.1; have := bx_5_8.2; have : (1 : Int32).toInt = 1 := (by decide); have : (3 : Int32).toInt = 3 := (by decide); have : (43 : Int32).toInt = 43 := (by decide); have := by2_j7_3.1; have := by2_j7_3.2; omega) ls x_41 F_39 H locs (lv_sub hl [0, 2, 3] rfl) (bx_41.w ⟨by decide, by decide⟩) h (((hfF_4.trans hfF_35 (by decide)).trans hfF_36 (by decide)).trans hfF_39 (by decide)) rfl
        · have c_13 := z_ne c_13
          refine lv_aload_n hx hb dX7_readSum_27 rfl (lv_at hl 1 rfl) ?_
          refine zk_Vi (As := []) (rest := []) (bytes := cX7_kind) (maxL := 2) (ret := (some .int)) Z h (zc_X7_kind l D k Γ L F_4 H.size th tk hth (hfF_4.f hth 4 ⟨by decide, by decide⟩ (hfF_1.f hth 4 ⟨by decide, by decide⟩ ktk)) htk) (cwV 0 hg zv_RX7_65 rfl rfl rfl zd_X7_kind ⟨z_leR hRf (by have := by2_j7_3_7.1; have := by2_j7_3_7.2; have := bd.1; have := bd.2; have := bx_5_8.1; have := bx_5_8.2; have : (43 : Int32).toInt = 43 := (by decide); dsimp only; omega), z_leR hRl (by have := by2_j7_3_7.1; have := by2_j7_3_7.2; have := bd.1; have := bd.2; have := bx_5_8.1; have := bx_5_8.2; have : (43 : Int32).toInt = 43 := (by decide); dsimp only; omega)⟩) hth (by decide) rfl rfl hl.1 rfl (Nat.le_of_ble_eq_true rfl) dX7_readSum_28 ⟨Nat.zero_le _, Nat.zero_le _⟩ (fun r_42 F_43 H locs w_44 h hfF_43 => ?_)
          obtain ⟨rfl, q_45, -⟩ := w_44
          have br_42 := zB.all r_42
          refine lv_bipush (v := 45) hx hb dX7_readSum_31 (by decide) ?_
          refine lv_icmp_ne (tgt := 83) hx hb dX7_readSum_33 (by decide) (fun c_46 => ?_) (fun c_46 => ?_)
          · have c_46 := z_ne c_46
            subst hQ
            exact W.vret hx hb hr (fun t ht hW => ⟨⟨F_4, rfl, trivial, by rw [ht]; exact h.1, h.2.1, (hfF_1.trans hfF_4 (by decide))⟩, h.2.2.F ht⟩) h.2.2.2.2 dX7_readSum_83
          · have c_46 := z_eq c_46
            have br_42_47 : zB 45 45 r_42 := zB.eqL (a := 0) (b := 0) c_46 (zBc 45 45 (by decide))
            have c_48 := z_not0 br_42_47 (by decide)
            obtain ⟨x_49, kx_49, bx_49⟩ := q_45 c_48
            refine lv_aload_n hx hb dX7_readSum_36 rfl (lv_at hl 1 rfl) ?_
            refine zk_Vi (As := []) (rest := []) (bytes := cX7_kind) (maxL := 2) (ret := (some .int)) Z h (zc_X7_kind l D k Γ L F_4 H.size th tk hth (hfF_4.f hth 4 ⟨by decide, by decide⟩ (hfF_1.f hth 4 ⟨by decide, by decide⟩ ktk)) htk) (cwV 0 hg zv_RX7_65 rfl rfl rfl zd_X7_kind ⟨z_leR hRf (by have := by2_j7_3_7.1; have := by2_j7_3_7.2; have := bd.1; have := bd.2; have := bx_5_8.1; have := bx_5_8.2; have := bx_49.1; have := bx_49.2; have : (43 : Int32).toInt = 43 := (by decide); have : (45 : Int32).toInt = 45 := (by decide); dsimp only; omega), z_leR hRl (by have := by2_j7_3_7.1; have := by2_j7_3_7.2; have := bd.1; have := bd.2; have := bx_5_8.1; have := bx_5_8.2; have := bx_49.1; have := bx_49.2; have : (43 : Int32).toInt = 43 := (by decide); have : (45 : Int32).toInt = 45 := (by decide); dsimp only; omega)⟩) hth (by decide) rfl rfl hl.1 rfl (Nat.le_of_ble_eq_true rfl) dX7_readSum_37 ⟨Nat.zero_le _, Nat.zero_le _⟩ (fun r_50 F_51 H locs w_52 h hfF_51 => ?_)
            obtain ⟨rfl, q_53, -⟩ := w_52
            have br_50 := zB.all r_50
            refine lv_bipush (v := 43) hx hb dX7_readSum_40 (by decide) ?_
            refine lv_icmp_ne (tgt := 49) hx hb dX7_readSum_42 (by decide) (fun c_54 => ?_) (fun c_54 => ?_)
            · have c_54 := z_ne c_54
              refine lv_iconst (v := 4) hx hb dX7_readSum_49 (by decide) ?_
              refine lv_istore_n (lv' := [(3, .int 4), (2, .int y2_j7_3), (0, .ref th), (1, .int d)]) hx hb dX7_readSum_50 rfl hl (by decide) rfl (fun ls hl => ?_)
              refine lv_aload_n hx hb dX7_readSum_51 rfl (lv_at hl 2 rfl) ?_
              refine lv_dup hx hb dX7_readSum_52 rfl ?_
              refine zt_getk (t := 7) (C := RX7) (T := TX7) (N := 12) Z h hth zin_7 rfl 6 kx_49 ⟨by decide, rfl, by decide⟩ (zm_RX7 (List.mem_of_getElem? (i := 9) rfl)) (fun _ h9 => h9) dX7_readSum_53 ?_
              refine lv_iconst (v := 1) hx hb dX7_readSum_56 (by decide) ?_
              refine lv_iadd hx hb dX7_readSum_57 ?_
              refine zi_add (lo := 1) (hi := 601) bx_49 (zBc 1 1 (by decide)) (by decide) (fun x_55 bx_55 tx_55 => ?_)
              refine zt_put (t := 7) (C := RX7) (T := TX7) (N := 12) (v := .int x_55) Z h hth zin_7 tyX7 tyX7_ok nmX7 rfl 6 rfl ⟨by decide, rfl⟩ (zm_RX7 (List.mem_of_getElem? (i := 9) rfl)) (fun _ h9 => h9) rfl (zV.i (bx_55.w ⟨by decide, by decide⟩)) rfl rfl dX7_readSum_58 (fun H locs F_56 h hfF_56 kF_56 => ?_)
              refine lv_aload_n hx hb dX7_readSum_61 rfl (lv_at hl 2 rfl) ?_
              refine lv_iload_n hx hb dX7_readSum_62 rfl (lv_at hl 3 rfl) ?_
              refine zk_Vv (As := [.int d]) (rest := []) (bytes := cX7_readTerm) (maxL := 3) (ret := none) Z h (zc_X7_readTerm l D k Γ L F_56 H.size th d pr tk co nv hth bd (hfF_56.f hth 3 ⟨by decide, by decide⟩ (hfF_4.f hth 3 ⟨by decide, by decide⟩ (hfF_1.f hth 3 ⟨by decide, by decide⟩ kpr))) hpr (hfF_56.f hth 4 ⟨by decide, by decide⟩ (hfF_4.f hth 4 ⟨by decide, by decide⟩ (hfF_1.f hth 4 ⟨by decide, by decide⟩ ktk))) htk (hfF_56.f hth 5 ⟨by decide, by decide⟩ (hfF_4.f hth 5 ⟨by decide, by decide⟩ (hfF_1.f hth 5 ⟨by decide, by decide⟩ kco))) hco (by have := by2_j7_3_7.1; have := by2_j7_3_7.2; have := bd.1; have := bd.2; have := bx_5_8.1; have := bx_5_8.2; have := bx_55.1; have := bx_55.2; have : (1 : Int32).toInt = 1 := (by decide); have : (4 : Int32).toInt = 4 := (by decide); have : (43 : Int32).toInt = 43 := (by decide); have : (45 : Int32).toInt = 45 := (by decide); omega) hrec) (cwV 1 hg zv_RX7_179 rfl rfl rfl zd_X7_readTerm ⟨z_leR hRf (by have := by2_j7_3_7.1; have := by2_j7_3_7.2; have := bd.1; have := bd.2; have := bx_5_8.1; have := bx_5_8.2; have := bx_55.1; have := bx_55.2; have : (1 : Int32).toInt = 1 := (by decide); have : (4 : Int32).toInt = 4 := (by decide); have : (43 : Int32).toInt = 43 := (by decide); have : (45 : Int32).toInt = 45 := (by decide); dsimp only; omega), z_leR hRl (by have := by2_j7_3_7.1; have := by2_j7_3_7.2; have := bd.1; have := bd.2; have := bx_5_8.1; have := bx_5_8.2; have := bx_55.1; have := bx_55.2; have : (1 : Int32).toInt = 1 := (by decide); have : (4 : Int32).toInt = 4 := (by decide); have : (43 : Int32).toInt = 43 := (by decide); have : (45 : Int32).toInt = 45 := (by decide); dsimp only; omega)⟩) hth (by decide) rfl rfl hl.1 rfl (Nat.le_of_ble_eq_true rfl) dX7_readSum_63 ⟨Nat.zero_le _, Nat.zero_le _⟩ (fun F_57 H locs w_58 h hfF_57 => ?_)
              refine lv_aload_n hx hb dX7_readSum_66 rfl (lv_at hl 2 rfl) ?_
              refine zt_getk (t := 7) (C := RX7) (T := TX7) (N := 12) Z h hth zin_7 rfl 5 (hfF_57.f hth 5 ⟨by decide, by decide⟩ (hfF_56.f hth 5 ⟨by decide, by decide⟩ (hfF_4.f hth 5 ⟨by decide, by decide⟩ (hfF_1.f hth 5 ⟨by decide, by decide⟩ kco)))) ⟨by decide, rfl, by decide⟩ (zm_RX7 (List.mem_of_getElem? (i := 6) rfl)) (fun _ h9 => h9) dX7_readSum_67 ?_
              refine lv_iload_n hx hb dX7_readSum_70 rfl (lv_at hl 0 rfl) ?_
              refine lv_iconst (v := 0) hx hb dX7_readSum_71 (by decide) ?_
              refine lv_iconst (v := 0) hx hb dX7_readSum_72 (by decide) ?_
              refine zk_Vi (As := [.int 4, .int 0, .int 0]) (rest := []) (bytes := cX1_add) (maxL := 4) (ret := (some .int)) Z h (zc_X1_add l D k Γ L F_57 H.size co 4 0 0 hco) (cwV 3 hg zv_RX7_117 rfl rfl rfl zd_X1_add ⟨z_leR hRf (by have := by2_j7_3_7.1; have := by2_j7_3_7.2; have := bd.1; have := bd.2; have := bx_5_8.1; have := bx_5_8.2; have : (0 : Int32).toInt = 0 := (by decide); have : (1 : Int32).toInt = 1 := (by decide); have : (4 : Int32).toInt = 4 := (by decide); have : (43 : Int32).toInt = 43 := (by decide); have : (45 : Int32).toInt = 45 := (by decide); dsimp only; omega), z_leR hRl (by have := by2_j7_3_7.1; have := by2_j7_3_7.2; have := bd.1; have := bd.2; have := bx_5_8.1; have := bx_5_8.2; have : (0 : Int32).toInt = 0 := (by decide); have : (1 : Int32).toInt = 1 := (by decide); have : (4 : Int32).toInt = 4 := (by decide); have : (43 : Int32).toInt = 43 := (by decide); have : (45 : Int32).toInt = 45 := (by decide); dsimp only; omega)⟩) hco (by decide) rfl rfl hl.1 rfl (Nat.le_of_ble_eq_true rfl) dX7_readSum_73 ⟨Nat.zero_le _, Nat.zero_le _⟩ (fun r_59 F_60 H locs w_61 h hfF_60 => ?_)
              obtain ⟨br_59, -⟩ := w_61
              refine lv_pop hx hb dX7_readSum_76 rfl ?_
              obtain ⟨x_62, ex_62, bx_62, tx_62⟩ := z_inc (n := 1) (lo := 1) (hi := 601) by2_j7_3_7 (by decide)
              refine lv_iinc (v := x_62) (lv' := [(2, .int x_62), (3, .int 4), (0, .ref th), (1, .int d)]) hx hb dX7_readSum_77 hl (k := 1) rfl ex_62 (by decide) rfl (fun ls hl => ?_)
              refine lv_goto (tgt := 7) hx hb dX7_readSum_80 (by decide) ?_
              exact ih_j7_3 _ (by have := bx_62.1; have := bx_62.2; have := bd.1; have := bd.2; have := bx_5_8.1; have := bx_5_8.2; have : (1 : Int32).toInt = 1 := (by decide); have : (4 : Int32).toInt = 4 := (by decide); have : (43 : Int32).toInt = 43 := (by decide); have : (45 : Int32).toInt = 45 := (by decide); have := by2_j7_3.1; have := by2_j7_3.2; omega) ls x_62 F_60 H locs (lv_sub hl [0, 2, 3] rfl) (bx_62.w ⟨by decide, by decide⟩) h (((hfF_4.trans hfF_56 (by decide)).trans hfF_57 (by decide)).trans hfF_60 (by decide)) rfl
            · have c_54 := z_eq c_54
              have br_50_63 : zB 43 43 r_50 := zB.eqL (a := 0) (b := 0) c_54 (zBc 43 43 (by decide))
              have c_64 := z_not0 br_50_63 (by decide)
              obtain ⟨x_65, kx_65, bx_65⟩ := q_53 c_64
              have bx_49_66 : zB 0 600 x_49 := by rw [z_same kx_49 kx_65]; exact bx_65
              refine lv_iconst (v := 3) hx hb dX7_readSum_45 (by decide) ?_
              refine lv_goto (tgt := 50) hx hb dX7_readSum_46 (by decide) ?_
              refine lv_istore_n (lv' := [(3, .int 3), (2, .int y2_j7_3), (0, .ref th), (1, .int d)]) hx hb dX7_readSum_50 rfl hl (by decide) rfl (fun ls hl => ?_)
              refine lv_aload_n hx hb dX7_readSum_51 rfl (lv_at hl 2 rfl) ?_
              refine lv_dup hx hb dX7_readSum_52 rfl ?_
              refine zt_getk (t := 7) (C := RX7) (T := TX7) (N := 12) Z h hth zin_7 rfl 6 kx_49 ⟨by decide, rfl, by decide⟩ (zm_RX7 (List.mem_of_getElem? (i := 9) rfl)) (fun _ h9 => h9) dX7_readSum_53 ?_
              refine lv_iconst (v := 1) hx hb dX7_readSum_56 (by decide) ?_
              refine lv_iadd hx hb dX7_readSum_57 ?_
              refine zi_add (lo := 1) (hi := 601) bx_49_66 (zBc 1 1 (by decide)) (by decide) (fun x_67 bx_67 tx_67 => ?_)
              refine zt_put (t := 7) (C := RX7) (T := TX7) (N := 12) (v := .int x_67) Z h hth zin_7 tyX7 tyX7_ok nmX7 rfl 6 rfl ⟨by decide, rfl⟩ (zm_RX7 (List.mem_of_getElem? (i := 9) rfl)) (fun _ h9 => h9) rfl (zV.i (bx_67.w ⟨by decide, by decide⟩)) rfl rfl dX7_readSum_58 (fun H locs F_68 h hfF_68 kF_68 => ?_)
              refine lv_aload_n hx hb dX7_readSum_61 rfl (lv_at hl 2 rfl) ?_
              refine lv_iload_n hx hb dX7_readSum_62 rfl (lv_at hl 3 rfl) ?_
              refine zk_Vv (As := [.int d]) (rest := []) (bytes := cX7_readTerm) (maxL := 3) (ret := none) Z h (zc_X7_readTerm l D k Γ L F_68 H.size th d pr tk co nv hth bd (hfF_68.f hth 3 ⟨by decide, by decide⟩ (hfF_4.f hth 3 ⟨by decide, by decide⟩ (hfF_1.f hth 3 ⟨by decide, by decide⟩ kpr))) hpr (hfF_68.f hth 4 ⟨by decide, by decide⟩ (hfF_4.f hth 4 ⟨by decide, by decide⟩ (hfF_1.f hth 4 ⟨by decide, by decide⟩ ktk))) htk (hfF_68.f hth 5 ⟨by decide, by decide⟩ (hfF_4.f hth 5 ⟨by decide, by decide⟩ (hfF_1.f hth 5 ⟨by decide, by decide⟩ kco))) hco (by have := by2_j7_3_7.1; have := by2_j7_3_7.2; have := bd.1; have := bd.2; have := bx_5_8.1; have := bx_5_8.2; have := bx_67.1; have := bx_67.2; have : (1 : Int32).toInt = 1 := (by decide); have : (3 : Int32).toInt = 3 := (by decide); have : (43 : Int32).toInt = 43 := (by decide); have : (45 : Int32).toInt = 45 := (by decide); omega) hrec) (cwV 1 hg zv_RX7_179 rfl rfl rfl zd_X7_readTerm ⟨z_leR hRf (by have := by2_j7_3_7.1; have := by2_j7_3_7.2; have := bd.1; have := bd.2; have := bx_5_8.1; have := bx_5_8.2; have := bx_67.1; have := bx_67.2; have : (1 : Int32).toInt = 1 := (by decide); have : (3 : Int32).toInt = 3 := (by decide); have : (43 : Int32).toInt = 43 := (by decide); have : (45 : Int32).toInt = 45 := (by decide); dsimp only; omega), z_leR hRl (by have := by2_j7_3_7.1; have := by2_j7_3_7.2; have := bd.1; have := bd.2; have := bx_5_8.1; have := bx_5_8.2; have := bx_67.1; have := bx_67.2; have : (1 : Int32).toInt = 1 := (by decide); have : (3 : Int32).toInt = 3 := (by decide); have : (43 : Int32).toInt = 43 := (by decide); have : (45 : Int32).toInt = 45 := (by decide); dsimp only; omega)⟩) hth (by decide) rfl rfl hl.1 rfl (Nat.le_of_ble_eq_true rfl) dX7_readSum_63 ⟨Nat.zero_le _, Nat.zero_le _⟩ (fun F_69 H locs w_70 h hfF_69 => ?_)
              refine lv_aload_n hx hb dX7_readSum_66 rfl (lv_at hl 2 rfl) ?_
              refine zt_getk (t := 7) (C := RX7) (T := TX7) (N := 12) Z h hth zin_7 rfl 5 (hfF_69.f hth 5 ⟨by decide, by decide⟩ (hfF_68.f hth 5 ⟨by decide, by decide⟩ (hfF_4.f hth 5 ⟨by decide, by decide⟩ (hfF_1.f hth 5 ⟨by decide, by decide⟩ kco)))) ⟨by decide, rfl, by decide⟩ (zm_RX7 (List.mem_of_getElem? (i := 6) rfl)) (fun _ h9 => h9) dX7_readSum_67 ?_
              refine lv_iload_n hx hb dX7_readSum_70 rfl (lv_at hl 0 rfl) ?_
              refine lv_iconst (v := 0) hx hb dX7_readSum_71 (by decide) ?_
              refine lv_iconst (v := 0) hx hb dX7_readSum_72 (by decide) ?_
              refine zk_Vi (As := [.int 3, .int 0, .int 0]) (rest := []) (bytes := cX1_add) (maxL := 4) (ret := (some .int)) Z h (zc_X1_add l D k Γ L F_69 H.size co 3 0 0 hco) (cwV 3 hg zv_RX7_117 rfl rfl rfl zd_X1_add ⟨z_leR hRf (by have := by2_j7_3_7.1; have := by2_j7_3_7.2; have := bd.1; have := bd.2; have := bx_5_8.1; have := bx_5_8.2; have : (0 : Int32).toInt = 0 := (by decide); have : (1 : Int32).toInt = 1 := (by decide); have : (3 : Int32).toInt = 3 := (by decide); have : (43 : Int32).toInt = 43 := (by decide); have : (45 : Int32).toInt = 45 := (by decide); dsimp only; omega), z_leR hRl (by have := by2_j7_3_7.1; have := by2_j7_3_7.2; have := bd.1; have := bd.2; have := bx_5_8.1; have := bx_5_8.2; have : (0 : Int32).toInt = 0 := (by decide); have : (1 : Int32).toInt = 1 := (by decide); have : (3 : Int32).toInt = 3 := (by decide); have : (43 : Int32).toInt = 43 := (by decide); have : (45 : Int32).toInt = 45 := (by decide); dsimp only; omega)⟩) hco (by decide) rfl rfl hl.1 rfl (Nat.le_of_ble_eq_true rfl) dX7_readSum_73 ⟨Nat.zero_le _, Nat.zero_le _⟩ (fun r_71 F_72 H locs w_73 h hfF_72 => ?_)
              obtain ⟨br_71, -⟩ := w_73
              refine lv_pop hx hb dX7_readSum_76 rfl ?_
              obtain ⟨x_74, ex_74, bx_74, tx_74⟩ := z_inc (n := 1) (lo := 1) (hi := 601) by2_j7_3_7 (by decide)
              refine lv_iinc (v := x_74) (lv' := [(2, .int x_74), (3, .int 3), (0, .ref th), (1, .int d)]) hx hb dX7_readSum_77 hl (k := 1) rfl ex_74 (by decide) rfl (fun ls hl => ?_)
              refine lv_goto (tgt := 7) hx hb dX7_readSum_80 (by decide) ?_
              exact ih_j7_3 _ (by have := bx_74.1; have := bx_74.2; have := bd.1; have := bd.2; have := bx_5_8.1; have := bx_5_8.2; have : (1 : Int32).toInt = 1 := (by decide); have : (3 : Int32).toInt = 3 := (by decide); have : (43 : Int32).toInt = 43 := (by decide); have : (45 : Int32).toInt = 45 := (by decide); have := by2_j7_3.1; have := by2_j7_3.2; omega) ls x_74 F_72 H locs (lv_sub hl [0, 2, 3] rfl) (bx_74.w ⟨by decide, by decide⟩) h (((hfF_4.trans hfF_68 (by decide)).trans hfF_69 (by decide)).trans hfF_72 (by decide)) rfl
  exact j_j7_3 _ ls 0 F_1 H locs (lv_sub hl [0, 1, 2] rfl) (zB.of ⟨by decide, by decide⟩) h zFr.rf rfl

theorem zs_sum (l : Launch) : ∀ nv : Nat, zR_sum l nv := by
  intro nv
  induction nv with
  | zero => exact fun D k Γ L F sz th d pr tk co hth bd kpr hpr ktk htk kco hco hr0 => zc_X7_readSum l D k Γ L F sz th d pr tk co 0 hth bd kpr hpr ktk htk kco hco hr0 (fun q h9 => by omega)
  | succ nv ih => exact fun D k Γ L F sz th d pr tk co hth bd kpr hpr ktk htk kco hco hr0 => zc_X7_readSum l D k Γ L F sz th d pr tk co (nv + 1) hth bd kpr hpr ktk htk kco hco hr0 (fun q h9 => by cases (show nv = q by omega); exact ih)

set_option maxHeartbeats 4000000 in
set_option maxRecDepth 100000 in
theorem zc_X7_readTest (l : Launch) (D : va_G) (k : Nat → ClassId) (Γ : Nat → Option Nat) (L : List Nat) (F : Nat → va_E) (sz : Nat) (th : Nat) (pr : Nat) (tk : Nat) (co : Nat) (hth : Γ th = some 7) (kpr : zfld F th 3 = .ref pr) (hpr : Γ pr = some 6) (ktk : zfld F th 4 = .ref tk) (htk : Γ tk = some 8) (kco : zfld F th 5 = .ref co) (hco : Γ co = some 1) : Met l yX7_readTest zwX7_readTest ({ frames := 70, cells := 0, slots := 0, locals := 2723 }) (va_Pc [.ref th] (zP D k Γ L F sz)) (va_Qv (fun (u : Nat → va_E) => True) (zQ D k Γ L F [103, 701, 702, 706, 711, 10200, 10600, 10700]) (zA L sz)) 0 0 (zA L sz) := by
  refine Met.ofW (cc := cX7_readTest) (maxL := 2) (ret := none) (by decide) rfl ?_
  intro p e s m args below meth c s₁ B hml hv
  obtain ⟨rfl, hsz, hP, hK, hLn, hE, hI⟩ := hv
  have hx := B.exec
  have hb := B.bytes
  have hr := B.returns
  have hg : ∀ w ∈ zG, w.before _ s = true := fun w h9 => atoms_spec (ws := zwX7_readTest) B.pre w (List.mem_cons_of_mem _ h9)
  have hown : s.vm.findClass RX7 = some m.cls := findClass_of_methodNamed B.named
  have hlocks := B.notSynchronized
  subst hsz
  have Z : zC p m c cX7_readTest 2 s _ zG RX7 D k L := ⟨⟨hx, hb, hml, hown, hg⟩, hK, hLn, hE⟩
  have h : zH D k Γ L s F s.heap [] := ⟨hP, hI, va_S.rf⟩
  have hl := lv_entry ([.ref th]) (n := 2) (Nat.le_of_ble_eq_true rfl)
  rw [lg_entry_eq]
  generalize (lg_sl ([.ref th]) ++ List.replicate (2 - (lg_sl ([.ref th])).length) Slot.unset).toArray = ls at hl ⊢
  have hl : lv_has ls 2 [(0, .ref th)] := hl
  clear hP hK hLn hE hI
  generalize hargs : ([.ref th] : List Value).toArray = args at *
  refine z_start (fun R Q hRf hRl hQ => ?_)
  have hRf : R.frames = 70 := hRf
  have hRl : R.locals = 2723 := hRl
  refine lv_aload_n hx hb dX7_readTest_0 rfl (lv_at hl 0 rfl) ?_
  refine lv_iconst (v := 0) hx hb dX7_readTest_1 (by decide) ?_
  refine zk_Vv (As := [.int 0]) (rest := []) (bytes := cX7_readSum) (maxL := 4) (ret := none) Z h (zs_sum l 6 D k Γ L F s.heap.size th 0 pr tk co  hth (zB.of ⟨by decide, by decide⟩) kpr hpr ktk htk kco hco (by have : (0 : Int32).toInt = 0 := (by decide); omega)) (cwV 1 hg zv_RX7_161 rfl rfl rfl zd_X7_readSum ⟨z_leR hRf (by decide), z_leR hRl (by decide)⟩) hth (by decide) rfl rfl hl.1 rfl (Nat.le_of_ble_eq_true rfl) dX7_readTest_2 ⟨Nat.zero_le _, Nat.zero_le _⟩ (fun F_1 H locs w_2 h hfF_1 => ?_)
  refine lv_aload_n hx hb dX7_readTest_5 rfl (lv_at hl 0 rfl) ?_
  refine zk_Vi (As := []) (rest := []) (bytes := cX7_kind) (maxL := 2) (ret := (some .int)) Z h (zc_X7_kind l D k Γ L F_1 H.size th tk hth (hfF_1.f hth 4 ⟨by decide, by decide⟩ ktk) htk) (cwV 0 hg zv_RX7_65 rfl rfl rfl zd_X7_kind ⟨z_leR hRf (by decide), z_leR hRl (by decide)⟩) hth (by decide) rfl rfl hl.1 rfl (Nat.le_of_ble_eq_true rfl) dX7_readTest_6 ⟨Nat.zero_le _, Nat.zero_le _⟩ (fun r_3 F_4 H locs w_5 h hfF_4 => ?_)
  obtain ⟨rfl, q_6, -⟩ := w_5
  have br_3 := zB.all r_3
  refine lv_istore_n (lv' := [(1, .int r_3), (0, .ref th)]) hx hb dX7_readTest_9 rfl hl (by decide) rfl (fun ls hl => ?_)
  refine lv_iload_n hx hb dX7_readTest_10 rfl (lv_at hl 0 rfl) ?_
  refine lv_bipush (v := 60) hx hb dX7_readTest_11 (by decide) ?_
  refine lv_icmp_eq (tgt := 34) hx hb dX7_readTest_13 (by decide) (fun c_7 => ?_) (fun c_7 => ?_)
  · have c_7 := z_eq c_7
    have br_3_8 : zB 60 60 r_3 := zB.eqL (a := 0) (b := 0) c_7 (zBc 60 60 (by decide))
    have c_9 := z_not0 br_3_8 (by decide)
    obtain ⟨x_10, kx_10, bx_10⟩ := q_6 c_9
    refine lv_aload_n hx hb dX7_readTest_34 rfl (lv_at hl 1 rfl) ?_
    refine lv_dup hx hb dX7_readTest_35 rfl ?_
    refine zt_getk (t := 7) (C := RX7) (T := TX7) (N := 12) Z h hth zin_7 rfl 6 kx_10 ⟨by decide, rfl, by decide⟩ (zm_RX7 (List.mem_of_getElem? (i := 9) rfl)) (fun _ h9 => h9) dX7_readTest_36 ?_
    refine lv_iconst (v := 1) hx hb dX7_readTest_39 (by decide) ?_
    refine lv_iadd hx hb dX7_readTest_40 ?_
    refine zi_add (lo := 1) (hi := 601) bx_10 (zBc 1 1 (by decide)) (by decide) (fun x_11 bx_11 tx_11 => ?_)
    refine zt_put (t := 7) (C := RX7) (T := TX7) (N := 12) (v := .int x_11) Z h hth zin_7 tyX7 tyX7_ok nmX7 rfl 6 rfl ⟨by decide, rfl⟩ (zm_RX7 (List.mem_of_getElem? (i := 9) rfl)) (fun _ h9 => h9) rfl (zV.i (bx_11.w ⟨by decide, by decide⟩)) rfl rfl dX7_readTest_41 (fun H locs F_12 h hfF_12 kF_12 => ?_)
    refine lv_aload_n hx hb dX7_readTest_44 rfl (lv_at hl 1 rfl) ?_
    refine lv_iconst (v := 0) hx hb dX7_readTest_45 (by decide) ?_
    refine zk_Vv (As := [.int 0]) (rest := []) (bytes := cX7_readSum) (maxL := 4) (ret := none) Z h (zs_sum l 6 D k Γ L F_12 H.size th 0 pr tk co  hth (zB.of ⟨by decide, by decide⟩) (hfF_12.f hth 3 ⟨by decide, by decide⟩ (hfF_1.f hth 3 ⟨by decide, by decide⟩ kpr)) hpr (hfF_12.f hth 4 ⟨by decide, by decide⟩ (hfF_1.f hth 4 ⟨by decide, by decide⟩ ktk)) htk (hfF_12.f hth 5 ⟨by decide, by decide⟩ (hfF_1.f hth 5 ⟨by decide, by decide⟩ kco)) hco (by have := br_3_8.1; have := br_3_8.2; have := bx_11.1; have := bx_11.2; have : (0 : Int32).toInt = 0 := (by decide); have : (1 : Int32).toInt = 1 := (by decide); have : (60 : Int32).toInt = 60 := (by decide); omega)) (cwV 1 hg zv_RX7_161 rfl rfl rfl zd_X7_readSum ⟨z_leR hRf (by decide), z_leR hRl (by decide)⟩) hth (by decide) rfl rfl hl.1 rfl (Nat.le_of_ble_eq_true rfl) dX7_readTest_46 ⟨Nat.zero_le _, Nat.zero_le _⟩ (fun F_13 H locs w_14 h hfF_13 => ?_)
    refine lv_aload_n hx hb dX7_readTest_49 rfl (lv_at hl 1 rfl) ?_
    refine zt_getk (t := 7) (C := RX7) (T := TX7) (N := 12) Z h hth zin_7 rfl 5 (hfF_13.f hth 5 ⟨by decide, by decide⟩ (hfF_12.f hth 5 ⟨by decide, by decide⟩ (hfF_1.f hth 5 ⟨by decide, by decide⟩ kco))) ⟨by decide, rfl, by decide⟩ (zm_RX7 (List.mem_of_getElem? (i := 6) rfl)) (fun _ h9 => h9) dX7_readTest_50 ?_
    refine lv_iload_n hx hb dX7_readTest_53 rfl (lv_at hl 0 rfl) ?_
    refine lv_bipush (v := 60) hx hb dX7_readTest_54 (by decide) ?_
    refine lv_icmp_ne (tgt := 64) hx hb dX7_readTest_56 (by decide) (fun c_15 => ?_) (fun c_15 => ?_)
    · have c_15 := z_ne c_15
      exact zB.noNe c_15 br_3_8 (zBc 60 60 (by decide))
    · have c_15 := z_eq c_15
      refine lv_bipush (v := 6) hx hb dX7_readTest_59 (by decide) ?_
      refine lv_goto (tgt := 77) hx hb dX7_readTest_61 (by decide) ?_
      refine lv_iconst (v := 0) hx hb dX7_readTest_77 (by decide) ?_
      refine lv_iconst (v := 0) hx hb dX7_readTest_78 (by decide) ?_
      refine zk_Vi (As := [.int 6, .int 0, .int 0]) (rest := []) (bytes := cX1_add) (maxL := 4) (ret := (some .int)) Z h (zc_X1_add l D k Γ L F_13 H.size co 6 0 0 hco) (cwV 3 hg zv_RX7_117 rfl rfl rfl zd_X1_add ⟨z_leR hRf (by decide), z_leR hRl (by decide)⟩) hco (by decide) rfl rfl hl.1 rfl (Nat.le_of_ble_eq_true rfl) dX7_readTest_79 ⟨Nat.zero_le _, Nat.zero_le _⟩ (fun r_16 F_17 H locs w_18 h hfF_17 => ?_)
      obtain ⟨br_16, -⟩ := w_18
      refine lv_pop hx hb dX7_readTest_82 rfl ?_
      subst hQ
      exact W.vret hx hb hr (fun t ht hW => ⟨⟨F_17, rfl, trivial, by rw [ht]; exact h.1, h.2.1, (((hfF_1.trans hfF_12 (by decide)).trans hfF_13 (by decide)).trans hfF_17 (by decide))⟩, h.2.2.F ht⟩) h.2.2.2.2 dX7_readTest_83
  · have c_7 := z_ne c_7
    refine lv_iload_n hx hb dX7_readTest_16 rfl (lv_at hl 0 rfl) ?_
    refine lv_bipush (v := 62) hx hb dX7_readTest_17 (by decide) ?_
    refine lv_icmp_eq (tgt := 34) hx hb dX7_readTest_19 (by decide) (fun c_19 => ?_) (fun c_19 => ?_)
    · have c_19 := z_eq c_19
      have br_3_20 : zB 62 62 r_3 := zB.eqL (a := 0) (b := 0) c_19 (zBc 62 62 (by decide))
      have c_21 := z_not0 br_3_20 (by decide)
      obtain ⟨x_22, kx_22, bx_22⟩ := q_6 c_21
      refine lv_aload_n hx hb dX7_readTest_34 rfl (lv_at hl 1 rfl) ?_
      refine lv_dup hx hb dX7_readTest_35 rfl ?_
      refine zt_getk (t := 7) (C := RX7) (T := TX7) (N := 12) Z h hth zin_7 rfl 6 kx_22 ⟨by decide, rfl, by decide⟩ (zm_RX7 (List.mem_of_getElem? (i := 9) rfl)) (fun _ h9 => h9) dX7_readTest_36 ?_
      refine lv_iconst (v := 1) hx hb dX7_readTest_39 (by decide) ?_
      refine lv_iadd hx hb dX7_readTest_40 ?_
      refine zi_add (lo := 1) (hi := 601) bx_22 (zBc 1 1 (by decide)) (by decide) (fun x_23 bx_23 tx_23 => ?_)
      refine zt_put (t := 7) (C := RX7) (T := TX7) (N := 12) (v := .int x_23) Z h hth zin_7 tyX7 tyX7_ok nmX7 rfl 6 rfl ⟨by decide, rfl⟩ (zm_RX7 (List.mem_of_getElem? (i := 9) rfl)) (fun _ h9 => h9) rfl (zV.i (bx_23.w ⟨by decide, by decide⟩)) rfl rfl dX7_readTest_41 (fun H locs F_24 h hfF_24 kF_24 => ?_)
      refine lv_aload_n hx hb dX7_readTest_44 rfl (lv_at hl 1 rfl) ?_
      refine lv_iconst (v := 0) hx hb dX7_readTest_45 (by decide) ?_
      refine zk_Vv (As := [.int 0]) (rest := []) (bytes := cX7_readSum) (maxL := 4) (ret := none) Z h (zs_sum l 6 D k Γ L F_24 H.size th 0 pr tk co  hth (zB.of ⟨by decide, by decide⟩) (hfF_24.f hth 3 ⟨by decide, by decide⟩ (hfF_1.f hth 3 ⟨by decide, by decide⟩ kpr)) hpr (hfF_24.f hth 4 ⟨by decide, by decide⟩ (hfF_1.f hth 4 ⟨by decide, by decide⟩ ktk)) htk (hfF_24.f hth 5 ⟨by decide, by decide⟩ (hfF_1.f hth 5 ⟨by decide, by decide⟩ kco)) hco (by have := br_3_20.1; have := br_3_20.2; have := bx_23.1; have := bx_23.2; have : (0 : Int32).toInt = 0 := (by decide); have : (1 : Int32).toInt = 1 := (by decide); have : (60 : Int32).toInt = 60 := (by decide); have : (62 : Int32).toInt = 62 := (by decide); omega)) (cwV 1 hg zv_RX7_161 rfl rfl rfl zd_X7_readSum ⟨z_leR hRf (by decide), z_leR hRl (by decide)⟩) hth (by decide) rfl rfl hl.1 rfl (Nat.le_of_ble_eq_true rfl) dX7_readTest_46 ⟨Nat.zero_le _, Nat.zero_le _⟩ (fun F_25 H locs w_26 h hfF_25 => ?_)
      refine lv_aload_n hx hb dX7_readTest_49 rfl (lv_at hl 1 rfl) ?_
      refine zt_getk (t := 7) (C := RX7) (T := TX7) (N := 12) Z h hth zin_7 rfl 5 (hfF_25.f hth 5 ⟨by decide, by decide⟩ (hfF_24.f hth 5 ⟨by decide, by decide⟩ (hfF_1.f hth 5 ⟨by decide, by decide⟩ kco))) ⟨by decide, rfl, by decide⟩ (zm_RX7 (List.mem_of_getElem? (i := 6) rfl)) (fun _ h9 => h9) dX7_readTest_50 ?_
      refine lv_iload_n hx hb dX7_readTest_53 rfl (lv_at hl 0 rfl) ?_
      refine lv_bipush (v := 60) hx hb dX7_readTest_54 (by decide) ?_
      refine lv_icmp_ne (tgt := 64) hx hb dX7_readTest_56 (by decide) (fun c_27 => ?_) (fun c_27 => ?_)
      · have c_27 := z_ne c_27
        refine lv_iload_n hx hb dX7_readTest_64 rfl (lv_at hl 0 rfl) ?_
        refine lv_bipush (v := 62) hx hb dX7_readTest_65 (by decide) ?_
        refine lv_icmp_ne (tgt := 75) hx hb dX7_readTest_67 (by decide) (fun c_28 => ?_) (fun c_28 => ?_)
        · have c_28 := z_ne c_28
          exact zB.noNe c_28 br_3_20 (zBc 62 62 (by decide))
        · have c_28 := z_eq c_28
          refine lv_bipush (v := 7) hx hb dX7_readTest_70 (by decide) ?_
          refine lv_goto (tgt := 77) hx hb dX7_readTest_72 (by decide) ?_
          refine lv_iconst (v := 0) hx hb dX7_readTest_77 (by decide) ?_
          refine lv_iconst (v := 0) hx hb dX7_readTest_78 (by decide) ?_
          refine zk_Vi (As := [.int 7, .int 0, .int 0]) (rest := []) (bytes := cX1_add) (maxL := 4) (ret := (some .int)) Z h (zc_X1_add l D k Γ L F_25 H.size co 7 0 0 hco) (cwV 3 hg zv_RX7_117 rfl rfl rfl zd_X1_add ⟨z_leR hRf (by decide), z_leR hRl (by decide)⟩) hco (by decide) rfl rfl hl.1 rfl (Nat.le_of_ble_eq_true rfl) dX7_readTest_79 ⟨Nat.zero_le _, Nat.zero_le _⟩ (fun r_29 F_30 H locs w_31 h hfF_30 => ?_)
          obtain ⟨br_29, -⟩ := w_31
          refine lv_pop hx hb dX7_readTest_82 rfl ?_
          subst hQ
          exact W.vret hx hb hr (fun t ht hW => ⟨⟨F_30, rfl, trivial, by rw [ht]; exact h.1, h.2.1, (((hfF_1.trans hfF_24 (by decide)).trans hfF_25 (by decide)).trans hfF_30 (by decide))⟩, h.2.2.F ht⟩) h.2.2.2.2 dX7_readTest_83
      · have c_27 := z_eq c_27
        exact zB.noEq c_27 br_3_20 (zBc 60 60 (by decide)) (by decide)
    · have c_19 := z_ne c_19
      refine lv_iload_n hx hb dX7_readTest_22 rfl (lv_at hl 0 rfl) ?_
      refine lv_bipush (v := 61) hx hb dX7_readTest_23 (by decide) ?_
      refine lv_icmp_eq (tgt := 34) hx hb dX7_readTest_25 (by decide) (fun c_32 => ?_) (fun c_32 => ?_)
      · have c_32 := z_eq c_32
        have br_3_33 : zB 61 61 r_3 := zB.eqL (a := 0) (b := 0) c_32 (zBc 61 61 (by decide))
        have c_34 := z_not0 br_3_33 (by decide)
        obtain ⟨x_35, kx_35, bx_35⟩ := q_6 c_34
        refine lv_aload_n hx hb dX7_readTest_34 rfl (lv_at hl 1 rfl) ?_
        refine lv_dup hx hb dX7_readTest_35 rfl ?_
        refine zt_getk (t := 7) (C := RX7) (T := TX7) (N := 12) Z h hth zin_7 rfl 6 kx_35 ⟨by decide, rfl, by decide⟩ (zm_RX7 (List.mem_of_getElem? (i := 9) rfl)) (fun _ h9 => h9) dX7_readTest_36 ?_
        refine lv_iconst (v := 1) hx hb dX7_readTest_39 (by decide) ?_
        refine lv_iadd hx hb dX7_readTest_40 ?_
        refine zi_add (lo := 1) (hi := 601) bx_35 (zBc 1 1 (by decide)) (by decide) (fun x_36 bx_36 tx_36 => ?_)
        refine zt_put (t := 7) (C := RX7) (T := TX7) (N := 12) (v := .int x_36) Z h hth zin_7 tyX7 tyX7_ok nmX7 rfl 6 rfl ⟨by decide, rfl⟩ (zm_RX7 (List.mem_of_getElem? (i := 9) rfl)) (fun _ h9 => h9) rfl (zV.i (bx_36.w ⟨by decide, by decide⟩)) rfl rfl dX7_readTest_41 (fun H locs F_37 h hfF_37 kF_37 => ?_)
        refine lv_aload_n hx hb dX7_readTest_44 rfl (lv_at hl 1 rfl) ?_
        refine lv_iconst (v := 0) hx hb dX7_readTest_45 (by decide) ?_
        refine zk_Vv (As := [.int 0]) (rest := []) (bytes := cX7_readSum) (maxL := 4) (ret := none) Z h (zs_sum l 6 D k Γ L F_37 H.size th 0 pr tk co  hth (zB.of ⟨by decide, by decide⟩) (hfF_37.f hth 3 ⟨by decide, by decide⟩ (hfF_1.f hth 3 ⟨by decide, by decide⟩ kpr)) hpr (hfF_37.f hth 4 ⟨by decide, by decide⟩ (hfF_1.f hth 4 ⟨by decide, by decide⟩ ktk)) htk (hfF_37.f hth 5 ⟨by decide, by decide⟩ (hfF_1.f hth 5 ⟨by decide, by decide⟩ kco)) hco (by have := br_3_33.1; have := br_3_33.2; have := bx_36.1; have := bx_36.2; have : (0 : Int32).toInt = 0 := (by decide); have : (1 : Int32).toInt = 1 := (by decide); have : (60 : Int32).toInt = 60 := (by decide); have : (61 : Int32).toInt = 61 := (by decide); have : (62 : Int32).toInt = 62 := (by decide); omega)) (cwV 1 hg zv_RX7_161 rfl rfl rfl zd_X7_readSum ⟨z_leR hRf (by decide), z_leR hRl (by decide)⟩) hth (by decide) rfl rfl hl.1 rfl (Nat.le_of_ble_eq_true rfl) dX7_readTest_46 ⟨Nat.zero_le _, Nat.zero_le _⟩ (fun F_38 H locs w_39 h hfF_38 => ?_)
        refine lv_aload_n hx hb dX7_readTest_49 rfl (lv_at hl 1 rfl) ?_
        refine zt_getk (t := 7) (C := RX7) (T := TX7) (N := 12) Z h hth zin_7 rfl 5 (hfF_38.f hth 5 ⟨by decide, by decide⟩ (hfF_37.f hth 5 ⟨by decide, by decide⟩ (hfF_1.f hth 5 ⟨by decide, by decide⟩ kco))) ⟨by decide, rfl, by decide⟩ (zm_RX7 (List.mem_of_getElem? (i := 6) rfl)) (fun _ h9 => h9) dX7_readTest_50 ?_
        refine lv_iload_n hx hb dX7_readTest_53 rfl (lv_at hl 0 rfl) ?_
        refine lv_bipush (v := 60) hx hb dX7_readTest_54 (by decide) ?_
        refine lv_icmp_ne (tgt := 64) hx hb dX7_readTest_56 (by decide) (fun c_40 => ?_) (fun c_40 => ?_)
        · have c_40 := z_ne c_40
          refine lv_iload_n hx hb dX7_readTest_64 rfl (lv_at hl 0 rfl) ?_
          refine lv_bipush (v := 62) hx hb dX7_readTest_65 (by decide) ?_
          refine lv_icmp_ne (tgt := 75) hx hb dX7_readTest_67 (by decide) (fun c_41 => ?_) (fun c_41 => ?_)
          · have c_41 := z_ne c_41
            refine lv_bipush (v := 8) hx hb dX7_readTest_75 (by decide) ?_
            refine lv_iconst (v := 0) hx hb dX7_readTest_77 (by decide) ?_
            refine lv_iconst (v := 0) hx hb dX7_readTest_78 (by decide) ?_
            refine zk_Vi (As := [.int 8, .int 0, .int 0]) (rest := []) (bytes := cX1_add) (maxL := 4) (ret := (some .int)) Z h (zc_X1_add l D k Γ L F_38 H.size co 8 0 0 hco) (cwV 3 hg zv_RX7_117 rfl rfl rfl zd_X1_add ⟨z_leR hRf (by decide), z_leR hRl (by decide)⟩) hco (by decide) rfl rfl hl.1 rfl (Nat.le_of_ble_eq_true rfl) dX7_readTest_79 ⟨Nat.zero_le _, Nat.zero_le _⟩ (fun r_42 F_43 H locs w_44 h hfF_43 => ?_)
            obtain ⟨br_42, -⟩ := w_44
            refine lv_pop hx hb dX7_readTest_82 rfl ?_
            subst hQ
            exact W.vret hx hb hr (fun t ht hW => ⟨⟨F_43, rfl, trivial, by rw [ht]; exact h.1, h.2.1, (((hfF_1.trans hfF_37 (by decide)).trans hfF_38 (by decide)).trans hfF_43 (by decide))⟩, h.2.2.F ht⟩) h.2.2.2.2 dX7_readTest_83
          · have c_41 := z_eq c_41
            exact zB.noEq c_41 br_3_33 (zBc 62 62 (by decide)) (by decide)
        · have c_40 := z_eq c_40
          exact zB.noEq c_40 br_3_33 (zBc 60 60 (by decide)) (by decide)
      · have c_32 := z_ne c_32
        refine lv_aload_n hx hb dX7_readTest_28 rfl (lv_at hl 1 rfl) ?_
        refine lv_iconst (v := 1) hx hb dX7_readTest_29 (by decide) ?_
        refine zk_Vv (As := [.int 1]) (rest := []) (bytes := cX7_fail) (maxL := 2) (ret := none) Z h (zc_X7_fail l D k Γ L F_1 H.size th 1 tk hth (hfF_1.f hth 4 ⟨by decide, by decide⟩ ktk) htk) (cwV 1 hg zv_RX7_79 rfl rfl rfl zd_X7_fail ⟨z_leR hRf (by decide), z_leR hRl (by decide)⟩) hth (by decide) rfl rfl hl.1 rfl (Nat.le_of_ble_eq_true rfl) dX7_readTest_30 ⟨Nat.zero_le _, Nat.zero_le _⟩ (fun F_45 H locs w_46 h hfF_45 => ?_)
        subst hQ
        exact W.vret hx hb hr (fun t ht hW => ⟨⟨F_45, rfl, trivial, by rw [ht]; exact h.1, h.2.1, (hfF_1.trans hfF_45 (by decide))⟩, h.2.2.F ht⟩) h.2.2.2.2 dX7_readTest_33
