set_option maxHeartbeats 4000000 in
set_option maxRecDepth 100000 in
theorem ze_X1_has (l : Launch) (D : va_G) (k : Nat → ClassId) (Γ : Nat → Option Nat) (L : List Nat) (F : Nat → va_E) (sz : Nat) (co : Nat) (i : Int32) (cz : Int32) (hco : Γ co = some 1) (kcz : zfld F co 3 = .int cz) (bcz : zB 0 1200 cz) : Met l yX1_has zwX1_has ({ frames := 0, cells := 0, slots := 0, locals := 0 }) (va_Pc [.ref co, .int i] (zP D k Γ L F sz)) (va_Qi (fun (r : Int32) (u : Nat → va_E) => F = u ∧ zB 0 1 r ∧ ((r.toInt = 1 ∧ 0 ≤ i.toInt ∧ i.toInt < cz.toInt ∧ i.toInt < 1200) ∨ (r.toInt = 0 ∧ (i.toInt < 0 ∨ cz.toInt ≤ i.toInt))) ∧ True) (zQ D k Γ L F []) (zA L sz)) 0 0 (zA L sz) := by
  refine Met.ofW (cc := cX1_has) (maxL := 2) (ret := (some .boolean)) (by decide) rfl ?_
  intro p e s m args below meth c s₁ B hml hv
  obtain ⟨rfl, hsz, hP, hK, hLn, hE, hI⟩ := hv
  have hx := B.exec
  have hb := B.bytes
  have hr := B.returns
  have hg : ∀ w ∈ zG, w.before _ s = true := fun w h9 => atoms_spec (ws := zwX1_has) B.pre w (List.mem_cons_of_mem _ h9)
  have hown : s.vm.findClass RX1 = some m.cls := findClass_of_methodNamed B.named
  have hlocks := B.notSynchronized
  subst hsz
  have Z : zC p m c cX1_has 2 s _ zG RX1 D k L := ⟨⟨hx, hb, hml, hown, hg⟩, hK, hLn, hE⟩
  have h : zH D k Γ L s F s.heap [] := ⟨hP, hI, va_S.rf⟩
  have hl := lv_entry ([.ref co, .int i]) (n := 2) (Nat.le_of_ble_eq_true rfl)
  rw [lg_entry_eq]
  generalize (lg_sl ([.ref co, .int i]) ++ List.replicate (2 - (lg_sl ([.ref co, .int i])).length) Slot.unset).toArray = ls at hl ⊢
  have hl : lv_has ls 2 [(0, .ref co), (1, .int i)] := hl
  clear hP hK hLn hE hI
  generalize hargs : ([.ref co, .int i] : List Value).toArray = args at *
  refine z_start (fun R Q hRf hRl hQ => ?_)
  have hRf : R.frames = 0 := hRf
  have hRl : R.locals = 0 := hRl
  have h9 := h
  refine lv_iload_n hx hb dX1_has_0 rfl (lv_at hl 1 rfl) ?_
  refine lv_if_lt (tgt := 25) hx hb dX1_has_1 (by decide) (fun c_1 => ?_) (fun c_1 => ?_)
  · have c_1 := z_lt c_1
    have bi_2 : zB (-2147483648) (-1) i := zB.ltL c_1 (zB.all i) (zBc 0 0 (by decide)) (by decide)
    refine lv_iconst (v := 0) hx hb dX1_has_25 (by decide) ?_
    subst hQ
    exact W.zret (v := 0) hx hb hr (by decide) (fun t ht hW => ⟨⟨0, F, rfl, ⟨rfl, (zB.of ⟨by decide, by decide⟩), (by have := bi_2.1; have := bi_2.2; have := bcz.1; have := bcz.2; have : (0 : Int32).toInt = 0 := (by decide); omega), trivial⟩, by rw [ht]; exact h.1, h.2.1, zFr.rf⟩, h.2.2.F ht⟩) h.2.2.2.2 dX1_has_26
  · have c_1 := z_nlt c_1
    have bi_3 : zB 0 2147483647 i := zB.leR c_1 (zBc 0 0 (by decide)) (zB.all i) (by decide)
    refine lv_iload_n hx hb dX1_has_4 rfl (lv_at hl 1 rfl) ?_
    refine lv_aload_n hx hb dX1_has_5 rfl (lv_at hl 0 rfl) ?_
    refine zt_getk (t := 1) (C := RX1) (T := TX1) (N := 4) Z h hco zin_1 rfl 3 kcz ⟨by decide, rfl, by decide⟩ (zm_RX1 (List.mem_of_getElem? (i := 2) rfl)) (fun _ h9 => h9) dX1_has_6 ?_
    refine lv_icmp_ge (tgt := 25) hx hb dX1_has_9 (by decide) (fun c_4 => ?_) (fun c_4 => ?_)
    · have c_4 := z_le c_4
      refine lv_iconst (v := 0) hx hb dX1_has_25 (by decide) ?_
      subst hQ
      exact W.zret (v := 0) hx hb hr (by decide) (fun t ht hW => ⟨⟨0, F, rfl, ⟨rfl, (zB.of ⟨by decide, by decide⟩), (by have := bi_3.1; have := bi_3.2; have := bcz.1; have := bcz.2; have : (0 : Int32).toInt = 0 := (by decide); omega), trivial⟩, by rw [ht]; exact h.1, h.2.1, zFr.rf⟩, h.2.2.F ht⟩) h.2.2.2.2 dX1_has_26
    · have c_4 := z_nle c_4
      have bi_5 : zB 0 1199 i := zB.ltL c_4 bi_3 bcz (by decide)
      have bcz_6 : zB 1 1200 cz := zB.ltR c_4 bi_3 bcz (by decide)
      refine lv_iload_n hx hb dX1_has_12 rfl (lv_at hl 1 rfl) ?_
      refine lv_aload_n hx hb dX1_has_13 rfl (lv_at hl 0 rfl) ?_
      refine zt_getr (t := 1) (C := RX1) (T := TX1) (N := 4) Z h hco zin_1 rfl 0 rfl ⟨by decide, rfl⟩ (zm_RX1 (List.mem_of_getElem? (i := 4) rfl)) (fun _ h9 => h9) dX1_has_14 (fun a_7 ka_7 ha_7 => ?_)
      refine zt_alen (t := 102) Z h ha_7 ⟨by decide, rfl⟩ (by decide) (v := 1200) rfl dX1_has_17 ?_
      refine lv_icmp_ge (tgt := 25) hx hb dX1_has_18 (by decide) (fun c_8 => ?_) (fun c_8 => ?_)
      · have c_8 := z_le c_8
        exact zB.noLe c_8 (zBc 1200 1200 (by decide)) bi_5 (by decide)
      · have c_8 := z_nle c_8
        refine lv_iconst (v := 1) hx hb dX1_has_21 (by decide) ?_
        refine lv_goto (tgt := 26) hx hb dX1_has_22 (by decide) ?_
        subst hQ
        exact W.zret (v := 1) hx hb hr (by decide) (fun t ht hW => ⟨⟨1, F, rfl, ⟨rfl, (zB.of ⟨by decide, by decide⟩), (by have := bi_5.1; have := bi_5.2; have := bcz_6.1; have := bcz_6.2; have : (0 : Int32).toInt = 0 := (by decide); have : (1 : Int32).toInt = 1 := (by decide); have : (1200 : Int32).toInt = 1200 := (by decide); omega), trivial⟩, by rw [ht]; exact h.1, h.2.1, zFr.rf⟩, h.2.2.F ht⟩) h.2.2.2.2 dX1_has_26

set_option maxHeartbeats 4000000 in
set_option maxRecDepth 100000 in
theorem ze_X1_add (l : Launch) (D : va_G) (k : Nat → ClassId) (Γ : Nat → Option Nat) (L : List Nat) (F : Nat → va_E) (sz : Nat) (co : Nat) (ac : Int32) (nu : Int32) (li : Int32) (cz : Int32) (hco : Γ co = some 1) (kcz : zfld F co 3 = .int cz) (bcz : zB 0 1200 cz) : Met l yX1_add zwX1_add ({ frames := 0, cells := 0, slots := 0, locals := 0 }) (va_Pc [.ref co, .int ac, .int nu, .int li] (zP D k Γ L F sz)) (va_Qi (fun (r : Int32) (u : Nat → va_E) => zB (-1) 1199 r ∧ (∃ (s9 : Int32), zfld u co 3 = .int s9 ∧ zB 0 1200 s9 ∧ ((cz.toInt < 1200 → s9.toInt = cz.toInt + 1 ∧ r.toInt = cz.toInt))) ∧ (cz.toInt < 1200 → zar u co 0 = upd (zar F co 0) cz.toNatClampNeg ac ∧ zar u co 1 = upd (zar F co 1) cz.toNatClampNeg nu ∧ zar u co 2 = upd (zar F co 2) cz.toNatClampNeg li) ∧ True) (zQ D k Γ L F [103, 10200, 15800, 15900]) (zA L sz)) 0 0 (zA L sz) := by
  refine Met.ofW (cc := cX1_add) (maxL := 4) (ret := (some .int)) (by decide) rfl ?_
  intro p e s m args below meth c s₁ B hml hv
  obtain ⟨rfl, hsz, hP, hK, hLn, hE, hI⟩ := hv
  have hx := B.exec
  have hb := B.bytes
  have hr := B.returns
  have hg : ∀ w ∈ zG, w.before _ s = true := fun w h9 => atoms_spec (ws := zwX1_add) B.pre w (List.mem_cons_of_mem _ h9)
  have hown : s.vm.findClass RX1 = some m.cls := findClass_of_methodNamed B.named
  have hlocks := B.notSynchronized
  subst hsz
  have Z : zC p m c cX1_add 4 s _ zG RX1 D k L := ⟨⟨hx, hb, hml, hown, hg⟩, hK, hLn, hE⟩
  have h : zH D k Γ L s F s.heap [] := ⟨hP, hI, va_S.rf⟩
  have hl := lv_entry ([.ref co, .int ac, .int nu, .int li]) (n := 4) (Nat.le_of_ble_eq_true rfl)
  rw [lg_entry_eq]
  generalize (lg_sl ([.ref co, .int ac, .int nu, .int li]) ++ List.replicate (4 - (lg_sl ([.ref co, .int ac, .int nu, .int li])).length) Slot.unset).toArray = ls at hl ⊢
  have hl : lv_has ls 4 [(0, .ref co), (1, .int ac), (2, .int nu), (3, .int li)] := hl
  clear hP hK hLn hE hI
  generalize hargs : ([.ref co, .int ac, .int nu, .int li] : List Value).toArray = args at *
  refine z_start (fun R Q hRf hRl hQ => ?_)
  have hRf : R.frames = 0 := hRf
  have hRl : R.locals = 0 := hRl
  have h9 := h
  have ad_1 := z_ad (j := 0) (c := 102) h.2.1 hco (by decide) rfl
  have ad_2 := z_ad (j := 1) (c := 158) h.2.1 hco (by decide) rfl
  have ad_3 := z_ad (j := 2) (c := 159) h.2.1 hco (by decide) rfl
  refine lv_aload_n hx hb dX1_add_0 rfl (lv_at hl 0 rfl) ?_
  refine zt_getk (t := 1) (C := RX1) (T := TX1) (N := 4) Z h hco zin_1 rfl 3 kcz ⟨by decide, rfl, by decide⟩ (zm_RX1 (List.mem_of_getElem? (i := 2) rfl)) (fun _ h9 => h9) dX1_add_1 ?_
  refine lv_aload_n hx hb dX1_add_4 rfl (lv_at hl 0 rfl) ?_
  refine zt_getr (t := 1) (C := RX1) (T := TX1) (N := 4) Z h hco zin_1 rfl 0 rfl ⟨by decide, rfl⟩ (zm_RX1 (List.mem_of_getElem? (i := 4) rfl)) (fun _ h9 => h9) dX1_add_5 (fun a_4 ka_4 ha_4 => ?_)
  refine zt_alen (t := 102) Z h ha_4 ⟨by decide, rfl⟩ (by decide) (v := 1200) rfl dX1_add_8 ?_
  refine lv_icmp_lt (tgt := 14) hx hb dX1_add_9 (by decide) (fun c_5 => ?_) (fun c_5 => ?_)
  · have c_5 := z_lt c_5
    have bcz_6 : zB 0 1199 cz := zB.ltL c_5 bcz (zBc 1200 1200 (by decide)) (by decide)
    refine lv_aload_n hx hb dX1_add_14 rfl (lv_at hl 0 rfl) ?_
    refine zt_getk (t := 1) (C := RX1) (T := TX1) (N := 4) Z h hco zin_1 rfl 0 ka_4 ⟨by decide, rfl, by decide⟩ (zm_RX1 (List.mem_of_getElem? (i := 4) rfl)) (fun _ h9 => h9) dX1_add_15 ?_
    refine lv_aload_n hx hb dX1_add_18 rfl (lv_at hl 0 rfl) ?_
    refine zt_getk (t := 1) (C := RX1) (T := TX1) (N := 4) Z h hco zin_1 rfl 3 kcz ⟨by decide, rfl, by decide⟩ (zm_RX1 (List.mem_of_getElem? (i := 2) rfl)) (fun _ h9 => h9) dX1_add_19 ?_
    refine lv_iload_n hx hb dX1_add_22 rfl (lv_at hl 1 rfl) ?_
    refine zt_iaste (t := 102) Z h ha_4 ⟨by decide, rfl⟩ bcz_6 ⟨by decide, by decide⟩ (zB.all ac) dX1_add_23 (fun H locs F_7 h hfF_7 eF_7 gF_7 => ?_)
    have uF_7 := (zar_st ka_4 (hfF_7.f hco 0 ⟨by decide, by decide⟩ ka_4) eF_7 gF_7).trans (congrArg (fun z => upd z (Int32.toNatClampNeg cz) ac) (rfl : zar F co 0 = (zar F co 0)))
    refine lv_aload_n hx hb dX1_add_24 rfl (lv_at hl 0 rfl) ?_
    refine zt_getr (t := 1) (C := RX1) (T := TX1) (N := 4) Z h hco zin_1 rfl 1 rfl ⟨by decide, rfl⟩ (zm_RX1 (List.mem_of_getElem? (i := 5) rfl)) (fun _ h9 => h9) dX1_add_25 (fun a_8 ka_8 ha_8 => ?_)
    refine lv_aload_n hx hb dX1_add_28 rfl (lv_at hl 0 rfl) ?_
    refine zt_getk (t := 1) (C := RX1) (T := TX1) (N := 4) Z h hco zin_1 rfl 3 (hfF_7.f hco 3 ⟨by decide, by decide⟩ kcz) ⟨by decide, rfl, by decide⟩ (zm_RX1 (List.mem_of_getElem? (i := 2) rfl)) (fun _ h9 => h9) dX1_add_29 ?_
    refine lv_iload_n hx hb dX1_add_32 rfl (lv_at hl 2 rfl) ?_
    have ar_10 : zar F_7 co 1 = (zar F co 1) := ((ad_2.ar hfF_7 hco ⟨by decide, by decide⟩ ⟨by decide, by decide⟩).trans rfl)
    refine zt_iaste (t := 158) Z h ha_8 ⟨by decide, rfl⟩ bcz_6 ⟨by decide, by decide⟩ (zB.all nu) dX1_add_33 (fun H locs F_9 h hfF_9 eF_9 gF_9 => ?_)
    have uF_9 := (zar_st ka_8 (hfF_9.f hco 1 ⟨by decide, by decide⟩ ka_8) eF_9 gF_9).trans (congrArg (fun z => upd z (Int32.toNatClampNeg cz) nu) ar_10)
    refine lv_aload_n hx hb dX1_add_34 rfl (lv_at hl 0 rfl) ?_
    refine zt_getr (t := 1) (C := RX1) (T := TX1) (N := 4) Z h hco zin_1 rfl 2 rfl ⟨by decide, rfl⟩ (zm_RX1 (List.mem_of_getElem? (i := 6) rfl)) (fun _ h9 => h9) dX1_add_35 (fun a_11 ka_11 ha_11 => ?_)
    refine lv_aload_n hx hb dX1_add_38 rfl (lv_at hl 0 rfl) ?_
    refine zt_getk (t := 1) (C := RX1) (T := TX1) (N := 4) Z h hco zin_1 rfl 3 (hfF_9.f hco 3 ⟨by decide, by decide⟩ (hfF_7.f hco 3 ⟨by decide, by decide⟩ kcz)) ⟨by decide, rfl, by decide⟩ (zm_RX1 (List.mem_of_getElem? (i := 2) rfl)) (fun _ h9 => h9) dX1_add_39 ?_
    refine lv_iload_n hx hb dX1_add_42 rfl (lv_at hl 3 rfl) ?_
    have ad_13 := ad_3.fr hfF_7 hco ⟨by decide, by decide⟩
    have ar_14 : zar F_9 co 2 = (zar F co 2) := ((ad_13.ar hfF_9 hco ⟨by decide, by decide⟩ ⟨by decide, by decide⟩).trans ((ad_3.ar hfF_7 hco ⟨by decide, by decide⟩ ⟨by decide, by decide⟩).trans rfl))
    refine zt_iaste (t := 159) Z h ha_11 ⟨by decide, rfl⟩ bcz_6 ⟨by decide, by decide⟩ (zB.all li) dX1_add_43 (fun H locs F_12 h hfF_12 eF_12 gF_12 => ?_)
    have uF_12 := (zar_st ka_11 (hfF_12.f hco 2 ⟨by decide, by decide⟩ ka_11) eF_12 gF_12).trans (congrArg (fun z => upd z (Int32.toNatClampNeg cz) li) ar_14)
    refine lv_aload_n hx hb dX1_add_44 rfl (lv_at hl 0 rfl) ?_
    refine lv_dup hx hb dX1_add_45 rfl ?_
    refine zt_getk (t := 1) (C := RX1) (T := TX1) (N := 4) Z h hco zin_1 rfl 3 (hfF_12.f hco 3 ⟨by decide, by decide⟩ (hfF_9.f hco 3 ⟨by decide, by decide⟩ (hfF_7.f hco 3 ⟨by decide, by decide⟩ kcz))) ⟨by decide, rfl, by decide⟩ (zm_RX1 (List.mem_of_getElem? (i := 2) rfl)) (fun _ h9 => h9) dX1_add_46 ?_
    refine lv_iconst (v := 1) hx hb dX1_add_49 (by decide) ?_
    refine lv_iadd hx hb dX1_add_50 ?_
    refine zi_add (lo := 1) (hi := 1200) bcz_6 (zBc 1 1 (by decide)) (by decide) (fun x_15 bx_15 tx_15 => ?_)
    refine zt_put (t := 1) (C := RX1) (T := TX1) (N := 4) (v := .int x_15) Z h hco zin_1 tyX1 tyX1_ok nmX1 rfl 3 rfl ⟨by decide, rfl⟩ (zm_RX1 (List.mem_of_getElem? (i := 2) rfl)) (fun _ h9 => h9) rfl (zV.i (bx_15.w ⟨by decide, by decide⟩)) rfl rfl dX1_add_51 (fun H locs F_16 h hfF_16 kF_16 => ?_)
    refine lv_aload_n hx hb dX1_add_54 rfl (lv_at hl 0 rfl) ?_
    refine zt_getk (t := 1) (C := RX1) (T := TX1) (N := 4) Z h hco zin_1 rfl 3 kF_16 ⟨by decide, rfl, by decide⟩ (zm_RX1 (List.mem_of_getElem? (i := 2) rfl)) (fun _ h9 => h9) dX1_add_55 ?_
    refine lv_iconst (v := 1) hx hb dX1_add_58 (by decide) ?_
    refine lv_isub hx hb dX1_add_59 ?_
    refine zi_sub (lo := 0) (hi := 1199) bx_15 (zBc 1 1 (by decide)) (by decide) (fun x_17 bx_17 tx_17 => ?_)
    have ad_18 := ad_1.fr hfF_7 hco ⟨by decide, by decide⟩
    have ad_19 := ad_18.fr hfF_9 hco ⟨by decide, by decide⟩
    have ad_20 := ad_19.fr hfF_12 hco ⟨by decide, by decide⟩
    have ar_21 : zar F_16 co 0 = (upd (zar F co 0) (Int32.toNatClampNeg cz) ac) := ((ad_20.ar hfF_16 hco ⟨by decide, by decide⟩ ⟨by decide, by decide⟩).trans ((ad_19.ar hfF_12 hco ⟨by decide, by decide⟩ ⟨by decide, by decide⟩).trans ((ad_18.ar hfF_9 hco ⟨by decide, by decide⟩ ⟨by decide, by decide⟩).trans uF_7)))
    have ad_22 := ad_2.fr hfF_7 hco ⟨by decide, by decide⟩
    have ad_23 := ad_22.fr hfF_9 hco ⟨by decide, by decide⟩
    have ad_24 := ad_23.fr hfF_12 hco ⟨by decide, by decide⟩
    have ar_25 : zar F_16 co 1 = (upd (zar F co 1) (Int32.toNatClampNeg cz) nu) := ((ad_24.ar hfF_16 hco ⟨by decide, by decide⟩ ⟨by decide, by decide⟩).trans ((ad_23.ar hfF_12 hco ⟨by decide, by decide⟩ ⟨by decide, by decide⟩).trans uF_9))
    have ad_26 := ad_13.fr hfF_9 hco ⟨by decide, by decide⟩
    have ad_27 := ad_26.fr hfF_12 hco ⟨by decide, by decide⟩
    have ar_28 : zar F_16 co 2 = (upd (zar F co 2) (Int32.toNatClampNeg cz) li) := ((ad_27.ar hfF_16 hco ⟨by decide, by decide⟩ ⟨by decide, by decide⟩).trans uF_12)
    subst hQ
    exact W.iret (v := x_17) hx hb hr (fun t ht hW => ⟨⟨x_17, F_16, rfl, ⟨(bx_17.w ⟨by decide, by decide⟩), ⟨x_15, kF_16, (bx_15.w ⟨by decide, by decide⟩), (by have := (zB.all ac).1; have := (zB.all ac).2; have := (zB.all nu).1; have := (zB.all nu).2; have := (zB.all li).1; have := (zB.all li).2; have := bx_17.1; have := bx_17.2; have := bx_15.1; have := bx_15.2; have := bcz_6.1; have := bcz_6.2; have : (1 : Int32).toInt = 1 := (by decide); have : (1200 : Int32).toInt = 1200 := (by decide); omega)⟩, (fun _ => ⟨ar_21, ar_25, ar_28⟩), trivial⟩, by rw [ht]; exact h.1, h.2.1, ((((hfF_7.w (by decide)).trans hfF_9 (by decide)).trans hfF_12 (by decide)).trans hfF_16 (by decide))⟩, h.2.2.F ht⟩) h.2.2.2.2 dX1_add_60
  · have c_5 := z_nlt c_5
    have bcz_29 : zB 1200 1200 cz := zB.leR c_5 (zBc 1200 1200 (by decide)) bcz (by decide)
    refine lv_iconst (v := (-1)) hx hb dX1_add_12 (by decide) ?_
    subst hQ
    exact W.iret (v := (-1)) hx hb hr (fun t ht hW => ⟨⟨(-1), F, rfl, ⟨(zB.of ⟨by decide, by decide⟩), ⟨cz, kcz, (bcz_29.w ⟨by decide, by decide⟩), (by have := (zB.all ac).1; have := (zB.all ac).2; have := (zB.all nu).1; have := (zB.all nu).2; have := (zB.all li).1; have := (zB.all li).2; have := bcz_29.1; have := bcz_29.2; have : ((-1) : Int32).toInt = (-1) := (by decide); have : (1200 : Int32).toInt = 1200 := (by decide); omega)⟩, (fun h9 => by exfalso; have := (zB.all ac).1; have := (zB.all ac).2; have := (zB.all nu).1; have := (zB.all nu).2; have := (zB.all li).1; have := (zB.all li).2; have := bcz_29.1; have := bcz_29.2; have : ((-1) : Int32).toInt = (-1) := (by decide); have : (1200 : Int32).toInt = 1200 := (by decide); omega), trivial⟩, by rw [ht]; exact h.1, h.2.1, zFr.rf⟩, h.2.2.F ht⟩) h.2.2.2.2 dX1_add_13

set_option maxHeartbeats 4000000 in
set_option maxRecDepth 100000 in
theorem ze_X1_setNumber (l : Launch) (D : va_G) (k : Nat → ClassId) (Γ : Nat → Option Nat) (L : List Nat) (F : Nat → va_E) (sz : Nat) (co : Nat) (q : Int32) (nu : Int32) (cz : Int32) (hco : Γ co = some 1) (kcz : zfld F co 3 = .int cz) (bcz : zB 0 1200 cz) : Met l yX1_setNumber zwX1_setNumber ({ frames := 1, cells := 0, slots := 0, locals := 21 }) (va_Pc [.ref co, .int q, .int nu] (zP D k Γ L F sz)) (va_Qv (fun (u : Nat → va_E) => (0 ≤ q.toInt ∧ q.toInt < cz.toInt → zar u co 1 = upd (zar F co 1) q.toNatClampNeg nu) ∧ True) (zQ D k Γ L F [15800]) (zA L sz)) 0 0 (zA L sz) := by
  refine Met.ofW (cc := cX1_setNumber) (maxL := 3) (ret := none) (by decide) rfl ?_
  intro p e s m args below meth c s₁ B hml hv
  obtain ⟨rfl, hsz, hP, hK, hLn, hE, hI⟩ := hv
  have hx := B.exec
  have hb := B.bytes
  have hr := B.returns
  have hg : ∀ w ∈ zG, w.before _ s = true := fun w h9 => atoms_spec (ws := zwX1_setNumber) B.pre w (List.mem_cons_of_mem _ h9)
  have hown : s.vm.findClass RX1 = some m.cls := findClass_of_methodNamed B.named
  have hlocks := B.notSynchronized
  subst hsz
  have Z : zC p m c cX1_setNumber 3 s _ zG RX1 D k L := ⟨⟨hx, hb, hml, hown, hg⟩, hK, hLn, hE⟩
  have h : zH D k Γ L s F s.heap [] := ⟨hP, hI, va_S.rf⟩
  have hl := lv_entry ([.ref co, .int q, .int nu]) (n := 3) (Nat.le_of_ble_eq_true rfl)
  rw [lg_entry_eq]
  generalize (lg_sl ([.ref co, .int q, .int nu]) ++ List.replicate (3 - (lg_sl ([.ref co, .int q, .int nu])).length) Slot.unset).toArray = ls at hl ⊢
  have hl : lv_has ls 3 [(0, .ref co), (1, .int q), (2, .int nu)] := hl
  clear hP hK hLn hE hI
  generalize hargs : ([.ref co, .int q, .int nu] : List Value).toArray = args at *
  refine z_start (fun R Q hRf hRl hQ => ?_)
  have hRf : R.frames = 1 := hRf
  have hRl : R.locals = 21 := hRl
  have h9 := h
  have ad_1 := z_ad (j := 1) (c := 158) h.2.1 hco (by decide) rfl
  refine lv_aload_n hx hb dX1_setNumber_0 rfl (lv_at hl 0 rfl) ?_
  refine lv_iload_n hx hb dX1_setNumber_1 rfl (lv_at hl 1 rfl) ?_
  refine zk_Vi (As := [.int q]) (rest := []) (bytes := cX1_has) (maxL := 2) (ret := (some .boolean)) Z h (ze_X1_has l D k Γ L F s.heap.size co q cz hco kcz bcz) (cwV 1 hg zv_RX1_25 rfl rfl rfl zd_X1_has ⟨z_leR hRf (by decide), z_leR hRl (by decide)⟩) hco (by decide) rfl rfl hl.1 rfl (Nat.le_of_ble_eq_true rfl) dX1_setNumber_2 ⟨Nat.zero_le _, Nat.zero_le _⟩ (fun r_2 F_3 H locs w_4 h hfF_3 => ?_)
  obtain ⟨rfl, br_2, q_5, -⟩ := w_4
  refine lv_if_eq (tgt := 15) hx hb dX1_setNumber_5 (by decide) (fun c_6 => ?_) (fun c_6 => ?_)
  · have c_6 := z_eq c_6
    have br_2_7 : zB 0 0 r_2 := zB.eqL (a := 0) (b := 0) c_6 (zBc 0 0 (by decide))
    subst hQ
    exact W.vret hx hb hr (fun t ht hW => ⟨⟨F, rfl, ⟨(fun h9 => by exfalso; rcases q_5 with ⟨g1, g2⟩ | ⟨g1, g2⟩ <;> (have := (zB.all q).1; have := (zB.all q).2; have := (zB.all nu).1; have := (zB.all nu).2; have := bcz.1; have := bcz.2; have : (0 : Int32).toInt = 0 := (by decide); omega)), trivial⟩, by rw [ht]; exact h.1, h.2.1, zFr.rf⟩, h.2.2.F ht⟩) h.2.2.2.2 dX1_setNumber_15
  · have c_6 := z_ne c_6
    have br_2_8 : zB 1 1 r_2 := zB.neLo c_6 br_2 (zBc 0 0 (by decide)) (by decide)
    have hs_9 : 0 ≤ q.toInt ∧ q.toInt < 1200 := by rcases q_5 with ⟨g1, g2⟩ | ⟨g1, g2⟩ <;> (have := (zB.all q).1; have := (zB.all q).2; have := (zB.all nu).1; have := (zB.all nu).2; have := bcz.1; have := bcz.2; have : (0 : Int32).toInt = 0 := (by decide); omega)
    have bq9_ : zB 0 1199 q := ⟨by omega, by omega⟩
    refine lv_aload_n hx hb dX1_setNumber_8 rfl (lv_at hl 0 rfl) ?_
    refine zt_getr (t := 1) (C := RX1) (T := TX1) (N := 4) Z h hco zin_1 rfl 1 rfl ⟨by decide, rfl⟩ (zm_RX1 (List.mem_of_getElem? (i := 5) rfl)) (fun _ h9 => h9) dX1_setNumber_9 (fun a_10 ka_10 ha_10 => ?_)
    refine lv_iload_n hx hb dX1_setNumber_12 rfl (lv_at hl 1 rfl) ?_
    refine lv_iload_n hx hb dX1_setNumber_13 rfl (lv_at hl 2 rfl) ?_
    refine zt_iaste (t := 158) Z h ha_10 ⟨by decide, rfl⟩ bq9_ ⟨by decide, by decide⟩ (zB.all nu) dX1_setNumber_14 (fun H locs F_11 h hfF_11 eF_11 gF_11 => ?_)
    have uF_11 := (zar_st ka_10 (hfF_11.f hco 1 ⟨by decide, by decide⟩ ka_10) eF_11 gF_11).trans (congrArg (fun z => upd z (Int32.toNatClampNeg q) nu) (rfl : zar F co 1 = (zar F co 1)))
    subst hQ
    exact W.vret hx hb hr (fun t ht hW => ⟨⟨F_11, rfl, ⟨(fun _ => uF_11), trivial⟩, by rw [ht]; exact h.1, h.2.1, hfF_11⟩, h.2.2.F ht⟩) h.2.2.2.2 dX1_setNumber_15
