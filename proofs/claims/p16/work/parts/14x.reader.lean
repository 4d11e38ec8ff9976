set_option maxHeartbeats 4000000 in
set_option maxRecDepth 100000 in
theorem ze_X7_kind (l : Launch) (D : va_G) (k : Nat → ClassId) (Γ : Nat → Option Nat) (L : List Nat) (F : Nat → va_E) (sz : Nat) (th : Nat) (tk : Nat) (Bt : Nat → Int32) (nt : Nat) (Nt : Nat) (σ : zSg) (hth : Γ th = some 7) (ktk : zfld F th 4 = .ref tk) (htk : Γ tk = some 8) (p_tb : zTb Γ F tk Bt nt Nt) (p_au : zC1 F th Nt (σ)) : Met l yX7_kind zwX7_kind ({ frames := 0, cells := 0, slots := 0, locals := 0 }) (va_Pc [.ref th] (zP D k Γ L F sz)) (va_Qi (fun (r : Int32) (u : Nat → va_E) => F = u ∧ r.toInt = zkd (zTo Bt nt) Nt σ ∧ True) (zQ D k Γ L F []) (zA L sz)) 0 0 (zA L sz) := by
  refine Met.ofW (cc := cX7_kind) (maxL := 2) (ret := (some .int)) (by decide) rfl ?_
  intro p e s m args below meth c s₁ B hml hv
  obtain ⟨rfl, hsz, hP, hK, hLn, hE, hI⟩ := hv
  have hx := B.exec
  have hb := B.bytes
  have hr := B.returns
  have hg : ∀ w ∈ zG, w.before _ s = true := fun w h9 => atoms_spec (ws := zwX7_kind) B.pre w (List.mem_cons_of_mem _ h9)
  have hown : s.vm.findClass RX7 = some m.cls := findClass_of_methodNamed B.named
  have hlocks := B.notSynchronized
  subst hsz
  have Z : zC p m c cX7_kind 2 s _ zG RX7 D k L := ⟨⟨hx, hb, hml, hown, hg⟩, hK, hLn, hE⟩
  have h : zH D k Γ L s F s.heap [] := ⟨hP, hI, va_S.rf⟩
  have hl := lv_entry ([.ref th]) (n := 2) (Nat.le_of_ble_eq_true rfl)
  rw [lg_entry_eq]
  generalize (lg_sl ([.ref th]) ++ List.replicate (2 - (lg_sl ([.ref th])).length) Slot.unset).toArray = ls at hl ⊢
  have hl : lv_has ls 2 [(0, .ref th)] := hl
  clear hP hK hLn hE hI
  generalize hargs : ([.ref th] : List Value).toArray = args at *
  refine z_start (fun R Q hRf hRl hQ => ?_)
  have hRf : R.frames = 0 := hRf
  have hRl : R.locals = 0 := hRl
  have h9 := h
  have hLs_ := p_tb.2.2.2.1
  obtain ⟨sz_, ksz_, tsz_⟩ := p_tb.2.2.1
  have bsz_ : zB 1 601 sz_ := ⟨by have := hLs_.1; omega, by have := hLs_.2.1; omega⟩
  obtain ⟨⟨x_1, kx_1, nx_1⟩, ⟨x_2, kx_2, nx_2⟩, ox_1⟩ := id p_au
  have gx_1 := zC1.nx p_au hLs_.1 kx_1
  have bx_1 : zB 0 600 x_1 := ⟨by omega, by have := hLs_.2.1; omega⟩
  have bx_2 := zB.all x_2
  refine lv_aload_n hx hb dX7_kind_0 rfl (lv_at hl 0 rfl) ?_
  refine zt_getk (t := 7) (C := RX7) (T := TX7) (N := 12) Z h hth zin_7 rfl 6 kx_1 ⟨by decide, rfl, by decide⟩ (zm_RX7 (List.mem_of_getElem? (i := 9) rfl)) (fun _ h9 => h9) dX7_kind_1 ?_
  refine lv_if_lt (tgt := 40) hx hb dX7_kind_4 (by decide) (fun c_3 => ?_) (fun c_3 => ?_)
  · have c_3 := z_lt c_3
    exact zB.noLt c_3 bx_1 (zBc 0 0 (by decide)) (by decide)
  · have c_3 := z_nlt c_3
    refine lv_aload_n hx hb dX7_kind_7 rfl (lv_at hl 0 rfl) ?_
    refine zt_getk (t := 7) (C := RX7) (T := TX7) (N := 12) Z h hth zin_7 rfl 6 kx_1 ⟨by decide, rfl, by decide⟩ (zm_RX7 (List.mem_of_getElem? (i := 9) rfl)) (fun _ h9 => h9) dX7_kind_8 ?_
    refine lv_aload_n hx hb dX7_kind_11 rfl (lv_at hl 0 rfl) ?_
    refine zt_getk (t := 7) (C := RX7) (T := TX7) (N := 12) Z h hth zin_7 rfl 4 ktk ⟨by decide, rfl, by decide⟩ (zm_RX7 (List.mem_of_getElem? (i := 4) rfl)) (fun _ h9 => h9) dX7_kind_12 ?_
    refine zt_getk (t := 8) (C := RX8) (T := TX8) (N := 6) Z h htk zin_8 rfl 5 ksz_ ⟨by decide, rfl, by decide⟩ (zm_RX7 (List.mem_of_getElem? (i := 56) rfl)) (fun _ h9 => h9) dX7_kind_15 ?_
    refine lv_icmp_ge (tgt := 40) hx hb dX7_kind_18 (by decide) (fun c_4 => ?_) (fun c_4 => ?_)
    · have c_4 := z_le c_4
      have bsz__5 : zB 1 600 sz_ := zB.leL c_4 bsz_ bx_1 (by decide)
      have bx_1_6 : zB 1 600 x_1 := zB.leR c_4 bsz_ bx_1 (by decide)
      refine lv_iconst (v := 0) hx hb dX7_kind_40 (by decide) ?_
      refine lv_istore_n (lv' := [(1, .int 0), (0, .ref th)]) hx hb dX7_kind_41 rfl hl (by decide) rfl (fun ls hl => ?_)
      refine lv_iload_n hx hb dX7_kind_42 rfl (lv_at hl 0 rfl) ?_
      refine lv_if_eq (tgt := 61) hx hb dX7_kind_43 (by decide) (fun _ => ?_) (fun h9 => absurd (by decide) h9)
      refine lv_iconst (v := 0) hx hb dX7_kind_61 (by decide) ?_
      subst hQ
      exact W.iret (v := 0) hx hb hr (fun t ht hW => ⟨⟨0, F, rfl, ⟨rfl, (False.elim (by have := bsz__5.1; have := bsz__5.2; have := bx_1_6.1; have := bx_1_6.2; have := bx_2.1; have := bx_2.2; have : (0 : Int32).toInt = 0 := (by decide); omega)), trivial⟩, by rw [ht]; exact h.1, h.2.1, zFr.rf⟩, h.2.2.F ht⟩) h.2.2.2.2 dX7_kind_62
    · have c_4 := z_nle c_4
      refine lv_aload_n hx hb dX7_kind_21 rfl (lv_at hl 0 rfl) ?_
      refine zt_getk (t := 7) (C := RX7) (T := TX7) (N := 12) Z h hth zin_7 rfl 6 kx_1 ⟨by decide, rfl, by decide⟩ (zm_RX7 (List.mem_of_getElem? (i := 9) rfl)) (fun _ h9 => h9) dX7_kind_22 ?_
      refine lv_aload_n hx hb dX7_kind_25 rfl (lv_at hl 0 rfl) ?_
      refine zt_getk (t := 7) (C := RX7) (T := TX7) (N := 12) Z h hth zin_7 rfl 4 ktk ⟨by decide, rfl, by decide⟩ (zm_RX7 (List.mem_of_getElem? (i := 4) rfl)) (fun _ h9 => h9) dX7_kind_26 ?_
      refine zt_getr (t := 8) (C := RX8) (T := TX8) (N := 6) Z h htk zin_8 rfl 2 rfl ⟨by decide, rfl⟩ (zm_RX7 (List.mem_of_getElem? (i := 128) rfl)) (fun _ h9 => h9) dX7_kind_29 (fun a_7 ka_7 ha_7 => ?_)
      refine zt_alen (t := 101) Z h ha_7 ⟨by decide, rfl⟩ (by decide) (v := 601) rfl dX7_kind_32 ?_
      refine lv_icmp_ge (tgt := 40) hx hb dX7_kind_33 (by decide) (fun c_8 => ?_) (fun c_8 => ?_)
      · have c_8 := z_le c_8
        exact zB.noLe c_8 (zBc 601 601 (by decide)) bx_1 (by decide)
      · have c_8 := z_nle c_8
        refine lv_iconst (v := 1) hx hb dX7_kind_36 (by decide) ?_
        refine lv_goto (tgt := 41) hx hb dX7_kind_37 (by decide) ?_
        refine lv_istore_n (lv' := [(1, .int 1), (0, .ref th)]) hx hb dX7_kind_41 rfl hl (by decide) rfl (fun ls hl => ?_)
        refine lv_iload_n hx hb dX7_kind_42 rfl (lv_at hl 0 rfl) ?_
        refine lv_if_eq (tgt := 61) hx hb dX7_kind_43 (by decide) (fun h9 => absurd h9 (by decide)) (fun _ => ?_)
        refine lv_aload_n hx hb dX7_kind_46 rfl (lv_at hl 1 rfl) ?_
        refine zt_getk (t := 7) (C := RX7) (T := TX7) (N := 12) Z h hth zin_7 rfl 4 ktk ⟨by decide, rfl, by decide⟩ (zm_RX7 (List.mem_of_getElem? (i := 4) rfl)) (fun _ h9 => h9) dX7_kind_47 ?_
        refine zt_getk (t := 8) (C := RX8) (T := TX8) (N := 6) Z h htk zin_8 rfl 2 ka_7 ⟨by decide, rfl, by decide⟩ (zm_RX7 (List.mem_of_getElem? (i := 128) rfl)) (fun _ h9 => h9) dX7_kind_50 ?_
        refine lv_aload_n hx hb dX7_kind_53 rfl (lv_at hl 1 rfl) ?_
        refine zt_getk (t := 7) (C := RX7) (T := TX7) (N := 12) Z h hth zin_7 rfl 6 kx_1 ⟨by decide, rfl, by decide⟩ (zm_RX7 (List.mem_of_getElem? (i := 9) rfl)) (fun _ h9 => h9) dX7_kind_54 ?_
        refine zt_ialde (t := 101) Z h ha_7 ⟨by decide, rfl⟩ bx_1 ⟨by decide, by decide⟩ dX7_kind_57 (fun x_9 ex_9 bx_9 => ?_)
        refine lv_goto (tgt := 62) hx hb dX7_kind_58 (by decide) ?_
        subst hQ
        exact W.iret (v := x_9) hx hb hr (fun t ht hW => ⟨⟨x_9, F, rfl, ⟨rfl, (by rw [zTb.kind p_tb ka_7 ex_9 ⟨(by have := bx_9.1; have := bx_9.2; have := bsz_.1; have := bsz_.2; have := bx_1.1; have := bx_1.2; have := bx_2.1; have := bx_2.2; have : (0 : Int32).toInt = 0 := (by decide); have : (1 : Int32).toInt = 1 := (by decide); have : (601 : Int32).toInt = 601 := (by decide); omega), (by have := bx_9.1; have := bx_9.2; have := bsz_.1; have := bsz_.2; have := bx_1.1; have := bx_1.2; have := bx_2.1; have := bx_2.2; have : (0 : Int32).toInt = 0 := (by decide); have : (1 : Int32).toInt = 1 := (by decide); have : (601 : Int32).toInt = 601 := (by decide); omega)⟩, nx_1]; exact zkd_nx _ _ _), trivial⟩, by rw [ht]; exact h.1, h.2.1, zFr.rf⟩, h.2.2.F ht⟩) h.2.2.2.2 dX7_kind_62

set_option maxHeartbeats 4000000 in
set_option maxRecDepth 100000 in
theorem ze_X7_fail (l : Launch) (D : va_G) (k : Nat → ClassId) (Γ : Nat → Option Nat) (L : List Nat) (F : Nat → va_E) (sz : Nat) (th : Nat) (fa : Int32) (tk : Nat) (Bt : Nat → Int32) (nt : Nat) (Nt : Nat) (σ : zSg) (hth : Γ th = some 7) (ktk : zfld F th 4 = .ref tk) (htk : Γ tk = some 8) (p_tb : zTb Γ F tk Bt nt Nt) (p_au : zC1 F th Nt (σ)) (hr0 : fa.toInt ≠ 0) : Met l yX7_fail zwX7_fail ({ frames := 0, cells := 0, slots := 0, locals := 0 }) (va_Pc [.ref th, .int fa] (zP D k Γ L F sz)) (va_Qv (fun (u : Nat → va_E) => zC1 u th Nt (zfl fa.toInt σ) ∧ True) (zQ D k Γ L F [701, 702, 706]) (zA L sz)) 0 0 (zA L sz) := by
  refine Met.ofW (cc := cX7_fail) (maxL := 2) (ret := none) (by decide) rfl ?_
  intro p e s m args below meth c s₁ B hml hv
  obtain ⟨rfl, hsz, hP, hK, hLn, hE, hI⟩ := hv
  have hx := B.exec
  have hb := B.bytes
  have hr := B.returns
  have hg : ∀ w ∈ zG, w.before _ s = true := fun w h9 => atoms_spec (ws := zwX7_fail) B.pre w (List.mem_cons_of_mem _ h9)
  have hown : s.vm.findClass RX7 = some m.cls := findClass_of_methodNamed B.named
  have hlocks := B.notSynchronized
  subst hsz
  have Z : zC p m c cX7_fail 2 s _ zG RX7 D k L := ⟨⟨hx, hb, hml, hown, hg⟩, hK, hLn, hE⟩
  have h : zH D k Γ L s F s.heap [] := ⟨hP, hI, va_S.rf⟩
  have hl := lv_entry ([.ref th, .int fa]) (n := 2) (Nat.le_of_ble_eq_true rfl)
  rw [lg_entry_eq]
  generalize (lg_sl ([.ref th, .int fa]) ++ List.replicate (2 - (lg_sl ([.ref th, .int fa])).length) Slot.unset).toArray = ls at hl ⊢
  have hl : lv_has ls 2 [(0, .ref th), (1, .int fa)] := hl
  clear hP hK hLn hE hI
  generalize hargs : ([.ref th, .int fa] : List Value).toArray = args at *
  refine z_start (fun R Q hRf hRl hQ => ?_)
  have hRf : R.frames = 0 := hRf
  have hRl : R.locals = 0 := hRl
  have h9 := h
  have hLs_ := p_tb.2.2.2.1
  obtain ⟨sz_, ksz_, tsz_⟩ := p_tb.2.2.1
  have bsz_ : zB 1 601 sz_ := ⟨by have := hLs_.1; omega, by have := hLs_.2.1; omega⟩
  obtain ⟨⟨x_1, kx_1, nx_1⟩, ⟨x_2, kx_2, nx_2⟩, ox_1⟩ := id p_au
  have gx_1 := zC1.nx p_au hLs_.1 kx_1
  have bx_1 : zB 0 600 x_1 := ⟨by omega, by have := hLs_.2.1; omega⟩
  have bx_2 := zB.all x_2
  refine lv_aload_n hx hb dX7_fail_0 rfl (lv_at hl 0 rfl) ?_
  refine zt_getk (t := 7) (C := RX7) (T := TX7) (N := 12) Z h hth zin_7 rfl 1 kx_2 ⟨by decide, rfl, by decide⟩ (zm_RX7 (List.mem_of_getElem? (i := 11) rfl)) (fun _ h9 => h9) dX7_fail_1 ?_
  refine lv_if_ne (tgt := 20) hx hb dX7_fail_4 (by decide) (fun c_3 => ?_) (fun c_3 => ?_)
  · have c_3 := z_ne c_3
    refine lv_aload_n hx hb dX7_fail_20 rfl (lv_at hl 0 rfl) ?_
    refine lv_aload_n hx hb dX7_fail_21 rfl (lv_at hl 0 rfl) ?_
    refine zt_getk (t := 7) (C := RX7) (T := TX7) (N := 12) Z h hth zin_7 rfl 4 ktk ⟨by decide, rfl, by decide⟩ (zm_RX7 (List.mem_of_getElem? (i := 4) rfl)) (fun _ h9 => h9) dX7_fail_22 ?_
    refine zt_getk (t := 8) (C := RX8) (T := TX8) (N := 6) Z h htk zin_8 rfl 5 ksz_ ⟨by decide, rfl, by decide⟩ (zm_RX7 (List.mem_of_getElem? (i := 56) rfl)) (fun _ h9 => h9) dX7_fail_25 ?_
    refine lv_iconst (v := 1) hx hb dX7_fail_28 (by decide) ?_
    refine lv_isub hx hb dX7_fail_29 ?_
    refine zi_sub (lo := 0) (hi := 600) bsz_ (zBc 1 1 (by decide)) (by decide) (fun x_4 bx_4 tx_4 => ?_)
    refine zt_put (t := 7) (C := RX7) (T := TX7) (N := 12) (v := .int x_4) Z h hth zin_7 tyX7 tyX7_ok nmX7 rfl 6 rfl ⟨by decide, rfl⟩ (zm_RX7 (List.mem_of_getElem? (i := 9) rfl)) (fun _ h9 => h9) rfl (zV.i (bx_4.w ⟨by decide, by decide⟩)) rfl rfl dX7_fail_30 (fun H locs F_5 h hfF_5 kF_5 => ?_)
    subst hQ
    exact W.vret hx hb hr (fun t ht hW => ⟨⟨F_5, rfl, ⟨(zC1.fl p_au kx_2 kF_5 (hfF_5.f hth 1 ⟨by decide, by decide⟩ kx_2) (by have := (zB.all fa).1; have := (zB.all fa).2; have := bx_4.1; have := bx_4.2; have := bx_2.1; have := bx_2.2; have := bsz_.1; have := bsz_.2; have : (0 : Int32).toInt = 0 := (by decide); have : (1 : Int32).toInt = 1 := (by decide); omega) (Or.inr ⟨by have := (zB.all fa).1; have := (zB.all fa).2; have := bx_4.1; have := bx_4.2; have := bx_2.1; have := bx_2.2; have := bsz_.1; have := bsz_.2; have : (0 : Int32).toInt = 0 := (by decide); have : (1 : Int32).toInt = 1 := (by decide); omega, rfl⟩)), trivial⟩, by rw [ht]; exact h.1, h.2.1, (hfF_5.w (by decide))⟩, h.2.2.F ht⟩) h.2.2.2.2 dX7_fail_33
  · have c_3 := z_eq c_3
    have bx_2_6 : zB 0 0 x_2 := zB.eqL (a := 0) (b := 0) c_3 (zBc 0 0 (by decide))
    refine lv_aload_n hx hb dX7_fail_7 rfl (lv_at hl 0 rfl) ?_
    refine lv_iload_n hx hb dX7_fail_8 rfl (lv_at hl 1 rfl) ?_
    refine zt_put (t := 7) (C := RX7) (T := TX7) (N := 12) (v := .int fa) Z h hth zin_7 tyX7 tyX7_ok nmX7 rfl 1 rfl ⟨by decide, rfl⟩ (zm_RX7 (List.mem_of_getElem? (i := 11) rfl)) (fun _ h9 => h9) rfl (zV.i (zB.all fa)) rfl rfl dX7_fail_9 (fun H locs F_7 h hfF_7 kF_7 => ?_)
    refine lv_aload_n hx hb dX7_fail_12 rfl (lv_at hl 0 rfl) ?_
    refine lv_aload_n hx hb dX7_fail_13 rfl (lv_at hl 0 rfl) ?_
    refine zt_getk (t := 7) (C := RX7) (T := TX7) (N := 12) Z h hth zin_7 rfl 6 (hfF_7.f hth 6 ⟨by decide, by decide⟩ kx_1) ⟨by decide, rfl, by decide⟩ (zm_RX7 (List.mem_of_getElem? (i := 9) rfl)) (fun _ h9 => h9) dX7_fail_14 ?_
    refine zt_put (t := 7) (C := RX7) (T := TX7) (N := 12) (v := .int x_1) Z h hth zin_7 tyX7 tyX7_ok nmX7 rfl 2 rfl ⟨by decide, rfl⟩ (zm_RX7 (List.mem_of_getElem? (i := 12) rfl)) (fun _ h9 => h9) rfl (zV.i (bx_1.w ⟨by decide, by decide⟩)) rfl rfl dX7_fail_17 (fun H locs F_8 h hfF_8 kF_8 => ?_)
    refine lv_aload_n hx hb dX7_fail_20 rfl (lv_at hl 0 rfl) ?_
    refine lv_aload_n hx hb dX7_fail_21 rfl (lv_at hl 0 rfl) ?_
    refine zt_getk (t := 7) (C := RX7) (T := TX7) (N := 12) Z h hth zin_7 rfl 4 (hfF_8.f hth 4 ⟨by decide, by decide⟩ (hfF_7.f hth 4 ⟨by decide, by decide⟩ ktk)) ⟨by decide, rfl, by decide⟩ (zm_RX7 (List.mem_of_getElem? (i := 4) rfl)) (fun _ h9 => h9) dX7_fail_22 ?_
    refine zt_getk (t := 8) (C := RX8) (T := TX8) (N := 6) Z h htk zin_8 rfl 5 (hfF_8.f htk 5 ⟨by decide, by decide⟩ (hfF_7.f htk 5 ⟨by decide, by decide⟩ ksz_)) ⟨by decide, rfl, by decide⟩ (zm_RX7 (List.mem_of_getElem? (i := 56) rfl)) (fun _ h9 => h9) dX7_fail_25 ?_
    refine lv_iconst (v := 1) hx hb dX7_fail_28 (by decide) ?_
    refine lv_isub hx hb dX7_fail_29 ?_
    refine zi_sub (lo := 0) (hi := 600) bsz_ (zBc 1 1 (by decide)) (by decide) (fun x_9 bx_9 tx_9 => ?_)
    refine zt_put (t := 7) (C := RX7) (T := TX7) (N := 12) (v := .int x_9) Z h hth zin_7 tyX7 tyX7_ok nmX7 rfl 6 rfl ⟨by decide, rfl⟩ (zm_RX7 (List.mem_of_getElem? (i := 9) rfl)) (fun _ h9 => h9) rfl (zV.i (bx_9.w ⟨by decide, by decide⟩)) rfl rfl dX7_fail_30 (fun H locs F_10 h hfF_10 kF_10 => ?_)
    subst hQ
    exact W.vret hx hb hr (fun t ht hW => ⟨⟨F_10, rfl, ⟨(zC1.fl p_au kx_2 kF_10 (hfF_10.f hth 1 ⟨by decide, by decide⟩ (hfF_8.f hth 1 ⟨by decide, by decide⟩ kF_7)) (by have := (zB.all fa).1; have := (zB.all fa).2; have := bx_9.1; have := bx_9.2; have := bsz_.1; have := bsz_.2; have := bx_1.1; have := bx_1.2; have : (0 : Int32).toInt = 0 := (by decide); have : (1 : Int32).toInt = 1 := (by decide); omega) (Or.inl ⟨by have := (zB.all fa).1; have := (zB.all fa).2; have := bx_9.1; have := bx_9.2; have := bsz_.1; have := bsz_.2; have := bx_1.1; have := bx_1.2; have : (0 : Int32).toInt = 0 := (by decide); have : (1 : Int32).toInt = 1 := (by decide); omega, rfl, by have := (zB.all fa).1; have := (zB.all fa).2; have := bx_9.1; have := bx_9.2; have := bsz_.1; have := bsz_.2; have := bx_1.1; have := bx_1.2; have : (0 : Int32).toInt = 0 := (by decide); have : (1 : Int32).toInt = 1 := (by decide); omega⟩)), trivial⟩, by rw [ht]; exact h.1, h.2.1, (((hfF_7.w (by decide)).trans hfF_8 (by decide)).trans hfF_10 (by decide))⟩, h.2.2.F ht⟩) h.2.2.2.2 dX7_fail_33

set_option maxHeartbeats 4000000 in
set_option maxRecDepth 100000 in
theorem ze_X7_take (l : Launch) (D : va_G) (k : Nat → ClassId) (Γ : Nat → Option Nat) (L : List Nat) (F : Nat → va_E) (sz : Nat) (th : Nat) (sg : Int32) (tk : Nat) (Bt : Nat → Int32) (nt : Nat) (Nt : Nat) (σ : zSg) (hth : Γ th = some 7) (bsg : zB 40 125 sg) (ktk : zfld F th 4 = .ref tk) (htk : Γ tk = some 8) (p_tb : zTb Γ F tk Bt nt Nt) (p_au : zC1 F th Nt (σ)) : Met l yX7_take zwX7_take ({ frames := 1, cells := 0, slots := 0, locals := 21 }) (va_Pc [.ref th, .int sg] (zP D k Γ L F sz)) (va_Qv (fun (u : Nat → va_E) => zC1 u th Nt (ztk (zTo Bt nt) Nt sg.toInt σ) ∧ True) (zQ D k Γ L F [701, 702, 706]) (zA L sz)) 0 0 (zA L sz) := by
  refine Met.ofW (cc := cX7_take) (maxL := 2) (ret := none) (by decide) rfl ?_
  intro p e s m args below meth c s₁ B hml hv
  obtain ⟨rfl, hsz, hP, hK, hLn, hE, hI⟩ := hv
  have hx := B.exec
  have hb := B.bytes
  have hr := B.returns
  have hg : ∀ w ∈ zG, w.before _ s = true := fun w h9 => atoms_spec (ws := zwX7_take) B.pre w (List.mem_cons_of_mem _ h9)
  have hown : s.vm.findClass RX7 = some m.cls := findClass_of_methodNamed B.named
  have hlocks := B.notSynchronized
  subst hsz
  have Z : zC p m c cX7_take 2 s _ zG RX7 D k L := ⟨⟨hx, hb, hml, hown, hg⟩, hK, hLn, hE⟩
  have h : zH D k Γ L s F s.heap [] := ⟨hP, hI, va_S.rf⟩
  have hl := lv_entry ([.ref th, .int sg]) (n := 2) (Nat.le_of_ble_eq_true rfl)
  rw [lg_entry_eq]
  generalize (lg_sl ([.ref th, .int sg]) ++ List.replicate (2 - (lg_sl ([.ref th, .int sg])).length) Slot.unset).toArray = ls at hl ⊢
  have hl : lv_has ls 2 [(0, .ref th), (1, .int sg)] := hl
  clear hP hK hLn hE hI
  generalize hargs : ([.ref th, .int sg] : List Value).toArray = args at *
  refine z_start (fun R Q hRf hRl hQ => ?_)
  have hRf : R.frames = 1 := hRf
  have hRl : R.locals = 21 := hRl
  have h9 := h
  have hLs_ := p_tb.2.2.2.1
  obtain ⟨sz_, ksz_, tsz_⟩ := p_tb.2.2.1
  have bsz_ : zB 1 601 sz_ := ⟨by have := hLs_.1; omega, by have := hLs_.2.1; omega⟩
  obtain ⟨⟨x_1, kx_1, nx_1⟩, ⟨x_2, kx_2, nx_2⟩, ox_1⟩ := id p_au
  have gx_1 := zC1.nx p_au hLs_.1 kx_1
  have bx_1 : zB 0 600 x_1 := ⟨by omega, by have := hLs_.2.1; omega⟩
  have bx_2 := zB.all x_2
  refine lv_aload_n hx hb dX7_take_0 rfl (lv_at hl 0 rfl) ?_
  refine zk_Vi (As := []) (rest := []) (bytes := cX7_kind) (maxL := 2) (ret := (some .int)) Z h (ze_X7_kind l D k Γ L F s.heap.size th tk Bt nt Nt σ hth ktk htk p_tb p_au) (cwV 0 hg zv_RX7_65 rfl rfl rfl zd_X7_kind ⟨z_leR hRf (by decide), z_leR hRl (by decide)⟩) hth (by decide) rfl rfl hl.1 rfl (Nat.le_of_ble_eq_true rfl) dX7_take_1 ⟨Nat.zero_le _, Nat.zero_le _⟩ (fun r_3 F_4 H locs w_5 h hfF_4 => ?_)
  obtain ⟨rfl, q_6, -⟩ := w_5
  have br_3 := zB.all r_3
  refine lv_iload_n hx hb dX7_take_4 rfl (lv_at hl 1 rfl) ?_
  refine lv_icmp_ne (tgt := 21) hx hb dX7_take_5 (by decide) (fun c_7 => ?_) (fun c_7 => ?_)
  · have c_7 := z_ne c_7
    refine lv_aload_n hx hb dX7_take_21 rfl (lv_at hl 0 rfl) ?_
    refine lv_iconst (v := 1) hx hb dX7_take_22 (by decide) ?_
    refine zk_Vv (As := [.int 1]) (rest := []) (bytes := cX7_fail) (maxL := 2) (ret := none) Z h (ze_X7_fail l D k Γ L F H.size th 1 tk Bt nt Nt σ hth ktk htk p_tb p_au (by have := bsg.1; have := bsg.2; have := br_3.1; have := br_3.2; have := bsz_.1; have := bsz_.2; have := bx_1.1; have := bx_1.2; have := bx_2.1; have := bx_2.2; have : (1 : Int32).toInt = 1 := (by decide); omega)) (cwV 1 hg zv_RX7_79 rfl rfl rfl zd_X7_fail ⟨z_leR hRf (by decide), z_leR hRl (by decide)⟩) hth (by decide) rfl rfl hl.1 rfl (Nat.le_of_ble_eq_true rfl) dX7_take_23 ⟨Nat.zero_le _, Nat.zero_le _⟩ (fun F_8 H locs w_9 h hfF_8 => ?_)
    obtain ⟨q_10, -⟩ := w_9
    subst hQ
    exact W.vret hx hb hr (fun t ht hW => ⟨⟨F_8, rfl, ⟨(by unfold ztk; rw [if_neg (by have := bsg.1; have := bsg.2; have := br_3.1; have := br_3.2; have := bsz_.1; have := bsz_.2; omega)]; exact (by have h9 := q_10; rw [show (1 : Int32).toInt = 1 by decide] at h9; exact h9)), trivial⟩, by rw [ht]; exact h.1, h.2.1, hfF_8⟩, h.2.2.F ht⟩) h.2.2.2.2 dX7_take_26
  · have c_7 := z_eq c_7
    have br_3_11 : zB 40 125 r_3 := zB.eqL (a := 0) (b := 0) c_7 bsg
    refine lv_aload_n hx hb dX7_take_8 rfl (lv_at hl 0 rfl) ?_
    refine lv_dup hx hb dX7_take_9 rfl ?_
    refine zt_getk (t := 7) (C := RX7) (T := TX7) (N := 12) Z h hth zin_7 rfl 6 kx_1 ⟨by decide, rfl, by decide⟩ (zm_RX7 (List.mem_of_getElem? (i := 9) rfl)) (fun _ h9 => h9) dX7_take_10 ?_
    refine lv_iconst (v := 1) hx hb dX7_take_13 (by decide) ?_
    refine lv_iadd hx hb dX7_take_14 ?_
    refine zi_add (lo := 1) (hi := 601) bx_1 (zBc 1 1 (by decide)) (by decide) (fun x_12 bx_12 tx_12 => ?_)
    refine zt_put (t := 7) (C := RX7) (T := TX7) (N := 12) (v := .int x_12) Z h hth zin_7 tyX7 tyX7_ok nmX7 rfl 6 rfl ⟨by decide, rfl⟩ (zm_RX7 (List.mem_of_getElem? (i := 9) rfl)) (fun _ h9 => h9) rfl (zV.i (bx_12.w ⟨by decide, by decide⟩)) rfl rfl dX7_take_15 (fun H locs F_13 h hfF_13 kF_13 => ?_)
    refine lv_goto (tgt := 26) hx hb dX7_take_18 (by decide) ?_
    subst hQ
    exact W.vret hx hb hr (fun t ht hW => ⟨⟨F_13, rfl, ⟨(by unfold ztk; rw [if_pos (by have := bsg.1; have := bsg.2; have := br_3_11.1; have := br_3_11.2; have := bsz_.1; have := bsz_.2; have := bx_12.1; have := bx_12.2; have := bx_2.1; have := bx_2.2; have : (1 : Int32).toInt = 1 := (by decide); omega)]; exact (zC1.adv (T := zTo Bt nt) p_au hfF_13 hth (by decide) kx_1 kF_13 (by have := bsg.1; have := bsg.2; have := bx_1.1; have := bx_1.2; have := br_3_11.1; have := br_3_11.2; have := bsz_.1; have := bsz_.2; have := bx_12.1; have := bx_12.2; have := bx_2.1; have := bx_2.2; have : (1 : Int32).toInt = 1 := (by decide); omega) hLs_ ⟨by have := bsg.1; have := bsg.2; have := bx_1.1; have := bx_1.2; have := br_3_11.1; have := br_3_11.2; have := bsz_.1; have := bsz_.2; have := bx_12.1; have := bx_12.2; have := bx_2.1; have := bx_2.2; have : (1 : Int32).toInt = 1 := (by decide); omega, by have := bsg.1; have := bsg.2; have := bx_1.1; have := bx_1.2; have := br_3_11.1; have := br_3_11.2; have := bsz_.1; have := bsz_.2; have := bx_12.1; have := bx_12.2; have := bx_2.1; have := bx_2.2; have : (1 : Int32).toInt = 1 := (by decide); omega⟩)), trivial⟩, by rw [ht]; exact h.1, h.2.1, (hfF_13.w (by decide))⟩, h.2.2.F ht⟩) h.2.2.2.2 dX7_take_26

set_option maxHeartbeats 4000000 in
set_option maxRecDepth 100000 in
theorem ze_X7_beginsSum (l : Launch) (D : va_G) (k : Nat → ClassId) (Γ : Nat → Option Nat) (L : List Nat) (F : Nat → va_E) (sz : Nat) (tk : Int32) : Met l yX7_beginsSum zwX7_beginsSum ({ frames := 0, cells := 0, slots := 0, locals := 0 }) (va_Pc [.int tk] (zP D k Γ L F sz)) (va_Qi (fun (r : Int32) (u : Nat → va_E) => F = u ∧ zB 0 1 r ∧ ((r.toInt = 1 ∧ zbeg tk.toInt) ∨ (r.toInt = 0 ∧ ¬ zbeg tk.toInt)) ∧ True) (zQ D k Γ L F []) (zA L sz)) 0 0 (zA L sz) := by
  refine Met.ofW (cc := cX7_beginsSum) (maxL := 1) (ret := (some .boolean)) (by decide) rfl ?_
  intro p e s m args below meth c s₁ B hml hv
  obtain ⟨rfl, hsz, hP, hK, hLn, hE, hI⟩ := hv
  have hx := B.exec
  have hb := B.bytes
  have hr := B.returns
  have hg : ∀ w ∈ zG, w.before _ s = true := fun w h9 => atoms_spec (ws := zwX7_beginsSum) B.pre w (List.mem_cons_of_mem _ h9)
  have hown : s.vm.findClass RX7 = some m.cls := findClass_of_methodNamed B.named
  have hlocks := B.notSynchronized
  subst hsz
  have Z : zC p m c cX7_beginsSum 1 s _ zG RX7 D k L := ⟨⟨hx, hb, hml, hown, hg⟩, hK, hLn, hE⟩
  have h : zH D k Γ L s F s.heap [] := ⟨hP, hI, va_S.rf⟩
  have hl := lv_entry ([.int tk]) (n := 1) (Nat.le_of_ble_eq_true rfl)
  rw [lg_entry_eq]
  generalize (lg_sl ([.int tk]) ++ List.replicate (1 - (lg_sl ([.int tk])).length) Slot.unset).toArray = ls at hl ⊢
  have hl : lv_has ls 1 [(0, .int tk)] := hl
  clear hP hK hLn hE hI
  generalize hargs : ([.int tk] : List Value).toArray = args at *
  refine z_start (fun R Q hRf hRl hQ => ?_)
  have hRf : R.frames = 0 := hRf
  have hRl : R.locals = 0 := hRl
  have h9 := h
  refine lv_iload_n hx hb dX7_beginsSum_0 rfl (lv_at hl 0 rfl) ?_
  refine lv_iconst (v := 2) hx hb dX7_beginsSum_1 (by decide) ?_
  refine lv_icmp_eq (tgt := 21) hx hb dX7_beginsSum_2 (by decide) (fun c_1 => ?_) (fun c_1 => ?_)
  · have c_1 := z_eq c_1
    have btk_2 : zB 2 2 tk := zB.eqL (a := 0) (b := 0) c_1 (zBc 2 2 (by decide))
    refine lv_iconst (v := 1) hx hb dX7_beginsSum_21 (by decide) ?_
    refine lv_goto (tgt := 26) hx hb dX7_beginsSum_22 (by decide) ?_
    subst hQ
    exact W.zret (v := 1) hx hb hr (by decide) (fun t ht hW => ⟨⟨1, F, rfl, ⟨rfl, (zB.of ⟨by decide, by decide⟩), (by unfold zbeg; have := btk_2.1; have := btk_2.2; have : (1 : Int32).toInt = 1 := (by decide); have : (2 : Int32).toInt = 2 := (by decide); omega), trivial⟩, by rw [ht]; exact h.1, h.2.1, zFr.rf⟩, h.2.2.F ht⟩) h.2.2.2.2 dX7_beginsSum_26
  · have c_1 := z_ne c_1
    refine lv_iload_n hx hb dX7_beginsSum_5 rfl (lv_at hl 0 rfl) ?_
    refine lv_iconst (v := 3) hx hb dX7_beginsSum_6 (by decide) ?_
    refine lv_icmp_eq (tgt := 21) hx hb dX7_beginsSum_7 (by decide) (fun c_3 => ?_) (fun c_3 => ?_)
    · have c_3 := z_eq c_3
      have btk_4 : zB 3 3 tk := zB.eqL (a := 0) (b := 0) c_3 (zBc 3 3 (by decide))
      refine lv_iconst (v := 1) hx hb dX7_beginsSum_21 (by decide) ?_
      refine lv_goto (tgt := 26) hx hb dX7_beginsSum_22 (by decide) ?_
      subst hQ
      exact W.zret (v := 1) hx hb hr (by decide) (fun t ht hW => ⟨⟨1, F, rfl, ⟨rfl, (zB.of ⟨by decide, by decide⟩), (by unfold zbeg; have := btk_4.1; have := btk_4.2; have : (1 : Int32).toInt = 1 := (by decide); have : (2 : Int32).toInt = 2 := (by decide); have : (3 : Int32).toInt = 3 := (by decide); omega), trivial⟩, by rw [ht]; exact h.1, h.2.1, zFr.rf⟩, h.2.2.F ht⟩) h.2.2.2.2 dX7_beginsSum_26
    · have c_3 := z_ne c_3
      refine lv_iload_n hx hb dX7_beginsSum_10 rfl (lv_at hl 0 rfl) ?_
      refine lv_iconst (v := 4) hx hb dX7_beginsSum_11 (by decide) ?_
      refine lv_icmp_eq (tgt := 21) hx hb dX7_beginsSum_12 (by decide) (fun c_5 => ?_) (fun c_5 => ?_)
      · have c_5 := z_eq c_5
        have btk_6 : zB 4 4 tk := zB.eqL (a := 0) (b := 0) c_5 (zBc 4 4 (by decide))
        refine lv_iconst (v := 1) hx hb dX7_beginsSum_21 (by decide) ?_
        refine lv_goto (tgt := 26) hx hb dX7_beginsSum_22 (by decide) ?_
        subst hQ
        exact W.zret (v := 1) hx hb hr (by decide) (fun t ht hW => ⟨⟨1, F, rfl, ⟨rfl, (zB.of ⟨by decide, by decide⟩), (by unfold zbeg; have := btk_6.1; have := btk_6.2; have : (1 : Int32).toInt = 1 := (by decide); have : (2 : Int32).toInt = 2 := (by decide); have : (3 : Int32).toInt = 3 := (by decide); have : (4 : Int32).toInt = 4 := (by decide); omega), trivial⟩, by rw [ht]; exact h.1, h.2.1, zFr.rf⟩, h.2.2.F ht⟩) h.2.2.2.2 dX7_beginsSum_26
      · have c_5 := z_ne c_5
        refine lv_iload_n hx hb dX7_beginsSum_15 rfl (lv_at hl 0 rfl) ?_
        refine lv_bipush (v := 40) hx hb dX7_beginsSum_16 (by decide) ?_
        refine lv_icmp_ne (tgt := 25) hx hb dX7_beginsSum_18 (by decide) (fun c_7 => ?_) (fun c_7 => ?_)
        · have c_7 := z_ne c_7
          refine lv_iconst (v := 0) hx hb dX7_beginsSum_25 (by decide) ?_
          subst hQ
          exact W.zret (v := 0) hx hb hr (by decide) (fun t ht hW => ⟨⟨0, F, rfl, ⟨rfl, (zB.of ⟨by decide, by decide⟩), (by unfold zbeg; have := (zB.all tk).1; have := (zB.all tk).2; have : (0 : Int32).toInt = 0 := (by decide); have : (2 : Int32).toInt = 2 := (by decide); have : (3 : Int32).toInt = 3 := (by decide); have : (4 : Int32).toInt = 4 := (by decide); have : (40 : Int32).toInt = 40 := (by decide); omega), trivial⟩, by rw [ht]; exact h.1, h.2.1, zFr.rf⟩, h.2.2.F ht⟩) h.2.2.2.2 dX7_beginsSum_26
        · have c_7 := z_eq c_7
          have btk_8 : zB 40 40 tk := zB.eqL (a := 0) (b := 0) c_7 (zBc 40 40 (by decide))
          refine lv_iconst (v := 1) hx hb dX7_beginsSum_21 (by decide) ?_
          refine lv_goto (tgt := 26) hx hb dX7_beginsSum_22 (by decide) ?_
          subst hQ
          exact W.zret (v := 1) hx hb hr (by decide) (fun t ht hW => ⟨⟨1, F, rfl, ⟨rfl, (zB.of ⟨by decide, by decide⟩), (by unfold zbeg; have := btk_8.1; have := btk_8.2; have : (1 : Int32).toInt = 1 := (by decide); have : (2 : Int32).toInt = 2 := (by decide); have : (3 : Int32).toInt = 3 := (by decide); have : (4 : Int32).toInt = 4 := (by decide); have : (40 : Int32).toInt = 40 := (by decide); omega), trivial⟩, by rw [ht]; exact h.1, h.2.1, zFr.rf⟩, h.2.2.F ht⟩) h.2.2.2.2 dX7_beginsSum_26

set_option maxHeartbeats 4000000 in
set_option maxRecDepth 100000 in
theorem ze_X7_lineKindOf (l : Launch) (D : va_G) (k : Nat → ClassId) (Γ : Nat → Option Nat) (L : List Nat) (F : Nat → va_E) (sz : Nat) (tk : Int32) : Met l yX7_lineKindOf zwX7_lineKindOf ({ frames := 0, cells := 0, slots := 0, locals := 0 }) (va_Pc [.int tk] (zP D k Γ L F sz)) (va_Qi (fun (r : Int32) (u : Nat → va_E) => F = u ∧ zB (-1) 4 r ∧ r.toInt = zlk tk.toInt ∧ True) (zQ D k Γ L F []) (zA L sz)) 0 0 (zA L sz) := by
  refine Met.ofW (cc := cX7_lineKindOf) (maxL := 1) (ret := (some .int)) (by decide) rfl ?_
  intro p e s m args below meth c s₁ B hml hv
  obtain ⟨rfl, hsz, hP, hK, hLn, hE, hI⟩ := hv
  have hx := B.exec
  have hb := B.bytes
  have hr := B.returns
  have hg : ∀ w ∈ zG, w.before _ s = true := fun w h9 => atoms_spec (ws := zwX7_lineKindOf) B.pre w (List.mem_cons_of_mem _ h9)
  have hown : s.vm.findClass RX7 = some m.cls := findClass_of_methodNamed B.named
  have hlocks := B.notSynchronized
  subst hsz
  have Z : zC p m c cX7_lineKindOf 1 s _ zG RX7 D k L := ⟨⟨hx, hb, hml, hown, hg⟩, hK, hLn, hE⟩
  have h : zH D k Γ L s F s.heap [] := ⟨hP, hI, va_S.rf⟩
  have hl := lv_entry ([.int tk]) (n := 1) (Nat.le_of_ble_eq_true rfl)
  rw [lg_entry_eq]
  generalize (lg_sl ([.int tk]) ++ List.replicate (1 - (lg_sl ([.int tk])).length) Slot.unset).toArray = ls at hl ⊢
  have hl : lv_has ls 1 [(0, .int tk)] := hl
  clear hP hK hLn hE hI
  generalize hargs : ([.int tk] : List Value).toArray = args at *
  refine z_start (fun R Q hRf hRl hQ => ?_)
  have hRf : R.frames = 0 := hRf
  have hRl : R.locals = 0 := hRl
  have h9 := h
  refine lv_iload_n hx hb dX7_lineKindOf_0 rfl (lv_at hl 0 rfl) ?_
  by_cases c_1 : tk = 3
  · refine lv_tableIn (off := 47) (tgt := 48) hx hb dX7_lineKindOf_1 (by rw [c_1]; decide) (by rw [c_1]; decide) (by rw [c_1]; rfl) (by decide) ?_
    have btk_1 : zB 3 3 tk := by rw [c_1]; exact zBc _ _ (by decide)
    refine lv_iconst (v := 0) hx hb dX7_lineKindOf_48 (by decide) ?_
    subst hQ
    exact W.iret (v := 0) hx hb hr (fun t ht hW => ⟨⟨0, F, rfl, ⟨rfl, (zB.of ⟨by decide, by decide⟩), (zlk_v (by have := btk_1.1; have := btk_1.2; have : (0 : Int32).toInt = 0 := (by decide); omega)), trivial⟩, by rw [ht]; exact h.1, h.2.1, zFr.rf⟩, h.2.2.F ht⟩) h.2.2.2.2 dX7_lineKindOf_49
  · by_cases c_3 : tk = 4
    · refine lv_tableIn (off := 57) (tgt := 58) hx hb dX7_lineKindOf_1 (by rw [c_3]; decide) (by rw [c_3]; decide) (by rw [c_3]; rfl) (by decide) ?_
      have btk_3 : zB 4 4 tk := by rw [c_3]; exact zBc _ _ (by decide)
      refine lv_iconst (v := (-1)) hx hb dX7_lineKindOf_58 (by decide) ?_
      subst hQ
      exact W.iret (v := (-1)) hx hb hr (fun t ht hW => ⟨⟨(-1), F, rfl, ⟨rfl, (zB.of ⟨by decide, by decide⟩), (zlk_v (by have := btk_3.1; have := btk_3.2; have : ((-1) : Int32).toInt = (-1) := (by decide); omega)), trivial⟩, by rw [ht]; exact h.1, h.2.1, zFr.rf⟩, h.2.2.F ht⟩) h.2.2.2.2 dX7_lineKindOf_59
    · by_cases c_5 : tk = 5
      · refine lv_tableIn (off := 57) (tgt := 58) hx hb dX7_lineKindOf_1 (by rw [c_5]; decide) (by rw [c_5]; decide) (by rw [c_5]; rfl) (by decide) ?_
        have btk_5 : zB 5 5 tk := by rw [c_5]; exact zBc _ _ (by decide)
        refine lv_iconst (v := (-1)) hx hb dX7_lineKindOf_58 (by decide) ?_
        subst hQ
        exact W.iret (v := (-1)) hx hb hr (fun t ht hW => ⟨⟨(-1), F, rfl, ⟨rfl, (zB.of ⟨by decide, by decide⟩), (zlk_v (by have := btk_5.1; have := btk_5.2; have : ((-1) : Int32).toInt = (-1) := (by decide); omega)), trivial⟩, by rw [ht]; exact h.1, h.2.1, zFr.rf⟩, h.2.2.F ht⟩) h.2.2.2.2 dX7_lineKindOf_59
      · by_cases c_7 : tk = 6
        · refine lv_tableIn (off := 49) (tgt := 50) hx hb dX7_lineKindOf_1 (by rw [c_7]; decide) (by rw [c_7]; decide) (by rw [c_7]; rfl) (by decide) ?_
          have btk_7 : zB 6 6 tk := by rw [c_7]; exact zBc _ _ (by decide)
          refine lv_iconst (v := 1) hx hb dX7_lineKindOf_50 (by decide) ?_
          subst hQ
          exact W.iret (v := 1) hx hb hr (fun t ht hW => ⟨⟨1, F, rfl, ⟨rfl, (zB.of ⟨by decide, by decide⟩), (zlk_v (by have := btk_7.1; have := btk_7.2; have : (1 : Int32).toInt = 1 := (by decide); omega)), trivial⟩, by rw [ht]; exact h.1, h.2.1, zFr.rf⟩, h.2.2.F ht⟩) h.2.2.2.2 dX7_lineKindOf_51
        · by_cases c_9 : tk = 7
          · refine lv_tableIn (off := 51) (tgt := 52) hx hb dX7_lineKindOf_1 (by rw [c_9]; decide) (by rw [c_9]; decide) (by rw [c_9]; rfl) (by decide) ?_
            have btk_9 : zB 7 7 tk := by rw [c_9]; exact zBc _ _ (by decide)
            refine lv_iconst (v := 2) hx hb dX7_lineKindOf_52 (by decide) ?_
            subst hQ
            exact W.iret (v := 2) hx hb hr (fun t ht hW => ⟨⟨2, F, rfl, ⟨rfl, (zB.of ⟨by decide, by decide⟩), (zlk_v (by have := btk_9.1; have := btk_9.2; have : (2 : Int32).toInt = 2 := (by decide); omega)), trivial⟩, by rw [ht]; exact h.1, h.2.1, zFr.rf⟩, h.2.2.F ht⟩) h.2.2.2.2 dX7_lineKindOf_53
          · by_cases c_11 : tk = 8
            · refine lv_tableIn (off := 53) (tgt := 54) hx hb dX7_lineKindOf_1 (by rw [c_11]; decide) (by rw [c_11]; decide) (by rw [c_11]; rfl) (by decide) ?_
              have btk_11 : zB 8 8 tk := by rw [c_11]; exact zBc _ _ (by decide)
              refine lv_iconst (v := 3) hx hb dX7_lineKindOf_54 (by decide) ?_
              subst hQ
              exact W.iret (v := 3) hx hb hr (fun t ht hW => ⟨⟨3, F, rfl, ⟨rfl, (zB.of ⟨by decide, by decide⟩), (zlk_v (by have := btk_11.1; have := btk_11.2; have : (3 : Int32).toInt = 3 := (by decide); omega)), trivial⟩, by rw [ht]; exact h.1, h.2.1, zFr.rf⟩, h.2.2.F ht⟩) h.2.2.2.2 dX7_lineKindOf_55
            · by_cases c_13 : tk = 9
              · refine lv_tableIn (off := 57) (tgt := 58) hx hb dX7_lineKindOf_1 (by rw [c_13]; decide) (by rw [c_13]; decide) (by rw [c_13]; rfl) (by decide) ?_
                have btk_13 : zB 9 9 tk := by rw [c_13]; exact zBc _ _ (by decide)
                refine lv_iconst (v := (-1)) hx hb dX7_lineKindOf_58 (by decide) ?_
                subst hQ
                exact W.iret (v := (-1)) hx hb hr (fun t ht hW => ⟨⟨(-1), F, rfl, ⟨rfl, (zB.of ⟨by decide, by decide⟩), (zlk_v (by have := btk_13.1; have := btk_13.2; have : ((-1) : Int32).toInt = (-1) := (by decide); omega)), trivial⟩, by rw [ht]; exact h.1, h.2.1, zFr.rf⟩, h.2.2.F ht⟩) h.2.2.2.2 dX7_lineKindOf_59
              · by_cases c_15 : tk = 10
                · refine lv_tableIn (off := 55) (tgt := 56) hx hb dX7_lineKindOf_1 (by rw [c_15]; decide) (by rw [c_15]; decide) (by rw [c_15]; rfl) (by decide) ?_
                  have btk_15 : zB 10 10 tk := by rw [c_15]; exact zBc _ _ (by decide)
                  refine lv_iconst (v := 4) hx hb dX7_lineKindOf_56 (by decide) ?_
                  subst hQ
                  exact W.iret (v := 4) hx hb hr (fun t ht hW => ⟨⟨4, F, rfl, ⟨rfl, (zB.of ⟨by decide, by decide⟩), (zlk_v (by have := btk_15.1; have := btk_15.2; have : (4 : Int32).toInt = 4 := (by decide); omega)), trivial⟩, by rw [ht]; exact h.1, h.2.1, zFr.rf⟩, h.2.2.F ht⟩) h.2.2.2.2 dX7_lineKindOf_57
                · have nc_1 : tk.toInt ≠ 3 := z_nev c_1 (by decide)
                  have nc_3 : tk.toInt ≠ 4 := z_nev c_3 (by decide)
                  have nc_5 : tk.toInt ≠ 5 := z_nev c_5 (by decide)
                  have nc_7 : tk.toInt ≠ 6 := z_nev c_7 (by decide)
                  have nc_9 : tk.toInt ≠ 7 := z_nev c_9 (by decide)
                  have nc_11 : tk.toInt ≠ 8 := z_nev c_11 (by decide)
                  have nc_13 : tk.toInt ≠ 9 := z_nev c_13 (by decide)
                  have nc_15 : tk.toInt ≠ 10 := z_nev c_15 (by decide)
                  refine lv_tableOut (tgt := 58) hx hb dX7_lineKindOf_1 (by have := (zB.all tk).1; have := (zB.all tk).2; omega) (by decide) ?_
                  refine lv_iconst (v := (-1)) hx hb dX7_lineKindOf_58 (by decide) ?_
                  subst hQ
                  exact W.iret (v := (-1)) hx hb hr (fun t ht hW => ⟨⟨(-1), F, rfl, ⟨rfl, (zB.of ⟨by decide, by decide⟩), (zlk_v (by have := (zB.all tk).1; have := (zB.all tk).2; have : ((-1) : Int32).toInt = (-1) := (by decide); omega)), trivial⟩, by rw [ht]; exact h.1, h.2.1, zFr.rf⟩, h.2.2.F ht⟩) h.2.2.2.2 dX7_lineKindOf_59

set_option maxHeartbeats 4000000 in
set_option maxRecDepth 100000 in
theorem ze_X7_openBracket (l : Launch) (D : va_G) (k : Nat → ClassId) (Γ : Nat → Option Nat) (L : List Nat) (F : Nat → va_E) (sz : Nat) (th : Nat) (d : Int32) (tk : Nat) (Bt : Nat → Int32) (nt : Nat) (Nt : Nat) (σ : zSg) (hth : Γ th = some 7) (bd : zB 0 6 d) (ktk : zfld F th 4 = .ref tk) (htk : Γ tk = some 8) (p_tb : zTb Γ F tk Bt nt Nt) (p_au : zC1 F th Nt (σ)) : Met l yX7_openBracket zwX7_openBracket ({ frames := 1, cells := 0, slots := 0, locals := 21 }) (va_Pc [.ref th, .int d] (zP D k Γ L F sz)) (va_Qv (fun (u : Nat → va_E) => zC1 u th Nt (zop (zTo Bt nt) Nt d.toInt σ) ∧ True) (zQ D k Γ L F [701, 702, 706]) (zA L sz)) 0 0 (zA L sz) := by
  refine Met.ofW (cc := cX7_openBracket) (maxL := 2) (ret := none) (by decide) rfl ?_
  intro p e s m args below meth c s₁ B hml hv
  obtain ⟨rfl, hsz, hP, hK, hLn, hE, hI⟩ := hv
  have hx := B.exec
  have hb := B.bytes
  have hr := B.returns
  have hg : ∀ w ∈ zG, w.before _ s = true := fun w h9 => atoms_spec (ws := zwX7_openBracket) B.pre w (List.mem_cons_of_mem _ h9)
  have hown : s.vm.findClass RX7 = some m.cls := findClass_of_methodNamed B.named
  have hlocks := B.notSynchronized
  subst hsz
  have Z : zC p m c cX7_openBracket 2 s _ zG RX7 D k L := ⟨⟨hx, hb, hml, hown, hg⟩, hK, hLn, hE⟩
  have h : zH D k Γ L s F s.heap [] := ⟨hP, hI, va_S.rf⟩
  have hl := lv_entry ([.ref th, .int d]) (n := 2) (Nat.le_of_ble_eq_true rfl)
  rw [lg_entry_eq]
  generalize (lg_sl ([.ref th, .int d]) ++ List.replicate (2 - (lg_sl ([.ref th, .int d])).length) Slot.unset).toArray = ls at hl ⊢
  have hl : lv_has ls 2 [(0, .ref th), (1, .int d)] := hl
  clear hP hK hLn hE hI
  generalize hargs : ([.ref th, .int d] : List Value).toArray = args at *
  refine z_start (fun R Q hRf hRl hQ => ?_)
  have hRf : R.frames = 1 := hRf
  have hRl : R.locals = 21 := hRl
  have h9 := h
  have hLs_ := p_tb.2.2.2.1
  obtain ⟨sz_, ksz_, tsz_⟩ := p_tb.2.2.1
  have bsz_ : zB 1 601 sz_ := ⟨by have := hLs_.1; omega, by have := hLs_.2.1; omega⟩
  obtain ⟨⟨x_1, kx_1, nx_1⟩, ⟨x_2, kx_2, nx_2⟩, ox_1⟩ := id p_au
  have gx_1 := zC1.nx p_au hLs_.1 kx_1
  have bx_1 : zB 0 600 x_1 := ⟨by omega, by have := hLs_.2.1; omega⟩
  have bx_2 := zB.all x_2
  refine lv_aload_n hx hb dX7_openBracket_0 rfl (lv_at hl 0 rfl) ?_
  refine zk_Vi (As := []) (rest := []) (bytes := cX7_kind) (maxL := 2) (ret := (some .int)) Z h (ze_X7_kind l D k Γ L F s.heap.size th tk Bt nt Nt σ hth ktk htk p_tb p_au) (cwV 0 hg zv_RX7_65 rfl rfl rfl zd_X7_kind ⟨z_leR hRf (by decide), z_leR hRl (by decide)⟩) hth (by decide) rfl rfl hl.1 rfl (Nat.le_of_ble_eq_true rfl) dX7_openBracket_1 ⟨Nat.zero_le _, Nat.zero_le _⟩ (fun r_3 F_4 H locs w_5 h hfF_4 => ?_)
  obtain ⟨rfl, q_6, -⟩ := w_5
  have br_3 := zB.all r_3
  refine lv_bipush (v := 40) hx hb dX7_openBracket_4 (by decide) ?_
  refine lv_icmp_eq (tgt := 17) hx hb dX7_openBracket_6 (by decide) (fun c_7 => ?_) (fun c_7 => ?_)
  · have c_7 := z_eq c_7
    have br_3_8 : zB 40 40 r_3 := zB.eqL (a := 0) (b := 0) c_7 (zBc 40 40 (by decide))
    refine lv_iload_n hx hb dX7_openBracket_17 rfl (lv_at hl 1 rfl) ?_
    refine lv_bipush (v := 6) hx hb dX7_openBracket_18 (by decide) ?_
    refine lv_icmp_lt (tgt := 31) hx hb dX7_openBracket_20 (by decide) (fun c_9 => ?_) (fun c_9 => ?_)
    · have c_9 := z_lt c_9
      have bd_10 : zB 0 5 d := zB.ltL c_9 bd (zBc 6 6 (by decide)) (by decide)
      refine lv_aload_n hx hb dX7_openBracket_31 rfl (lv_at hl 0 rfl) ?_
      refine lv_dup hx hb dX7_openBracket_32 rfl ?_
      refine zt_getk (t := 7) (C := RX7) (T := TX7) (N := 12) Z h hth zin_7 rfl 6 kx_1 ⟨by decide, rfl, by decide⟩ (zm_RX7 (List.mem_of_getElem? (i := 9) rfl)) (fun _ h9 => h9) dX7_openBracket_33 ?_
      refine lv_iconst (v := 1) hx hb dX7_openBracket_36 (by decide) ?_
      refine lv_iadd hx hb dX7_openBracket_37 ?_
      refine zi_add (lo := 1) (hi := 601) bx_1 (zBc 1 1 (by decide)) (by decide) (fun x_11 bx_11 tx_11 => ?_)
      refine zt_put (t := 7) (C := RX7) (T := TX7) (N := 12) (v := .int x_11) Z h hth zin_7 tyX7 tyX7_ok nmX7 rfl 6 rfl ⟨by decide, rfl⟩ (zm_RX7 (List.mem_of_getElem? (i := 9) rfl)) (fun _ h9 => h9) rfl (zV.i (bx_11.w ⟨by decide, by decide⟩)) rfl rfl dX7_openBracket_38 (fun H locs F_12 h hfF_12 kF_12 => ?_)
      subst hQ
      exact W.vret hx hb hr (fun t ht hW => ⟨⟨F_12, rfl, ⟨(by unfold zop; rw [if_pos (by have := bd_10.1; have := bd_10.2; have := br_3_8.1; have := br_3_8.2; have := bsz_.1; have := bsz_.2; have := bx_11.1; have := bx_11.2; have := bx_2.1; have := bx_2.2; have : (1 : Int32).toInt = 1 := (by decide); have : (6 : Int32).toInt = 6 := (by decide); have : (40 : Int32).toInt = 40 := (by decide); omega), if_pos (by have := bd_10.1; have := bd_10.2; have := br_3_8.1; have := br_3_8.2; have := bsz_.1; have := bsz_.2; have := bx_11.1; have := bx_11.2; have := bx_2.1; have := bx_2.2; have : (1 : Int32).toInt = 1 := (by decide); have : (6 : Int32).toInt = 6 := (by decide); have : (40 : Int32).toInt = 40 := (by decide); omega)]; exact (zC1.adv (T := zTo Bt nt) p_au hfF_12 hth (by decide) kx_1 kF_12 (by have := bd_10.1; have := bd_10.2; have := bx_1.1; have := bx_1.2; have := br_3_8.1; have := br_3_8.2; have := bsz_.1; have := bsz_.2; have := bx_11.1; have := bx_11.2; have := bx_2.1; have := bx_2.2; have : (1 : Int32).toInt = 1 := (by decide); have : (6 : Int32).toInt = 6 := (by decide); have : (40 : Int32).toInt = 40 := (by decide); omega) hLs_ ⟨by have := bd_10.1; have := bd_10.2; have := bx_1.1; have := bx_1.2; have := br_3_8.1; have := br_3_8.2; have := bsz_.1; have := bsz_.2; have := bx_11.1; have := bx_11.2; have := bx_2.1; have := bx_2.2; have : (1 : Int32).toInt = 1 := (by decide); have : (6 : Int32).toInt = 6 := (by decide); have : (40 : Int32).toInt = 40 := (by decide); omega, by have := bd_10.1; have := bd_10.2; have := bx_1.1; have := bx_1.2; have := br_3_8.1; have := br_3_8.2; have := bsz_.1; have := bsz_.2; have := bx_11.1; have := bx_11.2; have := bx_2.1; have := bx_2.2; have : (1 : Int32).toInt = 1 := (by decide); have : (6 : Int32).toInt = 6 := (by decide); have : (40 : Int32).toInt = 40 := (by decide); omega⟩)), trivial⟩, by rw [ht]; exact h.1, h.2.1, (hfF_12.w (by decide))⟩, h.2.2.F ht⟩) h.2.2.2.2 dX7_openBracket_41
    · have c_9 := z_nlt c_9
      have bd_13 : zB 6 6 d := zB.leR c_9 (zBc 6 6 (by decide)) bd (by decide)
      refine lv_aload_n hx hb dX7_openBracket_23 rfl (lv_at hl 0 rfl) ?_
      refine lv_iconst (v := 3) hx hb dX7_openBracket_24 (by decide) ?_
      refine zk_Vv (As := [.int 3]) (rest := []) (bytes := cX7_fail) (maxL := 2) (ret := none) Z h (ze_X7_fail l D k Γ L F H.size th 3 tk Bt nt Nt σ hth ktk htk p_tb p_au (by have := bd_13.1; have := bd_13.2; have := br_3_8.1; have := br_3_8.2; have := bsz_.1; have := bsz_.2; have := bx_1.1; have := bx_1.2; have := bx_2.1; have := bx_2.2; have : (3 : Int32).toInt = 3 := (by decide); have : (6 : Int32).toInt = 6 := (by decide); have : (40 : Int32).toInt = 40 := (by decide); omega)) (cwV 1 hg zv_RX7_79 rfl rfl rfl zd_X7_fail ⟨z_leR hRf (by decide), z_leR hRl (by decide)⟩) hth (by decide) rfl rfl hl.1 rfl (Nat.le_of_ble_eq_true rfl) dX7_openBracket_25 ⟨Nat.zero_le _, Nat.zero_le _⟩ (fun F_14 H locs w_15 h hfF_14 => ?_)
      obtain ⟨q_16, -⟩ := w_15
      refine lv_goto (tgt := 41) hx hb dX7_openBracket_28 (by decide) ?_
      subst hQ
      exact W.vret hx hb hr (fun t ht hW => ⟨⟨F_14, rfl, ⟨(by unfold zop; rw [if_pos (by have := bd_13.1; have := bd_13.2; have := br_3_8.1; have := br_3_8.2; have := bsz_.1; have := bsz_.2; have : (6 : Int32).toInt = 6 := (by decide); have : (40 : Int32).toInt = 40 := (by decide); omega), if_neg (by have := bd_13.1; have := bd_13.2; have := br_3_8.1; have := br_3_8.2; have := bsz_.1; have := bsz_.2; have : (6 : Int32).toInt = 6 := (by decide); have : (40 : Int32).toInt = 40 := (by decide); omega)]; exact (by have h9 := q_16; rw [show (3 : Int32).toInt = 3 by decide] at h9; exact h9)), trivial⟩, by rw [ht]; exact h.1, h.2.1, hfF_14⟩, h.2.2.F ht⟩) h.2.2.2.2 dX7_openBracket_41
  · have c_7 := z_ne c_7
    refine lv_aload_n hx hb dX7_openBracket_9 rfl (lv_at hl 0 rfl) ?_
    refine lv_iconst (v := 1) hx hb dX7_openBracket_10 (by decide) ?_
    refine zk_Vv (As := [.int 1]) (rest := []) (bytes := cX7_fail) (maxL := 2) (ret := none) Z h (ze_X7_fail l D k Γ L F H.size th 1 tk Bt nt Nt σ hth ktk htk p_tb p_au (by have := bd.1; have := bd.2; have := br_3.1; have := br_3.2; have := bsz_.1; have := bsz_.2; have := bx_1.1; have := bx_1.2; have := bx_2.1; have := bx_2.2; have : (1 : Int32).toInt = 1 := (by decide); have : (40 : Int32).toInt = 40 := (by decide); omega)) (cwV 1 hg zv_RX7_79 rfl rfl rfl zd_X7_fail ⟨z_leR hRf (by decide), z_leR hRl (by decide)⟩) hth (by decide) rfl rfl hl.1 rfl (Nat.le_of_ble_eq_true rfl) dX7_openBracket_11 ⟨Nat.zero_le _, Nat.zero_le _⟩ (fun F_17 H locs w_18 h hfF_17 => ?_)
    obtain ⟨q_19, -⟩ := w_18
    refine lv_goto (tgt := 41) hx hb dX7_openBracket_14 (by decide) ?_
    subst hQ
    exact W.vret hx hb hr (fun t ht hW => ⟨⟨F_17, rfl, ⟨(by unfold zop; rw [if_neg (by have := bd.1; have := bd.2; have := br_3.1; have := br_3.2; have := bsz_.1; have := bsz_.2; have : (40 : Int32).toInt = 40 := (by decide); omega)]; exact (by have h9 := q_19; rw [show (1 : Int32).toInt = 1 by decide] at h9; exact h9)), trivial⟩, by rw [ht]; exact h.1, h.2.1, hfF_17⟩, h.2.2.F ht⟩) h.2.2.2.2 dX7_openBracket_41

set_option maxHeartbeats 4000000 in
set_option maxRecDepth 100000 in
theorem ze_X7_addCall (l : Launch) (D : va_G) (k : Nat → ClassId) (Γ : Nat → Option Nat) (L : List Nat) (F : Nat → va_E) (sz : Nat) (th : Nat) (nt_ : Int32) (pr : Nat) (cc : Int32) (fcv : Int32) (hth : Γ th = some 7) (bnt_ : zB (-1) 601 nt_) (kpr : zfld F th 3 = .ref pr) (hpr : Γ pr = some 6) (kcc : zfld F th 11 = .int cc) (bcc : zB 0 149 cc) (kfcv : zfld F pr 4 = .int fcv) (bfcv : zB 0 10 fcv) : Met l yX7_addCall zwX7_addCall ({ frames := 0, cells := 0, slots := 0, locals := 0 }) (va_Pc [.ref th, .int nt_] (zP D k Γ L F sz)) (va_Qi (fun (r : Int32) (u : Nat → va_E) => zB (-1) 149 r ∧ (∃ (c9 : Int32), zfld u th 11 = .int c9 ∧ zB 1 150 c9 ∧ (c9.toInt = cc.toInt + 1 ∧ r.toInt = cc.toInt)) ∧ zar u th 7 = upd (zar F th 7) (Int32.toNatClampNeg cc) nt_ ∧ zar u th 8 = zar F th 8 ∧ zar u th 10 = upd (zar F th 10) (Int32.toNatClampNeg cc) fcv ∧ zar u th 9 = zar F th 9 ∧ True) (zQ D k Γ L F [711, 10600, 16100]) (zA L sz)) 0 0 (zA L sz) := by
  refine Met.ofW (cc := cX7_addCall) (maxL := 2) (ret := (some .int)) (by decide) rfl ?_
  intro p e s m args below meth c s₁ B hml hv
  obtain ⟨rfl, hsz, hP, hK, hLn, hE, hI⟩ := hv
  have hx := B.exec
  have hb := B.bytes
  have hr := B.returns
  have hg : ∀ w ∈ zG, w.before _ s = true := fun w h9 => atoms_spec (ws := zwX7_addCall) B.pre w (List.mem_cons_of_mem _ h9)
  have hown : s.vm.findClass RX7 = some m.cls := findClass_of_methodNamed B.named
  have hlocks := B.notSynchronized
  subst hsz
  have Z : zC p m c cX7_addCall 2 s _ zG RX7 D k L := ⟨⟨hx, hb, hml, hown, hg⟩, hK, hLn, hE⟩
  have h : zH D k Γ L s F s.heap [] := ⟨hP, hI, va_S.rf⟩
  have hl := lv_entry ([.ref th, .int nt_]) (n := 2) (Nat.le_of_ble_eq_true rfl)
  rw [lg_entry_eq]
  generalize (lg_sl ([.ref th, .int nt_]) ++ List.replicate (2 - (lg_sl ([.ref th, .int nt_])).length) Slot.unset).toArray = ls at hl ⊢
  have hl : lv_has ls 2 [(0, .ref th), (1, .int nt_)] := hl
  clear hP hK hLn hE hI
  generalize hargs : ([.ref th, .int nt_] : List Value).toArray = args at *
  refine z_start (fun R Q hRf hRl hQ => ?_)
  have hRf : R.frames = 0 := hRf
  have hRl : R.locals = 0 := hRl
  have h9 := h
  have ad_1 := z_ad (j := 7) (c := 106) h.2.1 hth (by decide) rfl
  have ad_2 := z_ad (j := 8) (c := 107) h.2.1 hth (by decide) rfl
  have ad_3 := z_ad (j := 9) (c := 160) h.2.1 hth (by decide) rfl
  have ad_4 := z_ad (j := 10) (c := 161) h.2.1 hth (by decide) rfl
  refine lv_aload_n hx hb dX7_addCall_0 rfl (lv_at hl 0 rfl) ?_
  refine zt_getk (t := 7) (C := RX7) (T := TX7) (N := 12) Z h hth zin_7 rfl 11 kcc ⟨by decide, rfl, by decide⟩ (zm_RX7 (List.mem_of_getElem? (i := 10) rfl)) (fun _ h9 => h9) dX7_addCall_1 ?_
  refine lv_aload_n hx hb dX7_addCall_4 rfl (lv_at hl 0 rfl) ?_
  refine zt_getr (t := 7) (C := RX7) (T := TX7) (N := 12) Z h hth zin_7 rfl 7 rfl ⟨by decide, rfl⟩ (zm_RX7 (List.mem_of_getElem? (i := 122) rfl)) (fun _ h9 => h9) dX7_addCall_5 (fun a_5 ka_5 ha_5 => ?_)
  refine zt_alen (t := 106) Z h ha_5 ⟨by decide, rfl⟩ (by decide) (v := 150) rfl dX7_addCall_8 ?_
  refine lv_icmp_lt (tgt := 14) hx hb dX7_addCall_9 (by decide) (fun c_6 => ?_) (fun c_6 => ?_)
  · have c_6 := z_lt c_6
    refine lv_aload_n hx hb dX7_addCall_14 rfl (lv_at hl 0 rfl) ?_
    refine zt_getk (t := 7) (C := RX7) (T := TX7) (N := 12) Z h hth zin_7 rfl 7 ka_5 ⟨by decide, rfl, by decide⟩ (zm_RX7 (List.mem_of_getElem? (i := 122) rfl)) (fun _ h9 => h9) dX7_addCall_15 ?_
    refine lv_aload_n hx hb dX7_addCall_18 rfl (lv_at hl 0 rfl) ?_
    refine zt_getk (t := 7) (C := RX7) (T := TX7) (N := 12) Z h hth zin_7 rfl 11 kcc ⟨by decide, rfl, by decide⟩ (zm_RX7 (List.mem_of_getElem? (i := 10) rfl)) (fun _ h9 => h9) dX7_addCall_19 ?_
    refine lv_iload_n hx hb dX7_addCall_22 rfl (lv_at hl 1 rfl) ?_
    refine zt_iaste (t := 106) Z h ha_5 ⟨by decide, rfl⟩ bcc ⟨by decide, by decide⟩ bnt_ dX7_addCall_23 (fun H locs F_7 h hfF_7 eF_7 gF_7 => ?_)
    have uF_7 := (zar_st ka_5 (hfF_7.f hth 7 ⟨by decide, by decide⟩ ka_5) eF_7 gF_7).trans (congrArg (fun z => upd z (Int32.toNatClampNeg cc) nt_) (rfl : zar F th 7 = (zar F th 7)))
    refine lv_aload_n hx hb dX7_addCall_24 rfl (lv_at hl 0 rfl) ?_
    refine zt_getr (t := 7) (C := RX7) (T := TX7) (N := 12) Z h hth zin_7 rfl 10 rfl ⟨by decide, rfl⟩ (zm_RX7 (List.mem_of_getElem? (i := 123) rfl)) (fun _ h9 => h9) dX7_addCall_25 (fun a_8 ka_8 ha_8 => ?_)
    refine lv_aload_n hx hb dX7_addCall_28 rfl (lv_at hl 0 rfl) ?_
    refine zt_getk (t := 7) (C := RX7) (T := TX7) (N := 12) Z h hth zin_7 rfl 11 (hfF_7.f hth 11 ⟨by decide, by decide⟩ kcc) ⟨by decide, rfl, by decide⟩ (zm_RX7 (List.mem_of_getElem? (i := 10) rfl)) (fun _ h9 => h9) dX7_addCall_29 ?_
    refine lv_aload_n hx hb dX7_addCall_32 rfl (lv_at hl 0 rfl) ?_
    refine zt_getk (t := 7) (C := RX7) (T := TX7) (N := 12) Z h hth zin_7 rfl 3 (hfF_7.f hth 3 ⟨by decide, by decide⟩ kpr) ⟨by decide, rfl, by decide⟩ (zm_RX7 (List.mem_of_getElem? (i := 2) rfl)) (fun _ h9 => h9) dX7_addCall_33 ?_
    refine zt_getk (t := 6) (C := RX6) (T := TX6) (N := 6) Z h hpr zin_6 rfl 4 (hfF_7.f hpr 4 ⟨by decide, by decide⟩ kfcv) ⟨by decide, rfl, by decide⟩ (zm_RX7 (List.mem_of_getElem? (i := 28) rfl)) (fun _ h9 => h9) dX7_addCall_36 ?_
    have ar_10 : zar F_7 th 10 = (zar F th 10) := ((ad_4.ar hfF_7 hth ⟨by decide, by decide⟩ ⟨by decide, by decide⟩).trans rfl)
    refine zt_iaste (t := 161) Z h ha_8 ⟨by decide, rfl⟩ bcc ⟨by decide, by decide⟩ (bfcv.w ⟨by decide, by decide⟩) dX7_addCall_39 (fun H locs F_9 h hfF_9 eF_9 gF_9 => ?_)
    have uF_9 := (zar_st ka_8 (hfF_9.f hth 10 ⟨by decide, by decide⟩ ka_8) eF_9 gF_9).trans (congrArg (fun z => upd z (Int32.toNatClampNeg cc) fcv) ar_10)
    refine lv_aload_n hx hb dX7_addCall_40 rfl (lv_at hl 0 rfl) ?_
    refine lv_dup hx hb dX7_addCall_41 rfl ?_
    refine zt_getk (t := 7) (C := RX7) (T := TX7) (N := 12) Z h hth zin_7 rfl 11 (hfF_9.f hth 11 ⟨by decide, by decide⟩ (hfF_7.f hth 11 ⟨by decide, by decide⟩ kcc)) ⟨by decide, rfl, by decide⟩ (zm_RX7 (List.mem_of_getElem? (i := 10) rfl)) (fun _ h9 => h9) dX7_addCall_42 ?_
    refine lv_iconst (v := 1) hx hb dX7_addCall_45 (by decide) ?_
    refine lv_iadd hx hb dX7_addCall_46 ?_
    refine zi_add (lo := 1) (hi := 150) bcc (zBc 1 1 (by decide)) (by decide) (fun x_11 bx_11 tx_11 => ?_)
    refine zt_put (t := 7) (C := RX7) (T := TX7) (N := 12) (v := .int x_11) Z h hth zin_7 tyX7 tyX7_ok nmX7 rfl 11 rfl ⟨by decide, rfl⟩ (zm_RX7 (List.mem_of_getElem? (i := 10) rfl)) (fun _ h9 => h9) rfl (zV.i (bx_11.w ⟨by decide, by decide⟩)) rfl rfl dX7_addCall_47 (fun H locs F_12 h hfF_12 kF_12 => ?_)
    refine lv_aload_n hx hb dX7_addCall_50 rfl (lv_at hl 0 rfl) ?_
    refine zt_getk (t := 7) (C := RX7) (T := TX7) (N := 12) Z h hth zin_7 rfl 11 kF_12 ⟨by decide, rfl, by decide⟩ (zm_RX7 (List.mem_of_getElem? (i := 10) rfl)) (fun _ h9 => h9) dX7_addCall_51 ?_
    refine lv_iconst (v := 1) hx hb dX7_addCall_54 (by decide) ?_
    refine lv_isub hx hb dX7_addCall_55 ?_
    refine zi_sub (lo := 0) (hi := 149) bx_11 (zBc 1 1 (by decide)) (by decide) (fun x_13 bx_13 tx_13 => ?_)
    have ad_14 := ad_1.fr hfF_7 hth ⟨by decide, by decide⟩
    have ad_15 := ad_14.fr hfF_9 hth ⟨by decide, by decide⟩
    have ar_16 : zar F_12 th 7 = (upd (zar F th 7) (Int32.toNatClampNeg cc) nt_) := ((ad_15.ar hfF_12 hth ⟨by decide, by decide⟩ ⟨by decide, by decide⟩).trans ((ad_14.ar hfF_9 hth ⟨by decide, by decide⟩ ⟨by decide, by decide⟩).trans uF_7))
    have ad_17 := ad_2.fr hfF_7 hth ⟨by decide, by decide⟩
    have ad_18 := ad_17.fr hfF_9 hth ⟨by decide, by decide⟩
    have ar_19 : zar F_12 th 8 = (zar F th 8) := ((ad_18.ar hfF_12 hth ⟨by decide, by decide⟩ ⟨by decide, by decide⟩).trans ((ad_17.ar hfF_9 hth ⟨by decide, by decide⟩ ⟨by decide, by decide⟩).trans ((ad_2.ar hfF_7 hth ⟨by decide, by decide⟩ ⟨by decide, by decide⟩).trans rfl)))
    have ad_20 := ad_4.fr hfF_7 hth ⟨by decide, by decide⟩
    have ad_21 := ad_20.fr hfF_9 hth ⟨by decide, by decide⟩
    have ar_22 : zar F_12 th 10 = (upd (zar F th 10) (Int32.toNatClampNeg cc) fcv) := ((ad_21.ar hfF_12 hth ⟨by decide, by decide⟩ ⟨by decide, by decide⟩).trans uF_9)
    have ad_23 := ad_3.fr hfF_7 hth ⟨by decide, by decide⟩
    have ad_24 := ad_23.fr hfF_9 hth ⟨by decide, by decide⟩
    have ar_25 : zar F_12 th 9 = (zar F th 9) := ((ad_24.ar hfF_12 hth ⟨by decide, by decide⟩ ⟨by decide, by decide⟩).trans ((ad_23.ar hfF_9 hth ⟨by decide, by decide⟩ ⟨by decide, by decide⟩).trans ((ad_3.ar hfF_7 hth ⟨by decide, by decide⟩ ⟨by decide, by decide⟩).trans rfl)))
    subst hQ
    exact W.iret (v := x_13) hx hb hr (fun t ht hW => ⟨⟨x_13, F_12, rfl, ⟨(bx_13.w ⟨by decide, by decide⟩), ⟨x_11, kF_12, bx_11, (by have := bnt_.1; have := bnt_.2; have := bx_13.1; have := bx_13.2; have := bx_11.1; have := bx_11.2; have := bfcv.1; have := bfcv.2; have := bcc.1; have := bcc.2; have : (1 : Int32).toInt = 1 := (by decide); have : (150 : Int32).toInt = 150 := (by decide); omega)⟩, ar_16, ar_19, ar_22, ar_25, trivial⟩, by rw [ht]; exact h.1, h.2.1, (((hfF_7.w (by decide)).trans hfF_9 (by decide)).trans hfF_12 (by decide))⟩, h.2.2.F ht⟩) h.2.2.2.2 dX7_addCall_56
  · have c_6 := z_nlt c_6
    exact zB.noLe c_6 (zBc 150 150 (by decide)) bcc (by decide)
