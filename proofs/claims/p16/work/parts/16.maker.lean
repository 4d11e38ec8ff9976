set_option maxHeartbeats 4000000 in
set_option maxRecDepth 100000 in
theorem zc_X10_refuse (l : Launch) (D : va_G) (k : Nat → ClassId) (Γ : Nat → Option Nat) (L : List Nat) (F : Nat → va_E) (sz : Nat) (th : Nat) (wy : Int32) (hth : Γ th = some 10) : Met l yX10_refuse zwX10_refuse ({ frames := 0, cells := 0, slots := 0, locals := 0 }) (va_Pc [.ref th, .int wy] (zP D k Γ L F sz)) (va_Qi (fun (r : Int32) (u : Nat → va_E) => zB (-1) (-1) r ∧ True) (zQ D k Γ L F [1013]) (zA L sz)) 0 0 (zA L sz) := by
  refine Met.ofW (cc := cX10_refuse) (maxL := 2) (ret := (some .int)) (by decide) rfl ?_
  intro p e s m args below meth c s₁ B hml hv
  obtain ⟨rfl, hsz, hP, hK, hLn, hE, hI⟩ := hv
  have hx := B.exec
  have hb := B.bytes
  have hr := B.returns
  have hg : ∀ w ∈ zG, w.before _ s = true := fun w h9 => atoms_spec (ws := zwX10_refuse) B.pre w (List.mem_cons_of_mem _ h9)
  have hown : s.vm.findClass RX10 = some m.cls := findClass_of_methodNamed B.named
  have hlocks := B.notSynchronized
  subst hsz
  have Z : zC p m c cX10_refuse 2 s _ zG RX10 D k L := ⟨⟨hx, hb, hml, hown, hg⟩, hK, hLn, hE⟩
  have h : zH D k Γ L s F s.heap [] := ⟨hP, hI, va_S.rf⟩
  have hl := lv_entry ([.ref th, .int wy]) (n := 2) (Nat.le_of_ble_eq_true rfl)
  rw [lg_entry_eq]
  generalize (lg_sl ([.ref th, .int wy]) ++ List.replicate (2 - (lg_sl ([.ref th, .int wy])).length) Slot.unset).toArray = ls at hl ⊢
  have hl : lv_has ls 2 [(0, .ref th), (1, .int wy)] := hl
  clear hP hK hLn hE hI
  generalize hargs : ([.ref th, .int wy] : List Value).toArray = args at *
  refine z_start (fun R Q hRf hRl hQ => ?_)
  have hRf : R.frames = 0 := hRf
  have hRl : R.locals = 0 := hRl
  refine lv_aload_n hx hb dX10_refuse_0 rfl (lv_at hl 0 rfl) ?_
  refine lv_iload_n hx hb dX10_refuse_1 rfl (lv_at hl 1 rfl) ?_
  refine zt_put (t := 10) (C := RX10) (T := TX10) (N := 14) (v := .int wy) Z h hth zin_10 tyX10 tyX10_ok nmX10 rfl 13 rfl ⟨by decide, rfl⟩ (zm_RX10 (List.mem_of_getElem? (i := 25) rfl)) (fun _ h9 => h9) rfl (zV.i (zB.all wy)) rfl rfl dX10_refuse_2 (fun H locs F_1 h hfF_1 kF_1 => ?_)
  refine lv_iconst (v := (-1)) hx hb dX10_refuse_5 (by decide) ?_
  subst hQ
  exact W.iret (v := (-1)) hx hb hr (fun t ht hW => ⟨⟨(-1), F_1, rfl, ⟨(zB.of ⟨by decide, by decide⟩), trivial⟩, by rw [ht]; exact h.1, h.2.1, hfF_1⟩, h.2.2.F ht⟩) h.2.2.2.2 dX10_refuse_6

set_option maxHeartbeats 4000000 in
set_option maxRecDepth 100000 in
theorem zc_X10_accept (l : Launch) (D : va_G) (k : Nat → ClassId) (Γ : Nat → Option Nat) (L : List Nat) (F : Nat → va_E) (sz : Nat) (th : Nat) (an : Int32) (hth : Γ th = some 10) : Met l yX10_accept zwX10_accept ({ frames := 0, cells := 0, slots := 0, locals := 0 }) (va_Pc [.ref th, .int an] (zP D k Γ L F sz)) (va_Qi (fun (r : Int32) (u : Nat → va_E) => r.toInt = an.toInt ∧ True) (zQ D k Γ L F [1013]) (zA L sz)) 0 0 (zA L sz) := by
  refine Met.ofW (cc := cX10_accept) (maxL := 2) (ret := (some .int)) (by decide) rfl ?_
  intro p e s m args below meth c s₁ B hml hv
  obtain ⟨rfl, hsz, hP, hK, hLn, hE, hI⟩ := hv
  have hx := B.exec
  have hb := B.bytes
  have hr := B.returns
  have hg : ∀ w ∈ zG, w.before _ s = true := fun w h9 => atoms_spec (ws := zwX10_accept) B.pre w (List.mem_cons_of_mem _ h9)
  have hown : s.vm.findClass RX10 = some m.cls := findClass_of_methodNamed B.named
  have hlocks := B.notSynchronized
  subst hsz
  have Z : zC p m c cX10_accept 2 s _ zG RX10 D k L := ⟨⟨hx, hb, hml, hown, hg⟩, hK, hLn, hE⟩
  have h : zH D k Γ L s F s.heap [] := ⟨hP, hI, va_S.rf⟩
  have hl := lv_entry ([.ref th, .int an]) (n := 2) (Nat.le_of_ble_eq_true rfl)
  rw [lg_entry_eq]
  generalize (lg_sl ([.ref th, .int an]) ++ List.replicate (2 - (lg_sl ([.ref th, .int an])).length) Slot.unset).toArray = ls at hl ⊢
  have hl : lv_has ls 2 [(0, .ref th), (1, .int an)] := hl
  clear hP hK hLn hE hI
  generalize hargs : ([.ref th, .int an] : List Value).toArray = args at *
  refine z_start (fun R Q hRf hRl hQ => ?_)
  have hRf : R.frames = 0 := hRf
  have hRl : R.locals = 0 := hRl
  refine lv_aload_n hx hb dX10_accept_0 rfl (lv_at hl 0 rfl) ?_
  refine lv_iconst (v := 0) hx hb dX10_accept_1 (by decide) ?_
  refine zt_put (t := 10) (C := RX10) (T := TX10) (N := 14) (v := .int 0) Z h hth zin_10 tyX10 tyX10_ok nmX10 rfl 13 rfl ⟨by decide, rfl⟩ (zm_RX10 (List.mem_of_getElem? (i := 25) rfl)) (fun _ h9 => h9) rfl (zV.i (zB.of ⟨by decide, by decide⟩)) rfl rfl dX10_accept_2 (fun H locs F_1 h hfF_1 kF_1 => ?_)
  refine lv_iload_n hx hb dX10_accept_5 rfl (lv_at hl 1 rfl) ?_
  subst hQ
  exact W.iret (v := an) hx hb hr (fun t ht hW => ⟨⟨an, F_1, rfl, ⟨rfl, trivial⟩, by rw [ht]; exact h.1, h.2.1, hfF_1⟩, h.2.2.F ht⟩) h.2.2.2.2 dX10_accept_6

set_option maxHeartbeats 4000000 in
set_option maxRecDepth 100000 in
theorem zc_X10_feedNumber (l : Launch) (D : va_G) (k : Nat → ClassId) (Γ : Nat → Option Nat) (L : List Nat) (F : Nat → va_E) (sz : Nat) (th : Nat) (nu : Int32) (tc : Nat) (fe : Int32) (hth : Γ th = some 10) (ktc : zfld F th 0 = .ref tc) (htc : Γ tc = some 100) (kfe : zfld F th 1 = .int fe) (bfe : zB 0 596 fe) : Met l yX10_feedNumber zwX10_feedNumber ({ frames := 0, cells := 0, slots := 0, locals := 0 }) (va_Pc [.ref th, .int nu] (zP D k Γ L F sz)) (va_Qv (fun (u : Nat → va_E) => (∃ (f9 : Int32), zfld u th 1 = .int f9 ∧ zB 0 600 f9 ∧ (f9.toInt = fe.toInt + 4)) ∧ zel u tc = zf4 (zel F tc) fe.toInt nu 4 ∧ True) (zQ D k Γ L F [1001, 10000]) (zA L sz)) 0 0 (zA L sz) := by
  refine Met.ofW (cc := cX10_feedNumber) (maxL := 3) (ret := none) (by decide) rfl ?_
  intro p e s m args below meth c s₁ B hml hv
  obtain ⟨rfl, hsz, hP, hK, hLn, hE, hI⟩ := hv
  have hx := B.exec
  have hb := B.bytes
  have hr := B.returns
  have hg : ∀ w ∈ zG, w.before _ s = true := fun w h9 => atoms_spec (ws := zwX10_feedNumber) B.pre w (List.mem_cons_of_mem _ h9)
  have hown : s.vm.findClass RX10 = some m.cls := findClass_of_methodNamed B.named
  have hlocks := B.notSynchronized
  subst hsz
  have Z : zC p m c cX10_feedNumber 3 s _ zG RX10 D k L := ⟨⟨hx, hb, hml, hown, hg⟩, hK, hLn, hE⟩
  have h : zH D k Γ L s F s.heap [] := ⟨hP, hI, va_S.rf⟩
  have hl := lv_entry ([.ref th, .int nu]) (n := 3) (Nat.le_of_ble_eq_true rfl)
  rw [lg_entry_eq]
  generalize (lg_sl ([.ref th, .int nu]) ++ List.replicate (3 - (lg_sl ([.ref th, .int nu])).length) Slot.unset).toArray = ls at hl ⊢
  have hl : lv_has ls 3 [(0, .ref th), (1, .int nu)] := hl
  clear hP hK hLn hE hI
  generalize hargs : ([.ref th, .int nu] : List Value).toArray = args at *
  refine z_start (fun R Q hRf hRl hQ => ?_)
  have hRf : R.frames = 0 := hRf
  have hRl : R.locals = 0 := hRl
  have h9 := h
  refine lv_bipush (v := 24) hx hb dX10_feedNumber_0 (by decide) ?_
  refine lv_istore_n (lv' := [(2, .int 24), (0, .ref th), (1, .int nu)]) hx hb dX10_feedNumber_2 rfl hl (by decide) rfl (fun ls hl => ?_)
  have j_j3_1 : ∀ (n : Nat) (ls : Array Slot) (y2_j3_1 : Int32) (kf_j3_1 : Int32) (F_2 : Nat → va_E) (H : Heap) (locs : List Loc), lv_has ls 3 [(2, .int y2_j3_1), (0, .ref th), (1, .int nu)] → zB (-8) 24 y2_j3_1 → zH D k Γ L s F_2 H locs → zFr Γ [1001, 10000] F F_2 → zfld F_2 th 1 = .int kf_j3_1 → zB 0 600 kf_j3_1 → (8 * kf_j3_1.toInt = 8 * fe.toInt + 24 - y2_j3_1.toInt) → (zel F_2 tc = zf4 (zel F tc) fe.toInt nu (kf_j3_1.toInt - fe.toInt)) → (y2_j3_1.toInt + 2147483648).toNat = n → W p l e R s m args below meth c H locs 0 0 Q (F0 m 3 ls []) := by
    intro n
    induction n using Nat.strongRecOn with
    | _ n ih_j3_1 =>
      intro ls y2_j3_1 kf_j3_1 F_2 H locs hl by2_j3_1 h hfF_2 hkf_j3_1 bkf_j3_1 r0_j3_1 r1_j3_1 hn_j3_1
      refine lv_iload_n hx hb dX10_feedNumber_3 rfl (lv_at hl 0 rfl) ?_
      refine lv_if_lt (tgt := 55) hx hb dX10_feedNumber_4 (by decide) (fun c_3 => ?_) (fun c_3 => ?_)
      · have c_3 := z_lt c_3
        have by2_j3_1_4 : zB (-8) (-1) y2_j3_1 := zB.ltL c_3 by2_j3_1 (zBc 0 0 (by decide)) (by decide)
        subst hQ
        exact W.vret hx hb hr (fun t ht hW => ⟨⟨F_2, rfl, ⟨⟨kf_j3_1, hkf_j3_1, bkf_j3_1, (by have := by2_j3_1_4.1; have := by2_j3_1_4.2; have := (zB.all nu).1; have := (zB.all nu).2; have := bkf_j3_1.1; have := bkf_j3_1.2; have := bfe.1; have := bfe.2; have : (0 : Int32).toInt = 0 := (by decide); omega)⟩, (by rw [r1_j3_1, show kf_j3_1.toInt - fe.toInt = 4 by have := by2_j3_1_4.1; have := by2_j3_1_4.2; have := (zB.all nu).1; have := (zB.all nu).2; have := bkf_j3_1.1; have := bkf_j3_1.2; have := bfe.1; have := bfe.2; have : (0 : Int32).toInt = 0 := (by decide); omega]), trivial⟩, by rw [ht]; exact h.1, h.2.1, hfF_2⟩, h.2.2.F ht⟩) h.2.2.2.2 dX10_feedNumber_55
      · have c_3 := z_nlt c_3
        have by2_j3_1_5 : zB 0 24 y2_j3_1 := zB.leR c_3 (zBc 0 0 (by decide)) by2_j3_1 (by decide)
        refine lv_aload_n hx hb dX10_feedNumber_7 rfl (lv_at hl 1 rfl) ?_
        refine zt_getk (t := 10) (C := RX10) (T := TX10) (N := 14) Z h hth zin_10 rfl 1 hkf_j3_1 ⟨by decide, rfl, by decide⟩ (zm_RX10 (List.mem_of_getElem? (i := 2) rfl)) (fun _ h9 => h9) dX10_feedNumber_8 ?_
        refine lv_if_lt (tgt := 49) hx hb dX10_feedNumber_11 (by decide) (fun c_6 => ?_) (fun c_6 => ?_)
        · have c_6 := z_lt c_6
          exact zB.noLt c_6 bkf_j3_1 (zBc 0 0 (by decide)) (by decide)
        · have c_6 := z_nlt c_6
          refine lv_aload_n hx hb dX10_feedNumber_14 rfl (lv_at hl 1 rfl) ?_
          refine zt_getk (t := 10) (C := RX10) (T := TX10) (N := 14) Z h hth zin_10 rfl 1 hkf_j3_1 ⟨by decide, rfl, by decide⟩ (zm_RX10 (List.mem_of_getElem? (i := 2) rfl)) (fun _ h9 => h9) dX10_feedNumber_15 ?_
          refine lv_aload_n hx hb dX10_feedNumber_18 rfl (lv_at hl 1 rfl) ?_
          refine zt_getk (t := 10) (C := RX10) (T := TX10) (N := 14) Z h hth zin_10 rfl 0 (hfF_2.f hth 0 ⟨by decide, by decide⟩ ktc) ⟨by decide, rfl, by decide⟩ (zm_RX10 (List.mem_of_getElem? (i := 14) rfl)) (fun _ h9 => h9) dX10_feedNumber_19 ?_
          refine zt_alen (t := 100) Z h htc ⟨by decide, rfl⟩ (by decide) (v := 600) rfl dX10_feedNumber_22 ?_
          refine lv_icmp_ge (tgt := 49) hx hb dX10_feedNumber_23 (by decide) (fun c_7 => ?_) (fun c_7 => ?_)
          · have c_7 := z_le c_7
            have bkf_j3_1_8 : zB 600 600 kf_j3_1 := zB.leR c_7 (zBc 600 600 (by decide)) bkf_j3_1 (by decide)
            exfalso
            have := by2_j3_1_5.1; have := by2_j3_1_5.2; have := (zB.all nu).1; have := (zB.all nu).2; have := bkf_j3_1_8.1; have := bkf_j3_1_8.2; have := bfe.1; have := bfe.2; have : (0 : Int32).toInt = 0 := (by decide); have : (600 : Int32).toInt = 600 := (by decide); omega
          · have c_7 := z_nle c_7
            have bkf_j3_1_9 : zB 0 599 kf_j3_1 := zB.ltL c_7 bkf_j3_1 (zBc 600 600 (by decide)) (by decide)
            refine lv_aload_n hx hb dX10_feedNumber_26 rfl (lv_at hl 1 rfl) ?_
            refine zt_getk (t := 10) (C := RX10) (T := TX10) (N := 14) Z h hth zin_10 rfl 0 (hfF_2.f hth 0 ⟨by decide, by decide⟩ ktc) ⟨by decide, rfl, by decide⟩ (zm_RX10 (List.mem_of_getElem? (i := 14) rfl)) (fun _ h9 => h9) dX10_feedNumber_27 ?_
            refine lv_aload_n hx hb dX10_feedNumber_30 rfl (lv_at hl 1 rfl) ?_
            refine zt_getk (t := 10) (C := RX10) (T := TX10) (N := 14) Z h hth zin_10 rfl 1 hkf_j3_1 ⟨by decide, rfl, by decide⟩ (zm_RX10 (List.mem_of_getElem? (i := 2) rfl)) (fun _ h9 => h9) dX10_feedNumber_31 ?_
            refine lv_iload_n hx hb dX10_feedNumber_34 rfl (lv_at hl 2 rfl) ?_
            refine lv_iload_n hx hb dX10_feedNumber_35 rfl (lv_at hl 0 rfl) ?_
            refine lv_ishr hx hb dX10_feedNumber_36 ?_
            refine zi_any (fun x_10 bx_10 ex_10 => ?_)
            refine lv_i2b hx hb dX10_feedNumber_37 rfl ?_
            refine zi_any (fun x_11 bx_11 ex_11 => ?_)
            refine zt_baste (t := 100) Z h htc ⟨by decide, rfl⟩ bkf_j3_1_9 ⟨by decide, by decide⟩ dX10_feedNumber_38 (fun H locs F_12 h hfF_12 eF_12 gF_12 => ?_)
            refine lv_aload_n hx hb dX10_feedNumber_39 rfl (lv_at hl 1 rfl) ?_
            refine lv_dup hx hb dX10_feedNumber_40 rfl ?_
            refine zt_getk (t := 10) (C := RX10) (T := TX10) (N := 14) Z h hth zin_10 rfl 1 (hfF_12.f hth 1 ⟨by decide, by decide⟩ hkf_j3_1) ⟨by decide, rfl, by decide⟩ (zm_RX10 (List.mem_of_getElem? (i := 2) rfl)) (fun _ h9 => h9) dX10_feedNumber_41 ?_
            refine lv_iconst (v := 1) hx hb dX10_feedNumber_44 (by decide) ?_
            refine lv_iadd hx hb dX10_feedNumber_45 ?_
            refine zi_add (lo := 1) (hi := 600) bkf_j3_1_9 (zBc 1 1 (by decide)) (by decide) (fun x_13 bx_13 tx_13 => ?_)
            refine zt_put (t := 10) (C := RX10) (T := TX10) (N := 14) (v := .int x_13) Z h hth zin_10 tyX10 tyX10_ok nmX10 rfl 1 rfl ⟨by decide, rfl⟩ (zm_RX10 (List.mem_of_getElem? (i := 2) rfl)) (fun _ h9 => h9) rfl (zV.i (bx_13.w ⟨by decide, by decide⟩)) rfl rfl dX10_feedNumber_46 (fun H locs F_14 h hfF_14 kF_14 => ?_)
            obtain ⟨x_15, ex_15, bx_15, tx_15⟩ := z_inc (n := (-8)) (lo := (-8)) (hi := 16) by2_j3_1_5 (by decide)
            refine lv_iinc (v := x_15) (lv' := [(2, .int x_15), (0, .ref th), (1, .int nu)]) hx hb dX10_feedNumber_49 hl (k := 0) rfl ex_15 (by decide) rfl (fun ls hl => ?_)
            refine lv_goto (tgt := 3) hx hb dX10_feedNumber_52 (by decide) ?_
            exact ih_j3_1 _ (by have := bx_15.1; have := bx_15.2; have := (zB.all nu).1; have := (zB.all nu).2; have := bx_13.1; have := bx_13.2; have := bfe.1; have := bfe.2; have : (0 : Int32).toInt = 0 := (by decide); have : (1 : Int32).toInt = 1 := (by decide); have : (600 : Int32).toInt = 600 := (by decide); have := by2_j3_1.1; have := by2_j3_1.2; omega) ls x_15 x_13 F_14 H locs (lv_sub hl [0, 1, 2] rfl) (bx_15.w ⟨by decide, by decide⟩) h ((hfF_2.trans hfF_12 (by decide)).trans hfF_14 (by decide)) kF_14 (bx_13.w ⟨by decide, by decide⟩) (by have := bx_15.1; have := bx_15.2; have := (zB.all nu).1; have := (zB.all nu).2; have := bx_13.1; have := bx_13.2; have := bfe.1; have := bfe.2; have : (0 : Int32).toInt = 0 := (by decide); have : (1 : Int32).toInt = 1 := (by decide); have : (600 : Int32).toInt = 600 := (by decide); omega) ((hfF_14.elf htc ⟨by decide, by decide⟩).trans (zf4_s (sh := y2_j3_1) r1_j3_1 eF_12 (by rw [ex_11, ex_10]) gF_12 (by have := bx_15.1; have := bx_15.2; have := (zB.all nu).1; have := (zB.all nu).2; have := bkf_j3_1_9.1; have := bkf_j3_1_9.2; have := by2_j3_1_5.1; have := by2_j3_1_5.2; have := bx_13.1; have := bx_13.2; have := bfe.1; have := bfe.2; have : (0 : Int32).toInt = 0 := (by decide); have : (1 : Int32).toInt = 1 := (by decide); have : (600 : Int32).toInt = 600 := (by decide); omega) (by have := bx_15.1; have := bx_15.2; have := (zB.all nu).1; have := (zB.all nu).2; have := bkf_j3_1_9.1; have := bkf_j3_1_9.2; have := by2_j3_1_5.1; have := by2_j3_1_5.2; have := bx_13.1; have := bx_13.2; have := bfe.1; have := bfe.2; have : (0 : Int32).toInt = 0 := (by decide); have : (1 : Int32).toInt = 1 := (by decide); have : (600 : Int32).toInt = 600 := (by decide); omega) (by have := bx_15.1; have := bx_15.2; have := (zB.all nu).1; have := (zB.all nu).2; have := bkf_j3_1_9.1; have := bkf_j3_1_9.2; have := by2_j3_1_5.1; have := by2_j3_1_5.2; have := bx_13.1; have := bx_13.2; have := bfe.1; have := bfe.2; have : (0 : Int32).toInt = 0 := (by decide); have : (1 : Int32).toInt = 1 := (by decide); have : (600 : Int32).toInt = 600 := (by decide); omega) (by have := bx_15.1; have := bx_15.2; have := (zB.all nu).1; have := (zB.all nu).2; have := bkf_j3_1_9.1; have := bkf_j3_1_9.2; have := by2_j3_1_5.1; have := by2_j3_1_5.2; have := bx_13.1; have := bx_13.2; have := bfe.1; have := bfe.2; have : (0 : Int32).toInt = 0 := (by decide); have : (1 : Int32).toInt = 1 := (by decide); have : (600 : Int32).toInt = 600 := (by decide); omega) (by have := bx_15.1; have := bx_15.2; have := (zB.all nu).1; have := (zB.all nu).2; have := bkf_j3_1_9.1; have := bkf_j3_1_9.2; have := by2_j3_1_5.1; have := by2_j3_1_5.2; have := bx_13.1; have := bx_13.2; have := bfe.1; have := bfe.2; have : (0 : Int32).toInt = 0 := (by decide); have : (1 : Int32).toInt = 1 := (by decide); have : (600 : Int32).toInt = 600 := (by decide); omega))) rfl
  exact j_j3_1 _ ls 24 fe F s.heap [] (lv_sub hl [0, 1, 2] rfl) (zB.of ⟨by decide, by decide⟩) h zFr.rf kfe (bfe.w ⟨by decide, by decide⟩) (by have := (zB.all nu).1; have := (zB.all nu).2; have := bfe.1; have := bfe.2; have : (24 : Int32).toInt = 24 := (by decide); omega) (zf4_0 (by have := (zB.all nu).1; have := (zB.all nu).2; have := bfe.1; have := bfe.2; have : (24 : Int32).toInt = 24 := (by decide); omega)).symm rfl

set_option maxHeartbeats 4000000 in
set_option maxRecDepth 100000 in
theorem zc_X10_feed (l : Launch) (D : va_G) (k : Nat → ClassId) (Γ : Nat → Option Nat) (L : List Nat) (F : Nat → va_E) (sz : Nat) (th : Nat) (na : Int32) (nb : Int32) (nc : Int32) (nd : Int32) (ne : Int32) (tc : Nat) (fe : Int32) (hth : Γ th = some 10) (ktc : zfld F th 0 = .ref tc) (htc : Γ tc = some 100) (kfe : zfld F th 1 = .int fe) (bfe : zB 0 600 fe) : Met l yX10_feed zwX10_feed ({ frames := 1, cells := 0, slots := 0, locals := 22 }) (va_Pc [.ref th, .int na, .int nb, .int nc, .int nd, .int ne] (zP D k Γ L F sz)) (va_Qi (fun (r : Int32) (u : Nat → va_E) => (∃ (f9 : Int32), zfld u th 1 = .int f9 ∧ zB 0 600 f9 ∧ ((fe.toInt + 20 ≤ 600 → f9.toInt = fe.toInt + 20 ∧ r.toInt = f9.toInt) ∧ (600 < fe.toInt + 20 → f9.toInt = fe.toInt ∧ r.toInt = -1))) ∧ ((fe.toInt + 20 ≤ 600 → zel u tc = zf20 (zel F tc) fe.toInt na nb nc nd ne) ∧ (600 < fe.toInt + 20 → zel u tc = zel F tc)) ∧ True) (zQ D k Γ L F [1001, 1013, 10000]) (zA L sz)) 0 0 (zA L sz) := by
  refine Met.ofW (cc := cX10_feed) (maxL := 6) (ret := (some .int)) (by decide) rfl ?_
  intro p e s m args below meth c s₁ B hml hv
  obtain ⟨rfl, hsz, hP, hK, hLn, hE, hI⟩ := hv
  have hx := B.exec
  have hb := B.bytes
  have hr := B.returns
  have hg : ∀ w ∈ zG, w.before _ s = true := fun w h9 => atoms_spec (ws := zwX10_feed) B.pre w (List.mem_cons_of_mem _ h9)
  have hown : s.vm.findClass RX10 = some m.cls := findClass_of_methodNamed B.named
  have hlocks := B.notSynchronized
  subst hsz
  have Z : zC p m c cX10_feed 6 s _ zG RX10 D k L := ⟨⟨hx, hb, hml, hown, hg⟩, hK, hLn, hE⟩
  have h : zH D k Γ L s F s.heap [] := ⟨hP, hI, va_S.rf⟩
  have hl := lv_entry ([.ref th, .int na, .int nb, .int nc, .int nd, .int ne]) (n := 6) (Nat.le_of_ble_eq_true rfl)
  rw [lg_entry_eq]
  generalize (lg_sl ([.ref th, .int na, .int nb, .int nc, .int nd, .int ne]) ++ List.replicate (6 - (lg_sl ([.ref th, .int na, .int nb, .int nc, .int nd, .int ne])).length) Slot.unset).toArray = ls at hl ⊢
  have hl : lv_has ls 6 [(0, .ref th), (1, .int na), (2, .int nb), (3, .int nc), (4, .int nd), (5, .int ne)] := hl
  clear hP hK hLn hE hI
  generalize hargs : ([.ref th, .int na, .int nb, .int nc, .int nd, .int ne] : List Value).toArray = args at *
  refine z_start (fun R Q hRf hRl hQ => ?_)
  have hRf : R.frames = 1 := hRf
  have hRl : R.locals = 22 := hRl
  have h9 := h
  refine lv_aload_n hx hb dX10_feed_0 rfl (lv_at hl 0 rfl) ?_
  refine zt_getk (t := 10) (C := RX10) (T := TX10) (N := 14) Z h hth zin_10 rfl 1 kfe ⟨by decide, rfl, by decide⟩ (zm_RX10 (List.mem_of_getElem? (i := 2) rfl)) (fun _ h9 => h9) dX10_feed_1 ?_
  refine lv_bipush (v := 20) hx hb dX10_feed_4 (by decide) ?_
  refine lv_iadd hx hb dX10_feed_6 ?_
  refine zi_add (lo := 20) (hi := 620) bfe (zBc 20 20 (by decide)) (by decide) (fun x_1 bx_1 tx_1 => ?_)
  refine lv_sipush (v := 600) hx hb dX10_feed_7 (by decide) ?_
  refine lv_icmp_le (tgt := 19) hx hb dX10_feed_10 (by decide) (fun c_2 => ?_) (fun c_2 => ?_)
  · have c_2 := z_le c_2
    have bx_1_3 : zB 20 600 x_1 := zB.leL c_2 bx_1 (zBc 600 600 (by decide)) (by decide)
    refine lv_aload_n hx hb dX10_feed_19 rfl (lv_at hl 0 rfl) ?_
    refine lv_iload_n hx hb dX10_feed_20 rfl (lv_at hl 1 rfl) ?_
    refine zk_Vv (As := [.int na]) (rest := []) (bytes := cX10_feedNumber) (maxL := 3) (ret := none) Z h (zc_X10_feedNumber l D k Γ L F s.heap.size th na tc fe hth ktc htc kfe (zB.of ⟨by have := (zB.all na).1; have := (zB.all na).2; have := (zB.all nb).1; have := (zB.all nb).2; have := (zB.all nc).1; have := (zB.all nc).2; have := (zB.all nd).1; have := (zB.all nd).2; have := (zB.all ne).1; have := (zB.all ne).2; have := bfe.1; have := bfe.2; have : (20 : Int32).toInt = 20 := (by decide); have : (600 : Int32).toInt = 600 := (by decide); omega, by have := (zB.all na).1; have := (zB.all na).2; have := (zB.all nb).1; have := (zB.all nb).2; have := (zB.all nc).1; have := (zB.all nc).2; have := (zB.all nd).1; have := (zB.all nd).2; have := (zB.all ne).1; have := (zB.all ne).2; have := bfe.1; have := bfe.2; have : (20 : Int32).toInt = 20 := (by decide); have : (600 : Int32).toInt = 600 := (by decide); omega⟩)) (cwV 1 hg zv_RX10_72 rfl rfl rfl zd_X10_feedNumber ⟨z_leR hRf (by decide), z_leR hRl (by decide)⟩) hth (by decide) rfl rfl hl.1 rfl (Nat.le_of_ble_eq_true rfl) dX10_feed_21 ⟨Nat.zero_le _, Nat.zero_le _⟩ (fun F_4 H locs w_5 h hfF_4 => ?_)
    obtain ⟨⟨x_7, kx_7, bx_7, q_6⟩, q_8, -⟩ := w_5
    have zf_9 : zel F_4 tc = (zf4 (zel F tc) fe.toInt na 4) := by rw [q_8]
    refine lv_aload_n hx hb dX10_feed_24 rfl (lv_at hl 0 rfl) ?_
    refine lv_iload_n hx hb dX10_feed_25 rfl (lv_at hl 2 rfl) ?_
    refine zk_Vv (As := [.int nb]) (rest := []) (bytes := cX10_feedNumber) (maxL := 3) (ret := none) Z h (zc_X10_feedNumber l D k Γ L F_4 H.size th nb tc x_7 hth (hfF_4.f hth 0 ⟨by decide, by decide⟩ ktc) htc kx_7 (zB.of ⟨by have := (zB.all na).1; have := (zB.all na).2; have := (zB.all nb).1; have := (zB.all nb).2; have := (zB.all nc).1; have := (zB.all nc).2; have := (zB.all nd).1; have := (zB.all nd).2; have := (zB.all ne).1; have := (zB.all ne).2; have := bx_7.1; have := bx_7.2; have := bfe.1; have := bfe.2; have : (20 : Int32).toInt = 20 := (by decide); have : (600 : Int32).toInt = 600 := (by decide); omega, by have := (zB.all na).1; have := (zB.all na).2; have := (zB.all nb).1; have := (zB.all nb).2; have := (zB.all nc).1; have := (zB.all nc).2; have := (zB.all nd).1; have := (zB.all nd).2; have := (zB.all ne).1; have := (zB.all ne).2; have := bx_7.1; have := bx_7.2; have := bfe.1; have := bfe.2; have : (20 : Int32).toInt = 20 := (by decide); have : (600 : Int32).toInt = 600 := (by decide); omega⟩)) (cwV 1 hg zv_RX10_72 rfl rfl rfl zd_X10_feedNumber ⟨z_leR hRf (by decide), z_leR hRl (by decide)⟩) hth (by decide) rfl rfl hl.1 rfl (Nat.le_of_ble_eq_true rfl) dX10_feed_26 ⟨Nat.zero_le _, Nat.zero_le _⟩ (fun F_10 H locs w_11 h hfF_10 => ?_)
    obtain ⟨⟨x_13, kx_13, bx_13, q_12⟩, q_14, -⟩ := w_11
    have zf_15 : zel F_10 tc = (zf4 (zf4 (zel F tc) fe.toInt na 4) (fe.toInt + 4) nb 4) := by rw [q_14, zf_9, show x_7.toInt = fe.toInt + 4 by have := (zB.all na).1; have := (zB.all na).2; have := (zB.all nb).1; have := (zB.all nb).2; have := (zB.all nc).1; have := (zB.all nc).2; have := (zB.all nd).1; have := (zB.all nd).2; have := (zB.all ne).1; have := (zB.all ne).2; have := bx_7.1; have := bx_7.2; have := bx_13.1; have := bx_13.2; have := bfe.1; have := bfe.2; have : (20 : Int32).toInt = 20 := (by decide); have : (600 : Int32).toInt = 600 := (by decide); omega]
    refine lv_aload_n hx hb dX10_feed_29 rfl (lv_at hl 0 rfl) ?_
    refine lv_iload_n hx hb dX10_feed_30 rfl (lv_at hl 3 rfl) ?_
    refine zk_Vv (As := [.int nc]) (rest := []) (bytes := cX10_feedNumber) (maxL := 3) (ret := none) Z h (zc_X10_feedNumber l D k Γ L F_10 H.size th nc tc x_13 hth (hfF_10.f hth 0 ⟨by decide, by decide⟩ (hfF_4.f hth 0 ⟨by decide, by decide⟩ ktc)) htc kx_13 (zB.of ⟨by have := (zB.all na).1; have := (zB.all na).2; have := (zB.all nb).1; have := (zB.all nb).2; have := (zB.all nc).1; have := (zB.all nc).2; have := (zB.all nd).1; have := (zB.all nd).2; have := (zB.all ne).1; have := (zB.all ne).2; have := bx_13.1; have := bx_13.2; have := bfe.1; have := bfe.2; have : (20 : Int32).toInt = 20 := (by decide); have : (600 : Int32).toInt = 600 := (by decide); omega, by have := (zB.all na).1; have := (zB.all na).2; have := (zB.all nb).1; have := (zB.all nb).2; have := (zB.all nc).1; have := (zB.all nc).2; have := (zB.all nd).1; have := (zB.all nd).2; have := (zB.all ne).1; have := (zB.all ne).2; have := bx_13.1; have := bx_13.2; have := bfe.1; have := bfe.2; have : (20 : Int32).toInt = 20 := (by decide); have : (600 : Int32).toInt = 600 := (by decide); omega⟩)) (cwV 1 hg zv_RX10_72 rfl rfl rfl zd_X10_feedNumber ⟨z_leR hRf (by decide), z_leR hRl (by decide)⟩) hth (by decide) rfl rfl hl.1 rfl (Nat.le_of_ble_eq_true rfl) dX10_feed_31 ⟨Nat.zero_le _, Nat.zero_le _⟩ (fun F_16 H locs w_17 h hfF_16 => ?_)
    obtain ⟨⟨x_19, kx_19, bx_19, q_18⟩, q_20, -⟩ := w_17
    have zf_21 : zel F_16 tc = (zf4 (zf4 (zf4 (zel F tc) fe.toInt na 4) (fe.toInt + 4) nb 4) (fe.toInt + 8) nc 4) := by rw [q_20, zf_15, show x_13.toInt = fe.toInt + 8 by have := (zB.all na).1; have := (zB.all na).2; have := (zB.all nb).1; have := (zB.all nb).2; have := (zB.all nc).1; have := (zB.all nc).2; have := (zB.all nd).1; have := (zB.all nd).2; have := (zB.all ne).1; have := (zB.all ne).2; have := bx_13.1; have := bx_13.2; have := bx_19.1; have := bx_19.2; have := bfe.1; have := bfe.2; have : (20 : Int32).toInt = 20 := (by decide); have : (600 : Int32).toInt = 600 := (by decide); omega]
    refine lv_aload_n hx hb dX10_feed_34 rfl (lv_at hl 0 rfl) ?_
    refine lv_iload hx hb dX10_feed_35 (lv_at hl 4 rfl) ?_
    refine zk_Vv (As := [.int nd]) (rest := []) (bytes := cX10_feedNumber) (maxL := 3) (ret := none) Z h (zc_X10_feedNumber l D k Γ L F_16 H.size th nd tc x_19 hth (hfF_16.f hth 0 ⟨by decide, by decide⟩ (hfF_10.f hth 0 ⟨by decide, by decide⟩ (hfF_4.f hth 0 ⟨by decide, by decide⟩ ktc))) htc kx_19 (zB.of ⟨by have := (zB.all na).1; have := (zB.all na).2; have := (zB.all nb).1; have := (zB.all nb).2; have := (zB.all nc).1; have := (zB.all nc).2; have := (zB.all nd).1; have := (zB.all nd).2; have := (zB.all ne).1; have := (zB.all ne).2; have := bx_19.1; have := bx_19.2; have := bfe.1; have := bfe.2; have : (20 : Int32).toInt = 20 := (by decide); have : (600 : Int32).toInt = 600 := (by decide); omega, by have := (zB.all na).1; have := (zB.all na).2; have := (zB.all nb).1; have := (zB.all nb).2; have := (zB.all nc).1; have := (zB.all nc).2; have := (zB.all nd).1; have := (zB.all nd).2; have := (zB.all ne).1; have := (zB.all ne).2; have := bx_19.1; have := bx_19.2; have := bfe.1; have := bfe.2; have : (20 : Int32).toInt = 20 := (by decide); have : (600 : Int32).toInt = 600 := (by decide); omega⟩)) (cwV 1 hg zv_RX10_72 rfl rfl rfl zd_X10_feedNumber ⟨z_leR hRf (by decide), z_leR hRl (by decide)⟩) hth (by decide) rfl rfl hl.1 rfl (Nat.le_of_ble_eq_true rfl) dX10_feed_37 ⟨Nat.zero_le _, Nat.zero_le _⟩ (fun F_22 H locs w_23 h hfF_22 => ?_)
    obtain ⟨⟨x_25, kx_25, bx_25, q_24⟩, q_26, -⟩ := w_23
    have zf_27 : zel F_22 tc = (zf4 (zf4 (zf4 (zf4 (zel F tc) fe.toInt na 4) (fe.toInt + 4) nb 4) (fe.toInt + 8) nc 4) (fe.toInt + 12) nd 4) := by rw [q_26, zf_21, show x_19.toInt = fe.toInt + 12 by have := (zB.all na).1; have := (zB.all na).2; have := (zB.all nb).1; have := (zB.all nb).2; have := (zB.all nc).1; have := (zB.all nc).2; have := (zB.all nd).1; have := (zB.all nd).2; have := (zB.all ne).1; have := (zB.all ne).2; have := bx_19.1; have := bx_19.2; have := bx_25.1; have := bx_25.2; have := bfe.1; have := bfe.2; have : (20 : Int32).toInt = 20 := (by decide); have : (600 : Int32).toInt = 600 := (by decide); omega]
    refine lv_aload_n hx hb dX10_feed_40 rfl (lv_at hl 0 rfl) ?_
    refine lv_iload hx hb dX10_feed_41 (lv_at hl 5 rfl) ?_
    refine zk_Vv (As := [.int ne]) (rest := []) (bytes := cX10_feedNumber) (maxL := 3) (ret := none) Z h (zc_X10_feedNumber l D k Γ L F_22 H.size th ne tc x_25 hth (hfF_22.f hth 0 ⟨by decide, by decide⟩ (hfF_16.f hth 0 ⟨by decide, by decide⟩ (hfF_10.f hth 0 ⟨by decide, by decide⟩ (hfF_4.f hth 0 ⟨by decide, by decide⟩ ktc)))) htc kx_25 (zB.of ⟨by have := (zB.all na).1; have := (zB.all na).2; have := (zB.all nb).1; have := (zB.all nb).2; have := (zB.all nc).1; have := (zB.all nc).2; have := (zB.all nd).1; have := (zB.all nd).2; have := (zB.all ne).1; have := (zB.all ne).2; have := bx_25.1; have := bx_25.2; have := bfe.1; have := bfe.2; have : (20 : Int32).toInt = 20 := (by decide); have : (600 : Int32).toInt = 600 := (by decide); omega, by have := (zB.all na).1; have := (zB.all na).2; have := (zB.all nb).1; have := (zB.all nb).2; have := (zB.all nc).1; have := (zB.all nc).2; have := (zB.all nd).1; have := (zB.all nd).2; have := (zB.all ne).1; have := (zB.all ne).2; have := bx_25.1; have := bx_25.2; have := bfe.1; have := bfe.2; have : (20 : Int32).toInt = 20 := (by decide); have : (600 : Int32).toInt = 600 := (by decide); omega⟩)) (cwV 1 hg zv_RX10_72 rfl rfl rfl zd_X10_feedNumber ⟨z_leR hRf (by decide), z_leR hRl (by decide)⟩) hth (by decide) rfl rfl hl.1 rfl (Nat.le_of_ble_eq_true rfl) dX10_feed_43 ⟨Nat.zero_le _, Nat.zero_le _⟩ (fun F_28 H locs w_29 h hfF_28 => ?_)
    obtain ⟨⟨x_31, kx_31, bx_31, q_30⟩, q_32, -⟩ := w_29
    have zf_33 : zel F_28 tc = (zf4 (zf4 (zf4 (zf4 (zf4 (zel F tc) fe.toInt na 4) (fe.toInt + 4) nb 4) (fe.toInt + 8) nc 4) (fe.toInt + 12) nd 4) (fe.toInt + 16) ne 4) := by rw [q_32, zf_27, show x_25.toInt = fe.toInt + 16 by have := (zB.all na).1; have := (zB.all na).2; have := (zB.all nb).1; have := (zB.all nb).2; have := (zB.all nc).1; have := (zB.all nc).2; have := (zB.all nd).1; have := (zB.all nd).2; have := (zB.all ne).1; have := (zB.all ne).2; have := bx_25.1; have := bx_25.2; have := bx_31.1; have := bx_31.2; have := bfe.1; have := bfe.2; have : (20 : Int32).toInt = 20 := (by decide); have : (600 : Int32).toInt = 600 := (by decide); omega]
    refine lv_aload_n hx hb dX10_feed_46 rfl (lv_at hl 0 rfl) ?_
    refine lv_aload_n hx hb dX10_feed_47 rfl (lv_at hl 0 rfl) ?_
    refine zt_getk (t := 10) (C := RX10) (T := TX10) (N := 14) Z h hth zin_10 rfl 1 kx_31 ⟨by decide, rfl, by decide⟩ (zm_RX10 (List.mem_of_getElem? (i := 2) rfl)) (fun _ h9 => h9) dX10_feed_48 ?_
    refine zk_Vi (As := [.int x_31]) (rest := []) (bytes := cX10_accept) (maxL := 2) (ret := (some .int)) Z h (zc_X10_accept l D k Γ L F_28 H.size th x_31 hth) (cwV 1 hg zv_RX10_76 rfl rfl rfl zd_X10_accept ⟨z_leR hRf (by decide), z_leR hRl (by decide)⟩) hth (by decide) rfl rfl hl.1 rfl (Nat.le_of_ble_eq_true rfl) dX10_feed_51 ⟨Nat.zero_le _, Nat.zero_le _⟩ (fun r_34 F_35 H locs w_36 h hfF_35 => ?_)
    obtain ⟨q_37, -⟩ := w_36
    have br_34 := zB.all r_34
    subst hQ
    exact W.iret (v := r_34) hx hb hr (fun t ht hW => ⟨⟨r_34, F_35, rfl, ⟨⟨x_31, (hfF_35.f hth 1 ⟨by decide, by decide⟩ kx_31), bx_31, (by have := (zB.all na).1; have := (zB.all na).2; have := (zB.all nb).1; have := (zB.all nb).2; have := (zB.all nc).1; have := (zB.all nc).2; have := (zB.all nd).1; have := (zB.all nd).2; have := (zB.all ne).1; have := (zB.all ne).2; have := br_34.1; have := br_34.2; have := bx_31.1; have := bx_31.2; have := bfe.1; have := bfe.2; have : (20 : Int32).toInt = 20 := (by decide); have : (600 : Int32).toInt = 600 := (by decide); omega)⟩, ⟨fun _ => (hfF_35.elf htc ⟨by decide, by decide⟩).trans zf_33, fun h9 => by exfalso; have := (zB.all na).1; have := (zB.all na).2; have := (zB.all nb).1; have := (zB.all nb).2; have := (zB.all nc).1; have := (zB.all nc).2; have := (zB.all nd).1; have := (zB.all nd).2; have := (zB.all ne).1; have := (zB.all ne).2; have := br_34.1; have := br_34.2; have := bx_31.1; have := bx_31.2; have := bfe.1; have := bfe.2; have : (20 : Int32).toInt = 20 := (by decide); have : (600 : Int32).toInt = 600 := (by decide); omega⟩, trivial⟩, by rw [ht]; exact h.1, h.2.1, ((((((hfF_4.w (by decide)).trans hfF_10 (by decide)).trans hfF_16 (by decide)).trans hfF_22 (by decide)).trans hfF_28 (by decide)).trans hfF_35 (by decide))⟩, h.2.2.F ht⟩) h.2.2.2.2 dX10_feed_54
  · have c_2 := z_nle c_2
    have bx_1_38 : zB 601 620 x_1 := zB.ltR c_2 (zBc 600 600 (by decide)) bx_1 (by decide)
    refine lv_aload_n hx hb dX10_feed_13 rfl (lv_at hl 0 rfl) ?_
    refine lv_iconst (v := 3) hx hb dX10_feed_14 (by decide) ?_
    refine zk_Vi (As := [.int 3]) (rest := []) (bytes := cX10_refuse) (maxL := 2) (ret := (some .int)) Z h (zc_X10_refuse l D k Γ L F s.heap.size th 3 hth) (cwV 1 hg zv_RX10_68 rfl rfl rfl zd_X10_refuse ⟨z_leR hRf (by decide), z_leR hRl (by decide)⟩) hth (by decide) rfl rfl hl.1 rfl (Nat.le_of_ble_eq_true rfl) dX10_feed_15 ⟨Nat.zero_le _, Nat.zero_le _⟩ (fun r_39 F_40 H locs w_41 h hfF_40 => ?_)
    obtain ⟨br_39, -⟩ := w_41
    subst hQ
    exact W.iret (v := r_39) hx hb hr (fun t ht hW => ⟨⟨r_39, F_40, rfl, ⟨⟨fe, (hfF_40.f hth 1 ⟨by decide, by decide⟩ kfe), bfe, (by have := (zB.all na).1; have := (zB.all na).2; have := (zB.all nb).1; have := (zB.all nb).2; have := (zB.all nc).1; have := (zB.all nc).2; have := (zB.all nd).1; have := (zB.all nd).2; have := (zB.all ne).1; have := (zB.all ne).2; have := br_39.1; have := br_39.2; have := bfe.1; have := bfe.2; have : (20 : Int32).toInt = 20 := (by decide); have : (600 : Int32).toInt = 600 := (by decide); omega)⟩, ⟨fun h9 => by exfalso; have := (zB.all na).1; have := (zB.all na).2; have := (zB.all nb).1; have := (zB.all nb).2; have := (zB.all nc).1; have := (zB.all nc).2; have := (zB.all nd).1; have := (zB.all nd).2; have := (zB.all ne).1; have := (zB.all ne).2; have := br_39.1; have := br_39.2; have := bfe.1; have := bfe.2; have : (20 : Int32).toInt = 20 := (by decide); have : (600 : Int32).toInt = 600 := (by decide); omega, fun _ => (((hfF_40.w (by decide)) : zFr Γ [1001, 1013] F F_40).elf htc ⟨by decide, by decide⟩)⟩, trivial⟩, by rw [ht]; exact h.1, h.2.1, (hfF_40.w (by decide))⟩, h.2.2.F ht⟩) h.2.2.2.2 dX10_feed_18

set_option maxHeartbeats 4000000 in
set_option maxRecDepth 100000 in
theorem zc_X10_turnToSpare (l : Launch) (D : va_G) (k : Nat → ClassId) (Γ : Nat → Option Nat) (L : List Nat) (F : Nat → va_E) (sz : Nat) (th : Nat) (pn : Nat) (sp : Nat) (to : Nat) (ch : Nat) (gr : Nat) (fc : Int32) (fb : Int32) (tk : Nat) (Bt : Nat → Int32) (nt : Nat) (Nt : Nat) (fa : Nat → Nat) (nw : Nat → Int) (ot : Nat) (Bo : Nat → Int32) (no_ : Nat) (No : Nat) (fo : Nat → Nat) (nb : Nat → Int) (hth : Γ th = some 10) (kpn : zfld F th 2 = .ref pn) (hpn : Γ pn = some 6) (ksp : zfld F th 3 = .ref sp) (hsp : Γ sp = some 6) (kto : zfld F th 10 = .ref to) (hto : Γ to = some 9) (kch : zfld F th 9 = .ref ch) (hch : Γ ch = some 0) (kgr : zfld F th 11 = .ref gr) (hgr : Γ gr = some 3) (kfc : zfld F sp 4 = .int fc) (bfc : zB 0 10 fc) (kfb : zfld F pn 4 = .int fb) (bfb : zB 0 10 fb) (hr0 : zNp Γ F sp tk fa Bt nt Nt fc.toInt nw) (hr1 : zPS Γ F pn fo ∧ (0 < fb.toInt → zNp Γ F pn ot fo Bo no_ No fb.toInt nb)) : Met l yX10_turnToSpare zwX10_turnToSpare ({ frames := 6, cells := 0, slots := 0, locals := 140 }) (va_Pc [.ref th] (zP D k Γ L F sz)) (va_Qv (fun (u : Nat → va_E) => zfld u th 2 = .ref sp ∧ zfld u th 3 = .ref pn ∧ (∃ x, zfld u to 4 = .int x ∧ zB 0 0 x) ∧ (∃ x, zfld u ch 2 = .int x ∧ zB 0 0 x) ∧ (∃ x, zfld u th 8 = .int x ∧ zB 0 0 x) ∧ (∃ (x9 : Int32), zfld u gr 2 = .int x9 ∧ zB (-2147483648) 2147483647 x9 ∧ (x9.toInt = zgn fc.toInt nw nb fb.toInt.toNat)) ∧ True) (zQ D k Γ L F [2, 302, 902, 903, 904, 1002, 1003, 1008, 16200, 16300]) (zA L sz)) 0 0 (zA L sz) := by
  refine Met.ofW (cc := cX10_turnToSpare) (maxL := 2) (ret := none) (by decide) rfl ?_
  intro p e s m args below meth c s₁ B hml hv
  obtain ⟨rfl, hsz, hP, hK, hLn, hE, hI⟩ := hv
  have hx := B.exec
  have hb := B.bytes
  have hr := B.returns
  have hg : ∀ w ∈ zG, w.before _ s = true := fun w h9 => atoms_spec (ws := zwX10_turnToSpare) B.pre w (List.mem_cons_of_mem _ h9)
  have hown : s.vm.findClass RX10 = some m.cls := findClass_of_methodNamed B.named
  have hlocks := B.notSynchronized
  subst hsz
  have Z : zC p m c cX10_turnToSpare 2 s _ zG RX10 D k L := ⟨⟨hx, hb, hml, hown, hg⟩, hK, hLn, hE⟩
  have h : zH D k Γ L s F s.heap [] := ⟨hP, hI, va_S.rf⟩
  have hl := lv_entry ([.ref th]) (n := 2) (Nat.le_of_ble_eq_true rfl)
  rw [lg_entry_eq]
  generalize (lg_sl ([.ref th]) ++ List.replicate (2 - (lg_sl ([.ref th])).length) Slot.unset).toArray = ls at hl ⊢
  have hl : lv_has ls 2 [(0, .ref th)] := hl
  clear hP hK hLn hE hI
  generalize hargs : ([.ref th] : List Value).toArray = args at *
  refine z_start (fun R Q hRf hRl hQ => ?_)
  have hRf : R.frames = 6 := hRf
  have hRl : R.locals = 140 := hRl
  have h9 := h
  refine lv_aload_n hx hb dX10_turnToSpare_0 rfl (lv_at hl 0 rfl) ?_
  refine zt_getk (t := 10) (C := RX10) (T := TX10) (N := 14) Z h hth zin_10 rfl 2 kpn ⟨by decide, rfl, by decide⟩ (zm_RX10 (List.mem_of_getElem? (i := 21) rfl)) (fun _ h9 => h9) dX10_turnToSpare_1 ?_
  refine lv_astore_n (lv' := [(1, .ref pn), (0, .ref th)]) hx hb dX10_turnToSpare_4 rfl hl (by decide) rfl (fun ls hl => ?_)
  refine lv_aload_n hx hb dX10_turnToSpare_5 rfl (lv_at hl 1 rfl) ?_
  refine lv_aload_n hx hb dX10_turnToSpare_6 rfl (lv_at hl 1 rfl) ?_
  refine zt_getk (t := 10) (C := RX10) (T := TX10) (N := 14) Z h hth zin_10 rfl 3 ksp ⟨by decide, rfl, by decide⟩ (zm_RX10 (List.mem_of_getElem? (i := 15) rfl)) (fun _ h9 => h9) dX10_turnToSpare_7 ?_
  refine zt_put (t := 10) (C := RX10) (T := TX10) (N := 14) (v := .ref sp) Z h hth zin_10 tyX10 tyX10_ok nmX10 rfl 2 rfl ⟨by decide, rfl⟩ (zm_RX10 (List.mem_of_getElem? (i := 21) rfl)) (fun _ h9 => h9) rfl trivial rfl rfl dX10_turnToSpare_10 (fun H locs F_1 h hfF_1 kF_1 => ?_)
  refine lv_aload_n hx hb dX10_turnToSpare_13 rfl (lv_at hl 1 rfl) ?_
  refine lv_aload_n hx hb dX10_turnToSpare_14 rfl (lv_at hl 0 rfl) ?_
  refine zt_put (t := 10) (C := RX10) (T := TX10) (N := 14) (v := .ref pn) Z h hth zin_10 tyX10 tyX10_ok nmX10 rfl 3 rfl ⟨by decide, rfl⟩ (zm_RX10 (List.mem_of_getElem? (i := 15) rfl)) (fun _ h9 => h9) rfl trivial rfl rfl dX10_turnToSpare_15 (fun H locs F_2 h hfF_2 kF_2 => ?_)
  refine lv_aload_n hx hb dX10_turnToSpare_18 rfl (lv_at hl 1 rfl) ?_
  refine lv_iconst (v := 0) hx hb dX10_turnToSpare_19 (by decide) ?_
  refine zt_put (t := 10) (C := RX10) (T := TX10) (N := 14) (v := .int 0) Z h hth zin_10 tyX10 tyX10_ok nmX10 rfl 8 rfl ⟨by decide, rfl⟩ (zm_RX10 (List.mem_of_getElem? (i := 49) rfl)) (fun _ h9 => h9) rfl (zV.i (zB.of ⟨by decide, by decide⟩)) rfl rfl dX10_turnToSpare_20 (fun H locs F_3 h hfF_3 kF_3 => ?_)
  refine lv_aload_n hx hb dX10_turnToSpare_23 rfl (lv_at hl 1 rfl) ?_
  refine zt_getk (t := 10) (C := RX10) (T := TX10) (N := 14) Z h hth zin_10 rfl 10 (hfF_3.f hth 10 ⟨by decide, by decide⟩ (hfF_2.f hth 10 ⟨by decide, by decide⟩ (hfF_1.f hth 10 ⟨by decide, by decide⟩ kto))) ⟨by decide, rfl, by decide⟩ (zm_RX10 (List.mem_of_getElem? (i := 80) rfl)) (fun _ h9 => h9) dX10_turnToSpare_24 ?_
  refine zk_Vv (As := []) (rest := []) (bytes := cX9_forget) (maxL := 1) (ret := none) Z h (zc_X9_forget l D k Γ L F_3 H.size to hto) (cwV 0 hg zv_RX10_263 rfl rfl rfl zd_X9_forget ⟨z_leR hRf (by decide), z_leR hRl (by decide)⟩) hto (by decide) rfl rfl hl.1 rfl (Nat.le_of_ble_eq_true rfl) dX10_turnToSpare_27 ⟨Nat.zero_le _, Nat.zero_le _⟩ (fun F_4 H locs w_5 h hfF_4 => ?_)
  obtain ⟨⟨x_7, kx_7, bx_7⟩, -⟩ := w_5
  refine lv_aload_n hx hb dX10_turnToSpare_30 rfl (lv_at hl 1 rfl) ?_
  refine zt_getk (t := 10) (C := RX10) (T := TX10) (N := 14) Z h hth zin_10 rfl 9 (hfF_4.f hth 9 ⟨by decide, by decide⟩ (hfF_3.f hth 9 ⟨by decide, by decide⟩ (hfF_2.f hth 9 ⟨by decide, by decide⟩ (hfF_1.f hth 9 ⟨by decide, by decide⟩ kch)))) ⟨by decide, rfl, by decide⟩ (zm_RX10 (List.mem_of_getElem? (i := 75) rfl)) (fun _ h9 => h9) dX10_turnToSpare_31 ?_
  refine zk_Vv (As := []) (rest := []) (bytes := cX0_forget) (maxL := 1) (ret := none) Z h (zc_X0_forget l D k Γ L F_4 H.size ch hch) (cwV 0 hg zv_RX10_266 rfl rfl rfl zd_X0_forget ⟨z_leR hRf (by decide), z_leR hRl (by decide)⟩) hch (by decide) rfl rfl hl.1 rfl (Nat.le_of_ble_eq_true rfl) dX10_turnToSpare_34 ⟨Nat.zero_le _, Nat.zero_le _⟩ (fun F_8 H locs w_9 h hfF_8 => ?_)
  obtain ⟨⟨x_11, kx_11, bx_11⟩, -⟩ := w_9
  refine lv_aload_n hx hb dX10_turnToSpare_37 rfl (lv_at hl 1 rfl) ?_
  refine zt_getk (t := 10) (C := RX10) (T := TX10) (N := 14) Z h hth zin_10 rfl 11 (hfF_8.f hth 11 ⟨by decide, by decide⟩ (hfF_4.f hth 11 ⟨by decide, by decide⟩ (hfF_3.f hth 11 ⟨by decide, by decide⟩ (hfF_2.f hth 11 ⟨by decide, by decide⟩ (hfF_1.f hth 11 ⟨by decide, by decide⟩ kgr))))) ⟨by decide, rfl, by decide⟩ (zm_RX10 (List.mem_of_getElem? (i := 90) rfl)) (fun _ h9 => h9) dX10_turnToSpare_38 ?_
  refine lv_aload_n hx hb dX10_turnToSpare_41 rfl (lv_at hl 0 rfl) ?_
  refine lv_aload_n hx hb dX10_turnToSpare_42 rfl (lv_at hl 1 rfl) ?_
  refine zt_getk (t := 10) (C := RX10) (T := TX10) (N := 14) Z h hth zin_10 rfl 2 (hfF_8.f hth 2 ⟨by decide, by decide⟩ (hfF_4.f hth 2 ⟨by decide, by decide⟩ (hfF_3.f hth 2 ⟨by decide, by decide⟩ (hfF_2.f hth 2 ⟨by decide, by decide⟩ kF_1)))) ⟨by decide, rfl, by decide⟩ (zm_RX10 (List.mem_of_getElem? (i := 21) rfl)) (fun _ h9 => h9) dX10_turnToSpare_43 ?_
  refine zk_Vv (As := [.ref pn, .ref sp]) (rest := []) (bytes := cX3_compare) (maxL := 5) (ret := none) Z h (ze_X3_compare l D k Γ L F_8 H.size gr pn sp fc fb tk Bt nt Nt fa nw ot Bo no_ No fo nb hgr hpn hsp (hfF_8.f hsp 4 ⟨by decide, by decide⟩ (hfF_4.f hsp 4 ⟨by decide, by decide⟩ (hfF_3.f hsp 4 ⟨by decide, by decide⟩ (hfF_2.f hsp 4 ⟨by decide, by decide⟩ (hfF_1.f hsp 4 ⟨by decide, by decide⟩ kfc))))) bfc (hfF_8.f hpn 4 ⟨by decide, by decide⟩ (hfF_4.f hpn 4 ⟨by decide, by decide⟩ (hfF_3.f hpn 4 ⟨by decide, by decide⟩ (hfF_2.f hpn 4 ⟨by decide, by decide⟩ (hfF_1.f hpn 4 ⟨by decide, by decide⟩ kfb))))) bfb (hr0.fr ((((((hfF_1.w (by decide)).trans hfF_2 (by decide)).trans hfF_3 (by decide)).trans hfF_4 (by decide)).trans hfF_8 (by decide)) : zFr Γ [2, 302, 902, 903, 904, 1002, 1003, 1008, 16200, 16300] F F_8) hsp (by have := bfc.2; omega) (by unfold zNpM; decide)) ⟨hr1.1.fr ((((((hfF_1.w (by decide)).trans hfF_2 (by decide)).trans hfF_3 (by decide)).trans hfF_4 (by decide)).trans hfF_8 (by decide)) : zFr Γ [2, 302, 902, 903, 904, 1002, 1003, 1008, 16200, 16300] F F_8) hpn (by decide), fun h9 => (hr1.2 h9).fr ((((((hfF_1.w (by decide)).trans hfF_2 (by decide)).trans hfF_3 (by decide)).trans hfF_4 (by decide)).trans hfF_8 (by decide)) : zFr Γ [2, 302, 902, 903, 904, 1002, 1003, 1008, 16200, 16300] F F_8) hpn (by have := bfb.2; omega) (by unfold zNpM; decide)⟩) (cwV 2 hg zv_RX10_267 rfl rfl rfl zd_X3_compare ⟨z_leR hRf (by decide), z_leR hRl (by decide)⟩) hgr (by decide) rfl rfl hl.1 rfl (Nat.le_of_ble_eq_true rfl) dX10_turnToSpare_46 ⟨Nat.zero_le _, Nat.zero_le _⟩ (fun F_12 H locs w_13 h hfF_12 => ?_)
  obtain ⟨⟨x_15, kx_15, bx_15, q_14⟩, -⟩ := w_13
  subst hQ
  exact W.vret hx hb hr (fun t ht hW => ⟨⟨F_12, rfl, ⟨(hfF_12.f hth 2 ⟨by decide, by decide⟩ (hfF_8.f hth 2 ⟨by decide, by decide⟩ (hfF_4.f hth 2 ⟨by decide, by decide⟩ (hfF_3.f hth 2 ⟨by decide, by decide⟩ (hfF_2.f hth 2 ⟨by decide, by decide⟩ kF_1))))), (hfF_12.f hth 3 ⟨by decide, by decide⟩ (hfF_8.f hth 3 ⟨by decide, by decide⟩ (hfF_4.f hth 3 ⟨by decide, by decide⟩ (hfF_3.f hth 3 ⟨by decide, by decide⟩ kF_2)))), ⟨x_7, (hfF_12.f hto 4 ⟨by decide, by decide⟩ (hfF_8.f hto 4 ⟨by decide, by decide⟩ kx_7)), bx_7⟩, ⟨x_11, (hfF_12.f hch 2 ⟨by decide, by decide⟩ kx_11), bx_11⟩, ⟨0, (hfF_12.f hth 8 ⟨by decide, by decide⟩ (hfF_8.f hth 8 ⟨by decide, by decide⟩ (hfF_4.f hth 8 ⟨by decide, by decide⟩ kF_3))), (zB.of ⟨by decide, by decide⟩)⟩, ⟨x_15, kx_15, bx_15, (by have := bx_15.1; have := bx_15.2; have := bfc.1; have := bfc.2; have := bfb.1; have := bfb.2; have := bx_7.1; have := bx_7.2; have := bx_11.1; have := bx_11.2; have : (0 : Int32).toInt = 0 := (by decide); omega)⟩, trivial⟩, by rw [ht]; exact h.1, h.2.1, ((((((hfF_1.w (by decide)).trans hfF_2 (by decide)).trans hfF_3 (by decide)).trans hfF_4 (by decide)).trans hfF_8 (by decide)).trans hfF_12 (by decide))⟩, h.2.2.F ht⟩) h.2.2.2.2 dX10_turnToSpare_49

set_option maxHeartbeats 4000000 in
set_option maxRecDepth 100000 in
theorem zc_X10_program (l : Launch) (D : va_G) (k : Nat → ClassId) (Γ : Nat → Option Nat) (L : List Nat) (F : Nat → va_E) (sz : Nat) (th : Nat) (q : Int32) (tc : Nat) (pn : Nat) (sp : Nat) (to : Nat) (ch : Nat) (fe : Int32) (fa : Nat → Nat) (Ln : List Nat) (Ls : List Nat) (la : Nat → Nat) (gr : Nat) (fb : Int32) (ot : Nat) (Bo : Nat → Int32) (no_ : Nat) (No : Nat) (fo : Nat → Nat) (nb : Nat → Int) (hth : Γ th = some 10) (ktc : zfld F th 0 = .ref tc) (htc : Γ tc = some 100) (kpn : zfld F th 2 = .ref pn) (hpn : Γ pn = some 6) (ksp : zfld F th 3 = .ref sp) (hsp : Γ sp = some 6) (kto : zfld F th 10 = .ref to) (hto : Γ to = some 9) (kch : zfld F th 9 = .ref ch) (hch : Γ ch = some 0) (kfe : zfld F th 1 = .int fe) (bfe : zB 0 600 fe) (hr0 : zPS Γ F sp fa) (hr1 : zF2 Γ F pn sp Ln Ls) (hr2 : zLS Γ F sp la) (kgr : zfld F th 11 = .ref gr) (hgr : Γ gr = some 3) (kfb : zfld F pn 4 = .int fb) (bfb : zB 0 10 fb) (hr3 : zPS Γ F pn fo ∧ (0 < fb.toInt → zNp Γ F pn ot fo Bo no_ No fb.toInt nb)) (hr4 : zPD Γ F fa) : Met l yX10_program zwX10_program ({ frames := 140, cells := 0, slots := 0, locals := 5668 }) (va_Pc [.ref th, .int q] (zP D k Γ L F sz)) (va_Qi (fun (r : Int32) (u : Nat → va_E) => (∃ (f9 : Int32), zfld u th 1 = .int f9 ∧ zB 0 600 f9 ∧ ((0 ≤ q.toInt ∧ q.toInt ≤ fe.toInt → f9.toInt = 0) ∧ (q.toInt < 0 ∨ fe.toInt < q.toInt → f9.toInt = fe.toInt))) ∧ ((0 ≤ q.toInt ∧ q.toInt ≤ fe.toInt → ∃ (k9 : Int32) (d9 : zDat), zfld u th 12 = .int k9 ∧ zOut (zTo (zel F tc) q.toInt.toNat) k9.toInt d9 ∧ ((k9.toInt = 0 ∧ r.toInt = (zfc d9 : Int) ∧ zCok u th to ch pn sp fa la (zTo (zel F tc) q.toInt.toNat) d9 ∧ zCg Γ u gr sp (zel F tc) q.toInt.toNat d9 nb fb.toInt.toNat ∧ zRK Γ u sp fa (zTo (zel F tc) q.toInt.toNat) (zvl (zel F tc) q.toInt.toNat) d9) ∨ (k9.toInt ≠ 0 ∧ r.toInt = -1 ∧ zCno Γ F u th to ch pn sp Ln ∧ zfld u gr 2 = zfld F gr 2))) ∧ (q.toInt < 0 ∨ fe.toInt < q.toInt → r.toInt = -1 ∧ zfld u th 12 = zfld F th 12 ∧ zCno Γ F u th to ch pn sp Ln ∧ zfld u gr 2 = zfld F gr 2)) ∧ ((r.toInt = -1 ∧ zfld u th 8 = zfld F th 8) ∨ (r.toInt ≠ -1 ∧ zfld u th 8 = .int 0)) ∧ True) (zQ D k Γ L F [2, 103, 200, 201, 202, 203, 204, 205, 206, 207, 302, 400, 401, 402, 403, 604, 605, 700, 701, 702, 703, 704, 705, 706, 711, 801, 805, 902, 903, 904, 1001, 1002, 1003, 1008, 1012, 1013, 10100, 10200, 10300, 10600, 10700, 15500, 15600, 15700, 15800, 15900, 16000, 16100, 16200, 16300]) (zA L sz)) 0 0 (zA L sz) := by
  refine Met.ofW (cc := cX10_program) (maxL := 2) (ret := (some .int)) (by decide) rfl ?_
  intro p e s m args below meth c s₁ B hml hv
  obtain ⟨rfl, hsz, hP, hK, hLn, hE, hI⟩ := hv
  have hx := B.exec
  have hb := B.bytes
  have hr := B.returns
  have hg : ∀ w ∈ zG, w.before _ s = true := fun w h9 => atoms_spec (ws := zwX10_program) B.pre w (List.mem_cons_of_mem _ h9)
  have hown : s.vm.findClass RX10 = some m.cls := findClass_of_methodNamed B.named
  have hlocks := B.notSynchronized
  subst hsz
  have Z : zC p m c cX10_program 2 s _ zG RX10 D k L := ⟨⟨hx, hb, hml, hown, hg⟩, hK, hLn, hE⟩
  have h : zH D k Γ L s F s.heap [] := ⟨hP, hI, va_S.rf⟩
  have hl := lv_entry ([.ref th, .int q]) (n := 2) (Nat.le_of_ble_eq_true rfl)
  rw [lg_entry_eq]
  generalize (lg_sl ([.ref th, .int q]) ++ List.replicate (2 - (lg_sl ([.ref th, .int q])).length) Slot.unset).toArray = ls at hl ⊢
  have hl : lv_has ls 2 [(0, .ref th), (1, .int q)] := hl
  clear hP hK hLn hE hI
  generalize hargs : ([.ref th, .int q] : List Value).toArray = args at *
  refine z_start (fun R Q hRf hRl hQ => ?_)
  have hRf : R.frames = 140 := hRf
  have hRl : R.locals = 5668 := hRl
  have h9 := h
  obtain ⟨Bt, hBt⟩ : ∃ z, z = zel F tc := ⟨_, rfl⟩
  obtain ⟨nt, hnt⟩ : ∃ z : Nat, z = q.toInt.toNat := ⟨_, rfl⟩
  refine lv_iload_n hx hb dX10_program_0 rfl (lv_at hl 1 rfl) ?_
  refine lv_if_lt (tgt := 12) hx hb dX10_program_1 (by decide) (fun c_1 => ?_) (fun c_1 => ?_)
  · have c_1 := z_lt c_1
    have bq_2 : zB (-2147483648) (-1) q := zB.ltL c_1 (zB.all q) (zBc 0 0 (by decide)) (by decide)
    refine lv_aload_n hx hb dX10_program_12 rfl (lv_at hl 0 rfl) ?_
    refine lv_iconst (v := 2) hx hb dX10_program_13 (by decide) ?_
    refine zk_Vi (As := [.int 2]) (rest := []) (bytes := cX10_refuse) (maxL := 2) (ret := (some .int)) Z h (zc_X10_refuse l D k Γ L F s.heap.size th 2 hth) (cwV 1 hg zv_RX10_68 rfl rfl rfl zd_X10_refuse ⟨z_leR hRf (by decide), z_leR hRl (by decide)⟩) hth (by decide) rfl rfl hl.1 rfl (Nat.le_of_ble_eq_true rfl) dX10_program_14 ⟨Nat.zero_le _, Nat.zero_le _⟩ (fun r_3 F_4 H locs w_5 h hfF_4 => ?_)
    obtain ⟨br_3, -⟩ := w_5
    subst hQ
    exact W.iret (v := r_3) hx hb hr (fun t ht hW => ⟨⟨r_3, F_4, rfl, ⟨⟨fe, (hfF_4.f hth 1 ⟨by decide, by decide⟩ kfe), bfe, (by have := bq_2.1; have := bq_2.2; have := br_3.1; have := br_3.2; have := bfe.1; have := bfe.2; have := bfb.1; have := bfb.2; have : (0 : Int32).toInt = 0 := (by decide); omega)⟩, ⟨fun h9 => by exfalso; have := bq_2.1; have := bq_2.2; have := br_3.1; have := br_3.2; have := bfe.1; have := bfe.2; have := bfb.1; have := bfb.2; have : (0 : Int32).toInt = 0 := (by decide); omega, fun _ => ⟨by have := bq_2.1; have := bq_2.2; have := br_3.1; have := br_3.2; have := bfe.1; have := bfe.2; have := bfb.1; have := bfb.2; have : (0 : Int32).toInt = 0 := (by decide); have := br_3.1; have := br_3.2; omega, (hfF_4 : zFr Γ [1013] F F_4).f hth 12 ⟨by decide, by decide⟩ rfl, ⟨(hfF_4.f hth 2 ⟨by decide, by decide⟩ kpn), (hfF_4.f hth 3 ⟨by decide, by decide⟩ ksp), (hfF_4 : zFr Γ [1013] F F_4).f hto 4 ⟨by decide, by decide⟩ rfl, (hfF_4 : zFr Γ [1013] F F_4).f hch 2 ⟨by decide, by decide⟩ rfl, (zSm.ofFr hr1.1.2.2 (hfF_4 : zFr Γ [1013] F F_4) (by decide))⟩, (hfF_4 : zFr Γ [1013] F F_4).f hgr 2 ⟨by decide, by decide⟩ rfl⟩⟩, (Or.inl ⟨by have := bq_2.1; have := bq_2.2; have := br_3.1; have := br_3.2; have := bfe.1; have := bfe.2; have := bfb.1; have := bfb.2; have : (0 : Int32).toInt = 0 := (by decide); omega, ((hfF_4 : zFr Γ [1013] F F_4).1 th 10 hth).1 (by decide) 8 (by decide)⟩), trivial⟩, by rw [ht]; exact h.1, h.2.1, (hfF_4.w (by decide))⟩, h.2.2.F ht⟩) h.2.2.2.2 dX10_program_17
  · have c_1 := z_nlt c_1
    have bq_6 : zB 0 2147483647 q := zB.leR c_1 (zBc 0 0 (by decide)) (zB.all q) (by decide)
    refine lv_iload_n hx hb dX10_program_4 rfl (lv_at hl 1 rfl) ?_
    refine lv_aload_n hx hb dX10_program_5 rfl (lv_at hl 0 rfl) ?_
    refine zt_getk (t := 10) (C := RX10) (T := TX10) (N := 14) Z h hth zin_10 rfl 1 kfe ⟨by decide, rfl, by decide⟩ (zm_RX10 (List.mem_of_getElem? (i := 2) rfl)) (fun _ h9 => h9) dX10_program_6 ?_
    refine lv_icmp_le (tgt := 18) hx hb dX10_program_9 (by decide) (fun c_7 => ?_) (fun c_7 => ?_)
    · have c_7 := z_le c_7
      have bq_8 : zB 0 600 q := zB.leL c_7 bq_6 bfe (by decide)
      refine lv_aload_n hx hb dX10_program_18 rfl (lv_at hl 0 rfl) ?_
      refine lv_iconst (v := 0) hx hb dX10_program_19 (by decide) ?_
      refine zt_put (t := 10) (C := RX10) (T := TX10) (N := 14) (v := .int 0) Z h hth zin_10 tyX10 tyX10_ok nmX10 rfl 1 rfl ⟨by decide, rfl⟩ (zm_RX10 (List.mem_of_getElem? (i := 2) rfl)) (fun _ h9 => h9) rfl (zV.i (zB.of ⟨by decide, by decide⟩)) rfl rfl dX10_program_20 (fun H locs F_9 h hfF_9 kF_9 => ?_)
      refine lv_aload_n hx hb dX10_program_23 rfl (lv_at hl 0 rfl) ?_
      refine lv_aload_n hx hb dX10_program_24 rfl (lv_at hl 0 rfl) ?_
      refine zt_getr (t := 10) (C := RX10) (T := TX10) (N := 14) Z h hth zin_10 rfl 4 rfl ⟨by decide, rfl⟩ (zm_RX10 (List.mem_of_getElem? (i := 13) rfl)) (fun _ h9 => h9) dX10_program_25 (fun a_10 ka_10 ha_10 => ?_)
      refine lv_aload_n hx hb dX10_program_28 rfl (lv_at hl 0 rfl) ?_
      refine zt_getk (t := 10) (C := RX10) (T := TX10) (N := 14) Z h hth zin_10 rfl 0 (hfF_9.f hth 0 ⟨by decide, by decide⟩ ktc) ⟨by decide, rfl, by decide⟩ (zm_RX10 (List.mem_of_getElem? (i := 14) rfl)) (fun _ h9 => h9) dX10_program_29 ?_
      refine lv_iload_n hx hb dX10_program_32 rfl (lv_at hl 1 rfl) ?_
      refine lv_aload_n hx hb dX10_program_33 rfl (lv_at hl 0 rfl) ?_
      refine zt_getk (t := 10) (C := RX10) (T := TX10) (N := 14) Z h hth zin_10 rfl 3 (hfF_9.f hth 3 ⟨by decide, by decide⟩ ksp) ⟨by decide, rfl, by decide⟩ (zm_RX10 (List.mem_of_getElem? (i := 15) rfl)) (fun _ h9 => h9) dX10_program_34 ?_
      refine zk_Vi (As := [.ref tc, .int q, .ref sp]) (rest := [.ref th]) (bytes := cX7_read) (maxL := 5) (ret := (some .int)) Z h (ze_X7_readV l D k Γ L F_9 H.size a_10 tc q sp Bt nt fa la Ls ha_10 htc bq_8 hsp (by have := bq_8.1; have := bq_8.2; have := bfb.1; have := bfb.2; have := bfe.1; have := bfe.2; have : (0 : Int32).toInt = 0 := (by decide); omega) (by rw [hBt]; exact (((hfF_9.w (by decide)) : zFr Γ [2, 103, 200, 201, 202, 203, 204, 205, 206, 207, 302, 400, 401, 402, 403, 604, 605, 700, 701, 702, 703, 704, 705, 706, 711, 801, 805, 902, 903, 904, 1001, 1002, 1003, 1008, 1012, 1013, 10100, 10200, 10300, 10600, 10700, 15500, 15600, 15700, 15800, 15900, 16000, 16100, 16200, 16300] F F_9).elf htc ⟨by decide, by decide⟩)) (hr0.fr ((hfF_9.w (by decide)) : zFr Γ [2, 103, 200, 201, 202, 203, 204, 205, 206, 207, 302, 400, 401, 402, 403, 604, 605, 700, 701, 702, 703, 704, 705, 706, 711, 801, 805, 902, 903, 904, 1001, 1002, 1003, 1008, 1012, 1013, 10100, 10200, 10300, 10600, 10700, 15500, 15600, 15700, 15800, 15900, 16000, 16100, 16200, 16300] F F_9) hsp (by decide)) (hr2.fr ((hfF_9.w (by decide)) : zFr Γ [2, 103, 200, 201, 202, 203, 204, 205, 206, 207, 302, 400, 401, 402, 403, 604, 605, 700, 701, 702, 703, 704, 705, 706, 711, 801, 805, 902, 903, 904, 1001, 1002, 1003, 1008, 1012, 1013, 10100, 10200, 10300, 10600, 10700, 15500, 15600, 15700, 15800, 15900, 16000, 16100, 16200, 16300] F F_9) hsp (by decide)) (hr4.fr ((hfF_9.w (by decide)) : zFr Γ [2, 103, 200, 201, 202, 203, 204, 205, 206, 207, 302, 400, 401, 402, 403, 604, 605, 700, 701, 702, 703, 704, 705, 706, 711, 801, 805, 902, 903, 904, 1001, 1002, 1003, 1008, 1012, 1013, 10100, 10200, 10300, 10600, 10700, 15500, 15600, 15700, 15800, 15900, 16000, 16100, 16200, 16300] F F_9) (fun f9 h9 => hr0.ty h9) (by decide)) ⟨hr1.2.1.2.2.fr ((hfF_9.w (by decide)) : zFr Γ [2, 103, 200, 201, 202, 203, 204, 205, 206, 207, 302, 400, 401, 402, 403, 604, 605, 700, 701, 702, 703, 704, 705, 706, 711, 801, 805, 902, 903, 904, 1001, 1002, 1003, 1008, 1012, 1013, 10100, 10200, 10300, 10600, 10700, 15500, 15600, 15700, 15800, 15900, 16000, 16100, 16200, 16300] F F_9) (by decide), hr1.2.1.1⟩) (cwV 3 hg zv_RX10_79 rfl rfl rfl zd_X7_read ⟨z_leR hRf (by decide), z_leR hRl (by decide)⟩) ha_10 (by decide) rfl rfl hl.1 rfl (Nat.le_of_ble_eq_true rfl) dX10_program_37 ⟨Nat.zero_le _, Nat.zero_le _⟩ (fun r_11 F_12 H locs w_13 h hfF_12 => ?_)
      obtain ⟨q_14, q_15, -⟩ := w_13
      have br_11 := zB.all r_11
      obtain ⟨dq_, hout_, hrc_⟩ := q_14
      have hrc9_ := hrc_
      rw [hBt, hnt] at hout_ hrc_
      obtain ⟨fc_, kfc_, bfc_⟩ := z_learn (j := 4) (lo := 0) (hi := 10) h hsp (by decide) rfl
      refine zt_put (t := 10) (C := RX10) (T := TX10) (N := 14) (v := .int r_11) Z h hth zin_10 tyX10 tyX10_ok nmX10 rfl 12 rfl ⟨by decide, rfl⟩ (zm_RX10 (List.mem_of_getElem? (i := 17) rfl)) (fun _ h9 => h9) rfl (zV.i br_11) rfl rfl dX10_program_40 (fun H locs F_16 h hfF_16 kF_16 => ?_)
      refine lv_aload_n hx hb dX10_program_43 rfl (lv_at hl 0 rfl) ?_
      refine zt_getk (t := 10) (C := RX10) (T := TX10) (N := 14) Z h hth zin_10 rfl 12 kF_16 ⟨by decide, rfl, by decide⟩ (zm_RX10 (List.mem_of_getElem? (i := 17) rfl)) (fun _ h9 => h9) dX10_program_44 ?_
      refine lv_if_eq (tgt := 56) hx hb dX10_program_47 (by decide) (fun c_17 => ?_) (fun c_17 => ?_)
      · have c_17 := z_eq c_17
        have br_11_18 : zB 0 0 r_11 := zB.eqL (a := 0) (b := 0) c_17 (zBc 0 0 (by decide))
        refine lv_aload_n hx hb dX10_program_56 rfl (lv_at hl 0 rfl) ?_
        have hRC_ := (hrc9_ (by have := bq_8.1; have := bq_8.2; have := br_11_18.1; have := br_11_18.2; have := bfc_.1; have := bfc_.2; have := bfe.1; have := bfe.2; have := bfb.1; have := bfb.2; have : (0 : Int32).toInt = 0 := (by decide); omega)).1.fr (hfF_16 : zFr Γ [1012] F_12 F_16) hr0 hr2 hsp (by unfold zMC; decide)
        have hTN_ := (hrc9_ (by have := bq_8.1; have := bq_8.2; have := br_11_18.1; have := br_11_18.2; have := bfc_.1; have := bfc_.2; have := bfe.1; have := bfe.2; have := bfb.1; have := bfb.2; have : (0 : Int32).toInt = 0 := (by decide); omega)).2.1.fr (hfF_16 : zFr Γ [1012] F_12 F_16) hsp (by unfold zNpM; decide)
        have hRK_ := (hrc9_ (by have := bq_8.1; have := bq_8.2; have := br_11_18.1; have := br_11_18.2; have := bfc_.1; have := bfc_.2; have := bfe.1; have := bfe.2; have := bfb.1; have := bfb.2; have : (0 : Int32).toInt = 0 := (by decide); omega)).2.2.fr (hfF_16 : zFr Γ [1012] F_12 F_16) hsp (fun f9 h9 => hr0.ty (by have h8 := hRC_.2.2.2.2.1; omega)) (by unfold zMK; decide)
        obtain ⟨tk, Nt, hNP_⟩ := hTN_.np hRC_ (hr0.fr ((((hfF_9.w (by decide)).trans hfF_12 (by decide)).trans hfF_16 (by decide)) : zFr Γ [103, 200, 201, 202, 203, 204, 205, 206, 207, 400, 401, 402, 403, 604, 605, 700, 701, 702, 703, 704, 705, 706, 711, 801, 805, 1001, 1012, 10100, 10200, 10300, 10600, 10700, 15500, 15600, 15700, 15800, 15900, 16000, 16100] F F_16) hsp (by decide))
        have hfc_ : fc_.toInt = (zfc dq_ : Int) := hRC_.fcE (hfF_16.f hsp 4 ⟨by decide, by decide⟩ kfc_)
        obtain ⟨nw, hnw⟩ : ∃ z : Nat → Int, z = fun f => (zTo Bt nt).2.2 (znm dq_ f) := ⟨_, rfl⟩
        rw [← hfc_, ← hnw] at hNP_
        have hSM_ := (((zSm.ofFr hr1.1.2.2 (hfF_9 : zFr Γ [1001] F F_9) (by decide)).trans (zSm.ofSt hr1.1.2.2 hr1.2.2 q_15)).trans (zSm.ofFr hr1.1.2.2 (hfF_16 : zFr Γ [1012] F_12 F_16) (by decide)))
        have kfb9_ := hSM_.f hr1.1.1 hpn 4 ⟨by decide, by decide⟩ kfb
        refine zk_Vv (As := []) (rest := []) (bytes := cX10_turnToSpare) (maxL := 2) (ret := none) Z h (zc_X10_turnToSpare l D k Γ L F_16 H.size th pn sp to ch gr fc_ fb tk Bt nt Nt fa nw ot Bo no_ No fo nb hth (hfF_16.f hth 2 ⟨by decide, by decide⟩ (hfF_12.f hth 2 ⟨by decide, by decide⟩ (hfF_9.f hth 2 ⟨by decide, by decide⟩ kpn))) hpn (hfF_16.f hth 3 ⟨by decide, by decide⟩ (hfF_12.f hth 3 ⟨by decide, by decide⟩ (hfF_9.f hth 3 ⟨by decide, by decide⟩ ksp))) hsp (hfF_16.f hth 10 ⟨by decide, by decide⟩ (hfF_12.f hth 10 ⟨by decide, by decide⟩ (hfF_9.f hth 10 ⟨by decide, by decide⟩ kto))) hto (hfF_16.f hth 9 ⟨by decide, by decide⟩ (hfF_12.f hth 9 ⟨by decide, by decide⟩ (hfF_9.f hth 9 ⟨by decide, by decide⟩ kch))) hch (hfF_16.f hth 11 ⟨by decide, by decide⟩ (hfF_12.f hth 11 ⟨by decide, by decide⟩ (hfF_9.f hth 11 ⟨by decide, by decide⟩ kgr))) hgr (hfF_16.f hsp 4 ⟨by decide, by decide⟩ kfc_) bfc_ kfb9_ bfb hNP_ ⟨(hr3.1.sm hSM_ hr1.1.2.2 hr1.1.1 hpn).1, fun h9 => (hr3.2 h9).sm hSM_ hr1.1 (by have := bfb.2; omega)⟩) (cwV 0 hg zv_RX10_86 rfl rfl rfl zd_X10_turnToSpare ⟨z_leR hRf (by decide), z_leR hRl (by decide)⟩) hth (by decide) rfl rfl hl.1 rfl (Nat.le_of_ble_eq_true rfl) dX10_program_57 ⟨Nat.zero_le _, Nat.zero_le _⟩ (fun F_19 H locs w_20 h hfF_19 => ?_)
        obtain ⟨kq_21, kq_22, ⟨x_24, kx_24, bx_24⟩, ⟨x_26, kx_26, bx_26⟩, ⟨x_28, kx_28, bx_28⟩, ⟨x_30, kx_30, bx_30, q_29⟩, -⟩ := w_20
        refine lv_aload_n hx hb dX10_program_60 rfl (lv_at hl 0 rfl) ?_
        refine lv_aload_n hx hb dX10_program_61 rfl (lv_at hl 0 rfl) ?_
        refine zt_getk (t := 10) (C := RX10) (T := TX10) (N := 14) Z h hth zin_10 rfl 2 kq_21 ⟨by decide, rfl, by decide⟩ (zm_RX10 (List.mem_of_getElem? (i := 21) rfl)) (fun _ h9 => h9) dX10_program_62 ?_
        refine zt_getk (t := 6) (C := RX6) (T := TX6) (N := 6) Z h hsp zin_6 rfl 4 (hfF_19.f hsp 4 ⟨by decide, by decide⟩ (hfF_16.f hsp 4 ⟨by decide, by decide⟩ kfc_)) ⟨by decide, rfl, by decide⟩ (zm_RX10 (List.mem_of_getElem? (i := 22) rfl)) (fun _ h9 => h9) dX10_program_65 ?_
        refine zk_Vi (As := [.int fc_]) (rest := []) (bytes := cX10_accept) (maxL := 2) (ret := (some .int)) Z h (zc_X10_accept l D k Γ L F_19 H.size th fc_ hth) (cwV 1 hg zv_RX10_76 rfl rfl rfl zd_X10_accept ⟨z_leR hRf (by decide), z_leR hRl (by decide)⟩) hth (by decide) rfl rfl hl.1 rfl (Nat.le_of_ble_eq_true rfl) dX10_program_68 ⟨Nat.zero_le _, Nat.zero_le _⟩ (fun r_31 F_32 H locs w_33 h hfF_32 => ?_)
        obtain ⟨q_34, -⟩ := w_33
        have br_31 := zB.all r_31
        subst hQ
        exact W.iret (v := r_31) hx hb hr (fun t ht hW => ⟨⟨r_31, F_32, rfl, ⟨⟨0, (hfF_32.f hth 1 ⟨by decide, by decide⟩ (hfF_19.f hth 1 ⟨by decide, by decide⟩ (hfF_16.f hth 1 ⟨by decide, by decide⟩ (hfF_12.f hth 1 ⟨by decide, by decide⟩ kF_9)))), (zB.of ⟨by decide, by decide⟩), (by have := bq_8.1; have := bq_8.2; have := br_31.1; have := br_31.2; have := bfb.1; have := bfb.2; have := bfc_.1; have := bfc_.2; have := br_11_18.1; have := br_11_18.2; have := bx_24.1; have := bx_24.2; have := bx_26.1; have := bx_26.2; have := bx_28.1; have := bx_28.2; have := bx_30.1; have := bx_30.2; have := bfe.1; have := bfe.2; have : (0 : Int32).toInt = 0 := (by decide); omega)⟩, ⟨fun _ => ⟨r_11, dq_, (hfF_32.f hth 12 ⟨by decide, by decide⟩ (hfF_19.f hth 12 ⟨by decide, by decide⟩ kF_16)), hout_, Or.inl ⟨by have := bq_8.1; have := bq_8.2; have := br_31.1; have := br_31.2; have := br_11_18.1; have := br_11_18.2; have := bfb.1; have := bfb.2; have := bfc_.1; have := bfc_.2; have := bx_24.1; have := bx_24.2; have := bx_26.1; have := bx_26.2; have := bx_28.1; have := bx_28.2; have := bx_30.1; have := bx_30.2; have := bfe.1; have := bfe.2; have : (0 : Int32).toInt = 0 := (by decide); omega, by have h8 := zRC.fcE (hrc_ (by have := bq_8.1; have := bq_8.2; have := br_31.1; have := br_31.2; have := br_11_18.1; have := br_11_18.2; have := bfb.1; have := bfb.2; have := bfc_.1; have := bfc_.2; have := bx_24.1; have := bx_24.2; have := bx_26.1; have := bx_26.2; have := bx_28.1; have := bx_28.2; have := bx_30.1; have := bx_30.2; have := bfe.1; have := bfe.2; have : (0 : Int32).toInt = 0 := (by decide); omega)).1 kfc_; have := bq_8.1; have := bq_8.2; have := br_31.1; have := br_31.2; have := br_11_18.1; have := br_11_18.2; have := bfb.1; have := bfb.2; have := bfc_.1; have := bfc_.2; have := bx_24.1; have := bx_24.2; have := bx_26.1; have := bx_26.2; have := bx_28.1; have := bx_28.2; have := bx_30.1; have := bx_30.2; have := bfe.1; have := bfe.2; have : (0 : Int32).toInt = 0 := (by decide); omega, ⟨(hfF_32.f hth 2 ⟨by decide, by decide⟩ kq_21), (hfF_32.f hth 3 ⟨by decide, by decide⟩ kq_22), ⟨_, (hfF_32.f hto 4 ⟨by decide, by decide⟩ kx_24), by have := bq_8.1; have := bq_8.2; have := br_31.1; have := br_31.2; have := bx_24.1; have := bx_24.2; have := bfb.1; have := bfb.2; have := bfc_.1; have := bfc_.2; have := br_11_18.1; have := br_11_18.2; have := bx_26.1; have := bx_26.2; have := bx_28.1; have := bx_28.2; have := bx_30.1; have := bx_30.2; have := bfe.1; have := bfe.2; have : (0 : Int32).toInt = 0 := (by decide); omega⟩, ⟨_, (hfF_32.f hch 2 ⟨by decide, by decide⟩ kx_26), by have := bq_8.1; have := bq_8.2; have := br_31.1; have := br_31.2; have := bx_26.1; have := bx_26.2; have := bfb.1; have := bfb.2; have := bfc_.1; have := bfc_.2; have := br_11_18.1; have := br_11_18.2; have := bx_24.1; have := bx_24.2; have := bx_28.1; have := bx_28.2; have := bx_30.1; have := bx_30.2; have := bfe.1; have := bfe.2; have : (0 : Int32).toInt = 0 := (by decide); omega⟩, zRC.fr (hrc_ (by have := bq_8.1; have := bq_8.2; have := br_31.1; have := br_31.2; have := br_11_18.1; have := br_11_18.2; have := bfb.1; have := bfb.2; have := bfc_.1; have := bfc_.2; have := bx_24.1; have := bx_24.2; have := bx_26.1; have := bx_26.2; have := bx_28.1; have := bx_28.2; have := bx_30.1; have := bx_30.2; have := bfe.1; have := bfe.2; have : (0 : Int32).toInt = 0 := (by decide); omega)).1 ((((hfF_16.w (by decide)).trans hfF_19 (by decide)).trans hfF_32 (by decide)) : zFr Γ [2, 302, 902, 903, 904, 1002, 1003, 1008, 1012, 1013, 16200, 16300] F_12 F_32) hr0 hr2 hsp (by unfold zMC; decide)⟩, (by rw [← hBt, ← hnt]; exact ⟨hTN_.fr (((hfF_19.w (by decide)).trans hfF_32 (by decide)) : zFr Γ [2, 302, 902, 903, 904, 1002, 1003, 1008, 1013, 16200, 16300] F_16 F_32) hsp (by unfold zNpM; decide), _, (hfF_32.f hgr 2 ⟨by decide, by decide⟩ kx_30), by rw [← hnw, ← hfc_]; have := bq_8.1; have := bq_8.2; have := br_31.1; have := br_31.2; have := bx_30.1; have := bx_30.2; have := bfb.1; have := bfb.2; have := bfc_.1; have := bfc_.2; have := br_11_18.1; have := br_11_18.2; have := bx_24.1; have := bx_24.2; have := bx_26.1; have := bx_26.2; have := bx_28.1; have := bx_28.2; have := bfe.1; have := bfe.2; have : (0 : Int32).toInt = 0 := (by decide); omega⟩), (by rw [← hBt, ← hnt]; exact hRK_.fr (((hfF_19.w (by decide)).trans hfF_32 (by decide)) : zFr Γ [2, 302, 902, 903, 904, 1002, 1003, 1008, 1013, 16200, 16300] F_16 F_32) hsp (fun f9 h9 => hr0.ty (by have h8 := hRC_.2.2.2.2.1; omega)) (by unfold zMK; decide))⟩⟩, fun h9 => by exfalso; have := bq_8.1; have := bq_8.2; have := br_31.1; have := br_31.2; have := bfb.1; have := bfb.2; have := bfc_.1; have := bfc_.2; have := br_11_18.1; have := br_11_18.2; have := bx_24.1; have := bx_24.2; have := bx_26.1; have := bx_26.2; have := bx_28.1; have := bx_28.2; have := bx_30.1; have := bx_30.2; have := bfe.1; have := bfe.2; have : (0 : Int32).toInt = 0 := (by decide); omega⟩, (Or.inr ⟨by have := bq_8.1; have := bq_8.2; have := br_31.1; have := br_31.2; have := br_11_18.1; have := br_11_18.2; have := bfb.1; have := bfb.2; have := bfc_.1; have := bfc_.2; have := bx_24.1; have := bx_24.2; have := bx_26.1; have := bx_26.2; have := bx_28.1; have := bx_28.2; have := bx_30.1; have := bx_30.2; have := bfe.1; have := bfe.2; have : (0 : Int32).toInt = 0 := (by decide); omega, by rw [show (0 : Int32) = x_28 from Int32.toInt_inj.mp (by have := bq_8.1; have := bq_8.2; have := br_31.1; have := br_31.2; have := bx_28.1; have := bx_28.2; have := bfb.1; have := bfb.2; have := bfc_.1; have := bfc_.2; have := br_11_18.1; have := br_11_18.2; have := bx_24.1; have := bx_24.2; have := bx_26.1; have := bx_26.2; have := bx_30.1; have := bx_30.2; have := bfe.1; have := bfe.2; have : (0 : Int32).toInt = 0 := (by decide); have : (0 : Int32).toInt = 0 := (by decide); omega)]; exact (hfF_32.f hth 8 ⟨by decide, by decide⟩ kx_28)⟩), trivial⟩, by rw [ht]; exact h.1, h.2.1, (((((hfF_9.w (by decide)).trans hfF_12 (by decide)).trans hfF_16 (by decide)).trans hfF_19 (by decide)).trans hfF_32 (by decide))⟩, h.2.2.F ht⟩) h.2.2.2.2 dX10_program_71
      · have c_17 := z_ne c_17
        refine lv_aload_n hx hb dX10_program_50 rfl (lv_at hl 0 rfl) ?_
        refine lv_iconst (v := 4) hx hb dX10_program_51 (by decide) ?_
        refine zk_Vi (As := [.int 4]) (rest := []) (bytes := cX10_refuse) (maxL := 2) (ret := (some .int)) Z h (zc_X10_refuse l D k Γ L F_16 H.size th 4 hth) (cwV 1 hg zv_RX10_68 rfl rfl rfl zd_X10_refuse ⟨z_leR hRf (by decide), z_leR hRl (by decide)⟩) hth (by decide) rfl rfl hl.1 rfl (Nat.le_of_ble_eq_true rfl) dX10_program_52 ⟨Nat.zero_le _, Nat.zero_le _⟩ (fun r_35 F_36 H locs w_37 h hfF_36 => ?_)
        obtain ⟨br_35, -⟩ := w_37
        subst hQ
        exact W.iret (v := r_35) hx hb hr (fun t ht hW => ⟨⟨r_35, F_36, rfl, ⟨⟨0, (hfF_36.f hth 1 ⟨by decide, by decide⟩ (hfF_16.f hth 1 ⟨by decide, by decide⟩ (hfF_12.f hth 1 ⟨by decide, by decide⟩ kF_9))), (zB.of ⟨by decide, by decide⟩), (by have := bq_8.1; have := bq_8.2; have := br_35.1; have := br_35.2; have := bfc_.1; have := bfc_.2; have := br_11.1; have := br_11.2; have := bfe.1; have := bfe.2; have := bfb.1; have := bfb.2; have : (0 : Int32).toInt = 0 := (by decide); omega)⟩, ⟨fun _ => ⟨r_11, dq_, (hfF_36.f hth 12 ⟨by decide, by decide⟩ kF_16), hout_, Or.inr ⟨by have := bq_8.1; have := bq_8.2; have := br_35.1; have := br_35.2; have := br_11.1; have := br_11.2; have := bfc_.1; have := bfc_.2; have := bfe.1; have := bfe.2; have := bfb.1; have := bfb.2; have : (0 : Int32).toInt = 0 := (by decide); omega, by have := bq_8.1; have := bq_8.2; have := br_35.1; have := br_35.2; have := br_11.1; have := br_11.2; have := bfc_.1; have := bfc_.2; have := bfe.1; have := bfe.2; have := bfb.1; have := bfb.2; have : (0 : Int32).toInt = 0 := (by decide); omega, ⟨(hfF_36.f hth 2 ⟨by decide, by decide⟩ (hfF_16.f hth 2 ⟨by decide, by decide⟩ (hfF_12.f hth 2 ⟨by decide, by decide⟩ (hfF_9.f hth 2 ⟨by decide, by decide⟩ kpn)))), (hfF_36.f hth 3 ⟨by decide, by decide⟩ (hfF_16.f hth 3 ⟨by decide, by decide⟩ (hfF_12.f hth 3 ⟨by decide, by decide⟩ (hfF_9.f hth 3 ⟨by decide, by decide⟩ ksp)))), (((((hfF_9.w (by decide)).trans hfF_12 (by decide)).trans hfF_16 (by decide)).trans hfF_36 (by decide)) : zFr Γ [103, 200, 201, 202, 203, 204, 205, 206, 207, 400, 401, 402, 403, 604, 605, 700, 701, 702, 703, 704, 705, 706, 711, 801, 805, 1001, 1012, 1013, 10100, 10200, 10300, 10600, 10700, 15500, 15600, 15700, 15800, 15900, 16000, 16100] F F_36).f hto 4 ⟨by decide, by decide⟩ rfl, (((((hfF_9.w (by decide)).trans hfF_12 (by decide)).trans hfF_16 (by decide)).trans hfF_36 (by decide)) : zFr Γ [103, 200, 201, 202, 203, 204, 205, 206, 207, 400, 401, 402, 403, 604, 605, 700, 701, 702, 703, 704, 705, 706, 711, 801, 805, 1001, 1012, 1013, 10100, 10200, 10300, 10600, 10700, 15500, 15600, 15700, 15800, 15900, 16000, 16100] F F_36).f hch 2 ⟨by decide, by decide⟩ rfl, (((zSm.ofFr hr1.1.2.2 (hfF_9 : zFr Γ [1001] F F_9) (by decide)).trans (zSm.ofSt hr1.1.2.2 hr1.2.2 q_15)).trans (zSm.ofFr hr1.1.2.2 (((hfF_16.w (by decide)).trans hfF_36 (by decide)) : zFr Γ [1012, 1013] F_12 F_36) (by decide)))⟩, (((((hfF_9.w (by decide)).trans hfF_12 (by decide)).trans hfF_16 (by decide)).trans hfF_36 (by decide)) : zFr Γ [103, 200, 201, 202, 203, 204, 205, 206, 207, 400, 401, 402, 403, 604, 605, 700, 701, 702, 703, 704, 705, 706, 711, 801, 805, 1001, 1012, 1013, 10100, 10200, 10300, 10600, 10700, 15500, 15600, 15700, 15800, 15900, 16000, 16100] F F_36).f hgr 2 ⟨by decide, by decide⟩ rfl⟩⟩, fun h9 => by exfalso; have := bq_8.1; have := bq_8.2; have := br_35.1; have := br_35.2; have := bfc_.1; have := bfc_.2; have := br_11.1; have := br_11.2; have := bfe.1; have := bfe.2; have := bfb.1; have := bfb.2; have : (0 : Int32).toInt = 0 := (by decide); omega⟩, (Or.inl ⟨by have := bq_8.1; have := bq_8.2; have := br_35.1; have := br_35.2; have := br_11.1; have := br_11.2; have := bfc_.1; have := bfc_.2; have := bfe.1; have := bfe.2; have := bfb.1; have := bfb.2; have : (0 : Int32).toInt = 0 := (by decide); omega, ((((((hfF_9.w (by decide)).trans hfF_12 (by decide)).trans hfF_16 (by decide)).trans hfF_36 (by decide)) : zFr Γ [103, 200, 201, 202, 203, 204, 205, 206, 207, 400, 401, 402, 403, 604, 605, 700, 701, 702, 703, 704, 705, 706, 711, 801, 805, 1001, 1012, 1013, 10100, 10200, 10300, 10600, 10700, 15500, 15600, 15700, 15800, 15900, 16000, 16100] F F_36).1 th 10 hth).1 (by decide) 8 (by decide)⟩), trivial⟩, by rw [ht]; exact h.1, h.2.1, ((((hfF_9.w (by decide)).trans hfF_12 (by decide)).trans hfF_16 (by decide)).trans hfF_36 (by decide))⟩, h.2.2.F ht⟩) h.2.2.2.2 dX10_program_55
    · have c_7 := z_nle c_7
      have bq_38 : zB 1 2147483647 q := zB.ltR c_7 bfe bq_6 (by decide)
      refine lv_aload_n hx hb dX10_program_12 rfl (lv_at hl 0 rfl) ?_
      refine lv_iconst (v := 2) hx hb dX10_program_13 (by decide) ?_
      refine zk_Vi (As := [.int 2]) (rest := []) (bytes := cX10_refuse) (maxL := 2) (ret := (some .int)) Z h (zc_X10_refuse l D k Γ L F s.heap.size th 2 hth) (cwV 1 hg zv_RX10_68 rfl rfl rfl zd_X10_refuse ⟨z_leR hRf (by decide), z_leR hRl (by decide)⟩) hth (by decide) rfl rfl hl.1 rfl (Nat.le_of_ble_eq_true rfl) dX10_program_14 ⟨Nat.zero_le _, Nat.zero_le _⟩ (fun r_39 F_40 H locs w_41 h hfF_40 => ?_)
      obtain ⟨br_39, -⟩ := w_41
      subst hQ
      exact W.iret (v := r_39) hx hb hr (fun t ht hW => ⟨⟨r_39, F_40, rfl, ⟨⟨fe, (hfF_40.f hth 1 ⟨by decide, by decide⟩ kfe), bfe, (by have := bq_38.1; have := bq_38.2; have := br_39.1; have := br_39.2; have := bfe.1; have := bfe.2; have := bfb.1; have := bfb.2; have : (0 : Int32).toInt = 0 := (by decide); omega)⟩, ⟨fun h9 => by exfalso; have := bq_38.1; have := bq_38.2; have := br_39.1; have := br_39.2; have := bfe.1; have := bfe.2; have := bfb.1; have := bfb.2; have : (0 : Int32).toInt = 0 := (by decide); omega, fun _ => ⟨by have := bq_38.1; have := bq_38.2; have := br_39.1; have := br_39.2; have := bfe.1; have := bfe.2; have := bfb.1; have := bfb.2; have : (0 : Int32).toInt = 0 := (by decide); have := br_39.1; have := br_39.2; omega, (hfF_40 : zFr Γ [1013] F F_40).f hth 12 ⟨by decide, by decide⟩ rfl, ⟨(hfF_40.f hth 2 ⟨by decide, by decide⟩ kpn), (hfF_40.f hth 3 ⟨by decide, by decide⟩ ksp), (hfF_40 : zFr Γ [1013] F F_40).f hto 4 ⟨by decide, by decide⟩ rfl, (hfF_40 : zFr Γ [1013] F F_40).f hch 2 ⟨by decide, by decide⟩ rfl, (zSm.ofFr hr1.1.2.2 (hfF_40 : zFr Γ [1013] F F_40) (by decide))⟩, (hfF_40 : zFr Γ [1013] F F_40).f hgr 2 ⟨by decide, by decide⟩ rfl⟩⟩, (Or.inl ⟨by have := bq_38.1; have := bq_38.2; have := br_39.1; have := br_39.2; have := bfe.1; have := bfe.2; have := bfb.1; have := bfb.2; have : (0 : Int32).toInt = 0 := (by decide); omega, ((hfF_40 : zFr Γ [1013] F F_40).1 th 10 hth).1 (by decide) 8 (by decide)⟩), trivial⟩, by rw [ht]; exact h.1, h.2.1, (hfF_40.w (by decide))⟩, h.2.2.F ht⟩) h.2.2.2.2 dX10_program_17

set_option maxHeartbeats 4000000 in
set_option maxRecDepth 100000 in
theorem zc_X10_fault (l : Launch) (D : va_G) (k : Nat → ClassId) (Γ : Nat → Option Nat) (L : List Nat) (F : Nat → va_E) (sz : Nat) (th : Nat) (hth : Γ th = some 10) : Met l yX10_fault zwX10_fault ({ frames := 0, cells := 0, slots := 0, locals := 0 }) (va_Pc [.ref th] (zP D k Γ L F sz)) (va_Qi (fun (r : Int32) (u : Nat → va_E) => F = u ∧ zfld u th 12 = .int r ∧ True) (zQ D k Γ L F []) (zA L sz)) 0 0 (zA L sz) := by
  refine Met.ofW (cc := cX10_fault) (maxL := 1) (ret := (some .int)) (by decide) rfl ?_
  intro p e s m args below meth c s₁ B hml hv
  obtain ⟨rfl, hsz, hP, hK, hLn, hE, hI⟩ := hv
  have hx := B.exec
  have hb := B.bytes
  have hr := B.returns
  have hg : ∀ w ∈ zG, w.before _ s = true := fun w h9 => atoms_spec (ws := zwX10_fault) B.pre w (List.mem_cons_of_mem _ h9)
  have hown : s.vm.findClass RX10 = some m.cls := findClass_of_methodNamed B.named
  have hlocks := B.notSynchronized
  subst hsz
  have Z : zC p m c cX10_fault 1 s _ zG RX10 D k L := ⟨⟨hx, hb, hml, hown, hg⟩, hK, hLn, hE⟩
  have h : zH D k Γ L s F s.heap [] := ⟨hP, hI, va_S.rf⟩
  have hl := lv_entry ([.ref th]) (n := 1) (Nat.le_of_ble_eq_true rfl)
  rw [lg_entry_eq]
  generalize (lg_sl ([.ref th]) ++ List.replicate (1 - (lg_sl ([.ref th])).length) Slot.unset).toArray = ls at hl ⊢
  have hl : lv_has ls 1 [(0, .ref th)] := hl
  clear hP hK hLn hE hI
  generalize hargs : ([.ref th] : List Value).toArray = args at *
  refine z_start (fun R Q hRf hRl hQ => ?_)
  have hRf : R.frames = 0 := hRf
  have hRl : R.locals = 0 := hRl
  refine lv_aload_n hx hb dX10_fault_0 rfl (lv_at hl 0 rfl) ?_
  refine zt_geti (t := 10) (C := RX10) (T := TX10) (N := 14) Z h hth zin_10 rfl 12 rfl ⟨by decide, rfl⟩ (zm_RX10 (List.mem_of_getElem? (i := 17) rfl)) (fun _ h9 => h9) dX10_fault_1 (fun x_1 kx_1 bx_1 => ?_)
  subst hQ
  exact W.iret (v := x_1) hx hb hr (fun t ht hW => ⟨⟨x_1, F, rfl, ⟨rfl, kx_1, trivial⟩, by rw [ht]; exact h.1, h.2.1, zFr.rf⟩, h.2.2.F ht⟩) h.2.2.2.2 dX10_fault_4

set_option maxHeartbeats 4000000 in
set_option maxRecDepth 100000 in
theorem zc_X10_where (l : Launch) (D : va_G) (k : Nat → ClassId) (Γ : Nat → Option Nat) (L : List Nat) (F : Nat → va_E) (sz : Nat) (th : Nat) (hth : Γ th = some 10) : Met l yX10_where zwX10_where ({ frames := 0, cells := 0, slots := 0, locals := 0 }) (va_Pc [.ref th] (zP D k Γ L F sz)) (va_Qi (fun (r : Int32) (u : Nat → va_E) => F = u ∧ True) (zQ D k Γ L F []) (zA L sz)) 0 0 (zA L sz) := by
  refine Met.ofW (cc := cX10_where) (maxL := 1) (ret := (some .int)) (by decide) rfl ?_
  intro p e s m args below meth c s₁ B hml hv
  obtain ⟨rfl, hsz, hP, hK, hLn, hE, hI⟩ := hv
  have hx := B.exec
  have hb := B.bytes
  have hr := B.returns
  have hg : ∀ w ∈ zG, w.before _ s = true := fun w h9 => atoms_spec (ws := zwX10_where) B.pre w (List.mem_cons_of_mem _ h9)
  have hown : s.vm.findClass RX10 = some m.cls := findClass_of_methodNamed B.named
  have hlocks := B.notSynchronized
  subst hsz
  have Z : zC p m c cX10_where 1 s _ zG RX10 D k L := ⟨⟨hx, hb, hml, hown, hg⟩, hK, hLn, hE⟩
  have h : zH D k Γ L s F s.heap [] := ⟨hP, hI, va_S.rf⟩
  have hl := lv_entry ([.ref th]) (n := 1) (Nat.le_of_ble_eq_true rfl)
  rw [lg_entry_eq]
  generalize (lg_sl ([.ref th]) ++ List.replicate (1 - (lg_sl ([.ref th])).length) Slot.unset).toArray = ls at hl ⊢
  have hl : lv_has ls 1 [(0, .ref th)] := hl
  clear hP hK hLn hE hI
  generalize hargs : ([.ref th] : List Value).toArray = args at *
  refine z_start (fun R Q hRf hRl hQ => ?_)
  have hRf : R.frames = 0 := hRf
  have hRl : R.locals = 0 := hRl
  refine lv_aload_n hx hb dX10_where_0 rfl (lv_at hl 0 rfl) ?_
  refine zt_geti (t := 10) (C := RX10) (T := TX10) (N := 14) Z h hth zin_10 rfl 13 rfl ⟨by decide, rfl⟩ (zm_RX10 (List.mem_of_getElem? (i := 25) rfl)) (fun _ h9 => h9) dX10_where_1 (fun x_1 kx_1 bx_1 => ?_)
  refine lv_iconst (v := 4) hx hb dX10_where_4 (by decide) ?_
  refine lv_icmp_ne (tgt := 18) hx hb dX10_where_5 (by decide) (fun c_2 => ?_) (fun c_2 => ?_)
  · have c_2 := z_ne c_2
    refine lv_iconst (v := (-1)) hx hb dX10_where_18 (by decide) ?_
    subst hQ
    exact W.iret (v := (-1)) hx hb hr (fun t ht hW => ⟨⟨(-1), F, rfl, ⟨rfl, trivial⟩, by rw [ht]; exact h.1, h.2.1, zFr.rf⟩, h.2.2.F ht⟩) h.2.2.2.2 dX10_where_19
  · have c_2 := z_eq c_2
    have bx_1_3 : zB 4 4 x_1 := zB.eqL (a := 0) (b := 0) c_2 (zBc 4 4 (by decide))
    refine lv_aload_n hx hb dX10_where_8 rfl (lv_at hl 0 rfl) ?_
    refine zt_getr (t := 10) (C := RX10) (T := TX10) (N := 14) Z h hth zin_10 rfl 4 rfl ⟨by decide, rfl⟩ (zm_RX10 (List.mem_of_getElem? (i := 13) rfl)) (fun _ h9 => h9) dX10_where_9 (fun a_4 ka_4 ha_4 => ?_)
    refine zt_geti (t := 7) (C := RX7) (T := TX7) (N := 12) Z h ha_4 zin_7 rfl 0 rfl ⟨by decide, rfl⟩ (zm_RX10 (List.mem_of_getElem? (i := 26) rfl)) (fun _ h9 => h9) dX10_where_12 (fun x_5 kx_5 bx_5 => ?_)
    refine lv_goto (tgt := 19) hx hb dX10_where_15 (by decide) ?_
    subst hQ
    exact W.iret (v := x_5) hx hb hr (fun t ht hW => ⟨⟨x_5, F, rfl, ⟨rfl, trivial⟩, by rw [ht]; exact h.1, h.2.1, zFr.rf⟩, h.2.2.F ht⟩) h.2.2.2.2 dX10_where_19

set_option maxHeartbeats 4000000 in
set_option maxRecDepth 100000 in
theorem zc_X10_function (l : Launch) (D : va_G) (k : Nat → ClassId) (Γ : Nat → Option Nat) (L : List Nat) (F : Nat → va_E) (sz : Nat) (th : Nat) (f : Int32) (wh : Int32) (pn : Nat) (fc : Int32) (fa : Nat → Nat) (hth : Γ th = some 10) (kpn : zfld F th 2 = .ref pn) (hpn : Γ pn = some 6) (kfc : zfld F pn 4 = .int fc) (bfc : zB 0 10 fc) (hr0 : zPS Γ F pn fa) : Met l yX10_function zwX10_function ({ frames := 1, cells := 0, slots := 0, locals := 21 }) (va_Pc [.ref th, .int f, .int wh] (zP D k Γ L F sz)) (va_Qi (fun (r : Int32) (u : Nat → va_E) => F = u ∧ ((0 ≤ f.toInt ∧ f.toInt < fc.toInt ∧ 0 ≤ wh.toInt ∧ wh.toInt ≤ 3 → zfld u (fa f.toInt.toNat) (zfj wh.toInt.toNat) = .int r) ∧ (f.toInt < 0 ∨ fc.toInt ≤ f.toInt ∨ wh.toInt < 0 ∨ 3 < wh.toInt → r.toInt = -1)) ∧ True) (zQ D k Γ L F []) (zA L sz)) 0 0 (zA L sz) := by
  refine Met.ofW (cc := cX10_function) (maxL := 3) (ret := (some .int)) (by decide) rfl ?_
  intro p e s m args below meth c s₁ B hml hv
  obtain ⟨rfl, hsz, hP, hK, hLn, hE, hI⟩ := hv
  have hx := B.exec
  have hb := B.bytes
  have hr := B.returns
  have hg : ∀ w ∈ zG, w.before _ s = true := fun w h9 => atoms_spec (ws := zwX10_function) B.pre w (List.mem_cons_of_mem _ h9)
  have hown : s.vm.findClass RX10 = some m.cls := findClass_of_methodNamed B.named
  have hlocks := B.notSynchronized
  subst hsz
  have Z : zC p m c cX10_function 3 s _ zG RX10 D k L := ⟨⟨hx, hb, hml, hown, hg⟩, hK, hLn, hE⟩
  have h : zH D k Γ L s F s.heap [] := ⟨hP, hI, va_S.rf⟩
  have hl := lv_entry ([.ref th, .int f, .int wh]) (n := 3) (Nat.le_of_ble_eq_true rfl)
  rw [lg_entry_eq]
  generalize (lg_sl ([.ref th, .int f, .int wh]) ++ List.replicate (3 - (lg_sl ([.ref th, .int f, .int wh])).length) Slot.unset).toArray = ls at hl ⊢
  have hl : lv_has ls 3 [(0, .ref th), (1, .int f), (2, .int wh)] := hl
  clear hP hK hLn hE hI
  generalize hargs : ([.ref th, .int f, .int wh] : List Value).toArray = args at *
  refine z_start (fun R Q hRf hRl hQ => ?_)
  have hRf : R.frames = 1 := hRf
  have hRl : R.locals = 21 := hRl
  have h9 := h
  refine lv_aload_n hx hb dX10_function_0 rfl (lv_at hl 0 rfl) ?_
  refine zt_getk (t := 10) (C := RX10) (T := TX10) (N := 14) Z h hth zin_10 rfl 2 kpn ⟨by decide, rfl, by decide⟩ (zm_RX10 (List.mem_of_getElem? (i := 21) rfl)) (fun _ h9 => h9) dX10_function_1 ?_
  refine lv_iload_n hx hb dX10_function_4 rfl (lv_at hl 1 rfl) ?_
  refine zk_Vi (As := [.int f]) (rest := []) (bytes := cX6_hasFunction) (maxL := 2) (ret := (some .boolean)) Z h (ze_X6_hasFunction l D k Γ L F s.heap.size pn f fc hpn kfc bfc) (cwV 1 hg zv_RX10_98 rfl rfl rfl zd_X6_hasFunction ⟨z_leR hRf (by decide), z_leR hRl (by decide)⟩) hpn (by decide) rfl rfl hl.1 rfl (Nat.le_of_ble_eq_true rfl) dX10_function_5 ⟨Nat.zero_le _, Nat.zero_le _⟩ (fun r_1 F_2 H locs w_3 h hfF_2 => ?_)
  obtain ⟨rfl, br_1, q_4, q_5, -⟩ := w_3
  refine lv_if_ne (tgt := 13) hx hb dX10_function_8 (by decide) (fun c_6 => ?_) (fun c_6 => ?_)
  · have q_7 := q_4 c_6
    have c_6 := z_ne c_6
    have br_1_8 : zB 1 1 r_1 := zB.neLo c_6 br_1 (zBc 0 0 (by decide)) (by decide)
    refine lv_iload_n hx hb dX10_function_13 rfl (lv_at hl 2 rfl) ?_
    by_cases c_9 : wh = 0
    · refine lv_tableIn (off := 30) (tgt := 44) hx hb dX10_function_14 (by rw [c_9]; decide) (by rw [c_9]; decide) (by rw [c_9]; rfl) (by decide) ?_
      have bwh_9 : zB 0 0 wh := by rw [c_9]; exact zBc _ _ (by decide)
      refine lv_aload_n hx hb dX10_function_44 rfl (lv_at hl 0 rfl) ?_
      refine zt_getk (t := 10) (C := RX10) (T := TX10) (N := 14) Z h hth zin_10 rfl 2 kpn ⟨by decide, rfl, by decide⟩ (zm_RX10 (List.mem_of_getElem? (i := 21) rfl)) (fun _ h9 => h9) dX10_function_45 ?_
      refine zt_getr (t := 6) (C := RX6) (T := TX6) (N := 6) Z h hpn zin_6 rfl 2 rfl ⟨by decide, rfl⟩ (zm_RX10 (List.mem_of_getElem? (i := 29) rfl)) (fun _ h9 => h9) dX10_function_48 (fun a_11 ka_11 ha_11 => ?_)
      refine lv_iload_n hx hb dX10_function_51 rfl (lv_at hl 1 rfl) ?_
      have bf_12 : zB 0 9 f := ⟨by have := (zB.all f).1; have := (zB.all f).2; have := bwh_9.1; have := bwh_9.2; have := bfc.1; have := bfc.2; have : (0 : Int32).toInt = 0 := (by decide); omega, by have := (zB.all f).1; have := (zB.all f).2; have := bwh_9.1; have := bwh_9.2; have := bfc.1; have := bfc.2; have : (0 : Int32).toInt = 0 := (by decide); omega⟩
      refine zt_aalde (t := 104) (t1 := 2) Z h ha_11 ⟨by decide, rfl⟩ (by decide) bf_12 ⟨by decide, by decide⟩ dX10_function_52 (fun a_13 ea_13 ha_13 => ?_)
      have fa_14 := zPS.at hr0 ka_11 ea_13 ⟨(by have := bf_12.1; have := bf_12.2; have := bwh_9.1; have := bwh_9.2; have := bfc.1; have := bfc.2; have : (0 : Int32).toInt = 0 := (by decide); omega), (by have := bf_12.1; have := bf_12.2; have := bwh_9.1; have := bwh_9.2; have := bfc.1; have := bfc.2; have : (0 : Int32).toInt = 0 := (by decide); omega)⟩
      refine zt_geti (t := 2) (C := RX2) (T := TX2) (N := 9) Z h ha_13 zin_2 rfl 7 rfl ⟨by decide, rfl⟩ (zm_RX10 (List.mem_of_getElem? (i := 30) rfl)) (fun _ h9 => h9) dX10_function_53 (fun x_15 kx_15 bx_15 => ?_)
      subst hQ
      exact W.iret (v := x_15) hx hb hr (fun t ht hW => ⟨⟨x_15, F, rfl, ⟨rfl, ⟨fun _ => by rw [← fa_14, show wh.toInt.toNat = 0 by have := bf_12.1; have := bf_12.2; have := bwh_9.1; have := bwh_9.2; have := bx_15.1; have := bx_15.2; have := bfc.1; have := bfc.2; have : (0 : Int32).toInt = 0 := (by decide); omega, show zfj 0 = 7 from rfl]; exact kx_15, fun h9 => by exfalso; have := bf_12.1; have := bf_12.2; have := bwh_9.1; have := bwh_9.2; have := bx_15.1; have := bx_15.2; have := bfc.1; have := bfc.2; have : (0 : Int32).toInt = 0 := (by decide); omega⟩, trivial⟩, by rw [ht]; exact h.1, h.2.1, zFr.rf⟩, h.2.2.F ht⟩) h.2.2.2.2 dX10_function_56
    · by_cases c_16 : wh = 1
      · refine lv_tableIn (off := 43) (tgt := 57) hx hb dX10_function_14 (by rw [c_16]; decide) (by rw [c_16]; decide) (by rw [c_16]; rfl) (by decide) ?_
        have bwh_16 : zB 1 1 wh := by rw [c_16]; exact zBc _ _ (by decide)
        refine lv_aload_n hx hb dX10_function_57 rfl (lv_at hl 0 rfl) ?_
        refine zt_getk (t := 10) (C := RX10) (T := TX10) (N := 14) Z h hth zin_10 rfl 2 kpn ⟨by decide, rfl, by decide⟩ (zm_RX10 (List.mem_of_getElem? (i := 21) rfl)) (fun _ h9 => h9) dX10_function_58 ?_
        refine zt_getr (t := 6) (C := RX6) (T := TX6) (N := 6) Z h hpn zin_6 rfl 2 rfl ⟨by decide, rfl⟩ (zm_RX10 (List.mem_of_getElem? (i := 29) rfl)) (fun _ h9 => h9) dX10_function_61 (fun a_18 ka_18 ha_18 => ?_)
        refine lv_iload_n hx hb dX10_function_64 rfl (lv_at hl 1 rfl) ?_
        have bf_19 : zB 0 9 f := ⟨by have := (zB.all f).1; have := (zB.all f).2; have := bwh_16.1; have := bwh_16.2; have := bfc.1; have := bfc.2; have : (0 : Int32).toInt = 0 := (by decide); omega, by have := (zB.all f).1; have := (zB.all f).2; have := bwh_16.1; have := bwh_16.2; have := bfc.1; have := bfc.2; have : (0 : Int32).toInt = 0 := (by decide); omega⟩
        refine zt_aalde (t := 104) (t1 := 2) Z h ha_18 ⟨by decide, rfl⟩ (by decide) bf_19 ⟨by decide, by decide⟩ dX10_function_65 (fun a_20 ea_20 ha_20 => ?_)
        have fa_21 := zPS.at hr0 ka_18 ea_20 ⟨(by have := bf_19.1; have := bf_19.2; have := bwh_16.1; have := bwh_16.2; have := bfc.1; have := bfc.2; have : (0 : Int32).toInt = 0 := (by decide); omega), (by have := bf_19.1; have := bf_19.2; have := bwh_16.1; have := bwh_16.2; have := bfc.1; have := bfc.2; have : (0 : Int32).toInt = 0 := (by decide); omega)⟩
        refine zt_geti (t := 2) (C := RX2) (T := TX2) (N := 9) Z h ha_20 zin_2 rfl 3 rfl ⟨by decide, rfl⟩ (zm_RX10 (List.mem_of_getElem? (i := 31) rfl)) (fun _ h9 => h9) dX10_function_66 (fun x_22 kx_22 bx_22 => ?_)
        subst hQ
        exact W.iret (v := x_22) hx hb hr (fun t ht hW => ⟨⟨x_22, F, rfl, ⟨rfl, ⟨fun _ => by rw [← fa_21, show wh.toInt.toNat = 1 by have := bf_19.1; have := bf_19.2; have := bwh_16.1; have := bwh_16.2; have := bx_22.1; have := bx_22.2; have := bfc.1; have := bfc.2; have : (0 : Int32).toInt = 0 := (by decide); omega, show zfj 1 = 3 from rfl]; exact kx_22, fun h9 => by exfalso; have := bf_19.1; have := bf_19.2; have := bwh_16.1; have := bwh_16.2; have := bx_22.1; have := bx_22.2; have := bfc.1; have := bfc.2; have : (0 : Int32).toInt = 0 := (by decide); omega⟩, trivial⟩, by rw [ht]; exact h.1, h.2.1, zFr.rf⟩, h.2.2.F ht⟩) h.2.2.2.2 dX10_function_69
      · by_cases c_23 : wh = 2
        · refine lv_tableIn (off := 56) (tgt := 70) hx hb dX10_function_14 (by rw [c_23]; decide) (by rw [c_23]; decide) (by rw [c_23]; rfl) (by decide) ?_
          have bwh_23 : zB 2 2 wh := by rw [c_23]; exact zBc _ _ (by decide)
          refine lv_aload_n hx hb dX10_function_70 rfl (lv_at hl 0 rfl) ?_
          refine zt_getk (t := 10) (C := RX10) (T := TX10) (N := 14) Z h hth zin_10 rfl 2 kpn ⟨by decide, rfl, by decide⟩ (zm_RX10 (List.mem_of_getElem? (i := 21) rfl)) (fun _ h9 => h9) dX10_function_71 ?_
          refine zt_getr (t := 6) (C := RX6) (T := TX6) (N := 6) Z h hpn zin_6 rfl 2 rfl ⟨by decide, rfl⟩ (zm_RX10 (List.mem_of_getElem? (i := 29) rfl)) (fun _ h9 => h9) dX10_function_74 (fun a_25 ka_25 ha_25 => ?_)
          refine lv_iload_n hx hb dX10_function_77 rfl (lv_at hl 1 rfl) ?_
          have bf_26 : zB 0 9 f := ⟨by have := (zB.all f).1; have := (zB.all f).2; have := bwh_23.1; have := bwh_23.2; have := bfc.1; have := bfc.2; have : (0 : Int32).toInt = 0 := (by decide); omega, by have := (zB.all f).1; have := (zB.all f).2; have := bwh_23.1; have := bwh_23.2; have := bfc.1; have := bfc.2; have : (0 : Int32).toInt = 0 := (by decide); omega⟩
          refine zt_aalde (t := 104) (t1 := 2) Z h ha_25 ⟨by decide, rfl⟩ (by decide) bf_26 ⟨by decide, by decide⟩ dX10_function_78 (fun a_27 ea_27 ha_27 => ?_)
          have fa_28 := zPS.at hr0 ka_25 ea_27 ⟨(by have := bf_26.1; have := bf_26.2; have := bwh_23.1; have := bwh_23.2; have := bfc.1; have := bfc.2; have : (0 : Int32).toInt = 0 := (by decide); omega), (by have := bf_26.1; have := bf_26.2; have := bwh_23.1; have := bwh_23.2; have := bfc.1; have := bfc.2; have : (0 : Int32).toInt = 0 := (by decide); omega)⟩
          refine zt_geti (t := 2) (C := RX2) (T := TX2) (N := 9) Z h ha_27 zin_2 rfl 4 rfl ⟨by decide, rfl⟩ (zm_RX10 (List.mem_of_getElem? (i := 32) rfl)) (fun _ h9 => h9) dX10_function_79 (fun x_29 kx_29 bx_29 => ?_)
          subst hQ
          exact W.iret (v := x_29) hx hb hr (fun t ht hW => ⟨⟨x_29, F, rfl, ⟨rfl, ⟨fun _ => by rw [← fa_28, show wh.toInt.toNat = 2 by have := bf_26.1; have := bf_26.2; have := bwh_23.1; have := bwh_23.2; have := bx_29.1; have := bx_29.2; have := bfc.1; have := bfc.2; have : (0 : Int32).toInt = 0 := (by decide); omega, show zfj 2 = 4 from rfl]; exact kx_29, fun h9 => by exfalso; have := bf_26.1; have := bf_26.2; have := bwh_23.1; have := bwh_23.2; have := bx_29.1; have := bx_29.2; have := bfc.1; have := bfc.2; have : (0 : Int32).toInt = 0 := (by decide); omega⟩, trivial⟩, by rw [ht]; exact h.1, h.2.1, zFr.rf⟩, h.2.2.F ht⟩) h.2.2.2.2 dX10_function_82
        · by_cases c_30 : wh = 3
          · refine lv_tableIn (off := 69) (tgt := 83) hx hb dX10_function_14 (by rw [c_30]; decide) (by rw [c_30]; decide) (by rw [c_30]; rfl) (by decide) ?_
            have bwh_30 : zB 3 3 wh := by rw [c_30]; exact zBc _ _ (by decide)
            refine lv_aload_n hx hb dX10_function_83 rfl (lv_at hl 0 rfl) ?_
            refine zt_getk (t := 10) (C := RX10) (T := TX10) (N := 14) Z h hth zin_10 rfl 2 kpn ⟨by decide, rfl, by decide⟩ (zm_RX10 (List.mem_of_getElem? (i := 21) rfl)) (fun _ h9 => h9) dX10_function_84 ?_
            refine zt_getr (t := 6) (C := RX6) (T := TX6) (N := 6) Z h hpn zin_6 rfl 2 rfl ⟨by decide, rfl⟩ (zm_RX10 (List.mem_of_getElem? (i := 29) rfl)) (fun _ h9 => h9) dX10_function_87 (fun a_32 ka_32 ha_32 => ?_)
            refine lv_iload_n hx hb dX10_function_90 rfl (lv_at hl 1 rfl) ?_
            have bf_33 : zB 0 9 f := ⟨by have := (zB.all f).1; have := (zB.all f).2; have := bwh_30.1; have := bwh_30.2; have := bfc.1; have := bfc.2; have : (0 : Int32).toInt = 0 := (by decide); omega, by have := (zB.all f).1; have := (zB.all f).2; have := bwh_30.1; have := bwh_30.2; have := bfc.1; have := bfc.2; have : (0 : Int32).toInt = 0 := (by decide); omega⟩
            refine zt_aalde (t := 104) (t1 := 2) Z h ha_32 ⟨by decide, rfl⟩ (by decide) bf_33 ⟨by decide, by decide⟩ dX10_function_91 (fun a_34 ea_34 ha_34 => ?_)
            have fa_35 := zPS.at hr0 ka_32 ea_34 ⟨(by have := bf_33.1; have := bf_33.2; have := bwh_30.1; have := bwh_30.2; have := bfc.1; have := bfc.2; have : (0 : Int32).toInt = 0 := (by decide); omega), (by have := bf_33.1; have := bf_33.2; have := bwh_30.1; have := bwh_30.2; have := bfc.1; have := bfc.2; have : (0 : Int32).toInt = 0 := (by decide); omega)⟩
            refine zt_geti (t := 2) (C := RX2) (T := TX2) (N := 9) Z h ha_34 zin_2 rfl 6 rfl ⟨by decide, rfl⟩ (zm_RX10 (List.mem_of_getElem? (i := 33) rfl)) (fun _ h9 => h9) dX10_function_92 (fun x_36 kx_36 bx_36 => ?_)
            subst hQ
            exact W.iret (v := x_36) hx hb hr (fun t ht hW => ⟨⟨x_36, F, rfl, ⟨rfl, ⟨fun _ => by rw [← fa_35, show wh.toInt.toNat = 3 by have := bf_33.1; have := bf_33.2; have := bwh_30.1; have := bwh_30.2; have := bx_36.1; have := bx_36.2; have := bfc.1; have := bfc.2; have : (0 : Int32).toInt = 0 := (by decide); omega, show zfj 3 = 6 from rfl]; exact kx_36, fun h9 => by exfalso; have := bf_33.1; have := bf_33.2; have := bwh_30.1; have := bwh_30.2; have := bx_36.1; have := bx_36.2; have := bfc.1; have := bfc.2; have : (0 : Int32).toInt = 0 := (by decide); omega⟩, trivial⟩, by rw [ht]; exact h.1, h.2.1, zFr.rf⟩, h.2.2.F ht⟩) h.2.2.2.2 dX10_function_95
          · have nc_9 : wh.toInt ≠ 0 := z_nev c_9 (by decide)
            have nc_16 : wh.toInt ≠ 1 := z_nev c_16 (by decide)
            have nc_23 : wh.toInt ≠ 2 := z_nev c_23 (by decide)
            have nc_30 : wh.toInt ≠ 3 := z_nev c_30 (by decide)
            refine lv_tableOut (tgt := 96) hx hb dX10_function_14 (by have := (zB.all wh).1; have := (zB.all wh).2; omega) (by decide) ?_
            refine lv_iconst (v := (-1)) hx hb dX10_function_96 (by decide) ?_
            subst hQ
            exact W.iret (v := (-1)) hx hb hr (fun t ht hW => ⟨⟨(-1), F, rfl, ⟨rfl, ⟨fun h9 => by exfalso; have := (zB.all f).1; have := (zB.all f).2; have := (zB.all wh).1; have := (zB.all wh).2; have := bfc.1; have := bfc.2; have : ((-1) : Int32).toInt = (-1) := (by decide); have : (0 : Int32).toInt = 0 := (by decide); omega, fun _ => by have := (zB.all f).1; have := (zB.all f).2; have := (zB.all wh).1; have := (zB.all wh).2; have := bfc.1; have := bfc.2; have : ((-1) : Int32).toInt = (-1) := (by decide); have : (0 : Int32).toInt = 0 := (by decide); omega⟩, trivial⟩, by rw [ht]; exact h.1, h.2.1, zFr.rf⟩, h.2.2.F ht⟩) h.2.2.2.2 dX10_function_97
  · have q_37 := q_5 c_6
    have c_6 := z_eq c_6
    have br_1_38 : zB 0 0 r_1 := zB.eqL (a := 0) (b := 0) c_6 (zBc 0 0 (by decide))
    refine lv_iconst (v := (-1)) hx hb dX10_function_11 (by decide) ?_
    subst hQ
    exact W.iret (v := (-1)) hx hb hr (fun t ht hW => ⟨⟨(-1), F, rfl, ⟨rfl, ⟨fun h9 => by exfalso; have := (zB.all f).1; have := (zB.all f).2; have := (zB.all wh).1; have := (zB.all wh).2; have := bfc.1; have := bfc.2; have : ((-1) : Int32).toInt = (-1) := (by decide); have : (0 : Int32).toInt = 0 := (by decide); omega, fun _ => by have := (zB.all f).1; have := (zB.all f).2; have := (zB.all wh).1; have := (zB.all wh).2; have := bfc.1; have := bfc.2; have : ((-1) : Int32).toInt = (-1) := (by decide); have : (0 : Int32).toInt = 0 := (by decide); omega⟩, trivial⟩, by rw [ht]; exact h.1, h.2.1, zFr.rf⟩, h.2.2.F ht⟩) h.2.2.2.2 dX10_function_12

set_option maxHeartbeats 4000000 in
set_option maxRecDepth 100000 in
theorem zc_X10_line (l : Launch) (D : va_G) (k : Nat → ClassId) (Γ : Nat → Option Nat) (L : List Nat) (F : Nat → va_E) (sz : Nat) (th : Nat) (li : Int32) (wh : Int32) (pn : Nat) (lc : Int32) (la : Nat → Nat) (hth : Γ th = some 10) (kpn : zfld F th 2 = .ref pn) (hpn : Γ pn = some 6) (klc : zfld F pn 5 = .int lc) (blc : zB 0 60 lc) (hr0 : zLS Γ F pn la) : Met l yX10_line zwX10_line ({ frames := 1, cells := 0, slots := 0, locals := 21 }) (va_Pc [.ref th, .int li, .int wh] (zP D k Γ L F sz)) (va_Qi (fun (r : Int32) (u : Nat → va_E) => F = u ∧ ((0 ≤ li.toInt ∧ li.toInt < lc.toInt ∧ 0 ≤ wh.toInt ∧ wh.toInt ≤ 3 → zfld u (la li.toInt.toNat) wh.toInt.toNat = .int r) ∧ (li.toInt < 0 ∨ lc.toInt ≤ li.toInt ∨ wh.toInt < 0 ∨ 3 < wh.toInt → r.toInt = -1)) ∧ True) (zQ D k Γ L F []) (zA L sz)) 0 0 (zA L sz) := by
  refine Met.ofW (cc := cX10_line) (maxL := 3) (ret := (some .int)) (by decide) rfl ?_
  intro p e s m args below meth c s₁ B hml hv
  obtain ⟨rfl, hsz, hP, hK, hLn, hE, hI⟩ := hv
  have hx := B.exec
  have hb := B.bytes
  have hr := B.returns
  have hg : ∀ w ∈ zG, w.before _ s = true := fun w h9 => atoms_spec (ws := zwX10_line) B.pre w (List.mem_cons_of_mem _ h9)
  have hown : s.vm.findClass RX10 = some m.cls := findClass_of_methodNamed B.named
  have hlocks := B.notSynchronized
  subst hsz
  have Z : zC p m c cX10_line 3 s _ zG RX10 D k L := ⟨⟨hx, hb, hml, hown, hg⟩, hK, hLn, hE⟩
  have h : zH D k Γ L s F s.heap [] := ⟨hP, hI, va_S.rf⟩
  have hl := lv_entry ([.ref th, .int li, .int wh]) (n := 3) (Nat.le_of_ble_eq_true rfl)
  rw [lg_entry_eq]
  generalize (lg_sl ([.ref th, .int li, .int wh]) ++ List.replicate (3 - (lg_sl ([.ref th, .int li, .int wh])).length) Slot.unset).toArray = ls at hl ⊢
  have hl : lv_has ls 3 [(0, .ref th), (1, .int li), (2, .int wh)] := hl
  clear hP hK hLn hE hI
  generalize hargs : ([.ref th, .int li, .int wh] : List Value).toArray = args at *
  refine z_start (fun R Q hRf hRl hQ => ?_)
  have hRf : R.frames = 1 := hRf
  have hRl : R.locals = 21 := hRl
  have h9 := h
  refine lv_aload_n hx hb dX10_line_0 rfl (lv_at hl 0 rfl) ?_
  refine zt_getk (t := 10) (C := RX10) (T := TX10) (N := 14) Z h hth zin_10 rfl 2 kpn ⟨by decide, rfl, by decide⟩ (zm_RX10 (List.mem_of_getElem? (i := 21) rfl)) (fun _ h9 => h9) dX10_line_1 ?_
  refine lv_iload_n hx hb dX10_line_4 rfl (lv_at hl 1 rfl) ?_
  refine zk_Vi (As := [.int li]) (rest := []) (bytes := cX6_hasLine) (maxL := 2) (ret := (some .boolean)) Z h (ze_X6_hasLine l D k Γ L F s.heap.size pn li lc hpn klc blc) (cwV 1 hg zv_RX10_142 rfl rfl rfl zd_X6_hasLine ⟨z_leR hRf (by decide), z_leR hRl (by decide)⟩) hpn (by decide) rfl rfl hl.1 rfl (Nat.le_of_ble_eq_true rfl) dX10_line_5 ⟨Nat.zero_le _, Nat.zero_le _⟩ (fun r_1 F_2 H locs w_3 h hfF_2 => ?_)
  obtain ⟨rfl, br_1, q_4, q_5, q_6, -⟩ := w_3
  refine lv_if_ne (tgt := 13) hx hb dX10_line_8 (by decide) (fun c_7 => ?_) (fun c_7 => ?_)
  · have bli_8 : zB 0 59 li := q_4 c_7
    have q_9 := q_5 c_7
    have c_7 := z_ne c_7
    have br_1_10 : zB 1 1 r_1 := zB.neLo c_7 br_1 (zBc 0 0 (by decide)) (by decide)
    refine lv_iload_n hx hb dX10_line_13 rfl (lv_at hl 2 rfl) ?_
    by_cases c_11 : wh = 0
    · refine lv_tableIn (off := 30) (tgt := 44) hx hb dX10_line_14 (by rw [c_11]; decide) (by rw [c_11]; decide) (by rw [c_11]; rfl) (by decide) ?_
      have bwh_11 : zB 0 0 wh := by rw [c_11]; exact zBc _ _ (by decide)
      refine lv_aload_n hx hb dX10_line_44 rfl (lv_at hl 0 rfl) ?_
      refine zt_getk (t := 10) (C := RX10) (T := TX10) (N := 14) Z h hth zin_10 rfl 2 kpn ⟨by decide, rfl, by decide⟩ (zm_RX10 (List.mem_of_getElem? (i := 21) rfl)) (fun _ h9 => h9) dX10_line_45 ?_
      refine zt_getr (t := 6) (C := RX6) (T := TX6) (N := 6) Z h hpn zin_6 rfl 3 rfl ⟨by decide, rfl⟩ (zm_RX10 (List.mem_of_getElem? (i := 40) rfl)) (fun _ h9 => h9) dX10_line_48 (fun a_13 ka_13 ha_13 => ?_)
      refine lv_iload_n hx hb dX10_line_51 rfl (lv_at hl 1 rfl) ?_
      refine zt_aalde (t := 105) (t1 := 4) Z h ha_13 ⟨by decide, rfl⟩ (by decide) bli_8 ⟨by decide, by decide⟩ dX10_line_52 (fun a_14 ea_14 ha_14 => ?_)
      have la_15 := zLS.at hr0 ka_13 ea_14 ⟨(by have := bli_8.1; have := bli_8.2; have := bwh_11.1; have := bwh_11.2; have := blc.1; have := blc.2; have : (0 : Int32).toInt = 0 := (by decide); omega), (by have := bli_8.1; have := bli_8.2; have := bwh_11.1; have := bwh_11.2; have := blc.1; have := blc.2; have : (0 : Int32).toInt = 0 := (by decide); omega)⟩
      refine zt_geti (t := 4) (C := RX4) (T := TX4) (N := 4) Z h ha_14 zin_4 rfl 0 rfl ⟨by decide, rfl⟩ (zm_RX10 (List.mem_of_getElem? (i := 41) rfl)) (fun _ h9 => h9) dX10_line_53 (fun x_16 kx_16 bx_16 => ?_)
      subst hQ
      exact W.iret (v := x_16) hx hb hr (fun t ht hW => ⟨⟨x_16, F, rfl, ⟨rfl, ⟨fun _ => by rw [← la_15, show wh.toInt.toNat = 0 by have := bli_8.1; have := bli_8.2; have := bwh_11.1; have := bwh_11.2; have := bx_16.1; have := bx_16.2; have := blc.1; have := blc.2; have : (0 : Int32).toInt = 0 := (by decide); omega]; exact kx_16, fun h9 => by exfalso; have := bli_8.1; have := bli_8.2; have := bwh_11.1; have := bwh_11.2; have := bx_16.1; have := bx_16.2; have := blc.1; have := blc.2; have : (0 : Int32).toInt = 0 := (by decide); omega⟩, trivial⟩, by rw [ht]; exact h.1, h.2.1, zFr.rf⟩, h.2.2.F ht⟩) h.2.2.2.2 dX10_line_56
    · by_cases c_17 : wh = 1
      · refine lv_tableIn (off := 43) (tgt := 57) hx hb dX10_line_14 (by rw [c_17]; decide) (by rw [c_17]; decide) (by rw [c_17]; rfl) (by decide) ?_
        have bwh_17 : zB 1 1 wh := by rw [c_17]; exact zBc _ _ (by decide)
        refine lv_aload_n hx hb dX10_line_57 rfl (lv_at hl 0 rfl) ?_
        refine zt_getk (t := 10) (C := RX10) (T := TX10) (N := 14) Z h hth zin_10 rfl 2 kpn ⟨by decide, rfl, by decide⟩ (zm_RX10 (List.mem_of_getElem? (i := 21) rfl)) (fun _ h9 => h9) dX10_line_58 ?_
        refine zt_getr (t := 6) (C := RX6) (T := TX6) (N := 6) Z h hpn zin_6 rfl 3 rfl ⟨by decide, rfl⟩ (zm_RX10 (List.mem_of_getElem? (i := 40) rfl)) (fun _ h9 => h9) dX10_line_61 (fun a_19 ka_19 ha_19 => ?_)
        refine lv_iload_n hx hb dX10_line_64 rfl (lv_at hl 1 rfl) ?_
        refine zt_aalde (t := 105) (t1 := 4) Z h ha_19 ⟨by decide, rfl⟩ (by decide) bli_8 ⟨by decide, by decide⟩ dX10_line_65 (fun a_20 ea_20 ha_20 => ?_)
        have la_21 := zLS.at hr0 ka_19 ea_20 ⟨(by have := bli_8.1; have := bli_8.2; have := bwh_17.1; have := bwh_17.2; have := blc.1; have := blc.2; have : (0 : Int32).toInt = 0 := (by decide); omega), (by have := bli_8.1; have := bli_8.2; have := bwh_17.1; have := bwh_17.2; have := blc.1; have := blc.2; have : (0 : Int32).toInt = 0 := (by decide); omega)⟩
        refine zt_geti (t := 4) (C := RX4) (T := TX4) (N := 4) Z h ha_20 zin_4 rfl 1 rfl ⟨by decide, rfl⟩ (zm_RX10 (List.mem_of_getElem? (i := 42) rfl)) (fun _ h9 => h9) dX10_line_66 (fun x_22 kx_22 bx_22 => ?_)
        subst hQ
        exact W.iret (v := x_22) hx hb hr (fun t ht hW => ⟨⟨x_22, F, rfl, ⟨rfl, ⟨fun _ => by rw [← la_21, show wh.toInt.toNat = 1 by have := bli_8.1; have := bli_8.2; have := bwh_17.1; have := bwh_17.2; have := bx_22.1; have := bx_22.2; have := blc.1; have := blc.2; have : (0 : Int32).toInt = 0 := (by decide); omega]; exact kx_22, fun h9 => by exfalso; have := bli_8.1; have := bli_8.2; have := bwh_17.1; have := bwh_17.2; have := bx_22.1; have := bx_22.2; have := blc.1; have := blc.2; have : (0 : Int32).toInt = 0 := (by decide); omega⟩, trivial⟩, by rw [ht]; exact h.1, h.2.1, zFr.rf⟩, h.2.2.F ht⟩) h.2.2.2.2 dX10_line_69
      · by_cases c_23 : wh = 2
        · refine lv_tableIn (off := 56) (tgt := 70) hx hb dX10_line_14 (by rw [c_23]; decide) (by rw [c_23]; decide) (by rw [c_23]; rfl) (by decide) ?_
          have bwh_23 : zB 2 2 wh := by rw [c_23]; exact zBc _ _ (by decide)
          refine lv_aload_n hx hb dX10_line_70 rfl (lv_at hl 0 rfl) ?_
          refine zt_getk (t := 10) (C := RX10) (T := TX10) (N := 14) Z h hth zin_10 rfl 2 kpn ⟨by decide, rfl, by decide⟩ (zm_RX10 (List.mem_of_getElem? (i := 21) rfl)) (fun _ h9 => h9) dX10_line_71 ?_
          refine zt_getr (t := 6) (C := RX6) (T := TX6) (N := 6) Z h hpn zin_6 rfl 3 rfl ⟨by decide, rfl⟩ (zm_RX10 (List.mem_of_getElem? (i := 40) rfl)) (fun _ h9 => h9) dX10_line_74 (fun a_25 ka_25 ha_25 => ?_)
          refine lv_iload_n hx hb dX10_line_77 rfl (lv_at hl 1 rfl) ?_
          refine zt_aalde (t := 105) (t1 := 4) Z h ha_25 ⟨by decide, rfl⟩ (by decide) bli_8 ⟨by decide, by decide⟩ dX10_line_78 (fun a_26 ea_26 ha_26 => ?_)
          have la_27 := zLS.at hr0 ka_25 ea_26 ⟨(by have := bli_8.1; have := bli_8.2; have := bwh_23.1; have := bwh_23.2; have := blc.1; have := blc.2; have : (0 : Int32).toInt = 0 := (by decide); omega), (by have := bli_8.1; have := bli_8.2; have := bwh_23.1; have := bwh_23.2; have := blc.1; have := blc.2; have : (0 : Int32).toInt = 0 := (by decide); omega)⟩
          refine zt_geti (t := 4) (C := RX4) (T := TX4) (N := 4) Z h ha_26 zin_4 rfl 2 rfl ⟨by decide, rfl⟩ (zm_RX10 (List.mem_of_getElem? (i := 43) rfl)) (fun _ h9 => h9) dX10_line_79 (fun x_28 kx_28 bx_28 => ?_)
          subst hQ
          exact W.iret (v := x_28) hx hb hr (fun t ht hW => ⟨⟨x_28, F, rfl, ⟨rfl, ⟨fun _ => by rw [← la_27, show wh.toInt.toNat = 2 by have := bli_8.1; have := bli_8.2; have := bwh_23.1; have := bwh_23.2; have := bx_28.1; have := bx_28.2; have := blc.1; have := blc.2; have : (0 : Int32).toInt = 0 := (by decide); omega]; exact kx_28, fun h9 => by exfalso; have := bli_8.1; have := bli_8.2; have := bwh_23.1; have := bwh_23.2; have := bx_28.1; have := bx_28.2; have := blc.1; have := blc.2; have : (0 : Int32).toInt = 0 := (by decide); omega⟩, trivial⟩, by rw [ht]; exact h.1, h.2.1, zFr.rf⟩, h.2.2.F ht⟩) h.2.2.2.2 dX10_line_82
        · by_cases c_29 : wh = 3
          · refine lv_tableIn (off := 69) (tgt := 83) hx hb dX10_line_14 (by rw [c_29]; decide) (by rw [c_29]; decide) (by rw [c_29]; rfl) (by decide) ?_
            have bwh_29 : zB 3 3 wh := by rw [c_29]; exact zBc _ _ (by decide)
            refine lv_aload_n hx hb dX10_line_83 rfl (lv_at hl 0 rfl) ?_
            refine zt_getk (t := 10) (C := RX10) (T := TX10) (N := 14) Z h hth zin_10 rfl 2 kpn ⟨by decide, rfl, by decide⟩ (zm_RX10 (List.mem_of_getElem? (i := 21) rfl)) (fun _ h9 => h9) dX10_line_84 ?_
            refine zt_getr (t := 6) (C := RX6) (T := TX6) (N := 6) Z h hpn zin_6 rfl 3 rfl ⟨by decide, rfl⟩ (zm_RX10 (List.mem_of_getElem? (i := 40) rfl)) (fun _ h9 => h9) dX10_line_87 (fun a_31 ka_31 ha_31 => ?_)
            refine lv_iload_n hx hb dX10_line_90 rfl (lv_at hl 1 rfl) ?_
            refine zt_aalde (t := 105) (t1 := 4) Z h ha_31 ⟨by decide, rfl⟩ (by decide) bli_8 ⟨by decide, by decide⟩ dX10_line_91 (fun a_32 ea_32 ha_32 => ?_)
            have la_33 := zLS.at hr0 ka_31 ea_32 ⟨(by have := bli_8.1; have := bli_8.2; have := bwh_29.1; have := bwh_29.2; have := blc.1; have := blc.2; have : (0 : Int32).toInt = 0 := (by decide); omega), (by have := bli_8.1; have := bli_8.2; have := bwh_29.1; have := bwh_29.2; have := blc.1; have := blc.2; have : (0 : Int32).toInt = 0 := (by decide); omega)⟩
            refine zt_geti (t := 4) (C := RX4) (T := TX4) (N := 4) Z h ha_32 zin_4 rfl 3 rfl ⟨by decide, rfl⟩ (zm_RX10 (List.mem_of_getElem? (i := 44) rfl)) (fun _ h9 => h9) dX10_line_92 (fun x_34 kx_34 bx_34 => ?_)
            subst hQ
            exact W.iret (v := x_34) hx hb hr (fun t ht hW => ⟨⟨x_34, F, rfl, ⟨rfl, ⟨fun _ => by rw [← la_33, show wh.toInt.toNat = 3 by have := bli_8.1; have := bli_8.2; have := bwh_29.1; have := bwh_29.2; have := bx_34.1; have := bx_34.2; have := blc.1; have := blc.2; have : (0 : Int32).toInt = 0 := (by decide); omega]; exact kx_34, fun h9 => by exfalso; have := bli_8.1; have := bli_8.2; have := bwh_29.1; have := bwh_29.2; have := bx_34.1; have := bx_34.2; have := blc.1; have := blc.2; have : (0 : Int32).toInt = 0 := (by decide); omega⟩, trivial⟩, by rw [ht]; exact h.1, h.2.1, zFr.rf⟩, h.2.2.F ht⟩) h.2.2.2.2 dX10_line_95
          · have nc_11 : wh.toInt ≠ 0 := z_nev c_11 (by decide)
            have nc_17 : wh.toInt ≠ 1 := z_nev c_17 (by decide)
            have nc_23 : wh.toInt ≠ 2 := z_nev c_23 (by decide)
            have nc_29 : wh.toInt ≠ 3 := z_nev c_29 (by decide)
            refine lv_tableOut (tgt := 96) hx hb dX10_line_14 (by have := (zB.all wh).1; have := (zB.all wh).2; omega) (by decide) ?_
            refine lv_iconst (v := (-1)) hx hb dX10_line_96 (by decide) ?_
            subst hQ
            exact W.iret (v := (-1)) hx hb hr (fun t ht hW => ⟨⟨(-1), F, rfl, ⟨rfl, ⟨fun h9 => by exfalso; have := bli_8.1; have := bli_8.2; have := (zB.all wh).1; have := (zB.all wh).2; have := blc.1; have := blc.2; have : ((-1) : Int32).toInt = (-1) := (by decide); have : (0 : Int32).toInt = 0 := (by decide); omega, fun _ => by have := bli_8.1; have := bli_8.2; have := (zB.all wh).1; have := (zB.all wh).2; have := blc.1; have := blc.2; have : ((-1) : Int32).toInt = (-1) := (by decide); have : (0 : Int32).toInt = 0 := (by decide); omega⟩, trivial⟩, by rw [ht]; exact h.1, h.2.1, zFr.rf⟩, h.2.2.F ht⟩) h.2.2.2.2 dX10_line_97
  · have q_35 := q_6 c_7
    have c_7 := z_eq c_7
    have br_1_36 : zB 0 0 r_1 := zB.eqL (a := 0) (b := 0) c_7 (zBc 0 0 (by decide))
    refine lv_iconst (v := (-1)) hx hb dX10_line_11 (by decide) ?_
    subst hQ
    exact W.iret (v := (-1)) hx hb hr (fun t ht hW => ⟨⟨(-1), F, rfl, ⟨rfl, ⟨fun h9 => by exfalso; have := (zB.all li).1; have := (zB.all li).2; have := (zB.all wh).1; have := (zB.all wh).2; have := blc.1; have := blc.2; have : ((-1) : Int32).toInt = (-1) := (by decide); have : (0 : Int32).toInt = 0 := (by decide); omega, fun _ => by have := (zB.all li).1; have := (zB.all li).2; have := (zB.all wh).1; have := (zB.all wh).2; have := blc.1; have := blc.2; have : ((-1) : Int32).toInt = (-1) := (by decide); have : (0 : Int32).toInt = 0 := (by decide); omega⟩, trivial⟩, by rw [ht]; exact h.1, h.2.1, zFr.rf⟩, h.2.2.F ht⟩) h.2.2.2.2 dX10_line_12

set_option maxHeartbeats 4000000 in
set_option maxRecDepth 100000 in
theorem zc_X10_run (l : Launch) (D : va_G) (k : Nat → ClassId) (Γ : Nat → Option Nat) (L : List Nat) (F : Nat → va_E) (sz : Nat) (th : Nat) (f : Int32) (x : Int32) (y : Int32) (z : Int32) (fu : Int32) (pn : Nat) (hth : Γ th = some 10) (kpn : zfld F th 2 = .ref pn) (hpn : Γ pn = some 6) : Met l yX10_run zwX10_run ({ frames := 5, cells := 0, slots := 0, locals := 114 }) (va_Pc [.ref th, .int f, .int x, .int y, .int z, .int fu] (zP D k Γ L F sz)) (va_Qi (fun (r : Int32) (u : Nat → va_E) => True) (zQ D k Γ L F [500, 501, 502, 503, 504, 505, 506, 510, 511, 512, 513, 514, 515, 518, 1008, 1013, 10800, 10900, 11000, 11100, 11200]) (zA L sz)) 0 0 (zA L sz) := by
  refine Met.ofW (cc := cX10_run) (maxL := 6) (ret := (some .int)) (by decide) rfl ?_
  intro p e s m args below meth c s₁ B hml hv
  obtain ⟨rfl, hsz, hP, hK, hLn, hE, hI⟩ := hv
  have hx := B.exec
  have hb := B.bytes
  have hr := B.returns
  have hg : ∀ w ∈ zG, w.before _ s = true := fun w h9 => atoms_spec (ws := zwX10_run) B.pre w (List.mem_cons_of_mem _ h9)
  have hown : s.vm.findClass RX10 = some m.cls := findClass_of_methodNamed B.named
  have hlocks := B.notSynchronized
  subst hsz
  have Z : zC p m c cX10_run 6 s _ zG RX10 D k L := ⟨⟨hx, hb, hml, hown, hg⟩, hK, hLn, hE⟩
  have h : zH D k Γ L s F s.heap [] := ⟨hP, hI, va_S.rf⟩
  have hl := lv_entry ([.ref th, .int f, .int x, .int y, .int z, .int fu]) (n := 6) (Nat.le_of_ble_eq_true rfl)
  rw [lg_entry_eq]
  generalize (lg_sl ([.ref th, .int f, .int x, .int y, .int z, .int fu]) ++ List.replicate (6 - (lg_sl ([.ref th, .int f, .int x, .int y, .int z, .int fu])).length) Slot.unset).toArray = ls at hl ⊢
  have hl : lv_has ls 6 [(0, .ref th), (1, .int f), (2, .int x), (3, .int y), (4, .int z), (5, .int fu)] := hl
  clear hP hK hLn hE hI
  generalize hargs : ([.ref th, .int f, .int x, .int y, .int z, .int fu] : List Value).toArray = args at *
  refine z_start (fun R Q hRf hRl hQ => ?_)
  have hRf : R.frames = 5 := hRf
  have hRl : R.locals = 114 := hRl
  refine lv_aload_n hx hb dX10_run_0 rfl (lv_at hl 0 rfl) ?_
  refine zt_getk (t := 10) (C := RX10) (T := TX10) (N := 14) Z h hth zin_10 rfl 2 kpn ⟨by decide, rfl, by decide⟩ (zm_RX10 (List.mem_of_getElem? (i := 21) rfl)) (fun _ h9 => h9) dX10_run_1 ?_
  refine lv_iload_n hx hb dX10_run_4 rfl (lv_at hl 1 rfl) ?_
  refine zk_Vi (As := [.int f]) (rest := []) (bytes := cX6_hasFunction) (maxL := 2) (ret := (some .boolean)) Z h (zc_X6_hasFunction l D k Γ L F s.heap.size pn f hpn) (cwV 1 hg zv_RX10_98 rfl rfl rfl zd_X6_hasFunction ⟨z_leR hRf (by decide), z_leR hRl (by decide)⟩) hpn (by decide) rfl rfl hl.1 rfl (Nat.le_of_ble_eq_true rfl) dX10_run_5 ⟨Nat.zero_le _, Nat.zero_le _⟩ (fun r_1 F_2 H locs w_3 h hfF_2 => ?_)
  obtain ⟨rfl, br_1, q_4, q_5, -⟩ := w_3
  refine lv_if_ne (tgt := 17) hx hb dX10_run_8 (by decide) (fun c_6 => ?_) (fun c_6 => ?_)
  · have bf_7 : zB 0 9 f := q_4 c_6
    obtain ⟨x_8, kx_8, bx_8, q_9⟩ := q_5 c_6
    have c_6 := z_ne c_6
    have br_1_10 : zB 1 1 r_1 := zB.neLo c_6 br_1 (zBc 0 0 (by decide)) (by decide)
    refine lv_iload hx hb dX10_run_17 (lv_at hl 5 rfl) ?_
    refine lv_iconst (v := 1) hx hb dX10_run_19 (by decide) ?_
    refine lv_icmp_lt (tgt := 31) hx hb dX10_run_20 (by decide) (fun c_11 => ?_) (fun c_11 => ?_)
    · have c_11 := z_lt c_11
      have bfu_12 : zB (-2147483648) 0 fu := zB.ltL c_11 (zB.all fu) (zBc 1 1 (by decide)) (by decide)
      refine lv_aload_n hx hb dX10_run_31 rfl (lv_at hl 0 rfl) ?_
      refine lv_iconst (v := 2) hx hb dX10_run_32 (by decide) ?_
      refine zk_Vi (As := [.int 2]) (rest := []) (bytes := cX10_refuse) (maxL := 2) (ret := (some .int)) Z h (zc_X10_refuse l D k Γ L F H.size th 2 hth) (cwV 1 hg zv_RX10_68 rfl rfl rfl zd_X10_refuse ⟨z_leR hRf (by decide), z_leR hRl (by decide)⟩) hth (by decide) rfl rfl hl.1 rfl (Nat.le_of_ble_eq_true rfl) dX10_run_33 ⟨Nat.zero_le _, Nat.zero_le _⟩ (fun r_13 F_14 H locs w_15 h hfF_14 => ?_)
      obtain ⟨br_13, -⟩ := w_15
      subst hQ
      exact W.iret (v := r_13) hx hb hr (fun t ht hW => ⟨⟨r_13, F_14, rfl, trivial, by rw [ht]; exact h.1, h.2.1, (hfF_14.w (by decide))⟩, h.2.2.F ht⟩) h.2.2.2.2 dX10_run_36
    · have c_11 := z_nlt c_11
      have bfu_16 : zB 1 2147483647 fu := zB.leR c_11 (zBc 1 1 (by decide)) (zB.all fu) (by decide)
      refine lv_iload hx hb dX10_run_23 (lv_at hl 5 rfl) ?_
      refine lv_sipush (v := 2000) hx hb dX10_run_25 (by decide) ?_
      refine lv_icmp_le (tgt := 37) hx hb dX10_run_28 (by decide) (fun c_17 => ?_) (fun c_17 => ?_)
      · have c_17 := z_le c_17
        have bfu_18 : zB 1 2000 fu := zB.leL c_17 bfu_16 (zBc 2000 2000 (by decide)) (by decide)
        refine lv_aload_n hx hb dX10_run_37 rfl (lv_at hl 0 rfl) ?_
        refine zt_getr (t := 10) (C := RX10) (T := TX10) (N := 14) Z h hth zin_10 rfl 5 rfl ⟨by decide, rfl⟩ (zm_RX10 (List.mem_of_getElem? (i := 46) rfl)) (fun _ h9 => h9) dX10_run_38 (fun a_19 ka_19 ha_19 => ?_)
        refine lv_aload_n hx hb dX10_run_41 rfl (lv_at hl 0 rfl) ?_
        refine zt_getk (t := 10) (C := RX10) (T := TX10) (N := 14) Z h hth zin_10 rfl 2 kpn ⟨by decide, rfl, by decide⟩ (zm_RX10 (List.mem_of_getElem? (i := 21) rfl)) (fun _ h9 => h9) dX10_run_42 ?_
        refine lv_iload hx hb dX10_run_45 (lv_at hl 5 rfl) ?_
        refine lv_iconst (v := (-1)) hx hb dX10_run_47 (by decide) ?_
        refine zk_Vv (As := [.ref pn, .int fu, .int (-1)]) (rest := []) (bytes := cX5_start) (maxL := 4) (ret := none) Z h (zc_X5_start l D k Γ L F H.size a_19 pn fu (-1) ha_19 hpn) (cwV 3 hg zv_RX10_163 rfl rfl rfl zd_X5_start ⟨z_leR hRf (by decide), z_leR hRl (by decide)⟩) ha_19 (by decide) rfl rfl hl.1 rfl (Nat.le_of_ble_eq_true rfl) dX10_run_48 ⟨Nat.zero_le _, Nat.zero_le _⟩ (fun F_20 H locs w_21 h hfF_20 => ?_)
        obtain ⟨⟨x_23, kx_23, bx_23⟩, ⟨x_25, kx_25, bx_25⟩, ⟨x_27, kx_27, bx_27⟩, kq_28, -⟩ := w_21
        refine lv_aload_n hx hb dX10_run_51 rfl (lv_at hl 0 rfl) ?_
        refine zt_getk (t := 10) (C := RX10) (T := TX10) (N := 14) Z h hth zin_10 rfl 5 (hfF_20.f hth 5 ⟨by decide, by decide⟩ ka_19) ⟨by decide, rfl, by decide⟩ (zm_RX10 (List.mem_of_getElem? (i := 46) rfl)) (fun _ h9 => h9) dX10_run_52 ?_
        refine lv_iload_n hx hb dX10_run_55 rfl (lv_at hl 1 rfl) ?_
        refine lv_iload_n hx hb dX10_run_56 rfl (lv_at hl 2 rfl) ?_
        refine lv_iload_n hx hb dX10_run_57 rfl (lv_at hl 3 rfl) ?_
        refine lv_iload hx hb dX10_run_58 (lv_at hl 4 rfl) ?_
        refine zk_Vv (As := [.int f, .int x, .int y, .int z]) (rest := []) (bytes := cX5_finish) (maxL := 8) (ret := none) Z h (zc_X5_finish l D k Γ L F_20 H.size a_19 f x y z pn x_23 x_25 x_27 ha_19 kq_28 hpn kx_23 bx_23 kx_25 bx_25 kx_27 bx_27) (cwV 4 hg zv_RX10_167 rfl rfl rfl zd_X5_finish ⟨z_leR hRf (by decide), z_leR hRl (by decide)⟩) ha_19 (by decide) rfl rfl hl.1 rfl (Nat.le_of_ble_eq_true rfl) dX10_run_60 ⟨Nat.zero_le _, Nat.zero_le _⟩ (fun F_29 H locs w_30 h hfF_29 => ?_)
        refine lv_aload_n hx hb dX10_run_63 rfl (lv_at hl 0 rfl) ?_
        refine lv_iconst (v := 1) hx hb dX10_run_64 (by decide) ?_
        refine zt_put (t := 10) (C := RX10) (T := TX10) (N := 14) (v := .int 1) Z h hth zin_10 tyX10 tyX10_ok nmX10 rfl 8 rfl ⟨by decide, rfl⟩ (zm_RX10 (List.mem_of_getElem? (i := 49) rfl)) (fun _ h9 => h9) rfl (zV.i (zB.of ⟨by decide, by decide⟩)) rfl rfl dX10_run_65 (fun H locs F_31 h hfF_31 kF_31 => ?_)
        refine lv_aload_n hx hb dX10_run_68 rfl (lv_at hl 0 rfl) ?_
        refine lv_aload_n hx hb dX10_run_69 rfl (lv_at hl 0 rfl) ?_
        refine zt_getk (t := 10) (C := RX10) (T := TX10) (N := 14) Z h hth zin_10 rfl 5 (hfF_31.f hth 5 ⟨by decide, by decide⟩ (hfF_29.f hth 5 ⟨by decide, by decide⟩ (hfF_20.f hth 5 ⟨by decide, by decide⟩ ka_19))) ⟨by decide, rfl, by decide⟩ (zm_RX10 (List.mem_of_getElem? (i := 46) rfl)) (fun _ h9 => h9) dX10_run_70 ?_
        refine zt_geti (t := 5) (C := RX5) (T := TX5) (N := 19) Z h ha_19 zin_5 rfl 0 rfl ⟨by decide, rfl⟩ (zm_RX10 (List.mem_of_getElem? (i := 50) rfl)) (fun _ h9 => h9) dX10_run_73 (fun x_32 kx_32 bx_32 => ?_)
        refine zk_Vi (As := [.int x_32]) (rest := []) (bytes := cX10_accept) (maxL := 2) (ret := (some .int)) Z h (zc_X10_accept l D k Γ L F_31 H.size th x_32 hth) (cwV 1 hg zv_RX10_76 rfl rfl rfl zd_X10_accept ⟨z_leR hRf (by decide), z_leR hRl (by decide)⟩) hth (by decide) rfl rfl hl.1 rfl (Nat.le_of_ble_eq_true rfl) dX10_run_76 ⟨Nat.zero_le _, Nat.zero_le _⟩ (fun r_33 F_34 H locs w_35 h hfF_34 => ?_)
        obtain ⟨q_36, -⟩ := w_35
        have br_33 := zB.all r_33
        subst hQ
        exact W.iret (v := r_33) hx hb hr (fun t ht hW => ⟨⟨r_33, F_34, rfl, trivial, by rw [ht]; exact h.1, h.2.1, ((((hfF_20.w (by decide)).trans hfF_29 (by decide)).trans hfF_31 (by decide)).trans hfF_34 (by decide))⟩, h.2.2.F ht⟩) h.2.2.2.2 dX10_run_79
      · have c_17 := z_nle c_17
        have bfu_37 : zB 2001 2147483647 fu := zB.ltR c_17 (zBc 2000 2000 (by decide)) bfu_16 (by decide)
        refine lv_aload_n hx hb dX10_run_31 rfl (lv_at hl 0 rfl) ?_
        refine lv_iconst (v := 2) hx hb dX10_run_32 (by decide) ?_
        refine zk_Vi (As := [.int 2]) (rest := []) (bytes := cX10_refuse) (maxL := 2) (ret := (some .int)) Z h (zc_X10_refuse l D k Γ L F H.size th 2 hth) (cwV 1 hg zv_RX10_68 rfl rfl rfl zd_X10_refuse ⟨z_leR hRf (by decide), z_leR hRl (by decide)⟩) hth (by decide) rfl rfl hl.1 rfl (Nat.le_of_ble_eq_true rfl) dX10_run_33 ⟨Nat.zero_le _, Nat.zero_le _⟩ (fun r_38 F_39 H locs w_40 h hfF_39 => ?_)
        obtain ⟨br_38, -⟩ := w_40
        subst hQ
        exact W.iret (v := r_38) hx hb hr (fun t ht hW => ⟨⟨r_38, F_39, rfl, trivial, by rw [ht]; exact h.1, h.2.1, (hfF_39.w (by decide))⟩, h.2.2.F ht⟩) h.2.2.2.2 dX10_run_36
  · have c_6 := z_eq c_6
    have br_1_41 : zB 0 0 r_1 := zB.eqL (a := 0) (b := 0) c_6 (zBc 0 0 (by decide))
    refine lv_aload_n hx hb dX10_run_11 rfl (lv_at hl 0 rfl) ?_
    refine lv_iconst (v := 1) hx hb dX10_run_12 (by decide) ?_
    refine zk_Vi (As := [.int 1]) (rest := []) (bytes := cX10_refuse) (maxL := 2) (ret := (some .int)) Z h (zc_X10_refuse l D k Γ L F H.size th 1 hth) (cwV 1 hg zv_RX10_68 rfl rfl rfl zd_X10_refuse ⟨z_leR hRf (by decide), z_leR hRl (by decide)⟩) hth (by decide) rfl rfl hl.1 rfl (Nat.le_of_ble_eq_true rfl) dX10_run_13 ⟨Nat.zero_le _, Nat.zero_le _⟩ (fun r_42 F_43 H locs w_44 h hfF_43 => ?_)
    obtain ⟨br_42, -⟩ := w_44
    subst hQ
    exact W.iret (v := r_42) hx hb hr (fun t ht hW => ⟨⟨r_42, F_43, rfl, trivial, by rw [ht]; exact h.1, h.2.1, (hfF_43.w (by decide))⟩, h.2.2.F ht⟩) h.2.2.2.2 dX10_run_16

set_option maxHeartbeats 4000000 in
set_option maxRecDepth 100000 in
theorem zc_X10_ran (l : Launch) (D : va_G) (k : Nat → ClassId) (Γ : Nat → Option Nat) (L : List Nat) (F : Nat → va_E) (sz : Nat) (th : Nat) (wh : Int32) (hth : Γ th = some 10) : Met l yX10_ran zwX10_ran ({ frames := 1, cells := 0, slots := 0, locals := 21 }) (va_Pc [.ref th, .int wh] (zP D k Γ L F sz)) (va_Qi (fun (r : Int32) (u : Nat → va_E) => True) (zQ D k Γ L F [1013]) (zA L sz)) 0 0 (zA L sz) := by
  refine Met.ofW (cc := cX10_ran) (maxL := 2) (ret := (some .int)) (by decide) rfl ?_
  intro p e s m args below meth c s₁ B hml hv
  obtain ⟨rfl, hsz, hP, hK, hLn, hE, hI⟩ := hv
  have hx := B.exec
  have hb := B.bytes
  have hr := B.returns
  have hg : ∀ w ∈ zG, w.before _ s = true := fun w h9 => atoms_spec (ws := zwX10_ran) B.pre w (List.mem_cons_of_mem _ h9)
  have hown : s.vm.findClass RX10 = some m.cls := findClass_of_methodNamed B.named
  have hlocks := B.notSynchronized
  subst hsz
  have Z : zC p m c cX10_ran 2 s _ zG RX10 D k L := ⟨⟨hx, hb, hml, hown, hg⟩, hK, hLn, hE⟩
  have h : zH D k Γ L s F s.heap [] := ⟨hP, hI, va_S.rf⟩
  have hl := lv_entry ([.ref th, .int wh]) (n := 2) (Nat.le_of_ble_eq_true rfl)
  rw [lg_entry_eq]
  generalize (lg_sl ([.ref th, .int wh]) ++ List.replicate (2 - (lg_sl ([.ref th, .int wh])).length) Slot.unset).toArray = ls at hl ⊢
  have hl : lv_has ls 2 [(0, .ref th), (1, .int wh)] := hl
  clear hP hK hLn hE hI
  generalize hargs : ([.ref th, .int wh] : List Value).toArray = args at *
  refine z_start (fun R Q hRf hRl hQ => ?_)
  have hRf : R.frames = 1 := hRf
  have hRl : R.locals = 21 := hRl
  refine lv_aload_n hx hb dX10_ran_0 rfl (lv_at hl 0 rfl) ?_
  refine zt_geti (t := 10) (C := RX10) (T := TX10) (N := 14) Z h hth zin_10 rfl 8 rfl ⟨by decide, rfl⟩ (zm_RX10 (List.mem_of_getElem? (i := 49) rfl)) (fun _ h9 => h9) dX10_ran_1 (fun x_1 kx_1 bx_1 => ?_)
  refine lv_if_ne (tgt := 13) hx hb dX10_ran_4 (by decide) (fun c_2 => ?_) (fun c_2 => ?_)
  · have c_2 := z_ne c_2
    have bx_1_3 : zB 1 1 x_1 := zB.neLo c_2 bx_1 (zBc 0 0 (by decide)) (by decide)
    refine lv_iload_n hx hb dX10_ran_13 rfl (lv_at hl 1 rfl) ?_
    by_cases c_4 : wh = 0
    · refine lv_tableIn (off := 38) (tgt := 52) hx hb dX10_ran_14 (by rw [c_4]; decide) (by rw [c_4]; decide) (by rw [c_4]; rfl) (by decide) ?_
      have bwh_4 : zB 0 0 wh := by rw [c_4]; exact zBc _ _ (by decide)
      refine lv_aload_n hx hb dX10_ran_52 rfl (lv_at hl 0 rfl) ?_
      refine lv_aload_n hx hb dX10_ran_53 rfl (lv_at hl 0 rfl) ?_
      refine zt_getr (t := 10) (C := RX10) (T := TX10) (N := 14) Z h hth zin_10 rfl 5 rfl ⟨by decide, rfl⟩ (zm_RX10 (List.mem_of_getElem? (i := 46) rfl)) (fun _ h9 => h9) dX10_ran_54 (fun a_6 ka_6 ha_6 => ?_)
      refine zt_geti (t := 5) (C := RX5) (T := TX5) (N := 19) Z h ha_6 zin_5 rfl 1 rfl ⟨by decide, rfl⟩ (zm_RX10 (List.mem_of_getElem? (i := 52) rfl)) (fun _ h9 => h9) dX10_ran_57 (fun x_7 kx_7 bx_7 => ?_)
      refine zk_Vi (As := [.int x_7]) (rest := []) (bytes := cX10_accept) (maxL := 2) (ret := (some .int)) Z h (zc_X10_accept l D k Γ L F s.heap.size th x_7 hth) (cwV 1 hg zv_RX10_76 rfl rfl rfl zd_X10_accept ⟨z_leR hRf (by decide), z_leR hRl (by decide)⟩) hth (by decide) rfl rfl hl.1 rfl (Nat.le_of_ble_eq_true rfl) dX10_ran_60 ⟨Nat.zero_le _, Nat.zero_le _⟩ (fun r_8 F_9 H locs w_10 h hfF_9 => ?_)
      obtain ⟨q_11, -⟩ := w_10
      have br_8 := zB.all r_8
      subst hQ
      exact W.iret (v := r_8) hx hb hr (fun t ht hW => ⟨⟨r_8, F_9, rfl, trivial, by rw [ht]; exact h.1, h.2.1, hfF_9⟩, h.2.2.F ht⟩) h.2.2.2.2 dX10_ran_63
    · by_cases c_12 : wh = 1
      · refine lv_tableIn (off := 50) (tgt := 64) hx hb dX10_ran_14 (by rw [c_12]; decide) (by rw [c_12]; decide) (by rw [c_12]; rfl) (by decide) ?_
        have bwh_12 : zB 1 1 wh := by rw [c_12]; exact zBc _ _ (by decide)
        refine lv_aload_n hx hb dX10_ran_64 rfl (lv_at hl 0 rfl) ?_
        refine lv_aload_n hx hb dX10_ran_65 rfl (lv_at hl 0 rfl) ?_
        refine zt_getr (t := 10) (C := RX10) (T := TX10) (N := 14) Z h hth zin_10 rfl 5 rfl ⟨by decide, rfl⟩ (zm_RX10 (List.mem_of_getElem? (i := 46) rfl)) (fun _ h9 => h9) dX10_ran_66 (fun a_14 ka_14 ha_14 => ?_)
        refine zt_geti (t := 5) (C := RX5) (T := TX5) (N := 19) Z h ha_14 zin_5 rfl 2 rfl ⟨by decide, rfl⟩ (zm_RX10 (List.mem_of_getElem? (i := 53) rfl)) (fun _ h9 => h9) dX10_ran_69 (fun x_15 kx_15 bx_15 => ?_)
        refine zk_Vi (As := [.int x_15]) (rest := []) (bytes := cX10_accept) (maxL := 2) (ret := (some .int)) Z h (zc_X10_accept l D k Γ L F s.heap.size th x_15 hth) (cwV 1 hg zv_RX10_76 rfl rfl rfl zd_X10_accept ⟨z_leR hRf (by decide), z_leR hRl (by decide)⟩) hth (by decide) rfl rfl hl.1 rfl (Nat.le_of_ble_eq_true rfl) dX10_ran_72 ⟨Nat.zero_le _, Nat.zero_le _⟩ (fun r_16 F_17 H locs w_18 h hfF_17 => ?_)
        obtain ⟨q_19, -⟩ := w_18
        have br_16 := zB.all r_16
        subst hQ
        exact W.iret (v := r_16) hx hb hr (fun t ht hW => ⟨⟨r_16, F_17, rfl, trivial, by rw [ht]; exact h.1, h.2.1, hfF_17⟩, h.2.2.F ht⟩) h.2.2.2.2 dX10_ran_75
      · by_cases c_20 : wh = 2
        · refine lv_tableIn (off := 62) (tgt := 76) hx hb dX10_ran_14 (by rw [c_20]; decide) (by rw [c_20]; decide) (by rw [c_20]; rfl) (by decide) ?_
          have bwh_20 : zB 2 2 wh := by rw [c_20]; exact zBc _ _ (by decide)
          refine lv_aload_n hx hb dX10_ran_76 rfl (lv_at hl 0 rfl) ?_
          refine lv_aload_n hx hb dX10_ran_77 rfl (lv_at hl 0 rfl) ?_
          refine zt_getr (t := 10) (C := RX10) (T := TX10) (N := 14) Z h hth zin_10 rfl 5 rfl ⟨by decide, rfl⟩ (zm_RX10 (List.mem_of_getElem? (i := 46) rfl)) (fun _ h9 => h9) dX10_ran_78 (fun a_22 ka_22 ha_22 => ?_)
          refine zt_geti (t := 5) (C := RX5) (T := TX5) (N := 19) Z h ha_22 zin_5 rfl 3 rfl ⟨by decide, rfl⟩ (zm_RX10 (List.mem_of_getElem? (i := 54) rfl)) (fun _ h9 => h9) dX10_ran_81 (fun x_23 kx_23 bx_23 => ?_)
          refine zk_Vi (As := [.int x_23]) (rest := []) (bytes := cX10_accept) (maxL := 2) (ret := (some .int)) Z h (zc_X10_accept l D k Γ L F s.heap.size th x_23 hth) (cwV 1 hg zv_RX10_76 rfl rfl rfl zd_X10_accept ⟨z_leR hRf (by decide), z_leR hRl (by decide)⟩) hth (by decide) rfl rfl hl.1 rfl (Nat.le_of_ble_eq_true rfl) dX10_ran_84 ⟨Nat.zero_le _, Nat.zero_le _⟩ (fun r_24 F_25 H locs w_26 h hfF_25 => ?_)
          obtain ⟨q_27, -⟩ := w_26
          have br_24 := zB.all r_24
          subst hQ
          exact W.iret (v := r_24) hx hb hr (fun t ht hW => ⟨⟨r_24, F_25, rfl, trivial, by rw [ht]; exact h.1, h.2.1, hfF_25⟩, h.2.2.F ht⟩) h.2.2.2.2 dX10_ran_87
        · by_cases c_28 : wh = 3
          · refine lv_tableIn (off := 74) (tgt := 88) hx hb dX10_ran_14 (by rw [c_28]; decide) (by rw [c_28]; decide) (by rw [c_28]; rfl) (by decide) ?_
            have bwh_28 : zB 3 3 wh := by rw [c_28]; exact zBc _ _ (by decide)
            refine lv_aload_n hx hb dX10_ran_88 rfl (lv_at hl 0 rfl) ?_
            refine lv_aload_n hx hb dX10_ran_89 rfl (lv_at hl 0 rfl) ?_
            refine zt_getr (t := 10) (C := RX10) (T := TX10) (N := 14) Z h hth zin_10 rfl 5 rfl ⟨by decide, rfl⟩ (zm_RX10 (List.mem_of_getElem? (i := 46) rfl)) (fun _ h9 => h9) dX10_ran_90 (fun a_30 ka_30 ha_30 => ?_)
            refine zt_geti (t := 5) (C := RX5) (T := TX5) (N := 19) Z h ha_30 zin_5 rfl 4 rfl ⟨by decide, rfl⟩ (zm_RX10 (List.mem_of_getElem? (i := 55) rfl)) (fun _ h9 => h9) dX10_ran_93 (fun x_31 kx_31 bx_31 => ?_)
            refine zk_Vi (As := [.int x_31]) (rest := []) (bytes := cX10_accept) (maxL := 2) (ret := (some .int)) Z h (zc_X10_accept l D k Γ L F s.heap.size th x_31 hth) (cwV 1 hg zv_RX10_76 rfl rfl rfl zd_X10_accept ⟨z_leR hRf (by decide), z_leR hRl (by decide)⟩) hth (by decide) rfl rfl hl.1 rfl (Nat.le_of_ble_eq_true rfl) dX10_ran_96 ⟨Nat.zero_le _, Nat.zero_le _⟩ (fun r_32 F_33 H locs w_34 h hfF_33 => ?_)
            obtain ⟨q_35, -⟩ := w_34
            have br_32 := zB.all r_32
            subst hQ
            exact W.iret (v := r_32) hx hb hr (fun t ht hW => ⟨⟨r_32, F_33, rfl, trivial, by rw [ht]; exact h.1, h.2.1, hfF_33⟩, h.2.2.F ht⟩) h.2.2.2.2 dX10_ran_99
          · by_cases c_36 : wh = 4
            · refine lv_tableIn (off := 86) (tgt := 100) hx hb dX10_ran_14 (by rw [c_36]; decide) (by rw [c_36]; decide) (by rw [c_36]; rfl) (by decide) ?_
              have bwh_36 : zB 4 4 wh := by rw [c_36]; exact zBc _ _ (by decide)
              refine lv_aload_n hx hb dX10_ran_100 rfl (lv_at hl 0 rfl) ?_
              refine lv_aload_n hx hb dX10_ran_101 rfl (lv_at hl 0 rfl) ?_
              refine zt_getr (t := 10) (C := RX10) (T := TX10) (N := 14) Z h hth zin_10 rfl 5 rfl ⟨by decide, rfl⟩ (zm_RX10 (List.mem_of_getElem? (i := 46) rfl)) (fun _ h9 => h9) dX10_ran_102 (fun a_38 ka_38 ha_38 => ?_)
              refine zt_getl (t := 5) (C := RX5) (T := TX5) (N := 19) Z h ha_38 zin_5 rfl 6 rfl ⟨by decide, rfl⟩ (zm_RX10 (List.mem_of_getElem? (i := 56) rfl)) (fun _ h9 => h9) dX10_ran_105 (fun g_39 kg_39 => ?_)
              refine zk_Si (As := [.long g_39]) (rest := [.ref th]) (bytes := cJ13_bitCount_95d88) (maxL := 2) (ret := (some .int)) Z h (zc_J13_bitCount_95d88 l D k Γ L F s.heap.size g_39) (va_cwS 1 hg zv_RX10_194 rfl rfl rfl zd_J13_bitCount_95d88 ⟨z_leR hRf (by decide), z_leR hRl (by decide)⟩) rfl hl.1 rfl (Nat.le_of_ble_eq_true rfl) dX10_ran_108 ⟨Nat.zero_le _, Nat.zero_le _⟩ (fun r_40 F_41 H locs w_42 h hfF_41 => ?_)
              obtain ⟨rfl, br_40, -⟩ := w_42
              refine zk_Vi (As := [.int r_40]) (rest := []) (bytes := cX10_accept) (maxL := 2) (ret := (some .int)) Z h (zc_X10_accept l D k Γ L F H.size th r_40 hth) (cwV 1 hg zv_RX10_76 rfl rfl rfl zd_X10_accept ⟨z_leR hRf (by decide), z_leR hRl (by decide)⟩) hth (by decide) rfl rfl hl.1 rfl (Nat.le_of_ble_eq_true rfl) dX10_ran_111 ⟨Nat.zero_le _, Nat.zero_le _⟩ (fun r_43 F_44 H locs w_45 h hfF_44 => ?_)
              obtain ⟨q_46, -⟩ := w_45
              have br_43 := zB.all r_43
              subst hQ
              exact W.iret (v := r_43) hx hb hr (fun t ht hW => ⟨⟨r_43, F_44, rfl, trivial, by rw [ht]; exact h.1, h.2.1, hfF_44⟩, h.2.2.F ht⟩) h.2.2.2.2 dX10_ran_114
            · by_cases c_47 : wh = 5
              · refine lv_tableIn (off := 101) (tgt := 115) hx hb dX10_ran_14 (by rw [c_47]; decide) (by rw [c_47]; decide) (by rw [c_47]; rfl) (by decide) ?_
                have bwh_47 : zB 5 5 wh := by rw [c_47]; exact zBc _ _ (by decide)
                refine lv_aload_n hx hb dX10_ran_115 rfl (lv_at hl 0 rfl) ?_
                refine lv_aload_n hx hb dX10_ran_116 rfl (lv_at hl 0 rfl) ?_
                refine zt_getr (t := 10) (C := RX10) (T := TX10) (N := 14) Z h hth zin_10 rfl 5 rfl ⟨by decide, rfl⟩ (zm_RX10 (List.mem_of_getElem? (i := 46) rfl)) (fun _ h9 => h9) dX10_ran_117 (fun a_49 ka_49 ha_49 => ?_)
                refine zt_geti (t := 5) (C := RX5) (T := TX5) (N := 19) Z h ha_49 zin_5 rfl 5 rfl ⟨by decide, rfl⟩ (zm_RX10 (List.mem_of_getElem? (i := 59) rfl)) (fun _ h9 => h9) dX10_ran_120 (fun x_50 kx_50 bx_50 => ?_)
                refine zk_Vi (As := [.int x_50]) (rest := []) (bytes := cX10_accept) (maxL := 2) (ret := (some .int)) Z h (zc_X10_accept l D k Γ L F s.heap.size th x_50 hth) (cwV 1 hg zv_RX10_76 rfl rfl rfl zd_X10_accept ⟨z_leR hRf (by decide), z_leR hRl (by decide)⟩) hth (by decide) rfl rfl hl.1 rfl (Nat.le_of_ble_eq_true rfl) dX10_ran_123 ⟨Nat.zero_le _, Nat.zero_le _⟩ (fun r_51 F_52 H locs w_53 h hfF_52 => ?_)
                obtain ⟨q_54, -⟩ := w_53
                have br_51 := zB.all r_51
                subst hQ
                exact W.iret (v := r_51) hx hb hr (fun t ht hW => ⟨⟨r_51, F_52, rfl, trivial, by rw [ht]; exact h.1, h.2.1, hfF_52⟩, h.2.2.F ht⟩) h.2.2.2.2 dX10_ran_126
              · have nc_4 : wh.toInt ≠ 0 := z_nev c_4 (by decide)
                have nc_12 : wh.toInt ≠ 1 := z_nev c_12 (by decide)
                have nc_20 : wh.toInt ≠ 2 := z_nev c_20 (by decide)
                have nc_28 : wh.toInt ≠ 3 := z_nev c_28 (by decide)
                have nc_36 : wh.toInt ≠ 4 := z_nev c_36 (by decide)
                have nc_47 : wh.toInt ≠ 5 := z_nev c_47 (by decide)
                refine lv_tableOut (tgt := 127) hx hb dX10_ran_14 (by have := (zB.all wh).1; have := (zB.all wh).2; omega) (by decide) ?_
                refine lv_aload_n hx hb dX10_ran_127 rfl (lv_at hl 0 rfl) ?_
                refine lv_iconst (v := 2) hx hb dX10_ran_128 (by decide) ?_
                refine zk_Vi (As := [.int 2]) (rest := []) (bytes := cX10_refuse) (maxL := 2) (ret := (some .int)) Z h (zc_X10_refuse l D k Γ L F s.heap.size th 2 hth) (cwV 1 hg zv_RX10_68 rfl rfl rfl zd_X10_refuse ⟨z_leR hRf (by decide), z_leR hRl (by decide)⟩) hth (by decide) rfl rfl hl.1 rfl (Nat.le_of_ble_eq_true rfl) dX10_ran_129 ⟨Nat.zero_le _, Nat.zero_le _⟩ (fun r_55 F_56 H locs w_57 h hfF_56 => ?_)
                obtain ⟨br_55, -⟩ := w_57
                subst hQ
                exact W.iret (v := r_55) hx hb hr (fun t ht hW => ⟨⟨r_55, F_56, rfl, trivial, by rw [ht]; exact h.1, h.2.1, hfF_56⟩, h.2.2.F ht⟩) h.2.2.2.2 dX10_ran_132
  · have c_2 := z_eq c_2
    have bx_1_58 : zB 0 0 x_1 := zB.eqL (a := 0) (b := 0) c_2 (zBc 0 0 (by decide))
    refine lv_aload_n hx hb dX10_ran_7 rfl (lv_at hl 0 rfl) ?_
    refine lv_iconst (v := 5) hx hb dX10_ran_8 (by decide) ?_
    refine zk_Vi (As := [.int 5]) (rest := []) (bytes := cX10_refuse) (maxL := 2) (ret := (some .int)) Z h (zc_X10_refuse l D k Γ L F s.heap.size th 5 hth) (cwV 1 hg zv_RX10_68 rfl rfl rfl zd_X10_refuse ⟨z_leR hRf (by decide), z_leR hRl (by decide)⟩) hth (by decide) rfl rfl hl.1 rfl (Nat.le_of_ble_eq_true rfl) dX10_ran_9 ⟨Nat.zero_le _, Nat.zero_le _⟩ (fun r_59 F_60 H locs w_61 h hfF_60 => ?_)
    obtain ⟨br_59, -⟩ := w_61
    subst hQ
    exact W.iret (v := r_59) hx hb hr (fun t ht hW => ⟨⟨r_59, F_60, rfl, trivial, by rw [ht]; exact h.1, h.2.1, hfF_60⟩, h.2.2.F ht⟩) h.2.2.2.2 dX10_ran_12

set_option maxHeartbeats 4000000 in
set_option maxRecDepth 100000 in
theorem zc_X10_covered (l : Launch) (D : va_G) (k : Nat → ClassId) (Γ : Nat → Option Nat) (L : List Nat) (F : Nat → va_E) (sz : Nat) (th : Nat) (li : Int32) (pn : Nat) (hth : Γ th = some 10) (kpn : zfld F th 2 = .ref pn) (hpn : Γ pn = some 6) : Met l yX10_covered zwX10_covered ({ frames := 1, cells := 0, slots := 0, locals := 21 }) (va_Pc [.ref th, .int li] (zP D k Γ L F sz)) (va_Qi (fun (r : Int32) (u : Nat → va_E) => F = u ∧ True) (zQ D k Γ L F []) (zA L sz)) 0 0 (zA L sz) := by
  refine Met.ofW (cc := cX10_covered) (maxL := 2) (ret := (some .int)) (by decide) rfl ?_
  intro p e s m args below meth c s₁ B hml hv
  obtain ⟨rfl, hsz, hP, hK, hLn, hE, hI⟩ := hv
  have hx := B.exec
  have hb := B.bytes
  have hr := B.returns
  have hg : ∀ w ∈ zG, w.before _ s = true := fun w h9 => atoms_spec (ws := zwX10_covered) B.pre w (List.mem_cons_of_mem _ h9)
  have hown : s.vm.findClass RX10 = some m.cls := findClass_of_methodNamed B.named
  have hlocks := B.notSynchronized
  subst hsz
  have Z : zC p m c cX10_covered 2 s _ zG RX10 D k L := ⟨⟨hx, hb, hml, hown, hg⟩, hK, hLn, hE⟩
  have h : zH D k Γ L s F s.heap [] := ⟨hP, hI, va_S.rf⟩
  have hl := lv_entry ([.ref th, .int li]) (n := 2) (Nat.le_of_ble_eq_true rfl)
  rw [lg_entry_eq]
  generalize (lg_sl ([.ref th, .int li]) ++ List.replicate (2 - (lg_sl ([.ref th, .int li])).length) Slot.unset).toArray = ls at hl ⊢
  have hl : lv_has ls 2 [(0, .ref th), (1, .int li)] := hl
  clear hP hK hLn hE hI
  generalize hargs : ([.ref th, .int li] : List Value).toArray = args at *
  refine z_start (fun R Q hRf hRl hQ => ?_)
  have hRf : R.frames = 1 := hRf
  have hRl : R.locals = 21 := hRl
  refine lv_aload_n hx hb dX10_covered_0 rfl (lv_at hl 0 rfl) ?_
  refine zt_geti (t := 10) (C := RX10) (T := TX10) (N := 14) Z h hth zin_10 rfl 8 rfl ⟨by decide, rfl⟩ (zm_RX10 (List.mem_of_getElem? (i := 49) rfl)) (fun _ h9 => h9) dX10_covered_1 (fun x_1 kx_1 bx_1 => ?_)
  refine lv_if_eq (tgt := 18) hx hb dX10_covered_4 (by decide) (fun c_2 => ?_) (fun c_2 => ?_)
  · have c_2 := z_eq c_2
    have bx_1_3 : zB 0 0 x_1 := zB.eqL (a := 0) (b := 0) c_2 (zBc 0 0 (by decide))
    refine lv_iconst (v := (-1)) hx hb dX10_covered_18 (by decide) ?_
    subst hQ
    exact W.iret (v := (-1)) hx hb hr (fun t ht hW => ⟨⟨(-1), F, rfl, ⟨rfl, trivial⟩, by rw [ht]; exact h.1, h.2.1, zFr.rf⟩, h.2.2.F ht⟩) h.2.2.2.2 dX10_covered_19
  · have c_2 := z_ne c_2
    have bx_1_4 : zB 1 1 x_1 := zB.neLo c_2 bx_1 (zBc 0 0 (by decide)) (by decide)
    refine lv_aload_n hx hb dX10_covered_7 rfl (lv_at hl 0 rfl) ?_
    refine zt_getk (t := 10) (C := RX10) (T := TX10) (N := 14) Z h hth zin_10 rfl 2 kpn ⟨by decide, rfl, by decide⟩ (zm_RX10 (List.mem_of_getElem? (i := 21) rfl)) (fun _ h9 => h9) dX10_covered_8 ?_
    refine lv_iload_n hx hb dX10_covered_11 rfl (lv_at hl 1 rfl) ?_
    refine zk_Vi (As := [.int li]) (rest := []) (bytes := cX6_hasLine) (maxL := 2) (ret := (some .boolean)) Z h (zc_X6_hasLine l D k Γ L F s.heap.size pn li hpn) (cwV 1 hg zv_RX10_142 rfl rfl rfl zd_X6_hasLine ⟨z_leR hRf (by decide), z_leR hRl (by decide)⟩) hpn (by decide) rfl rfl hl.1 rfl (Nat.le_of_ble_eq_true rfl) dX10_covered_12 ⟨Nat.zero_le _, Nat.zero_le _⟩ (fun r_5 F_6 H locs w_7 h hfF_6 => ?_)
    obtain ⟨rfl, br_5, q_8, -⟩ := w_7
    refine lv_if_ne (tgt := 20) hx hb dX10_covered_15 (by decide) (fun c_9 => ?_) (fun c_9 => ?_)
    · have bli_10 : zB 0 59 li := q_8 c_9
      have c_9 := z_ne c_9
      have br_5_11 : zB 1 1 r_5 := zB.neLo c_9 br_5 (zBc 0 0 (by decide)) (by decide)
      refine lv_aload_n hx hb dX10_covered_20 rfl (lv_at hl 0 rfl) ?_
      refine zt_getr (t := 10) (C := RX10) (T := TX10) (N := 14) Z h hth zin_10 rfl 5 rfl ⟨by decide, rfl⟩ (zm_RX10 (List.mem_of_getElem? (i := 46) rfl)) (fun _ h9 => h9) dX10_covered_21 (fun a_12 ka_12 ha_12 => ?_)
      refine zt_getl (t := 5) (C := RX5) (T := TX5) (N := 19) Z h ha_12 zin_5 rfl 6 rfl ⟨by decide, rfl⟩ (zm_RX10 (List.mem_of_getElem? (i := 56) rfl)) (fun _ h9 => h9) dX10_covered_24 (fun g_13 kg_13 => ?_)
      refine lv_iload_n hx hb dX10_covered_27 rfl (lv_at hl 1 rfl) ?_
      refine lv_lshr hx hb dX10_covered_28 rfl ?_
      refine lv_topl (fun g_14 _ => ?_)
      refine lv_lconst (v := 1) hx hb dX10_covered_29 (by decide) ?_
      refine lv_land hx hb dX10_covered_30 ?_
      refine lv_topl (fun g_15 _ => ?_)
      refine lv_lconst (v := 0) hx hb dX10_covered_31 (by decide) ?_
      refine W.lcmp hx hb dX10_covered_32 ?_
      refine zi_any (fun x_16 bx_16 ex_16 => ?_)
      refine lv_if_eq (tgt := 40) hx hb dX10_covered_33 (by decide) (fun c_17 => ?_) (fun c_17 => ?_)
      · have c_17 := z_eq c_17
        have bx_16_18 : zB 0 0 x_16 := zB.eqL (a := 0) (b := 0) c_17 (zBc 0 0 (by decide))
        refine lv_iconst (v := 0) hx hb dX10_covered_40 (by decide) ?_
        subst hQ
        exact W.iret (v := 0) hx hb hr (fun t ht hW => ⟨⟨0, F, rfl, ⟨rfl, trivial⟩, by rw [ht]; exact h.1, h.2.1, zFr.rf⟩, h.2.2.F ht⟩) h.2.2.2.2 dX10_covered_41
      · have c_17 := z_ne c_17
        refine lv_iconst (v := 1) hx hb dX10_covered_36 (by decide) ?_
        refine lv_goto (tgt := 41) hx hb dX10_covered_37 (by decide) ?_
        subst hQ
        exact W.iret (v := 1) hx hb hr (fun t ht hW => ⟨⟨1, F, rfl, ⟨rfl, trivial⟩, by rw [ht]; exact h.1, h.2.1, zFr.rf⟩, h.2.2.F ht⟩) h.2.2.2.2 dX10_covered_41
    · have c_9 := z_eq c_9
      have br_5_19 : zB 0 0 r_5 := zB.eqL (a := 0) (b := 0) c_9 (zBc 0 0 (by decide))
      refine lv_iconst (v := (-1)) hx hb dX10_covered_18 (by decide) ?_
      subst hQ
      exact W.iret (v := (-1)) hx hb hr (fun t ht hW => ⟨⟨(-1), F, rfl, ⟨rfl, trivial⟩, by rw [ht]; exact h.1, h.2.1, zFr.rf⟩, h.2.2.F ht⟩) h.2.2.2.2 dX10_covered_19

set_option maxHeartbeats 4000000 in
set_option maxRecDepth 100000 in
theorem zc_X10_place (l : Launch) (D : va_G) (k : Nat → ClassId) (Γ : Nat → Option Nat) (L : List Nat) (F : Nat → va_E) (sz : Nat) (th : Nat) (q : Int32) (hth : Γ th = some 10) : Met l yX10_place zwX10_place ({ frames := 1, cells := 0, slots := 0, locals := 21 }) (va_Pc [.ref th, .int q] (zP D k Γ L F sz)) (va_Qi (fun (r : Int32) (u : Nat → va_E) => True) (zQ D k Γ L F [1013]) (zA L sz)) 0 0 (zA L sz) := by
  refine Met.ofW (cc := cX10_place) (maxL := 2) (ret := (some .int)) (by decide) rfl ?_
  intro p e s m args below meth c s₁ B hml hv
  obtain ⟨rfl, hsz, hP, hK, hLn, hE, hI⟩ := hv
  have hx := B.exec
  have hb := B.bytes
  have hr := B.returns
  have hg : ∀ w ∈ zG, w.before _ s = true := fun w h9 => atoms_spec (ws := zwX10_place) B.pre w (List.mem_cons_of_mem _ h9)
  have hown : s.vm.findClass RX10 = some m.cls := findClass_of_methodNamed B.named
  have hlocks := B.notSynchronized
  subst hsz
  have Z : zC p m c cX10_place 2 s _ zG RX10 D k L := ⟨⟨hx, hb, hml, hown, hg⟩, hK, hLn, hE⟩
  have h : zH D k Γ L s F s.heap [] := ⟨hP, hI, va_S.rf⟩
  have hl := lv_entry ([.ref th, .int q]) (n := 2) (Nat.le_of_ble_eq_true rfl)
  rw [lg_entry_eq]
  generalize (lg_sl ([.ref th, .int q]) ++ List.replicate (2 - (lg_sl ([.ref th, .int q])).length) Slot.unset).toArray = ls at hl ⊢
  have hl : lv_has ls 2 [(0, .ref th), (1, .int q)] := hl
  clear hP hK hLn hE hI
  generalize hargs : ([.ref th, .int q] : List Value).toArray = args at *
  refine z_start (fun R Q hRf hRl hQ => ?_)
  have hRf : R.frames = 1 := hRf
  have hRl : R.locals = 21 := hRl
  refine lv_aload_n hx hb dX10_place_0 rfl (lv_at hl 0 rfl) ?_
  refine zt_geti (t := 10) (C := RX10) (T := TX10) (N := 14) Z h hth zin_10 rfl 8 rfl ⟨by decide, rfl⟩ (zm_RX10 (List.mem_of_getElem? (i := 49) rfl)) (fun _ h9 => h9) dX10_place_1 (fun x_1 kx_1 bx_1 => ?_)
  refine lv_if_ne (tgt := 13) hx hb dX10_place_4 (by decide) (fun c_2 => ?_) (fun c_2 => ?_)
  · have c_2 := z_ne c_2
    have bx_1_3 : zB 1 1 x_1 := zB.neLo c_2 bx_1 (zBc 0 0 (by decide)) (by decide)
    refine lv_iload_n hx hb dX10_place_13 rfl (lv_at hl 1 rfl) ?_
    refine lv_if_lt (tgt := 23) hx hb dX10_place_14 (by decide) (fun c_4 => ?_) (fun c_4 => ?_)
    · have c_4 := z_lt c_4
      have bq_5 : zB (-2147483648) (-1) q := zB.ltL c_4 (zB.all q) (zBc 0 0 (by decide)) (by decide)
      refine lv_aload_n hx hb dX10_place_23 rfl (lv_at hl 0 rfl) ?_
      refine lv_iconst (v := 2) hx hb dX10_place_24 (by decide) ?_
      refine zk_Vi (As := [.int 2]) (rest := []) (bytes := cX10_refuse) (maxL := 2) (ret := (some .int)) Z h (zc_X10_refuse l D k Γ L F s.heap.size th 2 hth) (cwV 1 hg zv_RX10_68 rfl rfl rfl zd_X10_refuse ⟨z_leR hRf (by decide), z_leR hRl (by decide)⟩) hth (by decide) rfl rfl hl.1 rfl (Nat.le_of_ble_eq_true rfl) dX10_place_25 ⟨Nat.zero_le _, Nat.zero_le _⟩ (fun r_6 F_7 H locs w_8 h hfF_7 => ?_)
      obtain ⟨br_6, -⟩ := w_8
      subst hQ
      exact W.iret (v := r_6) hx hb hr (fun t ht hW => ⟨⟨r_6, F_7, rfl, trivial, by rw [ht]; exact h.1, h.2.1, hfF_7⟩, h.2.2.F ht⟩) h.2.2.2.2 dX10_place_28
    · have c_4 := z_nlt c_4
      have bq_9 : zB 0 2147483647 q := zB.leR c_4 (zBc 0 0 (by decide)) (zB.all q) (by decide)
      refine lv_iload_n hx hb dX10_place_17 rfl (lv_at hl 1 rfl) ?_
      refine lv_bipush (v := 8) hx hb dX10_place_18 (by decide) ?_
      refine lv_icmp_lt (tgt := 29) hx hb dX10_place_20 (by decide) (fun c_10 => ?_) (fun c_10 => ?_)
      · have c_10 := z_lt c_10
        have bq_11 : zB 0 7 q := zB.ltL c_10 bq_9 (zBc 8 8 (by decide)) (by decide)
        refine lv_aload_n hx hb dX10_place_29 rfl (lv_at hl 0 rfl) ?_
        refine lv_aload_n hx hb dX10_place_30 rfl (lv_at hl 0 rfl) ?_
        refine zt_getr (t := 10) (C := RX10) (T := TX10) (N := 14) Z h hth zin_10 rfl 5 rfl ⟨by decide, rfl⟩ (zm_RX10 (List.mem_of_getElem? (i := 46) rfl)) (fun _ h9 => h9) dX10_place_31 (fun a_12 ka_12 ha_12 => ?_)
        refine lv_iload_n hx hb dX10_place_34 rfl (lv_at hl 1 rfl) ?_
        refine zk_Vi (As := [.int q]) (rest := [.ref th]) (bytes := cX5_firstCallsPlace) (maxL := 2) (ret := (some .int)) Z h (zc_X5_firstCallsPlace l D k Γ L F s.heap.size a_12 q ha_12) (cwV 1 hg zv_RX10_220 rfl rfl rfl zd_X5_firstCallsPlace ⟨z_leR hRf (by decide), z_leR hRl (by decide)⟩) ha_12 (by decide) rfl rfl hl.1 rfl (Nat.le_of_ble_eq_true rfl) dX10_place_35 ⟨Nat.zero_le _, Nat.zero_le _⟩ (fun r_13 F_14 H locs w_15 h hfF_14 => ?_)
        obtain ⟨rfl, -⟩ := w_15
        have br_13 := zB.all r_13
        refine zk_Vi (As := [.int r_13]) (rest := []) (bytes := cX10_accept) (maxL := 2) (ret := (some .int)) Z h (zc_X10_accept l D k Γ L F H.size th r_13 hth) (cwV 1 hg zv_RX10_76 rfl rfl rfl zd_X10_accept ⟨z_leR hRf (by decide), z_leR hRl (by decide)⟩) hth (by decide) rfl rfl hl.1 rfl (Nat.le_of_ble_eq_true rfl) dX10_place_38 ⟨Nat.zero_le _, Nat.zero_le _⟩ (fun r_16 F_17 H locs w_18 h hfF_17 => ?_)
        obtain ⟨q_19, -⟩ := w_18
        have br_16 := zB.all r_16
        subst hQ
        exact W.iret (v := r_16) hx hb hr (fun t ht hW => ⟨⟨r_16, F_17, rfl, trivial, by rw [ht]; exact h.1, h.2.1, hfF_17⟩, h.2.2.F ht⟩) h.2.2.2.2 dX10_place_41
      · have c_10 := z_nlt c_10
        have bq_20 : zB 8 2147483647 q := zB.leR c_10 (zBc 8 8 (by decide)) bq_9 (by decide)
        refine lv_aload_n hx hb dX10_place_23 rfl (lv_at hl 0 rfl) ?_
        refine lv_iconst (v := 2) hx hb dX10_place_24 (by decide) ?_
        refine zk_Vi (As := [.int 2]) (rest := []) (bytes := cX10_refuse) (maxL := 2) (ret := (some .int)) Z h (zc_X10_refuse l D k Γ L F s.heap.size th 2 hth) (cwV 1 hg zv_RX10_68 rfl rfl rfl zd_X10_refuse ⟨z_leR hRf (by decide), z_leR hRl (by decide)⟩) hth (by decide) rfl rfl hl.1 rfl (Nat.le_of_ble_eq_true rfl) dX10_place_25 ⟨Nat.zero_le _, Nat.zero_le _⟩ (fun r_21 F_22 H locs w_23 h hfF_22 => ?_)
        obtain ⟨br_21, -⟩ := w_23
        subst hQ
        exact W.iret (v := r_21) hx hb hr (fun t ht hW => ⟨⟨r_21, F_22, rfl, trivial, by rw [ht]; exact h.1, h.2.1, hfF_22⟩, h.2.2.F ht⟩) h.2.2.2.2 dX10_place_28
  · have c_2 := z_eq c_2
    have bx_1_24 : zB 0 0 x_1 := zB.eqL (a := 0) (b := 0) c_2 (zBc 0 0 (by decide))
    refine lv_aload_n hx hb dX10_place_7 rfl (lv_at hl 0 rfl) ?_
    refine lv_iconst (v := 5) hx hb dX10_place_8 (by decide) ?_
    refine zk_Vi (As := [.int 5]) (rest := []) (bytes := cX10_refuse) (maxL := 2) (ret := (some .int)) Z h (zc_X10_refuse l D k Γ L F s.heap.size th 5 hth) (cwV 1 hg zv_RX10_68 rfl rfl rfl zd_X10_refuse ⟨z_leR hRf (by decide), z_leR hRl (by decide)⟩) hth (by decide) rfl rfl hl.1 rfl (Nat.le_of_ble_eq_true rfl) dX10_place_9 ⟨Nat.zero_le _, Nat.zero_le _⟩ (fun r_25 F_26 H locs w_27 h hfF_26 => ?_)
    obtain ⟨br_25, -⟩ := w_27
    subst hQ
    exact W.iret (v := r_25) hx hb hr (fun t ht hW => ⟨⟨r_25, F_26, rfl, trivial, by rw [ht]; exact h.1, h.2.1, hfF_26⟩, h.2.2.F ht⟩) h.2.2.2.2 dX10_place_12

set_option maxHeartbeats 4000000 in
set_option maxRecDepth 100000 in
theorem zc_X10_wrong (l : Launch) (D : va_G) (k : Nat → ClassId) (Γ : Nat → Option Nat) (L : List Nat) (F : Nat → va_E) (sz : Nat) (th : Nat) (ru : Int32) (f : Int32) (x : Int32) (y : Int32) (z : Int32) (pn : Nat) (hth : Γ th = some 10) (kpn : zfld F th 2 = .ref pn) (hpn : Γ pn = some 6) : Met l yX10_wrong zwX10_wrong ({ frames := 5, cells := 0, slots := 0, locals := 114 }) (va_Pc [.ref th, .int ru, .int f, .int x, .int y, .int z] (zP D k Γ L F sz)) (va_Qi (fun (r : Int32) (u : Nat → va_E) => True) (zQ D k Γ L F [500, 501, 502, 503, 504, 505, 506, 510, 511, 512, 513, 514, 515, 518, 1013, 10800, 10900, 11000, 11100, 11200]) (zA L sz)) 0 0 (zA L sz) := by
  refine Met.ofW (cc := cX10_wrong) (maxL := 6) (ret := (some .int)) (by decide) rfl ?_
  intro p e s m args below meth c s₁ B hml hv
  obtain ⟨rfl, hsz, hP, hK, hLn, hE, hI⟩ := hv
  have hx := B.exec
  have hb := B.bytes
  have hr := B.returns
  have hg : ∀ w ∈ zG, w.before _ s = true := fun w h9 => atoms_spec (ws := zwX10_wrong) B.pre w (List.mem_cons_of_mem _ h9)
  have hown : s.vm.findClass RX10 = some m.cls := findClass_of_methodNamed B.named
  have hlocks := B.notSynchronized
  subst hsz
  have Z : zC p m c cX10_wrong 6 s _ zG RX10 D k L := ⟨⟨hx, hb, hml, hown, hg⟩, hK, hLn, hE⟩
  have h : zH D k Γ L s F s.heap [] := ⟨hP, hI, va_S.rf⟩
  have hl := lv_entry ([.ref th, .int ru, .int f, .int x, .int y, .int z]) (n := 6) (Nat.le_of_ble_eq_true rfl)
  rw [lg_entry_eq]
  generalize (lg_sl ([.ref th, .int ru, .int f, .int x, .int y, .int z]) ++ List.replicate (6 - (lg_sl ([.ref th, .int ru, .int f, .int x, .int y, .int z])).length) Slot.unset).toArray = ls at hl ⊢
  have hl : lv_has ls 6 [(0, .ref th), (1, .int ru), (2, .int f), (3, .int x), (4, .int y), (5, .int z)] := hl
  clear hP hK hLn hE hI
  generalize hargs : ([.ref th, .int ru, .int f, .int x, .int y, .int z] : List Value).toArray = args at *
  refine z_start (fun R Q hRf hRl hQ => ?_)
  have hRf : R.frames = 5 := hRf
  have hRl : R.locals = 114 := hRl
  refine lv_aload_n hx hb dX10_wrong_0 rfl (lv_at hl 0 rfl) ?_
  refine zt_getk (t := 10) (C := RX10) (T := TX10) (N := 14) Z h hth zin_10 rfl 2 kpn ⟨by decide, rfl, by decide⟩ (zm_RX10 (List.mem_of_getElem? (i := 21) rfl)) (fun _ h9 => h9) dX10_wrong_1 ?_
  refine lv_iload_n hx hb dX10_wrong_4 rfl (lv_at hl 2 rfl) ?_
  refine zk_Vi (As := [.int f]) (rest := []) (bytes := cX6_hasFunction) (maxL := 2) (ret := (some .boolean)) Z h (zc_X6_hasFunction l D k Γ L F s.heap.size pn f hpn) (cwV 1 hg zv_RX10_98 rfl rfl rfl zd_X6_hasFunction ⟨z_leR hRf (by decide), z_leR hRl (by decide)⟩) hpn (by decide) rfl rfl hl.1 rfl (Nat.le_of_ble_eq_true rfl) dX10_wrong_5 ⟨Nat.zero_le _, Nat.zero_le _⟩ (fun r_1 F_2 H locs w_3 h hfF_2 => ?_)
  obtain ⟨rfl, br_1, q_4, q_5, -⟩ := w_3
  refine lv_if_ne (tgt := 17) hx hb dX10_wrong_8 (by decide) (fun c_6 => ?_) (fun c_6 => ?_)
  · have bf_7 : zB 0 9 f := q_4 c_6
    obtain ⟨x_8, kx_8, bx_8, q_9⟩ := q_5 c_6
    have c_6 := z_ne c_6
    have br_1_10 : zB 1 1 r_1 := zB.neLo c_6 br_1 (zBc 0 0 (by decide)) (by decide)
    refine lv_iload_n hx hb dX10_wrong_17 rfl (lv_at hl 1 rfl) ?_
    refine lv_if_lt (tgt := 26) hx hb dX10_wrong_18 (by decide) (fun c_11 => ?_) (fun c_11 => ?_)
    · have c_11 := z_lt c_11
      have bru_12 : zB (-2147483648) (-1) ru := zB.ltL c_11 (zB.all ru) (zBc 0 0 (by decide)) (by decide)
      refine lv_aload_n hx hb dX10_wrong_26 rfl (lv_at hl 0 rfl) ?_
      refine lv_iconst (v := 2) hx hb dX10_wrong_27 (by decide) ?_
      refine zk_Vi (As := [.int 2]) (rest := []) (bytes := cX10_refuse) (maxL := 2) (ret := (some .int)) Z h (zc_X10_refuse l D k Γ L F H.size th 2 hth) (cwV 1 hg zv_RX10_68 rfl rfl rfl zd_X10_refuse ⟨z_leR hRf (by decide), z_leR hRl (by decide)⟩) hth (by decide) rfl rfl hl.1 rfl (Nat.le_of_ble_eq_true rfl) dX10_wrong_28 ⟨Nat.zero_le _, Nat.zero_le _⟩ (fun r_13 F_14 H locs w_15 h hfF_14 => ?_)
      obtain ⟨br_13, -⟩ := w_15
      subst hQ
      exact W.iret (v := r_13) hx hb hr (fun t ht hW => ⟨⟨r_13, F_14, rfl, trivial, by rw [ht]; exact h.1, h.2.1, (hfF_14.w (by decide))⟩, h.2.2.F ht⟩) h.2.2.2.2 dX10_wrong_31
    · have c_11 := z_nlt c_11
      have bru_16 : zB 0 2147483647 ru := zB.leR c_11 (zBc 0 0 (by decide)) (zB.all ru) (by decide)
      refine lv_iload_n hx hb dX10_wrong_21 rfl (lv_at hl 1 rfl) ?_
      refine lv_iconst (v := 4) hx hb dX10_wrong_22 (by decide) ?_
      refine lv_icmp_lt (tgt := 32) hx hb dX10_wrong_23 (by decide) (fun c_17 => ?_) (fun c_17 => ?_)
      · have c_17 := z_lt c_17
        have bru_18 : zB 0 3 ru := zB.ltL c_17 bru_16 (zBc 4 4 (by decide)) (by decide)
        refine lv_aload_n hx hb dX10_wrong_32 rfl (lv_at hl 0 rfl) ?_
        refine zt_getr (t := 10) (C := RX10) (T := TX10) (N := 14) Z h hth zin_10 rfl 7 rfl ⟨by decide, rfl⟩ (zm_RX10 (List.mem_of_getElem? (i := 70) rfl)) (fun _ h9 => h9) dX10_wrong_33 (fun a_19 ka_19 ha_19 => ?_)
        refine lv_aload_n hx hb dX10_wrong_36 rfl (lv_at hl 0 rfl) ?_
        refine zt_getk (t := 10) (C := RX10) (T := TX10) (N := 14) Z h hth zin_10 rfl 2 kpn ⟨by decide, rfl, by decide⟩ (zm_RX10 (List.mem_of_getElem? (i := 21) rfl)) (fun _ h9 => h9) dX10_wrong_37 ?_
        refine lv_sipush (v := 2000) hx hb dX10_wrong_40 (by decide) ?_
        refine lv_iload_n hx hb dX10_wrong_43 rfl (lv_at hl 1 rfl) ?_
        refine zk_Vv (As := [.ref pn, .int 2000, .int ru]) (rest := []) (bytes := cX5_start) (maxL := 4) (ret := none) Z h (zc_X5_start l D k Γ L F H.size a_19 pn 2000 ru ha_19 hpn) (cwV 3 hg zv_RX10_163 rfl rfl rfl zd_X5_start ⟨z_leR hRf (by decide), z_leR hRl (by decide)⟩) ha_19 (by decide) rfl rfl hl.1 rfl (Nat.le_of_ble_eq_true rfl) dX10_wrong_44 ⟨Nat.zero_le _, Nat.zero_le _⟩ (fun F_20 H locs w_21 h hfF_20 => ?_)
        obtain ⟨⟨x_23, kx_23, bx_23⟩, ⟨x_25, kx_25, bx_25⟩, ⟨x_27, kx_27, bx_27⟩, kq_28, -⟩ := w_21
        refine lv_aload_n hx hb dX10_wrong_47 rfl (lv_at hl 0 rfl) ?_
        refine zt_getk (t := 10) (C := RX10) (T := TX10) (N := 14) Z h hth zin_10 rfl 7 (hfF_20.f hth 7 ⟨by decide, by decide⟩ ka_19) ⟨by decide, rfl, by decide⟩ (zm_RX10 (List.mem_of_getElem? (i := 70) rfl)) (fun _ h9 => h9) dX10_wrong_48 ?_
        refine lv_iload_n hx hb dX10_wrong_51 rfl (lv_at hl 2 rfl) ?_
        refine lv_iload_n hx hb dX10_wrong_52 rfl (lv_at hl 3 rfl) ?_
        refine lv_iload hx hb dX10_wrong_53 (lv_at hl 4 rfl) ?_
        refine lv_iload hx hb dX10_wrong_55 (lv_at hl 5 rfl) ?_
        refine zk_Vv (As := [.int f, .int x, .int y, .int z]) (rest := []) (bytes := cX5_finish) (maxL := 8) (ret := none) Z h (zc_X5_finish l D k Γ L F_20 H.size a_19 f x y z pn x_23 x_25 x_27 ha_19 kq_28 hpn kx_23 bx_23 kx_25 bx_25 kx_27 bx_27) (cwV 4 hg zv_RX10_167 rfl rfl rfl zd_X5_finish ⟨z_leR hRf (by decide), z_leR hRl (by decide)⟩) ha_19 (by decide) rfl rfl hl.1 rfl (Nat.le_of_ble_eq_true rfl) dX10_wrong_57 ⟨Nat.zero_le _, Nat.zero_le _⟩ (fun F_29 H locs w_30 h hfF_29 => ?_)
        refine lv_aload_n hx hb dX10_wrong_60 rfl (lv_at hl 0 rfl) ?_
        refine lv_aload_n hx hb dX10_wrong_61 rfl (lv_at hl 0 rfl) ?_
        refine zt_getk (t := 10) (C := RX10) (T := TX10) (N := 14) Z h hth zin_10 rfl 7 (hfF_29.f hth 7 ⟨by decide, by decide⟩ (hfF_20.f hth 7 ⟨by decide, by decide⟩ ka_19)) ⟨by decide, rfl, by decide⟩ (zm_RX10 (List.mem_of_getElem? (i := 70) rfl)) (fun _ h9 => h9) dX10_wrong_62 ?_
        refine zt_geti (t := 5) (C := RX5) (T := TX5) (N := 19) Z h ha_19 zin_5 rfl 1 rfl ⟨by decide, rfl⟩ (zm_RX10 (List.mem_of_getElem? (i := 52) rfl)) (fun _ h9 => h9) dX10_wrong_65 (fun x_31 kx_31 bx_31 => ?_)
        refine zk_Vi (As := [.int x_31]) (rest := []) (bytes := cX10_accept) (maxL := 2) (ret := (some .int)) Z h (zc_X10_accept l D k Γ L F_29 H.size th x_31 hth) (cwV 1 hg zv_RX10_76 rfl rfl rfl zd_X10_accept ⟨z_leR hRf (by decide), z_leR hRl (by decide)⟩) hth (by decide) rfl rfl hl.1 rfl (Nat.le_of_ble_eq_true rfl) dX10_wrong_68 ⟨Nat.zero_le _, Nat.zero_le _⟩ (fun r_32 F_33 H locs w_34 h hfF_33 => ?_)
        obtain ⟨q_35, -⟩ := w_34
        have br_32 := zB.all r_32
        subst hQ
        exact W.iret (v := r_32) hx hb hr (fun t ht hW => ⟨⟨r_32, F_33, rfl, trivial, by rw [ht]; exact h.1, h.2.1, (((hfF_20.w (by decide)).trans hfF_29 (by decide)).trans hfF_33 (by decide))⟩, h.2.2.F ht⟩) h.2.2.2.2 dX10_wrong_71
      · have c_17 := z_nlt c_17
        have bru_36 : zB 4 2147483647 ru := zB.leR c_17 (zBc 4 4 (by decide)) bru_16 (by decide)
        refine lv_aload_n hx hb dX10_wrong_26 rfl (lv_at hl 0 rfl) ?_
        refine lv_iconst (v := 2) hx hb dX10_wrong_27 (by decide) ?_
        refine zk_Vi (As := [.int 2]) (rest := []) (bytes := cX10_refuse) (maxL := 2) (ret := (some .int)) Z h (zc_X10_refuse l D k Γ L F H.size th 2 hth) (cwV 1 hg zv_RX10_68 rfl rfl rfl zd_X10_refuse ⟨z_leR hRf (by decide), z_leR hRl (by decide)⟩) hth (by decide) rfl rfl hl.1 rfl (Nat.le_of_ble_eq_true rfl) dX10_wrong_28 ⟨Nat.zero_le _, Nat.zero_le _⟩ (fun r_37 F_38 H locs w_39 h hfF_38 => ?_)
        obtain ⟨br_37, -⟩ := w_39
        subst hQ
        exact W.iret (v := r_37) hx hb hr (fun t ht hW => ⟨⟨r_37, F_38, rfl, trivial, by rw [ht]; exact h.1, h.2.1, (hfF_38.w (by decide))⟩, h.2.2.F ht⟩) h.2.2.2.2 dX10_wrong_31
  · have c_6 := z_eq c_6
    have br_1_40 : zB 0 0 r_1 := zB.eqL (a := 0) (b := 0) c_6 (zBc 0 0 (by decide))
    refine lv_aload_n hx hb dX10_wrong_11 rfl (lv_at hl 0 rfl) ?_
    refine lv_iconst (v := 1) hx hb dX10_wrong_12 (by decide) ?_
    refine zk_Vi (As := [.int 1]) (rest := []) (bytes := cX10_refuse) (maxL := 2) (ret := (some .int)) Z h (zc_X10_refuse l D k Γ L F H.size th 1 hth) (cwV 1 hg zv_RX10_68 rfl rfl rfl zd_X10_refuse ⟨z_leR hRf (by decide), z_leR hRl (by decide)⟩) hth (by decide) rfl rfl hl.1 rfl (Nat.le_of_ble_eq_true rfl) dX10_wrong_13 ⟨Nat.zero_le _, Nat.zero_le _⟩ (fun r_41 F_42 H locs w_43 h hfF_42 => ?_)
    obtain ⟨br_41, -⟩ := w_43
    subst hQ
    exact W.iret (v := r_41) hx hb hr (fun t ht hW => ⟨⟨r_41, F_42, rfl, trivial, by rw [ht]; exact h.1, h.2.1, (hfF_42.w (by decide))⟩, h.2.2.F ht⟩) h.2.2.2.2 dX10_wrong_16

set_option maxHeartbeats 4000000 in
set_option maxRecDepth 100000 in
theorem zc_X10_unlike (l : Launch) (D : va_G) (k : Nat → ClassId) (Γ : Nat → Option Nat) (L : List Nat) (F : Nat → va_E) (sz : Nat) (th : Nat) (f : Int32) (x : Int32) (y : Int32) (z : Int32) (pn : Nat) (hth : Γ th = some 10) (kpn : zfld F th 2 = .ref pn) (hpn : Γ pn = some 6) : Met l yX10_unlike zwX10_unlike ({ frames := 5, cells := 0, slots := 0, locals := 114 }) (va_Pc [.ref th, .int f, .int x, .int y, .int z] (zP D k Γ L F sz)) (va_Qi (fun (r : Int32) (u : Nat → va_E) => True) (zQ D k Γ L F [500, 501, 502, 503, 504, 505, 506, 510, 511, 512, 513, 514, 515, 518, 1013, 10800, 10900, 11000, 11100, 11200]) (zA L sz)) 0 0 (zA L sz) := by
  refine Met.ofW (cc := cX10_unlike) (maxL := 7) (ret := (some .int)) (by decide) rfl ?_
  intro p e s m args below meth c s₁ B hml hv
  obtain ⟨rfl, hsz, hP, hK, hLn, hE, hI⟩ := hv
  have hx := B.exec
  have hb := B.bytes
  have hr := B.returns
  have hg : ∀ w ∈ zG, w.before _ s = true := fun w h9 => atoms_spec (ws := zwX10_unlike) B.pre w (List.mem_cons_of_mem _ h9)
  have hown : s.vm.findClass RX10 = some m.cls := findClass_of_methodNamed B.named
  have hlocks := B.notSynchronized
  subst hsz
  have Z : zC p m c cX10_unlike 7 s _ zG RX10 D k L := ⟨⟨hx, hb, hml, hown, hg⟩, hK, hLn, hE⟩
  have h : zH D k Γ L s F s.heap [] := ⟨hP, hI, va_S.rf⟩
  have hl := lv_entry ([.ref th, .int f, .int x, .int y, .int z]) (n := 7) (Nat.le_of_ble_eq_true rfl)
  rw [lg_entry_eq]
  generalize (lg_sl ([.ref th, .int f, .int x, .int y, .int z]) ++ List.replicate (7 - (lg_sl ([.ref th, .int f, .int x, .int y, .int z])).length) Slot.unset).toArray = ls at hl ⊢
  have hl : lv_has ls 7 [(0, .ref th), (1, .int f), (2, .int x), (3, .int y), (4, .int z)] := hl
  clear hP hK hLn hE hI
  generalize hargs : ([.ref th, .int f, .int x, .int y, .int z] : List Value).toArray = args at *
  refine z_start (fun R Q hRf hRl hQ => ?_)
  have hRf : R.frames = 5 := hRf
  have hRl : R.locals = 114 := hRl
  refine lv_aload_n hx hb dX10_unlike_0 rfl (lv_at hl 0 rfl) ?_
  refine zt_getk (t := 10) (C := RX10) (T := TX10) (N := 14) Z h hth zin_10 rfl 2 kpn ⟨by decide, rfl, by decide⟩ (zm_RX10 (List.mem_of_getElem? (i := 21) rfl)) (fun _ h9 => h9) dX10_unlike_1 ?_
  refine lv_iload_n hx hb dX10_unlike_4 rfl (lv_at hl 1 rfl) ?_
  refine zk_Vi (As := [.int f]) (rest := []) (bytes := cX6_hasFunction) (maxL := 2) (ret := (some .boolean)) Z h (zc_X6_hasFunction l D k Γ L F s.heap.size pn f hpn) (cwV 1 hg zv_RX10_98 rfl rfl rfl zd_X6_hasFunction ⟨z_leR hRf (by decide), z_leR hRl (by decide)⟩) hpn (by decide) rfl rfl hl.1 rfl (Nat.le_of_ble_eq_true rfl) dX10_unlike_5 ⟨Nat.zero_le _, Nat.zero_le _⟩ (fun r_1 F_2 H locs w_3 h hfF_2 => ?_)
  obtain ⟨rfl, br_1, q_4, q_5, -⟩ := w_3
  refine lv_if_ne (tgt := 17) hx hb dX10_unlike_8 (by decide) (fun c_6 => ?_) (fun c_6 => ?_)
  · have bf_7 : zB 0 9 f := q_4 c_6
    obtain ⟨x_8, kx_8, bx_8, q_9⟩ := q_5 c_6
    have c_6 := z_ne c_6
    have br_1_10 : zB 1 1 r_1 := zB.neLo c_6 br_1 (zBc 0 0 (by decide)) (by decide)
    refine lv_aload_n hx hb dX10_unlike_17 rfl (lv_at hl 0 rfl) ?_
    refine zt_getr (t := 10) (C := RX10) (T := TX10) (N := 14) Z h hth zin_10 rfl 6 rfl ⟨by decide, rfl⟩ (zm_RX10 (List.mem_of_getElem? (i := 72) rfl)) (fun _ h9 => h9) dX10_unlike_18 (fun a_11 ka_11 ha_11 => ?_)
    refine lv_aload_n hx hb dX10_unlike_21 rfl (lv_at hl 0 rfl) ?_
    refine zt_getk (t := 10) (C := RX10) (T := TX10) (N := 14) Z h hth zin_10 rfl 2 kpn ⟨by decide, rfl, by decide⟩ (zm_RX10 (List.mem_of_getElem? (i := 21) rfl)) (fun _ h9 => h9) dX10_unlike_22 ?_
    refine lv_sipush (v := 2000) hx hb dX10_unlike_25 (by decide) ?_
    refine lv_iconst (v := (-1)) hx hb dX10_unlike_28 (by decide) ?_
    refine zk_Vv (As := [.ref pn, .int 2000, .int (-1)]) (rest := []) (bytes := cX5_start) (maxL := 4) (ret := none) Z h (zc_X5_start l D k Γ L F H.size a_11 pn 2000 (-1) ha_11 hpn) (cwV 3 hg zv_RX10_163 rfl rfl rfl zd_X5_start ⟨z_leR hRf (by decide), z_leR hRl (by decide)⟩) ha_11 (by decide) rfl rfl hl.1 rfl (Nat.le_of_ble_eq_true rfl) dX10_unlike_29 ⟨Nat.zero_le _, Nat.zero_le _⟩ (fun F_12 H locs w_13 h hfF_12 => ?_)
    obtain ⟨⟨x_15, kx_15, bx_15⟩, ⟨x_17, kx_17, bx_17⟩, ⟨x_19, kx_19, bx_19⟩, kq_20, -⟩ := w_13
    refine lv_aload_n hx hb dX10_unlike_32 rfl (lv_at hl 0 rfl) ?_
    refine zt_getk (t := 10) (C := RX10) (T := TX10) (N := 14) Z h hth zin_10 rfl 6 (hfF_12.f hth 6 ⟨by decide, by decide⟩ ka_11) ⟨by decide, rfl, by decide⟩ (zm_RX10 (List.mem_of_getElem? (i := 72) rfl)) (fun _ h9 => h9) dX10_unlike_33 ?_
    refine lv_iload_n hx hb dX10_unlike_36 rfl (lv_at hl 1 rfl) ?_
    refine lv_iload_n hx hb dX10_unlike_37 rfl (lv_at hl 2 rfl) ?_
    refine lv_iload_n hx hb dX10_unlike_38 rfl (lv_at hl 3 rfl) ?_
    refine lv_iload hx hb dX10_unlike_39 (lv_at hl 4 rfl) ?_
    refine zk_Vv (As := [.int f, .int x, .int y, .int z]) (rest := []) (bytes := cX5_finish) (maxL := 8) (ret := none) Z h (zc_X5_finish l D k Γ L F_12 H.size a_11 f x y z pn x_15 x_17 x_19 ha_11 kq_20 hpn kx_15 bx_15 kx_17 bx_17 kx_19 bx_19) (cwV 4 hg zv_RX10_167 rfl rfl rfl zd_X5_finish ⟨z_leR hRf (by decide), z_leR hRl (by decide)⟩) ha_11 (by decide) rfl rfl hl.1 rfl (Nat.le_of_ble_eq_true rfl) dX10_unlike_41 ⟨Nat.zero_le _, Nat.zero_le _⟩ (fun F_21 H locs w_22 h hfF_21 => ?_)
    refine lv_iconst (v := 0) hx hb dX10_unlike_44 (by decide) ?_
    refine lv_istore (lv' := [(5, .int 0), (0, .ref th), (1, .int f), (2, .int x), (3, .int y), (4, .int z)]) hx hb dX10_unlike_45 hl (by decide) rfl (fun ls hl => ?_)
    refine lv_iconst (v := 0) hx hb dX10_unlike_47 (by decide) ?_
    refine lv_istore (lv' := [(6, .int 0), (5, .int 0), (0, .ref th), (1, .int f), (2, .int x), (3, .int y), (4, .int z)]) hx hb dX10_unlike_48 hl (by decide) rfl (fun ls hl => ?_)
    have j_j50_23 : ∀ (n : Nat) (ls : Array Slot) (y6_j50_23 : Int32) (y5_j50_23 : Int32) (F_24 : Nat → va_E) (H : Heap) (locs : List Loc), lv_has ls 7 [(6, .int y6_j50_23), (5, .int y5_j50_23), (0, .ref th), (1, .int f), (2, .int x), (3, .int y), (4, .int z)] → zB 0 8 y6_j50_23 → zB (-2147483648) 2147483647 y5_j50_23 → zH D k Γ L s F_24 H locs → zFr Γ [500, 501, 502, 503, 504, 505, 506, 510, 511, 512, 513, 514, 515, 518, 10800, 10900, 11000, 11100, 11200] F_21 F_24 → (2147483647 - y6_j50_23.toInt).toNat = n → W p l e R s m args below meth c H locs 0 0 Q (F0 m 50 ls []) := by
      intro n
      induction n using Nat.strongRecOn with
      | _ n ih_j50_23 =>
        intro ls y6_j50_23 y5_j50_23 F_24 H locs hl by6_j50_23 by5_j50_23 h hfF_24 hn_j50_23
        refine lv_iload hx hb dX10_unlike_50 (lv_at hl 0 rfl) ?_
        refine lv_iconst (v := 4) hx hb dX10_unlike_52 (by decide) ?_
        refine lv_icmp_ge (tgt := 107) hx hb dX10_unlike_53 (by decide) (fun c_25 => ?_) (fun c_25 => ?_)
        · have c_25 := z_le c_25
          have by6_j50_23_26 : zB 4 8 y6_j50_23 := zB.leR c_25 (zBc 4 4 (by decide)) by6_j50_23 (by decide)
          refine lv_aload_n hx hb dX10_unlike_107 rfl (lv_at hl 2 rfl) ?_
          refine lv_iload hx hb dX10_unlike_108 (lv_at hl 1 rfl) ?_
          refine zk_Vi (As := [.int y5_j50_23]) (rest := []) (bytes := cX10_accept) (maxL := 2) (ret := (some .int)) Z h (zc_X10_accept l D k Γ L F_24 H.size th y5_j50_23 hth) (cwV 1 hg zv_RX10_76 rfl rfl rfl zd_X10_accept ⟨z_leR hRf (by decide), z_leR hRl (by decide)⟩) hth (by decide) rfl rfl hl.1 rfl (Nat.le_of_ble_eq_true rfl) dX10_unlike_110 ⟨Nat.zero_le _, Nat.zero_le _⟩ (fun r_27 F_28 H locs w_29 h hfF_28 => ?_)
          obtain ⟨q_30, -⟩ := w_29
          have br_27 := zB.all r_27
          subst hQ
          exact W.iret (v := r_27) hx hb hr (fun t ht hW => ⟨⟨r_27, F_28, rfl, trivial, by rw [ht]; exact h.1, h.2.1, ((((hfF_12.w (by decide)).trans hfF_21 (by decide)).trans hfF_24 (by decide)).trans hfF_28 (by decide))⟩, h.2.2.F ht⟩) h.2.2.2.2 dX10_unlike_113
        · have c_25 := z_nle c_25
          have by6_j50_23_31 : zB 0 3 y6_j50_23 := zB.ltL c_25 by6_j50_23 (zBc 4 4 (by decide)) (by decide)
          refine lv_aload_n hx hb dX10_unlike_56 rfl (lv_at hl 2 rfl) ?_
          refine zt_getr (t := 10) (C := RX10) (T := TX10) (N := 14) Z h hth zin_10 rfl 7 rfl ⟨by decide, rfl⟩ (zm_RX10 (List.mem_of_getElem? (i := 70) rfl)) (fun _ h9 => h9) dX10_unlike_57 (fun a_32 ka_32 ha_32 => ?_)
          refine lv_aload_n hx hb dX10_unlike_60 rfl (lv_at hl 2 rfl) ?_
          refine zt_getk (t := 10) (C := RX10) (T := TX10) (N := 14) Z h hth zin_10 rfl 2 (hfF_24.f hth 2 ⟨by decide, by decide⟩ (hfF_21.f hth 2 ⟨by decide, by decide⟩ (hfF_12.f hth 2 ⟨by decide, by decide⟩ kpn))) ⟨by decide, rfl, by decide⟩ (zm_RX10 (List.mem_of_getElem? (i := 21) rfl)) (fun _ h9 => h9) dX10_unlike_61 ?_
          refine lv_sipush (v := 2000) hx hb dX10_unlike_64 (by decide) ?_
          refine lv_iload hx hb dX10_unlike_67 (lv_at hl 0 rfl) ?_
          refine zk_Vv (As := [.ref pn, .int 2000, .int y6_j50_23]) (rest := []) (bytes := cX5_start) (maxL := 4) (ret := none) Z h (zc_X5_start l D k Γ L F_24 H.size a_32 pn 2000 y6_j50_23 ha_32 hpn) (cwV 3 hg zv_RX10_163 rfl rfl rfl zd_X5_start ⟨z_leR hRf (by decide), z_leR hRl (by decide)⟩) ha_32 (by decide) rfl rfl hl.1 rfl (Nat.le_of_ble_eq_true rfl) dX10_unlike_69 ⟨Nat.zero_le _, Nat.zero_le _⟩ (fun F_33 H locs w_34 h hfF_33 => ?_)
          obtain ⟨⟨x_36, kx_36, bx_36⟩, ⟨x_38, kx_38, bx_38⟩, ⟨x_40, kx_40, bx_40⟩, kq_41, -⟩ := w_34
          refine lv_aload_n hx hb dX10_unlike_72 rfl (lv_at hl 2 rfl) ?_
          refine zt_getk (t := 10) (C := RX10) (T := TX10) (N := 14) Z h hth zin_10 rfl 7 (hfF_33.f hth 7 ⟨by decide, by decide⟩ ka_32) ⟨by decide, rfl, by decide⟩ (zm_RX10 (List.mem_of_getElem? (i := 70) rfl)) (fun _ h9 => h9) dX10_unlike_73 ?_
          refine lv_iload_n hx hb dX10_unlike_76 rfl (lv_at hl 3 rfl) ?_
          refine lv_iload_n hx hb dX10_unlike_77 rfl (lv_at hl 4 rfl) ?_
          refine lv_iload_n hx hb dX10_unlike_78 rfl (lv_at hl 5 rfl) ?_
          refine lv_iload hx hb dX10_unlike_79 (lv_at hl 6 rfl) ?_
          refine zk_Vv (As := [.int f, .int x, .int y, .int z]) (rest := []) (bytes := cX5_finish) (maxL := 8) (ret := none) Z h (zc_X5_finish l D k Γ L F_33 H.size a_32 f x y z pn x_36 x_38 x_40 ha_32 kq_41 hpn kx_36 bx_36 kx_38 bx_38 kx_40 bx_40) (cwV 4 hg zv_RX10_167 rfl rfl rfl zd_X5_finish ⟨z_leR hRf (by decide), z_leR hRl (by decide)⟩) ha_32 (by decide) rfl rfl hl.1 rfl (Nat.le_of_ble_eq_true rfl) dX10_unlike_81 ⟨Nat.zero_le _, Nat.zero_le _⟩ (fun F_42 H locs w_43 h hfF_42 => ?_)
          refine lv_aload_n hx hb dX10_unlike_84 rfl (lv_at hl 2 rfl) ?_
          refine zt_getk (t := 10) (C := RX10) (T := TX10) (N := 14) Z h hth zin_10 rfl 7 (hfF_42.f hth 7 ⟨by decide, by decide⟩ (hfF_33.f hth 7 ⟨by decide, by decide⟩ ka_32)) ⟨by decide, rfl, by decide⟩ (zm_RX10 (List.mem_of_getElem? (i := 70) rfl)) (fun _ h9 => h9) dX10_unlike_85 ?_
          refine lv_aload_n hx hb dX10_unlike_88 rfl (lv_at hl 2 rfl) ?_
          refine zt_getk (t := 10) (C := RX10) (T := TX10) (N := 14) Z h hth zin_10 rfl 6 (hfF_42.f hth 6 ⟨by decide, by decide⟩ (hfF_33.f hth 6 ⟨by decide, by decide⟩ (hfF_24.f hth 6 ⟨by decide, by decide⟩ (hfF_21.f hth 6 ⟨by decide, by decide⟩ (hfF_12.f hth 6 ⟨by decide, by decide⟩ ka_11))))) ⟨by decide, rfl, by decide⟩ (zm_RX10 (List.mem_of_getElem? (i := 72) rfl)) (fun _ h9 => h9) dX10_unlike_89 ?_
          refine zk_Vi (As := [.ref a_11]) (rest := []) (bytes := cX5_tellsLike) (maxL := 3) (ret := (some .boolean)) Z h (zc_X5_tellsLike l D k Γ L F_42 H.size a_32 a_11 ha_32 ha_11) (cwV 1 hg zv_RX10_223 rfl rfl rfl zd_X5_tellsLike ⟨z_leR hRf (by decide), z_leR hRl (by decide)⟩) ha_32 (by decide) rfl rfl hl.1 rfl (Nat.le_of_ble_eq_true rfl) dX10_unlike_92 ⟨Nat.zero_le _, Nat.zero_le _⟩ (fun r_44 F_45 H locs w_46 h hfF_45 => ?_)
          obtain ⟨rfl, br_44, -⟩ := w_46
          refine lv_if_ne (tgt := 101) hx hb dX10_unlike_95 (by decide) (fun c_47 => ?_) (fun c_47 => ?_)
          · have c_47 := z_ne c_47
            have br_44_48 : zB 1 1 r_44 := zB.neLo c_47 br_44 (zBc 0 0 (by decide)) (by decide)
            obtain ⟨x_49, ex_49, bx_49, tx_49⟩ := z_inc (n := 1) (lo := 1) (hi := 4) by6_j50_23_31 (by decide)
            refine lv_iinc (v := x_49) (lv' := [(6, .int x_49), (5, .int y5_j50_23), (0, .ref th), (1, .int f), (2, .int x), (3, .int y), (4, .int z)]) hx hb dX10_unlike_101 hl (k := 0) rfl ex_49 (by decide) rfl (fun ls hl => ?_)
            refine lv_goto (tgt := 50) hx hb dX10_unlike_104 (by decide) ?_
            exact ih_j50_23 _ (by have := bx_49.1; have := bx_49.2; have := by5_j50_23.1; have := by5_j50_23.2; have := bf_7.1; have := bf_7.2; have := (zB.all x).1; have := (zB.all x).2; have := (zB.all y).1; have := (zB.all y).2; have := (zB.all z).1; have := (zB.all z).2; have := bx_8.1; have := bx_8.2; have : (0 : Int32).toInt = 0 := (by decide); have : (4 : Int32).toInt = 4 := (by decide); have := by6_j50_23.1; have := by6_j50_23.2; have := by5_j50_23.1; have := by5_j50_23.2; omega) ls x_49 y5_j50_23 F_42 H locs (lv_sub hl [0, 1, 2, 3, 4, 5, 6] rfl) (bx_49.w ⟨by decide, by decide⟩) by5_j50_23 h ((hfF_24.trans hfF_33 (by decide)).trans hfF_42 (by decide)) rfl
          · have c_47 := z_eq c_47
            have br_44_50 : zB 0 0 r_44 := zB.eqL (a := 0) (b := 0) c_47 (zBc 0 0 (by decide))
            obtain ⟨x_51, ex_51⟩ : ∃ z : Int32, y5_j50_23 + Int32.ofInt 1 = z := ⟨_, rfl⟩
            have bx_51 := zB.all x_51
            refine lv_iinc (v := x_51) (lv' := [(5, .int x_51), (6, .int y6_j50_23), (0, .ref th), (1, .int f), (2, .int x), (3, .int y), (4, .int z)]) hx hb dX10_unlike_98 hl (k := 1) rfl ex_51 (by decide) rfl (fun ls hl => ?_)
            obtain ⟨x_52, ex_52, bx_52, tx_52⟩ := z_inc (n := 1) (lo := 1) (hi := 4) by6_j50_23_31 (by decide)
            refine lv_iinc (v := x_52) (lv' := [(6, .int x_52), (5, .int x_51), (0, .ref th), (1, .int f), (2, .int x), (3, .int y), (4, .int z)]) hx hb dX10_unlike_101 hl (k := 1) rfl ex_52 (by decide) rfl (fun ls hl => ?_)
            refine lv_goto (tgt := 50) hx hb dX10_unlike_104 (by decide) ?_
            exact ih_j50_23 _ (by have := bx_52.1; have := bx_52.2; have := bx_51.1; have := bx_51.2; have := bf_7.1; have := bf_7.2; have := (zB.all x).1; have := (zB.all x).2; have := (zB.all y).1; have := (zB.all y).2; have := (zB.all z).1; have := (zB.all z).2; have := bx_8.1; have := bx_8.2; have : (0 : Int32).toInt = 0 := (by decide); have : (4 : Int32).toInt = 4 := (by decide); have := by6_j50_23.1; have := by6_j50_23.2; have := by5_j50_23.1; have := by5_j50_23.2; omega) ls x_52 x_51 F_42 H locs (lv_sub hl [0, 1, 2, 3, 4, 5, 6] rfl) (bx_52.w ⟨by decide, by decide⟩) bx_51 h ((hfF_24.trans hfF_33 (by decide)).trans hfF_42 (by decide)) rfl
    exact j_j50_23 _ ls 0 0 F_21 H locs (lv_sub hl [0, 1, 2, 3, 4, 5, 6] rfl) (zB.of ⟨by decide, by decide⟩) (zB.of ⟨by decide, by decide⟩) h zFr.rf rfl
  · have c_6 := z_eq c_6
    have br_1_53 : zB 0 0 r_1 := zB.eqL (a := 0) (b := 0) c_6 (zBc 0 0 (by decide))
    refine lv_aload_n hx hb dX10_unlike_11 rfl (lv_at hl 0 rfl) ?_
    refine lv_iconst (v := 1) hx hb dX10_unlike_12 (by decide) ?_
    refine zk_Vi (As := [.int 1]) (rest := []) (bytes := cX10_refuse) (maxL := 2) (ret := (some .int)) Z h (zc_X10_refuse l D k Γ L F H.size th 1 hth) (cwV 1 hg zv_RX10_68 rfl rfl rfl zd_X10_refuse ⟨z_leR hRf (by decide), z_leR hRl (by decide)⟩) hth (by decide) rfl rfl hl.1 rfl (Nat.le_of_ble_eq_true rfl) dX10_unlike_13 ⟨Nat.zero_le _, Nat.zero_le _⟩ (fun r_54 F_55 H locs w_56 h hfF_55 => ?_)
    obtain ⟨br_54, -⟩ := w_56
    subst hQ
    exact W.iret (v := r_54) hx hb hr (fun t ht hW => ⟨⟨r_54, F_55, rfl, trivial, by rw [ht]; exact h.1, h.2.1, (hfF_55.w (by decide))⟩, h.2.2.F ht⟩) h.2.2.2.2 dX10_unlike_16

set_option maxHeartbeats 4000000 in
set_option maxRecDepth 100000 in
theorem zc_X10_order (l : Launch) (D : va_G) (k : Nat → ClassId) (Γ : Nat → Option Nat) (L : List Nat) (F : Nat → va_E) (sz : Nat) (th : Nat) (pn : Nat) (hth : Γ th = some 10) (kpn : zfld F th 2 = .ref pn) (hpn : Γ pn = some 6) : Met l yX10_order zwX10_order ({ frames := 5, cells := 0, slots := 0, locals := 117 }) (va_Pc [.ref th] (zP D k Γ L F sz)) (va_Qi (fun (r : Int32) (u : Nat → va_E) => True) (zQ D k Γ L F [2, 11300, 11400]) (zA L sz)) 0 0 (zA L sz) := by
  refine Met.ofW (cc := cX10_order) (maxL := 1) (ret := (some .int)) (by decide) rfl ?_
  intro p e s m args below meth c s₁ B hml hv
  obtain ⟨rfl, hsz, hP, hK, hLn, hE, hI⟩ := hv
  have hx := B.exec
  have hb := B.bytes
  have hr := B.returns
  have hg : ∀ w ∈ zG, w.before _ s = true := fun w h9 => atoms_spec (ws := zwX10_order) B.pre w (List.mem_cons_of_mem _ h9)
  have hown : s.vm.findClass RX10 = some m.cls := findClass_of_methodNamed B.named
  have hlocks := B.notSynchronized
  subst hsz
  have Z : zC p m c cX10_order 1 s _ zG RX10 D k L := ⟨⟨hx, hb, hml, hown, hg⟩, hK, hLn, hE⟩
  have h : zH D k Γ L s F s.heap [] := ⟨hP, hI, va_S.rf⟩
  have hl := lv_entry ([.ref th]) (n := 1) (Nat.le_of_ble_eq_true rfl)
  rw [lg_entry_eq]
  generalize (lg_sl ([.ref th]) ++ List.replicate (1 - (lg_sl ([.ref th])).length) Slot.unset).toArray = ls at hl ⊢
  have hl : lv_has ls 1 [(0, .ref th)] := hl
  clear hP hK hLn hE hI
  generalize hargs : ([.ref th] : List Value).toArray = args at *
  refine z_start (fun R Q hRf hRl hQ => ?_)
  have hRf : R.frames = 5 := hRf
  have hRl : R.locals = 117 := hRl
  refine lv_aload_n hx hb dX10_order_0 rfl (lv_at hl 0 rfl) ?_
  refine zt_getk (t := 10) (C := RX10) (T := TX10) (N := 14) Z h hth zin_10 rfl 2 kpn ⟨by decide, rfl, by decide⟩ (zm_RX10 (List.mem_of_getElem? (i := 21) rfl)) (fun _ h9 => h9) dX10_order_1 ?_
  refine zt_geti (t := 6) (C := RX6) (T := TX6) (N := 6) Z h hpn zin_6 rfl 4 rfl ⟨by decide, rfl⟩ (zm_RX10 (List.mem_of_getElem? (i := 22) rfl)) (fun _ h9 => h9) dX10_order_4 (fun x_1 kx_1 bx_1 => ?_)
  refine lv_if_ne (tgt := 13) hx hb dX10_order_7 (by decide) (fun c_2 => ?_) (fun c_2 => ?_)
  · have c_2 := z_ne c_2
    have bx_1_3 : zB 1 10 x_1 := zB.neLo c_2 bx_1 (zBc 0 0 (by decide)) (by decide)
    refine lv_aload_n hx hb dX10_order_13 rfl (lv_at hl 0 rfl) ?_
    refine zt_getr (t := 10) (C := RX10) (T := TX10) (N := 14) Z h hth zin_10 rfl 9 rfl ⟨by decide, rfl⟩ (zm_RX10 (List.mem_of_getElem? (i := 75) rfl)) (fun _ h9 => h9) dX10_order_14 (fun a_4 ka_4 ha_4 => ?_)
    refine lv_aload_n hx hb dX10_order_17 rfl (lv_at hl 0 rfl) ?_
    refine zt_getk (t := 10) (C := RX10) (T := TX10) (N := 14) Z h hth zin_10 rfl 2 kpn ⟨by decide, rfl, by decide⟩ (zm_RX10 (List.mem_of_getElem? (i := 21) rfl)) (fun _ h9 => h9) dX10_order_18 ?_
    refine zk_Vi (As := [.ref pn]) (rest := []) (bytes := cX0_callsAhead) (maxL := 2) (ret := (some .int)) Z h (zc_X0_callsAhead l D k Γ L F s.heap.size a_4 pn ha_4 hpn) (cwV 1 hg zv_RX10_227 rfl rfl rfl zd_X0_callsAhead ⟨z_leR hRf (by decide), z_leR hRl (by decide)⟩) ha_4 (by decide) rfl rfl hl.1 rfl (Nat.le_of_ble_eq_true rfl) dX10_order_21 ⟨Nat.zero_le _, Nat.zero_le _⟩ (fun r_5 F_6 H locs w_7 h hfF_6 => ?_)
    have br_5 := zB.all r_5
    subst hQ
    exact W.iret (v := r_5) hx hb hr (fun t ht hW => ⟨⟨r_5, F_6, rfl, trivial, by rw [ht]; exact h.1, h.2.1, hfF_6⟩, h.2.2.F ht⟩) h.2.2.2.2 dX10_order_24
  · have c_2 := z_eq c_2
    have bx_1_8 : zB 0 0 x_1 := zB.eqL (a := 0) (b := 0) c_2 (zBc 0 0 (by decide))
    refine lv_bipush (v := (-2)) hx hb dX10_order_10 (by decide) ?_
    subst hQ
    exact W.iret (v := (-2)) hx hb hr (fun t ht hW => ⟨⟨(-2), F, rfl, trivial, by rw [ht]; exact h.1, h.2.1, zFr.rf⟩, h.2.2.F ht⟩) h.2.2.2.2 dX10_order_12

set_option maxHeartbeats 4000000 in
set_option maxRecDepth 100000 in
theorem zc_X10_chapter (l : Launch) (D : va_G) (k : Nat → ClassId) (Γ : Nat → Option Nat) (L : List Nat) (F : Nat → va_E) (sz : Nat) (th : Nat) (i : Int32) (pn : Nat) (hth : Γ th = some 10) (kpn : zfld F th 2 = .ref pn) (hpn : Γ pn = some 6) : Met l yX10_chapter zwX10_chapter ({ frames := 5, cells := 0, slots := 0, locals := 118 }) (va_Pc [.ref th, .int i] (zP D k Γ L F sz)) (va_Qi (fun (r : Int32) (u : Nat → va_E) => True) (zQ D k Γ L F [2, 11300, 11400]) (zA L sz)) 0 0 (zA L sz) := by
  refine Met.ofW (cc := cX10_chapter) (maxL := 2) (ret := (some .int)) (by decide) rfl ?_
  intro p e s m args below meth c s₁ B hml hv
  obtain ⟨rfl, hsz, hP, hK, hLn, hE, hI⟩ := hv
  have hx := B.exec
  have hb := B.bytes
  have hr := B.returns
  have hg : ∀ w ∈ zG, w.before _ s = true := fun w h9 => atoms_spec (ws := zwX10_chapter) B.pre w (List.mem_cons_of_mem _ h9)
  have hown : s.vm.findClass RX10 = some m.cls := findClass_of_methodNamed B.named
  have hlocks := B.notSynchronized
  subst hsz
  have Z : zC p m c cX10_chapter 2 s _ zG RX10 D k L := ⟨⟨hx, hb, hml, hown, hg⟩, hK, hLn, hE⟩
  have h : zH D k Γ L s F s.heap [] := ⟨hP, hI, va_S.rf⟩
  have hl := lv_entry ([.ref th, .int i]) (n := 2) (Nat.le_of_ble_eq_true rfl)
  rw [lg_entry_eq]
  generalize (lg_sl ([.ref th, .int i]) ++ List.replicate (2 - (lg_sl ([.ref th, .int i])).length) Slot.unset).toArray = ls at hl ⊢
  have hl : lv_has ls 2 [(0, .ref th), (1, .int i)] := hl
  clear hP hK hLn hE hI
  generalize hargs : ([.ref th, .int i] : List Value).toArray = args at *
  refine z_start (fun R Q hRf hRl hQ => ?_)
  have hRf : R.frames = 5 := hRf
  have hRl : R.locals = 118 := hRl
  refine lv_aload_n hx hb dX10_chapter_0 rfl (lv_at hl 0 rfl) ?_
  refine zt_getk (t := 10) (C := RX10) (T := TX10) (N := 14) Z h hth zin_10 rfl 2 kpn ⟨by decide, rfl, by decide⟩ (zm_RX10 (List.mem_of_getElem? (i := 21) rfl)) (fun _ h9 => h9) dX10_chapter_1 ?_
  refine lv_iload_n hx hb dX10_chapter_4 rfl (lv_at hl 1 rfl) ?_
  refine zk_Vi (As := [.int i]) (rest := []) (bytes := cX6_hasFunction) (maxL := 2) (ret := (some .boolean)) Z h (zc_X6_hasFunction l D k Γ L F s.heap.size pn i hpn) (cwV 1 hg zv_RX10_98 rfl rfl rfl zd_X6_hasFunction ⟨z_leR hRf (by decide), z_leR hRl (by decide)⟩) hpn (by decide) rfl rfl hl.1 rfl (Nat.le_of_ble_eq_true rfl) dX10_chapter_5 ⟨Nat.zero_le _, Nat.zero_le _⟩ (fun r_1 F_2 H locs w_3 h hfF_2 => ?_)
  obtain ⟨rfl, br_1, q_4, q_5, -⟩ := w_3
  refine lv_if_ne (tgt := 13) hx hb dX10_chapter_8 (by decide) (fun c_6 => ?_) (fun c_6 => ?_)
  · have bi_7 : zB 0 9 i := q_4 c_6
    obtain ⟨x_8, kx_8, bx_8, q_9⟩ := q_5 c_6
    have c_6 := z_ne c_6
    have br_1_10 : zB 1 1 r_1 := zB.neLo c_6 br_1 (zBc 0 0 (by decide)) (by decide)
    refine lv_aload_n hx hb dX10_chapter_13 rfl (lv_at hl 0 rfl) ?_
    refine zt_getr (t := 10) (C := RX10) (T := TX10) (N := 14) Z h hth zin_10 rfl 9 rfl ⟨by decide, rfl⟩ (zm_RX10 (List.mem_of_getElem? (i := 75) rfl)) (fun _ h9 => h9) dX10_chapter_14 (fun a_11 ka_11 ha_11 => ?_)
    refine lv_aload_n hx hb dX10_chapter_17 rfl (lv_at hl 0 rfl) ?_
    refine zt_getk (t := 10) (C := RX10) (T := TX10) (N := 14) Z h hth zin_10 rfl 2 kpn ⟨by decide, rfl, by decide⟩ (zm_RX10 (List.mem_of_getElem? (i := 21) rfl)) (fun _ h9 => h9) dX10_chapter_18 ?_
    refine lv_iload_n hx hb dX10_chapter_21 rfl (lv_at hl 1 rfl) ?_
    refine zk_Vi (As := [.ref pn, .int i]) (rest := []) (bytes := cX0_functionAt) (maxL := 3) (ret := (some .int)) Z h (zc_X0_functionAt l D k Γ L F H.size a_11 pn i ha_11 hpn) (cwV 2 hg zv_RX10_231 rfl rfl rfl zd_X0_functionAt ⟨z_leR hRf (by decide), z_leR hRl (by decide)⟩) ha_11 (by decide) rfl rfl hl.1 rfl (Nat.le_of_ble_eq_true rfl) dX10_chapter_22 ⟨Nat.zero_le _, Nat.zero_le _⟩ (fun r_12 F_13 H locs w_14 h hfF_13 => ?_)
    have br_12 := zB.all r_12
    subst hQ
    exact W.iret (v := r_12) hx hb hr (fun t ht hW => ⟨⟨r_12, F_13, rfl, trivial, by rw [ht]; exact h.1, h.2.1, hfF_13⟩, h.2.2.F ht⟩) h.2.2.2.2 dX10_chapter_25
  · have c_6 := z_eq c_6
    have br_1_15 : zB 0 0 r_1 := zB.eqL (a := 0) (b := 0) c_6 (zBc 0 0 (by decide))
    refine lv_iconst (v := (-1)) hx hb dX10_chapter_11 (by decide) ?_
    subst hQ
    exact W.iret (v := (-1)) hx hb hr (fun t ht hW => ⟨⟨(-1), F, rfl, trivial, by rw [ht]; exact h.1, h.2.1, zFr.rf⟩, h.2.2.F ht⟩) h.2.2.2.2 dX10_chapter_12

set_option maxHeartbeats 4000000 in
set_option maxRecDepth 100000 in
theorem zc_X10_tell (l : Launch) (D : va_G) (k : Nat → ClassId) (Γ : Nat → Option Nat) (L : List Nat) (F : Nat → va_E) (sz : Nat) (th : Nat) (f : Int32) (x : Int32) (y : Int32) (z : Int32) (pn : Nat) (to : Nat) (fc : Int32) (sz_ : Int32) (hth : Γ th = some 10) (kpn : zfld F th 2 = .ref pn) (hpn : Γ pn = some 6) (kto : zfld F th 10 = .ref to) (hto : Γ to = some 9) (kfc : zfld F pn 4 = .int fc) (bfc : zB 0 10 fc) (ksz_ : zfld F to 4 = .int sz_) (bsz_ : zB 0 12 sz_) : Met l yX10_tell zwX10_tell ({ frames := 5, cells := 0, slots := 0, locals := 114 }) (va_Pc [.ref th, .int f, .int x, .int y, .int z] (zP D k Γ L F sz)) (va_Qi (fun (r : Int32) (u : Nat → va_E) => (∃ (s9 : Int32), zfld u to 4 = .int s9 ∧ zB 0 12 s9 ∧ ((0 ≤ f.toInt ∧ f.toInt < fc.toInt ∧ sz_.toInt < 12 → r.toInt = sz_.toInt ∧ s9.toInt = sz_.toInt + 1) ∧ (f.toInt < 0 ∨ fc.toInt ≤ f.toInt ∨ 12 ≤ sz_.toInt → r.toInt = -1 ∧ s9.toInt = sz_.toInt))) ∧ True) (zQ D k Γ L F [500, 501, 502, 503, 504, 505, 506, 510, 511, 512, 513, 514, 515, 518, 904, 1013, 10800, 10900, 11000, 11100, 11200, 11500]) (zA L sz)) 0 0 (zA L sz) := by
  refine Met.ofW (cc := cX10_tell) (maxL := 5) (ret := (some .int)) (by decide) rfl ?_
  intro p e s m args below meth c s₁ B hml hv
  obtain ⟨rfl, hsz, hP, hK, hLn, hE, hI⟩ := hv
  have hx := B.exec
  have hb := B.bytes
  have hr := B.returns
  have hg : ∀ w ∈ zG, w.before _ s = true := fun w h9 => atoms_spec (ws := zwX10_tell) B.pre w (List.mem_cons_of_mem _ h9)
  have hown : s.vm.findClass RX10 = some m.cls := findClass_of_methodNamed B.named
  have hlocks := B.notSynchronized
  subst hsz
  have Z : zC p m c cX10_tell 5 s _ zG RX10 D k L := ⟨⟨hx, hb, hml, hown, hg⟩, hK, hLn, hE⟩
  have h : zH D k Γ L s F s.heap [] := ⟨hP, hI, va_S.rf⟩
  have hl := lv_entry ([.ref th, .int f, .int x, .int y, .int z]) (n := 5) (Nat.le_of_ble_eq_true rfl)
  rw [lg_entry_eq]
  generalize (lg_sl ([.ref th, .int f, .int x, .int y, .int z]) ++ List.replicate (5 - (lg_sl ([.ref th, .int f, .int x, .int y, .int z])).length) Slot.unset).toArray = ls at hl ⊢
  have hl : lv_has ls 5 [(0, .ref th), (1, .int f), (2, .int x), (3, .int y), (4, .int z)] := hl
  clear hP hK hLn hE hI
  generalize hargs : ([.ref th, .int f, .int x, .int y, .int z] : List Value).toArray = args at *
  refine z_start (fun R Q hRf hRl hQ => ?_)
  have hRf : R.frames = 5 := hRf
  have hRl : R.locals = 114 := hRl
  have h9 := h
  refine lv_aload_n hx hb dX10_tell_0 rfl (lv_at hl 0 rfl) ?_
  refine zt_getk (t := 10) (C := RX10) (T := TX10) (N := 14) Z h hth zin_10 rfl 2 kpn ⟨by decide, rfl, by decide⟩ (zm_RX10 (List.mem_of_getElem? (i := 21) rfl)) (fun _ h9 => h9) dX10_tell_1 ?_
  refine lv_iload_n hx hb dX10_tell_4 rfl (lv_at hl 1 rfl) ?_
  refine zk_Vi (As := [.int f]) (rest := []) (bytes := cX6_hasFunction) (maxL := 2) (ret := (some .boolean)) Z h (ze_X6_hasFunction l D k Γ L F s.heap.size pn f fc hpn kfc bfc) (cwV 1 hg zv_RX10_98 rfl rfl rfl zd_X6_hasFunction ⟨z_leR hRf (by decide), z_leR hRl (by decide)⟩) hpn (by decide) rfl rfl hl.1 rfl (Nat.le_of_ble_eq_true rfl) dX10_tell_5 ⟨Nat.zero_le _, Nat.zero_le _⟩ (fun r_1 F_2 H locs w_3 h hfF_2 => ?_)
  obtain ⟨rfl, br_1, q_4, q_5, -⟩ := w_3
  refine lv_if_ne (tgt := 17) hx hb dX10_tell_8 (by decide) (fun c_6 => ?_) (fun c_6 => ?_)
  · have q_7 := q_4 c_6
    have c_6 := z_ne c_6
    have br_1_8 : zB 1 1 r_1 := zB.neLo c_6 br_1 (zBc 0 0 (by decide)) (by decide)
    refine lv_aload_n hx hb dX10_tell_17 rfl (lv_at hl 0 rfl) ?_
    refine zt_getk (t := 10) (C := RX10) (T := TX10) (N := 14) Z h hth zin_10 rfl 10 kto ⟨by decide, rfl, by decide⟩ (zm_RX10 (List.mem_of_getElem? (i := 80) rfl)) (fun _ h9 => h9) dX10_tell_18 ?_
    refine zk_Vi (As := []) (rest := []) (bytes := cX9_isFull) (maxL := 1) (ret := (some .boolean)) Z h (ze_X9_isFull l D k Γ L F H.size to sz_ hto ksz_ bsz_) (cwV 0 hg zv_RX10_235 rfl rfl rfl zd_X9_isFull ⟨z_leR hRf (by decide), z_leR hRl (by decide)⟩) hto (by decide) rfl rfl hl.1 rfl (Nat.le_of_ble_eq_true rfl) dX10_tell_21 ⟨Nat.zero_le _, Nat.zero_le _⟩ (fun r_9 F_10 H locs w_11 h hfF_10 => ?_)
    obtain ⟨rfl, br_9, q_12, q_13, -⟩ := w_11
    refine lv_if_eq (tgt := 33) hx hb dX10_tell_24 (by decide) (fun c_14 => ?_) (fun c_14 => ?_)
    · have q_15 := q_13 c_14
      have c_14 := z_eq c_14
      have br_9_16 : zB 0 0 r_9 := zB.eqL (a := 0) (b := 0) c_14 (zBc 0 0 (by decide))
      refine lv_aload_n hx hb dX10_tell_33 rfl (lv_at hl 0 rfl) ?_
      refine zt_getr (t := 10) (C := RX10) (T := TX10) (N := 14) Z h hth zin_10 rfl 7 rfl ⟨by decide, rfl⟩ (zm_RX10 (List.mem_of_getElem? (i := 70) rfl)) (fun _ h9 => h9) dX10_tell_34 (fun a_17 ka_17 ha_17 => ?_)
      refine lv_aload_n hx hb dX10_tell_37 rfl (lv_at hl 0 rfl) ?_
      refine zt_getk (t := 10) (C := RX10) (T := TX10) (N := 14) Z h hth zin_10 rfl 2 kpn ⟨by decide, rfl, by decide⟩ (zm_RX10 (List.mem_of_getElem? (i := 21) rfl)) (fun _ h9 => h9) dX10_tell_38 ?_
      refine lv_sipush (v := 2000) hx hb dX10_tell_41 (by decide) ?_
      refine lv_iconst (v := (-1)) hx hb dX10_tell_44 (by decide) ?_
      refine zk_Vv (As := [.ref pn, .int 2000, .int (-1)]) (rest := []) (bytes := cX5_start) (maxL := 4) (ret := none) Z h (zc_X5_start l D k Γ L F H.size a_17 pn 2000 (-1) ha_17 hpn) (cwV 3 hg zv_RX10_163 rfl rfl rfl zd_X5_start ⟨z_leR hRf (by decide), z_leR hRl (by decide)⟩) ha_17 (by decide) rfl rfl hl.1 rfl (Nat.le_of_ble_eq_true rfl) dX10_tell_45 ⟨Nat.zero_le _, Nat.zero_le _⟩ (fun F_18 H locs w_19 h hfF_18 => ?_)
      obtain ⟨⟨x_21, kx_21, bx_21⟩, ⟨x_23, kx_23, bx_23⟩, ⟨x_25, kx_25, bx_25⟩, kq_26, -⟩ := w_19
      refine lv_aload_n hx hb dX10_tell_48 rfl (lv_at hl 0 rfl) ?_
      refine zt_getk (t := 10) (C := RX10) (T := TX10) (N := 14) Z h hth zin_10 rfl 7 (hfF_18.f hth 7 ⟨by decide, by decide⟩ ka_17) ⟨by decide, rfl, by decide⟩ (zm_RX10 (List.mem_of_getElem? (i := 70) rfl)) (fun _ h9 => h9) dX10_tell_49 ?_
      refine lv_iload_n hx hb dX10_tell_52 rfl (lv_at hl 1 rfl) ?_
      refine lv_iload_n hx hb dX10_tell_53 rfl (lv_at hl 2 rfl) ?_
      refine lv_iload_n hx hb dX10_tell_54 rfl (lv_at hl 3 rfl) ?_
      refine lv_iload hx hb dX10_tell_55 (lv_at hl 4 rfl) ?_
      refine zk_Vv (As := [.int f, .int x, .int y, .int z]) (rest := []) (bytes := cX5_finish) (maxL := 8) (ret := none) Z h (zc_X5_finish l D k Γ L F_18 H.size a_17 f x y z pn x_21 x_23 x_25 ha_17 kq_26 hpn kx_21 bx_21 kx_23 bx_23 kx_25 bx_25) (cwV 4 hg zv_RX10_167 rfl rfl rfl zd_X5_finish ⟨z_leR hRf (by decide), z_leR hRl (by decide)⟩) ha_17 (by decide) rfl rfl hl.1 rfl (Nat.le_of_ble_eq_true rfl) dX10_tell_57 ⟨Nat.zero_le _, Nat.zero_le _⟩ (fun F_27 H locs w_28 h hfF_27 => ?_)
      refine lv_aload_n hx hb dX10_tell_60 rfl (lv_at hl 0 rfl) ?_
      refine lv_aload_n hx hb dX10_tell_61 rfl (lv_at hl 0 rfl) ?_
      refine zt_getk (t := 10) (C := RX10) (T := TX10) (N := 14) Z h hth zin_10 rfl 10 (hfF_27.f hth 10 ⟨by decide, by decide⟩ (hfF_18.f hth 10 ⟨by decide, by decide⟩ kto)) ⟨by decide, rfl, by decide⟩ (zm_RX10 (List.mem_of_getElem? (i := 80) rfl)) (fun _ h9 => h9) dX10_tell_62 ?_
      refine lv_aload_n hx hb dX10_tell_65 rfl (lv_at hl 0 rfl) ?_
      refine zt_getk (t := 10) (C := RX10) (T := TX10) (N := 14) Z h hth zin_10 rfl 7 (hfF_27.f hth 7 ⟨by decide, by decide⟩ (hfF_18.f hth 7 ⟨by decide, by decide⟩ ka_17)) ⟨by decide, rfl, by decide⟩ (zm_RX10 (List.mem_of_getElem? (i := 70) rfl)) (fun _ h9 => h9) dX10_tell_66 ?_
      refine zt_getl (t := 5) (C := RX5) (T := TX5) (N := 19) Z h ha_17 zin_5 rfl 6 rfl ⟨by decide, rfl⟩ (zm_RX10 (List.mem_of_getElem? (i := 56) rfl)) (fun _ h9 => h9) dX10_tell_69 (fun g_29 kg_29 => ?_)
      refine zk_Vi (As := [.long g_29]) (rest := [.ref th]) (bytes := cX9_add) (maxL := 3) (ret := (some .int)) Z h (ze_X9_add l D k Γ L F_27 H.size to g_29 sz_ hto (hfF_27.f hto 4 ⟨by decide, by decide⟩ (hfF_18.f hto 4 ⟨by decide, by decide⟩ ksz_)) (zB.of ⟨by have := (zB.all f).1; have := (zB.all f).2; have := (zB.all x).1; have := (zB.all x).2; have := (zB.all y).1; have := (zB.all y).2; have := (zB.all z).1; have := (zB.all z).2; have := bsz_.1; have := bsz_.2; have := bfc.1; have := bfc.2; have : (0 : Int32).toInt = 0 := (by decide); omega, by have := (zB.all f).1; have := (zB.all f).2; have := (zB.all x).1; have := (zB.all x).2; have := (zB.all y).1; have := (zB.all y).2; have := (zB.all z).1; have := (zB.all z).2; have := bsz_.1; have := bsz_.2; have := bfc.1; have := bfc.2; have : (0 : Int32).toInt = 0 := (by decide); omega⟩)) (cwV 1 hg zv_RX10_239 rfl rfl rfl zd_X9_add ⟨z_leR hRf (by decide), z_leR hRl (by decide)⟩) hto (by decide) rfl rfl hl.1 rfl (Nat.le_of_ble_eq_true rfl) dX10_tell_72 ⟨Nat.zero_le _, Nat.zero_le _⟩ (fun r_30 F_31 H locs w_32 h hfF_31 => ?_)
      obtain ⟨⟨x_34, kx_34, bx_34, q_33⟩, -⟩ := w_32
      have br_30 := zB.all r_30
      refine zk_Vi (As := [.int r_30]) (rest := []) (bytes := cX10_accept) (maxL := 2) (ret := (some .int)) Z h (zc_X10_accept l D k Γ L F_31 H.size th r_30 hth) (cwV 1 hg zv_RX10_76 rfl rfl rfl zd_X10_accept ⟨z_leR hRf (by decide), z_leR hRl (by decide)⟩) hth (by decide) rfl rfl hl.1 rfl (Nat.le_of_ble_eq_true rfl) dX10_tell_75 ⟨Nat.zero_le _, Nat.zero_le _⟩ (fun r_35 F_36 H locs w_37 h hfF_36 => ?_)
      obtain ⟨q_38, -⟩ := w_37
      have br_35 := zB.all r_35
      subst hQ
      exact W.iret (v := r_35) hx hb hr (fun t ht hW => ⟨⟨r_35, F_36, rfl, ⟨⟨x_34, (hfF_36.f hto 4 ⟨by decide, by decide⟩ kx_34), bx_34, (by have := (zB.all f).1; have := (zB.all f).2; have := (zB.all x).1; have := (zB.all x).2; have := (zB.all y).1; have := (zB.all y).2; have := (zB.all z).1; have := (zB.all z).2; have := br_35.1; have := br_35.2; have := bx_34.1; have := bx_34.2; have := bfc.1; have := bfc.2; have := bsz_.1; have := bsz_.2; have : (0 : Int32).toInt = 0 := (by decide); omega)⟩, trivial⟩, by rw [ht]; exact h.1, h.2.1, ((((hfF_18.w (by decide)).trans hfF_27 (by decide)).trans hfF_31 (by decide)).trans hfF_36 (by decide))⟩, h.2.2.F ht⟩) h.2.2.2.2 dX10_tell_78
    · have q_39 := q_12 c_14
      have c_14 := z_ne c_14
      have br_9_40 : zB 1 1 r_9 := zB.neLo c_14 br_9 (zBc 0 0 (by decide)) (by decide)
      refine lv_aload_n hx hb dX10_tell_27 rfl (lv_at hl 0 rfl) ?_
      refine lv_iconst (v := 3) hx hb dX10_tell_28 (by decide) ?_
      refine zk_Vi (As := [.int 3]) (rest := []) (bytes := cX10_refuse) (maxL := 2) (ret := (some .int)) Z h (zc_X10_refuse l D k Γ L F H.size th 3 hth) (cwV 1 hg zv_RX10_68 rfl rfl rfl zd_X10_refuse ⟨z_leR hRf (by decide), z_leR hRl (by decide)⟩) hth (by decide) rfl rfl hl.1 rfl (Nat.le_of_ble_eq_true rfl) dX10_tell_29 ⟨Nat.zero_le _, Nat.zero_le _⟩ (fun r_41 F_42 H locs w_43 h hfF_42 => ?_)
      obtain ⟨br_41, -⟩ := w_43
      subst hQ
      exact W.iret (v := r_41) hx hb hr (fun t ht hW => ⟨⟨r_41, F_42, rfl, ⟨⟨sz_, (hfF_42.f hto 4 ⟨by decide, by decide⟩ ksz_), bsz_, (by have := (zB.all f).1; have := (zB.all f).2; have := (zB.all x).1; have := (zB.all x).2; have := (zB.all y).1; have := (zB.all y).2; have := (zB.all z).1; have := (zB.all z).2; have := br_41.1; have := br_41.2; have := bsz_.1; have := bsz_.2; have := bfc.1; have := bfc.2; have : (0 : Int32).toInt = 0 := (by decide); omega)⟩, trivial⟩, by rw [ht]; exact h.1, h.2.1, (hfF_42.w (by decide))⟩, h.2.2.F ht⟩) h.2.2.2.2 dX10_tell_32
  · have q_44 := q_5 c_6
    have c_6 := z_eq c_6
    have br_1_45 : zB 0 0 r_1 := zB.eqL (a := 0) (b := 0) c_6 (zBc 0 0 (by decide))
    refine lv_aload_n hx hb dX10_tell_11 rfl (lv_at hl 0 rfl) ?_
    refine lv_iconst (v := 1) hx hb dX10_tell_12 (by decide) ?_
    refine zk_Vi (As := [.int 1]) (rest := []) (bytes := cX10_refuse) (maxL := 2) (ret := (some .int)) Z h (zc_X10_refuse l D k Γ L F H.size th 1 hth) (cwV 1 hg zv_RX10_68 rfl rfl rfl zd_X10_refuse ⟨z_leR hRf (by decide), z_leR hRl (by decide)⟩) hth (by decide) rfl rfl hl.1 rfl (Nat.le_of_ble_eq_true rfl) dX10_tell_13 ⟨Nat.zero_le _, Nat.zero_le _⟩ (fun r_46 F_47 H locs w_48 h hfF_47 => ?_)
    obtain ⟨br_46, -⟩ := w_48
    subst hQ
    exact W.iret (v := r_46) hx hb hr (fun t ht hW => ⟨⟨r_46, F_47, rfl, ⟨⟨sz_, (hfF_47.f hto 4 ⟨by decide, by decide⟩ ksz_), bsz_, (by have := (zB.all f).1; have := (zB.all f).2; have := (zB.all x).1; have := (zB.all x).2; have := (zB.all y).1; have := (zB.all y).2; have := (zB.all z).1; have := (zB.all z).2; have := br_46.1; have := br_46.2; have := bsz_.1; have := bsz_.2; have := bfc.1; have := bfc.2; have : (0 : Int32).toInt = 0 := (by decide); omega)⟩, trivial⟩, by rw [ht]; exact h.1, h.2.1, (hfF_47.w (by decide))⟩, h.2.2.F ht⟩) h.2.2.2.2 dX10_tell_16

set_option maxHeartbeats 4000000 in
set_option maxRecDepth 100000 in
theorem zc_X10_shown (l : Launch) (D : va_G) (k : Nat → ClassId) (Γ : Nat → Option Nat) (L : List Nat) (F : Nat → va_E) (sz : Nat) (th : Nat) (hth : Γ th = some 10) : Met l yX10_shown zwX10_shown ({ frames := 3, cells := 0, slots := 0, locals := 66 }) (va_Pc [.ref th] (zP D k Γ L F sz)) (va_Qi (fun (r : Int32) (u : Nat → va_E) => F = u ∧ True) (zQ D k Γ L F []) (zA L sz)) 0 0 (zA L sz) := by
  refine Met.ofW (cc := cX10_shown) (maxL := 1) (ret := (some .int)) (by decide) rfl ?_
  intro p e s m args below meth c s₁ B hml hv
  obtain ⟨rfl, hsz, hP, hK, hLn, hE, hI⟩ := hv
  have hx := B.exec
  have hb := B.bytes
  have hr := B.returns
  have hg : ∀ w ∈ zG, w.before _ s = true := fun w h9 => atoms_spec (ws := zwX10_shown) B.pre w (List.mem_cons_of_mem _ h9)
  have hown : s.vm.findClass RX10 = some m.cls := findClass_of_methodNamed B.named
  have hlocks := B.notSynchronized
  subst hsz
  have Z : zC p m c cX10_shown 1 s _ zG RX10 D k L := ⟨⟨hx, hb, hml, hown, hg⟩, hK, hLn, hE⟩
  have h : zH D k Γ L s F s.heap [] := ⟨hP, hI, va_S.rf⟩
  have hl := lv_entry ([.ref th]) (n := 1) (Nat.le_of_ble_eq_true rfl)
  rw [lg_entry_eq]
  generalize (lg_sl ([.ref th]) ++ List.replicate (1 - (lg_sl ([.ref th])).length) Slot.unset).toArray = ls at hl ⊢
  have hl : lv_has ls 1 [(0, .ref th)] := hl
  clear hP hK hLn hE hI
  generalize hargs : ([.ref th] : List Value).toArray = args at *
  refine z_start (fun R Q hRf hRl hQ => ?_)
  have hRf : R.frames = 3 := hRf
  have hRl : R.locals = 66 := hRl
  refine lv_aload_n hx hb dX10_shown_0 rfl (lv_at hl 0 rfl) ?_
  refine zt_getr (t := 10) (C := RX10) (T := TX10) (N := 14) Z h hth zin_10 rfl 10 rfl ⟨by decide, rfl⟩ (zm_RX10 (List.mem_of_getElem? (i := 80) rfl)) (fun _ h9 => h9) dX10_shown_1 (fun a_1 ka_1 ha_1 => ?_)
  refine zk_Vl (As := []) (rest := []) (bytes := cX9_shownLines) (maxL := 1) (ret := (some .long)) Z h (zc_X9_shownLines l D k Γ L F s.heap.size a_1 ha_1) (cwV 0 hg zv_RX10_242 rfl rfl rfl zd_X9_shownLines ⟨z_leR hRf (by decide), z_leR hRl (by decide)⟩) ha_1 (by decide) rfl rfl hl.1 rfl (Nat.le_of_ble_eq_true rfl) dX10_shown_4 ⟨Nat.zero_le _, Nat.zero_le _⟩ (fun r_2 F_3 H locs w_4 h hfF_3 => ?_)
  obtain ⟨rfl, -⟩ := w_4
  refine zk_Si (As := [.long r_2]) (rest := []) (bytes := cJ13_bitCount_95d88) (maxL := 2) (ret := (some .int)) Z h (zc_J13_bitCount_95d88 l D k Γ L F H.size r_2) (va_cwS 1 hg zv_RX10_194 rfl rfl rfl zd_J13_bitCount_95d88 ⟨z_leR hRf (by decide), z_leR hRl (by decide)⟩) rfl hl.1 rfl (Nat.le_of_ble_eq_true rfl) dX10_shown_7 ⟨Nat.zero_le _, Nat.zero_le _⟩ (fun r_5 F_6 H locs w_7 h hfF_6 => ?_)
  obtain ⟨rfl, br_5, -⟩ := w_7
  subst hQ
  exact W.iret (v := r_5) hx hb hr (fun t ht hW => ⟨⟨r_5, F, rfl, ⟨rfl, trivial⟩, by rw [ht]; exact h.1, h.2.1, zFr.rf⟩, h.2.2.F ht⟩) h.2.2.2.2 dX10_shown_10

set_option maxHeartbeats 4000000 in
set_option maxRecDepth 100000 in
theorem zc_X10_fewest (l : Launch) (D : va_G) (k : Nat → ClassId) (Γ : Nat → Option Nat) (L : List Nat) (F : Nat → va_E) (sz : Nat) (th : Nat) (hth : Γ th = some 10) : Met l yX10_fewest zwX10_fewest ({ frames := 4, cells := 0, slots := 0, locals := 90 }) (va_Pc [.ref th] (zP D k Γ L F sz)) (va_Qi (fun (r : Int32) (u : Nat → va_E) => True) (zQ D k Γ L F [902, 903, 11600]) (zA L sz)) 0 0 (zA L sz) := by
  refine Met.ofW (cc := cX10_fewest) (maxL := 1) (ret := (some .int)) (by decide) rfl ?_
  intro p e s m args below meth c s₁ B hml hv
  obtain ⟨rfl, hsz, hP, hK, hLn, hE, hI⟩ := hv
  have hx := B.exec
  have hb := B.bytes
  have hr := B.returns
  have hg : ∀ w ∈ zG, w.before _ s = true := fun w h9 => atoms_spec (ws := zwX10_fewest) B.pre w (List.mem_cons_of_mem _ h9)
  have hown : s.vm.findClass RX10 = some m.cls := findClass_of_methodNamed B.named
  have hlocks := B.notSynchronized
  subst hsz
  have Z : zC p m c cX10_fewest 1 s _ zG RX10 D k L := ⟨⟨hx, hb, hml, hown, hg⟩, hK, hLn, hE⟩
  have h : zH D k Γ L s F s.heap [] := ⟨hP, hI, va_S.rf⟩
  have hl := lv_entry ([.ref th]) (n := 1) (Nat.le_of_ble_eq_true rfl)
  rw [lg_entry_eq]
  generalize (lg_sl ([.ref th]) ++ List.replicate (1 - (lg_sl ([.ref th])).length) Slot.unset).toArray = ls at hl ⊢
  have hl : lv_has ls 1 [(0, .ref th)] := hl
  clear hP hK hLn hE hI
  generalize hargs : ([.ref th] : List Value).toArray = args at *
  refine z_start (fun R Q hRf hRl hQ => ?_)
  have hRf : R.frames = 4 := hRf
  have hRl : R.locals = 90 := hRl
  refine lv_aload_n hx hb dX10_fewest_0 rfl (lv_at hl 0 rfl) ?_
  refine zt_getr (t := 10) (C := RX10) (T := TX10) (N := 14) Z h hth zin_10 rfl 10 rfl ⟨by decide, rfl⟩ (zm_RX10 (List.mem_of_getElem? (i := 80) rfl)) (fun _ h9 => h9) dX10_fewest_1 (fun a_1 ka_1 ha_1 => ?_)
  refine zk_Vi (As := []) (rest := []) (bytes := cX9_chooseFewest) (maxL := 1) (ret := (some .int)) Z h (zc_X9_chooseFewest l D k Γ L F s.heap.size a_1 ha_1) (cwV 0 hg zv_RX10_246 rfl rfl rfl zd_X9_chooseFewest ⟨z_leR hRf (by decide), z_leR hRl (by decide)⟩) ha_1 (by decide) rfl rfl hl.1 rfl (Nat.le_of_ble_eq_true rfl) dX10_fewest_4 ⟨Nat.zero_le _, Nat.zero_le _⟩ (fun r_2 F_3 H locs w_4 h hfF_3 => ?_)
  obtain ⟨br_2, -⟩ := w_4
  subst hQ
  exact W.iret (v := r_2) hx hb hr (fun t ht hW => ⟨⟨r_2, F_3, rfl, trivial, by rw [ht]; exact h.1, h.2.1, hfF_3⟩, h.2.2.F ht⟩) h.2.2.2.2 dX10_fewest_7

set_option maxHeartbeats 4000000 in
set_option maxRecDepth 100000 in
theorem zc_X10_picked (l : Launch) (D : va_G) (k : Nat → ClassId) (Γ : Nat → Option Nat) (L : List Nat) (F : Nat → va_E) (sz : Nat) (th : Nat) (i : Int32) (hth : Γ th = some 10) : Met l yX10_picked zwX10_picked ({ frames := 1, cells := 0, slots := 0, locals := 21 }) (va_Pc [.ref th, .int i] (zP D k Γ L F sz)) (va_Qi (fun (r : Int32) (u : Nat → va_E) => F = u ∧ True) (zQ D k Γ L F []) (zA L sz)) 0 0 (zA L sz) := by
  refine Met.ofW (cc := cX10_picked) (maxL := 2) (ret := (some .int)) (by decide) rfl ?_
  intro p e s m args below meth c s₁ B hml hv
  obtain ⟨rfl, hsz, hP, hK, hLn, hE, hI⟩ := hv
  have hx := B.exec
  have hb := B.bytes
  have hr := B.returns
  have hg : ∀ w ∈ zG, w.before _ s = true := fun w h9 => atoms_spec (ws := zwX10_picked) B.pre w (List.mem_cons_of_mem _ h9)
  have hown : s.vm.findClass RX10 = some m.cls := findClass_of_methodNamed B.named
  have hlocks := B.notSynchronized
  subst hsz
  have Z : zC p m c cX10_picked 2 s _ zG RX10 D k L := ⟨⟨hx, hb, hml, hown, hg⟩, hK, hLn, hE⟩
  have h : zH D k Γ L s F s.heap [] := ⟨hP, hI, va_S.rf⟩
  have hl := lv_entry ([.ref th, .int i]) (n := 2) (Nat.le_of_ble_eq_true rfl)
  rw [lg_entry_eq]
  generalize (lg_sl ([.ref th, .int i]) ++ List.replicate (2 - (lg_sl ([.ref th, .int i])).length) Slot.unset).toArray = ls at hl ⊢
  have hl : lv_has ls 2 [(0, .ref th), (1, .int i)] := hl
  clear hP hK hLn hE hI
  generalize hargs : ([.ref th, .int i] : List Value).toArray = args at *
  refine z_start (fun R Q hRf hRl hQ => ?_)
  have hRf : R.frames = 1 := hRf
  have hRl : R.locals = 21 := hRl
  refine lv_aload_n hx hb dX10_picked_0 rfl (lv_at hl 0 rfl) ?_
  refine zt_getr (t := 10) (C := RX10) (T := TX10) (N := 14) Z h hth zin_10 rfl 10 rfl ⟨by decide, rfl⟩ (zm_RX10 (List.mem_of_getElem? (i := 80) rfl)) (fun _ h9 => h9) dX10_picked_1 (fun a_1 ka_1 ha_1 => ?_)
  refine lv_iload_n hx hb dX10_picked_4 rfl (lv_at hl 1 rfl) ?_
  refine zk_Vi (As := [.int i]) (rest := []) (bytes := cX9_chosenAt) (maxL := 2) (ret := (some .int)) Z h (zc_X9_chosenAt l D k Γ L F s.heap.size a_1 i ha_1) (cwV 1 hg zv_RX10_250 rfl rfl rfl zd_X9_chosenAt ⟨z_leR hRf (by decide), z_leR hRl (by decide)⟩) ha_1 (by decide) rfl rfl hl.1 rfl (Nat.le_of_ble_eq_true rfl) dX10_picked_5 ⟨Nat.zero_le _, Nat.zero_le _⟩ (fun r_2 F_3 H locs w_4 h hfF_3 => ?_)
  obtain ⟨rfl, -⟩ := w_4
  have br_2 := zB.all r_2
  subst hQ
  exact W.iret (v := r_2) hx hb hr (fun t ht hW => ⟨⟨r_2, F, rfl, ⟨rfl, trivial⟩, by rw [ht]; exact h.1, h.2.1, zFr.rf⟩, h.2.2.F ht⟩) h.2.2.2.2 dX10_picked_8

set_option maxHeartbeats 4000000 in
set_option maxRecDepth 100000 in
theorem zc_X10_anew (l : Launch) (D : va_G) (k : Nat → ClassId) (Γ : Nat → Option Nat) (L : List Nat) (F : Nat → va_E) (sz : Nat) (th : Nat) (f : Int32) (pn : Nat) (hth : Γ th = some 10) (kpn : zfld F th 2 = .ref pn) (hpn : Γ pn = some 6) : Met l yX10_anew zwX10_anew ({ frames := 1, cells := 0, slots := 0, locals := 21 }) (va_Pc [.ref th, .int f] (zP D k Γ L F sz)) (va_Qi (fun (r : Int32) (u : Nat → va_E) => F = u ∧ True) (zQ D k Γ L F []) (zA L sz)) 0 0 (zA L sz) := by
  refine Met.ofW (cc := cX10_anew) (maxL := 2) (ret := (some .int)) (by decide) rfl ?_
  intro p e s m args below meth c s₁ B hml hv
  obtain ⟨rfl, hsz, hP, hK, hLn, hE, hI⟩ := hv
  have hx := B.exec
  have hb := B.bytes
  have hr := B.returns
  have hg : ∀ w ∈ zG, w.before _ s = true := fun w h9 => atoms_spec (ws := zwX10_anew) B.pre w (List.mem_cons_of_mem _ h9)
  have hown : s.vm.findClass RX10 = some m.cls := findClass_of_methodNamed B.named
  have hlocks := B.notSynchronized
  subst hsz
  have Z : zC p m c cX10_anew 2 s _ zG RX10 D k L := ⟨⟨hx, hb, hml, hown, hg⟩, hK, hLn, hE⟩
  have h : zH D k Γ L s F s.heap [] := ⟨hP, hI, va_S.rf⟩
  have hl := lv_entry ([.ref th, .int f]) (n := 2) (Nat.le_of_ble_eq_true rfl)
  rw [lg_entry_eq]
  generalize (lg_sl ([.ref th, .int f]) ++ List.replicate (2 - (lg_sl ([.ref th, .int f])).length) Slot.unset).toArray = ls at hl ⊢
  have hl : lv_has ls 2 [(0, .ref th), (1, .int f)] := hl
  clear hP hK hLn hE hI
  generalize hargs : ([.ref th, .int f] : List Value).toArray = args at *
  refine z_start (fun R Q hRf hRl hQ => ?_)
  have hRf : R.frames = 1 := hRf
  have hRl : R.locals = 21 := hRl
  refine lv_aload_n hx hb dX10_anew_0 rfl (lv_at hl 0 rfl) ?_
  refine zt_getk (t := 10) (C := RX10) (T := TX10) (N := 14) Z h hth zin_10 rfl 2 kpn ⟨by decide, rfl, by decide⟩ (zm_RX10 (List.mem_of_getElem? (i := 21) rfl)) (fun _ h9 => h9) dX10_anew_1 ?_
  refine lv_iload_n hx hb dX10_anew_4 rfl (lv_at hl 1 rfl) ?_
  refine zk_Vi (As := [.int f]) (rest := []) (bytes := cX6_hasFunction) (maxL := 2) (ret := (some .boolean)) Z h (zc_X6_hasFunction l D k Γ L F s.heap.size pn f hpn) (cwV 1 hg zv_RX10_98 rfl rfl rfl zd_X6_hasFunction ⟨z_leR hRf (by decide), z_leR hRl (by decide)⟩) hpn (by decide) rfl rfl hl.1 rfl (Nat.le_of_ble_eq_true rfl) dX10_anew_5 ⟨Nat.zero_le _, Nat.zero_le _⟩ (fun r_1 F_2 H locs w_3 h hfF_2 => ?_)
  obtain ⟨rfl, br_1, q_4, q_5, -⟩ := w_3
  refine lv_if_ne (tgt := 13) hx hb dX10_anew_8 (by decide) (fun c_6 => ?_) (fun c_6 => ?_)
  · have bf_7 : zB 0 9 f := q_4 c_6
    obtain ⟨x_8, kx_8, bx_8, q_9⟩ := q_5 c_6
    have c_6 := z_ne c_6
    have br_1_10 : zB 1 1 r_1 := zB.neLo c_6 br_1 (zBc 0 0 (by decide)) (by decide)
    refine lv_aload_n hx hb dX10_anew_13 rfl (lv_at hl 0 rfl) ?_
    refine zt_getr (t := 10) (C := RX10) (T := TX10) (N := 14) Z h hth zin_10 rfl 11 rfl ⟨by decide, rfl⟩ (zm_RX10 (List.mem_of_getElem? (i := 90) rfl)) (fun _ h9 => h9) dX10_anew_14 (fun a_11 ka_11 ha_11 => ?_)
    refine lv_iload_n hx hb dX10_anew_17 rfl (lv_at hl 1 rfl) ?_
    refine zk_Vi (As := [.int f]) (rest := []) (bytes := cX3_stateOf) (maxL := 2) (ret := (some .int)) Z h (zc_X3_stateOf l D k Γ L F H.size a_11 f ha_11) (cwV 1 hg zv_RX10_253 rfl rfl rfl zd_X3_stateOf ⟨z_leR hRf (by decide), z_leR hRl (by decide)⟩) ha_11 (by decide) rfl rfl hl.1 rfl (Nat.le_of_ble_eq_true rfl) dX10_anew_18 ⟨Nat.zero_le _, Nat.zero_le _⟩ (fun r_12 F_13 H locs w_14 h hfF_13 => ?_)
    obtain ⟨rfl, -⟩ := w_14
    have br_12 := zB.all r_12
    subst hQ
    exact W.iret (v := r_12) hx hb hr (fun t ht hW => ⟨⟨r_12, F, rfl, ⟨rfl, trivial⟩, by rw [ht]; exact h.1, h.2.1, zFr.rf⟩, h.2.2.F ht⟩) h.2.2.2.2 dX10_anew_21
  · have c_6 := z_eq c_6
    have br_1_15 : zB 0 0 r_1 := zB.eqL (a := 0) (b := 0) c_6 (zBc 0 0 (by decide))
    refine lv_iconst (v := (-1)) hx hb dX10_anew_11 (by decide) ?_
    subst hQ
    exact W.iret (v := (-1)) hx hb hr (fun t ht hW => ⟨⟨(-1), F, rfl, ⟨rfl, trivial⟩, by rw [ht]; exact h.1, h.2.1, zFr.rf⟩, h.2.2.F ht⟩) h.2.2.2.2 dX10_anew_12

set_option maxHeartbeats 4000000 in
set_option maxRecDepth 100000 in
theorem zc_X10_gone (l : Launch) (D : va_G) (k : Nat → ClassId) (Γ : Nat → Option Nat) (L : List Nat) (F : Nat → va_E) (sz : Nat) (th : Nat) (gr : Nat) (hth : Γ th = some 10) (kgr : zfld F th 11 = .ref gr) (hgr : Γ gr = some 3) : Met l yX10_gone zwX10_gone ({ frames := 0, cells := 0, slots := 0, locals := 0 }) (va_Pc [.ref th] (zP D k Γ L F sz)) (va_Qi (fun (r : Int32) (u : Nat → va_E) => F = u ∧ zfld u gr 2 = .int r ∧ True) (zQ D k Γ L F []) (zA L sz)) 0 0 (zA L sz) := by
  refine Met.ofW (cc := cX10_gone) (maxL := 1) (ret := (some .int)) (by decide) rfl ?_
  intro p e s m args below meth c s₁ B hml hv
  obtain ⟨rfl, hsz, hP, hK, hLn, hE, hI⟩ := hv
  have hx := B.exec
  have hb := B.bytes
  have hr := B.returns
  have hg : ∀ w ∈ zG, w.before _ s = true := fun w h9 => atoms_spec (ws := zwX10_gone) B.pre w (List.mem_cons_of_mem _ h9)
  have hown : s.vm.findClass RX10 = some m.cls := findClass_of_methodNamed B.named
  have hlocks := B.notSynchronized
  subst hsz
  have Z : zC p m c cX10_gone 1 s _ zG RX10 D k L := ⟨⟨hx, hb, hml, hown, hg⟩, hK, hLn, hE⟩
  have h : zH D k Γ L s F s.heap [] := ⟨hP, hI, va_S.rf⟩
  have hl := lv_entry ([.ref th]) (n := 1) (Nat.le_of_ble_eq_true rfl)
  rw [lg_entry_eq]
  generalize (lg_sl ([.ref th]) ++ List.replicate (1 - (lg_sl ([.ref th])).length) Slot.unset).toArray = ls at hl ⊢
  have hl : lv_has ls 1 [(0, .ref th)] := hl
  clear hP hK hLn hE hI
  generalize hargs : ([.ref th] : List Value).toArray = args at *
  refine z_start (fun R Q hRf hRl hQ => ?_)
  have hRf : R.frames = 0 := hRf
  have hRl : R.locals = 0 := hRl
  have h9 := h
  refine lv_aload_n hx hb dX10_gone_0 rfl (lv_at hl 0 rfl) ?_
  refine zt_getk (t := 10) (C := RX10) (T := TX10) (N := 14) Z h hth zin_10 rfl 11 kgr ⟨by decide, rfl, by decide⟩ (zm_RX10 (List.mem_of_getElem? (i := 90) rfl)) (fun _ h9 => h9) dX10_gone_1 ?_
  refine zt_geti (t := 3) (C := RX3) (T := TX3) (N := 3) Z h hgr zin_3 rfl 2 rfl ⟨by decide, rfl⟩ (zm_RX10 (List.mem_of_getElem? (i := 93) rfl)) (fun _ h9 => h9) dX10_gone_4 (fun x_1 kx_1 bx_1 => ?_)
  subst hQ
  exact W.iret (v := x_1) hx hb hr (fun t ht hW => ⟨⟨x_1, F, rfl, ⟨rfl, kx_1, trivial⟩, by rw [ht]; exact h.1, h.2.1, zFr.rf⟩, h.2.2.F ht⟩) h.2.2.2.2 dX10_gone_7

set_option maxHeartbeats 4000000 in
set_option maxRecDepth 100000 in
theorem zc_X10_count (l : Launch) (D : va_G) (k : Nat → ClassId) (Γ : Nat → Option Nat) (L : List Nat) (F : Nat → va_E) (sz : Nat) (th : Nat) (wh : Int32) (pn : Nat) (to : Nat) (fc : Int32) (lc : Int32) (sz_ : Int32) (fe : Int32) (hth : Γ th = some 10) (kpn : zfld F th 2 = .ref pn) (hpn : Γ pn = some 6) (kto : zfld F th 10 = .ref to) (hto : Γ to = some 9) (kfc : zfld F pn 4 = .int fc) (bfc : zB 0 10 fc) (klc : zfld F pn 5 = .int lc) (blc : zB 0 60 lc) (ksz_ : zfld F to 4 = .int sz_) (bsz_ : zB 0 12 sz_) (kfe : zfld F th 1 = .int fe) (bfe : zB 0 600 fe) : Met l yX10_count zwX10_count ({ frames := 0, cells := 0, slots := 0, locals := 0 }) (va_Pc [.ref th, .int wh] (zP D k Γ L F sz)) (va_Qi (fun (r : Int32) (u : Nat → va_E) => F = u ∧ ((wh.toInt = 0 → r.toInt = fc.toInt) ∧ (wh.toInt = 1 → r.toInt = lc.toInt) ∧ (wh.toInt = 2 → r.toInt = sz_.toInt) ∧ (wh.toInt = 3 → r.toInt = fe.toInt) ∧ (wh.toInt < 0 ∨ 3 < wh.toInt → r.toInt = -1)) ∧ True) (zQ D k Γ L F []) (zA L sz)) 0 0 (zA L sz) := by
  refine Met.ofW (cc := cX10_count) (maxL := 2) (ret := (some .int)) (by decide) rfl ?_
  intro p e s m args below meth c s₁ B hml hv
  obtain ⟨rfl, hsz, hP, hK, hLn, hE, hI⟩ := hv
  have hx := B.exec
  have hb := B.bytes
  have hr := B.returns
  have hg : ∀ w ∈ zG, w.before _ s = true := fun w h9 => atoms_spec (ws := zwX10_count) B.pre w (List.mem_cons_of_mem _ h9)
  have hown : s.vm.findClass RX10 = some m.cls := findClass_of_methodNamed B.named
  have hlocks := B.notSynchronized
  subst hsz
  have Z : zC p m c cX10_count 2 s _ zG RX10 D k L := ⟨⟨hx, hb, hml, hown, hg⟩, hK, hLn, hE⟩
  have h : zH D k Γ L s F s.heap [] := ⟨hP, hI, va_S.rf⟩
  have hl := lv_entry ([.ref th, .int wh]) (n := 2) (Nat.le_of_ble_eq_true rfl)
  rw [lg_entry_eq]
  generalize (lg_sl ([.ref th, .int wh]) ++ List.replicate (2 - (lg_sl ([.ref th, .int wh])).length) Slot.unset).toArray = ls at hl ⊢
  have hl : lv_has ls 2 [(0, .ref th), (1, .int wh)] := hl
  clear hP hK hLn hE hI
  generalize hargs : ([.ref th, .int wh] : List Value).toArray = args at *
  refine z_start (fun R Q hRf hRl hQ => ?_)
  have hRf : R.frames = 0 := hRf
  have hRl : R.locals = 0 := hRl
  have h9 := h
  refine lv_iload_n hx hb dX10_count_0 rfl (lv_at hl 1 rfl) ?_
  by_cases c_1 : wh = 0
  · refine lv_tableIn (off := 31) (tgt := 32) hx hb dX10_count_1 (by rw [c_1]; decide) (by rw [c_1]; decide) (by rw [c_1]; rfl) (by decide) ?_
    have bwh_1 : zB 0 0 wh := by rw [c_1]; exact zBc _ _ (by decide)
    refine lv_aload_n hx hb dX10_count_32 rfl (lv_at hl 0 rfl) ?_
    refine zt_getk (t := 10) (C := RX10) (T := TX10) (N := 14) Z h hth zin_10 rfl 2 kpn ⟨by decide, rfl, by decide⟩ (zm_RX10 (List.mem_of_getElem? (i := 21) rfl)) (fun _ h9 => h9) dX10_count_33 ?_
    refine zt_getk (t := 6) (C := RX6) (T := TX6) (N := 6) Z h hpn zin_6 rfl 4 kfc ⟨by decide, rfl, by decide⟩ (zm_RX10 (List.mem_of_getElem? (i := 22) rfl)) (fun _ h9 => h9) dX10_count_36 ?_
    subst hQ
    exact W.iret (v := fc) hx hb hr (fun t ht hW => ⟨⟨fc, F, rfl, ⟨rfl, (by have := bwh_1.1; have := bwh_1.2; have := bfc.1; have := bfc.2; have := blc.1; have := blc.2; have := bsz_.1; have := bsz_.2; have := bfe.1; have := bfe.2; omega), trivial⟩, by rw [ht]; exact h.1, h.2.1, zFr.rf⟩, h.2.2.F ht⟩) h.2.2.2.2 dX10_count_39
  · by_cases c_3 : wh = 1
    · refine lv_tableIn (off := 39) (tgt := 40) hx hb dX10_count_1 (by rw [c_3]; decide) (by rw [c_3]; decide) (by rw [c_3]; rfl) (by decide) ?_
      have bwh_3 : zB 1 1 wh := by rw [c_3]; exact zBc _ _ (by decide)
      refine lv_aload_n hx hb dX10_count_40 rfl (lv_at hl 0 rfl) ?_
      refine zt_getk (t := 10) (C := RX10) (T := TX10) (N := 14) Z h hth zin_10 rfl 2 kpn ⟨by decide, rfl, by decide⟩ (zm_RX10 (List.mem_of_getElem? (i := 21) rfl)) (fun _ h9 => h9) dX10_count_41 ?_
      refine zt_getk (t := 6) (C := RX6) (T := TX6) (N := 6) Z h hpn zin_6 rfl 5 klc ⟨by decide, rfl, by decide⟩ (zm_RX10 (List.mem_of_getElem? (i := 95) rfl)) (fun _ h9 => h9) dX10_count_44 ?_
      subst hQ
      exact W.iret (v := lc) hx hb hr (fun t ht hW => ⟨⟨lc, F, rfl, ⟨rfl, (by have := bwh_3.1; have := bwh_3.2; have := blc.1; have := blc.2; have := bfc.1; have := bfc.2; have := bsz_.1; have := bsz_.2; have := bfe.1; have := bfe.2; omega), trivial⟩, by rw [ht]; exact h.1, h.2.1, zFr.rf⟩, h.2.2.F ht⟩) h.2.2.2.2 dX10_count_47
    · by_cases c_5 : wh = 2
      · refine lv_tableIn (off := 47) (tgt := 48) hx hb dX10_count_1 (by rw [c_5]; decide) (by rw [c_5]; decide) (by rw [c_5]; rfl) (by decide) ?_
        have bwh_5 : zB 2 2 wh := by rw [c_5]; exact zBc _ _ (by decide)
        refine lv_aload_n hx hb dX10_count_48 rfl (lv_at hl 0 rfl) ?_
        refine zt_getk (t := 10) (C := RX10) (T := TX10) (N := 14) Z h hth zin_10 rfl 10 kto ⟨by decide, rfl, by decide⟩ (zm_RX10 (List.mem_of_getElem? (i := 80) rfl)) (fun _ h9 => h9) dX10_count_49 ?_
        refine zt_getk (t := 9) (C := RX9) (T := TX9) (N := 5) Z h hto zin_9 rfl 4 ksz_ ⟨by decide, rfl, by decide⟩ (zm_RX10 (List.mem_of_getElem? (i := 96) rfl)) (fun _ h9 => h9) dX10_count_52 ?_
        subst hQ
        exact W.iret (v := sz_) hx hb hr (fun t ht hW => ⟨⟨sz_, F, rfl, ⟨rfl, (by have := bwh_5.1; have := bwh_5.2; have := bsz_.1; have := bsz_.2; have := bfc.1; have := bfc.2; have := blc.1; have := blc.2; have := bfe.1; have := bfe.2; omega), trivial⟩, by rw [ht]; exact h.1, h.2.1, zFr.rf⟩, h.2.2.F ht⟩) h.2.2.2.2 dX10_count_55
      · by_cases c_7 : wh = 3
        · refine lv_tableIn (off := 55) (tgt := 56) hx hb dX10_count_1 (by rw [c_7]; decide) (by rw [c_7]; decide) (by rw [c_7]; rfl) (by decide) ?_
          have bwh_7 : zB 3 3 wh := by rw [c_7]; exact zBc _ _ (by decide)
          refine lv_aload_n hx hb dX10_count_56 rfl (lv_at hl 0 rfl) ?_
          refine zt_getk (t := 10) (C := RX10) (T := TX10) (N := 14) Z h hth zin_10 rfl 1 kfe ⟨by decide, rfl, by decide⟩ (zm_RX10 (List.mem_of_getElem? (i := 2) rfl)) (fun _ h9 => h9) dX10_count_57 ?_
          subst hQ
          exact W.iret (v := fe) hx hb hr (fun t ht hW => ⟨⟨fe, F, rfl, ⟨rfl, (by have := bwh_7.1; have := bwh_7.2; have := bfe.1; have := bfe.2; have := bfc.1; have := bfc.2; have := blc.1; have := blc.2; have := bsz_.1; have := bsz_.2; omega), trivial⟩, by rw [ht]; exact h.1, h.2.1, zFr.rf⟩, h.2.2.F ht⟩) h.2.2.2.2 dX10_count_60
        · have nc_1 : wh.toInt ≠ 0 := z_nev c_1 (by decide)
          have nc_3 : wh.toInt ≠ 1 := z_nev c_3 (by decide)
          have nc_5 : wh.toInt ≠ 2 := z_nev c_5 (by decide)
          have nc_7 : wh.toInt ≠ 3 := z_nev c_7 (by decide)
          refine lv_tableOut (tgt := 61) hx hb dX10_count_1 (by have := (zB.all wh).1; have := (zB.all wh).2; omega) (by decide) ?_
          refine lv_iconst (v := (-1)) hx hb dX10_count_61 (by decide) ?_
          subst hQ
          exact W.iret (v := (-1)) hx hb hr (fun t ht hW => ⟨⟨(-1), F, rfl, ⟨rfl, (by have := (zB.all wh).1; have := (zB.all wh).2; have := bfc.1; have := bfc.2; have := blc.1; have := blc.2; have := bsz_.1; have := bsz_.2; have := bfe.1; have := bfe.2; have : ((-1) : Int32).toInt = (-1) := (by decide); omega), trivial⟩, by rw [ht]; exact h.1, h.2.1, zFr.rf⟩, h.2.2.F ht⟩) h.2.2.2.2 dX10_count_62

set_option maxHeartbeats 4000000 in
set_option maxRecDepth 100000 in
theorem zc_X10_trouble (l : Launch) (D : va_G) (k : Nat → ClassId) (Γ : Nat → Option Nat) (L : List Nat) (F : Nat → va_E) (sz : Nat) (th : Nat) (hth : Γ th = some 10) : Met l yX10_trouble zwX10_trouble ({ frames := 0, cells := 0, slots := 0, locals := 0 }) (va_Pc [.ref th] (zP D k Γ L F sz)) (va_Qi (fun (r : Int32) (u : Nat → va_E) => F = u ∧ True) (zQ D k Γ L F []) (zA L sz)) 0 0 (zA L sz) := by
  refine Met.ofW (cc := cX10_trouble) (maxL := 1) (ret := (some .int)) (by decide) rfl ?_
  intro p e s m args below meth c s₁ B hml hv
  obtain ⟨rfl, hsz, hP, hK, hLn, hE, hI⟩ := hv
  have hx := B.exec
  have hb := B.bytes
  have hr := B.returns
  have hg : ∀ w ∈ zG, w.before _ s = true := fun w h9 => atoms_spec (ws := zwX10_trouble) B.pre w (List.mem_cons_of_mem _ h9)
  have hown : s.vm.findClass RX10 = some m.cls := findClass_of_methodNamed B.named
  have hlocks := B.notSynchronized
  subst hsz
  have Z : zC p m c cX10_trouble 1 s _ zG RX10 D k L := ⟨⟨hx, hb, hml, hown, hg⟩, hK, hLn, hE⟩
  have h : zH D k Γ L s F s.heap [] := ⟨hP, hI, va_S.rf⟩
  have hl := lv_entry ([.ref th]) (n := 1) (Nat.le_of_ble_eq_true rfl)
  rw [lg_entry_eq]
  generalize (lg_sl ([.ref th]) ++ List.replicate (1 - (lg_sl ([.ref th])).length) Slot.unset).toArray = ls at hl ⊢
  have hl : lv_has ls 1 [(0, .ref th)] := hl
  clear hP hK hLn hE hI
  generalize hargs : ([.ref th] : List Value).toArray = args at *
  refine z_start (fun R Q hRf hRl hQ => ?_)
  have hRf : R.frames = 0 := hRf
  have hRl : R.locals = 0 := hRl
  refine lv_aload_n hx hb dX10_trouble_0 rfl (lv_at hl 0 rfl) ?_
  refine zt_geti (t := 10) (C := RX10) (T := TX10) (N := 14) Z h hth zin_10 rfl 13 rfl ⟨by decide, rfl⟩ (zm_RX10 (List.mem_of_getElem? (i := 25) rfl)) (fun _ h9 => h9) dX10_trouble_1 (fun x_1 kx_1 bx_1 => ?_)
  subst hQ
  exact W.iret (v := x_1) hx hb hr (fun t ht hW => ⟨⟨x_1, F, rfl, ⟨rfl, trivial⟩, by rw [ht]; exact h.1, h.2.1, zFr.rf⟩, h.2.2.F ht⟩) h.2.2.2.2 dX10_trouble_4

set_option maxHeartbeats 4000000 in
set_option maxRecDepth 100000 in
theorem zc_X10_name (l : Launch) (hst : l.stackTraces = false) (D : va_G) (k : Nat → ClassId) (Γ : Nat → Option Nat) (L : List Nat) (F : Nat → va_E) (sz : Nat) (th : Nat) (f : Int32) (i : Int32) (pn : Nat) (fc : Int32) (tk : Nat) (Bt : Nat → Int32) (nt : Nat) (Nt : Nat) (fa : Nat → Nat) (nw : Nat → Int) (hth : Γ th = some 10) (kpn : zfld F th 2 = .ref pn) (hpn : Γ pn = some 6) (kfc : zfld F pn 4 = .int fc) (bfc : zB 0 10 fc) (hr0 : zPS Γ F pn fa ∧ (0 < fc.toInt → zNp Γ F pn tk fa Bt nt Nt fc.toInt nw)) : vx_Met l yX10_name zwX10_name ({ frames := 8, cells := 1, slots := 6, locals := 200 }) (va_Pc [.ref th, .int f, .int i] (zP D k Γ L F sz)) (va_Qi (fun (r : Int32) (u : Nat → va_E) => F = u ∧ ((0 ≤ f.toInt ∧ f.toInt < fc.toInt) ∧ (0 ≤ i.toInt ∧ i.toInt < zsz (nw f.toInt.toNat)) ∧ r.toInt = zdg (nw f.toInt.toNat) i.toInt) ∧ True) (zQ D k Γ L F []) (zA L sz)) (vx_X (fun _ : Unit => True) (fun E _ t => E = "java/util/NoSuchElementException" ∧ va_P D z_Cl (va_pl L F) t.heap ∧ (f.toInt < 0 ∨ fc.toInt ≤ f.toInt ∨ i.toInt < 0 ∨ zsz (nw f.toInt.toNat) ≤ i.toInt)) (zA L sz)) 1 6 (zA L sz) := by
  refine vx_ofW (cc := cX10_name) (maxL := 4) (ret := (some .int)) (by decide) rfl ?_
  intro p e s m args below meth c s₁ B hml ht9 hv
  obtain ⟨rfl, hsz, hP, hK, hLn, hE, hI⟩ := hv
  have hx := B.exec
  have hb := B.bytes
  have hr := B.returns
  have hg : ∀ w ∈ zG, w.before _ s = true := fun w h9 => atoms_spec (ws := zwX10_name) B.pre w (List.mem_cons_of_mem _ h9)
  have hown : s.vm.findClass RX10 = some m.cls := findClass_of_methodNamed B.named
  have hlocks := B.notSynchronized
  subst hsz
  have Z : zC p m c cX10_name 4 s _ zG RX10 D k L := ⟨⟨hx, hb, hml, hown, hg⟩, hK, hLn, hE⟩
  have h : zH D k Γ L s F s.heap [] := ⟨hP, hI, va_S.rf⟩
  have hl := lv_entry ([.ref th, .int f, .int i]) (n := 4) (Nat.le_of_ble_eq_true rfl)
  rw [lg_entry_eq]
  generalize (lg_sl ([.ref th, .int f, .int i]) ++ List.replicate (4 - (lg_sl ([.ref th, .int f, .int i])).length) Slot.unset).toArray = ls at hl ⊢
  have hl : lv_has ls 4 [(0, .ref th), (1, .int f), (2, .int i)] := hl
  clear hP hK hLn hE hI
  generalize hargs : ([.ref th, .int f, .int i] : List Value).toArray = args at *
  refine z_start2 (fun R Q hRf hRl hRc hRs hQ => ?_)
  have hRc : R.cells = 1 := hRc
  have hRs : R.slots = 6 := hRs
  have hRf : R.frames = 8 := hRf
  have hRl : R.locals = 200 := hRl
  have h9 := h
  refine lv_aload_n hx hb dX10_name_0 rfl (lv_at hl 0 rfl) ?_
  refine zt_getk (t := 10) (C := RX10) (T := TX10) (N := 14) Z h hth zin_10 rfl 2 kpn ⟨by decide, rfl, by decide⟩ (zm_RX10 (List.mem_of_getElem? (i := 21) rfl)) (fun _ h9 => h9) dX10_name_1 ?_
  refine lv_iload_n hx hb dX10_name_4 rfl (lv_at hl 1 rfl) ?_
  refine zk_Vi (As := [.int f]) (rest := []) (bytes := cX6_hasFunction) (maxL := 2) (ret := (some .boolean)) Z h (ze_X6_hasFunction l D k Γ L F s.heap.size pn f fc hpn kfc bfc) (cwV 1 hg zv_RX10_98 rfl rfl rfl zd_X6_hasFunction ⟨z_leR hRf (by decide), z_leR hRl (by decide)⟩) hpn (by decide) rfl rfl hl.1 rfl (Nat.le_of_ble_eq_true rfl) dX10_name_5 ⟨Nat.zero_le _, Nat.zero_le _⟩ (fun r_1 F_2 H locs w_3 h hfF_2 => ?_)
  obtain ⟨rfl, br_1, q_4, q_5, -⟩ := w_3
  refine lv_if_ne (tgt := 21) hx hb dX10_name_8 (by decide) (fun c_6 => ?_) (fun c_6 => ?_)
  · have q_7 := q_4 c_6
    have c_6 := z_ne c_6
    have br_1_8 : zB 1 1 r_1 := zB.neLo c_6 br_1 (zBc 0 0 (by decide)) (by decide)
    obtain ⟨ktk_, htk, p_tb, hps_, hna_⟩ := hr0.2 (by have := (zB.all f).1; have := (zB.all f).2; have := (zB.all i).1; have := (zB.all i).2; have := bfc.1; have := bfc.2; have : (0 : Int32).toInt = 0 := (by decide); omega)
    refine lv_aload_n hx hb dX10_name_21 rfl (lv_at hl 0 rfl) ?_
    refine zt_getk (t := 10) (C := RX10) (T := TX10) (N := 14) Z h hth zin_10 rfl 2 kpn ⟨by decide, rfl, by decide⟩ (zm_RX10 (List.mem_of_getElem? (i := 21) rfl)) (fun _ h9 => h9) dX10_name_22 ?_
    refine zt_getk (t := 6) (C := RX6) (T := TX6) (N := 6) Z h hpn zin_6 rfl 0 ktk_ ⟨by decide, rfl, by decide⟩ (zm_RX10 (List.mem_of_getElem? (i := 35) rfl)) (fun _ h9 => h9) dX10_name_25 ?_
    refine lv_aload_n hx hb dX10_name_28 rfl (lv_at hl 0 rfl) ?_
    refine zt_getk (t := 10) (C := RX10) (T := TX10) (N := 14) Z h hth zin_10 rfl 2 kpn ⟨by decide, rfl, by decide⟩ (zm_RX10 (List.mem_of_getElem? (i := 21) rfl)) (fun _ h9 => h9) dX10_name_29 ?_
    refine zt_getr (t := 6) (C := RX6) (T := TX6) (N := 6) Z h hpn zin_6 rfl 2 rfl ⟨by decide, rfl⟩ (zm_RX10 (List.mem_of_getElem? (i := 29) rfl)) (fun _ h9 => h9) dX10_name_32 (fun a_9 ka_9 ha_9 => ?_)
    refine lv_iload_n hx hb dX10_name_35 rfl (lv_at hl 1 rfl) ?_
    have bf_10 : zB 0 9 f := ⟨by have := (zB.all f).1; have := (zB.all f).2; have := (zB.all i).1; have := (zB.all i).2; have := bfc.1; have := bfc.2; have : (0 : Int32).toInt = 0 := (by decide); omega, by have := (zB.all f).1; have := (zB.all f).2; have := (zB.all i).1; have := (zB.all i).2; have := bfc.1; have := bfc.2; have : (0 : Int32).toInt = 0 := (by decide); omega⟩
    refine zt_aalde (t := 104) (t1 := 2) Z h ha_9 ⟨by decide, rfl⟩ (by decide) bf_10 ⟨by decide, by decide⟩ dX10_name_36 (fun a_11 ea_11 ha_11 => ?_)
    have hb_ := zPS.at hps_ ka_9 ea_11 ⟨by have := bf_10.1; have := bf_10.2; have := (zB.all i).1; have := (zB.all i).2; have := bfc.1; have := bfc.2; have : (0 : Int32).toInt = 0 := (by decide); omega, by have := bf_10.1; have := bf_10.2; have := (zB.all i).1; have := (zB.all i).2; have := bfc.1; have := bfc.2; have : (0 : Int32).toInt = 0 := (by decide); omega⟩
    obtain ⟨y_, ky_, hy_, hK_, hW_⟩ := hna_ f.toInt.toNat (by have := bf_10.1; have := bf_10.2; have := (zB.all i).1; have := (zB.all i).2; have := bfc.1; have := bfc.2; have : (0 : Int32).toInt = 0 := (by decide); omega)
    rw [← hb_] at ky_
    have by_ := zB.all y_
    refine zt_getk (t := 2) (C := RX2) (T := TX2) (N := 9) Z h ha_11 zin_2 rfl 0 ky_ ⟨by decide, rfl, by decide⟩ (zm_RX10 (List.mem_of_getElem? (i := 36) rfl)) (fun _ h9 => h9) dX10_name_37 ?_
    refine lv_iload_n hx hb dX10_name_40 rfl (lv_at hl 2 rfl) ?_
    refine zk_Vi (As := [.int y_, .int i]) (rest := []) (bytes := cX8_byteOf) (maxL := 3) (ret := (some .int)) Z h (ze_X8_byteOf2 l D k Γ L F H.size tk y_ i Bt nt Nt htk p_tb (by have := bf_10.1; have := bf_10.2; have := (zB.all i).1; have := (zB.all i).2; have := by_.1; have := by_.2; have := bfc.1; have := bfc.2; have : (0 : Int32).toInt = 0 := (by decide); omega)) (cwV 2 hg zv_RX10_134 rfl rfl rfl zd_X8_byteOf ⟨z_leR hRf (by decide), z_leR hRl (by decide)⟩) htk (by decide) rfl rfl hl.1 rfl (Nat.le_of_ble_eq_true rfl) dX10_name_41 ⟨Nat.zero_le _, Nat.zero_le _⟩ (fun r_12 F_13 H locs w_14 h hfF_13 => ?_)
    obtain ⟨rfl, br_12, q_15, -⟩ := w_14
    obtain ⟨hz1_, hz2_⟩ := zname_zs hK_
    rw [hW_] at hz1_ hz2_
    have hbo_ := q_15
    rw [hz1_] at hbo_
    refine lv_istore_n (lv' := [(3, .int r_12), (0, .ref th), (1, .int f), (2, .int i)]) hx hb dX10_name_44 rfl hl (by decide) rfl (fun ls hl => ?_)
    refine lv_iload_n hx hb dX10_name_45 rfl (lv_at hl 0 rfl) ?_
    refine lv_iconst (v := (-1)) hx hb dX10_name_46 (by decide) ?_
    refine lv_icmp_ne (tgt := 60) hx hb dX10_name_47 (by decide) (fun c_16 => ?_) (fun c_16 => ?_)
    · have c_16 := z_ne c_16
      refine lv_iload_n hx hb dX10_name_60 rfl (lv_at hl 0 rfl) ?_
      subst hQ
      refine vx_ret ?_
      refine W.widen (k := 1) (n := 6) (Nat.le_of_ble_eq_true rfl) (Nat.le_of_ble_eq_true rfl) ?_
      exact W.iret (v := r_12) hx hb hr (fun t ht hW => ⟨⟨r_12, F, rfl, ⟨rfl, ⟨⟨by have := br_12.1; have := br_12.2; have := bf_10.1; have := bf_10.2; have := (zB.all i).1; have := (zB.all i).2; have := bfc.1; have := bfc.2; have := by_.1; have := by_.2; have : ((-1) : Int32).toInt = (-1) := (by decide); have : (0 : Int32).toInt = 0 := (by decide); omega, by have := br_12.1; have := br_12.2; have := bf_10.1; have := bf_10.2; have := (zB.all i).1; have := (zB.all i).2; have := bfc.1; have := bfc.2; have := by_.1; have := by_.2; have : ((-1) : Int32).toInt = (-1) := (by decide); have : (0 : Int32).toInt = 0 := (by decide); omega⟩, (by rcases Classical.em (0 ≤ i.toInt ∧ i.toInt < zsz (nw f.toInt.toNat)) with c9 | c9; exact c9; exfalso; have h7 := hbo_.2 (by omega); have := br_12.1; have := br_12.2; have := bf_10.1; have := bf_10.2; have := (zB.all i).1; have := (zB.all i).2; have := bfc.1; have := bfc.2; have := by_.1; have := by_.2; have : ((-1) : Int32).toInt = (-1) := (by decide); have : (0 : Int32).toInt = 0 := (by decide); omega), (by rcases Classical.em (0 ≤ i.toInt ∧ i.toInt < zsz (nw f.toInt.toNat)) with c9 | c9; exact (hbo_.1 c9).trans (hz2_ i.toInt c9.1 c9.2).1; exfalso; have h7 := hbo_.2 (by omega); have := br_12.1; have := br_12.2; have := bf_10.1; have := bf_10.2; have := (zB.all i).1; have := (zB.all i).2; have := bfc.1; have := bfc.2; have := by_.1; have := by_.2; have : ((-1) : Int32).toInt = (-1) := (by decide); have : (0 : Int32).toInt = 0 := (by decide); omega)⟩, trivial⟩, by rw [ht]; exact h.1, h.2.1, zFr.rf⟩, h.2.2.F ht⟩) h.2.2.2.2 dX10_name_61
    · have c_16 := z_eq c_16
      have br_12_17 : zB (-1) (-1) r_12 := zB.eqL (a := 0) (b := 0) c_16 (zBc (-1) (-1) (by decide))
      obtain ⟨sa_18, hsa_18⟩ := Z.2.2.2.2.2.2.2.2.2
      subst hQ
      exact z_throwS (text := "no such byte of the name") hx hb hst hown (hg _ (zm_thr (List.mem_of_getElem? (i := 0) rfl))) (hg _ (zm_thr (List.mem_of_getElem? (i := 1) rfl))) hsa_18 (vx_hat (fun w9 h9 => hg w9 (zm_thr (List.mem_cons_of_mem _ (List.mem_cons_of_mem _ h9)))) z_B_in (Z.2.2.2.1.B)) (by decide +kernel) Z.2.2.2.2.2.1.1 Z.2.2.2.2.2.1.2 h.2.2 (hl.1.trans hml.symm) dX10_name_50 dX10_name_53 dX10_name_54 dX10_name_56 dX10_name_59 (fun x hx => (ht9 x hx).elim) (by omega) (z_leR hRl (Nat.le_of_ble_eq_true rfl)) (z_leR hRc (by decide)) (z_leR hRs (by decide)) hlocks (fun t _ h1 h2 => ⟨(), trivial, ⟨rfl, zP_kept h h2, (by rcases Classical.em (0 ≤ i.toInt ∧ i.toInt < zsz (nw f.toInt.toNat)) with c9 | c9; (exfalso; have h7 := hbo_.1 c9; have h8 := (hz2_ i.toInt c9.1 c9.2).2; have := br_12_17.1; have := br_12_17.2; have := bf_10.1; have := bf_10.2; have := (zB.all i).1; have := (zB.all i).2; have := bfc.1; have := bfc.2; have := by_.1; have := by_.2; have : ((-1) : Int32).toInt = (-1) := (by decide); have : (0 : Int32).toInt = 0 := (by decide); omega); have := br_12_17.1; have := br_12_17.2; have := bf_10.1; have := bf_10.2; have := (zB.all i).1; have := (zB.all i).2; have := bfc.1; have := bfc.2; have := by_.1; have := by_.2; have : ((-1) : Int32).toInt = (-1) := (by decide); have : (0 : Int32).toInt = 0 := (by decide); omega)⟩, ⟨Nat.le_trans h.2.2.1 h1, fun q hq hn => (h2 q (Nat.lt_of_lt_of_le hq h.2.2.1)).trans (h.2.2.2.1 q hq hn)⟩⟩) h.2.2.2.2 (Nat.le_of_ble_eq_true rfl) (Nat.le_of_ble_eq_true rfl)
  · have q_19 := q_5 c_6
    have c_6 := z_eq c_6
    have br_1_20 : zB 0 0 r_1 := zB.eqL (a := 0) (b := 0) c_6 (zBc 0 0 (by decide))
    obtain ⟨sa_21, hsa_21⟩ := Z.2.2.2.1.2.2.2.2.1
    subst hQ
    exact z_throwS (text := "no such function") hx hb hst hown (hg _ (zm_thr (List.mem_of_getElem? (i := 0) rfl))) (hg _ (zm_thr (List.mem_of_getElem? (i := 1) rfl))) hsa_21 (vx_hat (fun w9 h9 => hg w9 (zm_thr (List.mem_cons_of_mem _ (List.mem_cons_of_mem _ h9)))) z_B_in (Z.2.2.2.1.B)) (by decide +kernel) Z.2.2.2.2.2.1.1 Z.2.2.2.2.2.1.2 h.2.2 (hl.1.trans hml.symm) dX10_name_11 dX10_name_14 dX10_name_15 dX10_name_17 dX10_name_20 (fun x hx => (ht9 x hx).elim) (by omega) (z_leR hRl (Nat.le_of_ble_eq_true rfl)) (z_leR hRc (by decide)) (z_leR hRs (by decide)) hlocks (fun t _ h1 h2 => ⟨(), trivial, ⟨rfl, zP_kept h h2, (by have := (zB.all f).1; have := (zB.all f).2; have := (zB.all i).1; have := (zB.all i).2; have := bfc.1; have := bfc.2; have : (0 : Int32).toInt = 0 := (by decide); omega)⟩, ⟨Nat.le_trans h.2.2.1 h1, fun q hq hn => (h2 q (Nat.lt_of_lt_of_le hq h.2.2.1)).trans (h.2.2.2.1 q hq hn)⟩⟩) h.2.2.2.2 (Nat.le_of_ble_eq_true rfl) (Nat.le_of_ble_eq_true rfl)

set_option maxHeartbeats 4000000 in
set_option maxRecDepth 100000 in
theorem zc_X10_said (l : Launch) (hst : l.stackTraces = false) (D : va_G) (k : Nat → ClassId) (Γ : Nat → Option Nat) (L : List Nat) (F : Nat → va_E) (sz : Nat) (th : Nat) (i : Int32) (hth : Γ th = some 10) : vx_Met l yX10_said zwX10_said ({ frames := 8, cells := 1, slots := 6, locals := 200 }) (va_Pc [.ref th, .int i] (zP D k Γ L F sz)) (va_Qi (fun (r : Int32) (u : Nat → va_E) => F = u ∧ True) (zQ D k Γ L F []) (zA L sz)) (vx_X (fun _ : Unit => True) (fun E _ t => E = "java/util/NoSuchElementException" ∧ va_P D z_Cl (va_pl L F) t.heap) (zA L sz)) 1 6 (zA L sz) := by
  refine vx_ofW (cc := cX10_said) (maxL := 2) (ret := (some .int)) (by decide) rfl ?_
  intro p e s m args below meth c s₁ B hml ht9 hv
  obtain ⟨rfl, hsz, hP, hK, hLn, hE, hI⟩ := hv
  have hx := B.exec
  have hb := B.bytes
  have hr := B.returns
  have hg : ∀ w ∈ zG, w.before _ s = true := fun w h9 => atoms_spec (ws := zwX10_said) B.pre w (List.mem_cons_of_mem _ h9)
  have hown : s.vm.findClass RX10 = some m.cls := findClass_of_methodNamed B.named
  have hlocks := B.notSynchronized
  subst hsz
  have Z : zC p m c cX10_said 2 s _ zG RX10 D k L := ⟨⟨hx, hb, hml, hown, hg⟩, hK, hLn, hE⟩
  have h : zH D k Γ L s F s.heap [] := ⟨hP, hI, va_S.rf⟩
  have hl := lv_entry ([.ref th, .int i]) (n := 2) (Nat.le_of_ble_eq_true rfl)
  rw [lg_entry_eq]
  generalize (lg_sl ([.ref th, .int i]) ++ List.replicate (2 - (lg_sl ([.ref th, .int i])).length) Slot.unset).toArray = ls at hl ⊢
  have hl : lv_has ls 2 [(0, .ref th), (1, .int i)] := hl
  clear hP hK hLn hE hI
  generalize hargs : ([.ref th, .int i] : List Value).toArray = args at *
  refine z_start2 (fun R Q hRf hRl hRc hRs hQ => ?_)
  have hRc : R.cells = 1 := hRc
  have hRs : R.slots = 6 := hRs
  have hRf : R.frames = 8 := hRf
  have hRl : R.locals = 200 := hRl
  refine lv_aload_n hx hb dX10_said_0 rfl (lv_at hl 0 rfl) ?_
  refine zt_geti (t := 10) (C := RX10) (T := TX10) (N := 14) Z h hth zin_10 rfl 8 rfl ⟨by decide, rfl⟩ (zm_RX10 (List.mem_of_getElem? (i := 49) rfl)) (fun _ h9 => h9) dX10_said_1 (fun x_1 kx_1 bx_1 => ?_)
  refine lv_if_eq (tgt := 18) hx hb dX10_said_4 (by decide) (fun c_2 => ?_) (fun c_2 => ?_)
  · have c_2 := z_eq c_2
    have bx_1_3 : zB 0 0 x_1 := zB.eqL (a := 0) (b := 0) c_2 (zBc 0 0 (by decide))
    obtain ⟨sa_4, hsa_4⟩ := Z.2.2.2.1.2.2.2.2.2.1
    subst hQ
    exact z_throwS (text := "nothing such was said") hx hb hst hown (hg _ (zm_thr (List.mem_of_getElem? (i := 0) rfl))) (hg _ (zm_thr (List.mem_of_getElem? (i := 1) rfl))) hsa_4 (vx_hat (fun w9 h9 => hg w9 (zm_thr (List.mem_cons_of_mem _ (List.mem_cons_of_mem _ h9)))) z_B_in (Z.2.2.2.1.B)) (by decide +kernel) Z.2.2.2.2.2.1.1 Z.2.2.2.2.2.1.2 h.2.2 (hl.1.trans hml.symm) dX10_said_18 dX10_said_21 dX10_said_22 dX10_said_24 dX10_said_27 (fun x hx => (ht9 x hx).elim) (by omega) (z_leR hRl (Nat.le_of_ble_eq_true rfl)) (z_leR hRc (by decide)) (z_leR hRs (by decide)) hlocks (fun t _ h1 h2 => ⟨(), trivial, ⟨rfl, zP_kept h h2⟩, ⟨Nat.le_trans h.2.2.1 h1, fun q hq hn => (h2 q (Nat.lt_of_lt_of_le hq h.2.2.1)).trans (h.2.2.2.1 q hq hn)⟩⟩) h.2.2.2.2 (Nat.le_of_ble_eq_true rfl) (Nat.le_of_ble_eq_true rfl)
  · have c_2 := z_ne c_2
    have bx_1_5 : zB 1 1 x_1 := zB.neLo c_2 bx_1 (zBc 0 0 (by decide)) (by decide)
    refine lv_aload_n hx hb dX10_said_7 rfl (lv_at hl 0 rfl) ?_
    refine zt_getr (t := 10) (C := RX10) (T := TX10) (N := 14) Z h hth zin_10 rfl 5 rfl ⟨by decide, rfl⟩ (zm_RX10 (List.mem_of_getElem? (i := 46) rfl)) (fun _ h9 => h9) dX10_said_8 (fun a_6 ka_6 ha_6 => ?_)
    refine lv_iload_n hx hb dX10_said_11 rfl (lv_at hl 1 rfl) ?_
    refine zk_Vi (As := [.int i]) (rest := []) (bytes := cX5_keepsSaid) (maxL := 2) (ret := (some .boolean)) Z h (zc_X5_keepsSaid l D k Γ L F s.heap.size a_6 i ha_6) (cwV 1 hg zv_RX10_203 rfl rfl rfl zd_X5_keepsSaid ⟨z_leR hRf (by decide), z_leR hRl (by decide)⟩) ha_6 (by decide) rfl rfl hl.1 rfl (Nat.le_of_ble_eq_true rfl) dX10_said_12 ⟨Nat.zero_le _, Nat.zero_le _⟩ (fun r_7 F_8 H locs w_9 h hfF_8 => ?_)
    obtain ⟨rfl, br_7, q_10, -⟩ := w_9
    refine lv_if_ne (tgt := 28) hx hb dX10_said_15 (by decide) (fun c_11 => ?_) (fun c_11 => ?_)
    · have bi_12 : zB 0 59 i := q_10 c_11
      have c_11 := z_ne c_11
      have br_7_13 : zB 1 1 r_7 := zB.neLo c_11 br_7 (zBc 0 0 (by decide)) (by decide)
      refine lv_aload_n hx hb dX10_said_28 rfl (lv_at hl 0 rfl) ?_
      refine zt_getk (t := 10) (C := RX10) (T := TX10) (N := 14) Z h hth zin_10 rfl 5 ka_6 ⟨by decide, rfl, by decide⟩ (zm_RX10 (List.mem_of_getElem? (i := 46) rfl)) (fun _ h9 => h9) dX10_said_29 ?_
      refine lv_iload_n hx hb dX10_said_32 rfl (lv_at hl 1 rfl) ?_
      refine zk_Vi (As := [.int i]) (rest := []) (bytes := cX5_saidAt) (maxL := 2) (ret := (some .int)) Z h (zc_X5_saidAt l D k Γ L F H.size a_6 i ha_6) (cwV 1 hg zv_RX10_208 rfl rfl rfl zd_X5_saidAt ⟨z_leR hRf (by decide), z_leR hRl (by decide)⟩) ha_6 (by decide) rfl rfl hl.1 rfl (Nat.le_of_ble_eq_true rfl) dX10_said_33 ⟨Nat.zero_le _, Nat.zero_le _⟩ (fun r_14 F_15 H locs w_16 h hfF_15 => ?_)
      obtain ⟨rfl, -⟩ := w_16
      have br_14 := zB.all r_14
      subst hQ
      refine vx_ret ?_
      refine W.widen (k := 1) (n := 6) (Nat.le_of_ble_eq_true rfl) (Nat.le_of_ble_eq_true rfl) ?_
      exact W.iret (v := r_14) hx hb hr (fun t ht hW => ⟨⟨r_14, F, rfl, ⟨rfl, trivial⟩, by rw [ht]; exact h.1, h.2.1, zFr.rf⟩, h.2.2.F ht⟩) h.2.2.2.2 dX10_said_36
    · have c_11 := z_eq c_11
      have br_7_17 : zB 0 0 r_7 := zB.eqL (a := 0) (b := 0) c_11 (zBc 0 0 (by decide))
      obtain ⟨sa_18, hsa_18⟩ := Z.2.2.2.1.2.2.2.2.2.1
      subst hQ
      exact z_throwS (text := "nothing such was said") hx hb hst hown (hg _ (zm_thr (List.mem_of_getElem? (i := 0) rfl))) (hg _ (zm_thr (List.mem_of_getElem? (i := 1) rfl))) hsa_18 (vx_hat (fun w9 h9 => hg w9 (zm_thr (List.mem_cons_of_mem _ (List.mem_cons_of_mem _ h9)))) z_B_in (Z.2.2.2.1.B)) (by decide +kernel) Z.2.2.2.2.2.1.1 Z.2.2.2.2.2.1.2 h.2.2 (hl.1.trans hml.symm) dX10_said_18 dX10_said_21 dX10_said_22 dX10_said_24 dX10_said_27 (fun x hx => (ht9 x hx).elim) (by omega) (z_leR hRl (Nat.le_of_ble_eq_true rfl)) (z_leR hRc (by decide)) (z_leR hRs (by decide)) hlocks (fun t _ h1 h2 => ⟨(), trivial, ⟨rfl, zP_kept h h2⟩, ⟨Nat.le_trans h.2.2.1 h1, fun q hq hn => (h2 q (Nat.lt_of_lt_of_le hq h.2.2.1)).trans (h.2.2.2.1 q hq hn)⟩⟩) h.2.2.2.2 (Nat.le_of_ble_eq_true rfl) (Nat.le_of_ble_eq_true rfl)

set_option maxHeartbeats 4000000 in
set_option maxRecDepth 100000 in
theorem zc_X10_trace (l : Launch) (hst : l.stackTraces = false) (D : va_G) (k : Nat → ClassId) (Γ : Nat → Option Nat) (L : List Nat) (F : Nat → va_E) (sz : Nat) (th : Nat) (i : Int32) (wh : Int32) (hth : Γ th = some 10) : vx_Met l yX10_trace zwX10_trace ({ frames := 8, cells := 1, slots := 6, locals := 200 }) (va_Pc [.ref th, .int i, .int wh] (zP D k Γ L F sz)) (va_Qi (fun (r : Int32) (u : Nat → va_E) => F = u ∧ True) (zQ D k Γ L F []) (zA L sz)) (vx_X (fun _ : Unit => True) (fun E _ t => E = "java/util/NoSuchElementException" ∧ va_P D z_Cl (va_pl L F) t.heap) (zA L sz)) 1 6 (zA L sz) := by
  refine vx_ofW (cc := cX10_trace) (maxL := 3) (ret := (some .int)) (by decide) rfl ?_
  intro p e s m args below meth c s₁ B hml ht9 hv
  obtain ⟨rfl, hsz, hP, hK, hLn, hE, hI⟩ := hv
  have hx := B.exec
  have hb := B.bytes
  have hr := B.returns
  have hg : ∀ w ∈ zG, w.before _ s = true := fun w h9 => atoms_spec (ws := zwX10_trace) B.pre w (List.mem_cons_of_mem _ h9)
  have hown : s.vm.findClass RX10 = some m.cls := findClass_of_methodNamed B.named
  have hlocks := B.notSynchronized
  subst hsz
  have Z : zC p m c cX10_trace 3 s _ zG RX10 D k L := ⟨⟨hx, hb, hml, hown, hg⟩, hK, hLn, hE⟩
  have h : zH D k Γ L s F s.heap [] := ⟨hP, hI, va_S.rf⟩
  have hl := lv_entry ([.ref th, .int i, .int wh]) (n := 3) (Nat.le_of_ble_eq_true rfl)
  rw [lg_entry_eq]
  generalize (lg_sl ([.ref th, .int i, .int wh]) ++ List.replicate (3 - (lg_sl ([.ref th, .int i, .int wh])).length) Slot.unset).toArray = ls at hl ⊢
  have hl : lv_has ls 3 [(0, .ref th), (1, .int i), (2, .int wh)] := hl
  clear hP hK hLn hE hI
  generalize hargs : ([.ref th, .int i, .int wh] : List Value).toArray = args at *
  refine z_start2 (fun R Q hRf hRl hRc hRs hQ => ?_)
  have hRc : R.cells = 1 := hRc
  have hRs : R.slots = 6 := hRs
  have hRf : R.frames = 8 := hRf
  have hRl : R.locals = 200 := hRl
  refine lv_aload_n hx hb dX10_trace_0 rfl (lv_at hl 0 rfl) ?_
  refine zt_geti (t := 10) (C := RX10) (T := TX10) (N := 14) Z h hth zin_10 rfl 8 rfl ⟨by decide, rfl⟩ (zm_RX10 (List.mem_of_getElem? (i := 49) rfl)) (fun _ h9 => h9) dX10_trace_1 (fun x_1 kx_1 bx_1 => ?_)
  refine lv_if_eq (tgt := 19) hx hb dX10_trace_4 (by decide) (fun c_2 => ?_) (fun c_2 => ?_)
  · have c_2 := z_eq c_2
    have bx_1_3 : zB 0 0 x_1 := zB.eqL (a := 0) (b := 0) c_2 (zBc 0 0 (by decide))
    obtain ⟨sa_4, hsa_4⟩ := Z.2.2.2.1.2.2.2.2.2.2.1
    subst hQ
    exact z_throwS (text := "nothing such was traced") hx hb hst hown (hg _ (zm_thr (List.mem_of_getElem? (i := 0) rfl))) (hg _ (zm_thr (List.mem_of_getElem? (i := 1) rfl))) hsa_4 (vx_hat (fun w9 h9 => hg w9 (zm_thr (List.mem_cons_of_mem _ (List.mem_cons_of_mem _ h9)))) z_B_in (Z.2.2.2.1.B)) (by decide +kernel) Z.2.2.2.2.2.1.1 Z.2.2.2.2.2.1.2 h.2.2 (hl.1.trans hml.symm) dX10_trace_19 dX10_trace_22 dX10_trace_23 dX10_trace_25 dX10_trace_28 (fun x hx => (ht9 x hx).elim) (by omega) (z_leR hRl (Nat.le_of_ble_eq_true rfl)) (z_leR hRc (by decide)) (z_leR hRs (by decide)) hlocks (fun t _ h1 h2 => ⟨(), trivial, ⟨rfl, zP_kept h h2⟩, ⟨Nat.le_trans h.2.2.1 h1, fun q hq hn => (h2 q (Nat.lt_of_lt_of_le hq h.2.2.1)).trans (h.2.2.2.1 q hq hn)⟩⟩) h.2.2.2.2 (Nat.le_of_ble_eq_true rfl) (Nat.le_of_ble_eq_true rfl)
  · have c_2 := z_ne c_2
    have bx_1_5 : zB 1 1 x_1 := zB.neLo c_2 bx_1 (zBc 0 0 (by decide)) (by decide)
    refine lv_aload_n hx hb dX10_trace_7 rfl (lv_at hl 0 rfl) ?_
    refine zt_getr (t := 10) (C := RX10) (T := TX10) (N := 14) Z h hth zin_10 rfl 5 rfl ⟨by decide, rfl⟩ (zm_RX10 (List.mem_of_getElem? (i := 46) rfl)) (fun _ h9 => h9) dX10_trace_8 (fun a_6 ka_6 ha_6 => ?_)
    refine lv_iload_n hx hb dX10_trace_11 rfl (lv_at hl 1 rfl) ?_
    refine lv_iload_n hx hb dX10_trace_12 rfl (lv_at hl 2 rfl) ?_
    refine zk_Vi (As := [.int i, .int wh]) (rest := []) (bytes := cX5_keepsTrace) (maxL := 3) (ret := (some .boolean)) Z h (zc_X5_keepsTrace l D k Γ L F s.heap.size a_6 i wh ha_6) (cwV 2 hg zv_RX10_211 rfl rfl rfl zd_X5_keepsTrace ⟨z_leR hRf (by decide), z_leR hRl (by decide)⟩) ha_6 (by decide) rfl rfl hl.1 rfl (Nat.le_of_ble_eq_true rfl) dX10_trace_13 ⟨Nat.zero_le _, Nat.zero_le _⟩ (fun r_7 F_8 H locs w_9 h hfF_8 => ?_)
    obtain ⟨rfl, br_7, q_10, q_11, -⟩ := w_9
    refine lv_if_ne (tgt := 29) hx hb dX10_trace_16 (by decide) (fun c_12 => ?_) (fun c_12 => ?_)
    · have bi_13 : zB 0 399 i := q_10 c_12
      have bwh_14 : zB 0 3 wh := q_11 c_12
      have c_12 := z_ne c_12
      have br_7_15 : zB 1 1 r_7 := zB.neLo c_12 br_7 (zBc 0 0 (by decide)) (by decide)
      refine lv_aload_n hx hb dX10_trace_29 rfl (lv_at hl 0 rfl) ?_
      refine zt_getk (t := 10) (C := RX10) (T := TX10) (N := 14) Z h hth zin_10 rfl 5 ka_6 ⟨by decide, rfl, by decide⟩ (zm_RX10 (List.mem_of_getElem? (i := 46) rfl)) (fun _ h9 => h9) dX10_trace_30 ?_
      refine lv_iload_n hx hb dX10_trace_33 rfl (lv_at hl 1 rfl) ?_
      refine lv_iload_n hx hb dX10_trace_34 rfl (lv_at hl 2 rfl) ?_
      refine zk_Vi (As := [.int i, .int wh]) (rest := []) (bytes := cX5_traceAt) (maxL := 3) (ret := (some .int)) Z h (zc_X5_traceAt l D k Γ L F H.size a_6 i wh ha_6) (cwV 2 hg zv_RX10_217 rfl rfl rfl zd_X5_traceAt ⟨z_leR hRf (by decide), z_leR hRl (by decide)⟩) ha_6 (by decide) rfl rfl hl.1 rfl (Nat.le_of_ble_eq_true rfl) dX10_trace_35 ⟨Nat.zero_le _, Nat.zero_le _⟩ (fun r_16 F_17 H locs w_18 h hfF_17 => ?_)
      obtain ⟨rfl, -⟩ := w_18
      have br_16 := zB.all r_16
      subst hQ
      refine vx_ret ?_
      refine W.widen (k := 1) (n := 6) (Nat.le_of_ble_eq_true rfl) (Nat.le_of_ble_eq_true rfl) ?_
      exact W.iret (v := r_16) hx hb hr (fun t ht hW => ⟨⟨r_16, F, rfl, ⟨rfl, trivial⟩, by rw [ht]; exact h.1, h.2.1, zFr.rf⟩, h.2.2.F ht⟩) h.2.2.2.2 dX10_trace_38
    · have c_12 := z_eq c_12
      have br_7_19 : zB 0 0 r_7 := zB.eqL (a := 0) (b := 0) c_12 (zBc 0 0 (by decide))
      obtain ⟨sa_20, hsa_20⟩ := Z.2.2.2.1.2.2.2.2.2.2.1
      subst hQ
      exact z_throwS (text := "nothing such was traced") hx hb hst hown (hg _ (zm_thr (List.mem_of_getElem? (i := 0) rfl))) (hg _ (zm_thr (List.mem_of_getElem? (i := 1) rfl))) hsa_20 (vx_hat (fun w9 h9 => hg w9 (zm_thr (List.mem_cons_of_mem _ (List.mem_cons_of_mem _ h9)))) z_B_in (Z.2.2.2.1.B)) (by decide +kernel) Z.2.2.2.2.2.1.1 Z.2.2.2.2.2.1.2 h.2.2 (hl.1.trans hml.symm) dX10_trace_19 dX10_trace_22 dX10_trace_23 dX10_trace_25 dX10_trace_28 (fun x hx => (ht9 x hx).elim) (by omega) (z_leR hRl (Nat.le_of_ble_eq_true rfl)) (z_leR hRc (by decide)) (z_leR hRs (by decide)) hlocks (fun t _ h1 h2 => ⟨(), trivial, ⟨rfl, zP_kept h h2⟩, ⟨Nat.le_trans h.2.2.1 h1, fun q hq hn => (h2 q (Nat.lt_of_lt_of_le hq h.2.2.1)).trans (h.2.2.2.1 q hq hn)⟩⟩) h.2.2.2.2 (Nat.le_of_ble_eq_true rfl) (Nat.le_of_ble_eq_true rfl)
