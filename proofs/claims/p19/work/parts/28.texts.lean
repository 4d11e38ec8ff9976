set_option maxHeartbeats 4000000 in
set_option maxRecDepth 100000 in
theorem zc_X11_find (l : Launch) (D : va_G) (k : Nat → ClassId) (Γ : Nat → Option Nat) (L : List Nat) (F : Nat → va_E) (sz : Nat) (th : Nat) (wd : Int64) (nf : Int32) (hth : Γ th = some 11) (knf : zfld F th 0 = .int nf) (bnf : zB 0 10 nf) : Met l yX11_find zwX11_find ({ frames := 0, cells := 0, slots := 0, locals := 0 }) (va_Pc [.ref th, .long wd] (zP D k Γ L F sz)) (va_Qi (fun (r : Int32) (u : Nat → va_E) => F = u ∧ zB (-1) 9 r ∧ r.toInt < nf.toInt ∧ True) (zQ D k Γ L F []) (zA L sz)) 0 0 (zA L sz) := by
  refine Met.ofW (cc := cX11_find) (maxL := 4) (ret := (some .int)) (by decide) rfl ?_
  intro p e s m args below meth c s₁ B hml hv
  obtain ⟨rfl, hsz, hP, hK, hLn, hE, hI⟩ := hv
  have hx := B.exec
  have hb := B.bytes
  have hr := B.returns
  have hg : ∀ w ∈ zG, w.before _ s = true := fun w h9 => atoms_spec (ws := zwX11_find) B.pre w (List.mem_cons_of_mem _ h9)
  have hown : s.vm.findClass RX11 = some m.cls := findClass_of_methodNamed B.named
  have hlocks := B.notSynchronized
  subst hsz
  have Z : zC p m c cX11_find 4 s _ zG RX11 D k L := ⟨⟨hx, hb, hml, hown, hg⟩, hK, hLn, hE⟩
  have h : zH D k Γ L s F s.heap [] := ⟨hP, hI, va_S.rf⟩
  have hl := lv_entry ([.ref th, .long wd]) (n := 4) (Nat.le_of_ble_eq_true rfl)
  rw [lg_entry_eq]
  generalize (lg_sl ([.ref th, .long wd]) ++ List.replicate (4 - (lg_sl ([.ref th, .long wd])).length) Slot.unset).toArray = ls at hl ⊢
  have hl : lv_has ls 4 [(0, .ref th), (1, .long wd)] := hl
  clear hP hK hLn hE hI
  generalize hargs : ([.ref th, .long wd] : List Value).toArray = args at *
  refine z_start (fun R Q hRf hRl hQ => ?_)
  have hRf : R.frames = 0 := hRf
  have hRl : R.locals = 0 := hRl
  have h9 := h
  refine lv_iconst (v := 0) hx hb dX11_find_0 (by decide) ?_
  refine lv_istore_n (lv' := [(3, .int 0), (0, .ref th), (1, .long wd)]) hx hb dX11_find_1 rfl hl (by decide) rfl (fun ls hl => ?_)
  have j_j2_1 : ∀ (n : Nat) (ls : Array Slot) (y3_j2_1 : Int32), lv_has ls 4 [(3, .int y3_j2_1), (0, .ref th), (1, .long wd)] → zB 0 10 y3_j2_1 → (2147483647 - y3_j2_1.toInt).toNat = n → W p l e R s m args below meth c s.heap [] 0 0 Q (F0 m 2 ls []) := by
    intro n
    induction n using Nat.strongRecOn with
    | _ n ih_j2_1 =>
      intro ls y3_j2_1 hl by3_j2_1 hn_j2_1
      refine lv_iload_n hx hb dX11_find_2 rfl (lv_at hl 0 rfl) ?_
      refine lv_aload_n hx hb dX11_find_3 rfl (lv_at hl 1 rfl) ?_
      refine zt_getk (t := 11) (C := RX11) (T := TX11) (N := 30) Z h hth zin_11 rfl 0 knf ⟨by decide, rfl, by decide⟩ (zm_RX11 (List.mem_of_getElem? (i := 2) rfl)) (fun _ h9 => h9) dX11_find_4 ?_
      refine lv_icmp_ge (tgt := 27) hx hb dX11_find_7 (by decide) (fun c_2 => ?_) (fun c_2 => ?_)
      · have c_2 := z_le c_2
        refine lv_iload_n hx hb dX11_find_27 rfl (lv_at hl 0 rfl) ?_
        refine lv_aload_n hx hb dX11_find_28 rfl (lv_at hl 1 rfl) ?_
        refine zt_getk (t := 11) (C := RX11) (T := TX11) (N := 30) Z h hth zin_11 rfl 0 knf ⟨by decide, rfl, by decide⟩ (zm_RX11 (List.mem_of_getElem? (i := 2) rfl)) (fun _ h9 => h9) dX11_find_29 ?_
        refine lv_icmp_ge (tgt := 39) hx hb dX11_find_32 (by decide) (fun c_3 => ?_) (fun c_3 => ?_)
        · have c_3 := z_le c_3
          refine lv_iconst (v := (-1)) hx hb dX11_find_39 (by decide) ?_
          subst hQ
          exact W.iret (v := (-1)) hx hb hr (fun t ht hW => ⟨⟨(-1), F, rfl, ⟨rfl, (zB.of ⟨by decide, by decide⟩), (by have := by3_j2_1.1; have := by3_j2_1.2; have := bnf.1; have := bnf.2; have : ((-1) : Int32).toInt = (-1) := (by decide); omega), trivial⟩, by rw [ht]; exact h.1, h.2.1, zFr.rf⟩, h.2.2.F ht⟩) h.2.2.2.2 dX11_find_40
        · have c_3 := z_nle c_3
          have by3_j2_1_4 : zB 0 9 y3_j2_1 := zB.ltL c_3 by3_j2_1 bnf (by decide)
          have bnf_5 : zB 1 10 nf := zB.ltR c_3 by3_j2_1 bnf (by decide)
          refine lv_iload_n hx hb dX11_find_35 rfl (lv_at hl 0 rfl) ?_
          refine lv_goto (tgt := 40) hx hb dX11_find_36 (by decide) ?_
          subst hQ
          exact W.iret (v := y3_j2_1) hx hb hr (fun t ht hW => ⟨⟨y3_j2_1, F, rfl, ⟨rfl, (by3_j2_1_4.w ⟨by decide, by decide⟩), (by have := by3_j2_1_4.1; have := by3_j2_1_4.2; have := bnf_5.1; have := bnf_5.2; omega), trivial⟩, by rw [ht]; exact h.1, h.2.1, zFr.rf⟩, h.2.2.F ht⟩) h.2.2.2.2 dX11_find_40
      · have c_2 := z_nle c_2
        have by3_j2_1_6 : zB 0 9 y3_j2_1 := zB.ltL c_2 by3_j2_1 bnf (by decide)
        have bnf_7 : zB 1 10 nf := zB.ltR c_2 by3_j2_1 bnf (by decide)
        refine lv_aload_n hx hb dX11_find_10 rfl (lv_at hl 1 rfl) ?_
        refine zt_getr (t := 11) (C := RX11) (T := TX11) (N := 30) Z h hth zin_11 rfl 4 rfl ⟨by decide, rfl⟩ (zm_RX11 (List.mem_of_getElem? (i := 3) rfl)) (fun _ h9 => h9) dX11_find_11 (fun a_8 ka_8 ha_8 => ?_)
        refine lv_iload_n hx hb dX11_find_14 rfl (lv_at hl 0 rfl) ?_
        refine zt_lald (t := 124) Z h ha_8 ⟨by decide, rfl⟩ by3_j2_1_6 ⟨by decide, by decide⟩ dX11_find_15 (fun g_9 => ?_)
        refine lv_lload_n hx hb dX11_find_16 rfl (lv_at hl 2 rfl) ?_
        refine W.lcmp hx hb dX11_find_17 ?_
        refine zi_any (fun x_10 bx_10 ex_10 => ?_)
        refine lv_if_eq (tgt := 27) hx hb dX11_find_18 (by decide) (fun c_11 => ?_) (fun c_11 => ?_)
        · have c_11 := z_eq c_11
          have bx_10_12 : zB 0 0 x_10 := zB.eqL (a := 0) (b := 0) c_11 (zBc 0 0 (by decide))
          refine lv_iload_n hx hb dX11_find_27 rfl (lv_at hl 0 rfl) ?_
          refine lv_aload_n hx hb dX11_find_28 rfl (lv_at hl 1 rfl) ?_
          refine zt_getk (t := 11) (C := RX11) (T := TX11) (N := 30) Z h hth zin_11 rfl 0 knf ⟨by decide, rfl, by decide⟩ (zm_RX11 (List.mem_of_getElem? (i := 2) rfl)) (fun _ h9 => h9) dX11_find_29 ?_
          refine lv_icmp_ge (tgt := 39) hx hb dX11_find_32 (by decide) (fun c_13 => ?_) (fun c_13 => ?_)
          · have c_13 := z_le c_13
            have bnf_14 : zB 1 9 nf := zB.leL c_13 bnf_7 by3_j2_1_6 (by decide)
            have by3_j2_1_15 : zB 1 9 y3_j2_1 := zB.leR c_13 bnf_7 by3_j2_1_6 (by decide)
            refine lv_iconst (v := (-1)) hx hb dX11_find_39 (by decide) ?_
            subst hQ
            exact W.iret (v := (-1)) hx hb hr (fun t ht hW => ⟨⟨(-1), F, rfl, ⟨rfl, (zB.of ⟨by decide, by decide⟩), (by have := by3_j2_1_15.1; have := by3_j2_1_15.2; have := bnf_14.1; have := bnf_14.2; have : ((-1) : Int32).toInt = (-1) := (by decide); have : (0 : Int32).toInt = 0 := (by decide); omega), trivial⟩, by rw [ht]; exact h.1, h.2.1, zFr.rf⟩, h.2.2.F ht⟩) h.2.2.2.2 dX11_find_40
          · have c_13 := z_nle c_13
            refine lv_iload_n hx hb dX11_find_35 rfl (lv_at hl 0 rfl) ?_
            refine lv_goto (tgt := 40) hx hb dX11_find_36 (by decide) ?_
            subst hQ
            exact W.iret (v := y3_j2_1) hx hb hr (fun t ht hW => ⟨⟨y3_j2_1, F, rfl, ⟨rfl, (by3_j2_1_6.w ⟨by decide, by decide⟩), (by have := by3_j2_1_6.1; have := by3_j2_1_6.2; have := bnf_7.1; have := bnf_7.2; have : (0 : Int32).toInt = 0 := (by decide); omega), trivial⟩, by rw [ht]; exact h.1, h.2.1, zFr.rf⟩, h.2.2.F ht⟩) h.2.2.2.2 dX11_find_40
        · have c_11 := z_ne c_11
          obtain ⟨x_16, ex_16, bx_16, tx_16⟩ := z_inc (n := 1) (lo := 1) (hi := 10) by3_j2_1_6 (by decide)
          refine lv_iinc (v := x_16) (lv' := [(3, .int x_16), (0, .ref th), (1, .long wd)]) hx hb dX11_find_21 hl (k := 0) rfl ex_16 (by decide) rfl (fun ls hl => ?_)
          refine lv_goto (tgt := 2) hx hb dX11_find_24 (by decide) ?_
          exact ih_j2_1 _ (by have := bx_16.1; have := bx_16.2; have := bnf_7.1; have := bnf_7.2; have : (0 : Int32).toInt = 0 := (by decide); have := by3_j2_1.1; have := by3_j2_1.2; omega) ls x_16 (lv_sub hl [0, 1, 2] rfl) (bx_16.w ⟨by decide, by decide⟩) rfl
  exact j_j2_1 _ ls 0 (lv_sub hl [0, 1, 2] rfl) (zB.of ⟨by decide, by decide⟩) rfl

set_option maxHeartbeats 4000000 in
set_option maxRecDepth 100000 in
theorem zc_X14_texts (l : Launch) (D : va_G) (k : Nat → ClassId) (Γ : Nat → Option Nat) (L : List Nat) (F : Nat → va_E) (sz : Nat) (th : Nat) (tp : Nat) (sp : Nat) (zz : Int32) (pl : Int32) (nf : Int32) (ln : Int32) (hth : Γ th = some 14) (ktp : zfld F th 10 = .ref tp) (htp : Γ tp = some 152) (ksp : zfld F th 6 = .ref sp) (hsp : Γ sp = some 11) (kzz : zfld F th 12 = .int zz) (bzz : zB 0 600 zz) (kpl : zfld F th 15 = .int pl) (bpl : zB 0 600 pl) (knf : zfld F sp 0 = .int nf) (bnf : zB 0 10 nf) (kln : zfld F sp 1 = .int ln) (bln : zB 0 60 ln) (p_tk : zTk F th tp) (hr0 : zFn F tp sp (Int32.toNatClampNeg nf) (Int32.toNatClampNeg ln) pl.toInt) : Met l yX14_texts zwX14_texts ({ frames := 2, cells := 0, slots := 0, locals := 43 }) (va_Pc [.ref th] (zP D k Γ L F sz)) (va_Qv (fun (u : Nat → va_E) => True) (zQ D k Γ L F [1103, 1413, 1414, 1415, 1416, 1417, 1418, 1421, 12900, 13000, 13100, 14900]) (zA L sz)) 0 0 (zA L sz) := by
  refine Met.ofW (cc := cX14_texts) (maxL := 4) (ret := none) (by decide) rfl ?_
  intro p e s m args below meth c s₁ B hml hv
  obtain ⟨rfl, hsz, hP, hK, hLn, hE, hI⟩ := hv
  have hx := B.exec
  have hb := B.bytes
  have hr := B.returns
  have hg : ∀ w ∈ zG, w.before _ s = true := fun w h9 => atoms_spec (ws := zwX14_texts) B.pre w (List.mem_cons_of_mem _ h9)
  have hown : s.vm.findClass RX14 = some m.cls := findClass_of_methodNamed B.named
  have hlocks := B.notSynchronized
  subst hsz
  have Z : zC p m c cX14_texts 4 s _ zG RX14 D k L := ⟨⟨hx, hb, hml, hown, hg⟩, hK, hLn, hE⟩
  have h : zH D k Γ L s F s.heap [] := ⟨hP, hI, va_S.rf⟩
  have hl := lv_entry ([.ref th]) (n := 4) (Nat.le_of_ble_eq_true rfl)
  rw [lg_entry_eq]
  generalize (lg_sl ([.ref th]) ++ List.replicate (4 - (lg_sl ([.ref th])).length) Slot.unset).toArray = ls at hl ⊢
  have hl : lv_has ls 4 [(0, .ref th)] := hl
  clear hP hK hLn hE hI
  generalize hargs : ([.ref th] : List Value).toArray = args at *
  refine z_start (fun R Q hRf hRl hQ => ?_)
  have hRf : R.frames = 2 := hRf
  have hRl : R.locals = 43 := hRl
  have h9 := h
  obtain ⟨x_1, kx_1, bx_1⟩ := z_learn (j := 13) (lo := 0) (hi := 600) h hth (by decide) rfl
  obtain ⟨x_2, kx_2, bx_2⟩ := z_learn (j := 14) (lo := (-2147483648)) (hi := 2147483647) h hth (by decide) rfl
  have hadv := zTk.adv p_tk kzz kx_1 kx_2 kpl
  have hok : zOK F tp pl := (zTk.ok p_tk kx_1).le hadv.2.1
  refine lv_aload_n hx hb dX14_texts_0 rfl (lv_at hl 0 rfl) ?_
  refine zt_getk (t := 14) (C := RX14) (T := TX14) (N := 40) Z h hth zin_14 rfl 6 ksp ⟨by decide, rfl, by decide⟩ (zm_RX14 (List.mem_of_getElem? (i := 57) rfl)) (fun _ h9 => h9) dX14_texts_1 ?_
  refine lv_iconst (v := 0) hx hb dX14_texts_4 (by decide) ?_
  refine zt_putN (t := 11) (C := RX11) (T := TX11) (N := 30) (v := .int 0) Z h hsp zin_11 tyX11 tyX11_ok nmX11 rfl 3 rfl ⟨by decide, rfl⟩ (zn_29 Z) (fun _ h9 => h9) rfl (zV.i (zB.of ⟨by decide, by decide⟩)) rfl rfl dX14_texts_5 (fun H locs F_3 h hfF_3 kF_3 => ?_)
  refine lv_iconst (v := 0) hx hb dX14_texts_8 (by decide) ?_
  refine lv_istore_n (lv' := [(1, .int 0), (0, .ref th)]) hx hb dX14_texts_9 rfl hl (by decide) rfl (fun ls hl => ?_)
  have j_j10_4 : ∀ (n : Nat) (ls : Array Slot) (y1_j10_4 : Int32) (kt_j10_4 : Int32) (F_5 : Nat → va_E) (H : Heap) (locs : List Loc), lv_has ls 4 [(1, .int y1_j10_4), (0, .ref th)] → zB 0 10 y1_j10_4 → zH D k Γ L s F_5 H locs → zFr Γ [1103, 1413, 1414, 1415, 1416, 1417, 1418, 1421, 12900, 13000, 13100, 14900] F_3 F_5 → zfld F_5 sp 3 = .int kt_j10_4 → zB 0 1201 kt_j10_4 → (∀ g, Int32.toNatClampNeg y1_j10_4 ≤ g → zar F_5 sp 10 g = zar F sp 10 g ∧ zar F_5 sp 11 g = zar F sp 11 g) → ((y1_j10_4.toInt < nf.toInt → kt_j10_4.toInt ≤ 2 * (zar F sp 10 (Int32.toNatClampNeg y1_j10_4)).toInt)) → (2147483647 - y1_j10_4.toInt).toNat = n → W p l e R s m args below meth c H locs 0 0 Q (F0 m 10 ls []) := by
    intro n
    induction n using Nat.strongRecOn with
    | _ n ih_j10_4 =>
      intro ls y1_j10_4 kt_j10_4 F_5 H locs hl by1_j10_4 h hfF_5 hkt_j10_4 bkt_j10_4 r0_j10_4 r1_j10_4 hn_j10_4
      refine lv_iload_n hx hb dX14_texts_10 rfl (lv_at hl 0 rfl) ?_
      refine lv_aload_n hx hb dX14_texts_11 rfl (lv_at hl 1 rfl) ?_
      refine zt_getk (t := 14) (C := RX14) (T := TX14) (N := 40) Z h hth zin_14 rfl 6 (hfF_5.f hth 6 ⟨by decide, by decide⟩ (hfF_3.f hth 6 ⟨by decide, by decide⟩ ksp)) ⟨by decide, rfl, by decide⟩ (zm_RX14 (List.mem_of_getElem? (i := 57) rfl)) (fun _ h9 => h9) dX14_texts_12 ?_
      refine zt_getkN (t := 11) (C := RX11) (T := TX11) (N := 30) Z h hsp zin_11 rfl 0 (hfF_5.f hsp 0 ⟨by decide, by decide⟩ (hfF_3.f hsp 0 ⟨by decide, by decide⟩ knf)) ⟨by decide, rfl, by decide⟩ (zn_2 Z) (fun _ h9 => h9) dX14_texts_15 ?_
      refine lv_icmp_ge (tgt := 202) hx hb dX14_texts_18 (by decide) (fun c_6 => ?_) (fun c_6 => ?_)
      · have c_6 := z_le c_6
        refine lv_iconst (v := 0) hx hb dX14_texts_202 (by decide) ?_
        refine lv_istore_n (lv' := [(1, .int 0), (0, .ref th)]) hx hb dX14_texts_203 rfl hl (by decide) rfl (fun ls hl => ?_)
        have j_j204_7 : ∀ (n : Nat) (ls : Array Slot) (y1_j204_7 : Int32) (F_8 : Nat → va_E) (H : Heap) (locs : List Loc), lv_has ls 4 [(1, .int y1_j204_7), (0, .ref th)] → zB 0 60 y1_j204_7 → zH D k Γ L s F_8 H locs → zFr Γ [12900] F_5 F_8 → (2147483647 - y1_j204_7.toInt).toNat = n → W p l e R s m args below meth c H locs 0 0 Q (F0 m 204 ls []) := by
          intro n
          induction n using Nat.strongRecOn with
          | _ n ih_j204_7 =>
            intro ls y1_j204_7 F_8 H locs hl by1_j204_7 h hfF_8 hn_j204_7
            refine lv_iload_n hx hb dX14_texts_204 rfl (lv_at hl 0 rfl) ?_
            refine lv_aload_n hx hb dX14_texts_205 rfl (lv_at hl 1 rfl) ?_
            refine zt_getk (t := 14) (C := RX14) (T := TX14) (N := 40) Z h hth zin_14 rfl 6 (hfF_8.f hth 6 ⟨by decide, by decide⟩ (hfF_5.f hth 6 ⟨by decide, by decide⟩ (hfF_3.f hth 6 ⟨by decide, by decide⟩ ksp))) ⟨by decide, rfl, by decide⟩ (zm_RX14 (List.mem_of_getElem? (i := 57) rfl)) (fun _ h9 => h9) dX14_texts_206 ?_
            refine zt_getkN (t := 11) (C := RX11) (T := TX11) (N := 30) Z h hsp zin_11 rfl 1 (hfF_8.f hsp 1 ⟨by decide, by decide⟩ (hfF_5.f hsp 1 ⟨by decide, by decide⟩ (hfF_3.f hsp 1 ⟨by decide, by decide⟩ kln))) ⟨by decide, rfl, by decide⟩ (zn_3 Z) (fun _ h9 => h9) dX14_texts_209 ?_
            refine lv_icmp_ge (tgt := 298) hx hb dX14_texts_212 (by decide) (fun c_9 => ?_) (fun c_9 => ?_)
            · have c_9 := z_le c_9
              subst hQ
              exact W.vret hx hb hr (fun t ht hW => ⟨⟨F_8, rfl, trivial, by rw [ht]; exact h.1, h.2.1, (((hfF_3.w (by decide)).trans hfF_5 (by decide)).trans hfF_8 (by decide))⟩, h.2.2.F ht⟩) h.2.2.2.2 dX14_texts_298
            · have c_9 := z_nle c_9
              have by1_j204_7_10 : zB 0 59 y1_j204_7 := zB.ltL c_9 by1_j204_7 bln (by decide)
              have bln_11 : zB 1 60 ln := zB.ltR c_9 by1_j204_7 bln (by decide)
              refine lv_aload_n hx hb dX14_texts_215 rfl (lv_at hl 1 rfl) ?_
              refine zt_getk (t := 14) (C := RX14) (T := TX14) (N := 40) Z h hth zin_14 rfl 6 (hfF_8.f hth 6 ⟨by decide, by decide⟩ (hfF_5.f hth 6 ⟨by decide, by decide⟩ (hfF_3.f hth 6 ⟨by decide, by decide⟩ ksp))) ⟨by decide, rfl, by decide⟩ (zm_RX14 (List.mem_of_getElem? (i := 57) rfl)) (fun _ h9 => h9) dX14_texts_216 ?_
              refine zt_getrN (t := 11) (C := RX11) (T := TX11) (N := 30) Z h hsp zin_11 rfl 22 rfl ⟨by decide, rfl⟩ (zn_27 Z) (fun _ h9 => h9) dX14_texts_219 (fun a_12 ka_12 ha_12 => ?_)
              refine lv_iload_n hx hb dX14_texts_222 rfl (lv_at hl 0 rfl) ?_
              refine zt_ialde (t := 142) Z h ha_12 ⟨by decide, rfl⟩ by1_j204_7_10 ⟨by decide, by decide⟩ dX14_texts_223 (fun x_13 ex_13 bx_13 => ?_)
              refine lv_istore_n (lv' := [(2, .int x_13), (1, .int y1_j204_7), (0, .ref th)]) hx hb dX14_texts_224 rfl hl (by decide) rfl (fun ls hl => ?_)
              have j_j225_14 : ∀ (n : Nat) (ls : Array Slot) (y2_j225_14 : Int32) (F_15 : Nat → va_E) (H : Heap) (locs : List Loc), lv_has ls 4 [(2, .int y2_j225_14), (1, .int y1_j204_7), (0, .ref th)] → zB 0 620 y2_j225_14 → zH D k Γ L s F_15 H locs → zFr Γ [12900] F_8 F_15 → (2147483647 - y2_j225_14.toInt).toNat = n → W p l e R s m args below meth c H locs 0 0 Q (F0 m 225 ls []) := by
                intro n
                induction n using Nat.strongRecOn with
                | _ n ih_j225_14 =>
                  intro ls y2_j225_14 F_15 H locs hl by2_j225_14 h hfF_15 hn_j225_14
                  refine lv_iload_n hx hb dX14_texts_225 rfl (lv_at hl 0 rfl) ?_
                  refine lv_aload_n hx hb dX14_texts_226 rfl (lv_at hl 2 rfl) ?_
                  refine zt_getk (t := 14) (C := RX14) (T := TX14) (N := 40) Z h hth zin_14 rfl 6 (hfF_15.f hth 6 ⟨by decide, by decide⟩ (hfF_8.f hth 6 ⟨by decide, by decide⟩ (hfF_5.f hth 6 ⟨by decide, by decide⟩ (hfF_3.f hth 6 ⟨by decide, by decide⟩ ksp)))) ⟨by decide, rfl, by decide⟩ (zm_RX14 (List.mem_of_getElem? (i := 57) rfl)) (fun _ h9 => h9) dX14_texts_227 ?_
                  refine zt_getrN (t := 11) (C := RX11) (T := TX11) (N := 30) Z h hsp zin_11 rfl 23 rfl ⟨by decide, rfl⟩ (zn_28 Z) (fun _ h9 => h9) dX14_texts_230 (fun a_16 ka_16 ha_16 => ?_)
                  refine lv_iload_n hx hb dX14_texts_233 rfl (lv_at hl 1 rfl) ?_
                  refine zt_ialde (t := 143) Z h ha_16 ⟨by decide, rfl⟩ by1_j204_7_10 ⟨by decide, by decide⟩ dX14_texts_234 (fun x_17 ex_17 bx_17 => ?_)
                  refine lv_icmp_ge (tgt := 292) hx hb dX14_texts_235 (by decide) (fun c_18 => ?_) (fun c_18 => ?_)
                  · have c_18 := z_le c_18
                    obtain ⟨x_19, ex_19, bx_19, tx_19⟩ := z_inc (n := 1) (lo := 1) (hi := 60) by1_j204_7_10 (by decide)
                    refine lv_iinc (v := x_19) (lv' := [(1, .int x_19), (2, .int y2_j225_14), (0, .ref th)]) hx hb dX14_texts_292 hl (k := 1) rfl ex_19 (by decide) rfl (fun ls hl => ?_)
                    refine lv_goto (tgt := 204) hx hb dX14_texts_295 (by decide) ?_
                    exact ih_j204_7 _ (by have := bx_19.1; have := bx_19.2; have := by2_j225_14.1; have := by2_j225_14.2; have := bzz.1; have := bzz.2; have := bnf.1; have := bnf.2; have := bln_11.1; have := bln_11.2; have := bkt_j10_4.1; have := bkt_j10_4.2; have := bpl.1; have := bpl.2; have := by1_j204_7.1; have := by1_j204_7.2; omega) ls x_19 F_15 H locs (lv_sub hl [0, 2] rfl) (bx_19.w ⟨by decide, by decide⟩) h (hfF_8.trans hfF_15 (by decide)) rfl
                  · have c_18 := z_nle c_18
                    have by2_j225_14_20 : zB 0 619 y2_j225_14 := zB.ltL c_18 by2_j225_14 bx_17 (by decide)
                    have bx_17_21 : zB 1 620 x_17 := zB.ltR c_18 by2_j225_14 bx_17 (by decide)
                    refine lv_aload_n hx hb dX14_texts_238 rfl (lv_at hl 2 rfl) ?_
                    refine zt_getk (t := 14) (C := RX14) (T := TX14) (N := 40) Z h hth zin_14 rfl 6 (hfF_15.f hth 6 ⟨by decide, by decide⟩ (hfF_8.f hth 6 ⟨by decide, by decide⟩ (hfF_5.f hth 6 ⟨by decide, by decide⟩ (hfF_3.f hth 6 ⟨by decide, by decide⟩ ksp)))) ⟨by decide, rfl, by decide⟩ (zm_RX14 (List.mem_of_getElem? (i := 57) rfl)) (fun _ h9 => h9) dX14_texts_239 ?_
                    refine zt_getrN (t := 11) (C := RX11) (T := TX11) (N := 30) Z h hsp zin_11 rfl 9 rfl ⟨by decide, rfl⟩ (zn_31 Z) (fun _ h9 => h9) dX14_texts_242 (fun a_22 ka_22 ha_22 => ?_)
                    refine lv_aload_n hx hb dX14_texts_245 rfl (lv_at hl 2 rfl) ?_
                    refine zt_getk (t := 14) (C := RX14) (T := TX14) (N := 40) Z h hth zin_14 rfl 6 (hfF_15.f hth 6 ⟨by decide, by decide⟩ (hfF_8.f hth 6 ⟨by decide, by decide⟩ (hfF_5.f hth 6 ⟨by decide, by decide⟩ (hfF_3.f hth 6 ⟨by decide, by decide⟩ ksp)))) ⟨by decide, rfl, by decide⟩ (zm_RX14 (List.mem_of_getElem? (i := 57) rfl)) (fun _ h9 => h9) dX14_texts_246 ?_
                    refine zt_getrN (t := 11) (C := RX11) (T := TX11) (N := 30) Z h hsp zin_11 rfl 14 rfl ⟨by decide, rfl⟩ (zn_20 Z) (fun _ h9 => h9) dX14_texts_249 (fun a_23 ka_23 ha_23 => ?_)
                    refine lv_iload_n hx hb dX14_texts_252 rfl (lv_at hl 1 rfl) ?_
                    refine zt_ialde (t := 134) Z h ha_23 ⟨by decide, rfl⟩ by1_j204_7_10 ⟨by decide, by decide⟩ dX14_texts_253 (fun x_24 ex_24 bx_24 => ?_)
                    refine lv_dup2_11 hx hb dX14_texts_254 rfl rfl ?_
                    refine zt_ialde (t := 129) Z h ha_22 ⟨by decide, rfl⟩ bx_24 ⟨by decide, by decide⟩ dX14_texts_255 (fun x_25 ex_25 bx_25 => ?_)
                    refine lv_aload_n hx hb dX14_texts_256 rfl (lv_at hl 2 rfl) ?_
                    refine zt_getk (t := 14) (C := RX14) (T := TX14) (N := 40) Z h hth zin_14 rfl 6 (hfF_15.f hth 6 ⟨by decide, by decide⟩ (hfF_8.f hth 6 ⟨by decide, by decide⟩ (hfF_5.f hth 6 ⟨by decide, by decide⟩ (hfF_3.f hth 6 ⟨by decide, by decide⟩ ksp)))) ⟨by decide, rfl, by decide⟩ (zm_RX14 (List.mem_of_getElem? (i := 57) rfl)) (fun _ h9 => h9) dX14_texts_257 ?_
                    refine zt_getrN (t := 11) (C := RX11) (T := TX11) (N := 30) Z h hsp zin_11 rfl 24 rfl ⟨by decide, rfl⟩ (zn_5 Z) (fun _ h9 => h9) dX14_texts_260 (fun a_26 ka_26 ha_26 => ?_)
                    refine lv_iload_n hx hb dX14_texts_263 rfl (lv_at hl 0 rfl) ?_
                    refine zt_ialde (t := 144) Z h ha_26 ⟨by decide, rfl⟩ by2_j225_14_20 ⟨by decide, by decide⟩ dX14_texts_264 (fun x_27 ex_27 bx_27 => ?_)
                    refine lv_iconst (v := 5) hx hb dX14_texts_265 (by decide) ?_
                    refine lv_icmp_ne (tgt := 283) hx hb dX14_texts_266 (by decide) (fun c_28 => ?_) (fun c_28 => ?_)
                    · have c_28 := z_ne c_28
                      refine lv_iconst (v := 0) hx hb dX14_texts_283 (by decide) ?_
                      refine lv_ior hx hb dX14_texts_284 ?_
                      refine zi_any (fun x_29 bx_29 ex_29 => ?_)
                      refine zt_iast (t := 129) Z h ha_22 ⟨by decide, rfl⟩ bx_24 ⟨by decide, by decide⟩ bx_29 dX14_texts_285 (fun H locs F_30 h hfF_30 => ?_)
                      obtain ⟨x_31, ex_31, bx_31, tx_31⟩ := z_inc (n := 1) (lo := 1) (hi := 620) by2_j225_14_20 (by decide)
                      refine lv_iinc (v := x_31) (lv' := [(2, .int x_31), (1, .int y1_j204_7), (0, .ref th)]) hx hb dX14_texts_286 hl (k := 0) rfl ex_31 (by decide) rfl (fun ls hl => ?_)
                      refine lv_goto (tgt := 225) hx hb dX14_texts_289 (by decide) ?_
                      exact ih_j225_14 _ (by have := bx_31.1; have := bx_31.2; have := by1_j204_7_10.1; have := by1_j204_7_10.2; have := bzz.1; have := bzz.2; have := bnf.1; have := bnf.2; have := bln_11.1; have := bln_11.2; have := bkt_j10_4.1; have := bkt_j10_4.2; have := bpl.1; have := bpl.2; have : (0 : Int32).toInt = 0 := (by decide); have : (5 : Int32).toInt = 5 := (by decide); have := by2_j225_14.1; have := by2_j225_14.2; omega) ls x_31 F_30 H locs (lv_sub hl [0, 1, 2] rfl) (bx_31.w ⟨by decide, by decide⟩) h (hfF_15.trans hfF_30 (by decide)) rfl
                    · have c_28 := z_eq c_28
                      have bx_27_32 : zB 5 5 x_27 := zB.eqL (a := 0) (b := 0) c_28 (zBc 5 5 (by decide))
                      refine lv_iconst (v := 1) hx hb dX14_texts_269 (by decide) ?_
                      refine lv_aload_n hx hb dX14_texts_270 rfl (lv_at hl 2 rfl) ?_
                      refine zt_getk (t := 14) (C := RX14) (T := TX14) (N := 40) Z h hth zin_14 rfl 6 (hfF_15.f hth 6 ⟨by decide, by decide⟩ (hfF_8.f hth 6 ⟨by decide, by decide⟩ (hfF_5.f hth 6 ⟨by decide, by decide⟩ (hfF_3.f hth 6 ⟨by decide, by decide⟩ ksp)))) ⟨by decide, rfl, by decide⟩ (zm_RX14 (List.mem_of_getElem? (i := 57) rfl)) (fun _ h9 => h9) dX14_texts_271 ?_
                      refine zt_getrN (t := 11) (C := RX11) (T := TX11) (N := 30) Z h hsp zin_11 rfl 25 rfl ⟨by decide, rfl⟩ (zn_10 Z) (fun _ h9 => h9) dX14_texts_274 (fun a_33 ka_33 ha_33 => ?_)
                      refine lv_iload_n hx hb dX14_texts_277 rfl (lv_at hl 0 rfl) ?_
                      refine zt_ialde (t := 145) Z h ha_33 ⟨by decide, rfl⟩ by2_j225_14_20 ⟨by decide, by decide⟩ dX14_texts_278 (fun x_34 ex_34 bx_34 => ?_)
                      refine lv_ishl hx hb dX14_texts_279 ?_
                      refine zi_any (fun x_35 bx_35 ex_35 => ?_)
                      refine lv_goto (tgt := 284) hx hb dX14_texts_280 (by decide) ?_
                      refine lv_ior hx hb dX14_texts_284 ?_
                      refine zi_any (fun x_36 bx_36 ex_36 => ?_)
                      refine zt_iast (t := 129) Z h ha_22 ⟨by decide, rfl⟩ bx_24 ⟨by decide, by decide⟩ bx_36 dX14_texts_285 (fun H locs F_37 h hfF_37 => ?_)
                      obtain ⟨x_38, ex_38, bx_38, tx_38⟩ := z_inc (n := 1) (lo := 1) (hi := 620) by2_j225_14_20 (by decide)
                      refine lv_iinc (v := x_38) (lv' := [(2, .int x_38), (1, .int y1_j204_7), (0, .ref th)]) hx hb dX14_texts_286 hl (k := 0) rfl ex_38 (by decide) rfl (fun ls hl => ?_)
                      refine lv_goto (tgt := 225) hx hb dX14_texts_289 (by decide) ?_
                      exact ih_j225_14 _ (by have := bx_38.1; have := bx_38.2; have := by1_j204_7_10.1; have := by1_j204_7_10.2; have := bzz.1; have := bzz.2; have := bnf.1; have := bnf.2; have := bln_11.1; have := bln_11.2; have := bkt_j10_4.1; have := bkt_j10_4.2; have := bpl.1; have := bpl.2; have : (1 : Int32).toInt = 1 := (by decide); have : (5 : Int32).toInt = 5 := (by decide); have := by2_j225_14.1; have := by2_j225_14.2; omega) ls x_38 F_37 H locs (lv_sub hl [0, 1, 2] rfl) (bx_38.w ⟨by decide, by decide⟩) h (hfF_15.trans hfF_37 (by decide)) rfl
              exact j_j225_14 _ ls x_13 F_8 H locs (lv_sub hl [0, 1, 2] rfl) bx_13 h zFr.rf rfl
        exact j_j204_7 _ ls 0 F_5 H locs (lv_sub hl [0, 1] rfl) (zB.of ⟨by decide, by decide⟩) h zFr.rf rfl
      · have c_6 := z_nle c_6
        have by1_j10_4_39 : zB 0 9 y1_j10_4 := zB.ltL c_6 by1_j10_4 bnf (by decide)
        have bnf_40 : zB 1 10 nf := zB.ltR c_6 by1_j10_4 bnf (by decide)
        refine lv_aload_n hx hb dX14_texts_21 rfl (lv_at hl 1 rfl) ?_
        refine zt_getk (t := 14) (C := RX14) (T := TX14) (N := 40) Z h hth zin_14 rfl 6 (hfF_5.f hth 6 ⟨by decide, by decide⟩ (hfF_3.f hth 6 ⟨by decide, by decide⟩ ksp)) ⟨by decide, rfl, by decide⟩ (zm_RX14 (List.mem_of_getElem? (i := 57) rfl)) (fun _ h9 => h9) dX14_texts_22 ?_
        refine zt_getrN (t := 11) (C := RX11) (T := TX11) (N := 30) Z h hsp zin_11 rfl 11 rfl ⟨by decide, rfl⟩ (zn_18 Z) (fun _ h9 => h9) dX14_texts_25 (fun a_41 ka_41 ha_41 => ?_)
        refine lv_iload_n hx hb dX14_texts_28 rfl (lv_at hl 0 rfl) ?_
        refine zt_ialde (t := 131) Z h ha_41 ⟨by decide, rfl⟩ by1_j10_4_39 ⟨by decide, by decide⟩ dX14_texts_29 (fun x_42 ex_42 bx_42 => ?_)
        refine lv_istore_n (lv' := [(2, .int x_42), (1, .int y1_j10_4), (0, .ref th)]) hx hb dX14_texts_30 rfl hl (by decide) rfl (fun ls hl => ?_)
        refine lv_aload_n hx hb dX14_texts_31 rfl (lv_at hl 2 rfl) ?_
        refine lv_aload_n hx hb dX14_texts_32 rfl (lv_at hl 2 rfl) ?_
        refine zt_getk (t := 14) (C := RX14) (T := TX14) (N := 40) Z h hth zin_14 rfl 6 (hfF_5.f hth 6 ⟨by decide, by decide⟩ (hfF_3.f hth 6 ⟨by decide, by decide⟩ ksp)) ⟨by decide, rfl, by decide⟩ (zm_RX14 (List.mem_of_getElem? (i := 57) rfl)) (fun _ h9 => h9) dX14_texts_33 ?_
        refine zt_getrN (t := 11) (C := RX11) (T := TX11) (N := 30) Z h hsp zin_11 rfl 10 rfl ⟨by decide, rfl⟩ (zn_11 Z) (fun _ h9 => h9) dX14_texts_36 (fun a_43 ka_43 ha_43 => ?_)
        refine lv_iload_n hx hb dX14_texts_39 rfl (lv_at hl 1 rfl) ?_
        refine zt_ialde (t := 130) Z h ha_43 ⟨by decide, rfl⟩ by1_j10_4_39 ⟨by decide, by decide⟩ dX14_texts_40 (fun x_44 ex_44 bx_44 => ?_)
        have e10 : zar F sp 10 (Int32.toNatClampNeg y1_j10_4) = x_44 := by rw [← (r0_j10_4 (Int32.toNatClampNeg y1_j10_4) (Nat.le_refl _)).1, zar_eq ka_43]; exact ex_44
        have e11 : zar F sp 11 (Int32.toNatClampNeg y1_j10_4) = x_42 := by rw [← (r0_j10_4 (Int32.toNatClampNeg y1_j10_4) (Nat.le_refl _)).2, zar_eq ka_41]; exact ex_42
        have hT := (hr0.1 (Int32.toNatClampNeg y1_j10_4) (by have := z_cl (x := y1_j10_4) (by have := bx_42.1; have := bx_42.2; have := by1_j10_4_39.1; have := by1_j10_4_39.2; have := bx_44.1; have := bx_44.2; have := bzz.1; have := bzz.2; have := bnf_40.1; have := bnf_40.2; have := bln.1; have := bln.2; have := bkt_j10_4.1; have := bkt_j10_4.2; have := bpl.1; have := bpl.2; omega); have := z_cl (x := nf) (by have := bx_42.1; have := bx_42.2; have := by1_j10_4_39.1; have := by1_j10_4_39.2; have := bx_44.1; have := bx_44.2; have := bzz.1; have := bzz.2; have := bnf_40.1; have := bnf_40.2; have := bln.1; have := bln.2; have := bkt_j10_4.1; have := bkt_j10_4.2; have := bpl.1; have := bpl.2; omega); have := bx_42.1; have := bx_42.2; have := by1_j10_4_39.1; have := by1_j10_4_39.2; have := bx_44.1; have := bx_44.2; have := bzz.1; have := bzz.2; have := bnf_40.1; have := bnf_40.2; have := bln.1; have := bln.2; have := bkt_j10_4.1; have := bkt_j10_4.2; have := bpl.1; have := bpl.2; omega)).2
        unfold zTT at hT
        rw [e10, e11] at hT
        obtain ⟨hT1, hT2, hT3, hT4, hT5⟩ := hT
        have hT6 := r1_j10_4 (by have := bx_42.1; have := bx_42.2; have := by1_j10_4_39.1; have := by1_j10_4_39.2; have := bx_44.1; have := bx_44.2; have := bzz.1; have := bzz.2; have := bnf_40.1; have := bnf_40.2; have := bln.1; have := bln.2; have := bkt_j10_4.1; have := bkt_j10_4.2; have := bpl.1; have := bpl.2; omega)
        rw [e10] at hT6
        refine zt_put (t := 14) (C := RX14) (T := TX14) (N := 40) (v := .int x_44) Z h hth zin_14 tyX14 tyX14_ok nmX14 rfl 13 rfl ⟨by decide, rfl⟩ (zm_RX14 (List.mem_of_getElem? (i := 19) rfl)) (fun _ h9 => h9) rfl (zV.i (zB.of ⟨by have := bx_42.1; have := bx_42.2; have := by1_j10_4_39.1; have := by1_j10_4_39.2; have := bx_44.1; have := bx_44.2; have := bzz.1; have := bzz.2; have := bnf_40.1; have := bnf_40.2; have := bln.1; have := bln.2; have := bkt_j10_4.1; have := bkt_j10_4.2; have := bpl.1; have := bpl.2; omega, by have := bx_42.1; have := bx_42.2; have := by1_j10_4_39.1; have := by1_j10_4_39.2; have := bx_44.1; have := bx_44.2; have := bzz.1; have := bzz.2; have := bnf_40.1; have := bnf_40.2; have := bln.1; have := bln.2; have := bkt_j10_4.1; have := bkt_j10_4.2; have := bpl.1; have := bpl.2; omega⟩)) rfl rfl dX14_texts_41 (fun H locs F_45 h hfF_45 kF_45 => ?_)
        refine lv_aload_n hx hb dX14_texts_44 rfl (lv_at hl 2 rfl) ?_
        refine zt_getk (t := 14) (C := RX14) (T := TX14) (N := 40) Z h hth zin_14 rfl 6 (hfF_45.f hth 6 ⟨by decide, by decide⟩ (hfF_5.f hth 6 ⟨by decide, by decide⟩ (hfF_3.f hth 6 ⟨by decide, by decide⟩ ksp))) ⟨by decide, rfl, by decide⟩ (zm_RX14 (List.mem_of_getElem? (i := 57) rfl)) (fun _ h9 => h9) dX14_texts_45 ?_
        refine zt_getkN (t := 11) (C := RX11) (T := TX11) (N := 30) Z h hsp zin_11 rfl 10 (hfF_45.f hsp 10 ⟨by decide, by decide⟩ ka_43) ⟨by decide, rfl, by decide⟩ (zn_11 Z) (fun _ h9 => h9) dX14_texts_48 ?_
        refine lv_iload_n hx hb dX14_texts_51 rfl (lv_at hl 1 rfl) ?_
        refine lv_aload_n hx hb dX14_texts_52 rfl (lv_at hl 2 rfl) ?_
        refine zt_getk (t := 14) (C := RX14) (T := TX14) (N := 40) Z h hth zin_14 rfl 6 (hfF_45.f hth 6 ⟨by decide, by decide⟩ (hfF_5.f hth 6 ⟨by decide, by decide⟩ (hfF_3.f hth 6 ⟨by decide, by decide⟩ ksp))) ⟨by decide, rfl, by decide⟩ (zm_RX14 (List.mem_of_getElem? (i := 57) rfl)) (fun _ h9 => h9) dX14_texts_53 ?_
        refine zt_getkN (t := 11) (C := RX11) (T := TX11) (N := 30) Z h hsp zin_11 rfl 3 (hfF_45.f hsp 3 ⟨by decide, by decide⟩ hkt_j10_4) ⟨by decide, rfl, by decide⟩ (zn_29 Z) (fun _ h9 => h9) dX14_texts_56 ?_
        have sa_47 := (z_SA h9.2.1 hsp).fr hfF_3 (by decide)
        have sa_48 := sa_47.fr hfF_5 (by decide)
        have ar_49 : zar F_45 sp 10 = (zar F_5 sp 10) := ((sa_48.ar hfF_45 10 (by decide)).trans rfl)
        refine zt_iaste (t := 130) Z h ha_43 ⟨by decide, rfl⟩ by1_j10_4_39 ⟨by decide, by decide⟩ bkt_j10_4 dX14_texts_59 (fun H locs F_46 h hfF_46 eF_46 gF_46 => ?_)
        have uF_46 := (zar_st (hfF_45.f hsp 10 ⟨by decide, by decide⟩ ka_43) (hfF_46.f hsp 10 ⟨by decide, by decide⟩ (hfF_45.f hsp 10 ⟨by decide, by decide⟩ ka_43)) eF_46 gF_46).trans (congrArg (fun z => upd z (Int32.toNatClampNeg y1_j10_4) kt_j10_4) ar_49)
        refine lv_aload_n hx hb dX14_texts_60 rfl (lv_at hl 2 rfl) ?_
        refine zk_Vv (As := []) (rest := []) (bytes := cX14_next) (maxL := 3) (ret := none) Z h (zc_X14_next l D k Γ L F_46 H.size th tp x_44 zz hth (hfF_46.f hth 10 ⟨by decide, by decide⟩ (hfF_45.f hth 10 ⟨by decide, by decide⟩ (hfF_5.f hth 10 ⟨by decide, by decide⟩ (hfF_3.f hth 10 ⟨by decide, by decide⟩ ktp)))) htp (hfF_46.f hth 13 ⟨by decide, by decide⟩ kF_45) (zB.of ⟨by have := bx_42.1; have := bx_42.2; have := by1_j10_4_39.1; have := by1_j10_4_39.2; have := bx_44.1; have := bx_44.2; have := bzz.1; have := bzz.2; have := bnf_40.1; have := bnf_40.2; have := bln.1; have := bln.2; have := bkt_j10_4.1; have := bkt_j10_4.2; have := bpl.1; have := bpl.2; omega, by have := bx_42.1; have := bx_42.2; have := by1_j10_4_39.1; have := by1_j10_4_39.2; have := bx_44.1; have := bx_44.2; have := bzz.1; have := bzz.2; have := bnf_40.1; have := bnf_40.2; have := bln.1; have := bln.2; have := bkt_j10_4.1; have := bkt_j10_4.2; have := bpl.1; have := bpl.2; omega⟩) (hfF_46.f hth 12 ⟨by decide, by decide⟩ (hfF_45.f hth 12 ⟨by decide, by decide⟩ (hfF_5.f hth 12 ⟨by decide, by decide⟩ (hfF_3.f hth 12 ⟨by decide, by decide⟩ kzz)))) bzz (by have := bx_42.1; have := bx_42.2; have := by1_j10_4_39.1; have := by1_j10_4_39.2; have := bx_44.1; have := bx_44.2; have := bzz.1; have := bzz.2; have := bnf_40.1; have := bnf_40.2; have := bln.1; have := bln.2; have := bkt_j10_4.1; have := bkt_j10_4.2; have := bpl.1; have := bpl.2; omega) (zOK.fr (zOK.le hok (by have := bx_42.1; have := bx_42.2; have := by1_j10_4_39.1; have := by1_j10_4_39.2; have := bx_44.1; have := bx_44.2; have := bzz.1; have := bzz.2; have := bnf_40.1; have := bnf_40.2; have := bln.1; have := bln.2; have := bkt_j10_4.1; have := bkt_j10_4.2; have := bpl.1; have := bpl.2; omega)) ((((((hfF_3.w (by decide)).trans hfF_5 (by decide)).trans hfF_45 (by decide)).trans hfF_46 (by decide)) : zFr Γ [1103, 1413, 1414, 1415, 1416, 1417, 1418, 1421, 12900, 13000, 13100, 14900] F F_46).elf htp (by decide)))) (cwV 0 hg zv_RX14_147 rfl rfl rfl zd_X14_next ⟨z_leR hRf (by decide), z_leR hRl (by decide)⟩) hth (by decide) rfl rfl hl.1 rfl (Nat.le_of_ble_eq_true rfl) dX14_texts_61 ⟨Nat.zero_le _, Nat.zero_le _⟩ (fun F_50 H locs w_51 h hfF_50 => ?_)
        obtain ⟨⟨x_53, kx_53, bx_53, q_52⟩, q_54, -⟩ := w_51
        have j_j64_55 : ∀ (n : Nat) (ls : Array Slot) (kp_j64_55 : Int32) (kt_j64_55 : Int32) (F_56 : Nat → va_E) (H : Heap) (locs : List Loc), lv_has ls 4 [(2, .int x_42), (1, .int y1_j10_4), (0, .ref th)] → zH D k Γ L s F_56 H locs → zFr Γ [1103, 1413, 1414, 1415, 1416, 1417, 1418, 1421, 14900] F_50 F_56 → zfld F_56 th 15 = .int kp_j64_55 → zB 0 600 kp_j64_55 → zfld F_56 sp 3 = .int kt_j64_55 → zB 0 1201 kt_j64_55 → (kt_j64_55.toInt ≤ 2 * kp_j64_55.toInt ∧ kt_j64_55.toInt ≤ 2 * x_42.toInt) → zTk F_56 th tp → (600 - kp_j64_55.toInt).toNat = n → W p l e R s m args below meth c H locs 0 0 Q (F0 m 64 ls []) := by
          intro n
          induction n using Nat.strongRecOn with
          | _ n ih_j64_55 =>
            intro ls kp_j64_55 kt_j64_55 F_56 H locs hl h hfF_56 hkp_j64_55 bkp_j64_55 hkt_j64_55 bkt_j64_55 r0_j64_55 ptk_j64_55 hn_j64_55
            refine lv_aload_n hx hb dX14_texts_64 rfl (lv_at hl 2 rfl) ?_
            refine zt_geti (t := 14) (C := RX14) (T := TX14) (N := 40) Z h hth zin_14 rfl 14 rfl ⟨by decide, rfl⟩ (zm_RX14 (List.mem_of_getElem? (i := 24) rfl)) (fun _ h9 => h9) dX14_texts_65 (fun x_57 kx_57 bx_57 => ?_)
            refine lv_iconst (v := 1) hx hb dX14_texts_68 (by decide) ?_
            refine lv_icmp_eq (tgt := 170) hx hb dX14_texts_69 (by decide) (fun c_58 => ?_) (fun c_58 => ?_)
            · have c_58 := z_eq c_58
              have bx_57_59 : zB 1 1 x_57 := zB.eqL (a := 0) (b := 0) c_58 (zBc 1 1 (by decide))
              refine lv_aload_n hx hb dX14_texts_170 rfl (lv_at hl 2 rfl) ?_
              refine zt_getk (t := 14) (C := RX14) (T := TX14) (N := 40) Z h hth zin_14 rfl 6 (hfF_56.f hth 6 ⟨by decide, by decide⟩ (hfF_50.f hth 6 ⟨by decide, by decide⟩ (hfF_46.f hth 6 ⟨by decide, by decide⟩ (hfF_45.f hth 6 ⟨by decide, by decide⟩ (hfF_5.f hth 6 ⟨by decide, by decide⟩ (hfF_3.f hth 6 ⟨by decide, by decide⟩ ksp)))))) ⟨by decide, rfl, by decide⟩ (zm_RX14 (List.mem_of_getElem? (i := 57) rfl)) (fun _ h9 => h9) dX14_texts_171 ?_
              refine zt_getkN (t := 11) (C := RX11) (T := TX11) (N := 30) Z h hsp zin_11 rfl 11 (hfF_56.f hsp 11 ⟨by decide, by decide⟩ (hfF_50.f hsp 11 ⟨by decide, by decide⟩ (hfF_46.f hsp 11 ⟨by decide, by decide⟩ (hfF_45.f hsp 11 ⟨by decide, by decide⟩ ka_41)))) ⟨by decide, rfl, by decide⟩ (zn_18 Z) (fun _ h9 => h9) dX14_texts_174 ?_
              refine lv_iload_n hx hb dX14_texts_177 rfl (lv_at hl 1 rfl) ?_
              refine lv_aload_n hx hb dX14_texts_178 rfl (lv_at hl 2 rfl) ?_
              refine zt_getk (t := 14) (C := RX14) (T := TX14) (N := 40) Z h hth zin_14 rfl 6 (hfF_56.f hth 6 ⟨by decide, by decide⟩ (hfF_50.f hth 6 ⟨by decide, by decide⟩ (hfF_46.f hth 6 ⟨by decide, by decide⟩ (hfF_45.f hth 6 ⟨by decide, by decide⟩ (hfF_5.f hth 6 ⟨by decide, by decide⟩ (hfF_3.f hth 6 ⟨by decide, by decide⟩ ksp)))))) ⟨by decide, rfl, by decide⟩ (zm_RX14 (List.mem_of_getElem? (i := 57) rfl)) (fun _ h9 => h9) dX14_texts_179 ?_
              refine zt_getkN (t := 11) (C := RX11) (T := TX11) (N := 30) Z h hsp zin_11 rfl 3 hkt_j64_55 ⟨by decide, rfl, by decide⟩ (zn_29 Z) (fun _ h9 => h9) dX14_texts_182 ?_
              have sa_61 := sa_48.fr hfF_45 (by decide)
              have sa_62 := sa_61.fr hfF_46 (by decide)
              have sa_63 := sa_62.fr hfF_50 (by decide)
              have ar_64 : zar F_56 sp 11 = (zar F_5 sp 11) := ((sa_63.ar hfF_56 11 (by decide)).trans ((sa_62.ar hfF_50 11 (by decide)).trans ((sa_61.ar hfF_46 11 (by decide)).trans ((sa_48.ar hfF_45 11 (by decide)).trans rfl))))
              refine zt_iaste (t := 131) Z h ha_41 ⟨by decide, rfl⟩ by1_j10_4_39 ⟨by decide, by decide⟩ bkt_j64_55 dX14_texts_185 (fun H locs F_60 h hfF_60 eF_60 gF_60 => ?_)
              have uF_60 := (zar_st (hfF_56.f hsp 11 ⟨by decide, by decide⟩ (hfF_50.f hsp 11 ⟨by decide, by decide⟩ (hfF_46.f hsp 11 ⟨by decide, by decide⟩ (hfF_45.f hsp 11 ⟨by decide, by decide⟩ ka_41)))) (hfF_60.f hsp 11 ⟨by decide, by decide⟩ (hfF_56.f hsp 11 ⟨by decide, by decide⟩ (hfF_50.f hsp 11 ⟨by decide, by decide⟩ (hfF_46.f hsp 11 ⟨by decide, by decide⟩ (hfF_45.f hsp 11 ⟨by decide, by decide⟩ ka_41))))) eF_60 gF_60).trans (congrArg (fun z => upd z (Int32.toNatClampNeg y1_j10_4) kt_j64_55) ar_64)
              refine lv_aload_n hx hb dX14_texts_186 rfl (lv_at hl 2 rfl) ?_
              refine zt_getk (t := 14) (C := RX14) (T := TX14) (N := 40) Z h hth zin_14 rfl 6 (hfF_60.f hth 6 ⟨by decide, by decide⟩ (hfF_56.f hth 6 ⟨by decide, by decide⟩ (hfF_50.f hth 6 ⟨by decide, by decide⟩ (hfF_46.f hth 6 ⟨by decide, by decide⟩ (hfF_45.f hth 6 ⟨by decide, by decide⟩ (hfF_5.f hth 6 ⟨by decide, by decide⟩ (hfF_3.f hth 6 ⟨by decide, by decide⟩ ksp))))))) ⟨by decide, rfl, by decide⟩ (zm_RX14 (List.mem_of_getElem? (i := 57) rfl)) (fun _ h9 => h9) dX14_texts_187 ?_
              refine zt_getrN (t := 11) (C := RX11) (T := TX11) (N := 30) Z h hsp zin_11 rfl 9 rfl ⟨by decide, rfl⟩ (zn_31 Z) (fun _ h9 => h9) dX14_texts_190 (fun a_65 ka_65 ha_65 => ?_)
              refine lv_iload_n hx hb dX14_texts_193 rfl (lv_at hl 1 rfl) ?_
              refine lv_iconst (v := 0) hx hb dX14_texts_194 (by decide) ?_
              refine zt_iast (t := 129) Z h ha_65 ⟨by decide, rfl⟩ by1_j10_4_39 ⟨by decide, by decide⟩ (zB.of ⟨by decide, by decide⟩) dX14_texts_195 (fun H locs F_66 h hfF_66 => ?_)
              obtain ⟨x_67, ex_67, bx_67, tx_67⟩ := z_inc (n := 1) (lo := 1) (hi := 10) by1_j10_4_39 (by decide)
              refine lv_iinc (v := x_67) (lv' := [(1, .int x_67), (2, .int x_42), (0, .ref th)]) hx hb dX14_texts_196 hl (k := 1) rfl ex_67 (by decide) rfl (fun ls hl => ?_)
              refine lv_goto (tgt := 10) hx hb dX14_texts_199 (by decide) ?_
              have sa_68 := sa_63.fr hfF_56 (by decide)
              have sa_69 := sa_68.fr hfF_60 (by decide)
              have ar_70 : zar F_66 sp 10 = (upd (zar F_5 sp 10) (Int32.toNatClampNeg y1_j10_4) kt_j10_4) := ((sa_69.ar hfF_66 10 (by decide)).trans ((sa_68.ar hfF_60 10 (by decide)).trans ((sa_63.ar hfF_56 10 (by decide)).trans ((sa_62.ar hfF_50 10 (by decide)).trans uF_46))))
              have ar_71 : zar F_66 sp 11 = (upd (zar F_5 sp 11) (Int32.toNatClampNeg y1_j10_4) kt_j64_55) := ((sa_69.ar hfF_66 11 (by decide)).trans uF_60)
              exact ih_j10_4 _ (by have := bx_67.1; have := bx_67.2; have := bx_42.1; have := bx_42.2; have := bkt_j64_55.1; have := bkt_j64_55.2; have := bzz.1; have := bzz.2; have := bkp_j64_55.1; have := bkp_j64_55.2; have := bnf_40.1; have := bnf_40.2; have := bln.1; have := bln.2; have := bx_57_59.1; have := bx_57_59.2; have := bpl.1; have := bpl.2; have : (1 : Int32).toInt = 1 := (by decide); have := by1_j10_4.1; have := by1_j10_4.2; omega) ls x_67 kt_j64_55 F_66 H locs (lv_sub hl [0, 2] rfl) (bx_67.w ⟨by decide, by decide⟩) h ((((((hfF_5.trans hfF_45 (by decide)).trans hfF_46 (by decide)).trans hfF_50 (by decide)).trans hfF_56 (by decide)).trans hfF_60 (by decide)).trans hfF_66 (by decide)) (hfF_66.f hsp 3 ⟨by decide, by decide⟩ (hfF_60.f hsp 3 ⟨by decide, by decide⟩ hkt_j64_55)) bkt_j64_55 (fun g h9 => ⟨(by have h7 := z_cs (x := y1_j10_4) (y := x_67) (by have := bx_67.1; have := bx_67.2; have := bx_42.1; have := bx_42.2; have := by1_j10_4_39.1; have := by1_j10_4_39.2; have := bzz.1; have := bzz.2; have := bkp_j64_55.1; have := bkp_j64_55.2; have := bnf_40.1; have := bnf_40.2; have := bln.1; have := bln.2; have := bx_57_59.1; have := bx_57_59.2; have := bkt_j64_55.1; have := bkt_j64_55.2; have := bpl.1; have := bpl.2; have : (1 : Int32).toInt = 1 := (by decide); omega) (by have := bx_67.1; have := bx_67.2; have := bx_42.1; have := bx_42.2; have := by1_j10_4_39.1; have := by1_j10_4_39.2; have := bzz.1; have := bzz.2; have := bkp_j64_55.1; have := bkp_j64_55.2; have := bnf_40.1; have := bnf_40.2; have := bln.1; have := bln.2; have := bx_57_59.1; have := bx_57_59.2; have := bkt_j64_55.1; have := bkt_j64_55.2; have := bpl.1; have := bpl.2; have : (1 : Int32).toInt = 1 := (by decide); omega); rw [ar_70]; exact (z_upn (by omega)).trans (r0_j10_4 g (by omega)).1), (by have h7 := z_cs (x := y1_j10_4) (y := x_67) (by have := bx_67.1; have := bx_67.2; have := bx_42.1; have := bx_42.2; have := by1_j10_4_39.1; have := by1_j10_4_39.2; have := bzz.1; have := bzz.2; have := bkp_j64_55.1; have := bkp_j64_55.2; have := bnf_40.1; have := bnf_40.2; have := bln.1; have := bln.2; have := bx_57_59.1; have := bx_57_59.2; have := bkt_j64_55.1; have := bkt_j64_55.2; have := bpl.1; have := bpl.2; have : (1 : Int32).toInt = 1 := (by decide); omega) (by have := bx_67.1; have := bx_67.2; have := bx_42.1; have := bx_42.2; have := by1_j10_4_39.1; have := by1_j10_4_39.2; have := bzz.1; have := bzz.2; have := bkp_j64_55.1; have := bkp_j64_55.2; have := bnf_40.1; have := bnf_40.2; have := bln.1; have := bln.2; have := bx_57_59.1; have := bx_57_59.2; have := bkt_j64_55.1; have := bkt_j64_55.2; have := bpl.1; have := bpl.2; have : (1 : Int32).toInt = 1 := (by decide); omega); rw [ar_71]; exact (z_upn (by omega)).trans (r0_j10_4 g (by omega)).2)⟩) (fun h9 => by have h7 := z_cs (x := y1_j10_4) (y := x_67) (by have := bx_67.1; have := bx_67.2; have := bx_42.1; have := bx_42.2; have := by1_j10_4_39.1; have := by1_j10_4_39.2; have := bkt_j64_55.1; have := bkt_j64_55.2; have := bzz.1; have := bzz.2; have := bkp_j64_55.1; have := bkp_j64_55.2; have := bnf_40.1; have := bnf_40.2; have := bln.1; have := bln.2; have := bx_57_59.1; have := bx_57_59.2; have := bpl.1; have := bpl.2; have : (1 : Int32).toInt = 1 := (by decide); omega) (by have := bx_67.1; have := bx_67.2; have := bx_42.1; have := bx_42.2; have := by1_j10_4_39.1; have := by1_j10_4_39.2; have := bkt_j64_55.1; have := bkt_j64_55.2; have := bzz.1; have := bzz.2; have := bkp_j64_55.1; have := bkp_j64_55.2; have := bnf_40.1; have := bnf_40.2; have := bln.1; have := bln.2; have := bx_57_59.1; have := bx_57_59.2; have := bpl.1; have := bpl.2; have : (1 : Int32).toInt = 1 := (by decide); omega); have h6 := z_cl (x := nf) (by have := bx_67.1; have := bx_67.2; have := bx_42.1; have := bx_42.2; have := by1_j10_4_39.1; have := by1_j10_4_39.2; have := bkt_j64_55.1; have := bkt_j64_55.2; have := bzz.1; have := bzz.2; have := bkp_j64_55.1; have := bkp_j64_55.2; have := bnf_40.1; have := bnf_40.2; have := bln.1; have := bln.2; have := bx_57_59.1; have := bx_57_59.2; have := bpl.1; have := bpl.2; have : (1 : Int32).toInt = 1 := (by decide); omega); have h5 := z_cl (x := y1_j10_4) (by have := bx_67.1; have := bx_67.2; have := bx_42.1; have := bx_42.2; have := by1_j10_4_39.1; have := by1_j10_4_39.2; have := bkt_j64_55.1; have := bkt_j64_55.2; have := bzz.1; have := bzz.2; have := bkp_j64_55.1; have := bkp_j64_55.2; have := bnf_40.1; have := bnf_40.2; have := bln.1; have := bln.2; have := bx_57_59.1; have := bx_57_59.2; have := bpl.1; have := bpl.2; have : (1 : Int32).toInt = 1 := (by decide); omega); have h8 := hr0.2 (Int32.toNatClampNeg y1_j10_4) (by have := bx_67.1; have := bx_67.2; have := bx_42.1; have := bx_42.2; have := by1_j10_4_39.1; have := by1_j10_4_39.2; have := bkt_j64_55.1; have := bkt_j64_55.2; have := bzz.1; have := bzz.2; have := bkp_j64_55.1; have := bkp_j64_55.2; have := bnf_40.1; have := bnf_40.2; have := bln.1; have := bln.2; have := bx_57_59.1; have := bx_57_59.2; have := bpl.1; have := bpl.2; have : (1 : Int32).toInt = 1 := (by decide); omega); rw [e11] at h8; rw [h7]; have := bx_67.1; have := bx_67.2; have := bx_42.1; have := bx_42.2; have := by1_j10_4_39.1; have := by1_j10_4_39.2; have := bkt_j64_55.1; have := bkt_j64_55.2; have := bzz.1; have := bzz.2; have := bkp_j64_55.1; have := bkp_j64_55.2; have := bnf_40.1; have := bnf_40.2; have := bln.1; have := bln.2; have := bx_57_59.1; have := bx_57_59.2; have := bpl.1; have := bpl.2; have : (1 : Int32).toInt = 1 := (by decide); omega) rfl
            · have c_58 := z_ne c_58
              refine lv_aload_n hx hb dX14_texts_72 rfl (lv_at hl 2 rfl) ?_
              refine zt_getk (t := 14) (C := RX14) (T := TX14) (N := 40) Z h hth zin_14 rfl 15 hkp_j64_55 ⟨by decide, rfl, by decide⟩ (zm_RX14 (List.mem_of_getElem? (i := 23) rfl)) (fun _ h9 => h9) dX14_texts_73 ?_
              refine lv_iload_n hx hb dX14_texts_76 rfl (lv_at hl 0 rfl) ?_
              refine lv_icmp_ge (tgt := 170) hx hb dX14_texts_77 (by decide) (fun c_72 => ?_) (fun c_72 => ?_)
              · have c_72 := z_le c_72
                have bx_42_73 : zB 0 600 x_42 := zB.leL c_72 bx_42 bkp_j64_55 (by decide)
                refine lv_aload_n hx hb dX14_texts_170 rfl (lv_at hl 2 rfl) ?_
                refine zt_getk (t := 14) (C := RX14) (T := TX14) (N := 40) Z h hth zin_14 rfl 6 (hfF_56.f hth 6 ⟨by decide, by decide⟩ (hfF_50.f hth 6 ⟨by decide, by decide⟩ (hfF_46.f hth 6 ⟨by decide, by decide⟩ (hfF_45.f hth 6 ⟨by decide, by decide⟩ (hfF_5.f hth 6 ⟨by decide, by decide⟩ (hfF_3.f hth 6 ⟨by decide, by decide⟩ ksp)))))) ⟨by decide, rfl, by decide⟩ (zm_RX14 (List.mem_of_getElem? (i := 57) rfl)) (fun _ h9 => h9) dX14_texts_171 ?_
                refine zt_getkN (t := 11) (C := RX11) (T := TX11) (N := 30) Z h hsp zin_11 rfl 11 (hfF_56.f hsp 11 ⟨by decide, by decide⟩ (hfF_50.f hsp 11 ⟨by decide, by decide⟩ (hfF_46.f hsp 11 ⟨by decide, by decide⟩ (hfF_45.f hsp 11 ⟨by decide, by decide⟩ ka_41)))) ⟨by decide, rfl, by decide⟩ (zn_18 Z) (fun _ h9 => h9) dX14_texts_174 ?_
                refine lv_iload_n hx hb dX14_texts_177 rfl (lv_at hl 1 rfl) ?_
                refine lv_aload_n hx hb dX14_texts_178 rfl (lv_at hl 2 rfl) ?_
                refine zt_getk (t := 14) (C := RX14) (T := TX14) (N := 40) Z h hth zin_14 rfl 6 (hfF_56.f hth 6 ⟨by decide, by decide⟩ (hfF_50.f hth 6 ⟨by decide, by decide⟩ (hfF_46.f hth 6 ⟨by decide, by decide⟩ (hfF_45.f hth 6 ⟨by decide, by decide⟩ (hfF_5.f hth 6 ⟨by decide, by decide⟩ (hfF_3.f hth 6 ⟨by decide, by decide⟩ ksp)))))) ⟨by decide, rfl, by decide⟩ (zm_RX14 (List.mem_of_getElem? (i := 57) rfl)) (fun _ h9 => h9) dX14_texts_179 ?_
                refine zt_getkN (t := 11) (C := RX11) (T := TX11) (N := 30) Z h hsp zin_11 rfl 3 hkt_j64_55 ⟨by decide, rfl, by decide⟩ (zn_29 Z) (fun _ h9 => h9) dX14_texts_182 ?_
                have sa_75 := sa_48.fr hfF_45 (by decide)
                have sa_76 := sa_75.fr hfF_46 (by decide)
                have sa_77 := sa_76.fr hfF_50 (by decide)
                have ar_78 : zar F_56 sp 11 = (zar F_5 sp 11) := ((sa_77.ar hfF_56 11 (by decide)).trans ((sa_76.ar hfF_50 11 (by decide)).trans ((sa_75.ar hfF_46 11 (by decide)).trans ((sa_48.ar hfF_45 11 (by decide)).trans rfl))))
                refine zt_iaste (t := 131) Z h ha_41 ⟨by decide, rfl⟩ by1_j10_4_39 ⟨by decide, by decide⟩ bkt_j64_55 dX14_texts_185 (fun H locs F_74 h hfF_74 eF_74 gF_74 => ?_)
                have uF_74 := (zar_st (hfF_56.f hsp 11 ⟨by decide, by decide⟩ (hfF_50.f hsp 11 ⟨by decide, by decide⟩ (hfF_46.f hsp 11 ⟨by decide, by decide⟩ (hfF_45.f hsp 11 ⟨by decide, by decide⟩ ka_41)))) (hfF_74.f hsp 11 ⟨by decide, by decide⟩ (hfF_56.f hsp 11 ⟨by decide, by decide⟩ (hfF_50.f hsp 11 ⟨by decide, by decide⟩ (hfF_46.f hsp 11 ⟨by decide, by decide⟩ (hfF_45.f hsp 11 ⟨by decide, by decide⟩ ka_41))))) eF_74 gF_74).trans (congrArg (fun z => upd z (Int32.toNatClampNeg y1_j10_4) kt_j64_55) ar_78)
                refine lv_aload_n hx hb dX14_texts_186 rfl (lv_at hl 2 rfl) ?_
                refine zt_getk (t := 14) (C := RX14) (T := TX14) (N := 40) Z h hth zin_14 rfl 6 (hfF_74.f hth 6 ⟨by decide, by decide⟩ (hfF_56.f hth 6 ⟨by decide, by decide⟩ (hfF_50.f hth 6 ⟨by decide, by decide⟩ (hfF_46.f hth 6 ⟨by decide, by decide⟩ (hfF_45.f hth 6 ⟨by decide, by decide⟩ (hfF_5.f hth 6 ⟨by decide, by decide⟩ (hfF_3.f hth 6 ⟨by decide, by decide⟩ ksp))))))) ⟨by decide, rfl, by decide⟩ (zm_RX14 (List.mem_of_getElem? (i := 57) rfl)) (fun _ h9 => h9) dX14_texts_187 ?_
                refine zt_getrN (t := 11) (C := RX11) (T := TX11) (N := 30) Z h hsp zin_11 rfl 9 rfl ⟨by decide, rfl⟩ (zn_31 Z) (fun _ h9 => h9) dX14_texts_190 (fun a_79 ka_79 ha_79 => ?_)
                refine lv_iload_n hx hb dX14_texts_193 rfl (lv_at hl 1 rfl) ?_
                refine lv_iconst (v := 0) hx hb dX14_texts_194 (by decide) ?_
                refine zt_iast (t := 129) Z h ha_79 ⟨by decide, rfl⟩ by1_j10_4_39 ⟨by decide, by decide⟩ (zB.of ⟨by decide, by decide⟩) dX14_texts_195 (fun H locs F_80 h hfF_80 => ?_)
                obtain ⟨x_81, ex_81, bx_81, tx_81⟩ := z_inc (n := 1) (lo := 1) (hi := 10) by1_j10_4_39 (by decide)
                refine lv_iinc (v := x_81) (lv' := [(1, .int x_81), (2, .int x_42), (0, .ref th)]) hx hb dX14_texts_196 hl (k := 1) rfl ex_81 (by decide) rfl (fun ls hl => ?_)
                refine lv_goto (tgt := 10) hx hb dX14_texts_199 (by decide) ?_
                have sa_82 := sa_77.fr hfF_56 (by decide)
                have sa_83 := sa_82.fr hfF_74 (by decide)
                have ar_84 : zar F_80 sp 10 = (upd (zar F_5 sp 10) (Int32.toNatClampNeg y1_j10_4) kt_j10_4) := ((sa_83.ar hfF_80 10 (by decide)).trans ((sa_82.ar hfF_74 10 (by decide)).trans ((sa_77.ar hfF_56 10 (by decide)).trans ((sa_76.ar hfF_50 10 (by decide)).trans uF_46))))
                have ar_85 : zar F_80 sp 11 = (upd (zar F_5 sp 11) (Int32.toNatClampNeg y1_j10_4) kt_j64_55) := ((sa_83.ar hfF_80 11 (by decide)).trans uF_74)
                exact ih_j10_4 _ (by have := bx_81.1; have := bx_81.2; have := bx_42_73.1; have := bx_42_73.2; have := bkt_j64_55.1; have := bkt_j64_55.2; have := bzz.1; have := bzz.2; have := bkp_j64_55.1; have := bkp_j64_55.2; have := bnf_40.1; have := bnf_40.2; have := bln.1; have := bln.2; have := bx_57.1; have := bx_57.2; have := bpl.1; have := bpl.2; have : (1 : Int32).toInt = 1 := (by decide); have := by1_j10_4.1; have := by1_j10_4.2; omega) ls x_81 kt_j64_55 F_80 H locs (lv_sub hl [0, 2] rfl) (bx_81.w ⟨by decide, by decide⟩) h ((((((hfF_5.trans hfF_45 (by decide)).trans hfF_46 (by decide)).trans hfF_50 (by decide)).trans hfF_56 (by decide)).trans hfF_74 (by decide)).trans hfF_80 (by decide)) (hfF_80.f hsp 3 ⟨by decide, by decide⟩ (hfF_74.f hsp 3 ⟨by decide, by decide⟩ hkt_j64_55)) bkt_j64_55 (fun g h9 => ⟨(by have h7 := z_cs (x := y1_j10_4) (y := x_81) (by have := bx_81.1; have := bx_81.2; have := bx_42_73.1; have := bx_42_73.2; have := by1_j10_4_39.1; have := by1_j10_4_39.2; have := bzz.1; have := bzz.2; have := bkp_j64_55.1; have := bkp_j64_55.2; have := bnf_40.1; have := bnf_40.2; have := bln.1; have := bln.2; have := bx_57.1; have := bx_57.2; have := bkt_j64_55.1; have := bkt_j64_55.2; have := bpl.1; have := bpl.2; have : (1 : Int32).toInt = 1 := (by decide); omega) (by have := bx_81.1; have := bx_81.2; have := bx_42_73.1; have := bx_42_73.2; have := by1_j10_4_39.1; have := by1_j10_4_39.2; have := bzz.1; have := bzz.2; have := bkp_j64_55.1; have := bkp_j64_55.2; have := bnf_40.1; have := bnf_40.2; have := bln.1; have := bln.2; have := bx_57.1; have := bx_57.2; have := bkt_j64_55.1; have := bkt_j64_55.2; have := bpl.1; have := bpl.2; have : (1 : Int32).toInt = 1 := (by decide); omega); rw [ar_84]; exact (z_upn (by omega)).trans (r0_j10_4 g (by omega)).1), (by have h7 := z_cs (x := y1_j10_4) (y := x_81) (by have := bx_81.1; have := bx_81.2; have := bx_42_73.1; have := bx_42_73.2; have := by1_j10_4_39.1; have := by1_j10_4_39.2; have := bzz.1; have := bzz.2; have := bkp_j64_55.1; have := bkp_j64_55.2; have := bnf_40.1; have := bnf_40.2; have := bln.1; have := bln.2; have := bx_57.1; have := bx_57.2; have := bkt_j64_55.1; have := bkt_j64_55.2; have := bpl.1; have := bpl.2; have : (1 : Int32).toInt = 1 := (by decide); omega) (by have := bx_81.1; have := bx_81.2; have := bx_42_73.1; have := bx_42_73.2; have := by1_j10_4_39.1; have := by1_j10_4_39.2; have := bzz.1; have := bzz.2; have := bkp_j64_55.1; have := bkp_j64_55.2; have := bnf_40.1; have := bnf_40.2; have := bln.1; have := bln.2; have := bx_57.1; have := bx_57.2; have := bkt_j64_55.1; have := bkt_j64_55.2; have := bpl.1; have := bpl.2; have : (1 : Int32).toInt = 1 := (by decide); omega); rw [ar_85]; exact (z_upn (by omega)).trans (r0_j10_4 g (by omega)).2)⟩) (fun h9 => by have h7 := z_cs (x := y1_j10_4) (y := x_81) (by have := bx_81.1; have := bx_81.2; have := bx_42_73.1; have := bx_42_73.2; have := by1_j10_4_39.1; have := by1_j10_4_39.2; have := bkt_j64_55.1; have := bkt_j64_55.2; have := bzz.1; have := bzz.2; have := bkp_j64_55.1; have := bkp_j64_55.2; have := bnf_40.1; have := bnf_40.2; have := bln.1; have := bln.2; have := bx_57.1; have := bx_57.2; have := bpl.1; have := bpl.2; have : (1 : Int32).toInt = 1 := (by decide); omega) (by have := bx_81.1; have := bx_81.2; have := bx_42_73.1; have := bx_42_73.2; have := by1_j10_4_39.1; have := by1_j10_4_39.2; have := bkt_j64_55.1; have := bkt_j64_55.2; have := bzz.1; have := bzz.2; have := bkp_j64_55.1; have := bkp_j64_55.2; have := bnf_40.1; have := bnf_40.2; have := bln.1; have := bln.2; have := bx_57.1; have := bx_57.2; have := bpl.1; have := bpl.2; have : (1 : Int32).toInt = 1 := (by decide); omega); have h6 := z_cl (x := nf) (by have := bx_81.1; have := bx_81.2; have := bx_42_73.1; have := bx_42_73.2; have := by1_j10_4_39.1; have := by1_j10_4_39.2; have := bkt_j64_55.1; have := bkt_j64_55.2; have := bzz.1; have := bzz.2; have := bkp_j64_55.1; have := bkp_j64_55.2; have := bnf_40.1; have := bnf_40.2; have := bln.1; have := bln.2; have := bx_57.1; have := bx_57.2; have := bpl.1; have := bpl.2; have : (1 : Int32).toInt = 1 := (by decide); omega); have h5 := z_cl (x := y1_j10_4) (by have := bx_81.1; have := bx_81.2; have := bx_42_73.1; have := bx_42_73.2; have := by1_j10_4_39.1; have := by1_j10_4_39.2; have := bkt_j64_55.1; have := bkt_j64_55.2; have := bzz.1; have := bzz.2; have := bkp_j64_55.1; have := bkp_j64_55.2; have := bnf_40.1; have := bnf_40.2; have := bln.1; have := bln.2; have := bx_57.1; have := bx_57.2; have := bpl.1; have := bpl.2; have : (1 : Int32).toInt = 1 := (by decide); omega); have h8 := hr0.2 (Int32.toNatClampNeg y1_j10_4) (by have := bx_81.1; have := bx_81.2; have := bx_42_73.1; have := bx_42_73.2; have := by1_j10_4_39.1; have := by1_j10_4_39.2; have := bkt_j64_55.1; have := bkt_j64_55.2; have := bzz.1; have := bzz.2; have := bkp_j64_55.1; have := bkp_j64_55.2; have := bnf_40.1; have := bnf_40.2; have := bln.1; have := bln.2; have := bx_57.1; have := bx_57.2; have := bpl.1; have := bpl.2; have : (1 : Int32).toInt = 1 := (by decide); omega); rw [e11] at h8; rw [h7]; have := bx_81.1; have := bx_81.2; have := bx_42_73.1; have := bx_42_73.2; have := by1_j10_4_39.1; have := by1_j10_4_39.2; have := bkt_j64_55.1; have := bkt_j64_55.2; have := bzz.1; have := bzz.2; have := bkp_j64_55.1; have := bkp_j64_55.2; have := bnf_40.1; have := bnf_40.2; have := bln.1; have := bln.2; have := bx_57.1; have := bx_57.2; have := bpl.1; have := bpl.2; have : (1 : Int32).toInt = 1 := (by decide); omega) rfl
              · have c_72 := z_nle c_72
                have bx_42_86 : zB 1 1201 x_42 := zB.ltR c_72 bkp_j64_55 bx_42 (by decide)
                obtain ⟨x_87, kx_87, bx_87⟩ := z_learn (j := 13) (lo := 0) (hi := 600) h hth (by decide) rfl
                have hadv := zTk.adv ptk_j64_55 (hfF_56.f hth 12 ⟨by decide, by decide⟩ (hfF_50.f hth 12 ⟨by decide, by decide⟩ (hfF_46.f hth 12 ⟨by decide, by decide⟩ (hfF_45.f hth 12 ⟨by decide, by decide⟩ (hfF_5.f hth 12 ⟨by decide, by decide⟩ (hfF_3.f hth 12 ⟨by decide, by decide⟩ kzz)))))) kx_87 kx_57 hkp_j64_55
                have hx9 := zTk.txt ptk_j64_55 (hfF_56.f hth 12 ⟨by decide, by decide⟩ (hfF_50.f hth 12 ⟨by decide, by decide⟩ (hfF_46.f hth 12 ⟨by decide, by decide⟩ (hfF_45.f hth 12 ⟨by decide, by decide⟩ (hfF_5.f hth 12 ⟨by decide, by decide⟩ (hfF_3.f hth 12 ⟨by decide, by decide⟩ kzz)))))) kx_87 hkp_j64_55
                have hp9 : kp_j64_55.toInt + 1 ≤ x_87.toInt := hx9.1 (by have := bx_42_86.1; have := bx_42_86.2; have := by1_j10_4_39.1; have := by1_j10_4_39.2; have := bkp_j64_55.1; have := bkp_j64_55.2; have := bx_87.1; have := bx_87.2; have := bzz.1; have := bzz.2; have := bnf_40.1; have := bnf_40.2; have := bln.1; have := bln.2; have := bx_57.1; have := bx_57.2; have := bkt_j64_55.1; have := bkt_j64_55.2; have := bpl.1; have := bpl.2; have : (1 : Int32).toInt = 1 := (by decide); omega) (by rw [((((((((hfF_3.w (by decide)).trans hfF_5 (by decide)).trans hfF_45 (by decide)).trans hfF_46 (by decide)).trans hfF_50 (by decide)).trans hfF_56 (by decide)) : zFr Γ [1103, 1413, 1414, 1415, 1416, 1417, 1418, 1421, 12900, 13000, 13100, 14900] F F_56).elf htp (by decide))]; exact hok (Int32.toNatClampNeg kp_j64_55) (by have := z_cl (x := kp_j64_55) (by have := bx_42_86.1; have := bx_42_86.2; have := by1_j10_4_39.1; have := by1_j10_4_39.2; have := bkp_j64_55.1; have := bkp_j64_55.2; have := bx_87.1; have := bx_87.2; have := bzz.1; have := bzz.2; have := bnf_40.1; have := bnf_40.2; have := bln.1; have := bln.2; have := bx_57.1; have := bx_57.2; have := bkt_j64_55.1; have := bkt_j64_55.2; have := bpl.1; have := bpl.2; have : (1 : Int32).toInt = 1 := (by decide); omega); have := bx_42_86.1; have := bx_42_86.2; have := by1_j10_4_39.1; have := by1_j10_4_39.2; have := bkp_j64_55.1; have := bkp_j64_55.2; have := bx_87.1; have := bx_87.2; have := bzz.1; have := bzz.2; have := bnf_40.1; have := bnf_40.2; have := bln.1; have := bln.2; have := bx_57.1; have := bx_57.2; have := bkt_j64_55.1; have := bkt_j64_55.2; have := bpl.1; have := bpl.2; have : (1 : Int32).toInt = 1 := (by decide); omega))
                have ha9 : x_87.toInt ≤ x_42.toInt := by
                  apply Classical.byContradiction
                  intro h8
                  have h7 := hx9.2 (x_42.toInt.toNat - 1) (by have := bx_42_86.1; have := bx_42_86.2; have := by1_j10_4_39.1; have := by1_j10_4_39.2; have := bkp_j64_55.1; have := bkp_j64_55.2; have := bx_87.1; have := bx_87.2; have := bzz.1; have := bzz.2; have := bnf_40.1; have := bnf_40.2; have := bln.1; have := bln.2; have := bx_57.1; have := bx_57.2; have := bkt_j64_55.1; have := bkt_j64_55.2; have := bpl.1; have := bpl.2; have : (1 : Int32).toInt = 1 := (by decide); omega) (by have := bx_42_86.1; have := bx_42_86.2; have := by1_j10_4_39.1; have := by1_j10_4_39.2; have := bkp_j64_55.1; have := bkp_j64_55.2; have := bx_87.1; have := bx_87.2; have := bzz.1; have := bzz.2; have := bnf_40.1; have := bnf_40.2; have := bln.1; have := bln.2; have := bx_57.1; have := bx_57.2; have := bkt_j64_55.1; have := bkt_j64_55.2; have := bpl.1; have := bpl.2; have : (1 : Int32).toInt = 1 := (by decide); omega) (by rw [((((((((hfF_3.w (by decide)).trans hfF_5 (by decide)).trans hfF_45 (by decide)).trans hfF_46 (by decide)).trans hfF_50 (by decide)).trans hfF_56 (by decide)) : zFr Γ [1103, 1413, 1414, 1415, 1416, 1417, 1418, 1421, 12900, 13000, 13100, 14900] F F_56).elf htp (by decide))]; exact hT5)
                  have := bx_42_86.1; have := bx_42_86.2; have := by1_j10_4_39.1; have := by1_j10_4_39.2; have := bkp_j64_55.1; have := bkp_j64_55.2; have := bx_87.1; have := bx_87.2; have := bzz.1; have := bzz.2; have := bnf_40.1; have := bnf_40.2; have := bln.1; have := bln.2; have := bx_57.1; have := bx_57.2; have := bkt_j64_55.1; have := bkt_j64_55.2; have := bpl.1; have := bpl.2; have : (1 : Int32).toInt = 1 := (by decide); omega
                refine lv_aload_n hx hb dX14_texts_80 rfl (lv_at hl 2 rfl) ?_
                refine zt_getk (t := 14) (C := RX14) (T := TX14) (N := 40) Z h hth zin_14 rfl 15 hkp_j64_55 ⟨by decide, rfl, by decide⟩ (zm_RX14 (List.mem_of_getElem? (i := 23) rfl)) (fun _ h9 => h9) dX14_texts_81 ?_
                refine lv_istore_n (lv' := [(3, .int kp_j64_55), (2, .int x_42), (1, .int y1_j10_4), (0, .ref th)]) hx hb dX14_texts_84 rfl hl (by decide) rfl (fun ls hl => ?_)
                have j_j85_88 : ∀ (n : Nat) (ls : Array Slot) (y3_j85_88 : Int32) (ku_j85_88 : Int32) (F_89 : Nat → va_E) (H : Heap) (locs : List Loc), lv_has ls 4 [(3, .int y3_j85_88), (2, .int x_42), (1, .int y1_j10_4), (0, .ref th)] → zB 0 600 y3_j85_88 → zH D k Γ L s F_89 H locs → zFr Γ [1103, 14900] F_56 F_89 → zfld F_89 sp 3 = .int ku_j85_88 → zB 0 1201 ku_j85_88 → (ku_j85_88.toInt = kt_j64_55.toInt + y3_j85_88.toInt - kp_j64_55.toInt) → (kp_j64_55.toInt ≤ y3_j85_88.toInt ∧ y3_j85_88.toInt ≤ x_87.toInt) → (2147483647 - y3_j85_88.toInt).toNat = n → W p l e R s m args below meth c H locs 0 0 Q (F0 m 85 ls []) := by
                  intro n
                  induction n using Nat.strongRecOn with
                  | _ n ih_j85_88 =>
                    intro ls y3_j85_88 ku_j85_88 F_89 H locs hl by3_j85_88 h hfF_89 hku_j85_88 bku_j85_88 r0_j85_88 r1_j85_88 hn_j85_88
                    refine lv_iload_n hx hb dX14_texts_85 rfl (lv_at hl 0 rfl) ?_
                    refine lv_aload_n hx hb dX14_texts_86 rfl (lv_at hl 3 rfl) ?_
                    refine zt_getk (t := 14) (C := RX14) (T := TX14) (N := 40) Z h hth zin_14 rfl 13 (hfF_89.f hth 13 ⟨by decide, by decide⟩ kx_87) ⟨by decide, rfl, by decide⟩ (zm_RX14 (List.mem_of_getElem? (i := 19) rfl)) (fun _ h9 => h9) dX14_texts_87 ?_
                    refine lv_icmp_ge (tgt := 133) hx hb dX14_texts_90 (by decide) (fun c_90 => ?_) (fun c_90 => ?_)
                    · have c_90 := z_le c_90
                      refine lv_aload_n hx hb dX14_texts_133 rfl (lv_at hl 3 rfl) ?_
                      refine zt_getk (t := 14) (C := RX14) (T := TX14) (N := 40) Z h hth zin_14 rfl 6 (hfF_89.f hth 6 ⟨by decide, by decide⟩ (hfF_56.f hth 6 ⟨by decide, by decide⟩ (hfF_50.f hth 6 ⟨by decide, by decide⟩ (hfF_46.f hth 6 ⟨by decide, by decide⟩ (hfF_45.f hth 6 ⟨by decide, by decide⟩ (hfF_5.f hth 6 ⟨by decide, by decide⟩ (hfF_3.f hth 6 ⟨by decide, by decide⟩ ksp))))))) ⟨by decide, rfl, by decide⟩ (zm_RX14 (List.mem_of_getElem? (i := 57) rfl)) (fun _ h9 => h9) dX14_texts_134 ?_
                      refine zt_getrN (t := 11) (C := RX11) (T := TX11) (N := 30) Z h hsp zin_11 rfl 29 rfl ⟨by decide, rfl⟩ (zn_30 Z) (fun _ h9 => h9) dX14_texts_137 (fun a_91 ka_91 ha_91 => ?_)
                      refine lv_aload_n hx hb dX14_texts_140 rfl (lv_at hl 3 rfl) ?_
                      refine zt_getk (t := 14) (C := RX14) (T := TX14) (N := 40) Z h hth zin_14 rfl 6 (hfF_89.f hth 6 ⟨by decide, by decide⟩ (hfF_56.f hth 6 ⟨by decide, by decide⟩ (hfF_50.f hth 6 ⟨by decide, by decide⟩ (hfF_46.f hth 6 ⟨by decide, by decide⟩ (hfF_45.f hth 6 ⟨by decide, by decide⟩ (hfF_5.f hth 6 ⟨by decide, by decide⟩ (hfF_3.f hth 6 ⟨by decide, by decide⟩ ksp))))))) ⟨by decide, rfl, by decide⟩ (zm_RX14 (List.mem_of_getElem? (i := 57) rfl)) (fun _ h9 => h9) dX14_texts_141 ?_
                      refine zt_getkN (t := 11) (C := RX11) (T := TX11) (N := 30) Z h hsp zin_11 rfl 3 hku_j85_88 ⟨by decide, rfl, by decide⟩ (zn_29 Z) (fun _ h9 => h9) dX14_texts_144 ?_
                      refine lv_bipush (v := 32) hx hb dX14_texts_147 (by decide) ?_
                      have bku_j85_88_92 : zB 0 1200 ku_j85_88 := ⟨by have := by3_j85_88.1; have := by3_j85_88.2; have := bx_42_86.1; have := bx_42_86.2; have := by1_j10_4_39.1; have := by1_j10_4_39.2; have := bku_j85_88.1; have := bku_j85_88.2; have := bzz.1; have := bzz.2; have := bkp_j64_55.1; have := bkp_j64_55.2; have := bnf_40.1; have := bnf_40.2; have := bln.1; have := bln.2; have := bx_87.1; have := bx_87.2; have := bx_57.1; have := bx_57.2; have := bpl.1; have := bpl.2; have : (1 : Int32).toInt = 1 := (by decide); have : (32 : Int32).toInt = 32 := (by decide); omega, by have := by3_j85_88.1; have := by3_j85_88.2; have := bx_42_86.1; have := bx_42_86.2; have := by1_j10_4_39.1; have := by1_j10_4_39.2; have := bku_j85_88.1; have := bku_j85_88.2; have := bzz.1; have := bzz.2; have := bkp_j64_55.1; have := bkp_j64_55.2; have := bnf_40.1; have := bnf_40.2; have := bln.1; have := bln.2; have := bx_87.1; have := bx_87.2; have := bx_57.1; have := bx_57.2; have := bpl.1; have := bpl.2; have : (1 : Int32).toInt = 1 := (by decide); have : (32 : Int32).toInt = 32 := (by decide); omega⟩
                      refine zt_bast (t := 149) Z h ha_91 ⟨by decide, rfl⟩ bku_j85_88_92 ⟨by decide, by decide⟩ dX14_texts_149 (fun H locs F_93 h hfF_93 => ?_)
                      refine lv_aload_n hx hb dX14_texts_150 rfl (lv_at hl 3 rfl) ?_
                      refine zt_getk (t := 14) (C := RX14) (T := TX14) (N := 40) Z h hth zin_14 rfl 6 (hfF_93.f hth 6 ⟨by decide, by decide⟩ (hfF_89.f hth 6 ⟨by decide, by decide⟩ (hfF_56.f hth 6 ⟨by decide, by decide⟩ (hfF_50.f hth 6 ⟨by decide, by decide⟩ (hfF_46.f hth 6 ⟨by decide, by decide⟩ (hfF_45.f hth 6 ⟨by decide, by decide⟩ (hfF_5.f hth 6 ⟨by decide, by decide⟩ (hfF_3.f hth 6 ⟨by decide, by decide⟩ ksp)))))))) ⟨by decide, rfl, by decide⟩ (zm_RX14 (List.mem_of_getElem? (i := 57) rfl)) (fun _ h9 => h9) dX14_texts_151 ?_
                      refine lv_dup hx hb dX14_texts_154 rfl ?_
                      refine zt_getkN (t := 11) (C := RX11) (T := TX11) (N := 30) Z h hsp zin_11 rfl 3 (hfF_93.f hsp 3 ⟨by decide, by decide⟩ hku_j85_88) ⟨by decide, rfl, by decide⟩ (zn_29 Z) (fun _ h9 => h9) dX14_texts_155 ?_
                      refine lv_iconst (v := 1) hx hb dX14_texts_158 (by decide) ?_
                      refine lv_iadd hx hb dX14_texts_159 ?_
                      refine zi_add (lo := 1) (hi := 1201) bku_j85_88_92 (zBc 1 1 (by decide)) (by decide) (fun x_94 bx_94 tx_94 => ?_)
                      refine zt_putN (t := 11) (C := RX11) (T := TX11) (N := 30) (v := .int x_94) Z h hsp zin_11 tyX11 tyX11_ok nmX11 rfl 3 rfl ⟨by decide, rfl⟩ (zn_29 Z) (fun _ h9 => h9) rfl (zV.i (bx_94.w ⟨by decide, by decide⟩)) rfl rfl dX14_texts_160 (fun H locs F_95 h hfF_95 kF_95 => ?_)
                      refine lv_aload_n hx hb dX14_texts_163 rfl (lv_at hl 3 rfl) ?_
                      have p_96 := (((ptk_j64_55.fr hfF_89 hth htp (by decide)).fr hfF_93 hth htp (by decide)).fr hfF_95 hth htp (by decide))
                      have q_97 := zTk.adv p_96 (hfF_95.f hth 12 ⟨by decide, by decide⟩ (hfF_93.f hth 12 ⟨by decide, by decide⟩ (hfF_89.f hth 12 ⟨by decide, by decide⟩ (hfF_56.f hth 12 ⟨by decide, by decide⟩ (hfF_50.f hth 12 ⟨by decide, by decide⟩ (hfF_46.f hth 12 ⟨by decide, by decide⟩ (hfF_45.f hth 12 ⟨by decide, by decide⟩ (hfF_5.f hth 12 ⟨by decide, by decide⟩ (hfF_3.f hth 12 ⟨by decide, by decide⟩ kzz))))))))) (hfF_95.f hth 13 ⟨by decide, by decide⟩ (hfF_93.f hth 13 ⟨by decide, by decide⟩ (hfF_89.f hth 13 ⟨by decide, by decide⟩ kx_87))) (hfF_95.f hth 14 ⟨by decide, by decide⟩ (hfF_93.f hth 14 ⟨by decide, by decide⟩ (hfF_89.f hth 14 ⟨by decide, by decide⟩ kx_57))) (hfF_95.f hth 15 ⟨by decide, by decide⟩ (hfF_93.f hth 15 ⟨by decide, by decide⟩ (hfF_89.f hth 15 ⟨by decide, by decide⟩ hkp_j64_55)))
                      refine zk_Vv (As := []) (rest := []) (bytes := cX14_next) (maxL := 3) (ret := none) Z h (zc_X14_next l D k Γ L F_95 H.size th tp x_87 zz hth (hfF_95.f hth 10 ⟨by decide, by decide⟩ (hfF_93.f hth 10 ⟨by decide, by decide⟩ (hfF_89.f hth 10 ⟨by decide, by decide⟩ (hfF_56.f hth 10 ⟨by decide, by decide⟩ (hfF_50.f hth 10 ⟨by decide, by decide⟩ (hfF_46.f hth 10 ⟨by decide, by decide⟩ (hfF_45.f hth 10 ⟨by decide, by decide⟩ (hfF_5.f hth 10 ⟨by decide, by decide⟩ (hfF_3.f hth 10 ⟨by decide, by decide⟩ ktp))))))))) htp (hfF_95.f hth 13 ⟨by decide, by decide⟩ (hfF_93.f hth 13 ⟨by decide, by decide⟩ (hfF_89.f hth 13 ⟨by decide, by decide⟩ kx_87))) bx_87 (hfF_95.f hth 12 ⟨by decide, by decide⟩ (hfF_93.f hth 12 ⟨by decide, by decide⟩ (hfF_89.f hth 12 ⟨by decide, by decide⟩ (hfF_56.f hth 12 ⟨by decide, by decide⟩ (hfF_50.f hth 12 ⟨by decide, by decide⟩ (hfF_46.f hth 12 ⟨by decide, by decide⟩ (hfF_45.f hth 12 ⟨by decide, by decide⟩ (hfF_5.f hth 12 ⟨by decide, by decide⟩ (hfF_3.f hth 12 ⟨by decide, by decide⟩ kzz))))))))) bzz (by have := by3_j85_88.1; have := by3_j85_88.2; have := bx_42_86.1; have := bx_42_86.2; have := by1_j10_4_39.1; have := by1_j10_4_39.2; have := bx_87.1; have := bx_87.2; have := bzz.1; have := bzz.2; have := bkp_j64_55.1; have := bkp_j64_55.2; have := bnf_40.1; have := bnf_40.2; have := bln.1; have := bln.2; have := bx_57.1; have := bx_57.2; have := bx_94.1; have := bx_94.2; have := bpl.1; have := bpl.2; have : (1 : Int32).toInt = 1 := (by decide); omega) (zTk.ok p_96 (hfF_95.f hth 13 ⟨by decide, by decide⟩ (hfF_93.f hth 13 ⟨by decide, by decide⟩ (hfF_89.f hth 13 ⟨by decide, by decide⟩ kx_87))))) (cwV 0 hg zv_RX14_147 rfl rfl rfl zd_X14_next ⟨z_leR hRf (by decide), z_leR hRl (by decide)⟩) hth (by decide) rfl rfl hl.1 rfl (Nat.le_of_ble_eq_true rfl) dX14_texts_164 ⟨Nat.zero_le _, Nat.zero_le _⟩ (fun F_98 H locs w_99 h hfF_98 => ?_)
                      obtain ⟨⟨x_101, kx_101, bx_101, q_100⟩, q_102, -⟩ := w_99
                      refine lv_goto (tgt := 64) hx hb dX14_texts_167 (by decide) ?_
                      exact ih_j64_55 _ (by have := by3_j85_88.1; have := by3_j85_88.2; have := bx_42_86.1; have := bx_42_86.2; have := by1_j10_4_39.1; have := by1_j10_4_39.2; have := bx_101.1; have := bx_101.2; have := bx_94.1; have := bx_94.2; have := bzz.1; have := bzz.2; have := bnf_40.1; have := bnf_40.2; have := bln.1; have := bln.2; have := bpl.1; have := bpl.2; have : (1 : Int32).toInt = 1 := (by decide); omega) ls x_101 x_94 F_98 H locs (lv_sub hl [1, 2, 3] rfl) h ((((hfF_56.trans hfF_89 (by decide)).trans hfF_93 (by decide)).trans hfF_95 (by decide)).trans hfF_98 (by decide)) kx_101 bx_101 (hfF_98.f hsp 3 ⟨by decide, by decide⟩ kF_95) (bx_94.w ⟨by decide, by decide⟩) (by have := by3_j85_88.1; have := by3_j85_88.2; have := bx_42_86.1; have := bx_42_86.2; have := by1_j10_4_39.1; have := by1_j10_4_39.2; have := bx_101.1; have := bx_101.2; have := bx_94.1; have := bx_94.2; have := bzz.1; have := bzz.2; have := bnf_40.1; have := bnf_40.2; have := bln.1; have := bln.2; have := bpl.1; have := bpl.2; have : (1 : Int32).toInt = 1 := (by decide); omega) q_102 rfl
                    · have c_90 := z_nle c_90
                      have by3_j85_88_103 : zB 0 599 y3_j85_88 := zB.ltL c_90 by3_j85_88 bx_87 (by decide)
                      have bx_87_104 : zB 1 600 x_87 := zB.ltR c_90 by3_j85_88 bx_87 (by decide)
                      refine lv_aload_n hx hb dX14_texts_93 rfl (lv_at hl 3 rfl) ?_
                      refine zt_getk (t := 14) (C := RX14) (T := TX14) (N := 40) Z h hth zin_14 rfl 6 (hfF_89.f hth 6 ⟨by decide, by decide⟩ (hfF_56.f hth 6 ⟨by decide, by decide⟩ (hfF_50.f hth 6 ⟨by decide, by decide⟩ (hfF_46.f hth 6 ⟨by decide, by decide⟩ (hfF_45.f hth 6 ⟨by decide, by decide⟩ (hfF_5.f hth 6 ⟨by decide, by decide⟩ (hfF_3.f hth 6 ⟨by decide, by decide⟩ ksp))))))) ⟨by decide, rfl, by decide⟩ (zm_RX14 (List.mem_of_getElem? (i := 57) rfl)) (fun _ h9 => h9) dX14_texts_94 ?_
                      refine zt_getrN (t := 11) (C := RX11) (T := TX11) (N := 30) Z h hsp zin_11 rfl 29 rfl ⟨by decide, rfl⟩ (zn_30 Z) (fun _ h9 => h9) dX14_texts_97 (fun a_105 ka_105 ha_105 => ?_)
                      refine lv_aload_n hx hb dX14_texts_100 rfl (lv_at hl 3 rfl) ?_
                      refine zt_getk (t := 14) (C := RX14) (T := TX14) (N := 40) Z h hth zin_14 rfl 6 (hfF_89.f hth 6 ⟨by decide, by decide⟩ (hfF_56.f hth 6 ⟨by decide, by decide⟩ (hfF_50.f hth 6 ⟨by decide, by decide⟩ (hfF_46.f hth 6 ⟨by decide, by decide⟩ (hfF_45.f hth 6 ⟨by decide, by decide⟩ (hfF_5.f hth 6 ⟨by decide, by decide⟩ (hfF_3.f hth 6 ⟨by decide, by decide⟩ ksp))))))) ⟨by decide, rfl, by decide⟩ (zm_RX14 (List.mem_of_getElem? (i := 57) rfl)) (fun _ h9 => h9) dX14_texts_101 ?_
                      refine zt_getkN (t := 11) (C := RX11) (T := TX11) (N := 30) Z h hsp zin_11 rfl 3 hku_j85_88 ⟨by decide, rfl, by decide⟩ (zn_29 Z) (fun _ h9 => h9) dX14_texts_104 ?_
                      refine lv_aload_n hx hb dX14_texts_107 rfl (lv_at hl 3 rfl) ?_
                      refine zt_getk (t := 14) (C := RX14) (T := TX14) (N := 40) Z h hth zin_14 rfl 10 (hfF_89.f hth 10 ⟨by decide, by decide⟩ (hfF_56.f hth 10 ⟨by decide, by decide⟩ (hfF_50.f hth 10 ⟨by decide, by decide⟩ (hfF_46.f hth 10 ⟨by decide, by decide⟩ (hfF_45.f hth 10 ⟨by decide, by decide⟩ (hfF_5.f hth 10 ⟨by decide, by decide⟩ (hfF_3.f hth 10 ⟨by decide, by decide⟩ ktp))))))) ⟨by decide, rfl, by decide⟩ (zm_RX14 (List.mem_of_getElem? (i := 11) rfl)) (fun _ h9 => h9) dX14_texts_108 ?_
                      refine lv_iload_n hx hb dX14_texts_111 rfl (lv_at hl 0 rfl) ?_
                      refine zt_balde (t := 152) Z h htp ⟨by decide, rfl⟩ by3_j85_88_103 ⟨by decide, by decide⟩ dX14_texts_112 (fun x_106 ex_106 bx_106 => ?_)
                      have bku_j85_88_107 : zB 0 1200 ku_j85_88 := ⟨by have := by3_j85_88_103.1; have := by3_j85_88_103.2; have := bx_42_86.1; have := bx_42_86.2; have := by1_j10_4_39.1; have := by1_j10_4_39.2; have := bx_106.1; have := bx_106.2; have := bku_j85_88.1; have := bku_j85_88.2; have := bzz.1; have := bzz.2; have := bkp_j64_55.1; have := bkp_j64_55.2; have := bnf_40.1; have := bnf_40.2; have := bln.1; have := bln.2; have := bx_87_104.1; have := bx_87_104.2; have := bx_57.1; have := bx_57.2; have := bpl.1; have := bpl.2; have : (1 : Int32).toInt = 1 := (by decide); omega, by have := by3_j85_88_103.1; have := by3_j85_88_103.2; have := bx_42_86.1; have := bx_42_86.2; have := by1_j10_4_39.1; have := by1_j10_4_39.2; have := bx_106.1; have := bx_106.2; have := bku_j85_88.1; have := bku_j85_88.2; have := bzz.1; have := bzz.2; have := bkp_j64_55.1; have := bkp_j64_55.2; have := bnf_40.1; have := bnf_40.2; have := bln.1; have := bln.2; have := bx_87_104.1; have := bx_87_104.2; have := bx_57.1; have := bx_57.2; have := bpl.1; have := bpl.2; have : (1 : Int32).toInt = 1 := (by decide); omega⟩
                      refine zt_bast (t := 149) Z h ha_105 ⟨by decide, rfl⟩ bku_j85_88_107 ⟨by decide, by decide⟩ dX14_texts_113 (fun H locs F_108 h hfF_108 => ?_)
                      refine lv_aload_n hx hb dX14_texts_114 rfl (lv_at hl 3 rfl) ?_
                      refine zt_getk (t := 14) (C := RX14) (T := TX14) (N := 40) Z h hth zin_14 rfl 6 (hfF_108.f hth 6 ⟨by decide, by decide⟩ (hfF_89.f hth 6 ⟨by decide, by decide⟩ (hfF_56.f hth 6 ⟨by decide, by decide⟩ (hfF_50.f hth 6 ⟨by decide, by decide⟩ (hfF_46.f hth 6 ⟨by decide, by decide⟩ (hfF_45.f hth 6 ⟨by decide, by decide⟩ (hfF_5.f hth 6 ⟨by decide, by decide⟩ (hfF_3.f hth 6 ⟨by decide, by decide⟩ ksp)))))))) ⟨by decide, rfl, by decide⟩ (zm_RX14 (List.mem_of_getElem? (i := 57) rfl)) (fun _ h9 => h9) dX14_texts_115 ?_
                      refine lv_dup hx hb dX14_texts_118 rfl ?_
                      refine zt_getkN (t := 11) (C := RX11) (T := TX11) (N := 30) Z h hsp zin_11 rfl 3 (hfF_108.f hsp 3 ⟨by decide, by decide⟩ hku_j85_88) ⟨by decide, rfl, by decide⟩ (zn_29 Z) (fun _ h9 => h9) dX14_texts_119 ?_
                      refine lv_iconst (v := 1) hx hb dX14_texts_122 (by decide) ?_
                      refine lv_iadd hx hb dX14_texts_123 ?_
                      refine zi_add (lo := 1) (hi := 1201) bku_j85_88_107 (zBc 1 1 (by decide)) (by decide) (fun x_109 bx_109 tx_109 => ?_)
                      refine zt_putN (t := 11) (C := RX11) (T := TX11) (N := 30) (v := .int x_109) Z h hsp zin_11 tyX11 tyX11_ok nmX11 rfl 3 rfl ⟨by decide, rfl⟩ (zn_29 Z) (fun _ h9 => h9) rfl (zV.i (bx_109.w ⟨by decide, by decide⟩)) rfl rfl dX14_texts_124 (fun H locs F_110 h hfF_110 kF_110 => ?_)
                      obtain ⟨x_111, ex_111, bx_111, tx_111⟩ := z_inc (n := 1) (lo := 1) (hi := 600) by3_j85_88_103 (by decide)
                      refine lv_iinc (v := x_111) (lv' := [(3, .int x_111), (2, .int x_42), (1, .int y1_j10_4), (0, .ref th)]) hx hb dX14_texts_127 hl (k := 0) rfl ex_111 (by decide) rfl (fun ls hl => ?_)
                      refine lv_goto (tgt := 85) hx hb dX14_texts_130 (by decide) ?_
                      exact ih_j85_88 _ (by have := bx_111.1; have := bx_111.2; have := bx_42_86.1; have := bx_42_86.2; have := by1_j10_4_39.1; have := by1_j10_4_39.2; have := bx_109.1; have := bx_109.2; have := bzz.1; have := bzz.2; have := bkp_j64_55.1; have := bkp_j64_55.2; have := bnf_40.1; have := bnf_40.2; have := bln.1; have := bln.2; have := bx_87_104.1; have := bx_87_104.2; have := bx_57.1; have := bx_57.2; have := bpl.1; have := bpl.2; have : (1 : Int32).toInt = 1 := (by decide); have := by3_j85_88.1; have := by3_j85_88.2; omega) ls x_111 x_109 F_110 H locs (lv_sub hl [0, 1, 2, 3] rfl) (bx_111.w ⟨by decide, by decide⟩) h ((hfF_89.trans hfF_108 (by decide)).trans hfF_110 (by decide)) kF_110 (bx_109.w ⟨by decide, by decide⟩) (by have := bx_111.1; have := bx_111.2; have := bx_42_86.1; have := bx_42_86.2; have := by1_j10_4_39.1; have := by1_j10_4_39.2; have := bx_109.1; have := bx_109.2; have := bzz.1; have := bzz.2; have := bkp_j64_55.1; have := bkp_j64_55.2; have := bnf_40.1; have := bnf_40.2; have := bln.1; have := bln.2; have := bx_87_104.1; have := bx_87_104.2; have := bx_57.1; have := bx_57.2; have := bpl.1; have := bpl.2; have : (1 : Int32).toInt = 1 := (by decide); omega) (by have := bx_111.1; have := bx_111.2; have := bx_42_86.1; have := bx_42_86.2; have := by1_j10_4_39.1; have := by1_j10_4_39.2; have := bx_109.1; have := bx_109.2; have := bzz.1; have := bzz.2; have := bkp_j64_55.1; have := bkp_j64_55.2; have := bnf_40.1; have := bnf_40.2; have := bln.1; have := bln.2; have := bx_87_104.1; have := bx_87_104.2; have := bx_57.1; have := bx_57.2; have := bpl.1; have := bpl.2; have : (1 : Int32).toInt = 1 := (by decide); omega) rfl
                exact j_j85_88 _ ls kp_j64_55 kt_j64_55 F_56 H locs (lv_sub hl [0, 1, 2, 3] rfl) bkp_j64_55 h zFr.rf hkt_j64_55 bkt_j64_55 (by have := bkp_j64_55.1; have := bkp_j64_55.2; have := bx_42_86.1; have := bx_42_86.2; have := by1_j10_4_39.1; have := by1_j10_4_39.2; have := bkt_j64_55.1; have := bkt_j64_55.2; have := bzz.1; have := bzz.2; have := bnf_40.1; have := bnf_40.2; have := bln.1; have := bln.2; have := bx_87.1; have := bx_87.2; have := bx_57.1; have := bx_57.2; have := bpl.1; have := bpl.2; have : (1 : Int32).toInt = 1 := (by decide); omega) (by have := bkp_j64_55.1; have := bkp_j64_55.2; have := bx_42_86.1; have := bx_42_86.2; have := by1_j10_4_39.1; have := by1_j10_4_39.2; have := bkt_j64_55.1; have := bkt_j64_55.2; have := bzz.1; have := bzz.2; have := bnf_40.1; have := bnf_40.2; have := bln.1; have := bln.2; have := bx_87.1; have := bx_87.2; have := bx_57.1; have := bx_57.2; have := bpl.1; have := bpl.2; have : (1 : Int32).toInt = 1 := (by decide); omega) rfl
        exact j_j64_55 _ ls x_53 kt_j10_4 F_50 H locs (lv_sub hl [0, 1, 2] rfl) h zFr.rf kx_53 bx_53 (hfF_50.f hsp 3 ⟨by decide, by decide⟩ (hfF_46.f hsp 3 ⟨by decide, by decide⟩ (hfF_45.f hsp 3 ⟨by decide, by decide⟩ hkt_j10_4))) bkt_j10_4 (by have := bx_42.1; have := bx_42.2; have := by1_j10_4_39.1; have := by1_j10_4_39.2; have := bx_53.1; have := bx_53.2; have := bkt_j10_4.1; have := bkt_j10_4.2; have := bzz.1; have := bzz.2; have := bnf_40.1; have := bnf_40.2; have := bln.1; have := bln.2; have := bpl.1; have := bpl.2; omega) q_54 rfl
  have ar_112 : zar F_3 sp 10 = (zar F sp 10) := (((z_SA h9.2.1 hsp).ar hfF_3 10 (by decide)).trans rfl)
  have ar_113 : zar F_3 sp 11 = (zar F sp 11) := (((z_SA h9.2.1 hsp).ar hfF_3 11 (by decide)).trans rfl)
  exact j_j10_4 _ ls 0 0 F_3 H locs (lv_sub hl [0, 1] rfl) (zB.of ⟨by decide, by decide⟩) h zFr.rf kF_3 (zB.of ⟨by decide, by decide⟩) (fun g _ => ⟨congrFun ar_112 g, congrFun ar_113 g⟩) (fun h9 => by have h8 := (hr0.1 (Int32.toNatClampNeg 0) (by have : Int32.toNatClampNeg 0 = 0 := (by decide); have := z_cl (x := nf) (by have := bzz.1; have := bzz.2; have := bpl.1; have := bpl.2; have := bnf.1; have := bnf.2; have := bln.1; have := bln.2; have := bx_1.1; have := bx_1.2; have := bx_2.1; have := bx_2.2; have : (0 : Int32).toInt = 0 := (by decide); omega); have := bzz.1; have := bzz.2; have := bpl.1; have := bpl.2; have := bnf.1; have := bnf.2; have := bln.1; have := bln.2; have := bx_1.1; have := bx_1.2; have := bx_2.1; have := bx_2.2; have : (0 : Int32).toInt = 0 := (by decide); omega)).2.1; have := bzz.1; have := bzz.2; have := bpl.1; have := bpl.2; have := bnf.1; have := bnf.2; have := bln.1; have := bln.2; have := bx_1.1; have := bx_1.2; have := bx_2.1; have := bx_2.2; have : (0 : Int32).toInt = 0 := (by decide); omega) rfl
