set_option maxHeartbeats 4000000 in
set_option maxRecDepth 100000 in
theorem zc_X11_find (l : Launch) (D : va_G) (k : Nat → ClassId) (Γ : Nat → Option Nat) (L : List Nat) (F : Nat → va_E) (sz : Nat) (th : Nat) (wd : Int64) (nf : Int32) (hth : Γ th = some 11) (knf : zfld F th 0 = .int nf) (bnf : zB 0 10 nf) : Met l yX11_find zwX11_find ({ frames := 0, cells := 0, slots := 0, locals := 0 }) (va_Pc [.ref th, .long wd] (zP D k Γ L F sz)) (va_Qi (fun (r : Int32) (u : Nat → va_E) => F = u ∧ zB (-1) 9 r ∧ r.toInt < nf.toInt ∧ True) (zQ D k Γ L F []) (zA L sz)) 0 0 (zA L sz) := by
  refine Met.ofW (cc := cX11_find) (maxL := 4) (ret := (some .int)) (by decide) rfl ?_
  intro p e s m args below meth c s₁ B hml hv
  obtain ⟨rfl, hsz, hP, hK, hLn, hE, hI⟩ := hv
  have hx := B.exec
  have hb := B.bytes
  have hr := B.returns
  have hg : ∀ w ∈ zG, w.before _ s = true := fun w h9 => atoms_spec (ws := zwX11_find) B.pre w (List.mem_cons_of_mem _ h9)
  have hown : s.vm.findClass RX11 = some m.cls := findClass_of_methodNamed B.named
  have hlocks := B.notSynchronized
  subst hsz
  have Z : zC p m c cX11_find 4 s _ zG RX11 D k L := ⟨⟨hx, hb, hml, hown, hg⟩, hK, hLn, hE⟩
  have h : zH D k Γ L s F s.heap [] := ⟨hP, hI, va_S.rf⟩
  have hl := lv_entry ([.ref th, .long wd]) (n := 4) (Nat.le_of_ble_eq_true rfl)
  rw [lg_entry_eq]
  generalize (lg_sl ([.ref th, .long wd]) ++ List.replicate (4 - (lg_sl ([.ref th, .long wd])).length) Slot.unset).toArray = ls at hl ⊢
  have hl : lv_has ls 4 [(0, .ref th), (1, .long wd)] := hl
  clear hP hK hLn hE hI
  generalize hargs : ([.ref th, .long wd] : List Value).toArray = args at *
  refine z_start (fun R Q hRf hRl hQ => ?_)
  have hRf : R.frames = 0 := hRf
  have hRl : R.locals = 0 := hRl
  have h9 := h
  refine lv_iconst (v := 0) hx hb dX11_find_0 (by decide) ?_
  refine lv_istore_n (lv' := [(3, .int 0), (0, .ref th), (1, .long wd)]) hx hb dX11_find_1 rfl hl (by decide) rfl (fun ls hl => ?_)
  have j_j2_1 : ∀ (n : Nat) (ls : Array Slot) (y3_j2_1 : Int32), lv_has ls 4 [(3, .int y3_j2_1), (0, .ref th), (1, .long wd)] → zB 0 10 y3_j2_1 → (2147483647 - y3_j2_1.toInt).toNat = n → W p l e R s m args below meth c s.heap [] 0 0 Q (F0 m 2 ls []) := by
    intro n
    induction n using Nat.strongRecOn with
    | _ n ih_j2_1 =>
      intro ls y3_j2_1 hl by3_j2_1 hn_j2_1
      refine lv_iload_n hx hb dX11_find_2 rfl (lv_at hl 0 rfl) ?_
      refine lv_aload_n hx hb dX11_find_3 rfl (lv_at hl 1 rfl) ?_
      refine zt_getk (t := 11) (C := RX11) (T := TX11) (N := 30) Z h hth zin_11 rfl 0 knf ⟨by decide, rfl, by decide⟩ (zm_RX11 (List.mem_of_getElem? (i := 2) rfl)) (fun _ h9 => h9) dX11_find_4 ?_
      refine lv_icmp_ge (tgt := 27) hx hb dX11_find_7 (by decide) (fun c_2 => ?_) (fun c_2 => ?_)
      · have c_2 := z_le c_2
        refine lv_iload_n hx hb dX11_find_27 rfl (lv_at hl 0 rfl) ?_
        refine lv_aload_n hx hb dX11_find_28 rfl (lv_at hl 1 rfl) ?_
        refine zt_getk (t := 11) (C := RX11) (T := TX11) (N := 30) Z h hth zin_11 rfl 0 knf ⟨by decide, rfl, by decide⟩ (zm_RX11 (List.mem_of_getElem? (i := 2) rfl)) (fun _ h9 => h9) dX11_find_29 ?_
        refine lv_icmp_ge (tgt := 39) hx hb dX11_find_32 (by decide) (fun c_3 => ?_) (fun c_3 => ?_)
        · have c_3 := z_le c_3
          refine lv_iconst (v := (-1)) hx hb dX11_find_39 (by decide) ?_
          subst hQ
          exact W.iret (v := (-1)) hx hb hr (fun t ht hW => ⟨⟨(-1), F, rfl, ⟨rfl, (zB.of ⟨by decide, by decide⟩), (by have := by3_j2_1.1; have := by3_j2_1.2; have := bnf.1; have := bnf.2; have : ((-1) : Int32).toInt = (-1) := (by decide); omega), trivial⟩, by rw [ht]; exact h.1, h.2.1, zFr.rf⟩, h.2.2.F ht⟩) h.2.2.2.2 dX11_find_40
        · have c_3 := z_nle c_3
          have by3_j2_1_4 : zB 0 9 y3_j2_1 := zB.ltL c_3 by3_j2_1 bnf (by decide)
          have bnf_5 : zB 1 10 nf := zB.ltR c_3 by3_j2_1 bnf (by decide)
          refine lv_iload_n hx hb dX11_find_35 rfl (lv_at hl 0 rfl) ?_
          refine lv_goto (tgt := 40) hx hb dX11_find_36 (by decide) ?_
          subst hQ
          exact W.iret (v := y3_j2_1) hx hb hr (fun t ht hW => ⟨⟨y3_j2_1, F, rfl, ⟨rfl, (by3_j2_1_4.w ⟨by decide, by decide⟩), (by have := by3_j2_1_4.1; have := by3_j2_1_4.2; have := bnf_5.1; have := bnf_5.2; omega), trivial⟩, by rw [ht]; exact h.1, h.2.1, zFr.rf⟩, h.2.2.F ht⟩) h.2.2.2.2 dX11_find_40
      · have c_2 := z_nle c_2
        have by3_j2_1_6 : zB 0 9 y3_j2_1 := zB.ltL c_2 by3_j2_1 bnf (by decide)
        have bnf_7 : zB 1 10 nf := zB.ltR c_2 by3_j2_1 bnf (by decide)
        refine lv_aload_n hx hb dX11_find_10 rfl (lv_at hl 1 rfl) ?_
        refine zt_getr (t := 11) (C := RX11) (T := TX11) (N := 30) Z h hth zin_11 rfl 4 rfl ⟨by decide, rfl⟩ (zm_RX11 (List.mem_of_getElem? (i := 3) rfl)) (fun _ h9 => h9) dX11_find_11 (fun a_8 ka_8 ha_8 => ?_)
        refine lv_iload_n hx hb dX11_find_14 rfl (lv_at hl 0 rfl) ?_
        refine zt_lald (t := 124) Z h ha_8 ⟨by decide, rfl⟩ by3_j2_1_6 ⟨by decide, by decide⟩ dX11_find_15 (fun g_9 => ?_)
        refine lv_lload_n hx hb dX11_find_16 rfl (lv_at hl 2 rfl) ?_
        refine W.lcmp hx hb dX11_find_17 ?_
        refine zi_any (fun x_10 bx_10 ex_10 => ?_)
        refine lv_if_eq (tgt := 27) hx hb dX11_find_18 (by decide) (fun c_11 => ?_) (fun c_11 => ?_)
        · have c_11 := z_eq c_11
          have bx_10_12 : zB 0 0 x_10 := zB.eqL (a := 0) (b := 0) c_11 (zBc 0 0 (by decide))
          refine lv_iload_n hx hb dX11_find_27 rfl (lv_at hl 0 rfl) ?_
          refine lv_aload_n hx hb dX11_find_28 rfl (lv_at hl 1 rfl) ?_
          refine zt_getk (t := 11) (C := RX11) (T := TX11) (N := 30) Z h hth zin_11 rfl 0 knf ⟨by decide, rfl, by decide⟩ (zm_RX11 (List.mem_of_getElem? (i := 2) rfl)) (fun _ h9 => h9) dX11_find_29 ?_
          refine lv_icmp_ge (tgt := 39) hx hb dX11_find_32 (by decide) (fun c_13 => ?_) (fun c_13 => ?_)
          · have c_13 := z_le c_13
            have bnf_14 : zB 1 9 nf := zB.leL c_13 bnf_7 by3_j2_1_6 (by decide)
            have by3_j2_1_15 : zB 1 9 y3_j2_1 := zB.leR c_13 bnf_7 by3_j2_1_6 (by decide)
            refine lv_iconst (v := (-1)) hx hb dX11_find_39 (by decide) ?_
            subst hQ
            exact W.iret (v := (-1)) hx hb hr (fun t ht hW => ⟨⟨(-1), F, rfl, ⟨rfl, (zB.of ⟨by decide, by decide⟩), (by have := by3_j2_1_15.1; have := by3_j2_1_15.2; have := bnf_14.1; have := bnf_14.2; have : ((-1) : Int32).toInt = (-1) := (by decide); have : (0 : Int32).toInt = 0 := (by decide); omega), trivial⟩, by rw [ht]; exact h.1, h.2.1, zFr.rf⟩, h.2.2.F ht⟩) h.2.2.2.2 dX11_find_40
          · have c_13 := z_nle c_13
            refine lv_iload_n hx hb dX11_find_35 rfl (lv_at hl 0 rfl) ?_
            refine lv_goto (tgt := 40) hx hb dX11_find_36 (by decide) ?_
            subst hQ
            exact W.iret (v := y3_j2_1) hx hb hr (fun t ht hW => ⟨⟨y3_j2_1, F, rfl, ⟨rfl, (by3_j2_1_6.w ⟨by decide, by decide⟩), (by have := by3_j2_1_6.1; have := by3_j2_1_6.2; have := bnf_7.1; have := bnf_7.2; have : (0 : Int32).toInt = 0 := (by decide); omega), trivial⟩, by rw [ht]; exact h.1, h.2.1, zFr.rf⟩, h.2.2.F ht⟩) h.2.2.2.2 dX11_find_40
        · have c_11 := z_ne c_11
          obtain ⟨x_16, ex_16, bx_16, tx_16⟩ := z_inc (n := 1) (lo := 1) (hi := 10) by3_j2_1_6 (by decide)
          refine lv_iinc (v := x_16) (lv' := [(3, .int x_16), (0, .ref th), (1, .long wd)]) hx hb dX11_find_21 hl (k := 0) rfl ex_16 (by decide) rfl (fun ls hl => ?_)
          refine lv_goto (tgt := 2) hx hb dX11_find_24 (by decide) ?_
          exact ih_j2_1 _ (by have := bx_16.1; have := bx_16.2; have := bnf_7.1; have := bnf_7.2; have : (0 : Int32).toInt = 0 := (by decide); have := by3_j2_1.1; have := by3_j2_1.2; omega) ls x_16 (lv_sub hl [0, 1, 2] rfl) (bx_16.w ⟨by decide, by decide⟩) rfl
  exact j_j2_1 _ ls 0 (lv_sub hl [0, 1, 2] rfl) (zB.of ⟨by decide, by decide⟩) rfl

set_option maxHeartbeats 4000000 in
set_option maxRecDepth 100000 in
theorem zc_X14_readFunction (l : Launch) (D : va_G) (k : Nat → ClassId) (Γ : Nat → Option Nat) (L : List Nat) (F : Nat → va_E) (sz : Nat) (th : Nat) (tp : Nat) (st : Nat) (pl : Int32) (sp : Nat) (it : Int32) (ln : Int32) (nf : Int32) (hth : Γ th = some 14) (ktp : zfld F th 10 = .ref tp) (htp : Γ tp = some 152) (kst : zfld F th 9 = .ref st) (hst : Γ st = some 13) (p_tk : zTk F th tp) (kpl : zfld F th 15 = .int pl) (bpl : zB 0 600 pl) (ksp : zfld F th 6 = .ref sp) (hsp : Γ sp = some 11) (kit : zfld F sp 2 = .int it) (bit : zB 0 620 it) (kln : zfld F sp 1 = .int ln) (bln : zB 0 60 ln) (knf : zfld F sp 0 = .int nf) (bnf : zB 0 10 nf) (hr0 : it.toInt ≤ pl.toInt) (p_rl : zRL F sp (Int32.toNatClampNeg ln) (Int32.toNatClampNeg it)) (hr1 : zFn F tp sp (Int32.toNatClampNeg nf) (Int32.toNatClampNeg ln) pl.toInt) : vy_Met l yX14_readFunction zwX14_readFunction ({ frames := 138, cells := 0, slots := 0, locals := 5376 }) (va_Pc [.ref th] (zP D k Γ L F sz)) (va_Qv (fun (u : Nat → va_E) => (∃ (p9 : Int32) (i9 : Int32) (l9 : Int32) (f9 : Int32), zfld u th 15 = .int p9 ∧ zB 0 600 p9 ∧ zfld u sp 2 = .int i9 ∧ zB 0 620 i9 ∧ zfld u sp 1 = .int l9 ∧ zB 0 60 l9 ∧ zfld u sp 0 = .int f9 ∧ zB 0 10 f9 ∧ (f9.toInt = nf.toInt + 1 ∧ it.toInt ≤ i9.toInt ∧ i9.toInt - p9.toInt ≤ it.toInt - pl.toInt ∧ pl.toInt + 1 ≤ p9.toInt) ∧ (zRL u sp (Int32.toNatClampNeg l9) (Int32.toNatClampNeg i9)) ∧ (zFn u tp sp (Int32.toNatClampNeg f9) (Int32.toNatClampNeg l9) p9.toInt)) ∧ (zTk u th tp) ∧ True) (zQ D k Γ L F [1100, 1101, 1102, 1306, 1307, 1413, 1414, 1415, 1416, 1417, 1418, 1419, 1420, 1421, 12400, 12500, 12600, 12700, 12800, 13000, 13100, 13200, 13300, 13400, 13500, 13600, 13700, 13800, 13900, 14000, 14100, 14200, 14300, 14400, 14500, 14600, 14700, 14800]) (zA L sz)) (vy_X (fun _ => True) (zX D k Γ L F [1100, 1101, 1102, 1306, 1307, 1413, 1414, 1415, 1416, 1417, 1418, 1419, 1420, 1421, 12400, 12500, 12600, 12700, 12800, 13000, 13100, 13200, 13300, 13400, 13500, 13600, 13700, 13800, 13900, 14000, 14100, 14200, 14300, 14400, 14500, 14600, 14700, 14800] st) (zA L sz)) 0 0 (zA L sz) := by
  refine vy_ofW (cc := cX14_readFunction) (maxL := 5) (ret := none) (by decide) rfl ?_
  intro p e s m args below meth c s₁ B hml ht9 hv
  obtain ⟨rfl, hsz, hP, hK, hLn, hE, hI⟩ := hv
  have hx := B.exec
  have hb := B.bytes
  have hr := B.returns
  have hg : ∀ w ∈ zG, w.before _ s = true := fun w h9 => atoms_spec (ws := zwX14_readFunction) B.pre w (List.mem_cons_of_mem _ h9)
  have hown : s.vm.findClass RX14 = some m.cls := findClass_of_methodNamed B.named
  have hlocks := B.notSynchronized
  subst hsz
  have Z : zC p m c cX14_readFunction 5 s _ zG RX14 D k L := ⟨⟨hx, hb, hml, hown, hg⟩, hK, hLn, hE⟩
  have h : zH D k Γ L s F s.heap [] := ⟨hP, hI, va_S.rf⟩
  have hl := lv_entry ([.ref th]) (n := 5) (Nat.le_of_ble_eq_true rfl)
  rw [lg_entry_eq]
  generalize (lg_sl ([.ref th]) ++ List.replicate (5 - (lg_sl ([.ref th])).length) Slot.unset).toArray = ls at hl ⊢
  have hl : lv_has ls 5 [(0, .ref th)] := hl
  clear hP hK hLn hE hI
  generalize hargs : ([.ref th] : List Value).toArray = args at *
  refine z_start (fun R Q hRf hRl hQ => ?_)
  have hRf : R.frames = 138 := hRf
  have hRl : R.locals = 5376 := hRl
  have h9 := h
  refine lv_aload_n hx hb dX14_readFunction_0 rfl (lv_at hl 0 rfl) ?_
  refine va_ldcS hx hb hown (zsR_6 Z) dX14_readFunction_1 ?_
  refine zk_Vi (As := [.ref (D.2 99 6)]) (rest := []) (bytes := cX14_isWord) (maxL := 2) (ret := (some .boolean)) Z h (zc_X14_isWord l D k Γ L F s.heap.size th 6 (RX14, 152, "def", 3) hth zs_6) (cwV 1 hg zv_RX14_154 rfl rfl rfl zd_X14_isWord ⟨z_leR hRf (by decide), z_leR hRl (by decide)⟩) hth (by decide) rfl rfl hl.1 rfl (Nat.le_of_ble_eq_true rfl) dX14_readFunction_3 ⟨Nat.zero_le _, Nat.zero_le _⟩ (fun r_1 F_2 H locs w_3 h hfF_2 => ?_)
  obtain ⟨rfl, br_1, q_4, -⟩ := w_3
  refine lv_if_ne (tgt := 19) hx hb dX14_readFunction_6 (by decide) (fun c_5 => ?_) (fun c_5 => ?_)
  · obtain ⟨x_6, kx_6, bx_6, q_7⟩ := q_4 c_5
    have c_5 := z_ne c_5
    have br_1_8 : zB 1 1 r_1 := zB.neLo c_5 br_1 (zBc 0 0 (by decide)) (by decide)
    refine lv_aload_n hx hb dX14_readFunction_19 rfl (lv_at hl 0 rfl) ?_
    refine zt_getk (t := 14) (C := RX14) (T := TX14) (N := 40) Z h hth zin_14 rfl 6 ksp ⟨by decide, rfl, by decide⟩ (zm_RX14 (List.mem_of_getElem? (i := 57) rfl)) (fun _ h9 => h9) dX14_readFunction_20 ?_
    refine zt_getkN (t := 11) (C := RX11) (T := TX11) (N := 30) Z h hsp zin_11 rfl 0 knf ⟨by decide, rfl, by decide⟩ (zn_2 Z) (fun _ h9 => h9) dX14_readFunction_23 ?_
    refine lv_bipush (v := 10) hx hb dX14_readFunction_26 (by decide) ?_
    refine lv_icmp_ne (tgt := 41) hx hb dX14_readFunction_28 (by decide) (fun c_9 => ?_) (fun c_9 => ?_)
    · have c_9 := z_ne c_9
      have bnf_10 : zB 0 9 nf := zB.neHi c_9 bnf (zBc 10 10 (by decide)) (by decide)
      refine lv_aload_n hx hb dX14_readFunction_41 rfl (lv_at hl 0 rfl) ?_
      refine zt_getk (t := 14) (C := RX14) (T := TX14) (N := 40) Z h hth zin_14 rfl 6 ksp ⟨by decide, rfl, by decide⟩ (zm_RX14 (List.mem_of_getElem? (i := 57) rfl)) (fun _ h9 => h9) dX14_readFunction_42 ?_
      refine zt_getkN (t := 11) (C := RX11) (T := TX11) (N := 30) Z h hsp zin_11 rfl 0 knf ⟨by decide, rfl, by decide⟩ (zn_2 Z) (fun _ h9 => h9) dX14_readFunction_45 ?_
      refine lv_istore_n (lv' := [(1, .int nf), (0, .ref th)]) hx hb dX14_readFunction_48 rfl hl (by decide) rfl (fun ls hl => ?_)
      refine lv_aload_n hx hb dX14_readFunction_49 rfl (lv_at hl 1 rfl) ?_
      refine zt_getk (t := 14) (C := RX14) (T := TX14) (N := 40) Z h hth zin_14 rfl 6 ksp ⟨by decide, rfl, by decide⟩ (zm_RX14 (List.mem_of_getElem? (i := 57) rfl)) (fun _ h9 => h9) dX14_readFunction_50 ?_
      refine zt_getrN (t := 11) (C := RX11) (T := TX11) (N := 30) Z h hsp zin_11 rfl 10 rfl ⟨by decide, rfl⟩ (zn_11 Z) (fun _ h9 => h9) dX14_readFunction_53 (fun a_11 ka_11 ha_11 => ?_)
      refine lv_iload_n hx hb dX14_readFunction_56 rfl (lv_at hl 0 rfl) ?_
      refine lv_aload_n hx hb dX14_readFunction_57 rfl (lv_at hl 1 rfl) ?_
      refine zt_getk (t := 14) (C := RX14) (T := TX14) (N := 40) Z h hth zin_14 rfl 15 kpl ⟨by decide, rfl, by decide⟩ (zm_RX14 (List.mem_of_getElem? (i := 23) rfl)) (fun _ h9 => h9) dX14_readFunction_58 ?_
      refine zt_iaste (t := 130) Z h ha_11 ⟨by decide, rfl⟩ bnf_10 ⟨by decide, by decide⟩ (bpl.w ⟨by decide, by decide⟩) dX14_readFunction_61 (fun H locs F_12 h hfF_12 eF_12 gF_12 => ?_)
      have uF_12 := (zar_st ka_11 (hfF_12.f hsp 10 ⟨by decide, by decide⟩ ka_11) eF_12 gF_12).trans (congrArg (fun z => upd z (Int32.toNatClampNeg nf) pl) (rfl : zar F sp 10 = (zar F sp 10)))
      refine lv_aload_n hx hb dX14_readFunction_62 rfl (lv_at hl 1 rfl) ?_
      have p_13 := (p_tk.fr hfF_12 hth htp (by decide))
      obtain ⟨x_14, kx_14, bx_14⟩ := z_learn (j := 12) (lo := 0) (hi := 600) h hth (by decide) rfl
      obtain ⟨x_15, kx_15, bx_15⟩ := z_learn (j := 13) (lo := 0) (hi := 600) h hth (by decide) rfl
      have q_16 := zTk.adv p_13 kx_14 kx_15 (hfF_12.f hth 14 ⟨by decide, by decide⟩ kx_6) (hfF_12.f hth 15 ⟨by decide, by decide⟩ kpl)
      refine zk_Vv (As := []) (rest := []) (bytes := cX14_next) (maxL := 3) (ret := none) Z h (zc_X14_next l D k Γ L F_12 H.size th tp x_15 x_14 hth (hfF_12.f hth 10 ⟨by decide, by decide⟩ ktp) htp kx_15 bx_15 kx_14 bx_14 (by have := bnf_10.1; have := bnf_10.2; have := bx_15.1; have := bx_15.2; have := bx_14.1; have := bx_14.2; have := bpl.1; have := bpl.2; have := bit.1; have := bit.2; have := bln.1; have := bln.2; have := bx_6.1; have := bx_6.2; have : (0 : Int32).toInt = 0 := (by decide); have : (10 : Int32).toInt = 10 := (by decide); omega) (zTk.ok p_13 kx_15)) (cwV 0 hg zv_RX14_147 rfl rfl rfl zd_X14_next ⟨z_leR hRf (by decide), z_leR hRl (by decide)⟩) hth (by decide) rfl rfl hl.1 rfl (Nat.le_of_ble_eq_true rfl) dX14_readFunction_63 ⟨Nat.zero_le _, Nat.zero_le _⟩ (fun F_17 H locs w_18 h hfF_17 => ?_)
      obtain ⟨⟨x_20, kx_20, bx_20, q_19⟩, q_21, -⟩ := w_18
      refine lv_aload_n hx hb dX14_readFunction_66 rfl (lv_at hl 1 rfl) ?_
      refine zk_Vi (As := []) (rest := []) (bytes := cX14_isName) (maxL := 1) (ret := (some .boolean)) Z h (zc_X14_isName l D k Γ L F_17 H.size th hth) (cwV 0 hg zv_RX14_211 rfl rfl rfl zd_X14_isName ⟨z_leR hRf (by decide), z_leR hRl (by decide)⟩) hth (by decide) rfl rfl hl.1 rfl (Nat.le_of_ble_eq_true rfl) dX14_readFunction_67 ⟨Nat.zero_le _, Nat.zero_le _⟩ (fun r_22 F_23 H locs w_24 h hfF_23 => ?_)
      obtain ⟨rfl, br_22, q_25, -⟩ := w_24
      refine lv_if_ne (tgt := 83) hx hb dX14_readFunction_70 (by decide) (fun c_26 => ?_) (fun c_26 => ?_)
      · obtain ⟨x_27, kx_27, bx_27, q_28⟩ := q_25 c_26
        have c_26 := z_ne c_26
        have br_22_29 : zB 1 1 r_22 := zB.neLo c_26 br_22 (zBc 0 0 (by decide)) (by decide)
        refine lv_aload_n hx hb dX14_readFunction_83 rfl (lv_at hl 1 rfl) ?_
        refine zt_getk (t := 14) (C := RX14) (T := TX14) (N := 40) Z h hth zin_14 rfl 6 (hfF_17.f hth 6 ⟨by decide, by decide⟩ (hfF_12.f hth 6 ⟨by decide, by decide⟩ ksp)) ⟨by decide, rfl, by decide⟩ (zm_RX14 (List.mem_of_getElem? (i := 57) rfl)) (fun _ h9 => h9) dX14_readFunction_84 ?_
        refine lv_aload_n hx hb dX14_readFunction_87 rfl (lv_at hl 1 rfl) ?_
        refine zt_getl (t := 14) (C := RX14) (T := TX14) (N := 40) Z h hth zin_14 rfl 21 rfl ⟨by decide, rfl⟩ (zm_RX14 (List.mem_of_getElem? (i := 28) rfl)) (fun _ h9 => h9) dX14_readFunction_88 (fun g_30 kg_30 => ?_)
        refine zk_Vi (As := [.long g_30]) (rest := []) (bytes := cX11_find) (maxL := 4) (ret := (some .int)) Z h (zc_X11_find l D k Γ L F_17 H.size sp g_30 nf hsp (hfF_17.f hsp 0 ⟨by decide, by decide⟩ (hfF_12.f hsp 0 ⟨by decide, by decide⟩ knf)) (bnf_10.w ⟨by decide, by decide⟩)) (cwV 1 hg zv_RX14_192 rfl rfl rfl zd_X11_find ⟨z_leR hRf (by decide), z_leR hRl (by decide)⟩) hsp (by decide) rfl rfl hl.1 rfl (Nat.le_of_ble_eq_true rfl) dX14_readFunction_91 ⟨Nat.zero_le _, Nat.zero_le _⟩ (fun r_31 F_32 H locs w_33 h hfF_32 => ?_)
        obtain ⟨rfl, br_31, q_34, -⟩ := w_33
        refine lv_iconst (v := (-1)) hx hb dX14_readFunction_94 (by decide) ?_
        refine lv_icmp_eq (tgt := 108) hx hb dX14_readFunction_95 (by decide) (fun c_35 => ?_) (fun c_35 => ?_)
        · have c_35 := z_eq c_35
          have br_31_36 : zB (-1) (-1) r_31 := zB.eqL (a := 0) (b := 0) c_35 (zBc (-1) (-1) (by decide))
          refine lv_aload_n hx hb dX14_readFunction_108 rfl (lv_at hl 1 rfl) ?_
          refine zt_getk (t := 14) (C := RX14) (T := TX14) (N := 40) Z h hth zin_14 rfl 6 (hfF_17.f hth 6 ⟨by decide, by decide⟩ (hfF_12.f hth 6 ⟨by decide, by decide⟩ ksp)) ⟨by decide, rfl, by decide⟩ (zm_RX14 (List.mem_of_getElem? (i := 57) rfl)) (fun _ h9 => h9) dX14_readFunction_109 ?_
          refine zt_getrN (t := 11) (C := RX11) (T := TX11) (N := 30) Z h hsp zin_11 rfl 4 rfl ⟨by decide, rfl⟩ (zn_12 Z) (fun _ h9 => h9) dX14_readFunction_112 (fun a_37 ka_37 ha_37 => ?_)
          refine lv_iload_n hx hb dX14_readFunction_115 rfl (lv_at hl 0 rfl) ?_
          refine lv_aload_n hx hb dX14_readFunction_116 rfl (lv_at hl 1 rfl) ?_
          refine zt_getk (t := 14) (C := RX14) (T := TX14) (N := 40) Z h hth zin_14 rfl 21 kg_30 ⟨by decide, rfl, by decide⟩ (zm_RX14 (List.mem_of_getElem? (i := 28) rfl)) (fun _ h9 => h9) dX14_readFunction_117 ?_
          refine zt_last (t := 124) Z h ha_37 ⟨by decide, rfl⟩ bnf_10 ⟨by decide, by decide⟩ dX14_readFunction_120 (fun H locs F_38 h hfF_38 => ?_)
          refine lv_aload_n hx hb dX14_readFunction_121 rfl (lv_at hl 1 rfl) ?_
          refine zt_getk (t := 14) (C := RX14) (T := TX14) (N := 40) Z h hth zin_14 rfl 6 (hfF_38.f hth 6 ⟨by decide, by decide⟩ (hfF_17.f hth 6 ⟨by decide, by decide⟩ (hfF_12.f hth 6 ⟨by decide, by decide⟩ ksp))) ⟨by decide, rfl, by decide⟩ (zm_RX14 (List.mem_of_getElem? (i := 57) rfl)) (fun _ h9 => h9) dX14_readFunction_122 ?_
          refine zt_getrN (t := 11) (C := RX11) (T := TX11) (N := 30) Z h hsp zin_11 rfl 5 rfl ⟨by decide, rfl⟩ (zn_13 Z) (fun _ h9 => h9) dX14_readFunction_125 (fun a_39 ka_39 ha_39 => ?_)
          refine lv_iload_n hx hb dX14_readFunction_128 rfl (lv_at hl 0 rfl) ?_
          refine lv_aload_n hx hb dX14_readFunction_129 rfl (lv_at hl 1 rfl) ?_
          refine zt_geti (t := 14) (C := RX14) (T := TX14) (N := 40) Z h hth zin_14 rfl 18 rfl ⟨by decide, rfl⟩ (zm_RX14 (List.mem_of_getElem? (i := 29) rfl)) (fun _ h9 => h9) dX14_readFunction_130 (fun x_40 kx_40 bx_40 => ?_)
          refine zt_iast (t := 125) Z h ha_39 ⟨by decide, rfl⟩ bnf_10 ⟨by decide, by decide⟩ bx_40 dX14_readFunction_133 (fun H locs F_41 h hfF_41 => ?_)
          refine lv_aload_n hx hb dX14_readFunction_134 rfl (lv_at hl 1 rfl) ?_
          refine zt_getk (t := 14) (C := RX14) (T := TX14) (N := 40) Z h hth zin_14 rfl 6 (hfF_41.f hth 6 ⟨by decide, by decide⟩ (hfF_38.f hth 6 ⟨by decide, by decide⟩ (hfF_17.f hth 6 ⟨by decide, by decide⟩ (hfF_12.f hth 6 ⟨by decide, by decide⟩ ksp)))) ⟨by decide, rfl, by decide⟩ (zm_RX14 (List.mem_of_getElem? (i := 57) rfl)) (fun _ h9 => h9) dX14_readFunction_135 ?_
          refine lv_dup hx hb dX14_readFunction_138 rfl ?_
          refine zt_getkN (t := 11) (C := RX11) (T := TX11) (N := 30) Z h hsp zin_11 rfl 0 (hfF_41.f hsp 0 ⟨by decide, by decide⟩ (hfF_38.f hsp 0 ⟨by decide, by decide⟩ (hfF_17.f hsp 0 ⟨by decide, by decide⟩ (hfF_12.f hsp 0 ⟨by decide, by decide⟩ knf)))) ⟨by decide, rfl, by decide⟩ (zn_2 Z) (fun _ h9 => h9) dX14_readFunction_139 ?_
          refine lv_iconst (v := 1) hx hb dX14_readFunction_142 (by decide) ?_
          refine lv_iadd hx hb dX14_readFunction_143 ?_
          refine zi_add (lo := 1) (hi := 10) bnf_10 (zBc 1 1 (by decide)) (by decide) (fun x_42 bx_42 tx_42 => ?_)
          refine zt_putN (t := 11) (C := RX11) (T := TX11) (N := 30) (v := .int x_42) Z h hsp zin_11 tyX11 tyX11_ok nmX11 rfl 0 rfl ⟨by decide, rfl⟩ (zn_2 Z) (fun _ h9 => h9) rfl (zV.i (bx_42.w ⟨by decide, by decide⟩)) rfl rfl dX14_readFunction_144 (fun H locs F_43 h hfF_43 kF_43 => ?_)
          refine lv_aload_n hx hb dX14_readFunction_147 rfl (lv_at hl 1 rfl) ?_
          have p_44 := (((q_21.fr hfF_38 hth htp (by decide)).fr hfF_41 hth htp (by decide)).fr hfF_43 hth htp (by decide))
          obtain ⟨x_45, kx_45, bx_45⟩ := z_learn (j := 13) (lo := 0) (hi := 600) h hth (by decide) rfl
          have q_46 := zTk.adv p_44 (hfF_43.f hth 12 ⟨by decide, by decide⟩ (hfF_41.f hth 12 ⟨by decide, by decide⟩ (hfF_38.f hth 12 ⟨by decide, by decide⟩ (hfF_17.f hth 12 ⟨by decide, by decide⟩ kx_14)))) kx_45 (hfF_43.f hth 14 ⟨by decide, by decide⟩ (hfF_41.f hth 14 ⟨by decide, by decide⟩ (hfF_38.f hth 14 ⟨by decide, by decide⟩ kx_27))) (hfF_43.f hth 15 ⟨by decide, by decide⟩ (hfF_41.f hth 15 ⟨by decide, by decide⟩ (hfF_38.f hth 15 ⟨by decide, by decide⟩ kx_20)))
          refine zk_Vv (As := []) (rest := []) (bytes := cX14_next) (maxL := 3) (ret := none) Z h (zc_X14_next l D k Γ L F_43 H.size th tp x_45 x_14 hth (hfF_43.f hth 10 ⟨by decide, by decide⟩ (hfF_41.f hth 10 ⟨by decide, by decide⟩ (hfF_38.f hth 10 ⟨by decide, by decide⟩ (hfF_17.f hth 10 ⟨by decide, by decide⟩ (hfF_12.f hth 10 ⟨by decide, by decide⟩ ktp))))) htp kx_45 bx_45 (hfF_43.f hth 12 ⟨by decide, by decide⟩ (hfF_41.f hth 12 ⟨by decide, by decide⟩ (hfF_38.f hth 12 ⟨by decide, by decide⟩ (hfF_17.f hth 12 ⟨by decide, by decide⟩ kx_14)))) bx_14 (by have := bnf_10.1; have := bnf_10.2; have := bx_45.1; have := bx_45.2; have := bx_14.1; have := bx_14.2; have := bx_20.1; have := bx_20.2; have := bit.1; have := bit.2; have := bln.1; have := bln.2; have := bx_42.1; have := bx_42.2; have := bx_27.1; have := bx_27.2; have := bx_40.1; have := bx_40.2; have := bpl.1; have := bpl.2; have : ((-1) : Int32).toInt = (-1) := (by decide); have : (0 : Int32).toInt = 0 := (by decide); have : (1 : Int32).toInt = 1 := (by decide); have : (10 : Int32).toInt = 10 := (by decide); omega) (zTk.ok p_44 kx_45)) (cwV 0 hg zv_RX14_147 rfl rfl rfl zd_X14_next ⟨z_leR hRf (by decide), z_leR hRl (by decide)⟩) hth (by decide) rfl rfl hl.1 rfl (Nat.le_of_ble_eq_true rfl) dX14_readFunction_148 ⟨Nat.zero_le _, Nat.zero_le _⟩ (fun F_47 H locs w_48 h hfF_47 => ?_)
          obtain ⟨⟨x_50, kx_50, bx_50, q_49⟩, q_51, -⟩ := w_48
          refine lv_aload_n hx hb dX14_readFunction_151 rfl (lv_at hl 1 rfl) ?_
          refine lv_bipush (v := 40) hx hb dX14_readFunction_152 (by decide) ?_
          refine zx_Vv (As := [.int 40]) (rest := []) (bytes := cX14_need) (maxL := 2) (ret := none) Z h (zc_X14_need l D k Γ L F_47 H.size th 40 tp st x_50 hth (hfF_47.f hth 10 ⟨by decide, by decide⟩ (hfF_43.f hth 10 ⟨by decide, by decide⟩ (hfF_41.f hth 10 ⟨by decide, by decide⟩ (hfF_38.f hth 10 ⟨by decide, by decide⟩ (hfF_17.f hth 10 ⟨by decide, by decide⟩ (hfF_12.f hth 10 ⟨by decide, by decide⟩ ktp)))))) htp (hfF_47.f hth 9 ⟨by decide, by decide⟩ (hfF_43.f hth 9 ⟨by decide, by decide⟩ (hfF_41.f hth 9 ⟨by decide, by decide⟩ (hfF_38.f hth 9 ⟨by decide, by decide⟩ (hfF_17.f hth 9 ⟨by decide, by decide⟩ (hfF_12.f hth 9 ⟨by decide, by decide⟩ kst)))))) hst q_51 kx_50 bx_50) (cwV 1 hg zv_RX14_221 rfl rfl rfl zd_X14_need ⟨z_leR hRf (by decide), z_leR hRl (by decide)⟩) hth (by decide) rfl rfl hl.1 rfl (Nat.le_of_ble_eq_true rfl) dX14_readFunction_154 ⟨Nat.zero_le _, Nat.zero_le _⟩ (fun F_52 H locs h hfF_52 ce hce hcv hcl => ?_) (fun F_52 H locs w_53 h hfF_52 => ?_)
          · subst hQ
            exact zx_out ht9 hlocks h (((((((hfF_12.w (by decide)).trans hfF_17 (by decide)).trans hfF_38 (by decide)).trans hfF_41 (by decide)).trans hfF_43 (by decide)).trans hfF_47 (by decide)).trans hfF_52 (by decide)) hce hcv hcl
          · obtain ⟨⟨x_55, kx_55, bx_55, q_54⟩, q_56, -⟩ := w_53
            refine lv_aload_n hx hb dX14_readFunction_157 rfl (lv_at hl 1 rfl) ?_
            refine zt_getk (t := 14) (C := RX14) (T := TX14) (N := 40) Z h hth zin_14 rfl 6 (hfF_52.f hth 6 ⟨by decide, by decide⟩ (hfF_47.f hth 6 ⟨by decide, by decide⟩ (hfF_43.f hth 6 ⟨by decide, by decide⟩ (hfF_41.f hth 6 ⟨by decide, by decide⟩ (hfF_38.f hth 6 ⟨by decide, by decide⟩ (hfF_17.f hth 6 ⟨by decide, by decide⟩ (hfF_12.f hth 6 ⟨by decide, by decide⟩ ksp))))))) ⟨by decide, rfl, by decide⟩ (zm_RX14 (List.mem_of_getElem? (i := 57) rfl)) (fun _ h9 => h9) dX14_readFunction_158 ?_
            refine zt_getrN (t := 11) (C := RX11) (T := TX11) (N := 30) Z h hsp zin_11 rfl 6 rfl ⟨by decide, rfl⟩ (zn_7 Z) (fun _ h9 => h9) dX14_readFunction_161 (fun a_57 ka_57 ha_57 => ?_)
            refine lv_iload_n hx hb dX14_readFunction_164 rfl (lv_at hl 0 rfl) ?_
            refine lv_iconst (v := 0) hx hb dX14_readFunction_165 (by decide) ?_
            refine zt_iast (t := 126) Z h ha_57 ⟨by decide, rfl⟩ bnf_10 ⟨by decide, by decide⟩ (zB.of ⟨by decide, by decide⟩) dX14_readFunction_166 (fun H locs F_58 h hfF_58 => ?_)
            have j_j181_59 : ∀ (ls : Array Slot) (w0_j181_59 : Int32) (H : Heap) (locs : List Loc), lv_has ls 5 [(1, .int nf), (0, .ref th)] → zB 0 1 w0_j181_59 → zH D k Γ L s F_58 H locs → W p l e R s m args below meth c H locs 0 0 Q (F0 m 181 ls [.int w0_j181_59]) := by
              intro ls w0_j181_59 H locs hl bw0_j181_59 h
              refine lv_istore_n (lv' := [(2, .int w0_j181_59), (1, .int nf), (0, .ref th)]) hx hb dX14_readFunction_181 rfl hl (by decide) rfl (fun ls hl => ?_)
              have j_j182_60 : ∀ (n : Nat) (ls : Array Slot) (y2_j182_60 : Int32) (kp_j182_60 : Int32) (F_61 : Nat → va_E) (H : Heap) (locs : List Loc), lv_has ls 5 [(2, .int y2_j182_60), (1, .int nf), (0, .ref th)] → zB 0 1 y2_j182_60 → zH D k Γ L s F_61 H locs → zFr Γ [1413, 1414, 1415, 1416, 1417, 1418, 1421, 12600, 13200] F_58 F_61 → zfld F_61 th 15 = .int kp_j182_60 → zB 0 600 kp_j182_60 → (pl.toInt + 1 ≤ kp_j182_60.toInt) → zTk F_61 th tp → (2 * (600 - kp_j182_60.toInt) + y2_j182_60.toInt).toNat = n → W p l e R s m args below meth c H locs 0 0 Q (F0 m 182 ls []) := by
                intro n
                induction n using Nat.strongRecOn with
                | _ n ih_j182_60 =>
                  intro ls y2_j182_60 kp_j182_60 F_61 H locs hl by2_j182_60 h hfF_61 hkp_j182_60 bkp_j182_60 r0_j182_60 ptk_j182_60 hn_j182_60
                  refine lv_iload_n hx hb dX14_readFunction_182 rfl (lv_at hl 0 rfl) ?_
                  refine lv_if_eq (tgt := 342) hx hb dX14_readFunction_183 (by decide) (fun c_62 => ?_) (fun c_62 => ?_)
                  · have c_62 := z_eq c_62
                    have by2_j182_60_63 : zB 0 0 y2_j182_60 := zB.eqL (a := 0) (b := 0) c_62 (zBc 0 0 (by decide))
                    refine lv_aload_n hx hb dX14_readFunction_342 rfl (lv_at hl 2 rfl) ?_
                    refine lv_bipush (v := 41) hx hb dX14_readFunction_343 (by decide) ?_
                    refine zx_Vv (As := [.int 41]) (rest := []) (bytes := cX14_need) (maxL := 2) (ret := none) Z h (zc_X14_need l D k Γ L F_61 H.size th 41 tp st kp_j182_60 hth (hfF_61.f hth 10 ⟨by decide, by decide⟩ (hfF_58.f hth 10 ⟨by decide, by decide⟩ (hfF_52.f hth 10 ⟨by decide, by decide⟩ (hfF_47.f hth 10 ⟨by decide, by decide⟩ (hfF_43.f hth 10 ⟨by decide, by decide⟩ (hfF_41.f hth 10 ⟨by decide, by decide⟩ (hfF_38.f hth 10 ⟨by decide, by decide⟩ (hfF_17.f hth 10 ⟨by decide, by decide⟩ (hfF_12.f hth 10 ⟨by decide, by decide⟩ ktp))))))))) htp (hfF_61.f hth 9 ⟨by decide, by decide⟩ (hfF_58.f hth 9 ⟨by decide, by decide⟩ (hfF_52.f hth 9 ⟨by decide, by decide⟩ (hfF_47.f hth 9 ⟨by decide, by decide⟩ (hfF_43.f hth 9 ⟨by decide, by decide⟩ (hfF_41.f hth 9 ⟨by decide, by decide⟩ (hfF_38.f hth 9 ⟨by decide, by decide⟩ (hfF_17.f hth 9 ⟨by decide, by decide⟩ (hfF_12.f hth 9 ⟨by decide, by decide⟩ kst))))))))) hst ptk_j182_60 hkp_j182_60 bkp_j182_60) (cwV 1 hg zv_RX14_221 rfl rfl rfl zd_X14_need ⟨z_leR hRf (by decide), z_leR hRl (by decide)⟩) hth (by decide) rfl rfl hl.1 rfl (Nat.le_of_ble_eq_true rfl) dX14_readFunction_345 ⟨Nat.zero_le _, Nat.zero_le _⟩ (fun F_64 H locs h hfF_64 ce hce hcv hcl => ?_) (fun F_64 H locs w_65 h hfF_64 => ?_)
                    · subst hQ
                      exact zx_out ht9 hlocks h ((((((((((hfF_12.w (by decide)).trans hfF_17 (by decide)).trans hfF_38 (by decide)).trans hfF_41 (by decide)).trans hfF_43 (by decide)).trans hfF_47 (by decide)).trans hfF_52 (by decide)).trans hfF_58 (by decide)).trans hfF_61 (by decide)).trans hfF_64 (by decide)) hce hcv hcl
                    · obtain ⟨⟨x_67, kx_67, bx_67, q_66⟩, q_68, -⟩ := w_65
                      refine lv_aload_n hx hb dX14_readFunction_348 rfl (lv_at hl 2 rfl) ?_
                      refine zt_getk (t := 14) (C := RX14) (T := TX14) (N := 40) Z h hth zin_14 rfl 6 (hfF_64.f hth 6 ⟨by decide, by decide⟩ (hfF_61.f hth 6 ⟨by decide, by decide⟩ (hfF_58.f hth 6 ⟨by decide, by decide⟩ (hfF_52.f hth 6 ⟨by decide, by decide⟩ (hfF_47.f hth 6 ⟨by decide, by decide⟩ (hfF_43.f hth 6 ⟨by decide, by decide⟩ (hfF_41.f hth 6 ⟨by decide, by decide⟩ (hfF_38.f hth 6 ⟨by decide, by decide⟩ (hfF_17.f hth 6 ⟨by decide, by decide⟩ (hfF_12.f hth 6 ⟨by decide, by decide⟩ ksp)))))))))) ⟨by decide, rfl, by decide⟩ (zm_RX14 (List.mem_of_getElem? (i := 57) rfl)) (fun _ h9 => h9) dX14_readFunction_349 ?_
                      refine zt_getrN (t := 11) (C := RX11) (T := TX11) (N := 30) Z h hsp zin_11 rfl 7 rfl ⟨by decide, rfl⟩ (zn_15 Z) (fun _ h9 => h9) dX14_readFunction_352 (fun a_69 ka_69 ha_69 => ?_)
                      refine lv_iload_n hx hb dX14_readFunction_355 rfl (lv_at hl 1 rfl) ?_
                      refine lv_aload_n hx hb dX14_readFunction_356 rfl (lv_at hl 2 rfl) ?_
                      refine zt_getk (t := 14) (C := RX14) (T := TX14) (N := 40) Z h hth zin_14 rfl 6 (hfF_64.f hth 6 ⟨by decide, by decide⟩ (hfF_61.f hth 6 ⟨by decide, by decide⟩ (hfF_58.f hth 6 ⟨by decide, by decide⟩ (hfF_52.f hth 6 ⟨by decide, by decide⟩ (hfF_47.f hth 6 ⟨by decide, by decide⟩ (hfF_43.f hth 6 ⟨by decide, by decide⟩ (hfF_41.f hth 6 ⟨by decide, by decide⟩ (hfF_38.f hth 6 ⟨by decide, by decide⟩ (hfF_17.f hth 6 ⟨by decide, by decide⟩ (hfF_12.f hth 6 ⟨by decide, by decide⟩ ksp)))))))))) ⟨by decide, rfl, by decide⟩ (zm_RX14 (List.mem_of_getElem? (i := 57) rfl)) (fun _ h9 => h9) dX14_readFunction_357 ?_
                      refine zt_getkN (t := 11) (C := RX11) (T := TX11) (N := 30) Z h hsp zin_11 rfl 1 (hfF_64.f hsp 1 ⟨by decide, by decide⟩ (hfF_61.f hsp 1 ⟨by decide, by decide⟩ (hfF_58.f hsp 1 ⟨by decide, by decide⟩ (hfF_52.f hsp 1 ⟨by decide, by decide⟩ (hfF_47.f hsp 1 ⟨by decide, by decide⟩ (hfF_43.f hsp 1 ⟨by decide, by decide⟩ (hfF_41.f hsp 1 ⟨by decide, by decide⟩ (hfF_38.f hsp 1 ⟨by decide, by decide⟩ (hfF_17.f hsp 1 ⟨by decide, by decide⟩ (hfF_12.f hsp 1 ⟨by decide, by decide⟩ kln)))))))))) ⟨by decide, rfl, by decide⟩ (zn_3 Z) (fun _ h9 => h9) dX14_readFunction_360 ?_
                      have sa_71 := (z_SA h9.2.1 hsp).fr hfF_12 (by decide)
                      have sa_72 := sa_71.fr hfF_17 (by decide)
                      have sa_73 := sa_72.fr hfF_38 (by decide)
                      have sa_74 := sa_73.fr hfF_41 (by decide)
                      have sa_75 := sa_74.fr hfF_43 (by decide)
                      have sa_76 := sa_75.fr hfF_47 (by decide)
                      have sa_77 := sa_76.fr hfF_52 (by decide)
                      have sa_78 := sa_77.fr hfF_58 (by decide)
                      have sa_79 := sa_78.fr hfF_61 (by decide)
                      have ar_80 : zar F_64 sp 7 = (zar F sp 7) := ((sa_79.ar hfF_64 7 (by decide)).trans ((sa_78.ar hfF_61 7 (by decide)).trans ((sa_77.ar hfF_58 7 (by decide)).trans ((sa_76.ar hfF_52 7 (by decide)).trans ((sa_75.ar hfF_47 7 (by decide)).trans ((sa_74.ar hfF_43 7 (by decide)).trans ((sa_73.ar hfF_41 7 (by decide)).trans ((sa_72.ar hfF_38 7 (by decide)).trans ((sa_71.ar hfF_17 7 (by decide)).trans (((z_SA h9.2.1 hsp).ar hfF_12 7 (by decide)).trans rfl))))))))))
                      refine zt_iaste (t := 127) Z h ha_69 ⟨by decide, rfl⟩ bnf_10 ⟨by decide, by decide⟩ bln dX14_readFunction_363 (fun H locs F_70 h hfF_70 eF_70 gF_70 => ?_)
                      have uF_70 := (zar_st ka_69 (hfF_70.f hsp 7 ⟨by decide, by decide⟩ ka_69) eF_70 gF_70).trans (congrArg (fun z => upd z (Int32.toNatClampNeg nf) ln) ar_80)
                      refine lv_aload_n hx hb dX14_readFunction_364 rfl (lv_at hl 2 rfl) ?_
                      refine lv_iload_n hx hb dX14_readFunction_365 rfl (lv_at hl 1 rfl) ?_
                      refine lv_iconst (v := (-1)) hx hb dX14_readFunction_366 (by decide) ?_
                      have sa_81 := sa_79.fr hfF_64 (by decide)
                      have ar_82 : zar F_70 sp 11 = (zar F sp 11) := ((sa_81.ar hfF_70 11 (by decide)).trans ((sa_79.ar hfF_64 11 (by decide)).trans ((sa_78.ar hfF_61 11 (by decide)).trans ((sa_77.ar hfF_58 11 (by decide)).trans ((sa_76.ar hfF_52 11 (by decide)).trans ((sa_75.ar hfF_47 11 (by decide)).trans ((sa_74.ar hfF_43 11 (by decide)).trans ((sa_73.ar hfF_41 11 (by decide)).trans ((sa_72.ar hfF_38 11 (by decide)).trans ((sa_71.ar hfF_17 11 (by decide)).trans (((z_SA h9.2.1 hsp).ar hfF_12 11 (by decide)).trans rfl)))))))))))
                      have p_83 := (q_68.fr hfF_70 hth htp (by decide))
                      obtain ⟨x_84, kx_84, bx_84⟩ := z_learn (j := 19) (lo := 0) (hi := 6) h hth (by decide) rfl
                      have rl_85 := (((((((((((p_rl.fr (z_SA h9.2.1 hsp) hfF_12 (by decide)).fr sa_71 hfF_17 (by decide)).fr sa_72 hfF_38 (by decide)).fr sa_73 hfF_41 (by decide)).fr sa_74 hfF_43 (by decide)).fr sa_75 hfF_47 (by decide)).fr sa_76 hfF_52 (by decide)).fr sa_77 hfF_58 (by decide)).fr sa_78 hfF_61 (by decide)).fr sa_79 hfF_64 (by decide)).fr sa_81 hfF_70 (by decide))
                      refine zx_Vi (As := [.int nf, .int (-1)]) (rest := []) (bytes := cX14_readBlock) (maxL := 7) (ret := (some .int)) Z h (zs_rblock l 6 D k Γ L F_70 H.size th nf (-1) tp st x_67 sp x_84 it ln  hth bnf_10 (zB.of ⟨by decide, by decide⟩) (hfF_70.f hth 10 ⟨by decide, by decide⟩ (hfF_64.f hth 10 ⟨by decide, by decide⟩ (hfF_61.f hth 10 ⟨by decide, by decide⟩ (hfF_58.f hth 10 ⟨by decide, by decide⟩ (hfF_52.f hth 10 ⟨by decide, by decide⟩ (hfF_47.f hth 10 ⟨by decide, by decide⟩ (hfF_43.f hth 10 ⟨by decide, by decide⟩ (hfF_41.f hth 10 ⟨by decide, by decide⟩ (hfF_38.f hth 10 ⟨by decide, by decide⟩ (hfF_17.f hth 10 ⟨by decide, by decide⟩ (hfF_12.f hth 10 ⟨by decide, by decide⟩ ktp))))))))))) htp (hfF_70.f hth 9 ⟨by decide, by decide⟩ (hfF_64.f hth 9 ⟨by decide, by decide⟩ (hfF_61.f hth 9 ⟨by decide, by decide⟩ (hfF_58.f hth 9 ⟨by decide, by decide⟩ (hfF_52.f hth 9 ⟨by decide, by decide⟩ (hfF_47.f hth 9 ⟨by decide, by decide⟩ (hfF_43.f hth 9 ⟨by decide, by decide⟩ (hfF_41.f hth 9 ⟨by decide, by decide⟩ (hfF_38.f hth 9 ⟨by decide, by decide⟩ (hfF_17.f hth 9 ⟨by decide, by decide⟩ (hfF_12.f hth 9 ⟨by decide, by decide⟩ kst))))))))))) hst p_83 (hfF_70.f hth 15 ⟨by decide, by decide⟩ kx_67) bx_67 (hfF_70.f hth 6 ⟨by decide, by decide⟩ (hfF_64.f hth 6 ⟨by decide, by decide⟩ (hfF_61.f hth 6 ⟨by decide, by decide⟩ (hfF_58.f hth 6 ⟨by decide, by decide⟩ (hfF_52.f hth 6 ⟨by decide, by decide⟩ (hfF_47.f hth 6 ⟨by decide, by decide⟩ (hfF_43.f hth 6 ⟨by decide, by decide⟩ (hfF_41.f hth 6 ⟨by decide, by decide⟩ (hfF_38.f hth 6 ⟨by decide, by decide⟩ (hfF_17.f hth 6 ⟨by decide, by decide⟩ (hfF_12.f hth 6 ⟨by decide, by decide⟩ ksp))))))))))) hsp kx_84 bx_84 (hfF_70.f hsp 2 ⟨by decide, by decide⟩ (hfF_64.f hsp 2 ⟨by decide, by decide⟩ (hfF_61.f hsp 2 ⟨by decide, by decide⟩ (hfF_58.f hsp 2 ⟨by decide, by decide⟩ (hfF_52.f hsp 2 ⟨by decide, by decide⟩ (hfF_47.f hsp 2 ⟨by decide, by decide⟩ (hfF_43.f hsp 2 ⟨by decide, by decide⟩ (hfF_41.f hsp 2 ⟨by decide, by decide⟩ (hfF_38.f hsp 2 ⟨by decide, by decide⟩ (hfF_17.f hsp 2 ⟨by decide, by decide⟩ (hfF_12.f hsp 2 ⟨by decide, by decide⟩ kit))))))))))) bit (hfF_70.f hsp 1 ⟨by decide, by decide⟩ (hfF_64.f hsp 1 ⟨by decide, by decide⟩ (hfF_61.f hsp 1 ⟨by decide, by decide⟩ (hfF_58.f hsp 1 ⟨by decide, by decide⟩ (hfF_52.f hsp 1 ⟨by decide, by decide⟩ (hfF_47.f hsp 1 ⟨by decide, by decide⟩ (hfF_43.f hsp 1 ⟨by decide, by decide⟩ (hfF_41.f hsp 1 ⟨by decide, by decide⟩ (hfF_38.f hsp 1 ⟨by decide, by decide⟩ (hfF_17.f hsp 1 ⟨by decide, by decide⟩ (hfF_12.f hsp 1 ⟨by decide, by decide⟩ kln))))))))))) bln (by have := by2_j182_60_63.1; have := by2_j182_60_63.2; have := bnf_10.1; have := bnf_10.2; have := bx_67.1; have := bx_67.2; have := bx_84.1; have := bx_84.2; have := bit.1; have := bit.2; have := bln.1; have := bln.2; have := bx_42.1; have := bx_42.2; have := bx_14.1; have := bx_14.2; have := bpl.1; have := bpl.2; have : ((-1) : Int32).toInt = (-1) := (by decide); have : (0 : Int32).toInt = 0 := (by decide); have : (1 : Int32).toInt = 1 := (by decide); have : (10 : Int32).toInt = 10 := (by decide); omega) rl_85 (by have := by2_j182_60_63.1; have := by2_j182_60_63.2; have := bnf_10.1; have := bnf_10.2; have := bx_67.1; have := bx_67.2; have := bx_84.1; have := bx_84.2; have := bit.1; have := bit.2; have := bln.1; have := bln.2; have := bx_42.1; have := bx_42.2; have := bx_14.1; have := bx_14.2; have := bpl.1; have := bpl.2; have : ((-1) : Int32).toInt = (-1) := (by decide); have : (0 : Int32).toInt = 0 := (by decide); have : (1 : Int32).toInt = 1 := (by decide); have : (10 : Int32).toInt = 10 := (by decide); omega) (by have := by2_j182_60_63.1; have := by2_j182_60_63.2; have := bnf_10.1; have := bnf_10.2; have := bx_67.1; have := bx_67.2; have := bx_84.1; have := bx_84.2; have := bit.1; have := bit.2; have := bln.1; have := bln.2; have := bx_42.1; have := bx_42.2; have := bx_14.1; have := bx_14.2; have := bpl.1; have := bpl.2; have : ((-1) : Int32).toInt = (-1) := (by decide); have : (0 : Int32).toInt = 0 := (by decide); have : (1 : Int32).toInt = 1 := (by decide); have : (10 : Int32).toInt = 10 := (by decide); omega)) (cwV 2 hg zv_RX14_233 rfl rfl rfl zd_X14_readBlock ⟨z_leR hRf (by decide), z_leR hRl (by decide)⟩) hth (by decide) rfl rfl hl.1 rfl (Nat.le_of_ble_eq_true rfl) dX14_readFunction_367 ⟨Nat.zero_le _, Nat.zero_le _⟩ (fun F_87 H locs h hfF_87 ce hce hcv hcl => ?_) (fun r_86 F_87 H locs w_88 h hfF_87 => ?_)
                      · subst hQ
                        exact zx_out ht9 hlocks h ((((((((((((hfF_12.w (by decide)).trans hfF_17 (by decide)).trans hfF_38 (by decide)).trans hfF_41 (by decide)).trans hfF_43 (by decide)).trans hfF_47 (by decide)).trans hfF_52 (by decide)).trans hfF_58 (by decide)).trans hfF_61 (by decide)).trans hfF_64 (by decide)).trans hfF_70 (by decide)).trans hfF_87 (by decide)) hce hcv hcl
                      · obtain ⟨br_86, ⟨x_90, x_91, x_92, x_93, kx_90, bx_90, kx_91, bx_91, kx_92, bx_92, kx_93, bx_93, q_89, q_94, q_95, q_96⟩, q_97, q_98, -⟩ := w_88
                        refine lv_pop hx hb dX14_readFunction_370 rfl ?_
                        refine lv_aload_n hx hb dX14_readFunction_371 rfl (lv_at hl 2 rfl) ?_
                        refine zt_getk (t := 14) (C := RX14) (T := TX14) (N := 40) Z h hth zin_14 rfl 6 (hfF_87.f hth 6 ⟨by decide, by decide⟩ (hfF_70.f hth 6 ⟨by decide, by decide⟩ (hfF_64.f hth 6 ⟨by decide, by decide⟩ (hfF_61.f hth 6 ⟨by decide, by decide⟩ (hfF_58.f hth 6 ⟨by decide, by decide⟩ (hfF_52.f hth 6 ⟨by decide, by decide⟩ (hfF_47.f hth 6 ⟨by decide, by decide⟩ (hfF_43.f hth 6 ⟨by decide, by decide⟩ (hfF_41.f hth 6 ⟨by decide, by decide⟩ (hfF_38.f hth 6 ⟨by decide, by decide⟩ (hfF_17.f hth 6 ⟨by decide, by decide⟩ (hfF_12.f hth 6 ⟨by decide, by decide⟩ ksp)))))))))))) ⟨by decide, rfl, by decide⟩ (zm_RX14 (List.mem_of_getElem? (i := 57) rfl)) (fun _ h9 => h9) dX14_readFunction_372 ?_
                        refine zt_getrN (t := 11) (C := RX11) (T := TX11) (N := 30) Z h hsp zin_11 rfl 8 rfl ⟨by decide, rfl⟩ (zn_16 Z) (fun _ h9 => h9) dX14_readFunction_375 (fun a_99 ka_99 ha_99 => ?_)
                        refine lv_iload_n hx hb dX14_readFunction_378 rfl (lv_at hl 1 rfl) ?_
                        refine lv_aload_n hx hb dX14_readFunction_379 rfl (lv_at hl 2 rfl) ?_
                        refine zt_getk (t := 14) (C := RX14) (T := TX14) (N := 40) Z h hth zin_14 rfl 6 (hfF_87.f hth 6 ⟨by decide, by decide⟩ (hfF_70.f hth 6 ⟨by decide, by decide⟩ (hfF_64.f hth 6 ⟨by decide, by decide⟩ (hfF_61.f hth 6 ⟨by decide, by decide⟩ (hfF_58.f hth 6 ⟨by decide, by decide⟩ (hfF_52.f hth 6 ⟨by decide, by decide⟩ (hfF_47.f hth 6 ⟨by decide, by decide⟩ (hfF_43.f hth 6 ⟨by decide, by decide⟩ (hfF_41.f hth 6 ⟨by decide, by decide⟩ (hfF_38.f hth 6 ⟨by decide, by decide⟩ (hfF_17.f hth 6 ⟨by decide, by decide⟩ (hfF_12.f hth 6 ⟨by decide, by decide⟩ ksp)))))))))))) ⟨by decide, rfl, by decide⟩ (zm_RX14 (List.mem_of_getElem? (i := 57) rfl)) (fun _ h9 => h9) dX14_readFunction_380 ?_
                        refine zt_getkN (t := 11) (C := RX11) (T := TX11) (N := 30) Z h hsp zin_11 rfl 1 kx_93 ⟨by decide, rfl, by decide⟩ (zn_3 Z) (fun _ h9 => h9) dX14_readFunction_383 ?_
                        refine lv_aload_n hx hb dX14_readFunction_386 rfl (lv_at hl 2 rfl) ?_
                        refine zt_getk (t := 14) (C := RX14) (T := TX14) (N := 40) Z h hth zin_14 rfl 6 (hfF_87.f hth 6 ⟨by decide, by decide⟩ (hfF_70.f hth 6 ⟨by decide, by decide⟩ (hfF_64.f hth 6 ⟨by decide, by decide⟩ (hfF_61.f hth 6 ⟨by decide, by decide⟩ (hfF_58.f hth 6 ⟨by decide, by decide⟩ (hfF_52.f hth 6 ⟨by decide, by decide⟩ (hfF_47.f hth 6 ⟨by decide, by decide⟩ (hfF_43.f hth 6 ⟨by decide, by decide⟩ (hfF_41.f hth 6 ⟨by decide, by decide⟩ (hfF_38.f hth 6 ⟨by decide, by decide⟩ (hfF_17.f hth 6 ⟨by decide, by decide⟩ (hfF_12.f hth 6 ⟨by decide, by decide⟩ ksp)))))))))))) ⟨by decide, rfl, by decide⟩ (zm_RX14 (List.mem_of_getElem? (i := 57) rfl)) (fun _ h9 => h9) dX14_readFunction_387 ?_
                        refine zt_getkN (t := 11) (C := RX11) (T := TX11) (N := 30) Z h hsp zin_11 rfl 7 (hfF_87.f hsp 7 ⟨by decide, by decide⟩ (hfF_70.f hsp 7 ⟨by decide, by decide⟩ ka_69)) ⟨by decide, rfl, by decide⟩ (zn_15 Z) (fun _ h9 => h9) dX14_readFunction_390 ?_
                        refine lv_iload_n hx hb dX14_readFunction_393 rfl (lv_at hl 1 rfl) ?_
                        refine zt_ialde (t := 127) Z h ha_69 ⟨by decide, rfl⟩ bnf_10 ⟨by decide, by decide⟩ dX14_readFunction_394 (fun x_100 ex_100 bx_100 => ?_)
                        refine lv_isub hx hb dX14_readFunction_395 ?_
                        refine zi_sub (lo := (-60)) (hi := 60) bx_93 bx_100 (by decide) (fun x_101 bx_101 tx_101 => ?_)
                        refine zt_iast (t := 128) Z h ha_99 ⟨by decide, rfl⟩ bnf_10 ⟨by decide, by decide⟩ (bx_101.w ⟨by decide, by decide⟩) dX14_readFunction_396 (fun H locs F_102 h hfF_102 => ?_)
                        have sa_103 := sa_81.fr hfF_70 (by decide)
                        have sa_104 := sa_103.fr hfF_87 (by decide)
                        have rl_105 := (q_94.fr sa_104 hfF_102 (by decide))
                        have ar_106 : zar F_102 sp 7 = (upd (zar F sp 7) (Int32.toNatClampNeg nf) ln) := ((sa_104.ar hfF_102 7 (by decide)).trans ((sa_103.ar hfF_87 7 (by decide)).trans uF_70))
                        have ar_107 : zar F_102 sp 10 = (upd (zar F sp 10) (Int32.toNatClampNeg nf) pl) := ((sa_104.ar hfF_102 10 (by decide)).trans ((sa_103.ar hfF_87 10 (by decide)).trans ((sa_81.ar hfF_70 10 (by decide)).trans ((sa_79.ar hfF_64 10 (by decide)).trans ((sa_78.ar hfF_61 10 (by decide)).trans ((sa_77.ar hfF_58 10 (by decide)).trans ((sa_76.ar hfF_52 10 (by decide)).trans ((sa_75.ar hfF_47 10 (by decide)).trans ((sa_74.ar hfF_43 10 (by decide)).trans ((sa_73.ar hfF_41 10 (by decide)).trans ((sa_72.ar hfF_38 10 (by decide)).trans ((sa_71.ar hfF_17 10 (by decide)).trans uF_12))))))))))))
                        have ar_108 : zar F_102 sp 11 = (zar F_87 sp 11) := ((sa_104.ar hfF_102 11 (by decide)).trans rfl)
                        have p_109 := (q_97.fr hfF_102 hth htp (by decide))
                        subst hQ
                        refine vy_ret ?_
                        exact W.vret hx hb hr (fun t ht hW => ⟨⟨F_102, rfl, ⟨⟨x_90, x_92, x_93, x_42, (hfF_102.f hth 15 ⟨by decide, by decide⟩ kx_90), bx_90, (hfF_102.f hsp 2 ⟨by decide, by decide⟩ kx_92), bx_92, (hfF_102.f hsp 1 ⟨by decide, by decide⟩ kx_93), bx_93, (hfF_102.f hsp 0 ⟨by decide, by decide⟩ (hfF_87.f hsp 0 ⟨by decide, by decide⟩ (hfF_70.f hsp 0 ⟨by decide, by decide⟩ (hfF_64.f hsp 0 ⟨by decide, by decide⟩ (hfF_61.f hsp 0 ⟨by decide, by decide⟩ (hfF_58.f hsp 0 ⟨by decide, by decide⟩ (hfF_52.f hsp 0 ⟨by decide, by decide⟩ (hfF_47.f hsp 0 ⟨by decide, by decide⟩ kF_43)))))))), (bx_42.w ⟨by decide, by decide⟩), (by have := by2_j182_60_63.1; have := by2_j182_60_63.2; have := bnf_10.1; have := bnf_10.2; have := bx_90.1; have := bx_90.2; have := bx_92.1; have := bx_92.2; have := bx_93.1; have := bx_93.2; have := bx_42.1; have := bx_42.2; have := bx_14.1; have := bx_14.2; have := bx_91.1; have := bx_91.2; have := bpl.1; have := bpl.2; have := bit.1; have := bit.2; have := bln.1; have := bln.2; have : ((-1) : Int32).toInt = (-1) := (by decide); have : (0 : Int32).toInt = 0 := (by decide); have : (1 : Int32).toInt = 1 := (by decide); have : (10 : Int32).toInt = 10 := (by decide); omega), rl_105, (zFn.cn (zFn.fun (pB := x_67.toInt) hr1 ar_106 ar_107 (zK.comp (zK.comp (zK.eq ar_82) q_95) (zK.eq ar_108)) (zTT.w q_96 (congrFun ar_108 _) (show zel F_102 tp = zel F_87 tp from ((((((((((((((((hfF_12.w (by decide)).trans hfF_17 (by decide)).trans hfF_38 (by decide)).trans hfF_41 (by decide)).trans hfF_43 (by decide)).trans hfF_47 (by decide)).trans hfF_52 (by decide)).trans hfF_58 (by decide)).trans hfF_61 (by decide)).trans hfF_64 (by decide)).trans hfF_70 (by decide)).trans hfF_87 (by decide)).trans hfF_102 (by decide)) : zFr Γ [1100, 1101, 1102, 1306, 1307, 1413, 1414, 1415, 1416, 1417, 1418, 1419, 1420, 1421, 12400, 12500, 12600, 12700, 12800, 13000, 13100, 13200, 13300, 13400, 13500, 13600, 13700, 13800, 13900, 14000, 14100, 14200, 14300, 14400, 14500, 14600, 14700, 14800] F F_102).elf htp (by decide)) : zel F_102 tp = zel F tp).trans (((((((((((((((hfF_12.w (by decide)).trans hfF_17 (by decide)).trans hfF_38 (by decide)).trans hfF_41 (by decide)).trans hfF_43 (by decide)).trans hfF_47 (by decide)).trans hfF_52 (by decide)).trans hfF_58 (by decide)).trans hfF_61 (by decide)).trans hfF_64 (by decide)).trans hfF_70 (by decide)).trans hfF_87 (by decide)) : zFr Γ [1100, 1101, 1102, 1306, 1307, 1413, 1414, 1415, 1416, 1417, 1418, 1419, 1420, 1421, 12400, 12500, 12600, 12700, 12800, 13000, 13100, 13200, 13300, 13400, 13500, 13600, 13700, 13800, 13900, 14000, 14100, 14200, 14300, 14400, 14500, 14600, 14700, 14800] F F_87).elf htp (by decide)) : zel F_87 tp = zel F tp).symm) ⟨Int.le_refl _, Int.le_refl _⟩) (((((((((((((((hfF_12.w (by decide)).trans hfF_17 (by decide)).trans hfF_38 (by decide)).trans hfF_41 (by decide)).trans hfF_43 (by decide)).trans hfF_47 (by decide)).trans hfF_52 (by decide)).trans hfF_58 (by decide)).trans hfF_61 (by decide)).trans hfF_64 (by decide)).trans hfF_70 (by decide)).trans hfF_87 (by decide)).trans hfF_102 (by decide)) : zFr Γ [1100, 1101, 1102, 1306, 1307, 1413, 1414, 1415, 1416, 1417, 1418, 1419, 1420, 1421, 12400, 12500, 12600, 12700, 12800, 13000, 13100, 13200, 13300, 13400, 13500, 13600, 13700, 13800, 13900, 14000, 14100, 14200, 14300, 14400, 14500, 14600, 14700, 14800] F F_102).elf htp (by decide)) (by have := z_cl (x := x_93) (by have := by2_j182_60_63.1; have := by2_j182_60_63.2; have := bnf_10.1; have := bnf_10.2; have := bx_90.1; have := bx_90.2; have := bx_93.1; have := bx_93.2; have := bx_42.1; have := bx_42.2; have := bln.1; have := bln.2; have := bpl.1; have := bpl.2; have := bx_67.1; have := bx_67.2; have := bx_92.1; have := bx_92.2; have := bx_14.1; have := bx_14.2; have := bx_91.1; have := bx_91.2; have := bit.1; have := bit.2; have : ((-1) : Int32).toInt = (-1) := (by decide); have : (0 : Int32).toInt = 0 := (by decide); have : (1 : Int32).toInt = 1 := (by decide); have : (10 : Int32).toInt = 10 := (by decide); omega); have := by2_j182_60_63.1; have := by2_j182_60_63.2; have := bnf_10.1; have := bnf_10.2; have := bx_90.1; have := bx_90.2; have := bx_93.1; have := bx_93.2; have := bx_42.1; have := bx_42.2; have := bln.1; have := bln.2; have := bpl.1; have := bpl.2; have := bx_67.1; have := bx_67.2; have := bx_92.1; have := bx_92.2; have := bx_14.1; have := bx_14.2; have := bx_91.1; have := bx_91.2; have := bit.1; have := bit.2; have : ((-1) : Int32).toInt = (-1) := (by decide); have : (0 : Int32).toInt = 0 := (by decide); have : (1 : Int32).toInt = 1 := (by decide); have : (10 : Int32).toInt = 10 := (by decide); omega) (by have := z_cl (x := x_93) (by have := by2_j182_60_63.1; have := by2_j182_60_63.2; have := bnf_10.1; have := bnf_10.2; have := bx_90.1; have := bx_90.2; have := bx_93.1; have := bx_93.2; have := bx_42.1; have := bx_42.2; have := bln.1; have := bln.2; have := bpl.1; have := bpl.2; have := bx_67.1; have := bx_67.2; have := bx_92.1; have := bx_92.2; have := bx_14.1; have := bx_14.2; have := bx_91.1; have := bx_91.2; have := bit.1; have := bit.2; have : ((-1) : Int32).toInt = (-1) := (by decide); have : (0 : Int32).toInt = 0 := (by decide); have : (1 : Int32).toInt = 1 := (by decide); have : (10 : Int32).toInt = 10 := (by decide); omega); have := z_cl (x := ln) (by have := by2_j182_60_63.1; have := by2_j182_60_63.2; have := bnf_10.1; have := bnf_10.2; have := bx_90.1; have := bx_90.2; have := bx_93.1; have := bx_93.2; have := bx_42.1; have := bx_42.2; have := bln.1; have := bln.2; have := bpl.1; have := bpl.2; have := bx_67.1; have := bx_67.2; have := bx_92.1; have := bx_92.2; have := bx_14.1; have := bx_14.2; have := bx_91.1; have := bx_91.2; have := bit.1; have := bit.2; have : ((-1) : Int32).toInt = (-1) := (by decide); have : (0 : Int32).toInt = 0 := (by decide); have : (1 : Int32).toInt = 1 := (by decide); have : (10 : Int32).toInt = 10 := (by decide); omega); have := by2_j182_60_63.1; have := by2_j182_60_63.2; have := bnf_10.1; have := bnf_10.2; have := bx_90.1; have := bx_90.2; have := bx_93.1; have := bx_93.2; have := bx_42.1; have := bx_42.2; have := bln.1; have := bln.2; have := bpl.1; have := bpl.2; have := bx_67.1; have := bx_67.2; have := bx_92.1; have := bx_92.2; have := bx_14.1; have := bx_14.2; have := bx_91.1; have := bx_91.2; have := bit.1; have := bit.2; have : ((-1) : Int32).toInt = (-1) := (by decide); have : (0 : Int32).toInt = 0 := (by decide); have : (1 : Int32).toInt = 1 := (by decide); have : (10 : Int32).toInt = 10 := (by decide); omega) rfl (by have := by2_j182_60_63.1; have := by2_j182_60_63.2; have := bnf_10.1; have := bnf_10.2; have := bx_90.1; have := bx_90.2; have := bx_93.1; have := bx_93.2; have := bx_42.1; have := bx_42.2; have := bln.1; have := bln.2; have := bpl.1; have := bpl.2; have := bx_67.1; have := bx_67.2; have := bx_92.1; have := bx_92.2; have := bx_14.1; have := bx_14.2; have := bx_91.1; have := bx_91.2; have := bit.1; have := bit.2; have : ((-1) : Int32).toInt = (-1) := (by decide); have : (0 : Int32).toInt = 0 := (by decide); have : (1 : Int32).toInt = 1 := (by decide); have : (10 : Int32).toInt = 10 := (by decide); omega) (by have := by2_j182_60_63.1; have := by2_j182_60_63.2; have := bnf_10.1; have := bnf_10.2; have := bx_90.1; have := bx_90.2; have := bx_93.1; have := bx_93.2; have := bx_42.1; have := bx_42.2; have := bln.1; have := bln.2; have := bpl.1; have := bpl.2; have := bx_67.1; have := bx_67.2; have := bx_92.1; have := bx_92.2; have := bx_14.1; have := bx_14.2; have := bx_91.1; have := bx_91.2; have := bit.1; have := bit.2; have : ((-1) : Int32).toInt = (-1) := (by decide); have : (0 : Int32).toInt = 0 := (by decide); have : (1 : Int32).toInt = 1 := (by decide); have : (10 : Int32).toInt = 10 := (by decide); omega) (by have := by2_j182_60_63.1; have := by2_j182_60_63.2; have := bnf_10.1; have := bnf_10.2; have := bx_90.1; have := bx_90.2; have := bx_93.1; have := bx_93.2; have := bx_42.1; have := bx_42.2; have := bln.1; have := bln.2; have := bpl.1; have := bpl.2; have := bx_67.1; have := bx_67.2; have := bx_92.1; have := bx_92.2; have := bx_14.1; have := bx_14.2; have := bx_91.1; have := bx_91.2; have := bit.1; have := bit.2; have : ((-1) : Int32).toInt = (-1) := (by decide); have : (0 : Int32).toInt = 0 := (by decide); have : (1 : Int32).toInt = 1 := (by decide); have : (10 : Int32).toInt = 10 := (by decide); omega)) (z_cs (by have := by2_j182_60_63.1; have := by2_j182_60_63.2; have := bnf_10.1; have := bnf_10.2; have := bx_90.1; have := bx_90.2; have := bx_93.1; have := bx_93.2; have := bx_42.1; have := bx_42.2; have := bln.1; have := bln.2; have := bpl.1; have := bpl.2; have := bx_67.1; have := bx_67.2; have := bx_92.1; have := bx_92.2; have := bx_14.1; have := bx_14.2; have := bx_91.1; have := bx_91.2; have := bit.1; have := bit.2; have : ((-1) : Int32).toInt = (-1) := (by decide); have : (0 : Int32).toInt = 0 := (by decide); have : (1 : Int32).toInt = 1 := (by decide); have : (10 : Int32).toInt = 10 := (by decide); omega) (by have := by2_j182_60_63.1; have := by2_j182_60_63.2; have := bnf_10.1; have := bnf_10.2; have := bx_90.1; have := bx_90.2; have := bx_93.1; have := bx_93.2; have := bx_42.1; have := bx_42.2; have := bln.1; have := bln.2; have := bpl.1; have := bpl.2; have := bx_67.1; have := bx_67.2; have := bx_92.1; have := bx_92.2; have := bx_14.1; have := bx_14.2; have := bx_91.1; have := bx_91.2; have := bit.1; have := bit.2; have : ((-1) : Int32).toInt = (-1) := (by decide); have : (0 : Int32).toInt = 0 := (by decide); have : (1 : Int32).toInt = 1 := (by decide); have : (10 : Int32).toInt = 10 := (by decide); omega)))⟩, p_109, trivial⟩, by rw [ht]; exact h.1, h.2.1, (((((((((((((hfF_12.w (by decide)).trans hfF_17 (by decide)).trans hfF_38 (by decide)).trans hfF_41 (by decide)).trans hfF_43 (by decide)).trans hfF_47 (by decide)).trans hfF_52 (by decide)).trans hfF_58 (by decide)).trans hfF_61 (by decide)).trans hfF_64 (by decide)).trans hfF_70 (by decide)).trans hfF_87 (by decide)).trans hfF_102 (by decide))⟩, h.2.2.F ht⟩) h.2.2.2.2 dX14_readFunction_397
                  · have c_62 := z_ne c_62
                    have by2_j182_60_110 : zB 1 1 y2_j182_60 := zB.neLo c_62 by2_j182_60 (zBc 0 0 (by decide)) (by decide)
                    refine lv_aload_n hx hb dX14_readFunction_186 rfl (lv_at hl 2 rfl) ?_
                    refine zk_Vi (As := []) (rest := []) (bytes := cX14_isPlace) (maxL := 1) (ret := (some .boolean)) Z h (zc_X14_isPlace l D k Γ L F_61 H.size th tp hth (hfF_61.f hth 10 ⟨by decide, by decide⟩ (hfF_58.f hth 10 ⟨by decide, by decide⟩ (hfF_52.f hth 10 ⟨by decide, by decide⟩ (hfF_47.f hth 10 ⟨by decide, by decide⟩ (hfF_43.f hth 10 ⟨by decide, by decide⟩ (hfF_41.f hth 10 ⟨by decide, by decide⟩ (hfF_38.f hth 10 ⟨by decide, by decide⟩ (hfF_17.f hth 10 ⟨by decide, by decide⟩ (hfF_12.f hth 10 ⟨by decide, by decide⟩ ktp))))))))) htp ptk_j182_60) (cwV 0 hg zv_RX14_225 rfl rfl rfl zd_X14_isPlace ⟨z_leR hRf (by decide), z_leR hRl (by decide)⟩) hth (by decide) rfl rfl hl.1 rfl (Nat.le_of_ble_eq_true rfl) dX14_readFunction_187 ⟨Nat.zero_le _, Nat.zero_le _⟩ (fun r_111 F_112 H locs w_113 h hfF_112 => ?_)
                    obtain ⟨rfl, br_111, q_114, -⟩ := w_113
                    refine lv_if_ne (tgt := 203) hx hb dX14_readFunction_190 (by decide) (fun c_115 => ?_) (fun c_115 => ?_)
                    · obtain ⟨x_116, g_117, kx_116, hx_116, kg_117, lg_117, mg_117⟩ := q_114 c_115
                      have bx_116 : zB 2 2 x_116 := ⟨by omega, by omega⟩
                      have c_115 := z_ne c_115
                      have br_111_118 : zB 1 1 r_111 := zB.neLo c_115 br_111 (zBc 0 0 (by decide)) (by decide)
                      refine lv_aload_n hx hb dX14_readFunction_203 rfl (lv_at hl 2 rfl) ?_
                      refine zt_getk (t := 14) (C := RX14) (T := TX14) (N := 40) Z h hth zin_14 rfl 21 kg_117 ⟨by decide, rfl, by decide⟩ (zm_RX14 (List.mem_of_getElem? (i := 28) rfl)) (fun _ h9 => h9) dX14_readFunction_204 ?_
                      refine lv_l2i hx hb dX14_readFunction_207 rfl ?_
                      refine zi_any (fun x_119 bx_119 ex_119 => ?_)
                      have tx_119 := z_l2i ex_119 ⟨by have := (And.intro lg_117 mg_117); omega, by have := (And.intro lg_117 mg_117); omega⟩
                      have bx_119 : zB 1 8 x_119 := ⟨by have := (And.intro lg_117 mg_117); omega, by have := (And.intro lg_117 mg_117); omega⟩
                      refine lv_iconst (v := 1) hx hb dX14_readFunction_208 (by decide) ?_
                      refine lv_isub hx hb dX14_readFunction_209 ?_
                      refine zi_sub (lo := 0) (hi := 7) bx_119 (zBc 1 1 (by decide)) (by decide) (fun x_120 bx_120 tx_120 => ?_)
                      refine lv_istore_n (lv' := [(3, .int x_120), (2, .int y2_j182_60), (1, .int nf), (0, .ref th)]) hx hb dX14_readFunction_210 rfl hl (by decide) rfl (fun ls hl => ?_)
                      refine lv_iconst (v := 0) hx hb dX14_readFunction_211 (by decide) ?_
                      refine lv_istore (lv' := [(4, .int 0), (3, .int x_120), (2, .int y2_j182_60), (1, .int nf), (0, .ref th)]) hx hb dX14_readFunction_212 hl (by decide) rfl (fun ls hl => ?_)
                      have j_j214_121 : ∀ (n : Nat) (ls : Array Slot) (y4_j214_121 : Int32), lv_has ls 5 [(4, .int y4_j214_121), (3, .int x_120), (1, .int nf), (0, .ref th)] → zB 0 3 y4_j214_121 → (2147483647 - y4_j214_121.toInt).toNat = n → W p l e R s m args below meth c H locs 0 0 Q (F0 m 214 ls []) := by
                        intro n
                        induction n using Nat.strongRecOn with
                        | _ n ih_j214_121 =>
                          intro ls y4_j214_121 hl by4_j214_121 hn_j214_121
                          refine lv_iload hx hb dX14_readFunction_214 (lv_at hl 0 rfl) ?_
                          refine lv_aload_n hx hb dX14_readFunction_216 rfl (lv_at hl 3 rfl) ?_
                          refine zt_getk (t := 14) (C := RX14) (T := TX14) (N := 40) Z h hth zin_14 rfl 6 (hfF_61.f hth 6 ⟨by decide, by decide⟩ (hfF_58.f hth 6 ⟨by decide, by decide⟩ (hfF_52.f hth 6 ⟨by decide, by decide⟩ (hfF_47.f hth 6 ⟨by decide, by decide⟩ (hfF_43.f hth 6 ⟨by decide, by decide⟩ (hfF_41.f hth 6 ⟨by decide, by decide⟩ (hfF_38.f hth 6 ⟨by decide, by decide⟩ (hfF_17.f hth 6 ⟨by decide, by decide⟩ (hfF_12.f hth 6 ⟨by decide, by decide⟩ ksp))))))))) ⟨by decide, rfl, by decide⟩ (zm_RX14 (List.mem_of_getElem? (i := 57) rfl)) (fun _ h9 => h9) dX14_readFunction_217 ?_
                          refine zt_getkN (t := 11) (C := RX11) (T := TX11) (N := 30) Z h hsp zin_11 rfl 6 (hfF_61.f hsp 6 ⟨by decide, by decide⟩ (hfF_58.f hsp 6 ⟨by decide, by decide⟩ ka_57)) ⟨by decide, rfl, by decide⟩ (zn_7 Z) (fun _ h9 => h9) dX14_readFunction_220 ?_
                          refine lv_iload_n hx hb dX14_readFunction_223 rfl (lv_at hl 2 rfl) ?_
                          refine zt_ialde (t := 126) Z h ha_57 ⟨by decide, rfl⟩ bnf_10 ⟨by decide, by decide⟩ dX14_readFunction_224 (fun x_122 ex_122 bx_122 => ?_)
                          refine lv_icmp_ge (tgt := 262) hx hb dX14_readFunction_225 (by decide) (fun c_123 => ?_) (fun c_123 => ?_)
                          · have c_123 := z_le c_123
                            refine lv_aload_n hx hb dX14_readFunction_262 rfl (lv_at hl 3 rfl) ?_
                            refine zt_getk (t := 14) (C := RX14) (T := TX14) (N := 40) Z h hth zin_14 rfl 6 (hfF_61.f hth 6 ⟨by decide, by decide⟩ (hfF_58.f hth 6 ⟨by decide, by decide⟩ (hfF_52.f hth 6 ⟨by decide, by decide⟩ (hfF_47.f hth 6 ⟨by decide, by decide⟩ (hfF_43.f hth 6 ⟨by decide, by decide⟩ (hfF_41.f hth 6 ⟨by decide, by decide⟩ (hfF_38.f hth 6 ⟨by decide, by decide⟩ (hfF_17.f hth 6 ⟨by decide, by decide⟩ (hfF_12.f hth 6 ⟨by decide, by decide⟩ ksp))))))))) ⟨by decide, rfl, by decide⟩ (zm_RX14 (List.mem_of_getElem? (i := 57) rfl)) (fun _ h9 => h9) dX14_readFunction_263 ?_
                            refine zt_getkN (t := 11) (C := RX11) (T := TX11) (N := 30) Z h hsp zin_11 rfl 6 (hfF_61.f hsp 6 ⟨by decide, by decide⟩ (hfF_58.f hsp 6 ⟨by decide, by decide⟩ ka_57)) ⟨by decide, rfl, by decide⟩ (zn_7 Z) (fun _ h9 => h9) dX14_readFunction_266 ?_
                            refine lv_iload_n hx hb dX14_readFunction_269 rfl (lv_at hl 2 rfl) ?_
                            refine zt_ialdk (t := 126) Z h ha_57 ⟨by decide, rfl⟩ bnf_10 ⟨by decide, by decide⟩ ex_122 dX14_readFunction_270 ?_
                            refine lv_iconst (v := 3) hx hb dX14_readFunction_271 (by decide) ?_
                            refine lv_icmp_ne (tgt := 285) hx hb dX14_readFunction_272 (by decide) (fun c_124 => ?_) (fun c_124 => ?_)
                            · have c_124 := z_ne c_124
                              have bx_122_125 : zB 0 2 x_122 := zB.neHi c_124 bx_122 (zBc 3 3 (by decide)) (by decide)
                              refine lv_aload_n hx hb dX14_readFunction_285 rfl (lv_at hl 3 rfl) ?_
                              refine zt_getk (t := 14) (C := RX14) (T := TX14) (N := 40) Z h hth zin_14 rfl 6 (hfF_61.f hth 6 ⟨by decide, by decide⟩ (hfF_58.f hth 6 ⟨by decide, by decide⟩ (hfF_52.f hth 6 ⟨by decide, by decide⟩ (hfF_47.f hth 6 ⟨by decide, by decide⟩ (hfF_43.f hth 6 ⟨by decide, by decide⟩ (hfF_41.f hth 6 ⟨by decide, by decide⟩ (hfF_38.f hth 6 ⟨by decide, by decide⟩ (hfF_17.f hth 6 ⟨by decide, by decide⟩ (hfF_12.f hth 6 ⟨by decide, by decide⟩ ksp))))))))) ⟨by decide, rfl, by decide⟩ (zm_RX14 (List.mem_of_getElem? (i := 57) rfl)) (fun _ h9 => h9) dX14_readFunction_286 ?_
                              refine zt_getrN (t := 11) (C := RX11) (T := TX11) (N := 30) Z h hsp zin_11 rfl 12 rfl ⟨by decide, rfl⟩ (zn_14 Z) (fun _ h9 => h9) dX14_readFunction_289 (fun a_126 ka_126 ha_126 => ?_)
                              refine lv_iconst (v := 3) hx hb dX14_readFunction_292 (by decide) ?_
                              refine lv_iload_n hx hb dX14_readFunction_293 rfl (lv_at hl 2 rfl) ?_
                              refine lv_imul hx hb dX14_readFunction_294 ?_
                              refine zi_mul ((zBc 3 3 (by decide)).w ⟨by decide, by decide⟩ : zB 0 3 _) bnf_10 (by decide) (fun x_127 bx_127 tx_127 => ?_)
                              have bx_127 : zB 0 27 x_127 := bx_127
                              refine lv_aload_n hx hb dX14_readFunction_295 rfl (lv_at hl 3 rfl) ?_
                              refine zt_getk (t := 14) (C := RX14) (T := TX14) (N := 40) Z h hth zin_14 rfl 6 (hfF_61.f hth 6 ⟨by decide, by decide⟩ (hfF_58.f hth 6 ⟨by decide, by decide⟩ (hfF_52.f hth 6 ⟨by decide, by decide⟩ (hfF_47.f hth 6 ⟨by decide, by decide⟩ (hfF_43.f hth 6 ⟨by decide, by decide⟩ (hfF_41.f hth 6 ⟨by decide, by decide⟩ (hfF_38.f hth 6 ⟨by decide, by decide⟩ (hfF_17.f hth 6 ⟨by decide, by decide⟩ (hfF_12.f hth 6 ⟨by decide, by decide⟩ ksp))))))))) ⟨by decide, rfl, by decide⟩ (zm_RX14 (List.mem_of_getElem? (i := 57) rfl)) (fun _ h9 => h9) dX14_readFunction_296 ?_
                              refine zt_getkN (t := 11) (C := RX11) (T := TX11) (N := 30) Z h hsp zin_11 rfl 6 (hfF_61.f hsp 6 ⟨by decide, by decide⟩ (hfF_58.f hsp 6 ⟨by decide, by decide⟩ ka_57)) ⟨by decide, rfl, by decide⟩ (zn_7 Z) (fun _ h9 => h9) dX14_readFunction_299 ?_
                              refine lv_iload_n hx hb dX14_readFunction_302 rfl (lv_at hl 2 rfl) ?_
                              refine zt_ialdk (t := 126) Z h ha_57 ⟨by decide, rfl⟩ bnf_10 ⟨by decide, by decide⟩ ex_122 dX14_readFunction_303 ?_
                              refine lv_iadd hx hb dX14_readFunction_304 ?_
                              refine zi_add (lo := 0) (hi := 29) bx_127 bx_122_125 (by decide) (fun x_128 bx_128 tx_128 => ?_)
                              refine lv_iload_n hx hb dX14_readFunction_305 rfl (lv_at hl 1 rfl) ?_
                              refine zt_iast (t := 132) Z h ha_126 ⟨by decide, rfl⟩ bx_128 ⟨by decide, by decide⟩ bx_120 dX14_readFunction_306 (fun H locs F_129 h hfF_129 => ?_)
                              refine lv_aload_n hx hb dX14_readFunction_307 rfl (lv_at hl 3 rfl) ?_
                              refine zt_getk (t := 14) (C := RX14) (T := TX14) (N := 40) Z h hth zin_14 rfl 6 (hfF_129.f hth 6 ⟨by decide, by decide⟩ (hfF_61.f hth 6 ⟨by decide, by decide⟩ (hfF_58.f hth 6 ⟨by decide, by decide⟩ (hfF_52.f hth 6 ⟨by decide, by decide⟩ (hfF_47.f hth 6 ⟨by decide, by decide⟩ (hfF_43.f hth 6 ⟨by decide, by decide⟩ (hfF_41.f hth 6 ⟨by decide, by decide⟩ (hfF_38.f hth 6 ⟨by decide, by decide⟩ (hfF_17.f hth 6 ⟨by decide, by decide⟩ (hfF_12.f hth 6 ⟨by decide, by decide⟩ ksp)))))))))) ⟨by decide, rfl, by decide⟩ (zm_RX14 (List.mem_of_getElem? (i := 57) rfl)) (fun _ h9 => h9) dX14_readFunction_308 ?_
                              refine zt_getkN (t := 11) (C := RX11) (T := TX11) (N := 30) Z h hsp zin_11 rfl 6 (hfF_129.f hsp 6 ⟨by decide, by decide⟩ (hfF_61.f hsp 6 ⟨by decide, by decide⟩ (hfF_58.f hsp 6 ⟨by decide, by decide⟩ ka_57))) ⟨by decide, rfl, by decide⟩ (zn_7 Z) (fun _ h9 => h9) dX14_readFunction_311 ?_
                              refine lv_iload_n hx hb dX14_readFunction_314 rfl (lv_at hl 2 rfl) ?_
                              refine lv_dup2_11 hx hb dX14_readFunction_315 rfl rfl ?_
                              refine zt_ialdk (t := 126) Z h ha_57 ⟨by decide, rfl⟩ bnf_10 ⟨by decide, by decide⟩ (hfF_129.el ha_57 ⟨by decide, by decide⟩ ex_122) dX14_readFunction_316 ?_
                              refine lv_iconst (v := 1) hx hb dX14_readFunction_317 (by decide) ?_
                              refine lv_iadd hx hb dX14_readFunction_318 ?_
                              refine zi_add (lo := 1) (hi := 3) bx_122_125 (zBc 1 1 (by decide)) (by decide) (fun x_130 bx_130 tx_130 => ?_)
                              refine zt_iast (t := 126) Z h ha_57 ⟨by decide, rfl⟩ bnf_10 ⟨by decide, by decide⟩ (bx_130.w ⟨by decide, by decide⟩) dX14_readFunction_319 (fun H locs F_131 h hfF_131 => ?_)
                              refine lv_aload_n hx hb dX14_readFunction_320 rfl (lv_at hl 3 rfl) ?_
                              have p_132 := ((ptk_j182_60.fr hfF_129 hth htp (by decide)).fr hfF_131 hth htp (by decide))
                              obtain ⟨x_133, kx_133, bx_133⟩ := z_learn (j := 13) (lo := 0) (hi := 600) h hth (by decide) rfl
                              have q_134 := zTk.adv p_132 (hfF_131.f hth 12 ⟨by decide, by decide⟩ (hfF_129.f hth 12 ⟨by decide, by decide⟩ (hfF_61.f hth 12 ⟨by decide, by decide⟩ (hfF_58.f hth 12 ⟨by decide, by decide⟩ (hfF_52.f hth 12 ⟨by decide, by decide⟩ (hfF_47.f hth 12 ⟨by decide, by decide⟩ (hfF_43.f hth 12 ⟨by decide, by decide⟩ (hfF_41.f hth 12 ⟨by decide, by decide⟩ (hfF_38.f hth 12 ⟨by decide, by decide⟩ (hfF_17.f hth 12 ⟨by decide, by decide⟩ kx_14)))))))))) kx_133 (hfF_131.f hth 14 ⟨by decide, by decide⟩ (hfF_129.f hth 14 ⟨by decide, by decide⟩ kx_116)) (hfF_131.f hth 15 ⟨by decide, by decide⟩ (hfF_129.f hth 15 ⟨by decide, by decide⟩ hkp_j182_60))
                              refine zk_Vv (As := []) (rest := []) (bytes := cX14_next) (maxL := 3) (ret := none) Z h (zc_X14_next l D k Γ L F_131 H.size th tp x_133 x_14 hth (hfF_131.f hth 10 ⟨by decide, by decide⟩ (hfF_129.f hth 10 ⟨by decide, by decide⟩ (hfF_61.f hth 10 ⟨by decide, by decide⟩ (hfF_58.f hth 10 ⟨by decide, by decide⟩ (hfF_52.f hth 10 ⟨by decide, by decide⟩ (hfF_47.f hth 10 ⟨by decide, by decide⟩ (hfF_43.f hth 10 ⟨by decide, by decide⟩ (hfF_41.f hth 10 ⟨by decide, by decide⟩ (hfF_38.f hth 10 ⟨by decide, by decide⟩ (hfF_17.f hth 10 ⟨by decide, by decide⟩ (hfF_12.f hth 10 ⟨by decide, by decide⟩ ktp))))))))))) htp kx_133 bx_133 (hfF_131.f hth 12 ⟨by decide, by decide⟩ (hfF_129.f hth 12 ⟨by decide, by decide⟩ (hfF_61.f hth 12 ⟨by decide, by decide⟩ (hfF_58.f hth 12 ⟨by decide, by decide⟩ (hfF_52.f hth 12 ⟨by decide, by decide⟩ (hfF_47.f hth 12 ⟨by decide, by decide⟩ (hfF_43.f hth 12 ⟨by decide, by decide⟩ (hfF_41.f hth 12 ⟨by decide, by decide⟩ (hfF_38.f hth 12 ⟨by decide, by decide⟩ (hfF_17.f hth 12 ⟨by decide, by decide⟩ kx_14)))))))))) bx_14 (by have := by4_j214_121.1; have := by4_j214_121.2; have := bx_120.1; have := bx_120.2; have := bnf_10.1; have := bnf_10.2; have := bx_133.1; have := bx_133.2; have := bx_14.1; have := bx_14.2; have := bkp_j182_60.1; have := bkp_j182_60.2; have := bit.1; have := bit.2; have := bln.1; have := bln.2; have := bx_42.1; have := bx_42.2; have := bx_116.1; have := bx_116.2; have := bpl.1; have := bpl.2; have : ((-1) : Int32).toInt = (-1) := (by decide); have : (0 : Int32).toInt = 0 := (by decide); have : (1 : Int32).toInt = 1 := (by decide); have : (3 : Int32).toInt = 3 := (by decide); have : (10 : Int32).toInt = 10 := (by decide); omega) (zTk.ok p_132 kx_133)) (cwV 0 hg zv_RX14_147 rfl rfl rfl zd_X14_next ⟨z_leR hRf (by decide), z_leR hRl (by decide)⟩) hth (by decide) rfl rfl hl.1 rfl (Nat.le_of_ble_eq_true rfl) dX14_readFunction_321 ⟨Nat.zero_le _, Nat.zero_le _⟩ (fun F_135 H locs w_136 h hfF_135 => ?_)
                              obtain ⟨⟨x_138, kx_138, bx_138, q_137⟩, q_139, -⟩ := w_136
                              refine lv_aload_n hx hb dX14_readFunction_324 rfl (lv_at hl 3 rfl) ?_
                              refine lv_bipush (v := 44) hx hb dX14_readFunction_325 (by decide) ?_
                              refine zk_Vi (As := [.int 44]) (rest := []) (bytes := cX14_is) (maxL := 2) (ret := (some .boolean)) Z h (zc_X14_is l D k Γ L F_135 H.size th 44 hth) (cwV 1 hg zv_RX14_141 rfl rfl rfl zd_X14_is ⟨z_leR hRf (by decide), z_leR hRl (by decide)⟩) hth (by decide) rfl rfl hl.1 rfl (Nat.le_of_ble_eq_true rfl) dX14_readFunction_327 ⟨Nat.zero_le _, Nat.zero_le _⟩ (fun r_140 F_141 H locs w_142 h hfF_141 => ?_)
                              obtain ⟨rfl, br_140, q_143, -⟩ := w_142
                              refine lv_istore_n (lv' := [(2, .int r_140), (4, .int y4_j214_121), (3, .int x_120), (1, .int nf), (0, .ref th)]) hx hb dX14_readFunction_330 rfl hl (by decide) rfl (fun ls hl => ?_)
                              refine lv_iload_n hx hb dX14_readFunction_331 rfl (lv_at hl 0 rfl) ?_
                              refine lv_if_eq (tgt := 339) hx hb dX14_readFunction_332 (by decide) (fun c_144 => ?_) (fun c_144 => ?_)
                              · have c_144 := z_eq c_144
                                have br_140_145 : zB 0 0 r_140 := zB.eqL (a := 0) (b := 0) c_144 (zBc 0 0 (by decide))
                                refine lv_goto (tgt := 182) hx hb dX14_readFunction_339 (by decide) ?_
                                exact ih_j182_60 _ (by have := br_140_145.1; have := br_140_145.2; have := by4_j214_121.1; have := by4_j214_121.2; have := bx_120.1; have := bx_120.2; have := bnf_10.1; have := bnf_10.2; have := bx_138.1; have := bx_138.2; have := bit.1; have := bit.2; have := bln.1; have := bln.2; have := bx_42.1; have := bx_42.2; have := bx_14.1; have := bx_14.2; have := bpl.1; have := bpl.2; have : ((-1) : Int32).toInt = (-1) := (by decide); have : (0 : Int32).toInt = 0 := (by decide); have : (1 : Int32).toInt = 1 := (by decide); have : (3 : Int32).toInt = 3 := (by decide); have : (10 : Int32).toInt = 10 := (by decide); have := by2_j182_60.1; have := by2_j182_60.2; omega) ls r_140 x_138 F_135 H locs (lv_sub hl [0, 3, 4] rfl) (br_140_145.w ⟨by decide, by decide⟩) h (((hfF_61.trans hfF_129 (by decide)).trans hfF_131 (by decide)).trans hfF_135 (by decide)) kx_138 bx_138 (by have := br_140_145.1; have := br_140_145.2; have := by4_j214_121.1; have := by4_j214_121.2; have := bx_120.1; have := bx_120.2; have := bnf_10.1; have := bnf_10.2; have := bx_138.1; have := bx_138.2; have := bit.1; have := bit.2; have := bln.1; have := bln.2; have := bx_42.1; have := bx_42.2; have := bx_14.1; have := bx_14.2; have := bpl.1; have := bpl.2; have : ((-1) : Int32).toInt = (-1) := (by decide); have : (0 : Int32).toInt = 0 := (by decide); have : (1 : Int32).toInt = 1 := (by decide); have : (3 : Int32).toInt = 3 := (by decide); have : (10 : Int32).toInt = 10 := (by decide); omega) q_139 rfl
                              · obtain ⟨x_146, x_147, kx_146, bx_146, kx_147, bx_147, q_148⟩ := q_143 c_144
                                have c_144 := z_ne c_144
                                have br_140_149 : zB 1 1 r_140 := zB.neLo c_144 br_140 (zBc 0 0 (by decide)) (by decide)
                                refine lv_aload_n hx hb dX14_readFunction_335 rfl (lv_at hl 4 rfl) ?_
                                obtain ⟨x_150, kx_150, bx_150⟩ := z_learn (j := 13) (lo := 0) (hi := 600) h hth (by decide) rfl
                                have q_151 := zTk.adv q_139 (hfF_135.f hth 12 ⟨by decide, by decide⟩ (hfF_131.f hth 12 ⟨by decide, by decide⟩ (hfF_129.f hth 12 ⟨by decide, by decide⟩ (hfF_61.f hth 12 ⟨by decide, by decide⟩ (hfF_58.f hth 12 ⟨by decide, by decide⟩ (hfF_52.f hth 12 ⟨by decide, by decide⟩ (hfF_47.f hth 12 ⟨by decide, by decide⟩ (hfF_43.f hth 12 ⟨by decide, by decide⟩ (hfF_41.f hth 12 ⟨by decide, by decide⟩ (hfF_38.f hth 12 ⟨by decide, by decide⟩ (hfF_17.f hth 12 ⟨by decide, by decide⟩ kx_14))))))))))) kx_150 kx_146 kx_138
                                refine zk_Vv (As := []) (rest := []) (bytes := cX14_next) (maxL := 3) (ret := none) Z h (zc_X14_next l D k Γ L F_135 H.size th tp x_150 x_14 hth (hfF_135.f hth 10 ⟨by decide, by decide⟩ (hfF_131.f hth 10 ⟨by decide, by decide⟩ (hfF_129.f hth 10 ⟨by decide, by decide⟩ (hfF_61.f hth 10 ⟨by decide, by decide⟩ (hfF_58.f hth 10 ⟨by decide, by decide⟩ (hfF_52.f hth 10 ⟨by decide, by decide⟩ (hfF_47.f hth 10 ⟨by decide, by decide⟩ (hfF_43.f hth 10 ⟨by decide, by decide⟩ (hfF_41.f hth 10 ⟨by decide, by decide⟩ (hfF_38.f hth 10 ⟨by decide, by decide⟩ (hfF_17.f hth 10 ⟨by decide, by decide⟩ (hfF_12.f hth 10 ⟨by decide, by decide⟩ ktp)))))))))))) htp kx_150 bx_150 (hfF_135.f hth 12 ⟨by decide, by decide⟩ (hfF_131.f hth 12 ⟨by decide, by decide⟩ (hfF_129.f hth 12 ⟨by decide, by decide⟩ (hfF_61.f hth 12 ⟨by decide, by decide⟩ (hfF_58.f hth 12 ⟨by decide, by decide⟩ (hfF_52.f hth 12 ⟨by decide, by decide⟩ (hfF_47.f hth 12 ⟨by decide, by decide⟩ (hfF_43.f hth 12 ⟨by decide, by decide⟩ (hfF_41.f hth 12 ⟨by decide, by decide⟩ (hfF_38.f hth 12 ⟨by decide, by decide⟩ (hfF_17.f hth 12 ⟨by decide, by decide⟩ kx_14))))))))))) bx_14 (by have := br_140_149.1; have := br_140_149.2; have := by4_j214_121.1; have := by4_j214_121.2; have := bx_120.1; have := bx_120.2; have := bnf_10.1; have := bnf_10.2; have := bx_150.1; have := bx_150.2; have := bx_14.1; have := bx_14.2; have := bx_138.1; have := bx_138.2; have := bit.1; have := bit.2; have := bln.1; have := bln.2; have := bx_42.1; have := bx_42.2; have := bx_146.1; have := bx_146.2; have := bx_147.1; have := bx_147.2; have := bpl.1; have := bpl.2; have : ((-1) : Int32).toInt = (-1) := (by decide); have : (0 : Int32).toInt = 0 := (by decide); have : (1 : Int32).toInt = 1 := (by decide); have : (3 : Int32).toInt = 3 := (by decide); have : (10 : Int32).toInt = 10 := (by decide); omega) (zTk.ok q_139 kx_150)) (cwV 0 hg zv_RX14_147 rfl rfl rfl zd_X14_next ⟨z_leR hRf (by decide), z_leR hRl (by decide)⟩) hth (by decide) rfl rfl hl.1 rfl (Nat.le_of_ble_eq_true rfl) dX14_readFunction_336 ⟨Nat.zero_le _, Nat.zero_le _⟩ (fun F_152 H locs w_153 h hfF_152 => ?_)
                                obtain ⟨⟨x_155, kx_155, bx_155, q_154⟩, q_156, -⟩ := w_153
                                refine lv_goto (tgt := 182) hx hb dX14_readFunction_339 (by decide) ?_
                                exact ih_j182_60 _ (by have := br_140_149.1; have := br_140_149.2; have := by4_j214_121.1; have := by4_j214_121.2; have := bx_120.1; have := bx_120.2; have := bnf_10.1; have := bnf_10.2; have := bx_155.1; have := bx_155.2; have := bit.1; have := bit.2; have := bln.1; have := bln.2; have := bx_42.1; have := bx_42.2; have := bx_14.1; have := bx_14.2; have := bpl.1; have := bpl.2; have : ((-1) : Int32).toInt = (-1) := (by decide); have : (0 : Int32).toInt = 0 := (by decide); have : (1 : Int32).toInt = 1 := (by decide); have : (3 : Int32).toInt = 3 := (by decide); have : (10 : Int32).toInt = 10 := (by decide); have := by2_j182_60.1; have := by2_j182_60.2; omega) ls r_140 x_155 F_152 H locs (lv_sub hl [0, 3, 4] rfl) (br_140_149.w ⟨by decide, by decide⟩) h ((((hfF_61.trans hfF_129 (by decide)).trans hfF_131 (by decide)).trans hfF_135 (by decide)).trans hfF_152 (by decide)) kx_155 bx_155 (by have := br_140_149.1; have := br_140_149.2; have := by4_j214_121.1; have := by4_j214_121.2; have := bx_120.1; have := bx_120.2; have := bnf_10.1; have := bnf_10.2; have := bx_155.1; have := bx_155.2; have := bit.1; have := bit.2; have := bln.1; have := bln.2; have := bx_42.1; have := bx_42.2; have := bx_14.1; have := bx_14.2; have := bpl.1; have := bpl.2; have : ((-1) : Int32).toInt = (-1) := (by decide); have : (0 : Int32).toInt = 0 := (by decide); have : (1 : Int32).toInt = 1 := (by decide); have : (3 : Int32).toInt = 3 := (by decide); have : (10 : Int32).toInt = 10 := (by decide); omega) q_156 rfl
                            · have c_124 := z_eq c_124
                              have bx_122_157 : zB 3 3 x_122 := zB.eqL (a := 0) (b := 0) c_124 (zBc 3 3 (by decide))
                              refine lv_aload_n hx hb dX14_readFunction_275 rfl (lv_at hl 3 rfl) ?_
                              refine lv_iconst (v := 3) hx hb dX14_readFunction_276 (by decide) ?_
                              refine lv_aload_n hx hb dX14_readFunction_277 rfl (lv_at hl 3 rfl) ?_
                              refine zt_getk (t := 14) (C := RX14) (T := TX14) (N := 40) Z h hth zin_14 rfl 15 hkp_j182_60 ⟨by decide, rfl, by decide⟩ (zm_RX14 (List.mem_of_getElem? (i := 23) rfl)) (fun _ h9 => h9) dX14_readFunction_278 ?_
                              refine zk_Vr (As := [.int 3, .int kp_j182_60]) (rest := []) (bytes := cX14_stop) (maxL := 3) (ret := (some (.object "LessonMakerModel$Stop"))) Z h (zc_X14_stop l D k Γ L F_61 H.size th 3 kp_j182_60 st hth (hfF_61.f hth 9 ⟨by decide, by decide⟩ (hfF_58.f hth 9 ⟨by decide, by decide⟩ (hfF_52.f hth 9 ⟨by decide, by decide⟩ (hfF_47.f hth 9 ⟨by decide, by decide⟩ (hfF_43.f hth 9 ⟨by decide, by decide⟩ (hfF_41.f hth 9 ⟨by decide, by decide⟩ (hfF_38.f hth 9 ⟨by decide, by decide⟩ (hfF_17.f hth 9 ⟨by decide, by decide⟩ (hfF_12.f hth 9 ⟨by decide, by decide⟩ kst))))))))) hst) (cwV 2 hg zv_RX14_144 rfl rfl rfl zd_X14_stop ⟨z_leR hRf (by decide), z_leR hRl (by decide)⟩) hth (by decide) rfl rfl hl.1 rfl (Nat.le_of_ble_eq_true rfl) dX14_readFunction_281 ⟨Nat.zero_le _, Nat.zero_le _⟩ (fun F_158 H locs w_159 h hfF_158 => ?_)
                              refine z_athrow hx hb dX14_readFunction_284 ?_
                              obtain ⟨ce, hce, hcv, hcl⟩ := z_cell Z h hst
                              subst hQ
                              exact zx_out ht9 hlocks h ((((((((((hfF_12.w (by decide)).trans hfF_17 (by decide)).trans hfF_38 (by decide)).trans hfF_41 (by decide)).trans hfF_43 (by decide)).trans hfF_47 (by decide)).trans hfF_52 (by decide)).trans hfF_58 (by decide)).trans hfF_61 (by decide)).trans hfF_158 (by decide)) hce hcv hcl
                          · have c_123 := z_nle c_123
                            have by4_j214_121_160 : zB 0 2 y4_j214_121 := zB.ltL c_123 by4_j214_121 bx_122 (by decide)
                            have bx_122_161 : zB 1 3 x_122 := zB.ltR c_123 by4_j214_121 bx_122 (by decide)
                            refine lv_aload_n hx hb dX14_readFunction_228 rfl (lv_at hl 3 rfl) ?_
                            refine zt_getk (t := 14) (C := RX14) (T := TX14) (N := 40) Z h hth zin_14 rfl 6 (hfF_61.f hth 6 ⟨by decide, by decide⟩ (hfF_58.f hth 6 ⟨by decide, by decide⟩ (hfF_52.f hth 6 ⟨by decide, by decide⟩ (hfF_47.f hth 6 ⟨by decide, by decide⟩ (hfF_43.f hth 6 ⟨by decide, by decide⟩ (hfF_41.f hth 6 ⟨by decide, by decide⟩ (hfF_38.f hth 6 ⟨by decide, by decide⟩ (hfF_17.f hth 6 ⟨by decide, by decide⟩ (hfF_12.f hth 6 ⟨by decide, by decide⟩ ksp))))))))) ⟨by decide, rfl, by decide⟩ (zm_RX14 (List.mem_of_getElem? (i := 57) rfl)) (fun _ h9 => h9) dX14_readFunction_229 ?_
                            refine zt_getrN (t := 11) (C := RX11) (T := TX11) (N := 30) Z h hsp zin_11 rfl 12 rfl ⟨by decide, rfl⟩ (zn_14 Z) (fun _ h9 => h9) dX14_readFunction_232 (fun a_162 ka_162 ha_162 => ?_)
                            refine lv_iconst (v := 3) hx hb dX14_readFunction_235 (by decide) ?_
                            refine lv_iload_n hx hb dX14_readFunction_236 rfl (lv_at hl 2 rfl) ?_
                            refine lv_imul hx hb dX14_readFunction_237 ?_
                            refine zi_mul ((zBc 3 3 (by decide)).w ⟨by decide, by decide⟩ : zB 0 3 _) bnf_10 (by decide) (fun x_163 bx_163 tx_163 => ?_)
                            have bx_163 : zB 0 27 x_163 := bx_163
                            refine lv_iload hx hb dX14_readFunction_238 (lv_at hl 0 rfl) ?_
                            refine lv_iadd hx hb dX14_readFunction_240 ?_
                            refine zi_add (lo := 0) (hi := 29) bx_163 by4_j214_121_160 (by decide) (fun x_164 bx_164 tx_164 => ?_)
                            refine zt_ialde (t := 132) Z h ha_162 ⟨by decide, rfl⟩ bx_164 ⟨by decide, by decide⟩ dX14_readFunction_241 (fun x_165 ex_165 bx_165 => ?_)
                            refine lv_iload_n hx hb dX14_readFunction_242 rfl (lv_at hl 1 rfl) ?_
                            refine lv_icmp_ne (tgt := 256) hx hb dX14_readFunction_243 (by decide) (fun c_166 => ?_) (fun c_166 => ?_)
                            · have c_166 := z_ne c_166
                              obtain ⟨x_167, ex_167, bx_167, tx_167⟩ := z_inc (n := 1) (lo := 1) (hi := 3) by4_j214_121_160 (by decide)
                              refine lv_iinc (v := x_167) (lv' := [(4, .int x_167), (3, .int x_120), (1, .int nf), (0, .ref th)]) hx hb dX14_readFunction_256 hl (k := 0) rfl ex_167 (by decide) rfl (fun ls hl => ?_)
                              refine lv_goto (tgt := 214) hx hb dX14_readFunction_259 (by decide) ?_
                              exact ih_j214_121 _ (by have := bx_167.1; have := bx_167.2; have := bx_120.1; have := bx_120.2; have := bnf_10.1; have := bnf_10.2; have := bkp_j182_60.1; have := bkp_j182_60.2; have := bit.1; have := bit.2; have := bln.1; have := bln.2; have := bx_42.1; have := bx_42.2; have := bx_116.1; have := bx_116.2; have := bx_14.1; have := bx_14.2; have := bpl.1; have := bpl.2; have : ((-1) : Int32).toInt = (-1) := (by decide); have : (0 : Int32).toInt = 0 := (by decide); have : (1 : Int32).toInt = 1 := (by decide); have : (3 : Int32).toInt = 3 := (by decide); have : (10 : Int32).toInt = 10 := (by decide); have := by4_j214_121.1; have := by4_j214_121.2; omega) ls x_167 (lv_sub hl [0, 1, 2, 3] rfl) (bx_167.w ⟨by decide, by decide⟩) rfl
                            · have c_166 := z_eq c_166
                              refine lv_aload_n hx hb dX14_readFunction_246 rfl (lv_at hl 3 rfl) ?_
                              refine lv_iconst (v := 2) hx hb dX14_readFunction_247 (by decide) ?_
                              refine lv_aload_n hx hb dX14_readFunction_248 rfl (lv_at hl 3 rfl) ?_
                              refine zt_getk (t := 14) (C := RX14) (T := TX14) (N := 40) Z h hth zin_14 rfl 15 hkp_j182_60 ⟨by decide, rfl, by decide⟩ (zm_RX14 (List.mem_of_getElem? (i := 23) rfl)) (fun _ h9 => h9) dX14_readFunction_249 ?_
                              refine zk_Vr (As := [.int 2, .int kp_j182_60]) (rest := []) (bytes := cX14_stop) (maxL := 3) (ret := (some (.object "LessonMakerModel$Stop"))) Z h (zc_X14_stop l D k Γ L F_61 H.size th 2 kp_j182_60 st hth (hfF_61.f hth 9 ⟨by decide, by decide⟩ (hfF_58.f hth 9 ⟨by decide, by decide⟩ (hfF_52.f hth 9 ⟨by decide, by decide⟩ (hfF_47.f hth 9 ⟨by decide, by decide⟩ (hfF_43.f hth 9 ⟨by decide, by decide⟩ (hfF_41.f hth 9 ⟨by decide, by decide⟩ (hfF_38.f hth 9 ⟨by decide, by decide⟩ (hfF_17.f hth 9 ⟨by decide, by decide⟩ (hfF_12.f hth 9 ⟨by decide, by decide⟩ kst))))))))) hst) (cwV 2 hg zv_RX14_144 rfl rfl rfl zd_X14_stop ⟨z_leR hRf (by decide), z_leR hRl (by decide)⟩) hth (by decide) rfl rfl hl.1 rfl (Nat.le_of_ble_eq_true rfl) dX14_readFunction_252 ⟨Nat.zero_le _, Nat.zero_le _⟩ (fun F_168 H locs w_169 h hfF_168 => ?_)
                              refine z_athrow hx hb dX14_readFunction_255 ?_
                              obtain ⟨ce, hce, hcv, hcl⟩ := z_cell Z h hst
                              subst hQ
                              exact zx_out ht9 hlocks h ((((((((((hfF_12.w (by decide)).trans hfF_17 (by decide)).trans hfF_38 (by decide)).trans hfF_41 (by decide)).trans hfF_43 (by decide)).trans hfF_47 (by decide)).trans hfF_52 (by decide)).trans hfF_58 (by decide)).trans hfF_61 (by decide)).trans hfF_168 (by decide)) hce hcv hcl
                      exact j_j214_121 _ ls 0 (lv_sub hl [0, 1, 3, 4] rfl) (zB.of ⟨by decide, by decide⟩) rfl
                    · have c_115 := z_eq c_115
                      have br_111_170 : zB 0 0 r_111 := zB.eqL (a := 0) (b := 0) c_115 (zBc 0 0 (by decide))
                      refine lv_aload_n hx hb dX14_readFunction_193 rfl (lv_at hl 2 rfl) ?_
                      refine lv_iconst (v := 1) hx hb dX14_readFunction_194 (by decide) ?_
                      refine lv_aload_n hx hb dX14_readFunction_195 rfl (lv_at hl 2 rfl) ?_
                      refine zt_getk (t := 14) (C := RX14) (T := TX14) (N := 40) Z h hth zin_14 rfl 15 hkp_j182_60 ⟨by decide, rfl, by decide⟩ (zm_RX14 (List.mem_of_getElem? (i := 23) rfl)) (fun _ h9 => h9) dX14_readFunction_196 ?_
                      refine zk_Vr (As := [.int 1, .int kp_j182_60]) (rest := []) (bytes := cX14_stop) (maxL := 3) (ret := (some (.object "LessonMakerModel$Stop"))) Z h (zc_X14_stop l D k Γ L F_61 H.size th 1 kp_j182_60 st hth (hfF_61.f hth 9 ⟨by decide, by decide⟩ (hfF_58.f hth 9 ⟨by decide, by decide⟩ (hfF_52.f hth 9 ⟨by decide, by decide⟩ (hfF_47.f hth 9 ⟨by decide, by decide⟩ (hfF_43.f hth 9 ⟨by decide, by decide⟩ (hfF_41.f hth 9 ⟨by decide, by decide⟩ (hfF_38.f hth 9 ⟨by decide, by decide⟩ (hfF_17.f hth 9 ⟨by decide, by decide⟩ (hfF_12.f hth 9 ⟨by decide, by decide⟩ kst))))))))) hst) (cwV 2 hg zv_RX14_144 rfl rfl rfl zd_X14_stop ⟨z_leR hRf (by decide), z_leR hRl (by decide)⟩) hth (by decide) rfl rfl hl.1 rfl (Nat.le_of_ble_eq_true rfl) dX14_readFunction_199 ⟨Nat.zero_le _, Nat.zero_le _⟩ (fun F_171 H locs w_172 h hfF_171 => ?_)
                      refine z_athrow hx hb dX14_readFunction_202 ?_
                      obtain ⟨ce, hce, hcv, hcl⟩ := z_cell Z h hst
                      subst hQ
                      exact zx_out ht9 hlocks h ((((((((((hfF_12.w (by decide)).trans hfF_17 (by decide)).trans hfF_38 (by decide)).trans hfF_41 (by decide)).trans hfF_43 (by decide)).trans hfF_47 (by decide)).trans hfF_52 (by decide)).trans hfF_58 (by decide)).trans hfF_61 (by decide)).trans hfF_171 (by decide)) hce hcv hcl
              have p_173 := (q_56.fr hfF_58 hth htp (by decide))
              exact j_j182_60 _ ls w0_j181_59 x_55 F_58 H locs (lv_sub hl [0, 1, 2] rfl) bw0_j181_59 h zFr.rf (hfF_58.f hth 15 ⟨by decide, by decide⟩ kx_55) bx_55 (by have := bw0_j181_59.1; have := bw0_j181_59.2; have := bnf_10.1; have := bnf_10.2; have := bx_55.1; have := bx_55.2; have := bit.1; have := bit.2; have := bln.1; have := bln.2; have := bx_42.1; have := bx_42.2; have := bx_14.1; have := bx_14.2; have := bpl.1; have := bpl.2; have : ((-1) : Int32).toInt = (-1) := (by decide); have : (0 : Int32).toInt = 0 := (by decide); have : (1 : Int32).toInt = 1 := (by decide); have : (10 : Int32).toInt = 10 := (by decide); omega) p_173 rfl
            refine lv_aload_n hx hb dX14_readFunction_167 rfl (lv_at hl 1 rfl) ?_
            refine lv_bipush (v := 41) hx hb dX14_readFunction_168 (by decide) ?_
            refine zk_Vi (As := [.int 41]) (rest := []) (bytes := cX14_is) (maxL := 2) (ret := (some .boolean)) Z h (zc_X14_is l D k Γ L F_58 H.size th 41 hth) (cwV 1 hg zv_RX14_141 rfl rfl rfl zd_X14_is ⟨z_leR hRf (by decide), z_leR hRl (by decide)⟩) hth (by decide) rfl rfl hl.1 rfl (Nat.le_of_ble_eq_true rfl) dX14_readFunction_170 ⟨Nat.zero_le _, Nat.zero_le _⟩ (fun r_174 F_175 H locs w_176 h hfF_175 => ?_)
            obtain ⟨rfl, br_174, q_177, -⟩ := w_176
            refine lv_if_ne (tgt := 180) hx hb dX14_readFunction_173 (by decide) (fun c_178 => ?_) (fun c_178 => ?_)
            · obtain ⟨x_179, x_180, kx_179, bx_179, kx_180, bx_180, q_181⟩ := q_177 c_178
              have c_178 := z_ne c_178
              have br_174_182 : zB 1 1 r_174 := zB.neLo c_178 br_174 (zBc 0 0 (by decide)) (by decide)
              refine lv_iconst (v := 0) hx hb dX14_readFunction_180 (by decide) ?_
              exact j_j181_59 ls 0 H locs (lv_sub hl [0, 1] rfl) (zB.of ⟨by decide, by decide⟩) h
            · have c_178 := z_eq c_178
              have br_174_183 : zB 0 0 r_174 := zB.eqL (a := 0) (b := 0) c_178 (zBc 0 0 (by decide))
              refine lv_iconst (v := 1) hx hb dX14_readFunction_176 (by decide) ?_
              refine lv_goto (tgt := 181) hx hb dX14_readFunction_177 (by decide) ?_
              exact j_j181_59 ls 1 H locs (lv_sub hl [0, 1] rfl) (zB.of ⟨by decide, by decide⟩) h
        · have c_35 := z_ne c_35
          have br_31_184 : zB 0 9 r_31 := zB.neLo c_35 br_31 (zBc (-1) (-1) (by decide)) (by decide)
          refine lv_aload_n hx hb dX14_readFunction_98 rfl (lv_at hl 1 rfl) ?_
          refine lv_iconst (v := 2) hx hb dX14_readFunction_99 (by decide) ?_
          refine lv_aload_n hx hb dX14_readFunction_100 rfl (lv_at hl 1 rfl) ?_
          refine zt_getk (t := 14) (C := RX14) (T := TX14) (N := 40) Z h hth zin_14 rfl 15 kx_20 ⟨by decide, rfl, by decide⟩ (zm_RX14 (List.mem_of_getElem? (i := 23) rfl)) (fun _ h9 => h9) dX14_readFunction_101 ?_
          refine zk_Vr (As := [.int 2, .int x_20]) (rest := []) (bytes := cX14_stop) (maxL := 3) (ret := (some (.object "LessonMakerModel$Stop"))) Z h (zc_X14_stop l D k Γ L F_17 H.size th 2 x_20 st hth (hfF_17.f hth 9 ⟨by decide, by decide⟩ (hfF_12.f hth 9 ⟨by decide, by decide⟩ kst)) hst) (cwV 2 hg zv_RX14_144 rfl rfl rfl zd_X14_stop ⟨z_leR hRf (by decide), z_leR hRl (by decide)⟩) hth (by decide) rfl rfl hl.1 rfl (Nat.le_of_ble_eq_true rfl) dX14_readFunction_104 ⟨Nat.zero_le _, Nat.zero_le _⟩ (fun F_185 H locs w_186 h hfF_185 => ?_)
          refine z_athrow hx hb dX14_readFunction_107 ?_
          obtain ⟨ce, hce, hcv, hcl⟩ := z_cell Z h hst
          subst hQ
          exact zx_out ht9 hlocks h (((hfF_12.w (by decide)).trans hfF_17 (by decide)).trans hfF_185 (by decide)) hce hcv hcl
      · have c_26 := z_eq c_26
        have br_22_187 : zB 0 0 r_22 := zB.eqL (a := 0) (b := 0) c_26 (zBc 0 0 (by decide))
        refine lv_aload_n hx hb dX14_readFunction_73 rfl (lv_at hl 1 rfl) ?_
        refine lv_iconst (v := 1) hx hb dX14_readFunction_74 (by decide) ?_
        refine lv_aload_n hx hb dX14_readFunction_75 rfl (lv_at hl 1 rfl) ?_
        refine zt_getk (t := 14) (C := RX14) (T := TX14) (N := 40) Z h hth zin_14 rfl 15 kx_20 ⟨by decide, rfl, by decide⟩ (zm_RX14 (List.mem_of_getElem? (i := 23) rfl)) (fun _ h9 => h9) dX14_readFunction_76 ?_
        refine zk_Vr (As := [.int 1, .int x_20]) (rest := []) (bytes := cX14_stop) (maxL := 3) (ret := (some (.object "LessonMakerModel$Stop"))) Z h (zc_X14_stop l D k Γ L F_17 H.size th 1 x_20 st hth (hfF_17.f hth 9 ⟨by decide, by decide⟩ (hfF_12.f hth 9 ⟨by decide, by decide⟩ kst)) hst) (cwV 2 hg zv_RX14_144 rfl rfl rfl zd_X14_stop ⟨z_leR hRf (by decide), z_leR hRl (by decide)⟩) hth (by decide) rfl rfl hl.1 rfl (Nat.le_of_ble_eq_true rfl) dX14_readFunction_79 ⟨Nat.zero_le _, Nat.zero_le _⟩ (fun F_188 H locs w_189 h hfF_188 => ?_)
        refine z_athrow hx hb dX14_readFunction_82 ?_
        obtain ⟨ce, hce, hcv, hcl⟩ := z_cell Z h hst
        subst hQ
        exact zx_out ht9 hlocks h (((hfF_12.w (by decide)).trans hfF_17 (by decide)).trans hfF_188 (by decide)) hce hcv hcl
    · have c_9 := z_eq c_9
      have bnf_190 : zB 10 10 nf := zB.eqL (a := 0) (b := 0) c_9 (zBc 10 10 (by decide))
      refine lv_aload_n hx hb dX14_readFunction_31 rfl (lv_at hl 0 rfl) ?_
      refine lv_iconst (v := 3) hx hb dX14_readFunction_32 (by decide) ?_
      refine lv_aload_n hx hb dX14_readFunction_33 rfl (lv_at hl 0 rfl) ?_
      refine zt_getk (t := 14) (C := RX14) (T := TX14) (N := 40) Z h hth zin_14 rfl 15 kpl ⟨by decide, rfl, by decide⟩ (zm_RX14 (List.mem_of_getElem? (i := 23) rfl)) (fun _ h9 => h9) dX14_readFunction_34 ?_
      refine zk_Vr (As := [.int 3, .int pl]) (rest := []) (bytes := cX14_stop) (maxL := 3) (ret := (some (.object "LessonMakerModel$Stop"))) Z h (zc_X14_stop l D k Γ L F H.size th 3 pl st hth kst hst) (cwV 2 hg zv_RX14_144 rfl rfl rfl zd_X14_stop ⟨z_leR hRf (by decide), z_leR hRl (by decide)⟩) hth (by decide) rfl rfl hl.1 rfl (Nat.le_of_ble_eq_true rfl) dX14_readFunction_37 ⟨Nat.zero_le _, Nat.zero_le _⟩ (fun F_191 H locs w_192 h hfF_191 => ?_)
      refine z_athrow hx hb dX14_readFunction_40 ?_
      obtain ⟨ce, hce, hcv, hcl⟩ := z_cell Z h hst
      subst hQ
      exact zx_out ht9 hlocks h (hfF_191.w (by decide)) hce hcv hcl
  · have c_5 := z_eq c_5
    have br_1_193 : zB 0 0 r_1 := zB.eqL (a := 0) (b := 0) c_5 (zBc 0 0 (by decide))
    refine lv_aload_n hx hb dX14_readFunction_9 rfl (lv_at hl 0 rfl) ?_
    refine lv_iconst (v := 1) hx hb dX14_readFunction_10 (by decide) ?_
    refine lv_aload_n hx hb dX14_readFunction_11 rfl (lv_at hl 0 rfl) ?_
    refine zt_getk (t := 14) (C := RX14) (T := TX14) (N := 40) Z h hth zin_14 rfl 15 kpl ⟨by decide, rfl, by decide⟩ (zm_RX14 (List.mem_of_getElem? (i := 23) rfl)) (fun _ h9 => h9) dX14_readFunction_12 ?_
    refine zk_Vr (As := [.int 1, .int pl]) (rest := []) (bytes := cX14_stop) (maxL := 3) (ret := (some (.object "LessonMakerModel$Stop"))) Z h (zc_X14_stop l D k Γ L F H.size th 1 pl st hth kst hst) (cwV 2 hg zv_RX14_144 rfl rfl rfl zd_X14_stop ⟨z_leR hRf (by decide), z_leR hRl (by decide)⟩) hth (by decide) rfl rfl hl.1 rfl (Nat.le_of_ble_eq_true rfl) dX14_readFunction_15 ⟨Nat.zero_le _, Nat.zero_le _⟩ (fun F_194 H locs w_195 h hfF_194 => ?_)
    refine z_athrow hx hb dX14_readFunction_18 ?_
    obtain ⟨ce, hce, hcv, hcl⟩ := z_cell Z h hst
    subst hQ
    exact zx_out ht9 hlocks h (hfF_194.w (by decide)) hce hcv hcl
