set_option maxHeartbeats 4000000 in
set_option maxRecDepth 100000 in
theorem ze_J6_bitCount (l : Launch) (D : va_G) (k : Nat → ClassId) (Γ : Nat → Option Nat) (L : List Nat) (F : Nat → va_E) (sz : Nat) (v : Int32) : Met l yJ6_bitCount_0f7a4 zwJ6_bitCount_0f7a4 ({ frames := 0, cells := 0, slots := 0, locals := 0 }) (va_Pc [.int v] (zP D k Γ L F sz)) (va_Qi (fun (r : Int32) (u : Nat → va_E) => F = u ∧ zB 0 63 r ∧ r = zbc v ∧ True) (zQ D k Γ L F []) (zA L sz)) 0 0 (zA L sz) := by
  refine Met.ofW (cc := cJ6_bitCount_0f7a4) (maxL := 1) (ret := (some .int)) (by decide) rfl ?_
  intro p e s m args below meth c s₁ B hml hv
  obtain ⟨rfl, hsz, hP, hK, hLn, hE, hI⟩ := hv
  have hx := B.exec
  have hb := B.bytes
  have hr := B.returns
  have hg : ∀ w ∈ zG, w.before _ s = true := fun w h9 => atoms_spec (ws := zwJ6_bitCount_0f7a4) B.pre w (List.mem_cons_of_mem _ h9)
  have hown : s.vm.findClass RJ6 = some m.cls := findClass_of_methodNamed B.named
  have hlocks := B.notSynchronized
  subst hsz
  have Z : zC p m c cJ6_bitCount_0f7a4 1 s _ zG RJ6 D k L := ⟨⟨hx, hb, hml, hown, hg⟩, hK, hLn, hE⟩
  have h : zH D k Γ L s F s.heap [] := ⟨hP, hI, va_S.rf⟩
  have hl := lv_entry ([.int v]) (n := 1) (Nat.le_of_ble_eq_true rfl)
  rw [lg_entry_eq]
  generalize (lg_sl ([.int v]) ++ List.replicate (1 - (lg_sl ([.int v])).length) Slot.unset).toArray = ls at hl ⊢
  have hl : lv_has ls 1 [(0, .int v)] := hl
  clear hP hK hLn hE hI
  generalize hargs : ([.int v] : List Value).toArray = args at *
  refine z_start (fun R Q hRf hRl hQ => ?_)
  have hRf : R.frames = 0 := hRf
  have hRl : R.locals = 0 := hRl
  have h9 := h
  refine lv_iload_n hx hb dJ6_bitCount_0f7a4_0 rfl (lv_at hl 0 rfl) ?_
  refine lv_iload_n hx hb dJ6_bitCount_0f7a4_1 rfl (lv_at hl 0 rfl) ?_
  refine lv_iconst (v := 1) hx hb dJ6_bitCount_0f7a4_2 (by decide) ?_
  refine lv_iushr hx hb dJ6_bitCount_0f7a4_3 rfl ?_
  refine zi_any (fun x_1 bx_1 ex_1 => ?_)
  refine lv_ldcw hx hb hown (hg _ (zm_RJ6 (List.mem_of_getElem? (i := 2) rfl))) dJ6_bitCount_0f7a4_4 ?_
  refine lv_iand hx hb dJ6_bitCount_0f7a4_7 ?_
  refine zi_and ((zBc 1431655765 1431655765 (by decide)).w ⟨by decide, by decide⟩ : zB 0 1431655765 _) (fun x_2 bx_2 ex_2 => ?_)
  refine lv_isub hx hb dJ6_bitCount_0f7a4_8 ?_
  refine zi_any (fun x_3 bx_3 ex_3 => ?_)
  refine lv_istore_n (lv' := [(0, .int x_3)]) hx hb dJ6_bitCount_0f7a4_9 rfl hl (by decide) rfl (fun ls hl => ?_)
  refine lv_iload_n hx hb dJ6_bitCount_0f7a4_10 rfl (lv_at hl 0 rfl) ?_
  refine lv_ldcw hx hb hown (hg _ (zm_RJ6 (List.mem_of_getElem? (i := 3) rfl))) dJ6_bitCount_0f7a4_11 ?_
  refine lv_iand hx hb dJ6_bitCount_0f7a4_14 ?_
  refine zi_and ((zBc 858993459 858993459 (by decide)).w ⟨by decide, by decide⟩ : zB 0 858993459 _) (fun x_4 bx_4 ex_4 => ?_)
  refine lv_iload_n hx hb dJ6_bitCount_0f7a4_15 rfl (lv_at hl 0 rfl) ?_
  refine lv_iconst (v := 2) hx hb dJ6_bitCount_0f7a4_16 (by decide) ?_
  refine lv_iushr hx hb dJ6_bitCount_0f7a4_17 rfl ?_
  refine zi_any (fun x_5 bx_5 ex_5 => ?_)
  refine lv_ldcw hx hb hown (hg _ (zm_RJ6 (List.mem_of_getElem? (i := 3) rfl))) dJ6_bitCount_0f7a4_18 ?_
  refine lv_iand hx hb dJ6_bitCount_0f7a4_21 ?_
  refine zi_and ((zBc 858993459 858993459 (by decide)).w ⟨by decide, by decide⟩ : zB 0 858993459 _) (fun x_6 bx_6 ex_6 => ?_)
  refine lv_iadd hx hb dJ6_bitCount_0f7a4_22 ?_
  refine zi_any (fun x_7 bx_7 ex_7 => ?_)
  refine lv_istore_n (lv' := [(0, .int x_7)]) hx hb dJ6_bitCount_0f7a4_23 rfl hl (by decide) rfl (fun ls hl => ?_)
  refine lv_iload_n hx hb dJ6_bitCount_0f7a4_24 rfl (lv_at hl 0 rfl) ?_
  refine lv_iload_n hx hb dJ6_bitCount_0f7a4_25 rfl (lv_at hl 0 rfl) ?_
  refine lv_iconst (v := 4) hx hb dJ6_bitCount_0f7a4_26 (by decide) ?_
  refine lv_iushr hx hb dJ6_bitCount_0f7a4_27 rfl ?_
  refine zi_any (fun x_8 bx_8 ex_8 => ?_)
  refine lv_iadd hx hb dJ6_bitCount_0f7a4_28 ?_
  refine zi_any (fun x_9 bx_9 ex_9 => ?_)
  refine lv_ldcw hx hb hown (hg _ (zm_RJ6 (List.mem_of_getElem? (i := 4) rfl))) dJ6_bitCount_0f7a4_29 ?_
  refine lv_iand hx hb dJ6_bitCount_0f7a4_32 ?_
  refine zi_and ((zBc 252645135 252645135 (by decide)).w ⟨by decide, by decide⟩ : zB 0 252645135 _) (fun x_10 bx_10 ex_10 => ?_)
  refine lv_istore_n (lv' := [(0, .int x_10)]) hx hb dJ6_bitCount_0f7a4_33 rfl hl (by decide) rfl (fun ls hl => ?_)
  refine lv_iload_n hx hb dJ6_bitCount_0f7a4_34 rfl (lv_at hl 0 rfl) ?_
  refine lv_iload_n hx hb dJ6_bitCount_0f7a4_35 rfl (lv_at hl 0 rfl) ?_
  refine lv_bipush (v := 8) hx hb dJ6_bitCount_0f7a4_36 (by decide) ?_
  refine lv_iushr hx hb dJ6_bitCount_0f7a4_38 rfl ?_
  refine zi_any (fun x_11 bx_11 ex_11 => ?_)
  refine lv_iadd hx hb dJ6_bitCount_0f7a4_39 ?_
  refine zi_any (fun x_12 bx_12 ex_12 => ?_)
  refine lv_istore_n (lv' := [(0, .int x_12)]) hx hb dJ6_bitCount_0f7a4_40 rfl hl (by decide) rfl (fun ls hl => ?_)
  refine lv_iload_n hx hb dJ6_bitCount_0f7a4_41 rfl (lv_at hl 0 rfl) ?_
  refine lv_iload_n hx hb dJ6_bitCount_0f7a4_42 rfl (lv_at hl 0 rfl) ?_
  refine lv_bipush (v := 16) hx hb dJ6_bitCount_0f7a4_43 (by decide) ?_
  refine lv_iushr hx hb dJ6_bitCount_0f7a4_45 rfl ?_
  refine zi_any (fun x_13 bx_13 ex_13 => ?_)
  refine lv_iadd hx hb dJ6_bitCount_0f7a4_46 ?_
  refine zi_any (fun x_14 bx_14 ex_14 => ?_)
  refine lv_istore_n (lv' := [(0, .int x_14)]) hx hb dJ6_bitCount_0f7a4_47 rfl hl (by decide) rfl (fun ls hl => ?_)
  refine lv_iload_n hx hb dJ6_bitCount_0f7a4_48 rfl (lv_at hl 0 rfl) ?_
  refine lv_bipush (v := 63) hx hb dJ6_bitCount_0f7a4_49 (by decide) ?_
  refine lv_iand hx hb dJ6_bitCount_0f7a4_51 ?_
  refine zi_and ((zBc 63 63 (by decide)).w ⟨by decide, by decide⟩ : zB 0 63 _) (fun x_15 bx_15 ex_15 => ?_)
  subst hQ
  exact W.iret (v := x_15) hx hb hr (fun t ht hW => ⟨⟨x_15, F, rfl, ⟨rfl, bx_15, (by rw [ex_15, ex_14, ex_13, ex_12, ex_11, ex_10, ex_9, ex_8, ex_7, ex_6, ex_5, ex_4, ex_3, ex_2, ex_1]; rfl), trivial⟩, by rw [ht]; exact h.1, h.2.1, zFr.rf⟩, h.2.2.F ht⟩) h.2.2.2.2 dJ6_bitCount_0f7a4_52

set_option maxHeartbeats 4000000 in
set_option maxRecDepth 100000 in
theorem ze_X0_costBehind (l : Launch) (D : va_G) (k : Nat → ClassId) (Γ : Nat → Option Nat) (L : List Nat) (F : Nat → va_E) (sz : Nat) (th : Nat) (pr : Nat) (se : Int32) (q : Int32) (fc : Int32) (fa : Nat → Nat) (cv : Nat → Int32) (hth : Γ th = some 0) (hpr : Γ pr = some 6) (bse : zB 0 1023 se) (bq : zB 0 9 q) (kfc : zfld F pr 4 = .int fc) (bfc : zB 0 10 fc) (hr0 : zPS Γ F pr fa) (hr1 : zCa F fa cv fc) (hr2 : zCm cv fc) (hr3 : q.toInt < fc.toInt) : Met l yX0_costBehind zwX0_costBehind ({ frames := 1, cells := 0, slots := 0, locals := 21 }) (va_Pc [.ref th, .ref pr, .int se, .int q] (zP D k Γ L F sz)) (va_Qi (fun (r : Int32) (u : Nat → va_E) => F = u ∧ r = zco cv (zar F th 0) se q ∧ True) (zQ D k Γ L F []) (zA L sz)) 0 0 (zA L sz) := by
  refine Met.ofW (cc := cX0_costBehind) (maxL := 5) (ret := (some .int)) (by decide) rfl ?_
  intro p e s m args below meth c s₁ B hml hv
  obtain ⟨rfl, hsz, hP, hK, hLn, hE, hI⟩ := hv
  have hx := B.exec
  have hb := B.bytes
  have hr := B.returns
  have hg : ∀ w ∈ zG, w.before _ s = true := fun w h9 => atoms_spec (ws := zwX0_costBehind) B.pre w (List.mem_cons_of_mem _ h9)
  have hown : s.vm.findClass RX0 = some m.cls := findClass_of_methodNamed B.named
  have hlocks := B.notSynchronized
  subst hsz
  have Z : zC p m c cX0_costBehind 5 s _ zG RX0 D k L := ⟨⟨hx, hb, hml, hown, hg⟩, hK, hLn, hE⟩
  have h : zH D k Γ L s F s.heap [] := ⟨hP, hI, va_S.rf⟩
  have hl := lv_entry ([.ref th, .ref pr, .int se, .int q]) (n := 5) (Nat.le_of_ble_eq_true rfl)
  rw [lg_entry_eq]
  generalize (lg_sl ([.ref th, .ref pr, .int se, .int q]) ++ List.replicate (5 - (lg_sl ([.ref th, .ref pr, .int se, .int q])).length) Slot.unset).toArray = ls at hl ⊢
  have hl : lv_has ls 5 [(0, .ref th), (1, .ref pr), (2, .int se), (3, .int q)] := hl
  clear hP hK hLn hE hI
  generalize hargs : ([.ref th, .ref pr, .int se, .int q] : List Value).toArray = args at *
  refine z_start (fun R Q hRf hRl hQ => ?_)
  have hRf : R.frames = 1 := hRf
  have hRl : R.locals = 21 := hRl
  have h9 := h
  refine lv_iload_n hx hb dX0_costBehind_0 rfl (lv_at hl 2 rfl) ?_
  refine lv_iconst (v := 1) hx hb dX0_costBehind_1 (by decide) ?_
  refine lv_iload_n hx hb dX0_costBehind_2 rfl (lv_at hl 3 rfl) ?_
  refine lv_ishl hx hb dX0_costBehind_3 ?_
  refine zi_any (fun x_1 bx_1 ex_1 => ?_)
  refine lv_ior hx hb dX0_costBehind_4 ?_
  refine zi_any (fun x_2 bx_2 ex_2 => ?_)
  have hon : x_2 = zon se q := by rw [ex_2, ex_1]; rfl
  have bon : zB 0 1023 x_2 := by rw [hon]; exact (zon_b bse bq).1
  refine lv_istore (lv' := [(4, .int x_2), (0, .ref th), (1, .ref pr), (2, .int se), (3, .int q)]) hx hb dX0_costBehind_5 hl (by decide) rfl (fun ls hl => ?_)
  refine lv_aload_n hx hb dX0_costBehind_7 rfl (lv_at hl 2 rfl) ?_
  refine lv_iload_n hx hb dX0_costBehind_8 rfl (lv_at hl 4 rfl) ?_
  refine zk_Vi (As := [.int q]) (rest := []) (bytes := cX6_hasFunction) (maxL := 2) (ret := (some .boolean)) Z h (ze_X6_hasFunction l D k Γ L F s.heap.size pr q fc hpr kfc bfc) (cwV 1 hg zv_RX0_46 rfl rfl rfl zd_X6_hasFunction ⟨z_leR hRf (by decide), z_leR hRl (by decide)⟩) hpr (by decide) rfl rfl hl.1 rfl (Nat.le_of_ble_eq_true rfl) dX0_costBehind_9 ⟨Nat.zero_le _, Nat.zero_le _⟩ (fun r_3 F_4 H locs w_5 h hfF_4 => ?_)
  obtain ⟨rfl, br_3, q_6, q_7, -⟩ := w_5
  refine lv_if_eq (tgt := 30) hx hb dX0_costBehind_12 (by decide) (fun c_8 => ?_) (fun c_8 => ?_)
  · have q_9 := q_7 c_8
    have c_8 := z_eq c_8
    have br_3_10 : zB 0 0 r_3 := zB.eqL (a := 0) (b := 0) c_8 (zBc 0 0 (by decide))
    exfalso
    have := bon.1; have := bon.2; have := bse.1; have := bse.2; have := bq.1; have := bq.2; have := bfc.1; have := bfc.2; have : (0 : Int32).toInt = 0 := (by decide); have : (1 : Int32).toInt = 1 := (by decide); omega
  · have q_11 := q_6 c_8
    have c_8 := z_ne c_8
    have br_3_12 : zB 1 1 r_3 := zB.neLo c_8 br_3 (zBc 0 0 (by decide)) (by decide)
    refine lv_iload hx hb dX0_costBehind_15 (lv_at hl 0 rfl) ?_
    refine lv_if_lt (tgt := 30) hx hb dX0_costBehind_17 (by decide) (fun c_13 => ?_) (fun c_13 => ?_)
    · have c_13 := z_lt c_13
      exact zB.noLt c_13 bon (zBc 0 0 (by decide)) (by decide)
    · have c_13 := z_nlt c_13
      refine lv_iload hx hb dX0_costBehind_20 (lv_at hl 0 rfl) ?_
      refine lv_aload_n hx hb dX0_costBehind_22 rfl (lv_at hl 1 rfl) ?_
      refine zt_getr (t := 0) (C := RX0) (T := TX0) (N := 3) Z h hth zin_0 rfl 0 rfl ⟨by decide, rfl⟩ (zm_RX0 (List.mem_of_getElem? (i := 7) rfl)) (fun _ h9 => h9) dX0_costBehind_23 (fun a_14 ka_14 ha_14 => ?_)
      refine zt_alen (t := 113) Z h ha_14 ⟨by decide, rfl⟩ (by decide) (v := 1024) rfl dX0_costBehind_26 ?_
      refine lv_icmp_lt (tgt := 32) hx hb dX0_costBehind_27 (by decide) (fun c_15 => ?_) (fun c_15 => ?_)
      · have c_15 := z_lt c_15
        refine lv_aload_n hx hb dX0_costBehind_32 rfl (lv_at hl 2 rfl) ?_
        refine zt_getr (t := 6) (C := RX6) (T := TX6) (N := 6) Z h hpr zin_6 rfl 2 rfl ⟨by decide, rfl⟩ (zm_RX0 (List.mem_of_getElem? (i := 25) rfl)) (fun _ h9 => h9) dX0_costBehind_33 (fun a_16 ka_16 ha_16 => ?_)
        refine lv_iload_n hx hb dX0_costBehind_36 rfl (lv_at hl 4 rfl) ?_
        refine zt_aalde (t := 104) (t1 := 2) Z h ha_16 ⟨by decide, rfl⟩ (by decide) bq ⟨by decide, by decide⟩ dX0_costBehind_37 (fun a_17 ea_17 ha_17 => ?_)
        have hb_ := zPS.at hr0 ka_16 ea_17 ⟨(by have := bon.1; have := bon.2; have := bse.1; have := bse.2; have := bq.1; have := bq.2; have := bfc.1; have := bfc.2; have : (0 : Int32).toInt = 0 := (by decide); have : (1 : Int32).toInt = 1 := (by decide); have : (1024 : Int32).toInt = 1024 := (by decide); omega), (by have := bon.1; have := bon.2; have := bse.1; have := bse.2; have := bq.1; have := bq.2; have := bfc.1; have := bfc.2; have : (0 : Int32).toInt = 0 := (by decide); have : (1 : Int32).toInt = 1 := (by decide); have : (1024 : Int32).toInt = 1024 := (by decide); omega)⟩
        refine zt_geti (t := 2) (C := RX2) (T := TX2) (N := 9) Z h ha_17 zin_2 rfl 6 rfl ⟨by decide, rfl⟩ (zm_RX0 (List.mem_of_getElem? (i := 26) rfl)) (fun _ h9 => h9) dX0_costBehind_38 (fun x_18 kx_18 bx_18 => ?_)
        have hx6_ : cv (Int32.toNatClampNeg q) = x_18 := z_vi ((show zfld F a_17 6 = .int (cv (Int32.toNatClampNeg q)) by rw [hb_]; exact hr1 (Int32.toNatClampNeg q) (by have := z_cl (x := q) (by have := bon.1; have := bon.2; have := bse.1; have := bse.2; have := bq.1; have := bq.2; have := bx_18.1; have := bx_18.2; have := bfc.1; have := bfc.2; have : (0 : Int32).toInt = 0 := (by decide); have : (1 : Int32).toInt = 1 := (by decide); have : (1024 : Int32).toInt = 1024 := (by decide); omega); have := bon.1; have := bon.2; have := bse.1; have := bse.2; have := bq.1; have := bq.2; have := bx_18.1; have := bx_18.2; have := bfc.1; have := bfc.2; have : (0 : Int32).toInt = 0 := (by decide); have : (1 : Int32).toInt = 1 := (by decide); have : (1024 : Int32).toInt = 1024 := (by decide); omega))) kx_18
        have bx6_ : zB 0 1023 x_18 := by rw [← hx6_]; exact hr2 _ (by have := z_cl (x := q) (by have := bon.1; have := bon.2; have := bse.1; have := bse.2; have := bq.1; have := bq.2; have := bx_18.1; have := bx_18.2; have := bfc.1; have := bfc.2; have : (0 : Int32).toInt = 0 := (by decide); have : (1 : Int32).toInt = 1 := (by decide); have : (1024 : Int32).toInt = 1024 := (by decide); omega); have := bon.1; have := bon.2; have := bse.1; have := bse.2; have := bq.1; have := bq.2; have := bx_18.1; have := bx_18.2; have := bfc.1; have := bfc.2; have : (0 : Int32).toInt = 0 := (by decide); have : (1 : Int32).toInt = 1 := (by decide); have : (1024 : Int32).toInt = 1024 := (by decide); omega)
        refine lv_iload hx hb dX0_costBehind_41 (lv_at hl 0 rfl) ?_
        refine lv_iconst (v := (-1)) hx hb dX0_costBehind_43 (by decide) ?_
        refine lv_ixor hx hb dX0_costBehind_44 ?_
        refine zi_any (fun x_19 bx_19 ex_19 => ?_)
        refine lv_iand hx hb dX0_costBehind_45 ?_
        refine zi_any (fun x_20 bx_20 ex_20 => ?_)
        refine zk_Si (As := [.int x_20]) (rest := []) (bytes := cJ6_bitCount_0f7a4) (maxL := 1) (ret := (some .int)) Z h (ze_J6_bitCount l D k Γ L F H.size x_20) (va_cwS 1 hg zv_RX0_59 rfl rfl rfl zd_J6_bitCount_0f7a4 ⟨z_leR hRf (by decide), z_leR hRl (by decide)⟩) rfl hl.1 rfl (Nat.le_of_ble_eq_true rfl) dX0_costBehind_46 ⟨Nat.zero_le _, Nat.zero_le _⟩ (fun r_21 F_22 H locs w_23 h hfF_22 => ?_)
        obtain ⟨rfl, br_21, q_24, -⟩ := w_23
        refine lv_aload_n hx hb dX0_costBehind_49 rfl (lv_at hl 1 rfl) ?_
        refine zt_getk (t := 0) (C := RX0) (T := TX0) (N := 3) Z h hth zin_0 rfl 0 ka_14 ⟨by decide, rfl, by decide⟩ (zm_RX0 (List.mem_of_getElem? (i := 7) rfl)) (fun _ h9 => h9) dX0_costBehind_50 ?_
        refine lv_iload hx hb dX0_costBehind_53 (lv_at hl 0 rfl) ?_
        refine zt_ialde (t := 113) Z h ha_14 ⟨by decide, rfl⟩ bon ⟨by decide, by decide⟩ dX0_costBehind_55 (fun x_25 ex_25 bx_25 => ?_)
        refine lv_iadd hx hb dX0_costBehind_56 ?_
        refine zi_any (fun x_26 bx_26 ex_26 => ?_)
        subst hQ
        exact W.iret (v := x_26) hx hb hr (fun t ht hW => ⟨⟨x_26, F, rfl, ⟨rfl, (by unfold zco; rw [hx6_, ← zcc (c := x_18) bx6_, ← hon, zar_eq ka_14, ex_25, ex_26, q_24, ex_20, ex_19]), trivial⟩, by rw [ht]; exact h.1, h.2.1, zFr.rf⟩, h.2.2.F ht⟩) h.2.2.2.2 dX0_costBehind_57
      · have c_15 := z_nlt c_15
        exact zB.noLe c_15 (zBc 1024 1024 (by decide)) bon (by decide)

set_option maxHeartbeats 4000000 in
set_option maxRecDepth 100000 in
theorem ze_X0_firstOfBest (l : Launch) (D : va_G) (k : Nat → ClassId) (Γ : Nat → Option Nat) (L : List Nat) (F : Nat → va_E) (sz : Nat) (th : Nat) (pr : Nat) (se : Int32) (fc : Int32) (fa : Nat → Nat) (cv : Nat → Int32) (hth : Γ th = some 0) (hpr : Γ pr = some 6) (bse : zB 0 1023 se) (kfc : zfld F pr 4 = .int fc) (bfc : zB 0 10 fc) (hr0 : zPS Γ F pr fa) (hr1 : zCa F fa cv fc) (hr2 : zCm cv fc) (hr3 : zTl cv (zar F th 0) fc se) (hr4 : se.toInt < (zaLf fc).toInt) : Met l yX0_firstOfBest zwX0_firstOfBest ({ frames := 2, cells := 0, slots := 0, locals := 45 }) (va_Pc [.ref th, .ref pr, .int se] (zP D k Γ L F sz)) (va_Qi (fun (r : Int32) (u : Nat → va_E) => F = u ∧ zB 0 9 r ∧ zFst cv (zar F th 0) fc se r ∧ True) (zQ D k Γ L F []) (zA L sz)) 0 0 (zA L sz) := by
  refine Met.ofW (cc := cX0_firstOfBest) (maxL := 8) (ret := (some .int)) (by decide) rfl ?_
  intro p e s m args below meth c s₁ B hml hv
  obtain ⟨rfl, hsz, hP, hK, hLn, hE, hI⟩ := hv
  have hx := B.exec
  have hb := B.bytes
  have hr := B.returns
  have hg : ∀ w ∈ zG, w.before _ s = true := fun w h9 => atoms_spec (ws := zwX0_firstOfBest) B.pre w (List.mem_cons_of_mem _ h9)
  have hown : s.vm.findClass RX0 = some m.cls := findClass_of_methodNamed B.named
  have hlocks := B.notSynchronized
  subst hsz
  have Z : zC p m c cX0_firstOfBest 8 s _ zG RX0 D k L := ⟨⟨hx, hb, hml, hown, hg⟩, hK, hLn, hE⟩
  have h : zH D k Γ L s F s.heap [] := ⟨hP, hI, va_S.rf⟩
  have hl := lv_entry ([.ref th, .ref pr, .int se]) (n := 8) (Nat.le_of_ble_eq_true rfl)
  rw [lg_entry_eq]
  generalize (lg_sl ([.ref th, .ref pr, .int se]) ++ List.replicate (8 - (lg_sl ([.ref th, .ref pr, .int se])).length) Slot.unset).toArray = ls at hl ⊢
  have hl : lv_has ls 8 [(0, .ref th), (1, .ref pr), (2, .int se)] := hl
  clear hP hK hLn hE hI
  generalize hargs : ([.ref th, .ref pr, .int se] : List Value).toArray = args at *
  refine z_start (fun R Q hRf hRl hQ => ?_)
  have hRf : R.frames = 2 := hRf
  have hRl : R.locals = 45 := hRl
  have h9 := h
  refine lv_iconst (v := 0) hx hb dX0_firstOfBest_0 (by decide) ?_
  refine lv_istore_n (lv' := [(3, .int 0), (0, .ref th), (1, .ref pr), (2, .int se)]) hx hb dX0_firstOfBest_1 rfl hl (by decide) rfl (fun ls hl => ?_)
  refine lv_bipush (v := 100) hx hb dX0_firstOfBest_2 (by decide) ?_
  refine lv_istore (lv' := [(4, .int 100), (3, .int 0), (0, .ref th), (1, .ref pr), (2, .int se)]) hx hb dX0_firstOfBest_4 hl (by decide) rfl (fun ls hl => ?_)
  refine lv_iconst (v := 0) hx hb dX0_firstOfBest_6 (by decide) ?_
  refine lv_istore (lv' := [(5, .int 0), (4, .int 100), (3, .int 0), (0, .ref th), (1, .ref pr), (2, .int se)]) hx hb dX0_firstOfBest_7 hl (by decide) rfl (fun ls hl => ?_)
  have j_j9_1 : ∀ (n : Nat) (ls : Array Slot) (y5_j9_1 : Int32) (y4_j9_1 : Int32) (y3_j9_1 : Int32) (H : Heap) (locs : List Loc), lv_has ls 8 [(5, .int y5_j9_1), (4, .int y4_j9_1), (3, .int y3_j9_1), (0, .ref th), (1, .ref pr), (2, .int se)] → zB 0 10 y5_j9_1 → zB 0 100 y4_j9_1 → zB 0 9 y3_j9_1 → zH D k Γ L s F H locs → (y5_j9_1.toInt ≤ fc.toInt) → (zFB cv (zar F th 0) se y5_j9_1 y3_j9_1 y4_j9_1) → (2147483647 - y5_j9_1.toInt).toNat = n → W p l e R s m args below meth c H locs 0 0 Q (F0 m 9 ls []) := by
    intro n
    induction n using Nat.strongRecOn with
    | _ n ih_j9_1 =>
      intro ls y5_j9_1 y4_j9_1 y3_j9_1 H locs hl by5_j9_1 by4_j9_1 by3_j9_1 h r0_j9_1 r1_j9_1 hn_j9_1
      refine lv_iload hx hb dX0_firstOfBest_9 (lv_at hl 0 rfl) ?_
      refine lv_aload_n hx hb dX0_firstOfBest_11 rfl (lv_at hl 4 rfl) ?_
      refine zt_getk (t := 6) (C := RX6) (T := TX6) (N := 6) Z h hpr zin_6 rfl 4 kfc ⟨by decide, rfl, by decide⟩ (zm_RX0 (List.mem_of_getElem? (i := 11) rfl)) (fun _ h9 => h9) dX0_firstOfBest_12 ?_
      refine lv_icmp_ge (tgt := 74) hx hb dX0_firstOfBest_15 (by decide) (fun c_2 => ?_) (fun c_2 => ?_)
      · have c_2 := z_le c_2
        refine lv_iload_n hx hb dX0_firstOfBest_74 rfl (lv_at hl 2 rfl) ?_
        subst hQ
        exact W.iret (v := y3_j9_1) hx hb hr (fun t ht hW => ⟨⟨y3_j9_1, F, rfl, ⟨rfl, by3_j9_1, (zFB.en r1_j9_1 (by have := by5_j9_1.1; have := by5_j9_1.2; have := by4_j9_1.1; have := by4_j9_1.2; have := by3_j9_1.1; have := by3_j9_1.2; have := bse.1; have := bse.2; have := bfc.1; have := bfc.2; omega) bse bfc hr4).1, trivial⟩, by rw [ht]; exact h.1, h.2.1, zFr.rf⟩, h.2.2.F ht⟩) h.2.2.2.2 dX0_firstOfBest_75
      · have c_2 := z_nle c_2
        have by5_j9_1_3 : zB 0 9 y5_j9_1 := zB.ltL c_2 by5_j9_1 bfc (by decide)
        have bfc_4 : zB 1 10 fc := zB.ltR c_2 by5_j9_1 bfc (by decide)
        refine lv_iload_n hx hb dX0_firstOfBest_18 rfl (lv_at hl 5 rfl) ?_
        refine lv_iload hx hb dX0_firstOfBest_19 (lv_at hl 0 rfl) ?_
        refine lv_ishr hx hb dX0_firstOfBest_21 ?_
        refine zi_any (fun x_5 bx_5 ex_5 => ?_)
        refine lv_iconst (v := 1) hx hb dX0_firstOfBest_22 (by decide) ?_
        refine lv_iand hx hb dX0_firstOfBest_23 ?_
        refine zi_and ((zBc 1 1 (by decide)).w ⟨by decide, by decide⟩ : zB 0 1 _) (fun x_6 bx_6 ex_6 => ?_)
        refine lv_if_eq (tgt := 31) hx hb dX0_firstOfBest_24 (by decide) (fun c_7 => ?_) (fun c_7 => ?_)
        · have c_7 := z_eq c_7
          have bx_6_8 : zB 0 0 x_6 := zB.eqL (a := 0) (b := 0) c_7 (zBc 0 0 (by decide))
          have q_9 : ¬ zbit se y5_j9_1 := by unfold zbit; rw [← ex_5, ← ex_6]; intro h9; exact absurd (congrArg Int32.toInt h9) (by have := by5_j9_1_3.1; have := by5_j9_1_3.2; have := by4_j9_1.1; have := by4_j9_1.2; have := by3_j9_1.1; have := by3_j9_1.2; have := bse.1; have := bse.2; have := bx_6_8.1; have := bx_6_8.2; have := bfc_4.1; have := bfc_4.2; have : (0 : Int32).toInt = 0 := (by decide); have : (1 : Int32).toInt = 1 := (by decide); have : (1 : Int32).toInt = 1 := (by decide); omega)
          refine lv_iconst (v := 0) hx hb dX0_firstOfBest_31 (by decide) ?_
          refine lv_istore (lv' := [(6, .int 0), (5, .int y5_j9_1), (4, .int y4_j9_1), (3, .int y3_j9_1), (0, .ref th), (1, .ref pr), (2, .int se)]) hx hb dX0_firstOfBest_32 hl (by decide) rfl (fun ls hl => ?_)
          refine lv_iload hx hb dX0_firstOfBest_34 (lv_at hl 0 rfl) ?_
          refine lv_if_eq (tgt := 44) hx hb dX0_firstOfBest_36 (by decide) (fun _ => ?_) (fun h9 => absurd (by decide) h9)
          refine lv_aload_n hx hb dX0_firstOfBest_44 rfl (lv_at hl 4 rfl) ?_
          refine lv_aload_n hx hb dX0_firstOfBest_45 rfl (lv_at hl 5 rfl) ?_
          refine lv_iload_n hx hb dX0_firstOfBest_46 rfl (lv_at hl 6 rfl) ?_
          refine lv_iload hx hb dX0_firstOfBest_47 (lv_at hl 1 rfl) ?_
          refine zk_Vi (As := [.ref pr, .int se, .int y5_j9_1]) (rest := []) (bytes := cX0_costBehind) (maxL := 5) (ret := (some .int)) Z h (ze_X0_costBehind l D k Γ L F H.size th pr se y5_j9_1 fc fa cv hth hpr bse by5_j9_1_3 kfc (bfc_4.w ⟨by decide, by decide⟩) hr0 hr1 hr2 (by have := by5_j9_1_3.1; have := by5_j9_1_3.2; have := by4_j9_1.1; have := by4_j9_1.2; have := by3_j9_1.1; have := by3_j9_1.2; have := bse.1; have := bse.2; have := bfc_4.1; have := bfc_4.2; have : (0 : Int32).toInt = 0 := (by decide); have : (1 : Int32).toInt = 1 := (by decide); omega)) (cwV 3 hg zv_RX0_42 rfl rfl rfl zd_X0_costBehind ⟨z_leR hRf (by decide), z_leR hRl (by decide)⟩) hth (by decide) rfl rfl hl.1 rfl (Nat.le_of_ble_eq_true rfl) dX0_firstOfBest_49 ⟨Nat.zero_le _, Nat.zero_le _⟩ (fun r_10 F_11 H locs w_12 h hfF_11 => ?_)
          obtain ⟨rfl, q_13, -⟩ := w_12
          have br_10 := zB.all r_10
          have q_14 := zTl.co hr3 hr2 bfc (f := y5_j9_1) (Int.le_refl _) (by have := by5_j9_1_3.1; have := by5_j9_1_3.2; have := by4_j9_1.1; have := by4_j9_1.2; have := by3_j9_1.1; have := by3_j9_1.2; have := bse.1; have := bse.2; have := br_10.1; have := br_10.2; have := bfc_4.1; have := bfc_4.2; have : (0 : Int32).toInt = 0 := (by decide); have : (1 : Int32).toInt = 1 := (by decide); omega) hr4 (by have := by5_j9_1_3.1; have := by5_j9_1_3.2; have := by4_j9_1.1; have := by4_j9_1.2; have := by3_j9_1.1; have := by3_j9_1.2; have := bse.1; have := bse.2; have := br_10.1; have := br_10.2; have := bfc_4.1; have := bfc_4.2; have : (0 : Int32).toInt = 0 := (by decide); have : (1 : Int32).toInt = 1 := (by decide); omega) (by have := by5_j9_1_3.1; have := by5_j9_1_3.2; have := by4_j9_1.1; have := by4_j9_1.2; have := by3_j9_1.1; have := by3_j9_1.2; have := bse.1; have := bse.2; have := br_10.1; have := br_10.2; have := bfc_4.1; have := bfc_4.2; have : (0 : Int32).toInt = 0 := (by decide); have : (1 : Int32).toInt = 1 := (by decide); omega) q_9
          rw [← q_13] at q_14
          have bc_15 : zB 0 90 r_10 := ⟨q_14.1, q_14.2.1⟩
          refine lv_istore (lv' := [(7, .int r_10), (6, .int 0), (5, .int y5_j9_1), (4, .int y4_j9_1), (3, .int y3_j9_1), (0, .ref th), (1, .ref pr), (2, .int se)]) hx hb dX0_firstOfBest_52 hl (by decide) rfl (fun ls hl => ?_)
          refine lv_iload hx hb dX0_firstOfBest_54 (lv_at hl 0 rfl) ?_
          refine lv_iload hx hb dX0_firstOfBest_56 (lv_at hl 3 rfl) ?_
          refine lv_icmp_ge (tgt := 68) hx hb dX0_firstOfBest_58 (by decide) (fun c_16 => ?_) (fun c_16 => ?_)
          · have c_16 := z_le c_16
            have by4_j9_1_17 : zB 0 90 y4_j9_1 := zB.leL c_16 by4_j9_1 bc_15 (by decide)
            obtain ⟨x_18, ex_18, bx_18, tx_18⟩ := z_inc (n := 1) (lo := 1) (hi := 10) by5_j9_1_3 (by decide)
            refine lv_iinc (v := x_18) (lv' := [(5, .int x_18), (7, .int r_10), (6, .int 0), (4, .int y4_j9_1), (3, .int y3_j9_1), (0, .ref th), (1, .ref pr), (2, .int se)]) hx hb dX0_firstOfBest_68 hl (k := 2) rfl ex_18 (by decide) rfl (fun ls hl => ?_)
            refine lv_goto (tgt := 9) hx hb dX0_firstOfBest_71 (by decide) ?_
            exact ih_j9_1 _ (by have := bx_18.1; have := bx_18.2; have := bc_15.1; have := bc_15.2; have := by4_j9_1_17.1; have := by4_j9_1_17.2; have := by3_j9_1.1; have := by3_j9_1.2; have := bse.1; have := bse.2; have := bfc_4.1; have := bfc_4.2; have : (0 : Int32).toInt = 0 := (by decide); have : (1 : Int32).toInt = 1 := (by decide); have := by5_j9_1.1; have := by5_j9_1.2; have := by4_j9_1.1; have := by4_j9_1.2; have := by3_j9_1.1; have := by3_j9_1.2; omega) ls x_18 y4_j9_1 y3_j9_1 H locs (lv_sub hl [0, 3, 4, 5, 6, 7] rfl) (bx_18.w ⟨by decide, by decide⟩) (by4_j9_1_17.w ⟨by decide, by decide⟩) by3_j9_1 h (by have := bx_18.1; have := bx_18.2; have := bc_15.1; have := bc_15.2; have := by4_j9_1_17.1; have := by4_j9_1_17.2; have := by3_j9_1.1; have := by3_j9_1.2; have := bse.1; have := bse.2; have := bfc_4.1; have := bfc_4.2; have : (0 : Int32).toInt = 0 := (by decide); have : (1 : Int32).toInt = 1 := (by decide); omega) (zFB.skip r1_j9_1 (by have := bx_18.1; have := bx_18.2; have := bc_15.1; have := bc_15.2; have := by4_j9_1_17.1; have := by4_j9_1_17.2; have := by3_j9_1.1; have := by3_j9_1.2; have := bse.1; have := bse.2; have := by5_j9_1_3.1; have := by5_j9_1_3.2; have := bfc_4.1; have := bfc_4.2; have : (0 : Int32).toInt = 0 := (by decide); have : (1 : Int32).toInt = 1 := (by decide); omega) (Or.inr ⟨by rw [← q_13]; have := bx_18.1; have := bx_18.2; have := bc_15.1; have := bc_15.2; have := by4_j9_1_17.1; have := by4_j9_1_17.2; have := by3_j9_1.1; have := by3_j9_1.2; have := bse.1; have := bse.2; have := by5_j9_1_3.1; have := by5_j9_1_3.2; have := bfc_4.1; have := bfc_4.2; have : (0 : Int32).toInt = 0 := (by decide); have : (1 : Int32).toInt = 1 := (by decide); omega, by have := bx_18.1; have := bx_18.2; have := bc_15.1; have := bc_15.2; have := by4_j9_1_17.1; have := by4_j9_1_17.2; have := by3_j9_1.1; have := by3_j9_1.2; have := bse.1; have := bse.2; have := by5_j9_1_3.1; have := by5_j9_1_3.2; have := bfc_4.1; have := bfc_4.2; have : (0 : Int32).toInt = 0 := (by decide); have : (1 : Int32).toInt = 1 := (by decide); omega⟩)) rfl
          · have c_16 := z_nle c_16
            have by4_j9_1_19 : zB 1 100 y4_j9_1 := zB.ltR c_16 bc_15 by4_j9_1 (by decide)
            refine lv_iload hx hb dX0_firstOfBest_61 (lv_at hl 0 rfl) ?_
            refine lv_istore (lv' := [(4, .int r_10), (7, .int r_10), (6, .int 0), (5, .int y5_j9_1), (3, .int y3_j9_1), (0, .ref th), (1, .ref pr), (2, .int se)]) hx hb dX0_firstOfBest_63 hl (by decide) rfl (fun ls hl => ?_)
            refine lv_iload hx hb dX0_firstOfBest_65 (lv_at hl 3 rfl) ?_
            refine lv_istore_n (lv' := [(3, .int y5_j9_1), (4, .int r_10), (7, .int r_10), (6, .int 0), (5, .int y5_j9_1), (0, .ref th), (1, .ref pr), (2, .int se)]) hx hb dX0_firstOfBest_67 rfl hl (by decide) rfl (fun ls hl => ?_)
            obtain ⟨x_20, ex_20, bx_20, tx_20⟩ := z_inc (n := 1) (lo := 1) (hi := 10) by5_j9_1_3 (by decide)
            refine lv_iinc (v := x_20) (lv' := [(5, .int x_20), (3, .int y5_j9_1), (4, .int r_10), (7, .int r_10), (6, .int 0), (0, .ref th), (1, .ref pr), (2, .int se)]) hx hb dX0_firstOfBest_68 hl (k := 4) rfl ex_20 (by decide) rfl (fun ls hl => ?_)
            refine lv_goto (tgt := 9) hx hb dX0_firstOfBest_71 (by decide) ?_
            exact ih_j9_1 _ (by have := bx_20.1; have := bx_20.2; have := by5_j9_1_3.1; have := by5_j9_1_3.2; have := bc_15.1; have := bc_15.2; have := bse.1; have := bse.2; have := bfc_4.1; have := bfc_4.2; have : (0 : Int32).toInt = 0 := (by decide); have : (1 : Int32).toInt = 1 := (by decide); have := by5_j9_1.1; have := by5_j9_1.2; have := by4_j9_1.1; have := by4_j9_1.2; have := by3_j9_1.1; have := by3_j9_1.2; omega) ls x_20 r_10 y5_j9_1 H locs (lv_sub hl [0, 2, 1, 5, 6, 7] rfl) (bx_20.w ⟨by decide, by decide⟩) (bc_15.w ⟨by decide, by decide⟩) by5_j9_1_3 h (by have := bx_20.1; have := bx_20.2; have := by5_j9_1_3.1; have := by5_j9_1_3.2; have := bc_15.1; have := bc_15.2; have := bse.1; have := bse.2; have := bfc_4.1; have := bfc_4.2; have : (0 : Int32).toInt = 0 := (by decide); have : (1 : Int32).toInt = 1 := (by decide); omega) (zFB.new r1_j9_1 (by have := bx_20.1; have := bx_20.2; have := by5_j9_1_3.1; have := by5_j9_1_3.2; have := bc_15.1; have := bc_15.2; have := bse.1; have := bse.2; have := bfc_4.1; have := bfc_4.2; have : (0 : Int32).toInt = 0 := (by decide); have : (1 : Int32).toInt = 1 := (by decide); omega) (by have := bx_20.1; have := bx_20.2; have := by5_j9_1_3.1; have := by5_j9_1_3.2; have := bc_15.1; have := bc_15.2; have := bse.1; have := bse.2; have := bfc_4.1; have := bfc_4.2; have : (0 : Int32).toInt = 0 := (by decide); have : (1 : Int32).toInt = 1 := (by decide); omega) q_9 q_13.symm (by have := bx_20.1; have := bx_20.2; have := by5_j9_1_3.1; have := by5_j9_1_3.2; have := bc_15.1; have := bc_15.2; have := bse.1; have := bse.2; have := by4_j9_1_19.1; have := by4_j9_1_19.2; have := bfc_4.1; have := bfc_4.2; have : (0 : Int32).toInt = 0 := (by decide); have : (1 : Int32).toInt = 1 := (by decide); omega)) rfl
        · have c_7 := z_ne c_7
          have bx_6_21 : zB 1 1 x_6 := zB.neLo c_7 bx_6 (zBc 0 0 (by decide)) (by decide)
          have q_22 : zbit se y5_j9_1 := by unfold zbit; rw [← ex_5, ← ex_6]; exact Int32.toInt_inj.mp (by have := by5_j9_1_3.1; have := by5_j9_1_3.2; have := by4_j9_1.1; have := by4_j9_1.2; have := by3_j9_1.1; have := by3_j9_1.2; have := bse.1; have := bse.2; have := bx_6_21.1; have := bx_6_21.2; have := bfc_4.1; have := bfc_4.2; have : (0 : Int32).toInt = 0 := (by decide); have : (1 : Int32).toInt = 1 := (by decide); have : (1 : Int32).toInt = 1 := (by decide); omega)
          refine lv_iconst (v := 1) hx hb dX0_firstOfBest_27 (by decide) ?_
          refine lv_goto (tgt := 32) hx hb dX0_firstOfBest_28 (by decide) ?_
          refine lv_istore (lv' := [(6, .int 1), (5, .int y5_j9_1), (4, .int y4_j9_1), (3, .int y3_j9_1), (0, .ref th), (1, .ref pr), (2, .int se)]) hx hb dX0_firstOfBest_32 hl (by decide) rfl (fun ls hl => ?_)
          refine lv_iload hx hb dX0_firstOfBest_34 (lv_at hl 0 rfl) ?_
          refine lv_if_eq (tgt := 44) hx hb dX0_firstOfBest_36 (by decide) (fun h9 => absurd h9 (by decide)) (fun _ => ?_)
          refine lv_bipush (v := 100) hx hb dX0_firstOfBest_39 (by decide) ?_
          refine lv_goto (tgt := 52) hx hb dX0_firstOfBest_41 (by decide) ?_
          refine lv_istore (lv' := [(7, .int 100), (6, .int 1), (5, .int y5_j9_1), (4, .int y4_j9_1), (3, .int y3_j9_1), (0, .ref th), (1, .ref pr), (2, .int se)]) hx hb dX0_firstOfBest_52 hl (by decide) rfl (fun ls hl => ?_)
          refine lv_iload hx hb dX0_firstOfBest_54 (lv_at hl 0 rfl) ?_
          refine lv_iload hx hb dX0_firstOfBest_56 (lv_at hl 3 rfl) ?_
          refine lv_icmp_ge (tgt := 68) hx hb dX0_firstOfBest_58 (by decide) (fun c_23 => ?_) (fun c_23 => ?_)
          · have c_23 := z_le c_23
            obtain ⟨x_24, ex_24, bx_24, tx_24⟩ := z_inc (n := 1) (lo := 1) (hi := 10) by5_j9_1_3 (by decide)
            refine lv_iinc (v := x_24) (lv' := [(5, .int x_24), (7, .int 100), (6, .int 1), (4, .int y4_j9_1), (3, .int y3_j9_1), (0, .ref th), (1, .ref pr), (2, .int se)]) hx hb dX0_firstOfBest_68 hl (k := 2) rfl ex_24 (by decide) rfl (fun ls hl => ?_)
            refine lv_goto (tgt := 9) hx hb dX0_firstOfBest_71 (by decide) ?_
            exact ih_j9_1 _ (by have := bx_24.1; have := bx_24.2; have := by4_j9_1.1; have := by4_j9_1.2; have := by3_j9_1.1; have := by3_j9_1.2; have := bse.1; have := bse.2; have := bfc_4.1; have := bfc_4.2; have : (0 : Int32).toInt = 0 := (by decide); have : (1 : Int32).toInt = 1 := (by decide); have : (100 : Int32).toInt = 100 := (by decide); have := by5_j9_1.1; have := by5_j9_1.2; have := by4_j9_1.1; have := by4_j9_1.2; have := by3_j9_1.1; have := by3_j9_1.2; omega) ls x_24 y4_j9_1 y3_j9_1 H locs (lv_sub hl [0, 3, 4, 5, 6, 7] rfl) (bx_24.w ⟨by decide, by decide⟩) by4_j9_1 by3_j9_1 h (by have := bx_24.1; have := bx_24.2; have := by4_j9_1.1; have := by4_j9_1.2; have := by3_j9_1.1; have := by3_j9_1.2; have := bse.1; have := bse.2; have := bfc_4.1; have := bfc_4.2; have : (0 : Int32).toInt = 0 := (by decide); have : (1 : Int32).toInt = 1 := (by decide); have : (100 : Int32).toInt = 100 := (by decide); omega) (zFB.skip r1_j9_1 (by have := bx_24.1; have := bx_24.2; have := by4_j9_1.1; have := by4_j9_1.2; have := by3_j9_1.1; have := by3_j9_1.2; have := bse.1; have := bse.2; have := by5_j9_1_3.1; have := by5_j9_1_3.2; have := bfc_4.1; have := bfc_4.2; have : (0 : Int32).toInt = 0 := (by decide); have : (1 : Int32).toInt = 1 := (by decide); have : (100 : Int32).toInt = 100 := (by decide); omega) (Or.inl q_22)) rfl
          · have c_23 := z_nle c_23
            exact zB.noLt c_23 (zBc 100 100 (by decide)) by4_j9_1 (by decide)
  exact j_j9_1 _ ls 0 100 0 s.heap [] (lv_sub hl [0, 1, 2, 3, 4, 5] rfl) (zB.of ⟨by decide, by decide⟩) (zB.of ⟨by decide, by decide⟩) (zB.of ⟨by decide, by decide⟩) h (by have := bse.1; have := bse.2; have := bfc.1; have := bfc.2; have : (0 : Int32).toInt = 0 := (by decide); have : (100 : Int32).toInt = 100 := (by decide); omega) zFB.st rfl

set_option maxHeartbeats 4000000 in
set_option maxRecDepth 100000 in
theorem ze_X0_find (l : Launch) (D : va_G) (k : Nat → ClassId) (Γ : Nat → Option Nat) (L : List Nat) (F : Nat → va_E) (sz : Nat) (th : Nat) (pr : Nat) (fc : Int32) (fa : Nat → Nat) (cv : Nat → Int32) (kn : Int32) (hth : Γ th = some 0) (hpr : Γ pr = some 6) (kfc : zfld F pr 4 = .int fc) (bfc : zB 0 10 fc) (hr0 : zPS Γ F pr fa) (hr1 : zCa F fa cv fc) (hr2 : zCm cv fc) (kkn : zfld F th 2 = .int kn) (bkn : zB 0 1 kn) (hr3 : (kn.toInt ≠ 0 → zKb cv fc (zar F th 0) (zar F th 1))) : Met l yX0_find zwX0_find ({ frames := 3, cells := 0, slots := 0, locals := 72 }) (va_Pc [.ref th, .ref pr] (zP D k Γ L F sz)) (va_Qv (fun (u : Nat → va_E) => zKb cv fc (zar u th 0) (zar u th 1) ∧ True) (zQ D k Γ L F [2, 11300, 11400]) (zA L sz)) 0 0 (zA L sz) := by
  refine Met.ofW (cc := cX0_find) (maxL := 5) (ret := none) (by decide) rfl ?_
  intro p e s m args below meth c s₁ B hml hv
  obtain ⟨rfl, hsz, hP, hK, hLn, hE, hI⟩ := hv
  have hx := B.exec
  have hb := B.bytes
  have hr := B.returns
  have hg : ∀ w ∈ zG, w.before _ s = true := fun w h9 => atoms_spec (ws := zwX0_find) B.pre w (List.mem_cons_of_mem _ h9)
  have hown : s.vm.findClass RX0 = some m.cls := findClass_of_methodNamed B.named
  have hlocks := B.notSynchronized
  subst hsz
  have Z : zC p m c cX0_find 5 s _ zG RX0 D k L := ⟨⟨hx, hb, hml, hown, hg⟩, hK, hLn, hE⟩
  have h : zH D k Γ L s F s.heap [] := ⟨hP, hI, va_S.rf⟩
  have hl := lv_entry ([.ref th, .ref pr]) (n := 5) (Nat.le_of_ble_eq_true rfl)
  rw [lg_entry_eq]
  generalize (lg_sl ([.ref th, .ref pr]) ++ List.replicate (5 - (lg_sl ([.ref th, .ref pr])).length) Slot.unset).toArray = ls at hl ⊢
  have hl : lv_has ls 5 [(0, .ref th), (1, .ref pr)] := hl
  clear hP hK hLn hE hI
  generalize hargs : ([.ref th, .ref pr] : List Value).toArray = args at *
  refine z_start (fun R Q hRf hRl hQ => ?_)
  have hRf : R.frames = 3 := hRf
  have hRl : R.locals = 72 := hRl
  have h9 := h
  refine lv_aload_n hx hb dX0_find_0 rfl (lv_at hl 0 rfl) ?_
  refine zt_getk (t := 0) (C := RX0) (T := TX0) (N := 3) Z h hth zin_0 rfl 2 kkn ⟨by decide, rfl, by decide⟩ (zm_RX0 (List.mem_of_getElem? (i := 2) rfl)) (fun _ h9 => h9) dX0_find_1 ?_
  refine lv_if_eq (tgt := 8) hx hb dX0_find_4 (by decide) (fun c_1 => ?_) (fun c_1 => ?_)
  · have c_1 := z_eq c_1
    have bkn_2 : zB 0 0 kn := zB.eqL (a := 0) (b := 0) c_1 (zBc 0 0 (by decide))
    refine lv_iconst (v := 1) hx hb dX0_find_8 (by decide) ?_
    refine lv_aload_n hx hb dX0_find_9 rfl (lv_at hl 1 rfl) ?_
    refine zt_getk (t := 6) (C := RX6) (T := TX6) (N := 6) Z h hpr zin_6 rfl 4 kfc ⟨by decide, rfl, by decide⟩ (zm_RX0 (List.mem_of_getElem? (i := 11) rfl)) (fun _ h9 => h9) dX0_find_10 ?_
    refine lv_ishl hx hb dX0_find_13 ?_
    refine zi_any (fun x_3 bx_3 ex_3 => ?_)
    have hsh_ : x_3 = (1 : Int32) <<< (fc &&& 31) := ex_3
    have hsb_ := zal_sh bfc
    rw [← hsh_] at hsb_
    have bsh_ : zB 1 1024 x_3 := ⟨hsb_.1, hsb_.2.1⟩
    refine lv_aload_n hx hb dX0_find_14 rfl (lv_at hl 0 rfl) ?_
    refine zt_getr (t := 0) (C := RX0) (T := TX0) (N := 3) Z h hth zin_0 rfl 0 rfl ⟨by decide, rfl⟩ (zm_RX0 (List.mem_of_getElem? (i := 7) rfl)) (fun _ h9 => h9) dX0_find_15 (fun a_4 ka_4 ha_4 => ?_)
    refine zt_alen (t := 113) Z h ha_4 ⟨by decide, rfl⟩ (by decide) (v := 1024) rfl dX0_find_18 ?_
    refine va_mmin hx hb (by rw [hml]; exact hl.1.symm) hown (hg _ (zm_RX0 (List.mem_of_getElem? (i := 12) rfl))) (hg _ (zm_RX0 (List.mem_of_getElem? (i := 13) rfl))) (hg _ (zm_RX0 (List.mem_of_getElem? (i := 14) rfl))) (hg _ (zm_RX0 (List.mem_of_getElem? (i := 15) rfl))) (z_leR hRf (by decide)) (z_leR hRl (Nat.le_of_ble_eq_true rfl)) (Nat.zero_le _) (Nat.zero_le _) dX0_find_19 ?_
    refine zi_min (lo := 1) (hi := 1024) bsh_ (zBc 1024 1024 (by decide)) (by decide) (fun x_5 bx_5 tx_5 => ?_)
    refine lv_iconst (v := 1) hx hb dX0_find_22 (by decide) ?_
    refine lv_isub hx hb dX0_find_23 ?_
    refine zi_sub (lo := 0) (hi := 1023) bx_5 (zBc 1 1 (by decide)) (by decide) (fun x_6 bx_6 tx_6 => ?_)
    have hal_ : x_6 = zaLf fc := Int32.toInt_inj.mp (by rw [hsb_.2.2]; have := bx_6.1; have := bx_6.2; have := bsh_.1; have := bsh_.2; have := bfc.1; have := bfc.2; have := bkn_2.1; have := bkn_2.2; have : (0 : Int32).toInt = 0 := (by decide); have : (1 : Int32).toInt = 1 := (by decide); have : (1024 : Int32).toInt = 1024 := (by decide); omega)
    have bal_ : zB 0 1023 x_6 := by rw [hal_]; exact zaLf_b bfc
    refine lv_istore_n (lv' := [(2, .int x_6), (0, .ref th), (1, .ref pr)]) hx hb dX0_find_24 rfl hl (by decide) rfl (fun ls hl => ?_)
    refine lv_aload_n hx hb dX0_find_25 rfl (lv_at hl 1 rfl) ?_
    refine zt_getk (t := 0) (C := RX0) (T := TX0) (N := 3) Z h hth zin_0 rfl 0 ka_4 ⟨by decide, rfl, by decide⟩ (zm_RX0 (List.mem_of_getElem? (i := 7) rfl)) (fun _ h9 => h9) dX0_find_26 ?_
    refine lv_iload_n hx hb dX0_find_29 rfl (lv_at hl 0 rfl) ?_
    refine lv_iconst (v := 0) hx hb dX0_find_30 (by decide) ?_
    have ad_8 := z_ad (j := 0) (c := 113) h.2.1 hth (by decide) rfl
    refine zt_iaste (t := 113) Z h ha_4 ⟨by decide, rfl⟩ bal_ ⟨by decide, by decide⟩ (zB.of ⟨by decide, by decide⟩) dX0_find_31 (fun H locs F_7 h hfF_7 eF_7 gF_7 => ?_)
    have uF_7 := (zar_st ka_4 (hfF_7.f hth 0 ⟨by decide, by decide⟩ ka_4) eF_7 gF_7).trans (congrArg (fun z => upd z (Int32.toNatClampNeg x_6) (0 : Int32)) (rfl : zar F th 0 = (zar F th 0)))
    refine lv_iload_n hx hb dX0_find_32 rfl (lv_at hl 0 rfl) ?_
    refine lv_iconst (v := 1) hx hb dX0_find_33 (by decide) ?_
    refine lv_isub hx hb dX0_find_34 ?_
    refine zi_sub (lo := (-1)) (hi := 1022) bal_ (zBc 1 1 (by decide)) (by decide) (fun x_9 bx_9 tx_9 => ?_)
    refine lv_istore_n (lv' := [(3, .int x_9), (2, .int x_6), (0, .ref th), (1, .ref pr)]) hx hb dX0_find_35 rfl hl (by decide) rfl (fun ls hl => ?_)
    have j_j36_10 : ∀ (n : Nat) (ls : Array Slot) (y3_j36_10 : Int32) (F_11 : Nat → va_E) (H : Heap) (locs : List Loc), lv_has ls 5 [(3, .int y3_j36_10), (0, .ref th), (1, .ref pr)] → zB (-1) 1022 y3_j36_10 → zH D k Γ L s F_11 H locs → zFr Γ [11300] F_7 F_11 → (y3_j36_10.toInt < x_6.toInt) → (zTl cv (zar F_11 th 0) fc y3_j36_10) → (y3_j36_10.toInt + 1).toNat = n → W p l e R s m args below meth c H locs 0 0 Q (F0 m 36 ls []) := by
      intro n
      induction n using Nat.strongRecOn with
      | _ n ih_j36_10 =>
        intro ls y3_j36_10 F_11 H locs hl by3_j36_10 h hfF_11 r0_j36_10 r1_j36_10 hn_j36_10
        refine lv_iload_n hx hb dX0_find_36 rfl (lv_at hl 0 rfl) ?_
        refine lv_if_lt (tgt := 64) hx hb dX0_find_37 (by decide) (fun c_12 => ?_) (fun c_12 => ?_)
        · have c_12 := z_lt c_12
          have by3_j36_10_13 : zB (-1) (-1) y3_j36_10 := zB.ltL c_12 by3_j36_10 (zBc 0 0 (by decide)) (by decide)
          have tl_14 : zTl cv (zar F_11 th 0) fc (-1) := r1_j36_10.w (by have := by3_j36_10_13.1; have := by3_j36_10_13.2; have := bfc.1; have := bfc.2; have := bkn_2.1; have := bkn_2.2; have : (0 : Int32).toInt = 0 := (by decide); have : (1 : Int32).toInt = 1 := (by decide); have : (1024 : Int32).toInt = 1024 := (by decide); have : (-1 : Int32).toInt = -1 := (by decide); omega)
          have ad_15 := ad_8.fr hfF_7 hth ⟨by decide, by decide⟩
          have ad_16 := ad_15.fr hfF_11 hth ⟨by decide, by decide⟩
          refine lv_iconst (v := 0) hx hb dX0_find_64 (by decide) ?_
          refine lv_istore_n (lv' := [(3, .int 0), (0, .ref th), (1, .ref pr)]) hx hb dX0_find_65 rfl hl (by decide) rfl (fun ls hl => ?_)
          refine lv_iconst (v := 0) hx hb dX0_find_66 (by decide) ?_
          refine lv_istore (lv' := [(4, .int 0), (3, .int 0), (0, .ref th), (1, .ref pr)]) hx hb dX0_find_67 hl (by decide) rfl (fun ls hl => ?_)
          have j_j69_17 : ∀ (n : Nat) (ls : Array Slot) (y4_j69_17 : Int32) (y3_j69_17 : Int32) (F_18 : Nat → va_E) (H : Heap) (locs : List Loc), lv_has ls 5 [(4, .int y4_j69_17), (3, .int y3_j69_17), (0, .ref th), (1, .ref pr)] → zB 0 10 y4_j69_17 → zB 0 1023 y3_j69_17 → zH D k Γ L s F_18 H locs → zFr Γ [11400] F_11 F_18 → (y4_j69_17.toInt ≤ fc.toInt) → (zCs cv (zar F_11 th 0) fc y4_j69_17.toInt.toNat y3_j69_17) → (∀ i : Nat, (i : Int) < y4_j69_17.toInt → zCh cv (zar F_11 th 0) fc i (zar F_18 th 1 i)) → (2147483647 - y4_j69_17.toInt).toNat = n → W p l e R s m args below meth c H locs 0 0 Q (F0 m 69 ls []) := by
            intro n
            induction n using Nat.strongRecOn with
            | _ n ih_j69_17 =>
              intro ls y4_j69_17 y3_j69_17 F_18 H locs hl by4_j69_17 by3_j69_17 h hfF_18 r0_j69_17 r1_j69_17 r2_j69_17 hn_j69_17
              have ad_19 := z_ad (j := 1) (c := 114) h.2.1 hth (by decide) rfl
              refine lv_iload hx hb dX0_find_69 (lv_at hl 0 rfl) ?_
              refine lv_aload_n hx hb dX0_find_71 rfl (lv_at hl 3 rfl) ?_
              refine zt_getk (t := 6) (C := RX6) (T := TX6) (N := 6) Z h hpr zin_6 rfl 4 (hfF_18.f hpr 4 ⟨by decide, by decide⟩ (hfF_11.f hpr 4 ⟨by decide, by decide⟩ (hfF_7.f hpr 4 ⟨by decide, by decide⟩ kfc))) ⟨by decide, rfl, by decide⟩ (zm_RX0 (List.mem_of_getElem? (i := 11) rfl)) (fun _ h9 => h9) dX0_find_72 ?_
              refine lv_icmp_ge (tgt := 119) hx hb dX0_find_75 (by decide) (fun c_20 => ?_) (fun c_20 => ?_)
              · have c_20 := z_le c_20
                refine lv_aload_n hx hb dX0_find_119 rfl (lv_at hl 2 rfl) ?_
                refine lv_iconst (v := 1) hx hb dX0_find_120 (by decide) ?_
                refine zt_put (t := 0) (C := RX0) (T := TX0) (N := 3) (v := .int 1) Z h hth zin_0 tyX0 tyX0_ok nmX0 rfl 2 rfl ⟨by decide, rfl⟩ (zm_RX0 (List.mem_of_getElem? (i := 2) rfl)) (fun _ h9 => h9) rfl (zV.i (zB.of ⟨by decide, by decide⟩)) rfl rfl dX0_find_121 (fun H locs F_21 h hfF_21 kF_21 => ?_)
                have ad_22 := ad_16.fr hfF_18 hth ⟨by decide, by decide⟩
                have ar_23 : zar F_21 th 0 = (zar F_11 th 0) := ((ad_22.ar hfF_21 hth ⟨by decide, by decide⟩ ⟨by decide, by decide⟩).trans ((ad_16.ar hfF_18 hth ⟨by decide, by decide⟩ ⟨by decide, by decide⟩).trans rfl))
                have ar_24 : zar F_21 th 1 = (zar F_18 th 1) := ((ad_19.ar hfF_21 hth ⟨by decide, by decide⟩ ⟨by decide, by decide⟩).trans rfl)
                subst hQ
                exact W.vret hx hb hr (fun t ht hW => ⟨⟨F_21, rfl, ⟨(by rw [ar_23, ar_24]; exact ⟨tl_14, fun i h9 => r2_j69_17 i (by have := by4_j69_17.1; have := by4_j69_17.2; have := by3_j69_17.1; have := by3_j69_17.2; have := bfc.1; have := bfc.2; have := bkn_2.1; have := bkn_2.2; have : (0 : Int32).toInt = 0 := (by decide); have : (1 : Int32).toInt = 1 := (by decide); have : (1024 : Int32).toInt = 1024 := (by decide); omega)⟩), trivial⟩, by rw [ht]; exact h.1, h.2.1, ((((hfF_7.w (by decide)).trans hfF_11 (by decide)).trans hfF_18 (by decide)).trans hfF_21 (by decide))⟩, h.2.2.F ht⟩) h.2.2.2.2 dX0_find_124
              · have c_20 := z_nle c_20
                have by4_j69_17_25 : zB 0 9 y4_j69_17 := zB.ltL c_20 by4_j69_17 bfc (by decide)
                have bfc_26 : zB 1 10 fc := zB.ltR c_20 by4_j69_17 bfc (by decide)
                refine lv_iload hx hb dX0_find_78 (lv_at hl 0 rfl) ?_
                refine lv_aload_n hx hb dX0_find_80 rfl (lv_at hl 2 rfl) ?_
                refine zt_getr (t := 0) (C := RX0) (T := TX0) (N := 3) Z h hth zin_0 rfl 1 rfl ⟨by decide, rfl⟩ (zm_RX0 (List.mem_of_getElem? (i := 9) rfl)) (fun _ h9 => h9) dX0_find_81 (fun a_27 ka_27 ha_27 => ?_)
                refine zt_alen (t := 114) Z h ha_27 ⟨by decide, rfl⟩ (by decide) (v := 10) rfl dX0_find_84 ?_
                refine lv_icmp_ge (tgt := 119) hx hb dX0_find_85 (by decide) (fun c_28 => ?_) (fun c_28 => ?_)
                · have c_28 := z_le c_28
                  exact zB.noLe c_28 (zBc 10 10 (by decide)) by4_j69_17_25 (by decide)
                · have c_28 := z_nle c_28
                  refine lv_aload_n hx hb dX0_find_88 rfl (lv_at hl 2 rfl) ?_
                  refine zt_getk (t := 0) (C := RX0) (T := TX0) (N := 3) Z h hth zin_0 rfl 1 ka_27 ⟨by decide, rfl, by decide⟩ (zm_RX0 (List.mem_of_getElem? (i := 9) rfl)) (fun _ h9 => h9) dX0_find_89 ?_
                  refine lv_iload hx hb dX0_find_92 (lv_at hl 0 rfl) ?_
                  refine lv_aload_n hx hb dX0_find_94 rfl (lv_at hl 2 rfl) ?_
                  refine lv_aload_n hx hb dX0_find_95 rfl (lv_at hl 3 rfl) ?_
                  refine lv_iload_n hx hb dX0_find_96 rfl (lv_at hl 1 rfl) ?_
                  have ar_29 : zar F_18 th 0 = (zar F_11 th 0) := ((ad_16.ar hfF_18 hth ⟨by decide, by decide⟩ ⟨by decide, by decide⟩).trans rfl)
                  refine zk_Vi (As := [.ref pr, .int y3_j69_17]) (rest := [.int y4_j69_17, .ref a_27]) (bytes := cX0_firstOfBest) (maxL := 8) (ret := (some .int)) Z h (ze_X0_firstOfBest l D k Γ L F_18 H.size th pr y3_j69_17 fc fa cv hth hpr by3_j69_17 (hfF_18.f hpr 4 ⟨by decide, by decide⟩ (hfF_11.f hpr 4 ⟨by decide, by decide⟩ (hfF_7.f hpr 4 ⟨by decide, by decide⟩ kfc))) (bfc_26.w ⟨by decide, by decide⟩) (hr0.fr ((((hfF_7.w (by decide)).trans hfF_11 (by decide)).trans hfF_18 (by decide)) : zFr Γ [2, 11300, 11400] F F_18) hpr (by decide)) (hr1.fr ((((hfF_7.w (by decide)).trans hfF_11 (by decide)).trans hfF_18 (by decide)) : zFr Γ [2, 11300, 11400] F F_18) hr0 (by have := bfc.2; omega) (by decide)) hr2 (zTl.w (by rw [ar_29]; exact tl_14) (by have := by4_j69_17_25.1; have := by4_j69_17_25.2; have := by3_j69_17.1; have := by3_j69_17.2; have := bfc_26.1; have := bfc_26.2; have := bkn_2.1; have := bkn_2.2; have : (0 : Int32).toInt = 0 := (by decide); have : (1 : Int32).toInt = 1 := (by decide); have : (10 : Int32).toInt = 10 := (by decide); have : (1024 : Int32).toInt = 1024 := (by decide); have : (-1 : Int32).toInt = -1 := (by decide); omega)) (zCs.lt r1_j69_17 bfc (by have := by4_j69_17_25.1; have := by4_j69_17_25.2; have := by3_j69_17.1; have := by3_j69_17.2; have := bfc_26.1; have := bfc_26.2; have := bkn_2.1; have := bkn_2.2; have : (0 : Int32).toInt = 0 := (by decide); have : (1 : Int32).toInt = 1 := (by decide); have : (10 : Int32).toInt = 10 := (by decide); have : (1024 : Int32).toInt = 1024 := (by decide); omega))) (cwV 2 hg zv_RX0_38 rfl rfl rfl zd_X0_firstOfBest ⟨z_leR hRf (by decide), z_leR hRl (by decide)⟩) hth (by decide) rfl rfl hl.1 rfl (Nat.le_of_ble_eq_true rfl) dX0_find_97 ⟨Nat.zero_le _, Nat.zero_le _⟩ (fun r_30 F_31 H locs w_32 h hfF_31 => ?_)
                  obtain ⟨rfl, br_30, q_33, -⟩ := w_32
                  have fs_34 : zFst cv (zar F_11 th 0) fc y3_j69_17 r_30 := by rw [← ar_29]; exact q_33
                  refine zt_iaste (t := 114) Z h ha_27 ⟨by decide, rfl⟩ by4_j69_17_25 ⟨by decide, by decide⟩ (br_30.w ⟨by decide, by decide⟩) dX0_find_100 (fun H locs F_35 h hfF_35 eF_35 gF_35 => ?_)
                  have uF_35 := (zar_st ka_27 (hfF_35.f hth 1 ⟨by decide, by decide⟩ ka_27) eF_35 gF_35).trans (congrArg (fun z => upd z (Int32.toNatClampNeg y4_j69_17) r_30) (rfl : zar F_18 th 1 = (zar F_18 th 1)))
                  refine lv_iload_n hx hb dX0_find_101 rfl (lv_at hl 1 rfl) ?_
                  refine lv_iconst (v := 1) hx hb dX0_find_102 (by decide) ?_
                  refine lv_aload_n hx hb dX0_find_103 rfl (lv_at hl 2 rfl) ?_
                  refine zt_getk (t := 0) (C := RX0) (T := TX0) (N := 3) Z h hth zin_0 rfl 1 (hfF_35.f hth 1 ⟨by decide, by decide⟩ ka_27) ⟨by decide, rfl, by decide⟩ (zm_RX0 (List.mem_of_getElem? (i := 9) rfl)) (fun _ h9 => h9) dX0_find_104 ?_
                  refine lv_iload hx hb dX0_find_107 (lv_at hl 0 rfl) ?_
                  refine zt_ialde (t := 114) Z h ha_27 ⟨by decide, rfl⟩ by4_j69_17_25 ⟨by decide, by decide⟩ dX0_find_109 (fun x_36 ex_36 bx_36 => ?_)
                  have q_37 : x_36 = r_30 := by have h9 : zar F_35 th 1 (Int32.toNatClampNeg y4_j69_17) = x_36 := (by rw [zar_eq (hfF_35.f hth 1 ⟨by decide, by decide⟩ ka_27)]; exact ex_36); rw [uF_35, z_upe] at h9; exact h9.symm
                  have b_38 : zB 0 9 x_36 := by rw [q_37]; exact br_30
                  refine lv_ishl hx hb dX0_find_110 ?_
                  refine zi_any (fun x_39 bx_39 ex_39 => ?_)
                  refine lv_ior hx hb dX0_find_111 ?_
                  refine zi_any (fun x_40 bx_40 ex_40 => ?_)
                  have hon_41 : x_40 = zon y3_j69_17 r_30 := by rw [ex_40, ex_39, q_37]; rfl
                  have b_42 : zB 0 1023 x_40 := by rw [hon_41]; exact (zon_b by3_j69_17 br_30).1
                  refine lv_istore_n (lv' := [(3, .int x_40), (4, .int y4_j69_17), (0, .ref th), (1, .ref pr)]) hx hb dX0_find_112 rfl hl (by decide) rfl (fun ls hl => ?_)
                  obtain ⟨x_43, ex_43, bx_43, tx_43⟩ := z_inc (n := 1) (lo := 1) (hi := 10) by4_j69_17_25 (by decide)
                  refine lv_iinc (v := x_43) (lv' := [(4, .int x_43), (3, .int x_40), (0, .ref th), (1, .ref pr)]) hx hb dX0_find_113 hl (k := 1) rfl ex_43 (by decide) rfl (fun ls hl => ?_)
                  refine lv_goto (tgt := 69) hx hb dX0_find_116 (by decide) ?_
                  exact ih_j69_17 _ (by have := bx_43.1; have := bx_43.2; have := b_42.1; have := b_42.2; have := bfc_26.1; have := bfc_26.2; have := bkn_2.1; have := bkn_2.2; have : (0 : Int32).toInt = 0 := (by decide); have : (1 : Int32).toInt = 1 := (by decide); have : (10 : Int32).toInt = 10 := (by decide); have : (1024 : Int32).toInt = 1024 := (by decide); have := by4_j69_17.1; have := by4_j69_17.2; have := by3_j69_17.1; have := by3_j69_17.2; omega) ls x_43 x_40 F_35 H locs (lv_sub hl [0, 1, 2, 3] rfl) (bx_43.w ⟨by decide, by decide⟩) b_42 h (hfF_18.trans hfF_35 (by decide)) (by have := bx_43.1; have := bx_43.2; have := b_42.1; have := b_42.2; have := bfc_26.1; have := bfc_26.2; have := bkn_2.1; have := bkn_2.2; have : (0 : Int32).toInt = 0 := (by decide); have : (1 : Int32).toInt = 1 := (by decide); have : (10 : Int32).toInt = 10 := (by decide); have : (1024 : Int32).toInt = 1024 := (by decide); omega) (by rw [show x_43.toInt.toNat = y4_j69_17.toInt.toNat + 1 by have := bx_43.1; have := bx_43.2; have := b_42.1; have := b_42.2; have := by4_j69_17_25.1; have := by4_j69_17_25.2; have := bfc_26.1; have := bfc_26.2; have := bkn_2.1; have := bkn_2.2; have : (0 : Int32).toInt = 0 := (by decide); have : (1 : Int32).toInt = 1 := (by decide); have : (10 : Int32).toInt = 10 := (by decide); have : (1024 : Int32).toInt = 1024 := (by decide); omega]; exact ⟨_, _, r1_j69_17, fs_34, hon_41⟩) (fun i h9 => by rw [uF_35]; rcases Classical.em (i = Int32.toNatClampNeg y4_j69_17) with c9 | c9; (rw [c9, z_upe, show Int32.toNatClampNeg y4_j69_17 = y4_j69_17.toInt.toNat from rfl]; exact ⟨_, r1_j69_17, fs_34⟩); (rw [z_upn c9]; exact r2_j69_17 i (by have := z_cl (x := y4_j69_17) (by have := bx_43.1; have := bx_43.2; have := b_42.1; have := b_42.2; have := by4_j69_17_25.1; have := by4_j69_17_25.2; have := bfc_26.1; have := bfc_26.2; have := bkn_2.1; have := bkn_2.2; have : (0 : Int32).toInt = 0 := (by decide); have : (1 : Int32).toInt = 1 := (by decide); have : (10 : Int32).toInt = 10 := (by decide); have : (1024 : Int32).toInt = 1024 := (by decide); omega); have := bx_43.1; have := bx_43.2; have := b_42.1; have := b_42.2; have := by4_j69_17_25.1; have := by4_j69_17_25.2; have := bfc_26.1; have := bfc_26.2; have := bkn_2.1; have := bkn_2.2; have : (0 : Int32).toInt = 0 := (by decide); have : (1 : Int32).toInt = 1 := (by decide); have : (10 : Int32).toInt = 10 := (by decide); have : (1024 : Int32).toInt = 1024 := (by decide); omega))) rfl
          exact j_j69_17 _ ls 0 0 F_11 H locs (lv_sub hl [0, 1, 2, 3] rfl) (zB.of ⟨by decide, by decide⟩) (zB.of ⟨by decide, by decide⟩) h zFr.rf (by have := bfc.1; have := bfc.2; have := bkn_2.1; have := bkn_2.2; have : (0 : Int32).toInt = 0 := (by decide); have : (1 : Int32).toInt = 1 := (by decide); have : (1024 : Int32).toInt = 1024 := (by decide); omega) (by rw [show (0 : Int32).toInt.toNat = 0 by decide]; rfl) (fun i h9 => by exfalso; have : (0 : Int32).toInt = 0 := (by decide); omega) rfl
        · have c_12 := z_nlt c_12
          have by3_j36_10_44 : zB 0 1022 y3_j36_10 := zB.leR c_12 (zBc 0 0 (by decide)) by3_j36_10 (by decide)
          refine lv_aload_n hx hb dX0_find_40 rfl (lv_at hl 1 rfl) ?_
          refine zt_getk (t := 0) (C := RX0) (T := TX0) (N := 3) Z h hth zin_0 rfl 0 (hfF_11.f hth 0 ⟨by decide, by decide⟩ (hfF_7.f hth 0 ⟨by decide, by decide⟩ ka_4)) ⟨by decide, rfl, by decide⟩ (zm_RX0 (List.mem_of_getElem? (i := 7) rfl)) (fun _ h9 => h9) dX0_find_41 ?_
          refine lv_iload_n hx hb dX0_find_44 rfl (lv_at hl 0 rfl) ?_
          refine lv_aload_n hx hb dX0_find_45 rfl (lv_at hl 1 rfl) ?_
          refine lv_aload_n hx hb dX0_find_46 rfl (lv_at hl 2 rfl) ?_
          refine lv_iload_n hx hb dX0_find_47 rfl (lv_at hl 0 rfl) ?_
          refine lv_aload_n hx hb dX0_find_48 rfl (lv_at hl 1 rfl) ?_
          refine lv_aload_n hx hb dX0_find_49 rfl (lv_at hl 2 rfl) ?_
          refine lv_iload_n hx hb dX0_find_50 rfl (lv_at hl 0 rfl) ?_
          refine zk_Vi (As := [.ref pr, .int y3_j36_10]) (rest := [.int y3_j36_10, .ref pr, .ref th, .int y3_j36_10, .ref a_4]) (bytes := cX0_firstOfBest) (maxL := 8) (ret := (some .int)) Z h (ze_X0_firstOfBest l D k Γ L F_11 H.size th pr y3_j36_10 fc fa cv hth hpr (by3_j36_10_44.w ⟨by decide, by decide⟩) (hfF_11.f hpr 4 ⟨by decide, by decide⟩ (hfF_7.f hpr 4 ⟨by decide, by decide⟩ kfc)) bfc (hr0.fr (((hfF_7.w (by decide)).trans hfF_11 (by decide)) : zFr Γ [2, 11300, 11400] F F_11) hpr (by decide)) (hr1.fr (((hfF_7.w (by decide)).trans hfF_11 (by decide)) : zFr Γ [2, 11300, 11400] F F_11) hr0 (by have := bfc.2; omega) (by decide)) hr2 (r1_j36_10.w (by have := by3_j36_10_44.1; have := by3_j36_10_44.2; have := bfc.1; have := bfc.2; have := bkn_2.1; have := bkn_2.2; have : (0 : Int32).toInt = 0 := (by decide); have : (1 : Int32).toInt = 1 := (by decide); have : (1024 : Int32).toInt = 1024 := (by decide); omega)) (by rw [← hal_]; have := by3_j36_10_44.1; have := by3_j36_10_44.2; have := bal_.1; have := bal_.2; have := bfc.1; have := bfc.2; have := bkn_2.1; have := bkn_2.2; have : (0 : Int32).toInt = 0 := (by decide); have : (1 : Int32).toInt = 1 := (by decide); have : (1024 : Int32).toInt = 1024 := (by decide); omega)) (cwV 2 hg zv_RX0_38 rfl rfl rfl zd_X0_firstOfBest ⟨z_leR hRf (by decide), z_leR hRl (by decide)⟩) hth (by decide) rfl rfl hl.1 rfl (Nat.le_of_ble_eq_true rfl) dX0_find_51 ⟨Nat.zero_le _, Nat.zero_le _⟩ (fun r_45 F_46 H locs w_47 h hfF_46 => ?_)
          obtain ⟨rfl, br_45, q_48, -⟩ := w_47
          have := q_48.1
          have := q_48.2.1
          refine zk_Vi (As := [.ref pr, .int y3_j36_10, .int r_45]) (rest := [.int y3_j36_10, .ref a_4]) (bytes := cX0_costBehind) (maxL := 5) (ret := (some .int)) Z h (ze_X0_costBehind l D k Γ L F_11 H.size th pr y3_j36_10 r_45 fc fa cv hth hpr (by3_j36_10_44.w ⟨by decide, by decide⟩) br_45 (hfF_11.f hpr 4 ⟨by decide, by decide⟩ (hfF_7.f hpr 4 ⟨by decide, by decide⟩ kfc)) bfc (hr0.fr (((hfF_7.w (by decide)).trans hfF_11 (by decide)) : zFr Γ [2, 11300, 11400] F F_11) hpr (by decide)) (hr1.fr (((hfF_7.w (by decide)).trans hfF_11 (by decide)) : zFr Γ [2, 11300, 11400] F F_11) hr0 (by have := bfc.2; omega) (by decide)) hr2 (by have := by3_j36_10_44.1; have := by3_j36_10_44.2; have := br_45.1; have := br_45.2; have := bfc.1; have := bfc.2; have := bkn_2.1; have := bkn_2.2; have : (0 : Int32).toInt = 0 := (by decide); have : (1 : Int32).toInt = 1 := (by decide); have : (1024 : Int32).toInt = 1024 := (by decide); omega)) (cwV 3 hg zv_RX0_42 rfl rfl rfl zd_X0_costBehind ⟨z_leR hRf (by decide), z_leR hRl (by decide)⟩) hth (by decide) rfl rfl hl.1 rfl (Nat.le_of_ble_eq_true rfl) dX0_find_54 ⟨Nat.zero_le _, Nat.zero_le _⟩ (fun r_49 F_50 H locs w_51 h hfF_50 => ?_)
          obtain ⟨rfl, q_52, -⟩ := w_51
          have br_49 := zB.all r_49
          have ar_54 : zar F_11 th 0 = (zar F_11 th 0) := rfl
          refine zt_iaste (t := 113) Z h ha_4 ⟨by decide, rfl⟩ by3_j36_10_44 ⟨by decide, by decide⟩ br_49 dX0_find_57 (fun H locs F_53 h hfF_53 eF_53 gF_53 => ?_)
          have uF_53 := (zar_st (hfF_11.f hth 0 ⟨by decide, by decide⟩ (hfF_7.f hth 0 ⟨by decide, by decide⟩ ka_4)) (hfF_53.f hth 0 ⟨by decide, by decide⟩ (hfF_11.f hth 0 ⟨by decide, by decide⟩ (hfF_7.f hth 0 ⟨by decide, by decide⟩ ka_4))) eF_53 gF_53).trans (congrArg (fun z => upd z (Int32.toNatClampNeg y3_j36_10) r_49) ar_54)
          obtain ⟨x_55, ex_55, bx_55, tx_55⟩ := z_inc (n := (-1)) (lo := (-1)) (hi := 1021) by3_j36_10_44 (by decide)
          refine lv_iinc (v := x_55) (lv' := [(3, .int x_55), (0, .ref th), (1, .ref pr)]) hx hb dX0_find_58 hl (k := 0) rfl ex_55 (by decide) rfl (fun ls hl => ?_)
          refine lv_goto (tgt := 36) hx hb dX0_find_61 (by decide) ?_
          exact ih_j36_10 _ (by have := bx_55.1; have := bx_55.2; have := bfc.1; have := bfc.2; have := bkn_2.1; have := bkn_2.2; have : (0 : Int32).toInt = 0 := (by decide); have : (1 : Int32).toInt = 1 := (by decide); have : (1024 : Int32).toInt = 1024 := (by decide); have := by3_j36_10.1; have := by3_j36_10.2; omega) ls x_55 F_53 H locs (lv_sub hl [0, 1, 2] rfl) (bx_55.w ⟨by decide, by decide⟩) h (hfF_11.trans hfF_53 (by decide)) (by have := bx_55.1; have := bx_55.2; have := bal_.1; have := bal_.2; have := bfc.1; have := bfc.2; have := bkn_2.1; have := bkn_2.2; have : (0 : Int32).toInt = 0 := (by decide); have : (1 : Int32).toInt = 1 := (by decide); have : (1024 : Int32).toInt = 1024 := (by decide); omega) (zTl.put r1_j36_10 uF_53 bfc (by have := bx_55.1; have := bx_55.2; have := by3_j36_10_44.1; have := by3_j36_10_44.2; have := bal_.1; have := bal_.2; have := bfc.1; have := bfc.2; have := bkn_2.1; have := bkn_2.2; have : (0 : Int32).toInt = 0 := (by decide); have : (1 : Int32).toInt = 1 := (by decide); have : (1024 : Int32).toInt = 1024 := (by decide); omega) (by rw [← hal_]; have := bx_55.1; have := bx_55.2; have := by3_j36_10_44.1; have := by3_j36_10_44.2; have := bal_.1; have := bal_.2; have := bfc.1; have := bfc.2; have := bkn_2.1; have := bkn_2.2; have : (0 : Int32).toInt = 0 := (by decide); have : (1 : Int32).toInt = 1 := (by decide); have : (1024 : Int32).toInt = 1024 := (by decide); omega) (by have := bx_55.1; have := bx_55.2; have := by3_j36_10_44.1; have := by3_j36_10_44.2; have := bal_.1; have := bal_.2; have := bfc.1; have := bfc.2; have := bkn_2.1; have := bkn_2.2; have : (0 : Int32).toInt = 0 := (by decide); have : (1 : Int32).toInt = 1 := (by decide); have : (1024 : Int32).toInt = 1024 := (by decide); omega) ⟨_, q_48.1, q_48.2.1, q_48.2.2.1, q_52.symm⟩ (fun g q1 q2 q3 => by rw [q_52]; exact q_48.2.2.2.1 g q1 q2 q3)) rfl
    exact j_j36_10 _ ls x_9 F_7 H locs (lv_sub hl [0, 2, 3] rfl) bx_9 h zFr.rf (by have := bx_9.1; have := bx_9.2; have := bal_.1; have := bal_.2; have := bfc.1; have := bfc.2; have := bkn_2.1; have := bkn_2.2; have : (0 : Int32).toInt = 0 := (by decide); have : (1 : Int32).toInt = 1 := (by decide); have : (1024 : Int32).toInt = 1024 := (by decide); omega) (zTl.st (by rw [uF_7, ← hal_, z_upe]; decide) (by rw [← hal_]; have := bx_9.1; have := bx_9.2; have := bal_.1; have := bal_.2; have := bfc.1; have := bfc.2; have := bkn_2.1; have := bkn_2.2; have : (0 : Int32).toInt = 0 := (by decide); have : (1 : Int32).toInt = 1 := (by decide); have : (1024 : Int32).toInt = 1024 := (by decide); omega)) rfl
  · have c_1 := z_ne c_1
    have bkn_56 : zB 1 1 kn := zB.neLo c_1 bkn (zBc 0 0 (by decide)) (by decide)
    subst hQ
    exact W.vret hx hb hr (fun t ht hW => ⟨⟨F, rfl, ⟨(hr3 (by have := bfc.1; have := bfc.2; have := bkn_56.1; have := bkn_56.2; have : (0 : Int32).toInt = 0 := (by decide); omega)), trivial⟩, by rw [ht]; exact h.1, h.2.1, zFr.rf⟩, h.2.2.F ht⟩) h.2.2.2.2 dX0_find_7

set_option maxHeartbeats 4000000 in
set_option maxRecDepth 100000 in
theorem ze_X0_callsAhead (l : Launch) (D : va_G) (k : Nat → ClassId) (Γ : Nat → Option Nat) (L : List Nat) (F : Nat → va_E) (sz : Nat) (th : Nat) (pr : Nat) (fc : Int32) (fa : Nat → Nat) (cv : Nat → Int32) (kn : Int32) (hth : Γ th = some 0) (hpr : Γ pr = some 6) (kfc : zfld F pr 4 = .int fc) (bfc : zB 0 10 fc) (hr0 : zPS Γ F pr fa) (hr1 : zCa F fa cv fc) (hr2 : zCm cv fc) (kkn : zfld F th 2 = .int kn) (bkn : zB 0 1 kn) (hr3 : (kn.toInt ≠ 0 → zKb cv fc (zar F th 0) (zar F th 1))) : Met l yX0_callsAhead zwX0_callsAhead ({ frames := 4, cells := 0, slots := 0, locals := 96 }) (va_Pc [.ref th, .ref pr] (zP D k Γ L F sz)) (va_Qi (fun (r : Int32) (u : Nat → va_E) => zKb cv fc (zar u th 0) (zar u th 1) ∧ r = zar u th 0 0 ∧ True) (zQ D k Γ L F [2, 11300, 11400]) (zA L sz)) 0 0 (zA L sz) := by
  refine Met.ofW (cc := cX0_callsAhead) (maxL := 2) (ret := (some .int)) (by decide) rfl ?_
  intro p e s m args below meth c s₁ B hml hv
  obtain ⟨rfl, hsz, hP, hK, hLn, hE, hI⟩ := hv
  have hx := B.exec
  have hb := B.bytes
  have hr := B.returns
  have hg : ∀ w ∈ zG, w.before _ s = true := fun w h9 => atoms_spec (ws := zwX0_callsAhead) B.pre w (List.mem_cons_of_mem _ h9)
  have hown : s.vm.findClass RX0 = some m.cls := findClass_of_methodNamed B.named
  have hlocks := B.notSynchronized
  subst hsz
  have Z : zC p m c cX0_callsAhead 2 s _ zG RX0 D k L := ⟨⟨hx, hb, hml, hown, hg⟩, hK, hLn, hE⟩
  have h : zH D k Γ L s F s.heap [] := ⟨hP, hI, va_S.rf⟩
  have hl := lv_entry ([.ref th, .ref pr]) (n := 2) (Nat.le_of_ble_eq_true rfl)
  rw [lg_entry_eq]
  generalize (lg_sl ([.ref th, .ref pr]) ++ List.replicate (2 - (lg_sl ([.ref th, .ref pr])).length) Slot.unset).toArray = ls at hl ⊢
  have hl : lv_has ls 2 [(0, .ref th), (1, .ref pr)] := hl
  clear hP hK hLn hE hI
  generalize hargs : ([.ref th, .ref pr] : List Value).toArray = args at *
  refine z_start (fun R Q hRf hRl hQ => ?_)
  have hRf : R.frames = 4 := hRf
  have hRl : R.locals = 96 := hRl
  have h9 := h
  refine lv_aload_n hx hb dX0_callsAhead_0 rfl (lv_at hl 0 rfl) ?_
  refine lv_aload_n hx hb dX0_callsAhead_1 rfl (lv_at hl 1 rfl) ?_
  refine zk_Vv (As := [.ref pr]) (rest := []) (bytes := cX0_find) (maxL := 5) (ret := none) Z h (ze_X0_find l D k Γ L F s.heap.size th pr fc fa cv kn hth hpr kfc bfc hr0 hr1 hr2 kkn bkn hr3) (cwV 1 hg zv_RX0_24 rfl rfl rfl zd_X0_find ⟨z_leR hRf (by decide), z_leR hRl (by decide)⟩) hth (by decide) rfl rfl hl.1 rfl (Nat.le_of_ble_eq_true rfl) dX0_callsAhead_2 ⟨Nat.zero_le _, Nat.zero_le _⟩ (fun F_1 H locs w_2 h hfF_1 => ?_)
  obtain ⟨q_3, -⟩ := w_2
  refine lv_aload_n hx hb dX0_callsAhead_5 rfl (lv_at hl 0 rfl) ?_
  refine zt_getr (t := 0) (C := RX0) (T := TX0) (N := 3) Z h hth zin_0 rfl 0 rfl ⟨by decide, rfl⟩ (zm_RX0 (List.mem_of_getElem? (i := 7) rfl)) (fun _ h9 => h9) dX0_callsAhead_6 (fun a_4 ka_4 ha_4 => ?_)
  refine lv_iconst (v := 0) hx hb dX0_callsAhead_9 (by decide) ?_
  refine zt_ialde (t := 113) Z h ha_4 ⟨by decide, rfl⟩ (zBc 0 0 (by decide)) ⟨by decide, by decide⟩ dX0_callsAhead_10 (fun x_5 ex_5 bx_5 => ?_)
  subst hQ
  exact W.iret (v := x_5) hx hb hr (fun t ht hW => ⟨⟨x_5, F_1, rfl, ⟨q_3, (by have h5 : x_5 = zar F_1 th 0 (Int32.toNatClampNeg 0) := by { rw [zar_eq ka_4]; exact ex_5.symm }; rw [show Int32.toNatClampNeg 0 = 0 by decide] at h5; exact h5), trivial⟩, by rw [ht]; exact h.1, h.2.1, hfF_1⟩, h.2.2.F ht⟩) h.2.2.2.2 dX0_callsAhead_11

set_option maxHeartbeats 4000000 in
set_option maxRecDepth 100000 in
theorem ze_X0_functionAt (l : Launch) (D : va_G) (k : Nat → ClassId) (Γ : Nat → Option Nat) (L : List Nat) (F : Nat → va_E) (sz : Nat) (th : Nat) (pr : Nat) (i : Int32) (fc : Int32) (fa : Nat → Nat) (cv : Nat → Int32) (kn : Int32) (hth : Γ th = some 0) (hpr : Γ pr = some 6) (kfc : zfld F pr 4 = .int fc) (bfc : zB 0 10 fc) (hr0 : zPS Γ F pr fa) (hr1 : zCa F fa cv fc) (hr2 : zCm cv fc) (kkn : zfld F th 2 = .int kn) (bkn : zB 0 1 kn) (hr3 : (kn.toInt ≠ 0 → zKb cv fc (zar F th 0) (zar F th 1))) : Met l yX0_functionAt zwX0_functionAt ({ frames := 4, cells := 0, slots := 0, locals := 96 }) (va_Pc [.ref th, .ref pr, .int i] (zP D k Γ L F sz)) (va_Qi (fun (r : Int32) (u : Nat → va_E) => zKb cv fc (zar u th 0) (zar u th 1) ∧ ((0 ≤ i.toInt ∧ i.toInt < 10 → r = zar u th 1 i.toInt.toNat) ∧ (i.toInt < 0 ∨ 10 ≤ i.toInt → r.toInt = -1)) ∧ True) (zQ D k Γ L F [2, 11300, 11400]) (zA L sz)) 0 0 (zA L sz) := by
  refine Met.ofW (cc := cX0_functionAt) (maxL := 3) (ret := (some .int)) (by decide) rfl ?_
  intro p e s m args below meth c s₁ B hml hv
  obtain ⟨rfl, hsz, hP, hK, hLn, hE, hI⟩ := hv
  have hx := B.exec
  have hb := B.bytes
  have hr := B.returns
  have hg : ∀ w ∈ zG, w.before _ s = true := fun w h9 => atoms_spec (ws := zwX0_functionAt) B.pre w (List.mem_cons_of_mem _ h9)
  have hown : s.vm.findClass RX0 = some m.cls := findClass_of_methodNamed B.named
  have hlocks := B.notSynchronized
  subst hsz
  have Z : zC p m c cX0_functionAt 3 s _ zG RX0 D k L := ⟨⟨hx, hb, hml, hown, hg⟩, hK, hLn, hE⟩
  have h : zH D k Γ L s F s.heap [] := ⟨hP, hI, va_S.rf⟩
  have hl := lv_entry ([.ref th, .ref pr, .int i]) (n := 3) (Nat.le_of_ble_eq_true rfl)
  rw [lg_entry_eq]
  generalize (lg_sl ([.ref th, .ref pr, .int i]) ++ List.replicate (3 - (lg_sl ([.ref th, .ref pr, .int i])).length) Slot.unset).toArray = ls at hl ⊢
  have hl : lv_has ls 3 [(0, .ref th), (1, .ref pr), (2, .int i)] := hl
  clear hP hK hLn hE hI
  generalize hargs : ([.ref th, .ref pr, .int i] : List Value).toArray = args at *
  refine z_start (fun R Q hRf hRl hQ => ?_)
  have hRf : R.frames = 4 := hRf
  have hRl : R.locals = 96 := hRl
  have h9 := h
  refine lv_aload_n hx hb dX0_functionAt_0 rfl (lv_at hl 0 rfl) ?_
  refine lv_aload_n hx hb dX0_functionAt_1 rfl (lv_at hl 1 rfl) ?_
  refine zk_Vv (As := [.ref pr]) (rest := []) (bytes := cX0_find) (maxL := 5) (ret := none) Z h (ze_X0_find l D k Γ L F s.heap.size th pr fc fa cv kn hth hpr kfc bfc hr0 hr1 hr2 kkn bkn hr3) (cwV 1 hg zv_RX0_24 rfl rfl rfl zd_X0_find ⟨z_leR hRf (by decide), z_leR hRl (by decide)⟩) hth (by decide) rfl rfl hl.1 rfl (Nat.le_of_ble_eq_true rfl) dX0_functionAt_2 ⟨Nat.zero_le _, Nat.zero_le _⟩ (fun F_1 H locs w_2 h hfF_1 => ?_)
  obtain ⟨q_3, -⟩ := w_2
  refine lv_iload_n hx hb dX0_functionAt_5 rfl (lv_at hl 2 rfl) ?_
  refine lv_if_lt (tgt := 27) hx hb dX0_functionAt_6 (by decide) (fun c_4 => ?_) (fun c_4 => ?_)
  · have c_4 := z_lt c_4
    have bi_5 : zB (-2147483648) (-1) i := zB.ltL c_4 (zB.all i) (zBc 0 0 (by decide)) (by decide)
    refine lv_iconst (v := (-1)) hx hb dX0_functionAt_27 (by decide) ?_
    subst hQ
    exact W.iret (v := (-1)) hx hb hr (fun t ht hW => ⟨⟨(-1), F_1, rfl, ⟨q_3, ⟨fun h9 => by exfalso; have := bi_5.1; have := bi_5.2; have := bfc.1; have := bfc.2; have := bkn.1; have := bkn.2; have : ((-1) : Int32).toInt = (-1) := (by decide); have : (0 : Int32).toInt = 0 := (by decide); omega, fun _ => by have := bi_5.1; have := bi_5.2; have := bfc.1; have := bfc.2; have := bkn.1; have := bkn.2; have : ((-1) : Int32).toInt = (-1) := (by decide); have : (0 : Int32).toInt = 0 := (by decide); omega⟩, trivial⟩, by rw [ht]; exact h.1, h.2.1, hfF_1⟩, h.2.2.F ht⟩) h.2.2.2.2 dX0_functionAt_28
  · have c_4 := z_nlt c_4
    have bi_6 : zB 0 2147483647 i := zB.leR c_4 (zBc 0 0 (by decide)) (zB.all i) (by decide)
    refine lv_iload_n hx hb dX0_functionAt_9 rfl (lv_at hl 2 rfl) ?_
    refine lv_aload_n hx hb dX0_functionAt_10 rfl (lv_at hl 0 rfl) ?_
    refine zt_getr (t := 0) (C := RX0) (T := TX0) (N := 3) Z h hth zin_0 rfl 1 rfl ⟨by decide, rfl⟩ (zm_RX0 (List.mem_of_getElem? (i := 9) rfl)) (fun _ h9 => h9) dX0_functionAt_11 (fun a_7 ka_7 ha_7 => ?_)
    refine zt_alen (t := 114) Z h ha_7 ⟨by decide, rfl⟩ (by decide) (v := 10) rfl dX0_functionAt_14 ?_
    refine lv_icmp_ge (tgt := 27) hx hb dX0_functionAt_15 (by decide) (fun c_8 => ?_) (fun c_8 => ?_)
    · have c_8 := z_le c_8
      have bi_9 : zB 10 2147483647 i := zB.leR c_8 (zBc 10 10 (by decide)) bi_6 (by decide)
      refine lv_iconst (v := (-1)) hx hb dX0_functionAt_27 (by decide) ?_
      subst hQ
      exact W.iret (v := (-1)) hx hb hr (fun t ht hW => ⟨⟨(-1), F_1, rfl, ⟨q_3, ⟨fun h9 => by exfalso; have := bi_9.1; have := bi_9.2; have := bfc.1; have := bfc.2; have := bkn.1; have := bkn.2; have : ((-1) : Int32).toInt = (-1) := (by decide); have : (0 : Int32).toInt = 0 := (by decide); have : (10 : Int32).toInt = 10 := (by decide); omega, fun _ => by have := bi_9.1; have := bi_9.2; have := bfc.1; have := bfc.2; have := bkn.1; have := bkn.2; have : ((-1) : Int32).toInt = (-1) := (by decide); have : (0 : Int32).toInt = 0 := (by decide); have : (10 : Int32).toInt = 10 := (by decide); omega⟩, trivial⟩, by rw [ht]; exact h.1, h.2.1, hfF_1⟩, h.2.2.F ht⟩) h.2.2.2.2 dX0_functionAt_28
    · have c_8 := z_nle c_8
      have bi_10 : zB 0 9 i := zB.ltL c_8 bi_6 (zBc 10 10 (by decide)) (by decide)
      refine lv_aload_n hx hb dX0_functionAt_18 rfl (lv_at hl 0 rfl) ?_
      refine zt_getk (t := 0) (C := RX0) (T := TX0) (N := 3) Z h hth zin_0 rfl 1 ka_7 ⟨by decide, rfl, by decide⟩ (zm_RX0 (List.mem_of_getElem? (i := 9) rfl)) (fun _ h9 => h9) dX0_functionAt_19 ?_
      refine lv_iload_n hx hb dX0_functionAt_22 rfl (lv_at hl 2 rfl) ?_
      refine zt_ialde (t := 114) Z h ha_7 ⟨by decide, rfl⟩ bi_10 ⟨by decide, by decide⟩ dX0_functionAt_23 (fun x_11 ex_11 bx_11 => ?_)
      refine lv_goto (tgt := 28) hx hb dX0_functionAt_24 (by decide) ?_
      subst hQ
      exact W.iret (v := x_11) hx hb hr (fun t ht hW => ⟨⟨x_11, F_1, rfl, ⟨q_3, ⟨fun _ => by rw [show i.toInt.toNat = Int32.toNatClampNeg i from rfl, zar_eq ka_7]; exact ex_11.symm, fun h9 => by exfalso; have := bi_10.1; have := bi_10.2; have := bx_11.1; have := bx_11.2; have := bfc.1; have := bfc.2; have := bkn.1; have := bkn.2; have : (0 : Int32).toInt = 0 := (by decide); have : (10 : Int32).toInt = 10 := (by decide); omega⟩, trivial⟩, by rw [ht]; exact h.1, h.2.1, hfF_1⟩, h.2.2.F ht⟩) h.2.2.2.2 dX0_functionAt_28

set_option maxHeartbeats 4000000 in
set_option maxRecDepth 100000 in
theorem ze_X10_order (l : Launch) (D : va_G) (k : Nat → ClassId) (Γ : Nat → Option Nat) (L : List Nat) (F : Nat → va_E) (sz : Nat) (th : Nat) (pn : Nat) (ch : Nat) (fc : Int32) (fa : Nat → Nat) (cv : Nat → Int32) (kn : Int32) (hth : Γ th = some 10) (kpn : zfld F th 2 = .ref pn) (hpn : Γ pn = some 6) (kch : zfld F th 9 = .ref ch) (hch : Γ ch = some 0) (kfc : zfld F pn 4 = .int fc) (bfc : zB 0 10 fc) (hr0 : zPS Γ F pn fa) (hr1 : zCa F fa cv fc) (hr2 : zCm cv fc) (kkn : zfld F ch 2 = .int kn) (bkn : zB 0 1 kn) (hr3 : (kn.toInt ≠ 0 → 0 < fc.toInt → zKb cv fc (zar F ch 0) (zar F ch 1))) : Met l yX10_order zwX10_order ({ frames := 5, cells := 0, slots := 0, locals := 117 }) (va_Pc [.ref th] (zP D k Γ L F sz)) (va_Qi (fun (r : Int32) (u : Nat → va_E) => (∃ k9 : Int32, zfld u ch 2 = .int k9 ∧ (k9.toInt ≠ 0 → 0 < fc.toInt → zKb cv fc (zar u ch 0) (zar u ch 1))) ∧ ((0 < fc.toInt → ∃ b, zTl cv b fc (-1) ∧ r = b 0) ∧ (fc.toInt ≤ 0 → r.toInt = -2)) ∧ True) (zQ D k Γ L F [2, 11300, 11400]) (zA L sz)) 0 0 (zA L sz) := by
  refine Met.ofW (cc := cX10_order) (maxL := 1) (ret := (some .int)) (by decide) rfl ?_
  intro p e s m args below meth c s₁ B hml hv
  obtain ⟨rfl, hsz, hP, hK, hLn, hE, hI⟩ := hv
  have hx := B.exec
  have hb := B.bytes
  have hr := B.returns
  have hg : ∀ w ∈ zG, w.before _ s = true := fun w h9 => atoms_spec (ws := zwX10_order) B.pre w (List.mem_cons_of_mem _ h9)
  have hown : s.vm.findClass RX10 = some m.cls := findClass_of_methodNamed B.named
  have hlocks := B.notSynchronized
  subst hsz
  have Z : zC p m c cX10_order 1 s _ zG RX10 D k L := ⟨⟨hx, hb, hml, hown, hg⟩, hK, hLn, hE⟩
  have h : zH D k Γ L s F s.heap [] := ⟨hP, hI, va_S.rf⟩
  have hl := lv_entry ([.ref th]) (n := 1) (Nat.le_of_ble_eq_true rfl)
  rw [lg_entry_eq]
  generalize (lg_sl ([.ref th]) ++ List.replicate (1 - (lg_sl ([.ref th])).length) Slot.unset).toArray = ls at hl ⊢
  have hl : lv_has ls 1 [(0, .ref th)] := hl
  clear hP hK hLn hE hI
  generalize hargs : ([.ref th] : List Value).toArray = args at *
  refine z_start (fun R Q hRf hRl hQ => ?_)
  have hRf : R.frames = 5 := hRf
  have hRl : R.locals = 117 := hRl
  have h9 := h
  refine lv_aload_n hx hb dX10_order_0 rfl (lv_at hl 0 rfl) ?_
  refine zt_getk (t := 10) (C := RX10) (T := TX10) (N := 14) Z h hth zin_10 rfl 2 kpn ⟨by decide, rfl, by decide⟩ (zm_RX10 (List.mem_of_getElem? (i := 21) rfl)) (fun _ h9 => h9) dX10_order_1 ?_
  refine zt_getk (t := 6) (C := RX6) (T := TX6) (N := 6) Z h hpn zin_6 rfl 4 kfc ⟨by decide, rfl, by decide⟩ (zm_RX10 (List.mem_of_getElem? (i := 22) rfl)) (fun _ h9 => h9) dX10_order_4 ?_
  refine lv_if_ne (tgt := 13) hx hb dX10_order_7 (by decide) (fun c_1 => ?_) (fun c_1 => ?_)
  · have c_1 := z_ne c_1
    have bfc_2 : zB 1 10 fc := zB.neLo c_1 bfc (zBc 0 0 (by decide)) (by decide)
    refine lv_aload_n hx hb dX10_order_13 rfl (lv_at hl 0 rfl) ?_
    refine zt_getk (t := 10) (C := RX10) (T := TX10) (N := 14) Z h hth zin_10 rfl 9 kch ⟨by decide, rfl, by decide⟩ (zm_RX10 (List.mem_of_getElem? (i := 75) rfl)) (fun _ h9 => h9) dX10_order_14 ?_
    refine lv_aload_n hx hb dX10_order_17 rfl (lv_at hl 0 rfl) ?_
    refine zt_getk (t := 10) (C := RX10) (T := TX10) (N := 14) Z h hth zin_10 rfl 2 kpn ⟨by decide, rfl, by decide⟩ (zm_RX10 (List.mem_of_getElem? (i := 21) rfl)) (fun _ h9 => h9) dX10_order_18 ?_
    refine zk_Vi (As := [.ref pn]) (rest := []) (bytes := cX0_callsAhead) (maxL := 2) (ret := (some .int)) Z h (ze_X0_callsAhead l D k Γ L F s.heap.size ch pn fc fa cv kn hch hpn kfc (bfc_2.w ⟨by decide, by decide⟩) hr0 hr1 hr2 kkn bkn (fun h9 => hr3 h9 (by have := bfc_2.1; have := bfc_2.2; have := bkn.1; have := bkn.2; have : (0 : Int32).toInt = 0 := (by decide); omega))) (cwV 1 hg zv_RX10_227 rfl rfl rfl zd_X0_callsAhead ⟨z_leR hRf (by decide), z_leR hRl (by decide)⟩) hch (by decide) rfl rfl hl.1 rfl (Nat.le_of_ble_eq_true rfl) dX10_order_21 ⟨Nat.zero_le _, Nat.zero_le _⟩ (fun r_3 F_4 H locs w_5 h hfF_4 => ?_)
    obtain ⟨q_6, q_7, -⟩ := w_5
    have br_3 := zB.all r_3
    obtain ⟨x_8, kx_8, bx_8⟩ := z_learn (j := 2) (lo := 0) (hi := 1) h hch (by decide) rfl
    subst hQ
    exact W.iret (v := r_3) hx hb hr (fun t ht hW => ⟨⟨r_3, F_4, rfl, ⟨⟨_, kx_8, fun h9 h8 => q_6⟩, ⟨fun _ => ⟨_, q_6.1, q_7⟩, fun h9 => by exfalso; have := br_3.1; have := br_3.2; have := bfc_2.1; have := bfc_2.2; have := bx_8.1; have := bx_8.2; have := bkn.1; have := bkn.2; have : (0 : Int32).toInt = 0 := (by decide); omega⟩, trivial⟩, by rw [ht]; exact h.1, h.2.1, hfF_4⟩, h.2.2.F ht⟩) h.2.2.2.2 dX10_order_24
  · have c_1 := z_eq c_1
    have bfc_9 : zB 0 0 fc := zB.eqL (a := 0) (b := 0) c_1 (zBc 0 0 (by decide))
    refine lv_bipush (v := (-2)) hx hb dX10_order_10 (by decide) ?_
    subst hQ
    exact W.iret (v := (-2)) hx hb hr (fun t ht hW => ⟨⟨(-2), F, rfl, ⟨⟨_, kkn, fun h9 h8 => hr3 h9 h8⟩, ⟨fun h9 => by exfalso; have := bfc_9.1; have := bfc_9.2; have := bkn.1; have := bkn.2; have : ((-2) : Int32).toInt = (-2) := (by decide); have : (0 : Int32).toInt = 0 := (by decide); omega, fun _ => by have := bfc_9.1; have := bfc_9.2; have := bkn.1; have := bkn.2; have : ((-2) : Int32).toInt = (-2) := (by decide); have : (0 : Int32).toInt = 0 := (by decide); omega⟩, trivial⟩, by rw [ht]; exact h.1, h.2.1, zFr.rf⟩, h.2.2.F ht⟩) h.2.2.2.2 dX10_order_12

set_option maxHeartbeats 4000000 in
set_option maxRecDepth 100000 in
theorem ze_X10_chapter (l : Launch) (D : va_G) (k : Nat → ClassId) (Γ : Nat → Option Nat) (L : List Nat) (F : Nat → va_E) (sz : Nat) (th : Nat) (i : Int32) (pn : Nat) (ch : Nat) (fc : Int32) (fa : Nat → Nat) (cv : Nat → Int32) (kn : Int32) (hth : Γ th = some 10) (kpn : zfld F th 2 = .ref pn) (hpn : Γ pn = some 6) (kch : zfld F th 9 = .ref ch) (hch : Γ ch = some 0) (kfc : zfld F pn 4 = .int fc) (bfc : zB 0 10 fc) (hr0 : zPS Γ F pn fa) (hr1 : zCa F fa cv fc) (hr2 : zCm cv fc) (kkn : zfld F ch 2 = .int kn) (bkn : zB 0 1 kn) (hr3 : (kn.toInt ≠ 0 → 0 < fc.toInt → zKb cv fc (zar F ch 0) (zar F ch 1))) : Met l yX10_chapter zwX10_chapter ({ frames := 5, cells := 0, slots := 0, locals := 118 }) (va_Pc [.ref th, .int i] (zP D k Γ L F sz)) (va_Qi (fun (r : Int32) (u : Nat → va_E) => (∃ k9 : Int32, zfld u ch 2 = .int k9 ∧ (k9.toInt ≠ 0 → 0 < fc.toInt → zKb cv fc (zar u ch 0) (zar u ch 1))) ∧ ((0 ≤ i.toInt ∧ i.toInt < fc.toInt → ∃ b, zTl cv b fc (-1) ∧ zCh cv b fc i.toInt.toNat r) ∧ (i.toInt < 0 ∨ fc.toInt ≤ i.toInt → r.toInt = -1)) ∧ True) (zQ D k Γ L F [2, 11300, 11400]) (zA L sz)) 0 0 (zA L sz) := by
  refine Met.ofW (cc := cX10_chapter) (maxL := 2) (ret := (some .int)) (by decide) rfl ?_
  intro p e s m args below meth c s₁ B hml hv
  obtain ⟨rfl, hsz, hP, hK, hLn, hE, hI⟩ := hv
  have hx := B.exec
  have hb := B.bytes
  have hr := B.returns
  have hg : ∀ w ∈ zG, w.before _ s = true := fun w h9 => atoms_spec (ws := zwX10_chapter) B.pre w (List.mem_cons_of_mem _ h9)
  have hown : s.vm.findClass RX10 = some m.cls := findClass_of_methodNamed B.named
  have hlocks := B.notSynchronized
  subst hsz
  have Z : zC p m c cX10_chapter 2 s _ zG RX10 D k L := ⟨⟨hx, hb, hml, hown, hg⟩, hK, hLn, hE⟩
  have h : zH D k Γ L s F s.heap [] := ⟨hP, hI, va_S.rf⟩
  have hl := lv_entry ([.ref th, .int i]) (n := 2) (Nat.le_of_ble_eq_true rfl)
  rw [lg_entry_eq]
  generalize (lg_sl ([.ref th, .int i]) ++ List.replicate (2 - (lg_sl ([.ref th, .int i])).length) Slot.unset).toArray = ls at hl ⊢
  have hl : lv_has ls 2 [(0, .ref th), (1, .int i)] := hl
  clear hP hK hLn hE hI
  generalize hargs : ([.ref th, .int i] : List Value).toArray = args at *
  refine z_start (fun R Q hRf hRl hQ => ?_)
  have hRf : R.frames = 5 := hRf
  have hRl : R.locals = 118 := hRl
  have h9 := h
  refine lv_aload_n hx hb dX10_chapter_0 rfl (lv_at hl 0 rfl) ?_
  refine zt_getk (t := 10) (C := RX10) (T := TX10) (N := 14) Z h hth zin_10 rfl 2 kpn ⟨by decide, rfl, by decide⟩ (zm_RX10 (List.mem_of_getElem? (i := 21) rfl)) (fun _ h9 => h9) dX10_chapter_1 ?_
  refine lv_iload_n hx hb dX10_chapter_4 rfl (lv_at hl 1 rfl) ?_
  refine zk_Vi (As := [.int i]) (rest := []) (bytes := cX6_hasFunction) (maxL := 2) (ret := (some .boolean)) Z h (ze_X6_hasFunction l D k Γ L F s.heap.size pn i fc hpn kfc bfc) (cwV 1 hg zv_RX10_98 rfl rfl rfl zd_X6_hasFunction ⟨z_leR hRf (by decide), z_leR hRl (by decide)⟩) hpn (by decide) rfl rfl hl.1 rfl (Nat.le_of_ble_eq_true rfl) dX10_chapter_5 ⟨Nat.zero_le _, Nat.zero_le _⟩ (fun r_1 F_2 H locs w_3 h hfF_2 => ?_)
  obtain ⟨rfl, br_1, q_4, q_5, -⟩ := w_3
  refine lv_if_ne (tgt := 13) hx hb dX10_chapter_8 (by decide) (fun c_6 => ?_) (fun c_6 => ?_)
  · have q_7 := q_4 c_6
    have c_6 := z_ne c_6
    have br_1_8 : zB 1 1 r_1 := zB.neLo c_6 br_1 (zBc 0 0 (by decide)) (by decide)
    refine lv_aload_n hx hb dX10_chapter_13 rfl (lv_at hl 0 rfl) ?_
    refine zt_getk (t := 10) (C := RX10) (T := TX10) (N := 14) Z h hth zin_10 rfl 9 kch ⟨by decide, rfl, by decide⟩ (zm_RX10 (List.mem_of_getElem? (i := 75) rfl)) (fun _ h9 => h9) dX10_chapter_14 ?_
    refine lv_aload_n hx hb dX10_chapter_17 rfl (lv_at hl 0 rfl) ?_
    refine zt_getk (t := 10) (C := RX10) (T := TX10) (N := 14) Z h hth zin_10 rfl 2 kpn ⟨by decide, rfl, by decide⟩ (zm_RX10 (List.mem_of_getElem? (i := 21) rfl)) (fun _ h9 => h9) dX10_chapter_18 ?_
    refine lv_iload_n hx hb dX10_chapter_21 rfl (lv_at hl 1 rfl) ?_
    refine zk_Vi (As := [.ref pn, .int i]) (rest := []) (bytes := cX0_functionAt) (maxL := 3) (ret := (some .int)) Z h (ze_X0_functionAt l D k Γ L F H.size ch pn i fc fa cv kn hch hpn kfc bfc hr0 hr1 hr2 kkn bkn (fun h9 => hr3 h9 (by have := (zB.all i).1; have := (zB.all i).2; have := bfc.1; have := bfc.2; have := bkn.1; have := bkn.2; have : (0 : Int32).toInt = 0 := (by decide); omega))) (cwV 2 hg zv_RX10_231 rfl rfl rfl zd_X0_functionAt ⟨z_leR hRf (by decide), z_leR hRl (by decide)⟩) hch (by decide) rfl rfl hl.1 rfl (Nat.le_of_ble_eq_true rfl) dX10_chapter_22 ⟨Nat.zero_le _, Nat.zero_le _⟩ (fun r_9 F_10 H locs w_11 h hfF_10 => ?_)
    obtain ⟨q_12, q_13, -⟩ := w_11
    have br_9 := zB.all r_9
    obtain ⟨x_14, kx_14, bx_14⟩ := z_learn (j := 2) (lo := 0) (hi := 1) h hch (by decide) rfl
    subst hQ
    exact W.iret (v := r_9) hx hb hr (fun t ht hW => ⟨⟨r_9, F_10, rfl, ⟨⟨_, kx_14, fun h9 h8 => q_12⟩, ⟨fun h9 => ⟨_, q_12.1, by rw [q_13.1 ⟨by omega, by have := bfc.2; omega⟩]; exact q_12.2 i.toInt.toNat (by omega)⟩, fun h9 => by exfalso; have := (zB.all i).1; have := (zB.all i).2; have := br_9.1; have := br_9.2; have := bfc.1; have := bfc.2; have := bx_14.1; have := bx_14.2; have := bkn.1; have := bkn.2; have : (0 : Int32).toInt = 0 := (by decide); omega⟩, trivial⟩, by rw [ht]; exact h.1, h.2.1, hfF_10⟩, h.2.2.F ht⟩) h.2.2.2.2 dX10_chapter_25
  · have q_15 := q_5 c_6
    have c_6 := z_eq c_6
    have br_1_16 : zB 0 0 r_1 := zB.eqL (a := 0) (b := 0) c_6 (zBc 0 0 (by decide))
    refine lv_iconst (v := (-1)) hx hb dX10_chapter_11 (by decide) ?_
    subst hQ
    exact W.iret (v := (-1)) hx hb hr (fun t ht hW => ⟨⟨(-1), F, rfl, ⟨⟨_, kkn, fun h9 h8 => hr3 h9 h8⟩, ⟨fun h9 => by exfalso; have := (zB.all i).1; have := (zB.all i).2; have := bfc.1; have := bfc.2; have := bkn.1; have := bkn.2; have : ((-1) : Int32).toInt = (-1) := (by decide); have : (0 : Int32).toInt = 0 := (by decide); omega, fun _ => by have := (zB.all i).1; have := (zB.all i).2; have := bfc.1; have := bfc.2; have := bkn.1; have := bkn.2; have : ((-1) : Int32).toInt = (-1) := (by decide); have : (0 : Int32).toInt = 0 := (by decide); omega⟩, trivial⟩, by rw [ht]; exact h.1, h.2.1, zFr.rf⟩, h.2.2.F ht⟩) h.2.2.2.2 dX10_chapter_12
