set_option maxHeartbeats 4000000 in
set_option maxRecDepth 100000 in
theorem zm_X5_push (l : Launch) (D : va_G) (k : Nat → ClassId) (Γ : Nat → Option Nat) (L : List Nat) (F : Nat → va_E) (sz : Nat) (th : Nat) (nu : Int32) (μ : zVm) (hth : Γ th = some 5) (p_vm : zVc F th μ) : Met l yX5_push zwX5_push ({ frames := 0, cells := 0, slots := 0, locals := 0 }) (va_Pc [.ref th, .int nu] (zP D k Γ L F sz)) (va_Qv (fun (u : Nat → va_E) => zVc u th (v_push μ nu) ∧ True) (zQ D k Γ L F [518, 11200]) (zA L sz)) 0 0 (zA L sz) := by
  refine Met.ofW (cc := cX5_push) (maxL := 2) (ret := none) (by decide) rfl ?_
  intro p e s m args below meth c s₁ B hml hv
  obtain ⟨rfl, hsz, hP, hK, hLn, hE, hI⟩ := hv
  have hx := B.exec
  have hb := B.bytes
  have hr := B.returns
  have hg : ∀ w ∈ zG, w.before _ s = true := fun w h9 => atoms_spec (ws := zwX5_push) B.pre w (List.mem_cons_of_mem _ h9)
  have hown : s.vm.findClass RX5 = some m.cls := findClass_of_methodNamed B.named
  have hlocks := B.notSynchronized
  subst hsz
  have Z : zC p m c cX5_push 2 s _ zG RX5 D k L := ⟨⟨hx, hb, hml, hown, hg⟩, hK, hLn, hE⟩
  have h : zH D k Γ L s F s.heap [] := ⟨hP, hI, va_S.rf⟩
  have hl := lv_entry ([.ref th, .int nu]) (n := 2) (Nat.le_of_ble_eq_true rfl)
  rw [lg_entry_eq]
  generalize (lg_sl ([.ref th, .int nu]) ++ List.replicate (2 - (lg_sl ([.ref th, .int nu])).length) Slot.unset).toArray = ls at hl ⊢
  have hl : lv_has ls 2 [(0, .ref th), (1, .int nu)] := hl
  clear hP hK hLn hE hI
  generalize hargs : ([.ref th, .int nu] : List Value).toArray = args at *
  refine z_start (fun R Q hRf hRl hQ => ?_)
  have hRf : R.frames = 0 := hRf
  have hRl : R.locals = 0 := hRl
  have h9 := h
  have hI0 := h.2.1
  obtain ⟨tp_, ktp_, ttp_⟩ := p_vm.tp
  have hlh_ := p_vm.lh
  have btp_ : zB 0 288 tp_ := ⟨by omega, by omega⟩
  refine lv_aload_n hx hb dX5_push_0 rfl (lv_at hl 0 rfl) ?_
  refine zt_getk (t := 5) (C := RX5) (T := TX5) (N := 19) Z h hth zin_5 rfl 18 ktp_ ⟨by decide, rfl, by decide⟩ (zm_RX5 (List.mem_of_getElem? (i := 13) rfl)) (fun _ h9 => h9) dX5_push_1 ?_
  refine lv_if_lt (tgt := 39) hx hb dX5_push_4 (by decide) (fun c_1 => ?_) (fun c_1 => ?_)
  · have c_1 := z_lt c_1
    exact zB.noLt c_1 btp_ (zBc 0 0 (by decide)) (by decide)
  · have c_1 := z_nlt c_1
    refine lv_aload_n hx hb dX5_push_7 rfl (lv_at hl 0 rfl) ?_
    refine zt_getk (t := 5) (C := RX5) (T := TX5) (N := 19) Z h hth zin_5 rfl 18 ktp_ ⟨by decide, rfl, by decide⟩ (zm_RX5 (List.mem_of_getElem? (i := 13) rfl)) (fun _ h9 => h9) dX5_push_8 ?_
    refine lv_aload_n hx hb dX5_push_11 rfl (lv_at hl 0 rfl) ?_
    refine zt_getr (t := 5) (C := RX5) (T := TX5) (N := 19) Z h hth zin_5 rfl 17 rfl ⟨by decide, rfl⟩ (zm_RX5 (List.mem_of_getElem? (i := 118) rfl)) (fun _ h9 => h9) dX5_push_12 (fun a_2 ka_2 ha_2 => ?_)
    refine zt_alen (t := 112) Z h ha_2 ⟨by decide, rfl⟩ (by decide) (v := 288) rfl dX5_push_15 ?_
    refine lv_icmp_ge (tgt := 39) hx hb dX5_push_16 (by decide) (fun c_3 => ?_) (fun c_3 => ?_)
    · have c_3 := z_le c_3
      have btp__4 : zB 288 288 tp_ := zB.leR c_3 (zBc 288 288 (by decide)) btp_ (by decide)
      subst hQ
      exact W.vret hx hb hr (fun t ht hW => ⟨⟨F, rfl, ⟨(by rw [zv_nopush nu (by have := (zB.all nu).1; have := (zB.all nu).2; have := btp__4.1; have := btp__4.2; have : (0 : Int32).toInt = 0 := (by decide); have : (288 : Int32).toInt = 288 := (by decide); omega)]; exact p_vm), trivial⟩, by rw [ht]; exact h.1, h.2.1, zFr.rf⟩, h.2.2.F ht⟩) h.2.2.2.2 dX5_push_39
    · have c_3 := z_nle c_3
      have btp__5 : zB 0 287 tp_ := zB.ltL c_3 btp_ (zBc 288 288 (by decide)) (by decide)
      refine lv_aload_n hx hb dX5_push_19 rfl (lv_at hl 0 rfl) ?_
      refine zt_getk (t := 5) (C := RX5) (T := TX5) (N := 19) Z h hth zin_5 rfl 17 ka_2 ⟨by decide, rfl, by decide⟩ (zm_RX5 (List.mem_of_getElem? (i := 118) rfl)) (fun _ h9 => h9) dX5_push_20 ?_
      refine lv_aload_n hx hb dX5_push_23 rfl (lv_at hl 0 rfl) ?_
      refine zt_getk (t := 5) (C := RX5) (T := TX5) (N := 19) Z h hth zin_5 rfl 18 ktp_ ⟨by decide, rfl, by decide⟩ (zm_RX5 (List.mem_of_getElem? (i := 13) rfl)) (fun _ h9 => h9) dX5_push_24 ?_
      refine lv_iload_n hx hb dX5_push_27 rfl (lv_at hl 1 rfl) ?_
      have ad_7 := z_ad (j := 17) (c := 112) h.2.1 hth (by decide) rfl
      refine zt_iaste (t := 112) Z h ha_2 ⟨by decide, rfl⟩ btp__5 ⟨by decide, by decide⟩ (zB.all nu) dX5_push_28 (fun H locs F_6 h hfF_6 eF_6 gF_6 => ?_)
      have uF_6 := (zar_st ka_2 (hfF_6.f hth 17 ⟨by decide, by decide⟩ ka_2) eF_6 gF_6).trans (congrArg (fun z => upd z (Int32.toNatClampNeg tp_) nu) (rfl : zar F th 17 = (zar F th 17)))
      refine lv_aload_n hx hb dX5_push_29 rfl (lv_at hl 0 rfl) ?_
      refine lv_dup hx hb dX5_push_30 rfl ?_
      refine zt_getk (t := 5) (C := RX5) (T := TX5) (N := 19) Z h hth zin_5 rfl 18 (hfF_6.f hth 18 ⟨by decide, by decide⟩ ktp_) ⟨by decide, rfl, by decide⟩ (zm_RX5 (List.mem_of_getElem? (i := 13) rfl)) (fun _ h9 => h9) dX5_push_31 ?_
      refine lv_iconst (v := 1) hx hb dX5_push_34 (by decide) ?_
      refine lv_iadd hx hb dX5_push_35 ?_
      refine zi_add (lo := 1) (hi := 288) btp__5 (zBc 1 1 (by decide)) (by decide) (fun x_8 bx_8 tx_8 => ?_)
      refine zt_put (t := 5) (C := RX5) (T := TX5) (N := 19) (v := .int x_8) Z h hth zin_5 tyX5 tyX5_ok nmX5 rfl 18 rfl ⟨by decide, rfl⟩ (zm_RX5 (List.mem_of_getElem? (i := 13) rfl)) (fun _ h9 => h9) rfl (zV.i (bx_8.w ⟨by decide, by decide⟩)) rfl rfl dX5_push_36 (fun H locs F_9 h hfF_9 kF_9 => ?_)
      have ad_10 := ad_7.fr hfF_6 hth ⟨by decide, by decide⟩
      have ar_11 : zar F_9 th 17 = (upd (zar F th 17) (Int32.toNatClampNeg tp_) nu) := ((ad_10.ar hfF_9 hth ⟨by decide, by decide⟩ ⟨by decide, by decide⟩).trans uF_6)
      have hv_12 : zFr Γ [518, 11200] F F_9 := ((hfF_6.w (by decide)).trans hfF_9 (by decide))
      have vm_13 : zVc F_9 th (v_sk μ (nu :: vsk μ)) := ⟨⟨(p_vm.en.fr hv_12 hth ⟨by decide, by decide⟩), (hv_12.f hth 1 ⟨by decide, by decide⟩ p_vm.vl), (p_vm.go.fr hv_12 hth ⟨by decide, by decide⟩)⟩, ⟨(p_vm.st.fr hv_12 hth ⟨by decide, by decide⟩), (hv_12.f hth 6 ⟨by decide, by decide⟩ p_vm.cv), (p_vm.sc.fr hv_12 hth ⟨by decide, by decide⟩), ((zVa (j := 7) (c := 108) hI0 hth hv_12 ⟨by decide, rfl⟩ ⟨⟨by decide, by decide⟩, by decide, by decide⟩).trans p_vm.sd), (p_vm.tc.fr hv_12 hth ⟨by decide, by decide⟩), ((zVa (j := 8) (c := 109) hI0 hth hv_12 ⟨by decide, rfl⟩ ⟨⟨by decide, by decide⟩, by decide, by decide⟩).trans p_vm.tr), (p_vm.mx.fr hv_12 hth ⟨by decide, by decide⟩)⟩, ⟨(p_vm.nx.fr hv_12 hth ⟨by decide, by decide⟩), (p_vm.dp.fr hv_12 hth ⟨by decide, by decide⟩), ((zVa (j := 9) (c := 110) hI0 hth hv_12 ⟨by decide, rfl⟩ ⟨⟨by decide, by decide⟩, by decide, by decide⟩).trans p_vm.pl), (fun j hj => zNg_cg (congrFun (zVa (j := 16) (c := 111) hI0 hth hv_12 ⟨by decide, rfl⟩ ⟨⟨by decide, by decide⟩, by decide, by decide⟩) j) (p_vm.bk j hj))⟩, (zFi.mk kF_9 (by show _ = ((((vsk μ).length + 1 : Nat)) : Int); have := (zB.all nu).1; have := (zB.all nu).2; have := bx_8.1; have := bx_8.2; have : (0 : Int32).toInt = 0 := (by decide); have : (1 : Int32).toInt = 1 := (by decide); have : (288 : Int32).toInt = 288 := (by decide); omega)), (by show nu :: vsk μ = zvls _ _; rw [ar_11, show Int32.toNatClampNeg tp_ = (vsk μ).length by rw [Int32.toNatClampNeg]; omega]; exact zv_sk_push p_vm.sk rfl), (by show (vsk μ).length + 1 ≤ 288; have := (zB.all nu).1; have := (zB.all nu).2; have := bx_8.1; have := bx_8.2; have : (0 : Int32).toInt = 0 := (by decide); have : (1 : Int32).toInt = 1 := (by decide); have : (288 : Int32).toInt = 288 := (by decide); omega)⟩
      have hI_14 := h.2.1
      subst hQ
      exact W.vret hx hb hr (fun t ht hW => ⟨⟨F_9, rfl, ⟨(by rw [zv_pushed nu (by have := (zB.all nu).1; have := (zB.all nu).2; have := bx_8.1; have := bx_8.2; have : (0 : Int32).toInt = 0 := (by decide); have : (1 : Int32).toInt = 1 := (by decide); have : (288 : Int32).toInt = 288 := (by decide); omega)]; exact vm_13), trivial⟩, by rw [ht]; exact h.1, h.2.1, ((hfF_6.w (by decide)).trans hfF_9 (by decide))⟩, h.2.2.F ht⟩) h.2.2.2.2 dX5_push_39

set_option maxHeartbeats 4000000 in
set_option maxRecDepth 100000 in
theorem zm_X5_pop (l : Launch) (D : va_G) (k : Nat → ClassId) (Γ : Nat → Option Nat) (L : List Nat) (F : Nat → va_E) (sz : Nat) (th : Nat) (μ : zVm) (hth : Γ th = some 5) (p_vm : zVc F th μ) : Met l yX5_pop zwX5_pop ({ frames := 0, cells := 0, slots := 0, locals := 0 }) (va_Pc [.ref th] (zP D k Γ L F sz)) (va_Qi (fun (r : Int32) (u : Nat → va_E) => zVc u th (v_pop μ) ∧ r = v_top μ ∧ True) (zQ D k Γ L F [518]) (zA L sz)) 0 0 (zA L sz) := by
  refine Met.ofW (cc := cX5_pop) (maxL := 1) (ret := (some .int)) (by decide) rfl ?_
  intro p e s m args below meth c s₁ B hml hv
  obtain ⟨rfl, hsz, hP, hK, hLn, hE, hI⟩ := hv
  have hx := B.exec
  have hb := B.bytes
  have hr := B.returns
  have hg : ∀ w ∈ zG, w.before _ s = true := fun w h9 => atoms_spec (ws := zwX5_pop) B.pre w (List.mem_cons_of_mem _ h9)
  have hown : s.vm.findClass RX5 = some m.cls := findClass_of_methodNamed B.named
  have hlocks := B.notSynchronized
  subst hsz
  have Z : zC p m c cX5_pop 1 s _ zG RX5 D k L := ⟨⟨hx, hb, hml, hown, hg⟩, hK, hLn, hE⟩
  have h : zH D k Γ L s F s.heap [] := ⟨hP, hI, va_S.rf⟩
  have hl := lv_entry ([.ref th]) (n := 1) (Nat.le_of_ble_eq_true rfl)
  rw [lg_entry_eq]
  generalize (lg_sl ([.ref th]) ++ List.replicate (1 - (lg_sl ([.ref th])).length) Slot.unset).toArray = ls at hl ⊢
  have hl : lv_has ls 1 [(0, .ref th)] := hl
  clear hP hK hLn hE hI
  generalize hargs : ([.ref th] : List Value).toArray = args at *
  refine z_start (fun R Q hRf hRl hQ => ?_)
  have hRf : R.frames = 0 := hRf
  have hRl : R.locals = 0 := hRl
  have h9 := h
  have hI0 := h.2.1
  obtain ⟨tp_, ktp_, ttp_⟩ := p_vm.tp
  have hlh_ := p_vm.lh
  have btp_ : zB 0 288 tp_ := ⟨by omega, by omega⟩
  refine lv_aload_n hx hb dX5_pop_0 rfl (lv_at hl 0 rfl) ?_
  refine zt_getk (t := 5) (C := RX5) (T := TX5) (N := 19) Z h hth zin_5 rfl 18 ktp_ ⟨by decide, rfl, by decide⟩ (zm_RX5 (List.mem_of_getElem? (i := 13) rfl)) (fun _ h9 => h9) dX5_pop_1 ?_
  refine lv_if_le (tgt := 19) hx hb dX5_pop_4 (by decide) (fun c_1 => ?_) (fun c_1 => ?_)
  · have c_1 := z_le c_1
    have btp__2 : zB 0 0 tp_ := zB.leL c_1 btp_ (zBc 0 0 (by decide)) (by decide)
    refine lv_iconst (v := 0) hx hb dX5_pop_19 (by decide) ?_
    subst hQ
    exact W.iret (v := 0) hx hb hr (fun t ht hW => ⟨⟨0, F, rfl, ⟨(by rw [(zv_pop0 (m := μ) (by have := btp__2.1; have := btp__2.2; have : (0 : Int32).toInt = 0 := (by decide); omega)).1]; exact p_vm), (by rw [(zv_pop0 (m := μ) (by have := btp__2.1; have := btp__2.2; have : (0 : Int32).toInt = 0 := (by decide); omega)).2]), trivial⟩, by rw [ht]; exact h.1, h.2.1, zFr.rf⟩, h.2.2.F ht⟩) h.2.2.2.2 dX5_pop_20
  · have c_1 := z_nle c_1
    have btp__3 : zB 1 288 tp_ := zB.ltR c_1 (zBc 0 0 (by decide)) btp_ (by decide)
    refine lv_aload_n hx hb dX5_pop_7 rfl (lv_at hl 0 rfl) ?_
    refine zt_getk (t := 5) (C := RX5) (T := TX5) (N := 19) Z h hth zin_5 rfl 18 ktp_ ⟨by decide, rfl, by decide⟩ (zm_RX5 (List.mem_of_getElem? (i := 13) rfl)) (fun _ h9 => h9) dX5_pop_8 ?_
    refine lv_aload_n hx hb dX5_pop_11 rfl (lv_at hl 0 rfl) ?_
    refine zt_getr (t := 5) (C := RX5) (T := TX5) (N := 19) Z h hth zin_5 rfl 17 rfl ⟨by decide, rfl⟩ (zm_RX5 (List.mem_of_getElem? (i := 118) rfl)) (fun _ h9 => h9) dX5_pop_12 (fun a_4 ka_4 ha_4 => ?_)
    refine zt_alen (t := 112) Z h ha_4 ⟨by decide, rfl⟩ (by decide) (v := 288) rfl dX5_pop_15 ?_
    refine lv_icmp_le (tgt := 21) hx hb dX5_pop_16 (by decide) (fun c_5 => ?_) (fun c_5 => ?_)
    · have c_5 := z_le c_5
      refine lv_aload_n hx hb dX5_pop_21 rfl (lv_at hl 0 rfl) ?_
      refine lv_dup hx hb dX5_pop_22 rfl ?_
      refine zt_getk (t := 5) (C := RX5) (T := TX5) (N := 19) Z h hth zin_5 rfl 18 ktp_ ⟨by decide, rfl, by decide⟩ (zm_RX5 (List.mem_of_getElem? (i := 13) rfl)) (fun _ h9 => h9) dX5_pop_23 ?_
      refine lv_iconst (v := 1) hx hb dX5_pop_26 (by decide) ?_
      refine lv_isub hx hb dX5_pop_27 ?_
      refine zi_sub (lo := 0) (hi := 287) btp__3 (zBc 1 1 (by decide)) (by decide) (fun x_6 bx_6 tx_6 => ?_)
      refine zt_put (t := 5) (C := RX5) (T := TX5) (N := 19) (v := .int x_6) Z h hth zin_5 tyX5 tyX5_ok nmX5 rfl 18 rfl ⟨by decide, rfl⟩ (zm_RX5 (List.mem_of_getElem? (i := 13) rfl)) (fun _ h9 => h9) rfl (zV.i (bx_6.w ⟨by decide, by decide⟩)) rfl rfl dX5_pop_28 (fun H locs F_7 h hfF_7 kF_7 => ?_)
      refine lv_aload_n hx hb dX5_pop_31 rfl (lv_at hl 0 rfl) ?_
      refine zt_getk (t := 5) (C := RX5) (T := TX5) (N := 19) Z h hth zin_5 rfl 17 (hfF_7.f hth 17 ⟨by decide, by decide⟩ ka_4) ⟨by decide, rfl, by decide⟩ (zm_RX5 (List.mem_of_getElem? (i := 118) rfl)) (fun _ h9 => h9) dX5_pop_32 ?_
      refine lv_aload_n hx hb dX5_pop_35 rfl (lv_at hl 0 rfl) ?_
      refine zt_getk (t := 5) (C := RX5) (T := TX5) (N := 19) Z h hth zin_5 rfl 18 kF_7 ⟨by decide, rfl, by decide⟩ (zm_RX5 (List.mem_of_getElem? (i := 13) rfl)) (fun _ h9 => h9) dX5_pop_36 ?_
      refine zt_ialde (t := 112) Z h ha_4 ⟨by decide, rfl⟩ bx_6 ⟨by decide, by decide⟩ dX5_pop_39 (fun x_8 ex_8 bx_8 => ?_)
      have g_9 := zv_pop1 (n := Int32.toNatClampNeg x_6) p_vm.sk (by rw [Int32.toNatClampNeg]; have := bx_8.1; have := bx_8.2; have := bx_6.1; have := bx_6.2; have : (0 : Int32).toInt = 0 := (by decide); have : (1 : Int32).toInt = 1 := (by decide); have : (288 : Int32).toInt = 288 := (by decide); omega)
      have hv_10 : zFr Γ [518] F F_7 := hfF_7
      have vm_11 : zVc F_7 th (v_pop μ) := ⟨⟨(p_vm.en.fr hv_10 hth ⟨by decide, by decide⟩), (hv_10.f hth 1 ⟨by decide, by decide⟩ p_vm.vl), (p_vm.go.fr hv_10 hth ⟨by decide, by decide⟩)⟩, ⟨(p_vm.st.fr hv_10 hth ⟨by decide, by decide⟩), (hv_10.f hth 6 ⟨by decide, by decide⟩ p_vm.cv), (p_vm.sc.fr hv_10 hth ⟨by decide, by decide⟩), ((zVa (j := 7) (c := 108) hI0 hth hv_10 ⟨by decide, rfl⟩ ⟨⟨by decide, by decide⟩, by decide, by decide⟩).trans p_vm.sd), (p_vm.tc.fr hv_10 hth ⟨by decide, by decide⟩), ((zVa (j := 8) (c := 109) hI0 hth hv_10 ⟨by decide, rfl⟩ ⟨⟨by decide, by decide⟩, by decide, by decide⟩).trans p_vm.tr), (p_vm.mx.fr hv_10 hth ⟨by decide, by decide⟩)⟩, ⟨(p_vm.nx.fr hv_10 hth ⟨by decide, by decide⟩), (p_vm.dp.fr hv_10 hth ⟨by decide, by decide⟩), ((zVa (j := 9) (c := 110) hI0 hth hv_10 ⟨by decide, rfl⟩ ⟨⟨by decide, by decide⟩, by decide, by decide⟩).trans p_vm.pl), (fun j hj => zNg_cg (congrFun (zVa (j := 16) (c := 111) hI0 hth hv_10 ⟨by decide, rfl⟩ ⟨⟨by decide, by decide⟩, by decide, by decide⟩) j) (p_vm.bk j hj))⟩, (zFi.mk kF_7 (by show _ = (((vsk μ).tail.length : Nat) : Int); rw [g_9.1, Int32.toNatClampNeg]; have := bx_8.1; have := bx_8.2; have := bx_6.1; have := bx_6.2; have : (0 : Int32).toInt = 0 := (by decide); have : (1 : Int32).toInt = 1 := (by decide); have : (288 : Int32).toInt = 288 := (by decide); omega)), (by show (vsk μ).tail = zvls _ (vsk μ).tail.length; rw [g_9.1, zVa (j := 17) (c := 112) hI0 hth ((hfF_7 : zFr Γ [518] F F_7)) ⟨by decide, rfl⟩ ⟨⟨by decide, by decide⟩, by decide, by decide⟩]; exact g_9.2.1), (by show (vsk μ).tail.length ≤ 288; rw [g_9.1, Int32.toNatClampNeg]; have := bx_8.1; have := bx_8.2; have := bx_6.1; have := bx_6.2; have : (0 : Int32).toInt = 0 := (by decide); have : (1 : Int32).toInt = 1 := (by decide); have : (288 : Int32).toInt = 288 := (by decide); omega)⟩
      have hI_12 := h.2.1
      subst hQ
      exact W.iret (v := x_8) hx hb hr (fun t ht hW => ⟨⟨x_8, F_7, rfl, ⟨vm_11, (by show x_8 = (vsk μ).headD 0; rw [g_9.2.2, ← zVa (j := 17) (c := 112) hI0 hth ((hfF_7 : zFr Γ [518] F F_7)) ⟨by decide, rfl⟩ ⟨⟨by decide, by decide⟩, by decide, by decide⟩, zar_eq (hfF_7.f hth 17 ⟨by decide, by decide⟩ ka_4)]; exact ex_8.symm), trivial⟩, by rw [ht]; exact h.1, h.2.1, hfF_7⟩, h.2.2.F ht⟩) h.2.2.2.2 dX5_pop_40
    · have c_5 := z_nle c_5
      exact zB.noLt c_5 (zBc 288 288 (by decide)) btp__3 (by decide)

set_option maxHeartbeats 4000000 in
set_option maxRecDepth 100000 in
theorem zm_X5_placeNow (l : Launch) (D : va_G) (k : Nat → ClassId) (Γ : Nat → Option Nat) (L : List Nat) (F : Nat → va_E) (sz : Nat) (th : Nat) (q : Int32) (μ : zVm) (hth : Γ th = some 5) (p_vm : zVc F th μ) (hr0 : 1 ≤ vdp μ ∧ vdp μ ≤ 8) : Met l yX5_placeNow zwX5_placeNow ({ frames := 0, cells := 0, slots := 0, locals := 0 }) (va_Pc [.ref th, .int q] (zP D k Γ L F sz)) (va_Qi (fun (r : Int32) (u : Nat → va_E) => F = u ∧ r = v_get μ q.toInt ∧ True) (zQ D k Γ L F []) (zA L sz)) 0 0 (zA L sz) := by
  refine Met.ofW (cc := cX5_placeNow) (maxL := 3) (ret := (some .int)) (by decide) rfl ?_
  intro p e s m args below meth c s₁ B hml hv
  obtain ⟨rfl, hsz, hP, hK, hLn, hE, hI⟩ := hv
  have hx := B.exec
  have hb := B.bytes
  have hr := B.returns
  have hg : ∀ w ∈ zG, w.before _ s = true := fun w h9 => atoms_spec (ws := zwX5_placeNow) B.pre w (List.mem_cons_of_mem _ h9)
  have hown : s.vm.findClass RX5 = some m.cls := findClass_of_methodNamed B.named
  have hlocks := B.notSynchronized
  subst hsz
  have Z : zC p m c cX5_placeNow 3 s _ zG RX5 D k L := ⟨⟨hx, hb, hml, hown, hg⟩, hK, hLn, hE⟩
  have h : zH D k Γ L s F s.heap [] := ⟨hP, hI, va_S.rf⟩
  have hl := lv_entry ([.ref th, .int q]) (n := 3) (Nat.le_of_ble_eq_true rfl)
  rw [lg_entry_eq]
  generalize (lg_sl ([.ref th, .int q]) ++ List.replicate (3 - (lg_sl ([.ref th, .int q])).length) Slot.unset).toArray = ls at hl ⊢
  have hl : lv_has ls 3 [(0, .ref th), (1, .int q)] := hl
  clear hP hK hLn hE hI
  generalize hargs : ([.ref th, .int q] : List Value).toArray = args at *
  refine z_start (fun R Q hRf hRl hQ => ?_)
  have hRf : R.frames = 0 := hRf
  have hRl : R.locals = 0 := hRl
  have h9 := h
  have hI0 := h.2.1
  obtain ⟨dp_, kdp_, tdp_⟩ := p_vm.dp
  have bdp_ : zB 1 8 dp_ := ⟨by omega, by omega⟩
  refine lv_aload_n hx hb dX5_placeNow_0 rfl (lv_at hl 0 rfl) ?_
  refine zt_getk (t := 5) (C := RX5) (T := TX5) (N := 19) Z h hth zin_5 rfl 15 kdp_ ⟨by decide, rfl, by decide⟩ (zm_RX5 (List.mem_of_getElem? (i := 12) rfl)) (fun _ h9 => h9) dX5_placeNow_1 ?_
  refine lv_iconst (v := 1) hx hb dX5_placeNow_4 (by decide) ?_
  refine lv_isub hx hb dX5_placeNow_5 ?_
  refine zi_sub (lo := 0) (hi := 7) bdp_ (zBc 1 1 (by decide)) (by decide) (fun x_1 bx_1 tx_1 => ?_)
  refine lv_bipush (v := 8) hx hb dX5_placeNow_6 (by decide) ?_
  refine lv_imul hx hb dX5_placeNow_8 ?_
  refine zi_mul bx_1 ((zBc 8 8 (by decide)).w ⟨by decide, by decide⟩ : zB 0 8 _) (by decide) (fun x_2 bx_2 tx_2 => ?_)
  have bx_2 : zB 0 56 x_2 := bx_2
  have tm_3 := tx_2
  rw [show (8 : Int32).toInt = 8 by decide] at tm_3
  refine lv_iload_n hx hb dX5_placeNow_9 rfl (lv_at hl 1 rfl) ?_
  refine lv_iadd hx hb dX5_placeNow_10 ?_
  refine zi_any (fun x_4 bx_4 ex_4 => ?_)
  have hw_ := zv_wrap ex_4.symm (by have := (zB.all q).1; have := (zB.all q).2; have := bx_4.1; have := bx_4.2; have := bdp_.1; have := bdp_.2; have : (1 : Int32).toInt = 1 := (by decide); have : (8 : Int32).toInt = 8 := (by decide); omega)
  have hx_ : v_ix μ q.toInt = ((vdp μ : Int) - 1) * 8 + q.toInt := rfl
  refine lv_istore_n (lv' := [(2, .int x_4), (0, .ref th), (1, .int q)]) hx hb dX5_placeNow_11 rfl hl (by decide) rfl (fun ls hl => ?_)
  refine lv_iload_n hx hb dX5_placeNow_12 rfl (lv_at hl 0 rfl) ?_
  refine lv_if_lt (tgt := 34) hx hb dX5_placeNow_13 (by decide) (fun c_5 => ?_) (fun c_5 => ?_)
  · have c_5 := z_lt c_5
    have bx_4_6 : zB (-2147483648) (-1) x_4 := zB.ltL c_5 bx_4 (zBc 0 0 (by decide)) (by decide)
    refine lv_iconst (v := 0) hx hb dX5_placeNow_34 (by decide) ?_
    subst hQ
    exact W.iret (v := 0) hx hb hr (fun t ht hW => ⟨⟨0, F, rfl, ⟨rfl, (by rw [zv_getout (by rw [hx_]; rcases hw_ with h7 | h7; have := bx_4_6.1; have := bx_4_6.2; have := (zB.all q).1; have := (zB.all q).2; have := bdp_.1; have := bdp_.2; have : (0 : Int32).toInt = 0 := (by decide); have : (1 : Int32).toInt = 1 := (by decide); have : (8 : Int32).toInt = 8 := (by decide); omega; have := bx_4_6.1; have := bx_4_6.2; have := (zB.all q).1; have := (zB.all q).2; have := bdp_.1; have := bdp_.2; have : (0 : Int32).toInt = 0 := (by decide); have : (1 : Int32).toInt = 1 := (by decide); have : (8 : Int32).toInt = 8 := (by decide); omega)]), trivial⟩, by rw [ht]; exact h.1, h.2.1, zFr.rf⟩, h.2.2.F ht⟩) h.2.2.2.2 dX5_placeNow_35
  · have c_5 := z_nlt c_5
    have bx_4_7 : zB 0 2147483647 x_4 := zB.leR c_5 (zBc 0 0 (by decide)) bx_4 (by decide)
    refine lv_iload_n hx hb dX5_placeNow_16 rfl (lv_at hl 0 rfl) ?_
    refine lv_aload_n hx hb dX5_placeNow_17 rfl (lv_at hl 1 rfl) ?_
    refine zt_getr (t := 5) (C := RX5) (T := TX5) (N := 19) Z h hth zin_5 rfl 9 rfl ⟨by decide, rfl⟩ (zm_RX5 (List.mem_of_getElem? (i := 52) rfl)) (fun _ h9 => h9) dX5_placeNow_18 (fun a_8 ka_8 ha_8 => ?_)
    refine zt_alen (t := 110) Z h ha_8 ⟨by decide, rfl⟩ (by decide) (v := 64) rfl dX5_placeNow_21 ?_
    refine lv_icmp_ge (tgt := 34) hx hb dX5_placeNow_22 (by decide) (fun c_9 => ?_) (fun c_9 => ?_)
    · have c_9 := z_le c_9
      have bx_4_10 : zB 64 2147483647 x_4 := zB.leR c_9 (zBc 64 64 (by decide)) bx_4_7 (by decide)
      refine lv_iconst (v := 0) hx hb dX5_placeNow_34 (by decide) ?_
      subst hQ
      exact W.iret (v := 0) hx hb hr (fun t ht hW => ⟨⟨0, F, rfl, ⟨rfl, (by rw [zv_getout (by rw [hx_]; rcases hw_ with h7 | h7; have := bx_4_10.1; have := bx_4_10.2; have := (zB.all q).1; have := (zB.all q).2; have := bdp_.1; have := bdp_.2; have : (0 : Int32).toInt = 0 := (by decide); have : (1 : Int32).toInt = 1 := (by decide); have : (8 : Int32).toInt = 8 := (by decide); have : (64 : Int32).toInt = 64 := (by decide); omega; have := bx_4_10.1; have := bx_4_10.2; have := (zB.all q).1; have := (zB.all q).2; have := bdp_.1; have := bdp_.2; have : (0 : Int32).toInt = 0 := (by decide); have : (1 : Int32).toInt = 1 := (by decide); have : (8 : Int32).toInt = 8 := (by decide); have : (64 : Int32).toInt = 64 := (by decide); omega)]), trivial⟩, by rw [ht]; exact h.1, h.2.1, zFr.rf⟩, h.2.2.F ht⟩) h.2.2.2.2 dX5_placeNow_35
    · have c_9 := z_nle c_9
      have bx_4_11 : zB 0 63 x_4 := zB.ltL c_9 bx_4_7 (zBc 64 64 (by decide)) (by decide)
      refine lv_aload_n hx hb dX5_placeNow_25 rfl (lv_at hl 1 rfl) ?_
      refine zt_getk (t := 5) (C := RX5) (T := TX5) (N := 19) Z h hth zin_5 rfl 9 ka_8 ⟨by decide, rfl, by decide⟩ (zm_RX5 (List.mem_of_getElem? (i := 52) rfl)) (fun _ h9 => h9) dX5_placeNow_26 ?_
      refine lv_iload_n hx hb dX5_placeNow_29 rfl (lv_at hl 0 rfl) ?_
      refine zt_ialde (t := 110) Z h ha_8 ⟨by decide, rfl⟩ bx_4_11 ⟨by decide, by decide⟩ dX5_placeNow_30 (fun x_12 ex_12 bx_12 => ?_)
      refine lv_goto (tgt := 35) hx hb dX5_placeNow_31 (by decide) ?_
      subst hQ
      exact W.iret (v := x_12) hx hb hr (fun t ht hW => ⟨⟨x_12, F, rfl, ⟨rfl, (by have h6 : 0 ≤ v_ix μ q.toInt ∧ v_ix μ q.toInt < 64 := (by rw [hx_]; rcases hw_ with h7 | h7; have := bx_4_11.1; have := bx_4_11.2; have := (zB.all q).1; have := (zB.all q).2; have := bx_12.1; have := bx_12.2; have := bdp_.1; have := bdp_.2; have : (0 : Int32).toInt = 0 := (by decide); have : (1 : Int32).toInt = 1 := (by decide); have : (8 : Int32).toInt = 8 := (by decide); have : (64 : Int32).toInt = 64 := (by decide); omega; have := bx_4_11.1; have := bx_4_11.2; have := (zB.all q).1; have := (zB.all q).2; have := bx_12.1; have := bx_12.2; have := bdp_.1; have := bdp_.2; have : (0 : Int32).toInt = 0 := (by decide); have : (1 : Int32).toInt = 1 := (by decide); have : (8 : Int32).toInt = 8 := (by decide); have : (64 : Int32).toInt = 64 := (by decide); omega); rw [zv_getin h6, show (v_ix μ q.toInt).toNat = Int32.toNatClampNeg x_4 by rw [Int32.toNatClampNeg]; rcases hw_ with h7 | h7; have := bx_4_11.1; have := bx_4_11.2; have := (zB.all q).1; have := (zB.all q).2; have := bx_12.1; have := bx_12.2; have := bdp_.1; have := bdp_.2; have : (0 : Int32).toInt = 0 := (by decide); have : (1 : Int32).toInt = 1 := (by decide); have : (8 : Int32).toInt = 8 := (by decide); have : (64 : Int32).toInt = 64 := (by decide); omega; have := bx_4_11.1; have := bx_4_11.2; have := (zB.all q).1; have := (zB.all q).2; have := bx_12.1; have := bx_12.2; have := bdp_.1; have := bdp_.2; have : (0 : Int32).toInt = 0 := (by decide); have : (1 : Int32).toInt = 1 := (by decide); have : (8 : Int32).toInt = 8 := (by decide); have : (64 : Int32).toInt = 64 := (by decide); omega, ← p_vm.pl, zar_eq ka_8]; exact ex_12.symm), trivial⟩, by rw [ht]; exact h.1, h.2.1, zFr.rf⟩, h.2.2.F ht⟩) h.2.2.2.2 dX5_placeNow_35

set_option maxHeartbeats 4000000 in
set_option maxRecDepth 100000 in
theorem zm_X5_setPlace (l : Launch) (D : va_G) (k : Nat → ClassId) (Γ : Nat → Option Nat) (L : List Nat) (F : Nat → va_E) (sz : Nat) (th : Nat) (q : Int32) (to : Int32) (μ : zVm) (hth : Γ th = some 5) (p_vm : zVc F th μ) (hr0 : 1 ≤ vdp μ ∧ vdp μ ≤ 8) : Met l yX5_setPlace zwX5_setPlace ({ frames := 0, cells := 0, slots := 0, locals := 0 }) (va_Pc [.ref th, .int q, .int to] (zP D k Γ L F sz)) (va_Qv (fun (u : Nat → va_E) => zVc u th (v_put μ q.toInt to) ∧ True) (zQ D k Γ L F [11000]) (zA L sz)) 0 0 (zA L sz) := by
  refine Met.ofW (cc := cX5_setPlace) (maxL := 4) (ret := none) (by decide) rfl ?_
  intro p e s m args below meth c s₁ B hml hv
  obtain ⟨rfl, hsz, hP, hK, hLn, hE, hI⟩ := hv
  have hx := B.exec
  have hb := B.bytes
  have hr := B.returns
  have hg : ∀ w ∈ zG, w.before _ s = true := fun w h9 => atoms_spec (ws := zwX5_setPlace) B.pre w (List.mem_cons_of_mem _ h9)
  have hown : s.vm.findClass RX5 = some m.cls := findClass_of_methodNamed B.named
  have hlocks := B.notSynchronized
  subst hsz
  have Z : zC p m c cX5_setPlace 4 s _ zG RX5 D k L := ⟨⟨hx, hb, hml, hown, hg⟩, hK, hLn, hE⟩
  have h : zH D k Γ L s F s.heap [] := ⟨hP, hI, va_S.rf⟩
  have hl := lv_entry ([.ref th, .int q, .int to]) (n := 4) (Nat.le_of_ble_eq_true rfl)
  rw [lg_entry_eq]
  generalize (lg_sl ([.ref th, .int q, .int to]) ++ List.replicate (4 - (lg_sl ([.ref th, .int q, .int to])).length) Slot.unset).toArray = ls at hl ⊢
  have hl : lv_has ls 4 [(0, .ref th), (1, .int q), (2, .int to)] := hl
  clear hP hK hLn hE hI
  generalize hargs : ([.ref th, .int q, .int to] : List Value).toArray = args at *
  refine z_start (fun R Q hRf hRl hQ => ?_)
  have hRf : R.frames = 0 := hRf
  have hRl : R.locals = 0 := hRl
  have h9 := h
  have hI0 := h.2.1
  obtain ⟨dp_, kdp_, tdp_⟩ := p_vm.dp
  have bdp_ : zB 1 8 dp_ := ⟨by omega, by omega⟩
  refine lv_aload_n hx hb dX5_setPlace_0 rfl (lv_at hl 0 rfl) ?_
  refine zt_getk (t := 5) (C := RX5) (T := TX5) (N := 19) Z h hth zin_5 rfl 15 kdp_ ⟨by decide, rfl, by decide⟩ (zm_RX5 (List.mem_of_getElem? (i := 12) rfl)) (fun _ h9 => h9) dX5_setPlace_1 ?_
  refine lv_iconst (v := 1) hx hb dX5_setPlace_4 (by decide) ?_
  refine lv_isub hx hb dX5_setPlace_5 ?_
  refine zi_sub (lo := 0) (hi := 7) bdp_ (zBc 1 1 (by decide)) (by decide) (fun x_1 bx_1 tx_1 => ?_)
  refine lv_bipush (v := 8) hx hb dX5_setPlace_6 (by decide) ?_
  refine lv_imul hx hb dX5_setPlace_8 ?_
  refine zi_mul bx_1 ((zBc 8 8 (by decide)).w ⟨by decide, by decide⟩ : zB 0 8 _) (by decide) (fun x_2 bx_2 tx_2 => ?_)
  have bx_2 : zB 0 56 x_2 := bx_2
  have tm_3 := tx_2
  rw [show (8 : Int32).toInt = 8 by decide] at tm_3
  refine lv_iload_n hx hb dX5_setPlace_9 rfl (lv_at hl 1 rfl) ?_
  refine lv_iadd hx hb dX5_setPlace_10 ?_
  refine zi_any (fun x_4 bx_4 ex_4 => ?_)
  have hw_ := zv_wrap ex_4.symm (by have := (zB.all q).1; have := (zB.all q).2; have := (zB.all to).1; have := (zB.all to).2; have := bx_4.1; have := bx_4.2; have := bdp_.1; have := bdp_.2; have : (1 : Int32).toInt = 1 := (by decide); have : (8 : Int32).toInt = 8 := (by decide); omega)
  have hx_ : v_ix μ q.toInt = ((vdp μ : Int) - 1) * 8 + q.toInt := rfl
  refine lv_istore_n (lv' := [(3, .int x_4), (0, .ref th), (1, .int q), (2, .int to)]) hx hb dX5_setPlace_11 rfl hl (by decide) rfl (fun ls hl => ?_)
  refine lv_iload_n hx hb dX5_setPlace_12 rfl (lv_at hl 0 rfl) ?_
  refine lv_if_lt (tgt := 32) hx hb dX5_setPlace_13 (by decide) (fun c_5 => ?_) (fun c_5 => ?_)
  · have c_5 := z_lt c_5
    have bx_4_6 : zB (-2147483648) (-1) x_4 := zB.ltL c_5 bx_4 (zBc 0 0 (by decide)) (by decide)
    subst hQ
    exact W.vret hx hb hr (fun t ht hW => ⟨⟨F, rfl, ⟨(by rw [zv_putout (by rw [hx_]; rcases hw_ with h7 | h7; have := bx_4_6.1; have := bx_4_6.2; have := (zB.all q).1; have := (zB.all q).2; have := (zB.all to).1; have := (zB.all to).2; have := bdp_.1; have := bdp_.2; have : (0 : Int32).toInt = 0 := (by decide); have : (1 : Int32).toInt = 1 := (by decide); have : (8 : Int32).toInt = 8 := (by decide); omega; have := bx_4_6.1; have := bx_4_6.2; have := (zB.all q).1; have := (zB.all q).2; have := (zB.all to).1; have := (zB.all to).2; have := bdp_.1; have := bdp_.2; have : (0 : Int32).toInt = 0 := (by decide); have : (1 : Int32).toInt = 1 := (by decide); have : (8 : Int32).toInt = 8 := (by decide); omega)]; exact p_vm), trivial⟩, by rw [ht]; exact h.1, h.2.1, zFr.rf⟩, h.2.2.F ht⟩) h.2.2.2.2 dX5_setPlace_32
  · have c_5 := z_nlt c_5
    have bx_4_7 : zB 0 2147483647 x_4 := zB.leR c_5 (zBc 0 0 (by decide)) bx_4 (by decide)
    refine lv_iload_n hx hb dX5_setPlace_16 rfl (lv_at hl 0 rfl) ?_
    refine lv_aload_n hx hb dX5_setPlace_17 rfl (lv_at hl 1 rfl) ?_
    refine zt_getr (t := 5) (C := RX5) (T := TX5) (N := 19) Z h hth zin_5 rfl 9 rfl ⟨by decide, rfl⟩ (zm_RX5 (List.mem_of_getElem? (i := 52) rfl)) (fun _ h9 => h9) dX5_setPlace_18 (fun a_8 ka_8 ha_8 => ?_)
    refine zt_alen (t := 110) Z h ha_8 ⟨by decide, rfl⟩ (by decide) (v := 64) rfl dX5_setPlace_21 ?_
    refine lv_icmp_ge (tgt := 32) hx hb dX5_setPlace_22 (by decide) (fun c_9 => ?_) (fun c_9 => ?_)
    · have c_9 := z_le c_9
      have bx_4_10 : zB 64 2147483647 x_4 := zB.leR c_9 (zBc 64 64 (by decide)) bx_4_7 (by decide)
      subst hQ
      exact W.vret hx hb hr (fun t ht hW => ⟨⟨F, rfl, ⟨(by rw [zv_putout (by rw [hx_]; rcases hw_ with h7 | h7; have := bx_4_10.1; have := bx_4_10.2; have := (zB.all q).1; have := (zB.all q).2; have := (zB.all to).1; have := (zB.all to).2; have := bdp_.1; have := bdp_.2; have : (0 : Int32).toInt = 0 := (by decide); have : (1 : Int32).toInt = 1 := (by decide); have : (8 : Int32).toInt = 8 := (by decide); have : (64 : Int32).toInt = 64 := (by decide); omega; have := bx_4_10.1; have := bx_4_10.2; have := (zB.all q).1; have := (zB.all q).2; have := (zB.all to).1; have := (zB.all to).2; have := bdp_.1; have := bdp_.2; have : (0 : Int32).toInt = 0 := (by decide); have : (1 : Int32).toInt = 1 := (by decide); have : (8 : Int32).toInt = 8 := (by decide); have : (64 : Int32).toInt = 64 := (by decide); omega)]; exact p_vm), trivial⟩, by rw [ht]; exact h.1, h.2.1, zFr.rf⟩, h.2.2.F ht⟩) h.2.2.2.2 dX5_setPlace_32
    · have c_9 := z_nle c_9
      have bx_4_11 : zB 0 63 x_4 := zB.ltL c_9 bx_4_7 (zBc 64 64 (by decide)) (by decide)
      refine lv_aload_n hx hb dX5_setPlace_25 rfl (lv_at hl 1 rfl) ?_
      refine zt_getk (t := 5) (C := RX5) (T := TX5) (N := 19) Z h hth zin_5 rfl 9 ka_8 ⟨by decide, rfl, by decide⟩ (zm_RX5 (List.mem_of_getElem? (i := 52) rfl)) (fun _ h9 => h9) dX5_setPlace_26 ?_
      refine lv_iload_n hx hb dX5_setPlace_29 rfl (lv_at hl 0 rfl) ?_
      refine lv_iload_n hx hb dX5_setPlace_30 rfl (lv_at hl 3 rfl) ?_
      have ad_13 := z_ad (j := 9) (c := 110) h.2.1 hth (by decide) rfl
      refine zt_iaste (t := 110) Z h ha_8 ⟨by decide, rfl⟩ bx_4_11 ⟨by decide, by decide⟩ (zB.all to) dX5_setPlace_31 (fun H locs F_12 h hfF_12 eF_12 gF_12 => ?_)
      have uF_12 := (zar_st ka_8 (hfF_12.f hth 9 ⟨by decide, by decide⟩ ka_8) eF_12 gF_12).trans (congrArg (fun z => upd z (Int32.toNatClampNeg x_4) to) (rfl : zar F th 9 = (zar F th 9)))
      have h6_ : 0 ≤ v_ix μ q.toInt ∧ v_ix μ q.toInt < 64 := (by rw [hx_]; rcases hw_ with h7 | h7; have := bx_4_11.1; have := bx_4_11.2; have := (zB.all q).1; have := (zB.all q).2; have := (zB.all to).1; have := (zB.all to).2; have := bdp_.1; have := bdp_.2; have : (0 : Int32).toInt = 0 := (by decide); have : (1 : Int32).toInt = 1 := (by decide); have : (8 : Int32).toInt = 8 := (by decide); have : (64 : Int32).toInt = 64 := (by decide); omega; have := bx_4_11.1; have := bx_4_11.2; have := (zB.all q).1; have := (zB.all q).2; have := (zB.all to).1; have := (zB.all to).2; have := bdp_.1; have := bdp_.2; have : (0 : Int32).toInt = 0 := (by decide); have : (1 : Int32).toInt = 1 := (by decide); have : (8 : Int32).toInt = 8 := (by decide); have : (64 : Int32).toInt = 64 := (by decide); omega)
      have hv_14 : zFr Γ [11000] F F_12 := hfF_12
      have vm_15 : zVc F_12 th (v_pl μ (vup (vpl μ) (v_ix μ q.toInt).toNat to)) := ⟨⟨(p_vm.en.fr hv_14 hth ⟨by decide, by decide⟩), (hv_14.f hth 1 ⟨by decide, by decide⟩ p_vm.vl), (p_vm.go.fr hv_14 hth ⟨by decide, by decide⟩)⟩, ⟨(p_vm.st.fr hv_14 hth ⟨by decide, by decide⟩), (hv_14.f hth 6 ⟨by decide, by decide⟩ p_vm.cv), (p_vm.sc.fr hv_14 hth ⟨by decide, by decide⟩), ((zVa (j := 7) (c := 108) hI0 hth hv_14 ⟨by decide, rfl⟩ ⟨⟨by decide, by decide⟩, by decide, by decide⟩).trans p_vm.sd), (p_vm.tc.fr hv_14 hth ⟨by decide, by decide⟩), ((zVa (j := 8) (c := 109) hI0 hth hv_14 ⟨by decide, rfl⟩ ⟨⟨by decide, by decide⟩, by decide, by decide⟩).trans p_vm.tr), (p_vm.mx.fr hv_14 hth ⟨by decide, by decide⟩)⟩, ⟨(p_vm.nx.fr hv_14 hth ⟨by decide, by decide⟩), (p_vm.dp.fr hv_14 hth ⟨by decide, by decide⟩), (by rw [uF_12, p_vm.pl, show (v_ix μ q.toInt).toNat = Int32.toNatClampNeg x_4 by rw [Int32.toNatClampNeg]; rcases hw_ with h7 | h7; have := bx_4_11.1; have := bx_4_11.2; have := (zB.all q).1; have := (zB.all q).2; have := (zB.all to).1; have := (zB.all to).2; have := bdp_.1; have := bdp_.2; have : (0 : Int32).toInt = 0 := (by decide); have : (1 : Int32).toInt = 1 := (by decide); have : (8 : Int32).toInt = 8 := (by decide); have : (64 : Int32).toInt = 64 := (by decide); omega; have := bx_4_11.1; have := bx_4_11.2; have := (zB.all q).1; have := (zB.all q).2; have := (zB.all to).1; have := (zB.all to).2; have := bdp_.1; have := bdp_.2; have : (0 : Int32).toInt = 0 := (by decide); have : (1 : Int32).toInt = 1 := (by decide); have : (8 : Int32).toInt = 8 := (by decide); have : (64 : Int32).toInt = 64 := (by decide); omega]; rfl), (fun j hj => zNg_cg (congrFun (zVa (j := 16) (c := 111) hI0 hth hv_14 ⟨by decide, rfl⟩ ⟨⟨by decide, by decide⟩, by decide, by decide⟩) j) (p_vm.bk j hj))⟩, (p_vm.tp.fr hv_14 hth ⟨by decide, by decide⟩), (p_vm.sk.trans (congrArg (fun z => zvls z _) (zVa (j := 17) (c := 112) hI0 hth hv_14 ⟨by decide, rfl⟩ ⟨⟨by decide, by decide⟩, by decide, by decide⟩).symm)), p_vm.lh⟩
      have hI_16 := h.2.1
      subst hQ
      exact W.vret hx hb hr (fun t ht hW => ⟨⟨F_12, rfl, ⟨(by rw [zv_putin h6_]; exact vm_15), trivial⟩, by rw [ht]; exact h.1, h.2.1, hfF_12⟩, h.2.2.F ht⟩) h.2.2.2.2 dX5_setPlace_32

set_option maxHeartbeats 4000000 in
set_option maxRecDepth 100000 in
theorem zm_X5_note (l : Launch) (D : va_G) (k : Nat → ClassId) (Γ : Nat → Option Nat) (L : List Nat) (F : Nat → va_E) (sz : Nat) (th : Nat) (li : Int32) (q : Int32) (ah : Int32) (th_ : Int32) (μ : zVm) (hth : Γ th = some 5) (p_vm : zVc F th μ) (hr0 : vtc μ ≤ 4000000) : Met l yX5_note zwX5_note ({ frames := 0, cells := 0, slots := 0, locals := 0 }) (va_Pc [.ref th, .int li, .int q, .int ah, .int th_] (zP D k Γ L F sz)) (va_Qv (fun (u : Nat → va_E) => zVc u th (v_note μ li q ah th_) ∧ True) (zQ D k Γ L F [504, 10900]) (zA L sz)) 0 0 (zA L sz) := by
  refine Met.ofW (cc := cX5_note) (maxL := 6) (ret := none) (by decide) rfl ?_
  intro p e s m args below meth c s₁ B hml hv
  obtain ⟨rfl, hsz, hP, hK, hLn, hE, hI⟩ := hv
  have hx := B.exec
  have hb := B.bytes
  have hr := B.returns
  have hg : ∀ w ∈ zG, w.before _ s = true := fun w h9 => atoms_spec (ws := zwX5_note) B.pre w (List.mem_cons_of_mem _ h9)
  have hown : s.vm.findClass RX5 = some m.cls := findClass_of_methodNamed B.named
  have hlocks := B.notSynchronized
  subst hsz
  have Z : zC p m c cX5_note 6 s _ zG RX5 D k L := ⟨⟨hx, hb, hml, hown, hg⟩, hK, hLn, hE⟩
  have h : zH D k Γ L s F s.heap [] := ⟨hP, hI, va_S.rf⟩
  have hl := lv_entry ([.ref th, .int li, .int q, .int ah, .int th_]) (n := 6) (Nat.le_of_ble_eq_true rfl)
  rw [lg_entry_eq]
  generalize (lg_sl ([.ref th, .int li, .int q, .int ah, .int th_]) ++ List.replicate (6 - (lg_sl ([.ref th, .int li, .int q, .int ah, .int th_])).length) Slot.unset).toArray = ls at hl ⊢
  have hl : lv_has ls 6 [(0, .ref th), (1, .int li), (2, .int q), (3, .int ah), (4, .int th_)] := hl
  clear hP hK hLn hE hI
  generalize hargs : ([.ref th, .int li, .int q, .int ah, .int th_] : List Value).toArray = args at *
  refine z_start (fun R Q hRf hRl hQ => ?_)
  have hRf : R.frames = 0 := hRf
  have hRl : R.locals = 0 := hRl
  have h9 := h
  have hI0 := h.2.1
  obtain ⟨tc_, ktc_, ttc_⟩ := p_vm.tc
  have btc_ : zB 0 4000001 tc_ := ⟨by omega, by omega⟩
  refine lv_aload_n hx hb dX5_note_0 rfl (lv_at hl 0 rfl) ?_
  refine zt_getk (t := 5) (C := RX5) (T := TX5) (N := 19) Z h hth zin_5 rfl 4 ktc_ ⟨by decide, rfl, by decide⟩ (zm_RX5 (List.mem_of_getElem? (i := 9) rfl)) (fun _ h9 => h9) dX5_note_1 ?_
  refine lv_sipush (v := 400) hx hb dX5_note_4 (by decide) ?_
  refine lv_icmp_ge (tgt := 57) hx hb dX5_note_7 (by decide) (fun c_1 => ?_) (fun c_1 => ?_)
  · have c_1 := z_le c_1
    have btc__2 : zB 400 4000001 tc_ := zB.leR c_1 (zBc 400 400 (by decide)) btc_ (by decide)
    refine lv_aload_n hx hb dX5_note_57 rfl (lv_at hl 0 rfl) ?_
    refine lv_dup hx hb dX5_note_58 rfl ?_
    refine zt_getk (t := 5) (C := RX5) (T := TX5) (N := 19) Z h hth zin_5 rfl 4 ktc_ ⟨by decide, rfl, by decide⟩ (zm_RX5 (List.mem_of_getElem? (i := 9) rfl)) (fun _ h9 => h9) dX5_note_59 ?_
    refine lv_iconst (v := 1) hx hb dX5_note_62 (by decide) ?_
    refine lv_iadd hx hb dX5_note_63 ?_
    refine zi_add (lo := 401) (hi := 4000002) btc__2 (zBc 1 1 (by decide)) (by decide) (fun x_3 bx_3 tx_3 => ?_)
    refine zt_put (t := 5) (C := RX5) (T := TX5) (N := 19) (v := .int x_3) Z h hth zin_5 tyX5 tyX5_ok nmX5 rfl 4 rfl ⟨by decide, rfl⟩ (zm_RX5 (List.mem_of_getElem? (i := 9) rfl)) (fun _ h9 => h9) rfl (zV.i (zB.of ⟨by have := (zB.all li).1; have := (zB.all li).2; have := (zB.all q).1; have := (zB.all q).2; have := (zB.all ah).1; have := (zB.all ah).2; have := (zB.all th_).1; have := (zB.all th_).2; have := bx_3.1; have := bx_3.2; have := btc__2.1; have := btc__2.2; have : (1 : Int32).toInt = 1 := (by decide); have : (400 : Int32).toInt = 400 := (by decide); omega, by have := (zB.all li).1; have := (zB.all li).2; have := (zB.all q).1; have := (zB.all q).2; have := (zB.all ah).1; have := (zB.all ah).2; have := (zB.all th_).1; have := (zB.all th_).2; have := bx_3.1; have := bx_3.2; have := btc__2.1; have := btc__2.2; have : (1 : Int32).toInt = 1 := (by decide); have : (400 : Int32).toInt = 400 := (by decide); omega⟩)) rfl rfl dX5_note_64 (fun H locs F_4 h hfF_4 kF_4 => ?_)
    have hv_5 : zFr Γ [504] F F_4 := hfF_4
    have vm_6 : zVc F_4 th (v_rec μ (vst μ, vcv μ, vsc μ, vsd μ, vtc μ + 1, vtr μ, vmx μ)) := ⟨⟨(p_vm.en.fr hv_5 hth ⟨by decide, by decide⟩), (hv_5.f hth 1 ⟨by decide, by decide⟩ p_vm.vl), (p_vm.go.fr hv_5 hth ⟨by decide, by decide⟩)⟩, ⟨(p_vm.st.fr hv_5 hth ⟨by decide, by decide⟩), (hv_5.f hth 6 ⟨by decide, by decide⟩ p_vm.cv), (p_vm.sc.fr hv_5 hth ⟨by decide, by decide⟩), ((zVa (j := 7) (c := 108) hI0 hth hv_5 ⟨by decide, rfl⟩ ⟨⟨by decide, by decide⟩, by decide, by decide⟩).trans p_vm.sd), (zFi.mk kF_4 (by show _ = ((((vtc μ) + 1 : Nat)) : Int); have := (zB.all li).1; have := (zB.all li).2; have := (zB.all q).1; have := (zB.all q).2; have := (zB.all ah).1; have := (zB.all ah).2; have := (zB.all th_).1; have := (zB.all th_).2; have := bx_3.1; have := bx_3.2; have : (1 : Int32).toInt = 1 := (by decide); have : (400 : Int32).toInt = 400 := (by decide); omega)), ((zVa (j := 8) (c := 109) hI0 hth hv_5 ⟨by decide, rfl⟩ ⟨⟨by decide, by decide⟩, by decide, by decide⟩).trans p_vm.tr), (p_vm.mx.fr hv_5 hth ⟨by decide, by decide⟩)⟩, ⟨(p_vm.nx.fr hv_5 hth ⟨by decide, by decide⟩), (p_vm.dp.fr hv_5 hth ⟨by decide, by decide⟩), ((zVa (j := 9) (c := 110) hI0 hth hv_5 ⟨by decide, rfl⟩ ⟨⟨by decide, by decide⟩, by decide, by decide⟩).trans p_vm.pl), (fun j hj => zNg_cg (congrFun (zVa (j := 16) (c := 111) hI0 hth hv_5 ⟨by decide, rfl⟩ ⟨⟨by decide, by decide⟩, by decide, by decide⟩) j) (p_vm.bk j hj))⟩, (p_vm.tp.fr hv_5 hth ⟨by decide, by decide⟩), (p_vm.sk.trans (congrArg (fun z => zvls z _) (zVa (j := 17) (c := 112) hI0 hth hv_5 ⟨by decide, rfl⟩ ⟨⟨by decide, by decide⟩, by decide, by decide⟩).symm)), p_vm.lh⟩
    have hI_7 := h.2.1
    subst hQ
    exact W.vret hx hb hr (fun t ht hW => ⟨⟨F_4, rfl, ⟨(by rw [zv_unnoted (by have := (zB.all li).1; have := (zB.all li).2; have := (zB.all q).1; have := (zB.all q).2; have := (zB.all ah).1; have := (zB.all ah).2; have := (zB.all th_).1; have := (zB.all th_).2; have := bx_3.1; have := bx_3.2; have : (1 : Int32).toInt = 1 := (by decide); have : (400 : Int32).toInt = 400 := (by decide); omega)]; exact vm_6), trivial⟩, by rw [ht]; exact h.1, h.2.1, (hfF_4.w (by decide))⟩, h.2.2.F ht⟩) h.2.2.2.2 dX5_note_67
  · have c_1 := z_nle c_1
    have btc__8 : zB 0 399 tc_ := zB.ltL c_1 btc_ (zBc 400 400 (by decide)) (by decide)
    refine lv_aload_n hx hb dX5_note_10 rfl (lv_at hl 0 rfl) ?_
    refine zt_getk (t := 5) (C := RX5) (T := TX5) (N := 19) Z h hth zin_5 rfl 4 ktc_ ⟨by decide, rfl, by decide⟩ (zm_RX5 (List.mem_of_getElem? (i := 9) rfl)) (fun _ h9 => h9) dX5_note_11 ?_
    refine lv_iconst (v := 4) hx hb dX5_note_14 (by decide) ?_
    refine lv_imul hx hb dX5_note_15 ?_
    refine zi_mul btc__8 ((zBc 4 4 (by decide)).w ⟨by decide, by decide⟩ : zB 0 4 _) (by decide) (fun x_9 bx_9 tx_9 => ?_)
    have bx_9 : zB 0 1596 x_9 := bx_9
    have tm_10 := tx_9
    rw [show (4 : Int32).toInt = 4 by decide] at tm_10
    refine lv_istore (lv' := [(5, .int x_9), (0, .ref th), (1, .int li), (2, .int q), (3, .int ah), (4, .int th_)]) hx hb dX5_note_16 hl (by decide) rfl (fun ls hl => ?_)
    refine lv_aload_n hx hb dX5_note_18 rfl (lv_at hl 1 rfl) ?_
    refine zt_getr (t := 5) (C := RX5) (T := TX5) (N := 19) Z h hth zin_5 rfl 8 rfl ⟨by decide, rfl⟩ (zm_RX5 (List.mem_of_getElem? (i := 50) rfl)) (fun _ h9 => h9) dX5_note_19 (fun a_11 ka_11 ha_11 => ?_)
    refine lv_iload hx hb dX5_note_22 (lv_at hl 0 rfl) ?_
    refine lv_iload_n hx hb dX5_note_24 rfl (lv_at hl 2 rfl) ?_
    have ad_13 := z_ad (j := 8) (c := 109) h.2.1 hth (by decide) rfl
    refine zt_iaste (t := 109) Z h ha_11 ⟨by decide, rfl⟩ bx_9 ⟨by decide, by decide⟩ (zB.all li) dX5_note_25 (fun H locs F_12 h hfF_12 eF_12 gF_12 => ?_)
    have uF_12 := (zar_st ka_11 (hfF_12.f hth 8 ⟨by decide, by decide⟩ ka_11) eF_12 gF_12).trans (congrArg (fun z => upd z (Int32.toNatClampNeg x_9) li) (rfl : zar F th 8 = (zar F th 8)))
    refine lv_aload_n hx hb dX5_note_26 rfl (lv_at hl 1 rfl) ?_
    refine zt_getk (t := 5) (C := RX5) (T := TX5) (N := 19) Z h hth zin_5 rfl 8 (hfF_12.f hth 8 ⟨by decide, by decide⟩ ka_11) ⟨by decide, rfl, by decide⟩ (zm_RX5 (List.mem_of_getElem? (i := 50) rfl)) (fun _ h9 => h9) dX5_note_27 ?_
    refine lv_iload hx hb dX5_note_30 (lv_at hl 0 rfl) ?_
    refine lv_iconst (v := 1) hx hb dX5_note_32 (by decide) ?_
    refine lv_iadd hx hb dX5_note_33 ?_
    refine zi_add (lo := 1) (hi := 1597) bx_9 (zBc 1 1 (by decide)) (by decide) (fun x_14 bx_14 tx_14 => ?_)
    refine lv_iload_n hx hb dX5_note_34 rfl (lv_at hl 3 rfl) ?_
    refine zt_iaste (t := 109) Z h ha_11 ⟨by decide, rfl⟩ bx_14 ⟨by decide, by decide⟩ (zB.all q) dX5_note_35 (fun H locs F_15 h hfF_15 eF_15 gF_15 => ?_)
    have uF_15 := (zar_st (hfF_12.f hth 8 ⟨by decide, by decide⟩ ka_11) (hfF_15.f hth 8 ⟨by decide, by decide⟩ (hfF_12.f hth 8 ⟨by decide, by decide⟩ ka_11)) eF_15 gF_15).trans (congrArg (fun z => upd z (Int32.toNatClampNeg x_14) q) uF_12)
    refine lv_aload_n hx hb dX5_note_36 rfl (lv_at hl 1 rfl) ?_
    refine zt_getk (t := 5) (C := RX5) (T := TX5) (N := 19) Z h hth zin_5 rfl 8 (hfF_15.f hth 8 ⟨by decide, by decide⟩ (hfF_12.f hth 8 ⟨by decide, by decide⟩ ka_11)) ⟨by decide, rfl, by decide⟩ (zm_RX5 (List.mem_of_getElem? (i := 50) rfl)) (fun _ h9 => h9) dX5_note_37 ?_
    refine lv_iload hx hb dX5_note_40 (lv_at hl 0 rfl) ?_
    refine lv_iconst (v := 2) hx hb dX5_note_42 (by decide) ?_
    refine lv_iadd hx hb dX5_note_43 ?_
    refine zi_add (lo := 2) (hi := 1598) bx_9 (zBc 2 2 (by decide)) (by decide) (fun x_16 bx_16 tx_16 => ?_)
    refine lv_iload_n hx hb dX5_note_44 rfl (lv_at hl 4 rfl) ?_
    refine zt_iaste (t := 109) Z h ha_11 ⟨by decide, rfl⟩ bx_16 ⟨by decide, by decide⟩ (zB.all ah) dX5_note_45 (fun H locs F_17 h hfF_17 eF_17 gF_17 => ?_)
    have uF_17 := (zar_st (hfF_15.f hth 8 ⟨by decide, by decide⟩ (hfF_12.f hth 8 ⟨by decide, by decide⟩ ka_11)) (hfF_17.f hth 8 ⟨by decide, by decide⟩ (hfF_15.f hth 8 ⟨by decide, by decide⟩ (hfF_12.f hth 8 ⟨by decide, by decide⟩ ka_11))) eF_17 gF_17).trans (congrArg (fun z => upd z (Int32.toNatClampNeg x_16) ah) uF_15)
    refine lv_aload_n hx hb dX5_note_46 rfl (lv_at hl 1 rfl) ?_
    refine zt_getk (t := 5) (C := RX5) (T := TX5) (N := 19) Z h hth zin_5 rfl 8 (hfF_17.f hth 8 ⟨by decide, by decide⟩ (hfF_15.f hth 8 ⟨by decide, by decide⟩ (hfF_12.f hth 8 ⟨by decide, by decide⟩ ka_11))) ⟨by decide, rfl, by decide⟩ (zm_RX5 (List.mem_of_getElem? (i := 50) rfl)) (fun _ h9 => h9) dX5_note_47 ?_
    refine lv_iload hx hb dX5_note_50 (lv_at hl 0 rfl) ?_
    refine lv_iconst (v := 3) hx hb dX5_note_52 (by decide) ?_
    refine lv_iadd hx hb dX5_note_53 ?_
    refine zi_add (lo := 3) (hi := 1599) bx_9 (zBc 3 3 (by decide)) (by decide) (fun x_18 bx_18 tx_18 => ?_)
    refine lv_iload hx hb dX5_note_54 (lv_at hl 5 rfl) ?_
    refine zt_iaste (t := 109) Z h ha_11 ⟨by decide, rfl⟩ bx_18 ⟨by decide, by decide⟩ (zB.all th_) dX5_note_56 (fun H locs F_19 h hfF_19 eF_19 gF_19 => ?_)
    have uF_19 := (zar_st (hfF_17.f hth 8 ⟨by decide, by decide⟩ (hfF_15.f hth 8 ⟨by decide, by decide⟩ (hfF_12.f hth 8 ⟨by decide, by decide⟩ ka_11))) (hfF_19.f hth 8 ⟨by decide, by decide⟩ (hfF_17.f hth 8 ⟨by decide, by decide⟩ (hfF_15.f hth 8 ⟨by decide, by decide⟩ (hfF_12.f hth 8 ⟨by decide, by decide⟩ ka_11)))) eF_19 gF_19).trans (congrArg (fun z => upd z (Int32.toNatClampNeg x_18) th_) uF_17)
    refine lv_aload_n hx hb dX5_note_57 rfl (lv_at hl 1 rfl) ?_
    refine lv_dup hx hb dX5_note_58 rfl ?_
    refine zt_getk (t := 5) (C := RX5) (T := TX5) (N := 19) Z h hth zin_5 rfl 4 (hfF_19.f hth 4 ⟨by decide, by decide⟩ (hfF_17.f hth 4 ⟨by decide, by decide⟩ (hfF_15.f hth 4 ⟨by decide, by decide⟩ (hfF_12.f hth 4 ⟨by decide, by decide⟩ ktc_)))) ⟨by decide, rfl, by decide⟩ (zm_RX5 (List.mem_of_getElem? (i := 9) rfl)) (fun _ h9 => h9) dX5_note_59 ?_
    refine lv_iconst (v := 1) hx hb dX5_note_62 (by decide) ?_
    refine lv_iadd hx hb dX5_note_63 ?_
    refine zi_add (lo := 1) (hi := 400) btc__8 (zBc 1 1 (by decide)) (by decide) (fun x_20 bx_20 tx_20 => ?_)
    refine zt_put (t := 5) (C := RX5) (T := TX5) (N := 19) (v := .int x_20) Z h hth zin_5 tyX5 tyX5_ok nmX5 rfl 4 rfl ⟨by decide, rfl⟩ (zm_RX5 (List.mem_of_getElem? (i := 9) rfl)) (fun _ h9 => h9) rfl (zV.i (bx_20.w ⟨by decide, by decide⟩)) rfl rfl dX5_note_64 (fun H locs F_21 h hfF_21 kF_21 => ?_)
    have ad_22 := ad_13.fr hfF_12 hth ⟨by decide, by decide⟩
    have ad_23 := ad_22.fr hfF_15 hth ⟨by decide, by decide⟩
    have ad_24 := ad_23.fr hfF_17 hth ⟨by decide, by decide⟩
    have ad_25 := ad_24.fr hfF_19 hth ⟨by decide, by decide⟩
    have ar_26 : zar F_21 th 8 = (upd (upd (upd (upd (zar F th 8) (Int32.toNatClampNeg x_9) li) (Int32.toNatClampNeg x_14) q) (Int32.toNatClampNeg x_16) ah) (Int32.toNatClampNeg x_18) th_) := ((ad_25.ar hfF_21 hth ⟨by decide, by decide⟩ ⟨by decide, by decide⟩).trans uF_19)
    have hv_27 : zFr Γ [504, 10900] F F_21 := (((((hfF_12.w (by decide)).trans hfF_15 (by decide)).trans hfF_17 (by decide)).trans hfF_19 (by decide)).trans hfF_21 (by decide))
    have vm_28 : zVc F_21 th (v_rec μ (vst μ, vcv μ, vsc μ, vsd μ, vtc μ + 1, vup (vup (vup (vup (vtr μ) (4 * vtc μ) li) (4 * vtc μ + 1) q) (4 * vtc μ + 2) ah) (4 * vtc μ + 3) th_, vmx μ)) := ⟨⟨(p_vm.en.fr hv_27 hth ⟨by decide, by decide⟩), (hv_27.f hth 1 ⟨by decide, by decide⟩ p_vm.vl), (p_vm.go.fr hv_27 hth ⟨by decide, by decide⟩)⟩, ⟨(p_vm.st.fr hv_27 hth ⟨by decide, by decide⟩), (hv_27.f hth 6 ⟨by decide, by decide⟩ p_vm.cv), (p_vm.sc.fr hv_27 hth ⟨by decide, by decide⟩), ((zVa (j := 7) (c := 108) hI0 hth hv_27 ⟨by decide, rfl⟩ ⟨⟨by decide, by decide⟩, by decide, by decide⟩).trans p_vm.sd), (zFi.mk kF_21 (by show _ = ((((vtc μ) + 1 : Nat)) : Int); have := bx_9.1; have := bx_9.2; have := (zB.all li).1; have := (zB.all li).2; have := (zB.all q).1; have := (zB.all q).2; have := (zB.all ah).1; have := (zB.all ah).2; have := (zB.all th_).1; have := (zB.all th_).2; have := bx_20.1; have := bx_20.2; have : (1 : Int32).toInt = 1 := (by decide); have : (2 : Int32).toInt = 2 := (by decide); have : (3 : Int32).toInt = 3 := (by decide); have : (4 : Int32).toInt = 4 := (by decide); have : (400 : Int32).toInt = 400 := (by decide); omega)), (by rw [ar_26, p_vm.tr, show Int32.toNatClampNeg x_9 = 4 * vtc μ by rw [Int32.toNatClampNeg]; have := bx_9.1; have := bx_9.2; have := (zB.all li).1; have := (zB.all li).2; have := (zB.all q).1; have := (zB.all q).2; have := (zB.all ah).1; have := (zB.all ah).2; have := (zB.all th_).1; have := (zB.all th_).2; have := bx_14.1; have := bx_14.2; have := bx_16.1; have := bx_16.2; have := bx_18.1; have := bx_18.2; have := bx_20.1; have := bx_20.2; have : (1 : Int32).toInt = 1 := (by decide); have : (2 : Int32).toInt = 2 := (by decide); have : (3 : Int32).toInt = 3 := (by decide); have : (4 : Int32).toInt = 4 := (by decide); have : (400 : Int32).toInt = 400 := (by decide); omega, show Int32.toNatClampNeg x_14 = 4 * vtc μ + 1 by rw [Int32.toNatClampNeg]; have := bx_9.1; have := bx_9.2; have := (zB.all li).1; have := (zB.all li).2; have := (zB.all q).1; have := (zB.all q).2; have := (zB.all ah).1; have := (zB.all ah).2; have := (zB.all th_).1; have := (zB.all th_).2; have := bx_14.1; have := bx_14.2; have := bx_16.1; have := bx_16.2; have := bx_18.1; have := bx_18.2; have := bx_20.1; have := bx_20.2; have : (1 : Int32).toInt = 1 := (by decide); have : (2 : Int32).toInt = 2 := (by decide); have : (3 : Int32).toInt = 3 := (by decide); have : (4 : Int32).toInt = 4 := (by decide); have : (400 : Int32).toInt = 400 := (by decide); omega, show Int32.toNatClampNeg x_16 = 4 * vtc μ + 2 by rw [Int32.toNatClampNeg]; have := bx_9.1; have := bx_9.2; have := (zB.all li).1; have := (zB.all li).2; have := (zB.all q).1; have := (zB.all q).2; have := (zB.all ah).1; have := (zB.all ah).2; have := (zB.all th_).1; have := (zB.all th_).2; have := bx_14.1; have := bx_14.2; have := bx_16.1; have := bx_16.2; have := bx_18.1; have := bx_18.2; have := bx_20.1; have := bx_20.2; have : (1 : Int32).toInt = 1 := (by decide); have : (2 : Int32).toInt = 2 := (by decide); have : (3 : Int32).toInt = 3 := (by decide); have : (4 : Int32).toInt = 4 := (by decide); have : (400 : Int32).toInt = 400 := (by decide); omega, show Int32.toNatClampNeg x_18 = 4 * vtc μ + 3 by rw [Int32.toNatClampNeg]; have := bx_9.1; have := bx_9.2; have := (zB.all li).1; have := (zB.all li).2; have := (zB.all q).1; have := (zB.all q).2; have := (zB.all ah).1; have := (zB.all ah).2; have := (zB.all th_).1; have := (zB.all th_).2; have := bx_14.1; have := bx_14.2; have := bx_16.1; have := bx_16.2; have := bx_18.1; have := bx_18.2; have := bx_20.1; have := bx_20.2; have : (1 : Int32).toInt = 1 := (by decide); have : (2 : Int32).toInt = 2 := (by decide); have : (3 : Int32).toInt = 3 := (by decide); have : (4 : Int32).toInt = 4 := (by decide); have : (400 : Int32).toInt = 400 := (by decide); omega]; rfl), (p_vm.mx.fr hv_27 hth ⟨by decide, by decide⟩)⟩, ⟨(p_vm.nx.fr hv_27 hth ⟨by decide, by decide⟩), (p_vm.dp.fr hv_27 hth ⟨by decide, by decide⟩), ((zVa (j := 9) (c := 110) hI0 hth hv_27 ⟨by decide, rfl⟩ ⟨⟨by decide, by decide⟩, by decide, by decide⟩).trans p_vm.pl), (fun j hj => zNg_cg (congrFun (zVa (j := 16) (c := 111) hI0 hth hv_27 ⟨by decide, rfl⟩ ⟨⟨by decide, by decide⟩, by decide, by decide⟩) j) (p_vm.bk j hj))⟩, (p_vm.tp.fr hv_27 hth ⟨by decide, by decide⟩), (p_vm.sk.trans (congrArg (fun z => zvls z _) (zVa (j := 17) (c := 112) hI0 hth hv_27 ⟨by decide, rfl⟩ ⟨⟨by decide, by decide⟩, by decide, by decide⟩).symm)), p_vm.lh⟩
    have hI_29 := h.2.1
    subst hQ
    exact W.vret hx hb hr (fun t ht hW => ⟨⟨F_21, rfl, ⟨(by rw [zv_noted (by have := bx_9.1; have := bx_9.2; have := (zB.all li).1; have := (zB.all li).2; have := (zB.all q).1; have := (zB.all q).2; have := (zB.all ah).1; have := (zB.all ah).2; have := (zB.all th_).1; have := (zB.all th_).2; have := bx_20.1; have := bx_20.2; have : (1 : Int32).toInt = 1 := (by decide); have : (2 : Int32).toInt = 2 := (by decide); have : (3 : Int32).toInt = 3 := (by decide); have : (4 : Int32).toInt = 4 := (by decide); have : (400 : Int32).toInt = 400 := (by decide); omega)]; exact vm_28), trivial⟩, by rw [ht]; exact h.1, h.2.1, (((((hfF_12.w (by decide)).trans hfF_15 (by decide)).trans hfF_17 (by decide)).trans hfF_19 (by decide)).trans hfF_21 (by decide))⟩, h.2.2.F ht⟩) h.2.2.2.2 dX5_note_67

set_option maxHeartbeats 4000000 in
set_option maxRecDepth 100000 in
theorem zm_X5_stop (l : Launch) (D : va_G) (k : Nat → ClassId) (Γ : Nat → Option Nat) (L : List Nat) (F : Nat → va_E) (sz : Nat) (th : Nat) (how : Int32) (μ : zVm) (hth : Γ th = some 5) (p_vm : zVc F th μ) : Met l yX5_stop zwX5_stop ({ frames := 0, cells := 0, slots := 0, locals := 0 }) (va_Pc [.ref th, .int how] (zP D k Γ L F sz)) (va_Qv (fun (u : Nat → va_E) => zVc u th (v_stop μ how.toInt) ∧ True) (zQ D k Γ L F [500, 513]) (zA L sz)) 0 0 (zA L sz) := by
  refine Met.ofW (cc := cX5_stop) (maxL := 2) (ret := none) (by decide) rfl ?_
  intro p e s m args below meth c s₁ B hml hv
  obtain ⟨rfl, hsz, hP, hK, hLn, hE, hI⟩ := hv
  have hx := B.exec
  have hb := B.bytes
  have hr := B.returns
  have hg : ∀ w ∈ zG, w.before _ s = true := fun w h9 => atoms_spec (ws := zwX5_stop) B.pre w (List.mem_cons_of_mem _ h9)
  have hown : s.vm.findClass RX5 = some m.cls := findClass_of_methodNamed B.named
  have hlocks := B.notSynchronized
  subst hsz
  have Z : zC p m c cX5_stop 2 s _ zG RX5 D k L := ⟨⟨hx, hb, hml, hown, hg⟩, hK, hLn, hE⟩
  have h : zH D k Γ L s F s.heap [] := ⟨hP, hI, va_S.rf⟩
  have hl := lv_entry ([.ref th, .int how]) (n := 2) (Nat.le_of_ble_eq_true rfl)
  rw [lg_entry_eq]
  generalize (lg_sl ([.ref th, .int how]) ++ List.replicate (2 - (lg_sl ([.ref th, .int how])).length) Slot.unset).toArray = ls at hl ⊢
  have hl : lv_has ls 2 [(0, .ref th), (1, .int how)] := hl
  clear hP hK hLn hE hI
  generalize hargs : ([.ref th, .int how] : List Value).toArray = args at *
  refine z_start (fun R Q hRf hRl hQ => ?_)
  have hRf : R.frames = 0 := hRf
  have hRl : R.locals = 0 := hRl
  have h9 := h
  have hI0 := h.2.1
  refine lv_aload_n hx hb dX5_stop_0 rfl (lv_at hl 0 rfl) ?_
  refine lv_iload_n hx hb dX5_stop_1 rfl (lv_at hl 1 rfl) ?_
  refine zt_put (t := 5) (C := RX5) (T := TX5) (N := 19) (v := .int how) Z h hth zin_5 tyX5 tyX5_ok nmX5 rfl 0 rfl ⟨by decide, rfl⟩ (zm_RX5 (List.mem_of_getElem? (i := 5) rfl)) (fun _ h9 => h9) rfl (zV.i (zB.all how)) rfl rfl dX5_stop_2 (fun H locs F_1 h hfF_1 kF_1 => ?_)
  refine lv_aload_n hx hb dX5_stop_5 rfl (lv_at hl 0 rfl) ?_
  refine lv_iconst (v := 0) hx hb dX5_stop_6 (by decide) ?_
  refine zt_put (t := 5) (C := RX5) (T := TX5) (N := 19) (v := .int 0) Z h hth zin_5 tyX5 tyX5_ok nmX5 rfl 13 rfl ⟨by decide, rfl⟩ (zm_RX5 (List.mem_of_getElem? (i := 14) rfl)) (fun _ h9 => h9) rfl (zV.i (zB.of ⟨by decide, by decide⟩)) rfl rfl dX5_stop_7 (fun H locs F_2 h hfF_2 kF_2 => ?_)
  have hv_3 : zFr Γ [500, 513] F F_2 := ((hfF_1.w (by decide)).trans hfF_2 (by decide))
  have vm_4 : zVc F_2 th (v_stop μ how.toInt) := ⟨⟨(zFi.mk (hfF_2.f hth 0 ⟨by decide, by decide⟩ kF_1) rfl), (hv_3.f hth 1 ⟨by decide, by decide⟩ p_vm.vl), (zFi.mk kF_2 (show (0 : Int32).toInt = (0 : Int) by decide))⟩, ⟨(p_vm.st.fr hv_3 hth ⟨by decide, by decide⟩), (hv_3.f hth 6 ⟨by decide, by decide⟩ p_vm.cv), (p_vm.sc.fr hv_3 hth ⟨by decide, by decide⟩), ((zVa (j := 7) (c := 108) hI0 hth hv_3 ⟨by decide, rfl⟩ ⟨⟨by decide, by decide⟩, by decide, by decide⟩).trans p_vm.sd), (p_vm.tc.fr hv_3 hth ⟨by decide, by decide⟩), ((zVa (j := 8) (c := 109) hI0 hth hv_3 ⟨by decide, rfl⟩ ⟨⟨by decide, by decide⟩, by decide, by decide⟩).trans p_vm.tr), (p_vm.mx.fr hv_3 hth ⟨by decide, by decide⟩)⟩, ⟨(p_vm.nx.fr hv_3 hth ⟨by decide, by decide⟩), (p_vm.dp.fr hv_3 hth ⟨by decide, by decide⟩), ((zVa (j := 9) (c := 110) hI0 hth hv_3 ⟨by decide, rfl⟩ ⟨⟨by decide, by decide⟩, by decide, by decide⟩).trans p_vm.pl), (fun j hj => zNg_cg (congrFun (zVa (j := 16) (c := 111) hI0 hth hv_3 ⟨by decide, rfl⟩ ⟨⟨by decide, by decide⟩, by decide, by decide⟩) j) (p_vm.bk j hj))⟩, (p_vm.tp.fr hv_3 hth ⟨by decide, by decide⟩), (p_vm.sk.trans (congrArg (fun z => zvls z _) (zVa (j := 17) (c := 112) hI0 hth hv_3 ⟨by decide, rfl⟩ ⟨⟨by decide, by decide⟩, by decide, by decide⟩).symm)), p_vm.lh⟩
  have hI_5 := h.2.1
  subst hQ
  exact W.vret hx hb hr (fun t ht hW => ⟨⟨F_2, rfl, ⟨vm_4, trivial⟩, by rw [ht]; exact h.1, h.2.1, ((hfF_1.w (by decide)).trans hfF_2 (by decide))⟩, h.2.2.F ht⟩) h.2.2.2.2 dX5_stop_10

set_option maxHeartbeats 4000000 in
set_option maxRecDepth 100000 in
theorem zm_X5_spendStep (l : Launch) (D : va_G) (k : Nat → ClassId) (Γ : Nat → Option Nat) (L : List Nat) (F : Nat → va_E) (sz : Nat) (th : Nat) (μ : zVm) (fl : Int32) (hth : Γ th = some 5) (p_vm : zVc F th μ) (kfl : zfld F th 12 = .int fl) (bfl : zB (-2147483648) 2147483647 fl) : Met l yX5_spendStep zwX5_spendStep ({ frames := 1, cells := 0, slots := 0, locals := 21 }) (va_Pc [.ref th] (zP D k Γ L F sz)) (va_Qi (fun (r : Int32) (u : Nat → va_E) => zB 0 1 r ∧ zVc u th (v_spend fl.toInt μ) ∧ ((r.toInt = 1 ∧ vst μ < fl.toInt) ∨ (r.toInt = 0 ∧ fl.toInt ≤ vst μ)) ∧ True) (zQ D k Γ L F [500, 502, 513]) (zA L sz)) 0 0 (zA L sz) := by
  refine Met.ofW (cc := cX5_spendStep) (maxL := 1) (ret := (some .boolean)) (by decide) rfl ?_
  intro p e s m args below meth c s₁ B hml hv
  obtain ⟨rfl, hsz, hP, hK, hLn, hE, hI⟩ := hv
  have hx := B.exec
  have hb := B.bytes
  have hr := B.returns
  have hg : ∀ w ∈ zG, w.before _ s = true := fun w h9 => atoms_spec (ws := zwX5_spendStep) B.pre w (List.mem_cons_of_mem _ h9)
  have hown : s.vm.findClass RX5 = some m.cls := findClass_of_methodNamed B.named
  have hlocks := B.notSynchronized
  subst hsz
  have Z : zC p m c cX5_spendStep 1 s _ zG RX5 D k L := ⟨⟨hx, hb, hml, hown, hg⟩, hK, hLn, hE⟩
  have h : zH D k Γ L s F s.heap [] := ⟨hP, hI, va_S.rf⟩
  have hl := lv_entry ([.ref th]) (n := 1) (Nat.le_of_ble_eq_true rfl)
  rw [lg_entry_eq]
  generalize (lg_sl ([.ref th]) ++ List.replicate (1 - (lg_sl ([.ref th])).length) Slot.unset).toArray = ls at hl ⊢
  have hl : lv_has ls 1 [(0, .ref th)] := hl
  clear hP hK hLn hE hI
  generalize hargs : ([.ref th] : List Value).toArray = args at *
  refine z_start (fun R Q hRf hRl hQ => ?_)
  have hRf : R.frames = 1 := hRf
  have hRl : R.locals = 21 := hRl
  have h9 := h
  have hI0 := h.2.1
  obtain ⟨st_, kst_, tst_⟩ := p_vm.st
  have bst_ : zB (-2147483648) 2147483647 st_ := zB.all _
  refine lv_aload_n hx hb dX5_spendStep_0 rfl (lv_at hl 0 rfl) ?_
  refine zt_getk (t := 5) (C := RX5) (T := TX5) (N := 19) Z h hth zin_5 rfl 2 kst_ ⟨by decide, rfl, by decide⟩ (zm_RX5 (List.mem_of_getElem? (i := 7) rfl)) (fun _ h9 => h9) dX5_spendStep_1 ?_
  refine lv_aload_n hx hb dX5_spendStep_4 rfl (lv_at hl 0 rfl) ?_
  refine zt_getk (t := 5) (C := RX5) (T := TX5) (N := 19) Z h hth zin_5 rfl 12 kfl ⟨by decide, rfl, by decide⟩ (zm_RX5 (List.mem_of_getElem? (i := 3) rfl)) (fun _ h9 => h9) dX5_spendStep_5 ?_
  refine lv_icmp_lt (tgt := 18) hx hb dX5_spendStep_8 (by decide) (fun c_1 => ?_) (fun c_1 => ?_)
  · have c_1 := z_lt c_1
    have bst__2 : zB (-2147483648) 2147483646 st_ := zB.ltL c_1 bst_ bfl (by decide)
    have bfl_3 : zB (-2147483647) 2147483647 fl := zB.ltR c_1 bst_ bfl (by decide)
    refine lv_aload_n hx hb dX5_spendStep_18 rfl (lv_at hl 0 rfl) ?_
    refine lv_dup hx hb dX5_spendStep_19 rfl ?_
    refine zt_getk (t := 5) (C := RX5) (T := TX5) (N := 19) Z h hth zin_5 rfl 2 kst_ ⟨by decide, rfl, by decide⟩ (zm_RX5 (List.mem_of_getElem? (i := 7) rfl)) (fun _ h9 => h9) dX5_spendStep_20 ?_
    refine lv_iconst (v := 1) hx hb dX5_spendStep_23 (by decide) ?_
    refine lv_iadd hx hb dX5_spendStep_24 ?_
    refine zi_add (lo := (-2147483647)) (hi := 2147483647) bst__2 (zBc 1 1 (by decide)) (by decide) (fun x_4 bx_4 tx_4 => ?_)
    refine zt_put (t := 5) (C := RX5) (T := TX5) (N := 19) (v := .int x_4) Z h hth zin_5 tyX5 tyX5_ok nmX5 rfl 2 rfl ⟨by decide, rfl⟩ (zm_RX5 (List.mem_of_getElem? (i := 7) rfl)) (fun _ h9 => h9) rfl (zV.i (bx_4.w ⟨by decide, by decide⟩)) rfl rfl dX5_spendStep_25 (fun H locs F_5 h hfF_5 kF_5 => ?_)
    refine lv_iconst (v := 1) hx hb dX5_spendStep_28 (by decide) ?_
    have hv_6 : zFr Γ [502] F F_5 := hfF_5
    have vm_7 : zVc F_5 th (v_rec μ (vst μ + 1, μ.2.1.2)) := ⟨⟨(p_vm.en.fr hv_6 hth ⟨by decide, by decide⟩), (hv_6.f hth 1 ⟨by decide, by decide⟩ p_vm.vl), (p_vm.go.fr hv_6 hth ⟨by decide, by decide⟩)⟩, ⟨(zFi.mk kF_5 (by show _ = vst μ + 1; have := bfl_3.1; have := bfl_3.2; have := bx_4.1; have := bx_4.2; have : (1 : Int32).toInt = 1 := (by decide); omega)), (hv_6.f hth 6 ⟨by decide, by decide⟩ p_vm.cv), (p_vm.sc.fr hv_6 hth ⟨by decide, by decide⟩), ((zVa (j := 7) (c := 108) hI0 hth hv_6 ⟨by decide, rfl⟩ ⟨⟨by decide, by decide⟩, by decide, by decide⟩).trans p_vm.sd), (p_vm.tc.fr hv_6 hth ⟨by decide, by decide⟩), ((zVa (j := 8) (c := 109) hI0 hth hv_6 ⟨by decide, rfl⟩ ⟨⟨by decide, by decide⟩, by decide, by decide⟩).trans p_vm.tr), (p_vm.mx.fr hv_6 hth ⟨by decide, by decide⟩)⟩, ⟨(p_vm.nx.fr hv_6 hth ⟨by decide, by decide⟩), (p_vm.dp.fr hv_6 hth ⟨by decide, by decide⟩), ((zVa (j := 9) (c := 110) hI0 hth hv_6 ⟨by decide, rfl⟩ ⟨⟨by decide, by decide⟩, by decide, by decide⟩).trans p_vm.pl), (fun j hj => zNg_cg (congrFun (zVa (j := 16) (c := 111) hI0 hth hv_6 ⟨by decide, rfl⟩ ⟨⟨by decide, by decide⟩, by decide, by decide⟩) j) (p_vm.bk j hj))⟩, (p_vm.tp.fr hv_6 hth ⟨by decide, by decide⟩), (p_vm.sk.trans (congrArg (fun z => zvls z _) (zVa (j := 17) (c := 112) hI0 hth hv_6 ⟨by decide, rfl⟩ ⟨⟨by decide, by decide⟩, by decide, by decide⟩).symm)), p_vm.lh⟩
    have hI_8 := h.2.1
    subst hQ
    exact W.zret (v := 1) hx hb hr (by decide) (fun t ht hW => ⟨⟨1, F_5, rfl, ⟨(zB.of ⟨by decide, by decide⟩), (by rw [zv_spent (by have := bfl_3.1; have := bfl_3.2; have := bx_4.1; have := bx_4.2; have : (1 : Int32).toInt = 1 := (by decide); omega)]; exact vm_7), (Or.inl ⟨by decide, (by have := bfl_3.1; have := bfl_3.2; have := bx_4.1; have := bx_4.2; have : (1 : Int32).toInt = 1 := (by decide); omega)⟩), trivial⟩, by rw [ht]; exact h.1, h.2.1, (hfF_5.w (by decide))⟩, h.2.2.F ht⟩) h.2.2.2.2 dX5_spendStep_29
  · have c_1 := z_nlt c_1
    refine lv_aload_n hx hb dX5_spendStep_11 rfl (lv_at hl 0 rfl) ?_
    refine lv_iconst (v := 1) hx hb dX5_spendStep_12 (by decide) ?_
    refine zk_Vv (As := [.int 1]) (rest := []) (bytes := cX5_stop) (maxL := 2) (ret := none) Z h (zm_X5_stop l D k Γ L F s.heap.size th 1 (μ) hth p_vm) (cwV 1 hg zv_RX5_168 rfl rfl rfl zd_X5_stop ⟨z_leR hRf (by decide), z_leR hRl (by decide)⟩) hth (by decide) rfl rfl hl.1 rfl (Nat.le_of_ble_eq_true rfl) dX5_spendStep_13 ⟨Nat.zero_le _, Nat.zero_le _⟩ (fun F_9 H locs w_10 h hfF_9 => ?_)
    obtain ⟨q_11, -⟩ := w_10
    have hI_12 := h.2.1
    refine lv_iconst (v := 0) hx hb dX5_spendStep_16 (by decide) ?_
    subst hQ
    exact W.zret (v := 0) hx hb hr (by decide) (fun t ht hW => ⟨⟨0, F_9, rfl, ⟨(zB.of ⟨by decide, by decide⟩), (by rw [zv_unspent (by have := bfl.1; have := bfl.2; have := bst_.1; have := bst_.2; have : (0 : Int32).toInt = 0 := (by decide); omega)]; exact q_11), (Or.inr ⟨by decide, (by have := bfl.1; have := bfl.2; have := bst_.1; have := bst_.2; have : (0 : Int32).toInt = 0 := (by decide); omega)⟩), trivial⟩, by rw [ht]; exact h.1, h.2.1, (hfF_9.w (by decide))⟩, h.2.2.F ht⟩) h.2.2.2.2 dX5_spendStep_17

set_option maxHeartbeats 4000000 in
set_option maxRecDepth 100000 in
theorem zm_X5_begin (l : Launch) (D : va_G) (k : Nat → ClassId) (Γ : Nat → Option Nat) (L : List Nat) (F : Nat → va_E) (sz : Nat) (th : Nat) (li : Int32) (μ : zVm) (fl : Int32) (hth : Γ th = some 5) (p_vm : zVc F th μ) (kfl : zfld F th 12 = .int fl) (bfl : zB (-2147483648) 2147483647 fl) (hr0 : vgo μ = true) (hr1 : 0 ≤ li.toInt) : Met l yX5_begin zwX5_begin ({ frames := 2, cells := 0, slots := 0, locals := 41 }) (va_Pc [.ref th, .int li] (zP D k Γ L F sz)) (va_Qv (fun (u : Nat → va_E) => zVc u th (v_begin fl.toInt li.toInt.toNat μ) ∧ True) (zQ D k Γ L F [500, 502, 506, 513]) (zA L sz)) 0 0 (zA L sz) := by
  refine Met.ofW (cc := cX5_begin) (maxL := 2) (ret := none) (by decide) rfl ?_
  intro p e s m args below meth c s₁ B hml hv
  obtain ⟨rfl, hsz, hP, hK, hLn, hE, hI⟩ := hv
  have hx := B.exec
  have hb := B.bytes
  have hr := B.returns
  have hg : ∀ w ∈ zG, w.before _ s = true := fun w h9 => atoms_spec (ws := zwX5_begin) B.pre w (List.mem_cons_of_mem _ h9)
  have hown : s.vm.findClass RX5 = some m.cls := findClass_of_methodNamed B.named
  have hlocks := B.notSynchronized
  subst hsz
  have Z : zC p m c cX5_begin 2 s _ zG RX5 D k L := ⟨⟨hx, hb, hml, hown, hg⟩, hK, hLn, hE⟩
  have h : zH D k Γ L s F s.heap [] := ⟨hP, hI, va_S.rf⟩
  have hl := lv_entry ([.ref th, .int li]) (n := 2) (Nat.le_of_ble_eq_true rfl)
  rw [lg_entry_eq]
  generalize (lg_sl ([.ref th, .int li]) ++ List.replicate (2 - (lg_sl ([.ref th, .int li])).length) Slot.unset).toArray = ls at hl ⊢
  have hl : lv_has ls 2 [(0, .ref th), (1, .int li)] := hl
  clear hP hK hLn hE hI
  generalize hargs : ([.ref th, .int li] : List Value).toArray = args at *
  refine z_start (fun R Q hRf hRl hQ => ?_)
  have hRf : R.frames = 2 := hRf
  have hRl : R.locals = 41 := hRl
  have h9 := h
  have hI0 := h.2.1
  refine lv_aload_n hx hb dX5_begin_0 rfl (lv_at hl 0 rfl) ?_
  refine zk_Vi (As := []) (rest := []) (bytes := cX5_spendStep) (maxL := 1) (ret := (some .boolean)) Z h (zm_X5_spendStep l D k Γ L F s.heap.size th (μ) fl hth p_vm kfl bfl) (cwV 0 hg zv_RX5_164 rfl rfl rfl zd_X5_spendStep ⟨z_leR hRf (by decide), z_leR hRl (by decide)⟩) hth (by decide) rfl rfl hl.1 rfl (Nat.le_of_ble_eq_true rfl) dX5_begin_1 ⟨Nat.zero_le _, Nat.zero_le _⟩ (fun r_1 F_2 H locs w_3 h hfF_2 => ?_)
  obtain ⟨br_1, q_4, q_5, -⟩ := w_3
  have hI_6 := h.2.1
  refine lv_if_eq (tgt := 19) hx hb dX5_begin_4 (by decide) (fun c_7 => ?_) (fun c_7 => ?_)
  · have c_7 := z_eq c_7
    have br_1_8 : zB 0 0 r_1 := zB.eqL (a := 0) (b := 0) c_7 (zBc 0 0 (by decide))
    subst hQ
    exact W.vret hx hb hr (fun t ht hW => ⟨⟨F_2, rfl, ⟨(by rw [zv_unbegun (by rcases q_5 with h7 | h7; have := (zB.all li).1; have := (zB.all li).2; have := bfl.1; have := bfl.2; have : (0 : Int32).toInt = 0 := (by decide); omega; exact h7.2), ← zv_unspent (fuel := fl.toInt) (m := μ) (by rcases q_5 with h7 | h7; have := (zB.all li).1; have := (zB.all li).2; have := bfl.1; have := bfl.2; have : (0 : Int32).toInt = 0 := (by decide); omega; exact h7.2)]; exact q_4), trivial⟩, by rw [ht]; exact h.1, h.2.1, (hfF_2.w (by decide))⟩, h.2.2.F ht⟩) h.2.2.2.2 dX5_begin_19
  · have c_7 := z_ne c_7
    have br_1_9 : zB 1 1 r_1 := zB.neLo c_7 br_1 (zBc 0 0 (by decide)) (by decide)
    refine lv_aload_n hx hb dX5_begin_7 rfl (lv_at hl 0 rfl) ?_
    refine lv_dup hx hb dX5_begin_8 rfl ?_
    refine zt_getl (t := 5) (C := RX5) (T := TX5) (N := 19) Z h hth zin_5 rfl 6 rfl ⟨by decide, rfl⟩ (zm_RX5 (List.mem_of_getElem? (i := 11) rfl)) (fun _ h9 => h9) dX5_begin_9 (fun g_10 kg_10 => ?_)
    refine lv_lconst (v := 1) hx hb dX5_begin_12 (by decide) ?_
    refine lv_iload_n hx hb dX5_begin_13 rfl (lv_at hl 1 rfl) ?_
    refine lv_lshl hx hb dX5_begin_14 rfl ?_
    refine lv_topl (fun g_11 eg_11 => ?_)
    refine lv_lor hx hb dX5_begin_15 ?_
    refine lv_topl (fun g_12 eg_12 => ?_)
    refine zt_put (t := 5) (C := RX5) (T := TX5) (N := 19) (v := .long g_12) Z h hth zin_5 tyX5 tyX5_ok nmX5 rfl 6 rfl ⟨by decide, rfl⟩ (zm_RX5 (List.mem_of_getElem? (i := 11) rfl)) (fun _ h9 => h9) rfl zV.l rfl rfl dX5_begin_16 (fun H locs F_13 h hfF_13 kF_13 => ?_)
    have hs_14 : vst μ < fl.toInt := (by rcases q_5 with h7 | h7; exact h7.2; have := (zB.all li).1; have := (zB.all li).2; have := bfl.1; have := bfl.2; have : (0 : Int32).toInt = 0 := (by decide); omega)
    have vm_15 : zVc F_2 th (v_rec μ (vst μ + 1, μ.2.1.2)) := by rw [← zv_spent hs_14]; exact q_4
    have hv_16 : zFr Γ [506] F_2 F_13 := hfF_13
    have vm_17 : zVc F_13 th (v_rec μ (vst μ + 1, vcv μ ||| v_bit li.toInt.toNat, μ.2.1.2.2)) := ⟨⟨(vm_15.en.fr hv_16 hth ⟨by decide, by decide⟩), (hv_16.f hth 1 ⟨by decide, by decide⟩ vm_15.vl), (vm_15.go.fr hv_16 hth ⟨by decide, by decide⟩)⟩, ⟨(vm_15.st.fr hv_16 hth ⟨by decide, by decide⟩), (kF_13.trans (congrArg Value.long (by rw [eg_12, eg_11, show g_10 = vcv μ from z_vl kg_10 vm_15.cv]; show _ = vcv μ ||| v_bit li.toInt.toNat; unfold v_bit; rw [zv_ofNat hr1]))), (vm_15.sc.fr hv_16 hth ⟨by decide, by decide⟩), ((zVa (j := 7) (c := 108) hI_6 hth hv_16 ⟨by decide, rfl⟩ ⟨⟨by decide, by decide⟩, by decide, by decide⟩).trans vm_15.sd), (vm_15.tc.fr hv_16 hth ⟨by decide, by decide⟩), ((zVa (j := 8) (c := 109) hI_6 hth hv_16 ⟨by decide, rfl⟩ ⟨⟨by decide, by decide⟩, by decide, by decide⟩).trans vm_15.tr), (vm_15.mx.fr hv_16 hth ⟨by decide, by decide⟩)⟩, ⟨(vm_15.nx.fr hv_16 hth ⟨by decide, by decide⟩), (vm_15.dp.fr hv_16 hth ⟨by decide, by decide⟩), ((zVa (j := 9) (c := 110) hI_6 hth hv_16 ⟨by decide, rfl⟩ ⟨⟨by decide, by decide⟩, by decide, by decide⟩).trans vm_15.pl), (fun j hj => zNg_cg (congrFun (zVa (j := 16) (c := 111) hI_6 hth hv_16 ⟨by decide, rfl⟩ ⟨⟨by decide, by decide⟩, by decide, by decide⟩) j) (vm_15.bk j hj))⟩, (vm_15.tp.fr hv_16 hth ⟨by decide, by decide⟩), (vm_15.sk.trans (congrArg (fun z => zvls z _) (zVa (j := 17) (c := 112) hI_6 hth hv_16 ⟨by decide, rfl⟩ ⟨⟨by decide, by decide⟩, by decide, by decide⟩).symm)), vm_15.lh⟩
    have hI_18 := h.2.1
    subst hQ
    exact W.vret hx hb hr (fun t ht hW => ⟨⟨F_13, rfl, ⟨(by rw [zv_begun hr0 hs_14]; exact vm_17), trivial⟩, by rw [ht]; exact h.1, h.2.1, ((hfF_2.w (by decide)).trans hfF_13 (by decide))⟩, h.2.2.F ht⟩) h.2.2.2.2 dX5_begin_19

set_option maxHeartbeats 4000000 in
set_option maxRecDepth 100000 in
theorem zm_X5_again (l : Launch) (D : va_G) (k : Nat → ClassId) (Γ : Nat → Option Nat) (L : List Nat) (F : Nat → va_E) (sz : Nat) (th : Nat) (te : Int32) (μ : zVm) (fl : Int32) (ru : Int32) (hth : Γ th = some 5) (p_vm : zVc F th μ) (kfl : zfld F th 12 = .int fl) (bfl : zB (-2147483648) 2147483647 fl) (kru : zfld F th 11 = .int ru) (bru : zB (-2147483648) 2147483647 ru) (hr0 : vgo μ = true) (hr1 : 0 ≤ te.toInt) : Met l yX5_again zwX5_again ({ frames := 2, cells := 0, slots := 0, locals := 41 }) (va_Pc [.ref th, .int te] (zP D k Γ L F sz)) (va_Qv (fun (u : Nat → va_E) => zVc u th (v_again ru.toInt fl.toInt te.toInt.toNat μ) ∧ True) (zQ D k Γ L F [500, 502, 513, 514]) (zA L sz)) 0 0 (zA L sz) := by
  refine Met.ofW (cc := cX5_again) (maxL := 2) (ret := none) (by decide) rfl ?_
  intro p e s m args below meth c s₁ B hml hv
  obtain ⟨rfl, hsz, hP, hK, hLn, hE, hI⟩ := hv
  have hx := B.exec
  have hb := B.bytes
  have hr := B.returns
  have hg : ∀ w ∈ zG, w.before _ s = true := fun w h9 => atoms_spec (ws := zwX5_again) B.pre w (List.mem_cons_of_mem _ h9)
  have hown : s.vm.findClass RX5 = some m.cls := findClass_of_methodNamed B.named
  have hlocks := B.notSynchronized
  subst hsz
  have Z : zC p m c cX5_again 2 s _ zG RX5 D k L := ⟨⟨hx, hb, hml, hown, hg⟩, hK, hLn, hE⟩
  have h : zH D k Γ L s F s.heap [] := ⟨hP, hI, va_S.rf⟩
  have hl := lv_entry ([.ref th, .int te]) (n := 2) (Nat.le_of_ble_eq_true rfl)
  rw [lg_entry_eq]
  generalize (lg_sl ([.ref th, .int te]) ++ List.replicate (2 - (lg_sl ([.ref th, .int te])).length) Slot.unset).toArray = ls at hl ⊢
  have hl : lv_has ls 2 [(0, .ref th), (1, .int te)] := hl
  clear hP hK hLn hE hI
  generalize hargs : ([.ref th, .int te] : List Value).toArray = args at *
  refine z_start (fun R Q hRf hRl hQ => ?_)
  have hRf : R.frames = 2 := hRf
  have hRl : R.locals = 41 := hRl
  have h9 := h
  have hI0 := h.2.1
  refine lv_aload_n hx hb dX5_again_0 rfl (lv_at hl 0 rfl) ?_
  refine zt_getk (t := 5) (C := RX5) (T := TX5) (N := 19) Z h hth zin_5 rfl 11 kru ⟨by decide, rfl, by decide⟩ (zm_RX5 (List.mem_of_getElem? (i := 4) rfl)) (fun _ h9 => h9) dX5_again_1 ?_
  refine lv_iconst (v := 2) hx hb dX5_again_4 (by decide) ?_
  refine lv_icmp_eq (tgt := 20) hx hb dX5_again_5 (by decide) (fun c_1 => ?_) (fun c_1 => ?_)
  · have c_1 := z_eq c_1
    have bru_2 : zB 2 2 ru := zB.eqL (a := 0) (b := 0) c_1 (zBc 2 2 (by decide))
    subst hQ
    exact W.vret hx hb hr (fun t ht hW => ⟨⟨F, rfl, ⟨(by rw [zv_again2 (by have := (zB.all te).1; have := (zB.all te).2; have := bfl.1; have := bfl.2; have := bru_2.1; have := bru_2.2; have : (2 : Int32).toInt = 2 := (by decide); omega)]; exact p_vm), trivial⟩, by rw [ht]; exact h.1, h.2.1, zFr.rf⟩, h.2.2.F ht⟩) h.2.2.2.2 dX5_again_20
  · have c_1 := z_ne c_1
    refine lv_aload_n hx hb dX5_again_8 rfl (lv_at hl 0 rfl) ?_
    refine zk_Vi (As := []) (rest := []) (bytes := cX5_spendStep) (maxL := 1) (ret := (some .boolean)) Z h (zm_X5_spendStep l D k Γ L F s.heap.size th (μ) fl hth p_vm kfl bfl) (cwV 0 hg zv_RX5_164 rfl rfl rfl zd_X5_spendStep ⟨z_leR hRf (by decide), z_leR hRl (by decide)⟩) hth (by decide) rfl rfl hl.1 rfl (Nat.le_of_ble_eq_true rfl) dX5_again_9 ⟨Nat.zero_le _, Nat.zero_le _⟩ (fun r_3 F_4 H locs w_5 h hfF_4 => ?_)
    obtain ⟨br_3, q_6, q_7, -⟩ := w_5
    have hI_8 := h.2.1
    refine lv_if_eq (tgt := 20) hx hb dX5_again_12 (by decide) (fun c_9 => ?_) (fun c_9 => ?_)
    · have c_9 := z_eq c_9
      have br_3_10 : zB 0 0 r_3 := zB.eqL (a := 0) (b := 0) c_9 (zBc 0 0 (by decide))
      subst hQ
      exact W.vret hx hb hr (fun t ht hW => ⟨⟨F_4, rfl, ⟨(by rw [zv_again0 (by have := (zB.all te).1; have := (zB.all te).2; have := bfl.1; have := bfl.2; have := bru.1; have := bru.2; have : (0 : Int32).toInt = 0 := (by decide); have : (2 : Int32).toInt = 2 := (by decide); omega) (by rcases q_7 with h7 | h7; have := (zB.all te).1; have := (zB.all te).2; have := bfl.1; have := bfl.2; have := bru.1; have := bru.2; have : (0 : Int32).toInt = 0 := (by decide); have : (2 : Int32).toInt = 2 := (by decide); omega; exact h7.2)]; exact q_6), trivial⟩, by rw [ht]; exact h.1, h.2.1, (hfF_4.w (by decide))⟩, h.2.2.F ht⟩) h.2.2.2.2 dX5_again_20
    · have c_9 := z_ne c_9
      have br_3_11 : zB 1 1 r_3 := zB.neLo c_9 br_3 (zBc 0 0 (by decide)) (by decide)
      refine lv_aload_n hx hb dX5_again_15 rfl (lv_at hl 0 rfl) ?_
      refine lv_iload_n hx hb dX5_again_16 rfl (lv_at hl 1 rfl) ?_
      refine zt_put (t := 5) (C := RX5) (T := TX5) (N := 19) (v := .int te) Z h hth zin_5 tyX5 tyX5_ok nmX5 rfl 14 rfl ⟨by decide, rfl⟩ (zm_RX5 (List.mem_of_getElem? (i := 31) rfl)) (fun _ h9 => h9) rfl (zV.i (zB.all te)) rfl rfl dX5_again_17 (fun H locs F_12 h hfF_12 kF_12 => ?_)
      have hv_13 : zFr Γ [514] F_4 F_12 := hfF_12
      have vm_14 : zVc F_12 th (v_go (v_spend fl.toInt μ) te.toInt.toNat) := ⟨⟨(q_6.en.fr hv_13 hth ⟨by decide, by decide⟩), (hv_13.f hth 1 ⟨by decide, by decide⟩ q_6.vl), (q_6.go.fr hv_13 hth ⟨by decide, by decide⟩)⟩, ⟨(q_6.st.fr hv_13 hth ⟨by decide, by decide⟩), (hv_13.f hth 6 ⟨by decide, by decide⟩ q_6.cv), (q_6.sc.fr hv_13 hth ⟨by decide, by decide⟩), ((zVa (j := 7) (c := 108) hI_8 hth hv_13 ⟨by decide, rfl⟩ ⟨⟨by decide, by decide⟩, by decide, by decide⟩).trans q_6.sd), (q_6.tc.fr hv_13 hth ⟨by decide, by decide⟩), ((zVa (j := 8) (c := 109) hI_8 hth hv_13 ⟨by decide, rfl⟩ ⟨⟨by decide, by decide⟩, by decide, by decide⟩).trans q_6.tr), (q_6.mx.fr hv_13 hth ⟨by decide, by decide⟩)⟩, ⟨(zFnx.mk kF_12 (by show _ = ((te.toInt.toNat : Nat) : Int); have := (zB.all te).1; have := (zB.all te).2; have := bfl.1; have := bfl.2; have := bru.1; have := bru.2; have : (0 : Int32).toInt = 0 := (by decide); have : (2 : Int32).toInt = 2 := (by decide); omega)), (q_6.dp.fr hv_13 hth ⟨by decide, by decide⟩), ((zVa (j := 9) (c := 110) hI_8 hth hv_13 ⟨by decide, rfl⟩ ⟨⟨by decide, by decide⟩, by decide, by decide⟩).trans q_6.pl), (fun j hj => zNg_cg (congrFun (zVa (j := 16) (c := 111) hI_8 hth hv_13 ⟨by decide, rfl⟩ ⟨⟨by decide, by decide⟩, by decide, by decide⟩) j) (q_6.bk j hj))⟩, (q_6.tp.fr hv_13 hth ⟨by decide, by decide⟩), (q_6.sk.trans (congrArg (fun z => zvls z _) (zVa (j := 17) (c := 112) hI_8 hth hv_13 ⟨by decide, rfl⟩ ⟨⟨by decide, by decide⟩, by decide, by decide⟩).symm)), q_6.lh⟩
      have hI_15 := h.2.1
      subst hQ
      exact W.vret hx hb hr (fun t ht hW => ⟨⟨F_12, rfl, ⟨(by rw [zv_again1 (by have := (zB.all te).1; have := (zB.all te).2; have := bfl.1; have := bfl.2; have := bru.1; have := bru.2; have : (0 : Int32).toInt = 0 := (by decide); have : (2 : Int32).toInt = 2 := (by decide); omega) hr0 (by rcases q_7 with h7 | h7; exact h7.2; have := (zB.all te).1; have := (zB.all te).2; have := bfl.1; have := bfl.2; have := bru.1; have := bru.2; have : (0 : Int32).toInt = 0 := (by decide); have : (2 : Int32).toInt = 2 := (by decide); omega)]; exact vm_14), trivial⟩, by rw [ht]; exact h.1, h.2.1, ((hfF_4.w (by decide)).trans hfF_12 (by decide))⟩, h.2.2.F ht⟩) h.2.2.2.2 dX5_again_20

set_option maxHeartbeats 4000000 in
set_option maxRecDepth 100000 in
theorem zm_X5_branch (l : Launch) (D : va_G) (k : Nat → ClassId) (Γ : Nat → Option Nat) (L : List Nat) (F : Nat → va_E) (sz : Nat) (th : Nat) (ot : Int32) (li : Int32) (μ : zVm) (hth : Γ th = some 5) (p_vm : zVc F th μ) (hr0 : vtc μ ≤ 4000000) (hr1 : 0 ≤ li.toInt) (hr2 : 0 ≤ ot.toInt) : Met l yX5_branch zwX5_branch ({ frames := 1, cells := 0, slots := 0, locals := 25 }) (va_Pc [.ref th, .int ot, .int li] (zP D k Γ L F sz)) (va_Qv (fun (u : Nat → va_E) => zVc u th (v_branch ot.toInt.toNat li.toInt.toNat μ) ∧ True) (zQ D k Γ L F [504, 514, 518, 10900]) (zA L sz)) 0 0 (zA L sz) := by
  refine Met.ofW (cc := cX5_branch) (maxL := 4) (ret := none) (by decide) rfl ?_
  intro p e s m args below meth c s₁ B hml hv
  obtain ⟨rfl, hsz, hP, hK, hLn, hE, hI⟩ := hv
  have hx := B.exec
  have hb := B.bytes
  have hr := B.returns
  have hg : ∀ w ∈ zG, w.before _ s = true := fun w h9 => atoms_spec (ws := zwX5_branch) B.pre w (List.mem_cons_of_mem _ h9)
  have hown : s.vm.findClass RX5 = some m.cls := findClass_of_methodNamed B.named
  have hlocks := B.notSynchronized
  subst hsz
  have Z : zC p m c cX5_branch 4 s _ zG RX5 D k L := ⟨⟨hx, hb, hml, hown, hg⟩, hK, hLn, hE⟩
  have h : zH D k Γ L s F s.heap [] := ⟨hP, hI, va_S.rf⟩
  have hl := lv_entry ([.ref th, .int ot, .int li]) (n := 4) (Nat.le_of_ble_eq_true rfl)
  rw [lg_entry_eq]
  generalize (lg_sl ([.ref th, .int ot, .int li]) ++ List.replicate (4 - (lg_sl ([.ref th, .int ot, .int li])).length) Slot.unset).toArray = ls at hl ⊢
  have hl : lv_has ls 4 [(0, .ref th), (1, .int ot), (2, .int li)] := hl
  clear hP hK hLn hE hI
  generalize hargs : ([.ref th, .int ot, .int li] : List Value).toArray = args at *
  refine z_start (fun R Q hRf hRl hQ => ?_)
  have hRf : R.frames = 1 := hRf
  have hRl : R.locals = 25 := hRl
  have h9 := h
  have hI0 := h.2.1
  refine lv_aload_n hx hb dX5_branch_0 rfl (lv_at hl 0 rfl) ?_
  refine zk_Vi (As := []) (rest := []) (bytes := cX5_pop) (maxL := 1) (ret := (some .int)) Z h (zm_X5_pop l D k Γ L F s.heap.size th (μ) hth p_vm) (cwV 0 hg zv_RX5_160 rfl rfl rfl zd_X5_pop ⟨z_leR hRf (by decide), z_leR hRl (by decide)⟩) hth (by decide) rfl rfl hl.1 rfl (Nat.le_of_ble_eq_true rfl) dX5_branch_1 ⟨Nat.zero_le _, Nat.zero_le _⟩ (fun r_1 F_2 H locs w_3 h hfF_2 => ?_)
  obtain ⟨q_4, q_5, -⟩ := w_3
  have br_1 := zB.all r_1
  have hI_6 := h.2.1
  refine lv_istore_n (lv' := [(3, .int r_1), (0, .ref th), (1, .int ot), (2, .int li)]) hx hb dX5_branch_4 rfl hl (by decide) rfl (fun ls hl => ?_)
  refine lv_aload_n hx hb dX5_branch_5 rfl (lv_at hl 1 rfl) ?_
  refine lv_iload_n hx hb dX5_branch_6 rfl (lv_at hl 3 rfl) ?_
  refine lv_iconst (v := (-1)) hx hb dX5_branch_7 (by decide) ?_
  refine lv_iconst (v := 0) hx hb dX5_branch_8 (by decide) ?_
  refine lv_iload_n hx hb dX5_branch_9 rfl (lv_at hl 0 rfl) ?_
  refine zk_Vv (As := [.int li, .int (-1), .int 0, .int r_1]) (rest := []) (bytes := cX5_note) (maxL := 6) (ret := none) Z h (zm_X5_note l D k Γ L F_2 H.size th li (-1) 0 r_1 (v_pop (μ)) hth q_4 hr0) (cwV 4 hg zv_RX5_183 rfl rfl rfl zd_X5_note ⟨z_leR hRf (by decide), z_leR hRl (by decide)⟩) hth (by decide) rfl rfl hl.1 rfl (Nat.le_of_ble_eq_true rfl) dX5_branch_10 ⟨Nat.zero_le _, Nat.zero_le _⟩ (fun F_7 H locs w_8 h hfF_7 => ?_)
  obtain ⟨q_9, -⟩ := w_8
  have hI_10 := h.2.1
  refine lv_iload_n hx hb dX5_branch_13 rfl (lv_at hl 0 rfl) ?_
  refine lv_if_ne (tgt := 22) hx hb dX5_branch_14 (by decide) (fun c_11 => ?_) (fun c_11 => ?_)
  · have c_11 := z_ne c_11
    subst hQ
    exact W.vret hx hb hr (fun t ht hW => ⟨⟨F_7, rfl, ⟨(by unfold v_branch; rw [zv_ofNat hr1, ← q_5]; show zVc _ th (if r_1 = 0 then _ else _); rw [if_neg (fun h7 => by have h8 := congrArg Int32.toInt h7; rw [show (0 : Int32).toInt = 0 by decide] at h8; have := br_1.1; have := br_1.2; have := (zB.all ot).1; have := (zB.all ot).2; have := (zB.all li).1; have := (zB.all li).2; have : (0 : Int32).toInt = 0 := (by decide); omega)]; exact q_9), trivial⟩, by rw [ht]; exact h.1, h.2.1, ((hfF_2.w (by decide)).trans hfF_7 (by decide))⟩, h.2.2.F ht⟩) h.2.2.2.2 dX5_branch_22
  · have c_11 := z_eq c_11
    have br_1_12 : zB 0 0 r_1 := zB.eqL (a := 0) (b := 0) c_11 (zBc 0 0 (by decide))
    refine lv_aload_n hx hb dX5_branch_17 rfl (lv_at hl 1 rfl) ?_
    refine lv_iload_n hx hb dX5_branch_18 rfl (lv_at hl 2 rfl) ?_
    refine zt_put (t := 5) (C := RX5) (T := TX5) (N := 19) (v := .int ot) Z h hth zin_5 tyX5 tyX5_ok nmX5 rfl 14 rfl ⟨by decide, rfl⟩ (zm_RX5 (List.mem_of_getElem? (i := 31) rfl)) (fun _ h9 => h9) rfl (zV.i (zB.all ot)) rfl rfl dX5_branch_19 (fun H locs F_13 h hfF_13 kF_13 => ?_)
    have hv_14 : zFr Γ [514] F_7 F_13 := hfF_13
    have vm_15 : zVc F_13 th (v_go (v_note (v_pop (μ)) li ((-1) : Int32) (0 : Int32) r_1) ot.toInt.toNat) := ⟨⟨(q_9.en.fr hv_14 hth ⟨by decide, by decide⟩), (hv_14.f hth 1 ⟨by decide, by decide⟩ q_9.vl), (q_9.go.fr hv_14 hth ⟨by decide, by decide⟩)⟩, ⟨(q_9.st.fr hv_14 hth ⟨by decide, by decide⟩), (hv_14.f hth 6 ⟨by decide, by decide⟩ q_9.cv), (q_9.sc.fr hv_14 hth ⟨by decide, by decide⟩), ((zVa (j := 7) (c := 108) hI_10 hth hv_14 ⟨by decide, rfl⟩ ⟨⟨by decide, by decide⟩, by decide, by decide⟩).trans q_9.sd), (q_9.tc.fr hv_14 hth ⟨by decide, by decide⟩), ((zVa (j := 8) (c := 109) hI_10 hth hv_14 ⟨by decide, rfl⟩ ⟨⟨by decide, by decide⟩, by decide, by decide⟩).trans q_9.tr), (q_9.mx.fr hv_14 hth ⟨by decide, by decide⟩)⟩, ⟨(zFnx.mk kF_13 (by show _ = ((ot.toInt.toNat : Nat) : Int); have := br_1_12.1; have := br_1_12.2; have := (zB.all ot).1; have := (zB.all ot).2; have := (zB.all li).1; have := (zB.all li).2; have : (0 : Int32).toInt = 0 := (by decide); omega)), (q_9.dp.fr hv_14 hth ⟨by decide, by decide⟩), ((zVa (j := 9) (c := 110) hI_10 hth hv_14 ⟨by decide, rfl⟩ ⟨⟨by decide, by decide⟩, by decide, by decide⟩).trans q_9.pl), (fun j hj => zNg_cg (congrFun (zVa (j := 16) (c := 111) hI_10 hth hv_14 ⟨by decide, rfl⟩ ⟨⟨by decide, by decide⟩, by decide, by decide⟩) j) (q_9.bk j hj))⟩, (q_9.tp.fr hv_14 hth ⟨by decide, by decide⟩), (q_9.sk.trans (congrArg (fun z => zvls z _) (zVa (j := 17) (c := 112) hI_10 hth hv_14 ⟨by decide, rfl⟩ ⟨⟨by decide, by decide⟩, by decide, by decide⟩).symm)), q_9.lh⟩
    have hI_16 := h.2.1
    subst hQ
    exact W.vret hx hb hr (fun t ht hW => ⟨⟨F_13, rfl, ⟨(by unfold v_branch; rw [zv_ofNat hr1, ← q_5]; show zVc _ th (if r_1 = 0 then _ else _); rw [if_pos (Int32.toInt_inj.mp (by have := br_1_12.1; have := br_1_12.2; have := (zB.all ot).1; have := (zB.all ot).2; have := (zB.all li).1; have := (zB.all li).2; have : (0 : Int32).toInt = 0 := (by decide); have : (0 : Int32).toInt = 0 := (by decide); omega))]; exact vm_15), trivial⟩, by rw [ht]; exact h.1, h.2.1, (((hfF_2.w (by decide)).trans hfF_7 (by decide)).trans hfF_13 (by decide))⟩, h.2.2.F ht⟩) h.2.2.2.2 dX5_branch_22

set_option maxHeartbeats 4000000 in
set_option maxRecDepth 100000 in
theorem zm_X5_leave (l : Launch) (D : va_G) (k : Nat → ClassId) (Γ : Nat → Option Nat) (L : List Nat) (F : Nat → va_E) (sz : Nat) (th : Nat) (wi : Int32) (μ : zVm) (hth : Γ th = some 5) (p_vm : zVc F th μ) (hr0 : 1 ≤ vdp μ ∧ vdp μ ≤ 8) : Met l yX5_leave zwX5_leave ({ frames := 1, cells := 0, slots := 0, locals := 21 }) (va_Pc [.ref th, .int wi] (zP D k Γ L F sz)) (va_Qv (fun (u : Nat → va_E) => zVc u th (v_leave wi μ) ∧ True) (zQ D k Γ L F [500, 501, 513, 514, 515, 518, 11200]) (zA L sz)) 0 0 (zA L sz) := by
  refine Met.ofW (cc := cX5_leave) (maxL := 2) (ret := none) (by decide) rfl ?_
  intro p e s m args below meth c s₁ B hml hv
  obtain ⟨rfl, hsz, hP, hK, hLn, hE, hI⟩ := hv
  have hx := B.exec
  have hb := B.bytes
  have hr := B.returns
  have hg : ∀ w ∈ zG, w.before _ s = true := fun w h9 => atoms_spec (ws := zwX5_leave) B.pre w (List.mem_cons_of_mem _ h9)
  have hown : s.vm.findClass RX5 = some m.cls := findClass_of_methodNamed B.named
  have hlocks := B.notSynchronized
  subst hsz
  have Z : zC p m c cX5_leave 2 s _ zG RX5 D k L := ⟨⟨hx, hb, hml, hown, hg⟩, hK, hLn, hE⟩
  have h : zH D k Γ L s F s.heap [] := ⟨hP, hI, va_S.rf⟩
  have hl := lv_entry ([.ref th, .int wi]) (n := 2) (Nat.le_of_ble_eq_true rfl)
  rw [lg_entry_eq]
  generalize (lg_sl ([.ref th, .int wi]) ++ List.replicate (2 - (lg_sl ([.ref th, .int wi])).length) Slot.unset).toArray = ls at hl ⊢
  have hl : lv_has ls 2 [(0, .ref th), (1, .int wi)] := hl
  clear hP hK hLn hE hI
  generalize hargs : ([.ref th, .int wi] : List Value).toArray = args at *
  refine z_start (fun R Q hRf hRl hQ => ?_)
  have hRf : R.frames = 1 := hRf
  have hRl : R.locals = 21 := hRl
  have h9 := h
  have hI0 := h.2.1
  obtain ⟨dp_, kdp_, tdp_⟩ := p_vm.dp
  have bdp_ : zB 1 8 dp_ := ⟨by omega, by omega⟩
  refine lv_aload_n hx hb dX5_leave_0 rfl (lv_at hl 0 rfl) ?_
  refine lv_dup hx hb dX5_leave_1 rfl ?_
  refine zt_getk (t := 5) (C := RX5) (T := TX5) (N := 19) Z h hth zin_5 rfl 15 kdp_ ⟨by decide, rfl, by decide⟩ (zm_RX5 (List.mem_of_getElem? (i := 12) rfl)) (fun _ h9 => h9) dX5_leave_2 ?_
  refine lv_iconst (v := 1) hx hb dX5_leave_5 (by decide) ?_
  refine lv_isub hx hb dX5_leave_6 ?_
  refine zi_sub (lo := 0) (hi := 7) bdp_ (zBc 1 1 (by decide)) (by decide) (fun x_1 bx_1 tx_1 => ?_)
  refine zt_put (t := 5) (C := RX5) (T := TX5) (N := 19) (v := .int x_1) Z h hth zin_5 tyX5 tyX5_ok nmX5 rfl 15 rfl ⟨by decide, rfl⟩ (zm_RX5 (List.mem_of_getElem? (i := 12) rfl)) (fun _ h9 => h9) rfl (zV.i (bx_1.w ⟨by decide, by decide⟩)) rfl rfl dX5_leave_7 (fun H locs F_2 h hfF_2 kF_2 => ?_)
  refine lv_aload_n hx hb dX5_leave_10 rfl (lv_at hl 0 rfl) ?_
  refine zt_getk (t := 5) (C := RX5) (T := TX5) (N := 19) Z h hth zin_5 rfl 15 kF_2 ⟨by decide, rfl, by decide⟩ (zm_RX5 (List.mem_of_getElem? (i := 12) rfl)) (fun _ h9 => h9) dX5_leave_11 ?_
  refine lv_if_le (tgt := 29) hx hb dX5_leave_14 (by decide) (fun c_3 => ?_) (fun c_3 => ?_)
  · have c_3 := z_le c_3
    have bx_1_4 : zB 0 0 x_1 := zB.leL c_3 bx_1 (zBc 0 0 (by decide)) (by decide)
    refine lv_aload_n hx hb dX5_leave_29 rfl (lv_at hl 0 rfl) ?_
    refine lv_iload_n hx hb dX5_leave_30 rfl (lv_at hl 1 rfl) ?_
    refine zt_put (t := 5) (C := RX5) (T := TX5) (N := 19) (v := .int wi) Z h hth zin_5 tyX5 tyX5_ok nmX5 rfl 1 rfl ⟨by decide, rfl⟩ (zm_RX5 (List.mem_of_getElem? (i := 6) rfl)) (fun _ h9 => h9) rfl (zV.i (zB.all wi)) rfl rfl dX5_leave_31 (fun H locs F_5 h hfF_5 kF_5 => ?_)
    have hv_6 : zFr Γ [501, 515] F F_5 := ((hfF_2.w (by decide)).trans hfF_5 (by decide))
    have vm_7 : zVc F_5 th (((μ.1.1, μ.1.2.1, vdp μ - 1, μ.1.2.2.2), μ.2.1, (ven μ, wi, vgo μ))) := ⟨⟨(p_vm.en.fr hv_6 hth ⟨by decide, by decide⟩), kF_5, (p_vm.go.fr hv_6 hth ⟨by decide, by decide⟩)⟩, ⟨(p_vm.st.fr hv_6 hth ⟨by decide, by decide⟩), (hv_6.f hth 6 ⟨by decide, by decide⟩ p_vm.cv), (p_vm.sc.fr hv_6 hth ⟨by decide, by decide⟩), ((zVa (j := 7) (c := 108) hI0 hth hv_6 ⟨by decide, rfl⟩ ⟨⟨by decide, by decide⟩, by decide, by decide⟩).trans p_vm.sd), (p_vm.tc.fr hv_6 hth ⟨by decide, by decide⟩), ((zVa (j := 8) (c := 109) hI0 hth hv_6 ⟨by decide, rfl⟩ ⟨⟨by decide, by decide⟩, by decide, by decide⟩).trans p_vm.tr), (p_vm.mx.fr hv_6 hth ⟨by decide, by decide⟩)⟩, ⟨(p_vm.nx.fr hv_6 hth ⟨by decide, by decide⟩), (zFi.mk (hfF_5.f hth 15 ⟨by decide, by decide⟩ kF_2) (by show _ = (((vdp μ - 1 : Nat)) : Int); have := (zB.all wi).1; have := (zB.all wi).2; have := bx_1_4.1; have := bx_1_4.2; have : (0 : Int32).toInt = 0 := (by decide); have : (1 : Int32).toInt = 1 := (by decide); omega)), ((zVa (j := 9) (c := 110) hI0 hth hv_6 ⟨by decide, rfl⟩ ⟨⟨by decide, by decide⟩, by decide, by decide⟩).trans p_vm.pl), (fun j hj => by have h7 : j < vdp μ - 1 := hj; rw [zVa (j := 16) (c := 111) hI0 hth ((((hfF_2.w (by decide)).trans hfF_5 (by decide)) : zFr Γ [501, 515] F F_5)) ⟨by decide, rfl⟩ ⟨⟨by decide, by decide⟩, by decide, by decide⟩]; exact p_vm.bk j (by omega))⟩, (p_vm.tp.fr hv_6 hth ⟨by decide, by decide⟩), (p_vm.sk.trans (congrArg (fun z => zvls z _) (zVa (j := 17) (c := 112) hI0 hth hv_6 ⟨by decide, rfl⟩ ⟨⟨by decide, by decide⟩, by decide, by decide⟩).symm)), p_vm.lh⟩
    have hI_8 := h.2.1
    refine lv_aload_n hx hb dX5_leave_34 rfl (lv_at hl 0 rfl) ?_
    refine lv_iconst (v := 0) hx hb dX5_leave_35 (by decide) ?_
    refine zk_Vv (As := [.int 0]) (rest := []) (bytes := cX5_stop) (maxL := 2) (ret := none) Z h (zm_X5_stop l D k Γ L F_5 H.size th 0 (((μ.1.1, μ.1.2.1, vdp μ - 1, μ.1.2.2.2), μ.2.1, (ven μ, wi, vgo μ))) hth vm_7) (cwV 1 hg zv_RX5_168 rfl rfl rfl zd_X5_stop ⟨z_leR hRf (by decide), z_leR hRl (by decide)⟩) hth (by decide) rfl rfl hl.1 rfl (Nat.le_of_ble_eq_true rfl) dX5_leave_36 ⟨Nat.zero_le _, Nat.zero_le _⟩ (fun F_9 H locs w_10 h hfF_9 => ?_)
    obtain ⟨q_11, -⟩ := w_10
    have hI_12 := h.2.1
    subst hQ
    exact W.vret hx hb hr (fun t ht hW => ⟨⟨F_9, rfl, ⟨(by rw [zv_leave1 (by have := (zB.all wi).1; have := (zB.all wi).2; have := bx_1_4.1; have := bx_1_4.2; have : (0 : Int32).toInt = 0 := (by decide); have : (1 : Int32).toInt = 1 := (by decide); omega)]; exact q_11), trivial⟩, by rw [ht]; exact h.1, h.2.1, (((hfF_2.w (by decide)).trans hfF_5 (by decide)).trans hfF_9 (by decide))⟩, h.2.2.F ht⟩) h.2.2.2.2 dX5_leave_39
  · have c_3 := z_nle c_3
    have bx_1_13 : zB 1 7 x_1 := zB.ltR c_3 (zBc 0 0 (by decide)) bx_1 (by decide)
    refine lv_aload_n hx hb dX5_leave_17 rfl (lv_at hl 0 rfl) ?_
    refine zt_getk (t := 5) (C := RX5) (T := TX5) (N := 19) Z h hth zin_5 rfl 15 kF_2 ⟨by decide, rfl, by decide⟩ (zm_RX5 (List.mem_of_getElem? (i := 12) rfl)) (fun _ h9 => h9) dX5_leave_18 ?_
    refine lv_aload_n hx hb dX5_leave_21 rfl (lv_at hl 0 rfl) ?_
    refine zt_getr (t := 5) (C := RX5) (T := TX5) (N := 19) Z h hth zin_5 rfl 16 rfl ⟨by decide, rfl⟩ (zm_RX5 (List.mem_of_getElem? (i := 96) rfl)) (fun _ h9 => h9) dX5_leave_22 (fun a_14 ka_14 ha_14 => ?_)
    refine zt_alen (t := 111) Z h ha_14 ⟨by decide, rfl⟩ (by decide) (v := 8) rfl dX5_leave_25 ?_
    refine lv_icmp_lt (tgt := 40) hx hb dX5_leave_26 (by decide) (fun c_15 => ?_) (fun c_15 => ?_)
    · have c_15 := z_lt c_15
      refine lv_aload_n hx hb dX5_leave_40 rfl (lv_at hl 0 rfl) ?_
      refine lv_aload_n hx hb dX5_leave_41 rfl (lv_at hl 0 rfl) ?_
      refine zt_getk (t := 5) (C := RX5) (T := TX5) (N := 19) Z h hth zin_5 rfl 16 ka_14 ⟨by decide, rfl, by decide⟩ (zm_RX5 (List.mem_of_getElem? (i := 96) rfl)) (fun _ h9 => h9) dX5_leave_42 ?_
      refine lv_aload_n hx hb dX5_leave_45 rfl (lv_at hl 0 rfl) ?_
      refine zt_getk (t := 5) (C := RX5) (T := TX5) (N := 19) Z h hth zin_5 rfl 15 kF_2 ⟨by decide, rfl, by decide⟩ (zm_RX5 (List.mem_of_getElem? (i := 12) rfl)) (fun _ h9 => h9) dX5_leave_46 ?_
      refine zt_ialde (t := 111) Z h ha_14 ⟨by decide, rfl⟩ bx_1_13 ⟨by decide, by decide⟩ dX5_leave_49 (fun x_16 ex_16 bx_16 => ?_)
      refine zt_put (t := 5) (C := RX5) (T := TX5) (N := 19) (v := .int x_16) Z h hth zin_5 tyX5 tyX5_ok nmX5 rfl 14 rfl ⟨by decide, rfl⟩ (zm_RX5 (List.mem_of_getElem? (i := 31) rfl)) (fun _ h9 => h9) rfl (zV.i bx_16) rfl rfl dX5_leave_50 (fun H locs F_17 h hfF_17 kF_17 => ?_)
      have hv_18 : zFr Γ [514, 515] F F_17 := ((hfF_2.w (by decide)).trans hfF_17 (by decide))
      have vm_19 : zVc F_17 th (v_go (v_dp μ (vdp μ - 1)) (vbk μ (vdp μ - 1))) := ⟨⟨(p_vm.en.fr hv_18 hth ⟨by decide, by decide⟩), (hv_18.f hth 1 ⟨by decide, by decide⟩ p_vm.vl), (p_vm.go.fr hv_18 hth ⟨by decide, by decide⟩)⟩, ⟨(p_vm.st.fr hv_18 hth ⟨by decide, by decide⟩), (hv_18.f hth 6 ⟨by decide, by decide⟩ p_vm.cv), (p_vm.sc.fr hv_18 hth ⟨by decide, by decide⟩), ((zVa (j := 7) (c := 108) hI0 hth hv_18 ⟨by decide, rfl⟩ ⟨⟨by decide, by decide⟩, by decide, by decide⟩).trans p_vm.sd), (p_vm.tc.fr hv_18 hth ⟨by decide, by decide⟩), ((zVa (j := 8) (c := 109) hI0 hth hv_18 ⟨by decide, rfl⟩ ⟨⟨by decide, by decide⟩, by decide, by decide⟩).trans p_vm.tr), (p_vm.mx.fr hv_18 hth ⟨by decide, by decide⟩)⟩, ⟨(⟨_, kF_17, (by show (x_16).toInt = ((vbk μ (vdp μ - 1) : Nat) : Int) ∨ ((x_16).toInt < 0 ∧ 1200 ≤ vbk μ (vdp μ - 1)); rw [← ex_16, show Int32.toNatClampNeg x_1 = vdp μ - 1 by rw [Int32.toNatClampNeg]; have := (zB.all wi).1; have := (zB.all wi).2; have := bx_1_13.1; have := bx_1_13.2; have := bx_16.1; have := bx_16.2; have : (0 : Int32).toInt = 0 := (by decide); have : (1 : Int32).toInt = 1 := (by decide); have : (8 : Int32).toInt = 8 := (by decide); omega, ← zar_eq ka_14, zVa (j := 16) (c := 111) hI0 hth ((hfF_2 : zFr Γ [515] F F_2)) ⟨by decide, rfl⟩ ⟨⟨by decide, by decide⟩, by decide, by decide⟩]; exact p_vm.bk (vdp μ - 1) (by omega))⟩), (zFi.mk (hfF_17.f hth 15 ⟨by decide, by decide⟩ kF_2) (by show _ = (((vdp μ - 1 : Nat)) : Int); have := (zB.all wi).1; have := (zB.all wi).2; have := bx_1_13.1; have := bx_1_13.2; have := bx_16.1; have := bx_16.2; have : (0 : Int32).toInt = 0 := (by decide); have : (1 : Int32).toInt = 1 := (by decide); have : (8 : Int32).toInt = 8 := (by decide); omega)), ((zVa (j := 9) (c := 110) hI0 hth hv_18 ⟨by decide, rfl⟩ ⟨⟨by decide, by decide⟩, by decide, by decide⟩).trans p_vm.pl), (fun j hj => by have h7 : j < vdp μ - 1 := hj; rw [zVa (j := 16) (c := 111) hI0 hth ((((hfF_2.w (by decide)).trans hfF_17 (by decide)) : zFr Γ [514, 515] F F_17)) ⟨by decide, rfl⟩ ⟨⟨by decide, by decide⟩, by decide, by decide⟩]; exact p_vm.bk j (by omega))⟩, (p_vm.tp.fr hv_18 hth ⟨by decide, by decide⟩), (p_vm.sk.trans (congrArg (fun z => zvls z _) (zVa (j := 17) (c := 112) hI0 hth hv_18 ⟨by decide, rfl⟩ ⟨⟨by decide, by decide⟩, by decide, by decide⟩).symm)), p_vm.lh⟩
      have hI_20 := h.2.1
      refine lv_aload_n hx hb dX5_leave_53 rfl (lv_at hl 0 rfl) ?_
      refine lv_iload_n hx hb dX5_leave_54 rfl (lv_at hl 1 rfl) ?_
      refine zk_Vv (As := [.int wi]) (rest := []) (bytes := cX5_push) (maxL := 2) (ret := none) Z h (zm_X5_push l D k Γ L F_17 H.size th wi (v_go (v_dp μ (vdp μ - 1)) (vbk μ (vdp μ - 1))) hth vm_19) (cwV 1 hg zv_RX5_76 rfl rfl rfl zd_X5_push ⟨z_leR hRf (by decide), z_leR hRl (by decide)⟩) hth (by decide) rfl rfl hl.1 rfl (Nat.le_of_ble_eq_true rfl) dX5_leave_55 ⟨Nat.zero_le _, Nat.zero_le _⟩ (fun F_21 H locs w_22 h hfF_21 => ?_)
      obtain ⟨q_23, -⟩ := w_22
      have hI_24 := h.2.1
      subst hQ
      exact W.vret hx hb hr (fun t ht hW => ⟨⟨F_21, rfl, ⟨(by rw [zv_leave2 (by have := (zB.all wi).1; have := (zB.all wi).2; have := bx_1_13.1; have := bx_1_13.2; have := bx_16.1; have := bx_16.2; have : (0 : Int32).toInt = 0 := (by decide); have : (1 : Int32).toInt = 1 := (by decide); have : (8 : Int32).toInt = 8 := (by decide); omega)]; exact q_23), trivial⟩, by rw [ht]; exact h.1, h.2.1, (((hfF_2.w (by decide)).trans hfF_17 (by decide)).trans hfF_21 (by decide))⟩, h.2.2.F ht⟩) h.2.2.2.2 dX5_leave_58
    · have c_15 := z_nlt c_15
      exact zB.noLe c_15 (zBc 8 8 (by decide)) bx_1_13 (by decide)

set_option maxHeartbeats 4000000 in
set_option maxRecDepth 100000 in
theorem zm_X5_giveBack (l : Launch) (D : va_G) (k : Nat → ClassId) (Γ : Nat → Option Nat) (L : List Nat) (F : Nat → va_E) (sz : Nat) (th : Nat) (li : Int32) (μ : zVm) (hth : Γ th = some 5) (p_vm : zVc F th μ) (hr0 : vtc μ ≤ 4000000) (hr1 : 1 ≤ vdp μ ∧ vdp μ ≤ 8) : Met l yX5_giveBack zwX5_giveBack ({ frames := 2, cells := 0, slots := 0, locals := 42 }) (va_Pc [.ref th, .int li] (zP D k Γ L F sz)) (va_Qv (fun (u : Nat → va_E) => zVc u th (v_leave (v_top μ) (v_note (v_pop μ) li (-1) 0 (v_top μ))) ∧ True) (zQ D k Γ L F [500, 501, 504, 513, 514, 515, 518, 10900, 11200]) (zA L sz)) 0 0 (zA L sz) := by
  refine Met.ofW (cc := cX5_giveBack) (maxL := 3) (ret := none) (by decide) rfl ?_
  intro p e s m args below meth c s₁ B hml hv
  obtain ⟨rfl, hsz, hP, hK, hLn, hE, hI⟩ := hv
  have hx := B.exec
  have hb := B.bytes
  have hr := B.returns
  have hg : ∀ w ∈ zG, w.before _ s = true := fun w h9 => atoms_spec (ws := zwX5_giveBack) B.pre w (List.mem_cons_of_mem _ h9)
  have hown : s.vm.findClass RX5 = some m.cls := findClass_of_methodNamed B.named
  have hlocks := B.notSynchronized
  subst hsz
  have Z : zC p m c cX5_giveBack 3 s _ zG RX5 D k L := ⟨⟨hx, hb, hml, hown, hg⟩, hK, hLn, hE⟩
  have h : zH D k Γ L s F s.heap [] := ⟨hP, hI, va_S.rf⟩
  have hl := lv_entry ([.ref th, .int li]) (n := 3) (Nat.le_of_ble_eq_true rfl)
  rw [lg_entry_eq]
  generalize (lg_sl ([.ref th, .int li]) ++ List.replicate (3 - (lg_sl ([.ref th, .int li])).length) Slot.unset).toArray = ls at hl ⊢
  have hl : lv_has ls 3 [(0, .ref th), (1, .int li)] := hl
  clear hP hK hLn hE hI
  generalize hargs : ([.ref th, .int li] : List Value).toArray = args at *
  refine z_start (fun R Q hRf hRl hQ => ?_)
  have hRf : R.frames = 2 := hRf
  have hRl : R.locals = 42 := hRl
  have h9 := h
  have hI0 := h.2.1
  refine lv_aload_n hx hb dX5_giveBack_0 rfl (lv_at hl 0 rfl) ?_
  refine zk_Vi (As := []) (rest := []) (bytes := cX5_pop) (maxL := 1) (ret := (some .int)) Z h (zm_X5_pop l D k Γ L F s.heap.size th (μ) hth p_vm) (cwV 0 hg zv_RX5_160 rfl rfl rfl zd_X5_pop ⟨z_leR hRf (by decide), z_leR hRl (by decide)⟩) hth (by decide) rfl rfl hl.1 rfl (Nat.le_of_ble_eq_true rfl) dX5_giveBack_1 ⟨Nat.zero_le _, Nat.zero_le _⟩ (fun r_1 F_2 H locs w_3 h hfF_2 => ?_)
  obtain ⟨q_4, q_5, -⟩ := w_3
  have br_1 := zB.all r_1
  have hI_6 := h.2.1
  refine lv_istore_n (lv' := [(2, .int r_1), (0, .ref th), (1, .int li)]) hx hb dX5_giveBack_4 rfl hl (by decide) rfl (fun ls hl => ?_)
  refine lv_aload_n hx hb dX5_giveBack_5 rfl (lv_at hl 1 rfl) ?_
  refine lv_iload_n hx hb dX5_giveBack_6 rfl (lv_at hl 2 rfl) ?_
  refine lv_iconst (v := (-1)) hx hb dX5_giveBack_7 (by decide) ?_
  refine lv_iconst (v := 0) hx hb dX5_giveBack_8 (by decide) ?_
  refine lv_iload_n hx hb dX5_giveBack_9 rfl (lv_at hl 0 rfl) ?_
  refine zk_Vv (As := [.int li, .int (-1), .int 0, .int r_1]) (rest := []) (bytes := cX5_note) (maxL := 6) (ret := none) Z h (zm_X5_note l D k Γ L F_2 H.size th li (-1) 0 r_1 (v_pop (μ)) hth q_4 hr0) (cwV 4 hg zv_RX5_183 rfl rfl rfl zd_X5_note ⟨z_leR hRf (by decide), z_leR hRl (by decide)⟩) hth (by decide) rfl rfl hl.1 rfl (Nat.le_of_ble_eq_true rfl) dX5_giveBack_10 ⟨Nat.zero_le _, Nat.zero_le _⟩ (fun F_7 H locs w_8 h hfF_7 => ?_)
  obtain ⟨q_9, -⟩ := w_8
  have hI_10 := h.2.1
  refine lv_aload_n hx hb dX5_giveBack_13 rfl (lv_at hl 1 rfl) ?_
  refine lv_iload_n hx hb dX5_giveBack_14 rfl (lv_at hl 0 rfl) ?_
  refine zk_Vv (As := [.int r_1]) (rest := []) (bytes := cX5_leave) (maxL := 2) (ret := none) Z h (zm_X5_leave l D k Γ L F_7 H.size th r_1 (v_note (v_pop (μ)) li ((-1) : Int32) (0 : Int32) r_1) hth q_9 hr1) (cwV 1 hg zv_RX5_154 rfl rfl rfl zd_X5_leave ⟨z_leR hRf (by decide), z_leR hRl (by decide)⟩) hth (by decide) rfl rfl hl.1 rfl (Nat.le_of_ble_eq_true rfl) dX5_giveBack_15 ⟨Nat.zero_le _, Nat.zero_le _⟩ (fun F_11 H locs w_12 h hfF_11 => ?_)
  obtain ⟨q_13, -⟩ := w_12
  have hI_14 := h.2.1
  subst hQ
  exact W.vret hx hb hr (fun t ht hW => ⟨⟨F_11, rfl, ⟨(by rw [← q_5]; exact q_13), trivial⟩, by rw [ht]; exact h.1, h.2.1, (((hfF_2.w (by decide)).trans hfF_7 (by decide)).trans hfF_11 (by decide))⟩, h.2.2.F ht⟩) h.2.2.2.2 dX5_giveBack_18

set_option maxHeartbeats 4000000 in
set_option maxRecDepth 100000 in
theorem zm_X5_say (l : Launch) (D : va_G) (k : Nat → ClassId) (Γ : Nat → Option Nat) (L : List Nat) (F : Nat → va_E) (sz : Nat) (th : Nat) (li : Int32) (μ : zVm) (hth : Γ th = some 5) (p_vm : zVc F th μ) (hr0 : vsc μ ≤ 4000000) (hr1 : vtc μ ≤ 4000000) : Met l yX5_say zwX5_say ({ frames := 1, cells := 0, slots := 0, locals := 25 }) (va_Pc [.ref th, .int li] (zP D k Γ L F sz)) (va_Qv (fun (u : Nat → va_E) => zVc u th (v_note (v_say (v_pop μ) (v_top μ)) li (-1) 0 (v_top μ)) ∧ True) (zQ D k Γ L F [503, 504, 518, 10800, 10900]) (zA L sz)) 0 0 (zA L sz) := by
  refine Met.ofW (cc := cX5_say) (maxL := 3) (ret := none) (by decide) rfl ?_
  intro p e s m args below meth c s₁ B hml hv
  obtain ⟨rfl, hsz, hP, hK, hLn, hE, hI⟩ := hv
  have hx := B.exec
  have hb := B.bytes
  have hr := B.returns
  have hg : ∀ w ∈ zG, w.before _ s = true := fun w h9 => atoms_spec (ws := zwX5_say) B.pre w (List.mem_cons_of_mem _ h9)
  have hown : s.vm.findClass RX5 = some m.cls := findClass_of_methodNamed B.named
  have hlocks := B.notSynchronized
  subst hsz
  have Z : zC p m c cX5_say 3 s _ zG RX5 D k L := ⟨⟨hx, hb, hml, hown, hg⟩, hK, hLn, hE⟩
  have h : zH D k Γ L s F s.heap [] := ⟨hP, hI, va_S.rf⟩
  have hl := lv_entry ([.ref th, .int li]) (n := 3) (Nat.le_of_ble_eq_true rfl)
  rw [lg_entry_eq]
  generalize (lg_sl ([.ref th, .int li]) ++ List.replicate (3 - (lg_sl ([.ref th, .int li])).length) Slot.unset).toArray = ls at hl ⊢
  have hl : lv_has ls 3 [(0, .ref th), (1, .int li)] := hl
  clear hP hK hLn hE hI
  generalize hargs : ([.ref th, .int li] : List Value).toArray = args at *
  refine z_start (fun R Q hRf hRl hQ => ?_)
  have hRf : R.frames = 1 := hRf
  have hRl : R.locals = 25 := hRl
  have h9 := h
  have hI0 := h.2.1
  obtain ⟨sc_, ksc_, tsc_⟩ := p_vm.sc
  have bsc_ : zB 0 4000001 sc_ := ⟨by omega, by omega⟩
  refine lv_aload_n hx hb dX5_say_0 rfl (lv_at hl 0 rfl) ?_
  refine zk_Vi (As := []) (rest := []) (bytes := cX5_pop) (maxL := 1) (ret := (some .int)) Z h (zm_X5_pop l D k Γ L F s.heap.size th (μ) hth p_vm) (cwV 0 hg zv_RX5_160 rfl rfl rfl zd_X5_pop ⟨z_leR hRf (by decide), z_leR hRl (by decide)⟩) hth (by decide) rfl rfl hl.1 rfl (Nat.le_of_ble_eq_true rfl) dX5_say_1 ⟨Nat.zero_le _, Nat.zero_le _⟩ (fun r_1 F_2 H locs w_3 h hfF_2 => ?_)
  obtain ⟨q_4, q_5, -⟩ := w_3
  have br_1 := zB.all r_1
  have hI_6 := h.2.1
  refine lv_istore_n (lv' := [(2, .int r_1), (0, .ref th), (1, .int li)]) hx hb dX5_say_4 rfl hl (by decide) rfl (fun ls hl => ?_)
  refine lv_aload_n hx hb dX5_say_5 rfl (lv_at hl 1 rfl) ?_
  refine zt_getk (t := 5) (C := RX5) (T := TX5) (N := 19) Z h hth zin_5 rfl 3 (hfF_2.f hth 3 ⟨by decide, by decide⟩ ksc_) ⟨by decide, rfl, by decide⟩ (zm_RX5 (List.mem_of_getElem? (i := 8) rfl)) (fun _ h9 => h9) dX5_say_6 ?_
  refine lv_aload_n hx hb dX5_say_9 rfl (lv_at hl 1 rfl) ?_
  refine zt_getr (t := 5) (C := RX5) (T := TX5) (N := 19) Z h hth zin_5 rfl 7 rfl ⟨by decide, rfl⟩ (zm_RX5 (List.mem_of_getElem? (i := 40) rfl)) (fun _ h9 => h9) dX5_say_10 (fun a_7 ka_7 ha_7 => ?_)
  refine zt_alen (t := 108) Z h ha_7 ⟨by decide, rfl⟩ (by decide) (v := 60) rfl dX5_say_13 ?_
  refine lv_icmp_ge (tgt := 27) hx hb dX5_say_14 (by decide) (fun c_8 => ?_) (fun c_8 => ?_)
  · have c_8 := z_le c_8
    have bsc__9 : zB 60 4000001 sc_ := zB.leR c_8 (zBc 60 60 (by decide)) bsc_ (by decide)
    refine lv_aload_n hx hb dX5_say_27 rfl (lv_at hl 1 rfl) ?_
    refine lv_dup hx hb dX5_say_28 rfl ?_
    refine zt_getk (t := 5) (C := RX5) (T := TX5) (N := 19) Z h hth zin_5 rfl 3 (hfF_2.f hth 3 ⟨by decide, by decide⟩ ksc_) ⟨by decide, rfl, by decide⟩ (zm_RX5 (List.mem_of_getElem? (i := 8) rfl)) (fun _ h9 => h9) dX5_say_29 ?_
    refine lv_iconst (v := 1) hx hb dX5_say_32 (by decide) ?_
    refine lv_iadd hx hb dX5_say_33 ?_
    refine zi_add (lo := 61) (hi := 4000002) bsc__9 (zBc 1 1 (by decide)) (by decide) (fun x_10 bx_10 tx_10 => ?_)
    refine zt_put (t := 5) (C := RX5) (T := TX5) (N := 19) (v := .int x_10) Z h hth zin_5 tyX5 tyX5_ok nmX5 rfl 3 rfl ⟨by decide, rfl⟩ (zm_RX5 (List.mem_of_getElem? (i := 8) rfl)) (fun _ h9 => h9) rfl (zV.i (zB.of ⟨by have := br_1.1; have := br_1.2; have := (zB.all li).1; have := (zB.all li).2; have := bx_10.1; have := bx_10.2; have := bsc__9.1; have := bsc__9.2; have : (1 : Int32).toInt = 1 := (by decide); have : (60 : Int32).toInt = 60 := (by decide); omega, by have := br_1.1; have := br_1.2; have := (zB.all li).1; have := (zB.all li).2; have := bx_10.1; have := bx_10.2; have := bsc__9.1; have := bsc__9.2; have : (1 : Int32).toInt = 1 := (by decide); have : (60 : Int32).toInt = 60 := (by decide); omega⟩)) rfl rfl dX5_say_34 (fun H locs F_11 h hfF_11 kF_11 => ?_)
    have hv_12 : zFr Γ [503] F_2 F_11 := hfF_11
    have vm_13 : zVc F_11 th (v_rec (v_pop μ) (vst μ, vcv μ, vsc μ + 1, vsd μ, vtc μ, vtr μ, vmx μ)) := ⟨⟨(q_4.en.fr hv_12 hth ⟨by decide, by decide⟩), (hv_12.f hth 1 ⟨by decide, by decide⟩ q_4.vl), (q_4.go.fr hv_12 hth ⟨by decide, by decide⟩)⟩, ⟨(q_4.st.fr hv_12 hth ⟨by decide, by decide⟩), (hv_12.f hth 6 ⟨by decide, by decide⟩ q_4.cv), (zFi.mk kF_11 (by show _ = ((((vsc μ) + 1 : Nat)) : Int); have := br_1.1; have := br_1.2; have := (zB.all li).1; have := (zB.all li).2; have := bx_10.1; have := bx_10.2; have : (1 : Int32).toInt = 1 := (by decide); have : (60 : Int32).toInt = 60 := (by decide); omega)), ((zVa (j := 7) (c := 108) hI_6 hth hv_12 ⟨by decide, rfl⟩ ⟨⟨by decide, by decide⟩, by decide, by decide⟩).trans q_4.sd), (q_4.tc.fr hv_12 hth ⟨by decide, by decide⟩), ((zVa (j := 8) (c := 109) hI_6 hth hv_12 ⟨by decide, rfl⟩ ⟨⟨by decide, by decide⟩, by decide, by decide⟩).trans q_4.tr), (q_4.mx.fr hv_12 hth ⟨by decide, by decide⟩)⟩, ⟨(q_4.nx.fr hv_12 hth ⟨by decide, by decide⟩), (q_4.dp.fr hv_12 hth ⟨by decide, by decide⟩), ((zVa (j := 9) (c := 110) hI_6 hth hv_12 ⟨by decide, rfl⟩ ⟨⟨by decide, by decide⟩, by decide, by decide⟩).trans q_4.pl), (fun j hj => zNg_cg (congrFun (zVa (j := 16) (c := 111) hI_6 hth hv_12 ⟨by decide, rfl⟩ ⟨⟨by decide, by decide⟩, by decide, by decide⟩) j) (q_4.bk j hj))⟩, (q_4.tp.fr hv_12 hth ⟨by decide, by decide⟩), (q_4.sk.trans (congrArg (fun z => zvls z _) (zVa (j := 17) (c := 112) hI_6 hth hv_12 ⟨by decide, rfl⟩ ⟨⟨by decide, by decide⟩, by decide, by decide⟩).symm)), q_4.lh⟩
    have hI_14 := h.2.1
    have vm_15 : zVc F_11 th (v_say (v_pop μ) (v_top μ)) := by rw [zv_unsaid (m := v_pop μ) (a := v_top μ) (show 60 ≤ vsc μ by have := br_1.1; have := br_1.2; have := (zB.all li).1; have := (zB.all li).2; have := bx_10.1; have := bx_10.2; have : (1 : Int32).toInt = 1 := (by decide); have : (60 : Int32).toInt = 60 := (by decide); omega)]; exact vm_13
    have hI_16 := h.2.1
    refine lv_aload_n hx hb dX5_say_37 rfl (lv_at hl 1 rfl) ?_
    refine lv_iload_n hx hb dX5_say_38 rfl (lv_at hl 2 rfl) ?_
    refine lv_iconst (v := (-1)) hx hb dX5_say_39 (by decide) ?_
    refine lv_iconst (v := 0) hx hb dX5_say_40 (by decide) ?_
    refine lv_iload_n hx hb dX5_say_41 rfl (lv_at hl 0 rfl) ?_
    refine zk_Vv (As := [.int li, .int (-1), .int 0, .int r_1]) (rest := []) (bytes := cX5_note) (maxL := 6) (ret := none) Z h (zm_X5_note l D k Γ L F_11 H.size th li (-1) 0 r_1 (v_say (v_pop μ) (v_top μ)) hth vm_15 hr1) (cwV 4 hg zv_RX5_183 rfl rfl rfl zd_X5_note ⟨z_leR hRf (by decide), z_leR hRl (by decide)⟩) hth (by decide) rfl rfl hl.1 rfl (Nat.le_of_ble_eq_true rfl) dX5_say_42 ⟨Nat.zero_le _, Nat.zero_le _⟩ (fun F_17 H locs w_18 h hfF_17 => ?_)
    obtain ⟨q_19, -⟩ := w_18
    have hI_20 := h.2.1
    subst hQ
    exact W.vret hx hb hr (fun t ht hW => ⟨⟨F_17, rfl, ⟨(by have h7 := q_19; rw [q_5] at h7; exact h7), trivial⟩, by rw [ht]; exact h.1, h.2.1, (((hfF_2.w (by decide)).trans hfF_11 (by decide)).trans hfF_17 (by decide))⟩, h.2.2.F ht⟩) h.2.2.2.2 dX5_say_45
  · have c_8 := z_nle c_8
    have bsc__21 : zB 0 59 sc_ := zB.ltL c_8 bsc_ (zBc 60 60 (by decide)) (by decide)
    refine lv_aload_n hx hb dX5_say_17 rfl (lv_at hl 1 rfl) ?_
    refine zt_getk (t := 5) (C := RX5) (T := TX5) (N := 19) Z h hth zin_5 rfl 7 ka_7 ⟨by decide, rfl, by decide⟩ (zm_RX5 (List.mem_of_getElem? (i := 40) rfl)) (fun _ h9 => h9) dX5_say_18 ?_
    refine lv_aload_n hx hb dX5_say_21 rfl (lv_at hl 1 rfl) ?_
    refine zt_getk (t := 5) (C := RX5) (T := TX5) (N := 19) Z h hth zin_5 rfl 3 (hfF_2.f hth 3 ⟨by decide, by decide⟩ ksc_) ⟨by decide, rfl, by decide⟩ (zm_RX5 (List.mem_of_getElem? (i := 8) rfl)) (fun _ h9 => h9) dX5_say_22 ?_
    refine lv_iload_n hx hb dX5_say_25 rfl (lv_at hl 0 rfl) ?_
    have ad_23 := z_ad (j := 7) (c := 108) h.2.1 hth (by decide) rfl
    refine zt_iaste (t := 108) Z h ha_7 ⟨by decide, rfl⟩ bsc__21 ⟨by decide, by decide⟩ br_1 dX5_say_26 (fun H locs F_22 h hfF_22 eF_22 gF_22 => ?_)
    have uF_22 := (zar_st ka_7 (hfF_22.f hth 7 ⟨by decide, by decide⟩ ka_7) eF_22 gF_22).trans (congrArg (fun z => upd z (Int32.toNatClampNeg sc_) r_1) (rfl : zar F_2 th 7 = (zar F_2 th 7)))
    refine lv_aload_n hx hb dX5_say_27 rfl (lv_at hl 1 rfl) ?_
    refine lv_dup hx hb dX5_say_28 rfl ?_
    refine zt_getk (t := 5) (C := RX5) (T := TX5) (N := 19) Z h hth zin_5 rfl 3 (hfF_22.f hth 3 ⟨by decide, by decide⟩ (hfF_2.f hth 3 ⟨by decide, by decide⟩ ksc_)) ⟨by decide, rfl, by decide⟩ (zm_RX5 (List.mem_of_getElem? (i := 8) rfl)) (fun _ h9 => h9) dX5_say_29 ?_
    refine lv_iconst (v := 1) hx hb dX5_say_32 (by decide) ?_
    refine lv_iadd hx hb dX5_say_33 ?_
    refine zi_add (lo := 1) (hi := 60) bsc__21 (zBc 1 1 (by decide)) (by decide) (fun x_24 bx_24 tx_24 => ?_)
    refine zt_put (t := 5) (C := RX5) (T := TX5) (N := 19) (v := .int x_24) Z h hth zin_5 tyX5 tyX5_ok nmX5 rfl 3 rfl ⟨by decide, rfl⟩ (zm_RX5 (List.mem_of_getElem? (i := 8) rfl)) (fun _ h9 => h9) rfl (zV.i (bx_24.w ⟨by decide, by decide⟩)) rfl rfl dX5_say_34 (fun H locs F_25 h hfF_25 kF_25 => ?_)
    have ad_26 := ad_23.fr hfF_22 hth ⟨by decide, by decide⟩
    have ar_27 : zar F_25 th 7 = (upd (zar F_2 th 7) (Int32.toNatClampNeg sc_) r_1) := ((ad_26.ar hfF_25 hth ⟨by decide, by decide⟩ ⟨by decide, by decide⟩).trans uF_22)
    have hv_28 : zFr Γ [503, 10800] F_2 F_25 := ((hfF_22.w (by decide)).trans hfF_25 (by decide))
    have vm_29 : zVc F_25 th (v_rec (v_pop μ) (vst μ, vcv μ, vsc μ + 1, vup (vsd μ) (vsc μ) (v_top μ), vtc μ, vtr μ, vmx μ)) := ⟨⟨(q_4.en.fr hv_28 hth ⟨by decide, by decide⟩), (hv_28.f hth 1 ⟨by decide, by decide⟩ q_4.vl), (q_4.go.fr hv_28 hth ⟨by decide, by decide⟩)⟩, ⟨(q_4.st.fr hv_28 hth ⟨by decide, by decide⟩), (hv_28.f hth 6 ⟨by decide, by decide⟩ q_4.cv), (zFi.mk kF_25 (by show _ = ((((vsc μ) + 1 : Nat)) : Int); have := br_1.1; have := br_1.2; have := (zB.all li).1; have := (zB.all li).2; have := bx_24.1; have := bx_24.2; have : (1 : Int32).toInt = 1 := (by decide); have : (60 : Int32).toInt = 60 := (by decide); omega)), (by rw [ar_27, q_4.sd, show Int32.toNatClampNeg sc_ = vsc μ by rw [Int32.toNatClampNeg]; have := br_1.1; have := br_1.2; have := (zB.all li).1; have := (zB.all li).2; have := bx_24.1; have := bx_24.2; have : (1 : Int32).toInt = 1 := (by decide); have : (60 : Int32).toInt = 60 := (by decide); omega, ← q_5]; rfl), (q_4.tc.fr hv_28 hth ⟨by decide, by decide⟩), ((zVa (j := 8) (c := 109) hI_6 hth hv_28 ⟨by decide, rfl⟩ ⟨⟨by decide, by decide⟩, by decide, by decide⟩).trans q_4.tr), (q_4.mx.fr hv_28 hth ⟨by decide, by decide⟩)⟩, ⟨(q_4.nx.fr hv_28 hth ⟨by decide, by decide⟩), (q_4.dp.fr hv_28 hth ⟨by decide, by decide⟩), ((zVa (j := 9) (c := 110) hI_6 hth hv_28 ⟨by decide, rfl⟩ ⟨⟨by decide, by decide⟩, by decide, by decide⟩).trans q_4.pl), (fun j hj => zNg_cg (congrFun (zVa (j := 16) (c := 111) hI_6 hth hv_28 ⟨by decide, rfl⟩ ⟨⟨by decide, by decide⟩, by decide, by decide⟩) j) (q_4.bk j hj))⟩, (q_4.tp.fr hv_28 hth ⟨by decide, by decide⟩), (q_4.sk.trans (congrArg (fun z => zvls z _) (zVa (j := 17) (c := 112) hI_6 hth hv_28 ⟨by decide, rfl⟩ ⟨⟨by decide, by decide⟩, by decide, by decide⟩).symm)), q_4.lh⟩
    have hI_30 := h.2.1
    have vm_31 : zVc F_25 th (v_say (v_pop μ) (v_top μ)) := by rw [zv_said (m := v_pop μ) (a := v_top μ) (show vsc μ < 60 by have := br_1.1; have := br_1.2; have := (zB.all li).1; have := (zB.all li).2; have := bx_24.1; have := bx_24.2; have : (1 : Int32).toInt = 1 := (by decide); have : (60 : Int32).toInt = 60 := (by decide); omega)]; exact vm_29
    have hI_32 := h.2.1
    refine lv_aload_n hx hb dX5_say_37 rfl (lv_at hl 1 rfl) ?_
    refine lv_iload_n hx hb dX5_say_38 rfl (lv_at hl 2 rfl) ?_
    refine lv_iconst (v := (-1)) hx hb dX5_say_39 (by decide) ?_
    refine lv_iconst (v := 0) hx hb dX5_say_40 (by decide) ?_
    refine lv_iload_n hx hb dX5_say_41 rfl (lv_at hl 0 rfl) ?_
    refine zk_Vv (As := [.int li, .int (-1), .int 0, .int r_1]) (rest := []) (bytes := cX5_note) (maxL := 6) (ret := none) Z h (zm_X5_note l D k Γ L F_25 H.size th li (-1) 0 r_1 (v_say (v_pop μ) (v_top μ)) hth vm_31 hr1) (cwV 4 hg zv_RX5_183 rfl rfl rfl zd_X5_note ⟨z_leR hRf (by decide), z_leR hRl (by decide)⟩) hth (by decide) rfl rfl hl.1 rfl (Nat.le_of_ble_eq_true rfl) dX5_say_42 ⟨Nat.zero_le _, Nat.zero_le _⟩ (fun F_33 H locs w_34 h hfF_33 => ?_)
    obtain ⟨q_35, -⟩ := w_34
    have hI_36 := h.2.1
    subst hQ
    exact W.vret hx hb hr (fun t ht hW => ⟨⟨F_33, rfl, ⟨(by have h7 := q_35; rw [q_5] at h7; exact h7), trivial⟩, by rw [ht]; exact h.1, h.2.1, ((((hfF_2.w (by decide)).trans hfF_22 (by decide)).trans hfF_25 (by decide)).trans hfF_33 (by decide))⟩, h.2.2.F ht⟩) h.2.2.2.2 dX5_say_45

set_option maxHeartbeats 4000000 in
set_option maxRecDepth 100000 in
theorem zm_X5_set (l : Launch) (D : va_G) (k : Nat → ClassId) (Γ : Nat → Option Nat) (L : List Nat) (F : Nat → va_E) (sz : Nat) (th : Nat) (q : Int32) (li : Int32) (μ : zVm) (hth : Γ th = some 5) (p_vm : zVc F th μ) (hr0 : vtc μ ≤ 4000000) (hr1 : 1 ≤ vdp μ ∧ vdp μ ≤ 8) : Met l yX5_set zwX5_set ({ frames := 1, cells := 0, slots := 0, locals := 25 }) (va_Pc [.ref th, .int q, .int li] (zP D k Γ L F sz)) (va_Qv (fun (u : Nat → va_E) => zVc u th (v_put (v_note (v_pop μ) li q (v_get μ q.toInt) (v_top μ)) q.toInt (v_top μ)) ∧ True) (zQ D k Γ L F [504, 518, 10900, 11000]) (zA L sz)) 0 0 (zA L sz) := by
  refine Met.ofW (cc := cX5_set) (maxL := 4) (ret := none) (by decide) rfl ?_
  intro p e s m args below meth c s₁ B hml hv
  obtain ⟨rfl, hsz, hP, hK, hLn, hE, hI⟩ := hv
  have hx := B.exec
  have hb := B.bytes
  have hr := B.returns
  have hg : ∀ w ∈ zG, w.before _ s = true := fun w h9 => atoms_spec (ws := zwX5_set) B.pre w (List.mem_cons_of_mem _ h9)
  have hown : s.vm.findClass RX5 = some m.cls := findClass_of_methodNamed B.named
  have hlocks := B.notSynchronized
  subst hsz
  have Z : zC p m c cX5_set 4 s _ zG RX5 D k L := ⟨⟨hx, hb, hml, hown, hg⟩, hK, hLn, hE⟩
  have h : zH D k Γ L s F s.heap [] := ⟨hP, hI, va_S.rf⟩
  have hl := lv_entry ([.ref th, .int q, .int li]) (n := 4) (Nat.le_of_ble_eq_true rfl)
  rw [lg_entry_eq]
  generalize (lg_sl ([.ref th, .int q, .int li]) ++ List.replicate (4 - (lg_sl ([.ref th, .int q, .int li])).length) Slot.unset).toArray = ls at hl ⊢
  have hl : lv_has ls 4 [(0, .ref th), (1, .int q), (2, .int li)] := hl
  clear hP hK hLn hE hI
  generalize hargs : ([.ref th, .int q, .int li] : List Value).toArray = args at *
  refine z_start (fun R Q hRf hRl hQ => ?_)
  have hRf : R.frames = 1 := hRf
  have hRl : R.locals = 25 := hRl
  have h9 := h
  have hI0 := h.2.1
  refine lv_aload_n hx hb dX5_set_0 rfl (lv_at hl 0 rfl) ?_
  refine zk_Vi (As := []) (rest := []) (bytes := cX5_pop) (maxL := 1) (ret := (some .int)) Z h (zm_X5_pop l D k Γ L F s.heap.size th (μ) hth p_vm) (cwV 0 hg zv_RX5_160 rfl rfl rfl zd_X5_pop ⟨z_leR hRf (by decide), z_leR hRl (by decide)⟩) hth (by decide) rfl rfl hl.1 rfl (Nat.le_of_ble_eq_true rfl) dX5_set_1 ⟨Nat.zero_le _, Nat.zero_le _⟩ (fun r_1 F_2 H locs w_3 h hfF_2 => ?_)
  obtain ⟨q_4, q_5, -⟩ := w_3
  have br_1 := zB.all r_1
  have hI_6 := h.2.1
  refine lv_istore_n (lv' := [(3, .int r_1), (0, .ref th), (1, .int q), (2, .int li)]) hx hb dX5_set_4 rfl hl (by decide) rfl (fun ls hl => ?_)
  refine lv_aload_n hx hb dX5_set_5 rfl (lv_at hl 1 rfl) ?_
  refine lv_iload_n hx hb dX5_set_6 rfl (lv_at hl 3 rfl) ?_
  refine lv_iload_n hx hb dX5_set_7 rfl (lv_at hl 2 rfl) ?_
  refine lv_aload_n hx hb dX5_set_8 rfl (lv_at hl 1 rfl) ?_
  refine lv_iload_n hx hb dX5_set_9 rfl (lv_at hl 2 rfl) ?_
  refine zk_Vi (As := [.int q]) (rest := [.int q, .int li, .ref th]) (bytes := cX5_placeNow) (maxL := 3) (ret := (some .int)) Z h (zm_X5_placeNow l D k Γ L F_2 H.size th q (v_pop (μ)) hth q_4 hr1) (cwV 1 hg zv_RX5_134 rfl rfl rfl zd_X5_placeNow ⟨z_leR hRf (by decide), z_leR hRl (by decide)⟩) hth (by decide) rfl rfl hl.1 rfl (Nat.le_of_ble_eq_true rfl) dX5_set_10 ⟨Nat.zero_le _, Nat.zero_le _⟩ (fun r_7 F_8 H locs w_9 h hfF_8 => ?_)
  obtain ⟨rfl, q_10, -⟩ := w_9
  have br_7 := zB.all r_7
  refine lv_iload_n hx hb dX5_set_13 rfl (lv_at hl 0 rfl) ?_
  refine zk_Vv (As := [.int li, .int q, .int r_7, .int r_1]) (rest := []) (bytes := cX5_note) (maxL := 6) (ret := none) Z h (zm_X5_note l D k Γ L F_2 H.size th li q r_7 r_1 (v_pop (μ)) hth q_4 hr0) (cwV 4 hg zv_RX5_183 rfl rfl rfl zd_X5_note ⟨z_leR hRf (by decide), z_leR hRl (by decide)⟩) hth (by decide) rfl rfl hl.1 rfl (Nat.le_of_ble_eq_true rfl) dX5_set_14 ⟨Nat.zero_le _, Nat.zero_le _⟩ (fun F_11 H locs w_12 h hfF_11 => ?_)
  obtain ⟨q_13, -⟩ := w_12
  have hI_14 := h.2.1
  refine lv_aload_n hx hb dX5_set_17 rfl (lv_at hl 1 rfl) ?_
  refine lv_iload_n hx hb dX5_set_18 rfl (lv_at hl 2 rfl) ?_
  refine lv_iload_n hx hb dX5_set_19 rfl (lv_at hl 0 rfl) ?_
  refine zk_Vv (As := [.int q, .int r_1]) (rest := []) (bytes := cX5_setPlace) (maxL := 4) (ret := none) Z h (zm_X5_setPlace l D k Γ L F_11 H.size th q r_1 (v_note (v_pop (μ)) li q r_7 r_1) hth q_13 hr1) (cwV 2 hg zv_RX5_174 rfl rfl rfl zd_X5_setPlace ⟨z_leR hRf (by decide), z_leR hRl (by decide)⟩) hth (by decide) rfl rfl hl.1 rfl (Nat.le_of_ble_eq_true rfl) dX5_set_20 ⟨Nat.zero_le _, Nat.zero_le _⟩ (fun F_15 H locs w_16 h hfF_15 => ?_)
  obtain ⟨q_17, -⟩ := w_16
  have hI_18 := h.2.1
  subst hQ
  exact W.vret hx hb hr (fun t ht hW => ⟨⟨F_15, rfl, ⟨(by rw [← q_5, ← (show _ = v_get μ q.toInt from q_10)]; exact q_17), trivial⟩, by rw [ht]; exact h.1, h.2.1, (((hfF_2.w (by decide)).trans hfF_11 (by decide)).trans hfF_15 (by decide))⟩, h.2.2.F ht⟩) h.2.2.2.2 dX5_set_23

set_option maxHeartbeats 4000000 in
set_option maxRecDepth 100000 in
theorem zm_X5_reckon (l : Launch) (D : va_G) (k : Nat → ClassId) (Γ : Nat → Option Nat) (L : List Nat) (F : Nat → va_E) (sz : Nat) (th : Nat) (ac : Int32) (μ : zVm) (ru : Int32) (hth : Γ th = some 5) (p_vm : zVc F th μ) (kru : zfld F th 11 = .int ru) (bru : zB (-2147483648) 2147483647 ru) (hr0 : 3 ≤ ac.toInt ∧ ac.toInt ≤ 8) : Met l yX5_reckon zwX5_reckon ({ frames := 1, cells := 0, slots := 0, locals := 21 }) (va_Pc [.ref th, .int ac] (zP D k Γ L F sz)) (va_Qv (fun (u : Nat → va_E) => zVc u th (v_reckon ru.toInt ac.toInt.toNat μ) ∧ True) (zQ D k Γ L F [518, 11200]) (zA L sz)) 0 0 (zA L sz) := by
  refine Met.ofW (cc := cX5_reckon) (maxL := 4) (ret := none) (by decide) rfl ?_
  intro p e s m args below meth c s₁ B hml hv
  obtain ⟨rfl, hsz, hP, hK, hLn, hE, hI⟩ := hv
  have hx := B.exec
  have hb := B.bytes
  have hr := B.returns
  have hg : ∀ w ∈ zG, w.before _ s = true := fun w h9 => atoms_spec (ws := zwX5_reckon) B.pre w (List.mem_cons_of_mem _ h9)
  have hown : s.vm.findClass RX5 = some m.cls := findClass_of_methodNamed B.named
  have hlocks := B.notSynchronized
  subst hsz
  have Z : zC p m c cX5_reckon 4 s _ zG RX5 D k L := ⟨⟨hx, hb, hml, hown, hg⟩, hK, hLn, hE⟩
  have h : zH D k Γ L s F s.heap [] := ⟨hP, hI, va_S.rf⟩
  have hl := lv_entry ([.ref th, .int ac]) (n := 4) (Nat.le_of_ble_eq_true rfl)
  rw [lg_entry_eq]
  generalize (lg_sl ([.ref th, .int ac]) ++ List.replicate (4 - (lg_sl ([.ref th, .int ac])).length) Slot.unset).toArray = ls at hl ⊢
  have hl : lv_has ls 4 [(0, .ref th), (1, .int ac)] := hl
  clear hP hK hLn hE hI
  generalize hargs : ([.ref th, .int ac] : List Value).toArray = args at *
  refine z_start (fun R Q hRf hRl hQ => ?_)
  have hRf : R.frames = 1 := hRf
  have hRl : R.locals = 21 := hRl
  have h9 := h
  have hI0 := h.2.1
  refine lv_aload_n hx hb dX5_reckon_0 rfl (lv_at hl 0 rfl) ?_
  refine zk_Vi (As := []) (rest := []) (bytes := cX5_pop) (maxL := 1) (ret := (some .int)) Z h (zm_X5_pop l D k Γ L F s.heap.size th (μ) hth p_vm) (cwV 0 hg zv_RX5_160 rfl rfl rfl zd_X5_pop ⟨z_leR hRf (by decide), z_leR hRl (by decide)⟩) hth (by decide) rfl rfl hl.1 rfl (Nat.le_of_ble_eq_true rfl) dX5_reckon_1 ⟨Nat.zero_le _, Nat.zero_le _⟩ (fun r_1 F_2 H locs w_3 h hfF_2 => ?_)
  obtain ⟨q_4, q_5, -⟩ := w_3
  have br_1 := zB.all r_1
  have hI_6 := h.2.1
  refine lv_istore_n (lv' := [(2, .int r_1), (0, .ref th), (1, .int ac)]) hx hb dX5_reckon_4 rfl hl (by decide) rfl (fun ls hl => ?_)
  refine lv_aload_n hx hb dX5_reckon_5 rfl (lv_at hl 1 rfl) ?_
  refine zk_Vi (As := []) (rest := []) (bytes := cX5_pop) (maxL := 1) (ret := (some .int)) Z h (zm_X5_pop l D k Γ L F_2 H.size th (v_pop (μ)) hth q_4) (cwV 0 hg zv_RX5_160 rfl rfl rfl zd_X5_pop ⟨z_leR hRf (by decide), z_leR hRl (by decide)⟩) hth (by decide) rfl rfl hl.1 rfl (Nat.le_of_ble_eq_true rfl) dX5_reckon_6 ⟨Nat.zero_le _, Nat.zero_le _⟩ (fun r_7 F_8 H locs w_9 h hfF_8 => ?_)
  obtain ⟨q_10, q_11, -⟩ := w_9
  have br_7 := zB.all r_7
  have hI_12 := h.2.1
  refine lv_istore_n (lv' := [(3, .int r_7), (2, .int r_1), (0, .ref th), (1, .int ac)]) hx hb dX5_reckon_9 rfl hl (by decide) rfl (fun ls hl => ?_)
  refine lv_iload_n hx hb dX5_reckon_10 rfl (lv_at hl 3 rfl) ?_
  by_cases c_13 : ac = 3
  · refine lv_tableIn (off := 33) (tgt := 44) hx hb dX5_reckon_11 (by rw [c_13]; decide) (by rw [c_13]; decide) (by rw [c_13]; rfl) (by decide) ?_
    have bac_13 : zB 3 3 ac := by rw [c_13]; exact zBc _ _ (by decide)
    refine lv_aload_n hx hb dX5_reckon_44 rfl (lv_at hl 2 rfl) ?_
    refine lv_iload_n hx hb dX5_reckon_45 rfl (lv_at hl 0 rfl) ?_
    refine lv_iload_n hx hb dX5_reckon_46 rfl (lv_at hl 1 rfl) ?_
    refine lv_iadd hx hb dX5_reckon_47 ?_
    refine zi_any (fun x_15 bx_15 ex_15 => ?_)
    refine zk_Vv (As := [.int x_15]) (rest := []) (bytes := cX5_push) (maxL := 2) (ret := none) Z h (zm_X5_push l D k Γ L F_8 H.size th x_15 (v_pop (v_pop (μ))) hth q_10) (cwV 1 hg zv_RX5_76 rfl rfl rfl zd_X5_push ⟨z_leR hRf (by decide), z_leR hRl (by decide)⟩) hth (by decide) rfl rfl hl.1 rfl (Nat.le_of_ble_eq_true rfl) dX5_reckon_48 ⟨Nat.zero_le _, Nat.zero_le _⟩ (fun F_16 H locs w_17 h hfF_16 => ?_)
    obtain ⟨q_18, -⟩ := w_17
    have hI_19 := h.2.1
    refine lv_goto (tgt := 162) hx hb dX5_reckon_51 (by decide) ?_
    have hb_ : v_both ru.toInt ac.toInt.toNat (v_top (v_pop μ)) (v_top μ) = x_15 := by
      rw [← q_11, ← q_5]
      have q0 := @Int32.lt_iff_toInt_lt; have q1 := @Int32.toInt_inj
      rw [show ac.toInt.toNat = 3 by have := br_7.1; have := br_7.2; have := br_1.1; have := br_1.2; have := bac_13.1; have := bac_13.2; have := bru.1; have := bru.2; omega]
      unfold v_both
      rw [if_pos (rfl : (3 : Nat) = 3)]
      exact ex_15.symm
    subst hQ
    exact W.vret hx hb hr (fun t ht hW => ⟨⟨F_16, rfl, ⟨(by unfold v_reckon; rw [hb_]; exact q_18), trivial⟩, by rw [ht]; exact h.1, h.2.1, (((hfF_2.w (by decide)).trans hfF_8 (by decide)).trans hfF_16 (by decide))⟩, h.2.2.F ht⟩) h.2.2.2.2 dX5_reckon_162
  · by_cases c_20 : ac = 4
    · refine lv_tableIn (off := 43) (tgt := 54) hx hb dX5_reckon_11 (by rw [c_20]; decide) (by rw [c_20]; decide) (by rw [c_20]; rfl) (by decide) ?_
      have bac_20 : zB 4 4 ac := by rw [c_20]; exact zBc _ _ (by decide)
      refine lv_aload_n hx hb dX5_reckon_54 rfl (lv_at hl 2 rfl) ?_
      refine lv_aload_n hx hb dX5_reckon_55 rfl (lv_at hl 2 rfl) ?_
      refine zt_getk (t := 5) (C := RX5) (T := TX5) (N := 19) Z h hth zin_5 rfl 11 (hfF_8.f hth 11 ⟨by decide, by decide⟩ (hfF_2.f hth 11 ⟨by decide, by decide⟩ kru)) ⟨by decide, rfl, by decide⟩ (zm_RX5 (List.mem_of_getElem? (i := 4) rfl)) (fun _ h9 => h9) dX5_reckon_56 ?_
      refine lv_iconst (v := 1) hx hb dX5_reckon_59 (by decide) ?_
      refine lv_icmp_ne (tgt := 69) hx hb dX5_reckon_60 (by decide) (fun c_22 => ?_) (fun c_22 => ?_)
      · have c_22 := z_ne c_22
        refine lv_iload_n hx hb dX5_reckon_69 rfl (lv_at hl 0 rfl) ?_
        refine lv_iload_n hx hb dX5_reckon_70 rfl (lv_at hl 1 rfl) ?_
        refine lv_isub hx hb dX5_reckon_71 ?_
        refine zi_any (fun x_23 bx_23 ex_23 => ?_)
        refine zk_Vv (As := [.int x_23]) (rest := []) (bytes := cX5_push) (maxL := 2) (ret := none) Z h (zm_X5_push l D k Γ L F_8 H.size th x_23 (v_pop (v_pop (μ))) hth q_10) (cwV 1 hg zv_RX5_76 rfl rfl rfl zd_X5_push ⟨z_leR hRf (by decide), z_leR hRl (by decide)⟩) hth (by decide) rfl rfl hl.1 rfl (Nat.le_of_ble_eq_true rfl) dX5_reckon_72 ⟨Nat.zero_le _, Nat.zero_le _⟩ (fun F_24 H locs w_25 h hfF_24 => ?_)
        obtain ⟨q_26, -⟩ := w_25
        have hI_27 := h.2.1
        refine lv_goto (tgt := 162) hx hb dX5_reckon_75 (by decide) ?_
        have hb_ : v_both ru.toInt ac.toInt.toNat (v_top (v_pop μ)) (v_top μ) = x_23 := by
          rw [← q_11, ← q_5]
          have q0 := @Int32.lt_iff_toInt_lt; have q1 := @Int32.toInt_inj
          rw [show ac.toInt.toNat = 4 by have := br_7.1; have := br_7.2; have := br_1.1; have := br_1.2; have := bac_20.1; have := bac_20.2; have := bru.1; have := bru.2; have : (1 : Int32).toInt = 1 := (by decide); omega]
          unfold v_both
          rw [if_neg (show ¬ (4 : Nat) = 3 by decide), if_pos (rfl : (4 : Nat) = 4)]
          rw [if_neg (show ¬ ru.toInt = 1 by have := br_7.1; have := br_7.2; have := br_1.1; have := br_1.2; have := bac_20.1; have := bac_20.2; have := bru.1; have := bru.2; have : (1 : Int32).toInt = 1 := (by decide); omega)]
          exact ex_23.symm
        subst hQ
        exact W.vret hx hb hr (fun t ht hW => ⟨⟨F_24, rfl, ⟨(by unfold v_reckon; rw [hb_]; exact q_26), trivial⟩, by rw [ht]; exact h.1, h.2.1, (((hfF_2.w (by decide)).trans hfF_8 (by decide)).trans hfF_24 (by decide))⟩, h.2.2.F ht⟩) h.2.2.2.2 dX5_reckon_162
      · have c_22 := z_eq c_22
        have bru_28 : zB 1 1 ru := zB.eqL (a := 0) (b := 0) c_22 (zBc 1 1 (by decide))
        refine lv_iload_n hx hb dX5_reckon_63 rfl (lv_at hl 1 rfl) ?_
        refine lv_iload_n hx hb dX5_reckon_64 rfl (lv_at hl 0 rfl) ?_
        refine lv_isub hx hb dX5_reckon_65 ?_
        refine zi_any (fun x_29 bx_29 ex_29 => ?_)
        refine lv_goto (tgt := 72) hx hb dX5_reckon_66 (by decide) ?_
        refine zk_Vv (As := [.int x_29]) (rest := []) (bytes := cX5_push) (maxL := 2) (ret := none) Z h (zm_X5_push l D k Γ L F_8 H.size th x_29 (v_pop (v_pop (μ))) hth q_10) (cwV 1 hg zv_RX5_76 rfl rfl rfl zd_X5_push ⟨z_leR hRf (by decide), z_leR hRl (by decide)⟩) hth (by decide) rfl rfl hl.1 rfl (Nat.le_of_ble_eq_true rfl) dX5_reckon_72 ⟨Nat.zero_le _, Nat.zero_le _⟩ (fun F_30 H locs w_31 h hfF_30 => ?_)
        obtain ⟨q_32, -⟩ := w_31
        have hI_33 := h.2.1
        refine lv_goto (tgt := 162) hx hb dX5_reckon_75 (by decide) ?_
        have hb_ : v_both ru.toInt ac.toInt.toNat (v_top (v_pop μ)) (v_top μ) = x_29 := by
          rw [← q_11, ← q_5]
          have q0 := @Int32.lt_iff_toInt_lt; have q1 := @Int32.toInt_inj
          rw [show ac.toInt.toNat = 4 by have := br_7.1; have := br_7.2; have := br_1.1; have := br_1.2; have := bac_20.1; have := bac_20.2; have := bru_28.1; have := bru_28.2; have : (1 : Int32).toInt = 1 := (by decide); omega]
          unfold v_both
          rw [if_neg (show ¬ (4 : Nat) = 3 by decide), if_pos (rfl : (4 : Nat) = 4)]
          rw [if_pos (show ru.toInt = 1 by have := br_7.1; have := br_7.2; have := br_1.1; have := br_1.2; have := bac_20.1; have := bac_20.2; have := bru_28.1; have := bru_28.2; have : (1 : Int32).toInt = 1 := (by decide); omega)]
          exact ex_29.symm
        subst hQ
        exact W.vret hx hb hr (fun t ht hW => ⟨⟨F_30, rfl, ⟨(by unfold v_reckon; rw [hb_]; exact q_32), trivial⟩, by rw [ht]; exact h.1, h.2.1, (((hfF_2.w (by decide)).trans hfF_8 (by decide)).trans hfF_30 (by decide))⟩, h.2.2.F ht⟩) h.2.2.2.2 dX5_reckon_162
    · by_cases c_34 : ac = 5
      · refine lv_tableIn (off := 67) (tgt := 78) hx hb dX5_reckon_11 (by rw [c_34]; decide) (by rw [c_34]; decide) (by rw [c_34]; rfl) (by decide) ?_
        have bac_34 : zB 5 5 ac := by rw [c_34]; exact zBc _ _ (by decide)
        refine lv_aload_n hx hb dX5_reckon_78 rfl (lv_at hl 2 rfl) ?_
        refine lv_aload_n hx hb dX5_reckon_79 rfl (lv_at hl 2 rfl) ?_
        refine zt_getk (t := 5) (C := RX5) (T := TX5) (N := 19) Z h hth zin_5 rfl 11 (hfF_8.f hth 11 ⟨by decide, by decide⟩ (hfF_2.f hth 11 ⟨by decide, by decide⟩ kru)) ⟨by decide, rfl, by decide⟩ (zm_RX5 (List.mem_of_getElem? (i := 4) rfl)) (fun _ h9 => h9) dX5_reckon_80 ?_
        refine lv_iconst (v := 3) hx hb dX5_reckon_83 (by decide) ?_
        refine lv_icmp_ne (tgt := 93) hx hb dX5_reckon_84 (by decide) (fun c_36 => ?_) (fun c_36 => ?_)
        · have c_36 := z_ne c_36
          refine lv_iload_n hx hb dX5_reckon_93 rfl (lv_at hl 0 rfl) ?_
          refine lv_iload_n hx hb dX5_reckon_94 rfl (lv_at hl 1 rfl) ?_
          refine lv_imul hx hb dX5_reckon_95 ?_
          refine zi_any (fun x_37 bx_37 ex_37 => ?_)
          refine zk_Vv (As := [.int x_37]) (rest := []) (bytes := cX5_push) (maxL := 2) (ret := none) Z h (zm_X5_push l D k Γ L F_8 H.size th x_37 (v_pop (v_pop (μ))) hth q_10) (cwV 1 hg zv_RX5_76 rfl rfl rfl zd_X5_push ⟨z_leR hRf (by decide), z_leR hRl (by decide)⟩) hth (by decide) rfl rfl hl.1 rfl (Nat.le_of_ble_eq_true rfl) dX5_reckon_96 ⟨Nat.zero_le _, Nat.zero_le _⟩ (fun F_38 H locs w_39 h hfF_38 => ?_)
          obtain ⟨q_40, -⟩ := w_39
          have hI_41 := h.2.1
          refine lv_goto (tgt := 162) hx hb dX5_reckon_99 (by decide) ?_
          have hb_ : v_both ru.toInt ac.toInt.toNat (v_top (v_pop μ)) (v_top μ) = x_37 := by
            rw [← q_11, ← q_5]
            have q0 := @Int32.lt_iff_toInt_lt; have q1 := @Int32.toInt_inj
            rw [show ac.toInt.toNat = 5 by have := br_7.1; have := br_7.2; have := br_1.1; have := br_1.2; have := bac_34.1; have := bac_34.2; have := bru.1; have := bru.2; have : (3 : Int32).toInt = 3 := (by decide); omega]
            unfold v_both
            rw [if_neg (show ¬ (5 : Nat) = 3 by decide), if_neg (show ¬ (5 : Nat) = 4 by decide), if_pos (rfl : (5 : Nat) = 5)]
            rw [if_neg (show ¬ ru.toInt = 3 by have := br_7.1; have := br_7.2; have := br_1.1; have := br_1.2; have := bac_34.1; have := bac_34.2; have := bru.1; have := bru.2; have : (3 : Int32).toInt = 3 := (by decide); omega)]
            exact ex_37.symm
          subst hQ
          exact W.vret hx hb hr (fun t ht hW => ⟨⟨F_38, rfl, ⟨(by unfold v_reckon; rw [hb_]; exact q_40), trivial⟩, by rw [ht]; exact h.1, h.2.1, (((hfF_2.w (by decide)).trans hfF_8 (by decide)).trans hfF_38 (by decide))⟩, h.2.2.F ht⟩) h.2.2.2.2 dX5_reckon_162
        · have c_36 := z_eq c_36
          have bru_42 : zB 3 3 ru := zB.eqL (a := 0) (b := 0) c_36 (zBc 3 3 (by decide))
          refine lv_iload_n hx hb dX5_reckon_87 rfl (lv_at hl 0 rfl) ?_
          refine lv_iload_n hx hb dX5_reckon_88 rfl (lv_at hl 1 rfl) ?_
          refine lv_iadd hx hb dX5_reckon_89 ?_
          refine zi_any (fun x_43 bx_43 ex_43 => ?_)
          refine lv_goto (tgt := 96) hx hb dX5_reckon_90 (by decide) ?_
          refine zk_Vv (As := [.int x_43]) (rest := []) (bytes := cX5_push) (maxL := 2) (ret := none) Z h (zm_X5_push l D k Γ L F_8 H.size th x_43 (v_pop (v_pop (μ))) hth q_10) (cwV 1 hg zv_RX5_76 rfl rfl rfl zd_X5_push ⟨z_leR hRf (by decide), z_leR hRl (by decide)⟩) hth (by decide) rfl rfl hl.1 rfl (Nat.le_of_ble_eq_true rfl) dX5_reckon_96 ⟨Nat.zero_le _, Nat.zero_le _⟩ (fun F_44 H locs w_45 h hfF_44 => ?_)
          obtain ⟨q_46, -⟩ := w_45
          have hI_47 := h.2.1
          refine lv_goto (tgt := 162) hx hb dX5_reckon_99 (by decide) ?_
          have hb_ : v_both ru.toInt ac.toInt.toNat (v_top (v_pop μ)) (v_top μ) = x_43 := by
            rw [← q_11, ← q_5]
            have q0 := @Int32.lt_iff_toInt_lt; have q1 := @Int32.toInt_inj
            rw [show ac.toInt.toNat = 5 by have := br_7.1; have := br_7.2; have := br_1.1; have := br_1.2; have := bac_34.1; have := bac_34.2; have := bru_42.1; have := bru_42.2; have : (3 : Int32).toInt = 3 := (by decide); omega]
            unfold v_both
            rw [if_neg (show ¬ (5 : Nat) = 3 by decide), if_neg (show ¬ (5 : Nat) = 4 by decide), if_pos (rfl : (5 : Nat) = 5)]
            rw [if_pos (show ru.toInt = 3 by have := br_7.1; have := br_7.2; have := br_1.1; have := br_1.2; have := bac_34.1; have := bac_34.2; have := bru_42.1; have := bru_42.2; have : (3 : Int32).toInt = 3 := (by decide); omega)]
            exact ex_43.symm
          subst hQ
          exact W.vret hx hb hr (fun t ht hW => ⟨⟨F_44, rfl, ⟨(by unfold v_reckon; rw [hb_]; exact q_46), trivial⟩, by rw [ht]; exact h.1, h.2.1, (((hfF_2.w (by decide)).trans hfF_8 (by decide)).trans hfF_44 (by decide))⟩, h.2.2.F ht⟩) h.2.2.2.2 dX5_reckon_162
      · by_cases c_48 : ac = 6
        · refine lv_tableIn (off := 91) (tgt := 102) hx hb dX5_reckon_11 (by rw [c_48]; decide) (by rw [c_48]; decide) (by rw [c_48]; rfl) (by decide) ?_
          have bac_48 : zB 6 6 ac := by rw [c_48]; exact zBc _ _ (by decide)
          refine lv_aload_n hx hb dX5_reckon_102 rfl (lv_at hl 2 rfl) ?_
          refine lv_iload_n hx hb dX5_reckon_103 rfl (lv_at hl 0 rfl) ?_
          refine lv_iload_n hx hb dX5_reckon_104 rfl (lv_at hl 1 rfl) ?_
          refine lv_icmp_lt (tgt := 120) hx hb dX5_reckon_105 (by decide) (fun c_50 => ?_) (fun c_50 => ?_)
          · have c_50 := z_lt c_50
            have br_7_51 : zB (-2147483648) 2147483646 r_7 := zB.ltL c_50 br_7 br_1 (by decide)
            have br_1_52 : zB (-2147483647) 2147483647 r_1 := zB.ltR c_50 br_7 br_1 (by decide)
            refine lv_iconst (v := 1) hx hb dX5_reckon_120 (by decide) ?_
            refine lv_goto (tgt := 125) hx hb dX5_reckon_121 (by decide) ?_
            refine zk_Vv (As := [.int 1]) (rest := []) (bytes := cX5_push) (maxL := 2) (ret := none) Z h (zm_X5_push l D k Γ L F_8 H.size th 1 (v_pop (v_pop (μ))) hth q_10) (cwV 1 hg zv_RX5_76 rfl rfl rfl zd_X5_push ⟨z_leR hRf (by decide), z_leR hRl (by decide)⟩) hth (by decide) rfl rfl hl.1 rfl (Nat.le_of_ble_eq_true rfl) dX5_reckon_125 ⟨Nat.zero_le _, Nat.zero_le _⟩ (fun F_53 H locs w_54 h hfF_53 => ?_)
            obtain ⟨q_55, -⟩ := w_54
            have hI_56 := h.2.1
            refine lv_goto (tgt := 162) hx hb dX5_reckon_128 (by decide) ?_
            have hb_ : v_both ru.toInt ac.toInt.toNat (v_top (v_pop μ)) (v_top μ) = (1 : Int32) := by
              rw [← q_11, ← q_5]
              have q0 := @Int32.lt_iff_toInt_lt; have q1 := @Int32.toInt_inj
              rw [show ac.toInt.toNat = 6 by have := br_7_51.1; have := br_7_51.2; have := br_1_52.1; have := br_1_52.2; have := bac_48.1; have := bac_48.2; have := bru.1; have := bru.2; omega]
              unfold v_both
              rw [if_neg (show ¬ (6 : Nat) = 3 by decide), if_neg (show ¬ (6 : Nat) = 4 by decide), if_neg (show ¬ (6 : Nat) = 5 by decide), if_pos (rfl : (6 : Nat) = 6)]
              rw [if_pos (show (r_7 < r_1 ∨ (ru.toInt = 0 ∧ r_7 = r_1)) by rw [Int32.lt_iff_toInt_lt, ← Int32.toInt_inj]; have := br_7_51.1; have := br_7_51.2; have := br_1_52.1; have := br_1_52.2; have := bac_48.1; have := bac_48.2; have := bru.1; have := bru.2; omega)]
            subst hQ
            exact W.vret hx hb hr (fun t ht hW => ⟨⟨F_53, rfl, ⟨(by unfold v_reckon; rw [hb_]; exact q_55), trivial⟩, by rw [ht]; exact h.1, h.2.1, (((hfF_2.w (by decide)).trans hfF_8 (by decide)).trans hfF_53 (by decide))⟩, h.2.2.F ht⟩) h.2.2.2.2 dX5_reckon_162
          · have c_50 := z_nlt c_50
            refine lv_aload_n hx hb dX5_reckon_108 rfl (lv_at hl 2 rfl) ?_
            refine zt_getk (t := 5) (C := RX5) (T := TX5) (N := 19) Z h hth zin_5 rfl 11 (hfF_8.f hth 11 ⟨by decide, by decide⟩ (hfF_2.f hth 11 ⟨by decide, by decide⟩ kru)) ⟨by decide, rfl, by decide⟩ (zm_RX5 (List.mem_of_getElem? (i := 4) rfl)) (fun _ h9 => h9) dX5_reckon_109 ?_
            refine lv_if_ne (tgt := 124) hx hb dX5_reckon_112 (by decide) (fun c_57 => ?_) (fun c_57 => ?_)
            · have c_57 := z_ne c_57
              refine lv_iconst (v := 0) hx hb dX5_reckon_124 (by decide) ?_
              refine zk_Vv (As := [.int 0]) (rest := []) (bytes := cX5_push) (maxL := 2) (ret := none) Z h (zm_X5_push l D k Γ L F_8 H.size th 0 (v_pop (v_pop (μ))) hth q_10) (cwV 1 hg zv_RX5_76 rfl rfl rfl zd_X5_push ⟨z_leR hRf (by decide), z_leR hRl (by decide)⟩) hth (by decide) rfl rfl hl.1 rfl (Nat.le_of_ble_eq_true rfl) dX5_reckon_125 ⟨Nat.zero_le _, Nat.zero_le _⟩ (fun F_58 H locs w_59 h hfF_58 => ?_)
              obtain ⟨q_60, -⟩ := w_59
              have hI_61 := h.2.1
              refine lv_goto (tgt := 162) hx hb dX5_reckon_128 (by decide) ?_
              have hb_ : v_both ru.toInt ac.toInt.toNat (v_top (v_pop μ)) (v_top μ) = (0 : Int32) := by
                rw [← q_11, ← q_5]
                have q0 := @Int32.lt_iff_toInt_lt; have q1 := @Int32.toInt_inj
                rw [show ac.toInt.toNat = 6 by have := br_7.1; have := br_7.2; have := br_1.1; have := br_1.2; have := bac_48.1; have := bac_48.2; have := bru.1; have := bru.2; have : (0 : Int32).toInt = 0 := (by decide); omega]
                unfold v_both
                rw [if_neg (show ¬ (6 : Nat) = 3 by decide), if_neg (show ¬ (6 : Nat) = 4 by decide), if_neg (show ¬ (6 : Nat) = 5 by decide), if_pos (rfl : (6 : Nat) = 6)]
                rw [if_neg (show ¬ (r_7 < r_1 ∨ (ru.toInt = 0 ∧ r_7 = r_1)) by rw [Int32.lt_iff_toInt_lt, ← Int32.toInt_inj]; have := br_7.1; have := br_7.2; have := br_1.1; have := br_1.2; have := bac_48.1; have := bac_48.2; have := bru.1; have := bru.2; have : (0 : Int32).toInt = 0 := (by decide); omega)]
              subst hQ
              exact W.vret hx hb hr (fun t ht hW => ⟨⟨F_58, rfl, ⟨(by unfold v_reckon; rw [hb_]; exact q_60), trivial⟩, by rw [ht]; exact h.1, h.2.1, (((hfF_2.w (by decide)).trans hfF_8 (by decide)).trans hfF_58 (by decide))⟩, h.2.2.F ht⟩) h.2.2.2.2 dX5_reckon_162
            · have c_57 := z_eq c_57
              have bru_62 : zB 0 0 ru := zB.eqL (a := 0) (b := 0) c_57 (zBc 0 0 (by decide))
              refine lv_iload_n hx hb dX5_reckon_115 rfl (lv_at hl 0 rfl) ?_
              refine lv_iload_n hx hb dX5_reckon_116 rfl (lv_at hl 1 rfl) ?_
              refine lv_icmp_ne (tgt := 124) hx hb dX5_reckon_117 (by decide) (fun c_63 => ?_) (fun c_63 => ?_)
              · have c_63 := z_ne c_63
                refine lv_iconst (v := 0) hx hb dX5_reckon_124 (by decide) ?_
                refine zk_Vv (As := [.int 0]) (rest := []) (bytes := cX5_push) (maxL := 2) (ret := none) Z h (zm_X5_push l D k Γ L F_8 H.size th 0 (v_pop (v_pop (μ))) hth q_10) (cwV 1 hg zv_RX5_76 rfl rfl rfl zd_X5_push ⟨z_leR hRf (by decide), z_leR hRl (by decide)⟩) hth (by decide) rfl rfl hl.1 rfl (Nat.le_of_ble_eq_true rfl) dX5_reckon_125 ⟨Nat.zero_le _, Nat.zero_le _⟩ (fun F_64 H locs w_65 h hfF_64 => ?_)
                obtain ⟨q_66, -⟩ := w_65
                have hI_67 := h.2.1
                refine lv_goto (tgt := 162) hx hb dX5_reckon_128 (by decide) ?_
                have hb_ : v_both ru.toInt ac.toInt.toNat (v_top (v_pop μ)) (v_top μ) = (0 : Int32) := by
                  rw [← q_11, ← q_5]
                  have q0 := @Int32.lt_iff_toInt_lt; have q1 := @Int32.toInt_inj
                  rw [show ac.toInt.toNat = 6 by have := br_7.1; have := br_7.2; have := br_1.1; have := br_1.2; have := bac_48.1; have := bac_48.2; have := bru_62.1; have := bru_62.2; have : (0 : Int32).toInt = 0 := (by decide); omega]
                  unfold v_both
                  rw [if_neg (show ¬ (6 : Nat) = 3 by decide), if_neg (show ¬ (6 : Nat) = 4 by decide), if_neg (show ¬ (6 : Nat) = 5 by decide), if_pos (rfl : (6 : Nat) = 6)]
                  rw [if_neg (show ¬ (r_7 < r_1 ∨ (ru.toInt = 0 ∧ r_7 = r_1)) by rw [Int32.lt_iff_toInt_lt, ← Int32.toInt_inj]; have := br_7.1; have := br_7.2; have := br_1.1; have := br_1.2; have := bac_48.1; have := bac_48.2; have := bru_62.1; have := bru_62.2; have : (0 : Int32).toInt = 0 := (by decide); omega)]
                subst hQ
                exact W.vret hx hb hr (fun t ht hW => ⟨⟨F_64, rfl, ⟨(by unfold v_reckon; rw [hb_]; exact q_66), trivial⟩, by rw [ht]; exact h.1, h.2.1, (((hfF_2.w (by decide)).trans hfF_8 (by decide)).trans hfF_64 (by decide))⟩, h.2.2.F ht⟩) h.2.2.2.2 dX5_reckon_162
              · have c_63 := z_eq c_63
                refine lv_iconst (v := 1) hx hb dX5_reckon_120 (by decide) ?_
                refine lv_goto (tgt := 125) hx hb dX5_reckon_121 (by decide) ?_
                refine zk_Vv (As := [.int 1]) (rest := []) (bytes := cX5_push) (maxL := 2) (ret := none) Z h (zm_X5_push l D k Γ L F_8 H.size th 1 (v_pop (v_pop (μ))) hth q_10) (cwV 1 hg zv_RX5_76 rfl rfl rfl zd_X5_push ⟨z_leR hRf (by decide), z_leR hRl (by decide)⟩) hth (by decide) rfl rfl hl.1 rfl (Nat.le_of_ble_eq_true rfl) dX5_reckon_125 ⟨Nat.zero_le _, Nat.zero_le _⟩ (fun F_68 H locs w_69 h hfF_68 => ?_)
                obtain ⟨q_70, -⟩ := w_69
                have hI_71 := h.2.1
                refine lv_goto (tgt := 162) hx hb dX5_reckon_128 (by decide) ?_
                have hb_ : v_both ru.toInt ac.toInt.toNat (v_top (v_pop μ)) (v_top μ) = (1 : Int32) := by
                  rw [← q_11, ← q_5]
                  have q0 := @Int32.lt_iff_toInt_lt; have q1 := @Int32.toInt_inj
                  rw [show ac.toInt.toNat = 6 by have := br_7.1; have := br_7.2; have := br_1.1; have := br_1.2; have := bac_48.1; have := bac_48.2; have := bru_62.1; have := bru_62.2; have : (0 : Int32).toInt = 0 := (by decide); omega]
                  unfold v_both
                  rw [if_neg (show ¬ (6 : Nat) = 3 by decide), if_neg (show ¬ (6 : Nat) = 4 by decide), if_neg (show ¬ (6 : Nat) = 5 by decide), if_pos (rfl : (6 : Nat) = 6)]
                  rw [if_pos (show (r_7 < r_1 ∨ (ru.toInt = 0 ∧ r_7 = r_1)) by rw [Int32.lt_iff_toInt_lt, ← Int32.toInt_inj]; have := br_7.1; have := br_7.2; have := br_1.1; have := br_1.2; have := bac_48.1; have := bac_48.2; have := bru_62.1; have := bru_62.2; have : (0 : Int32).toInt = 0 := (by decide); omega)]
                subst hQ
                exact W.vret hx hb hr (fun t ht hW => ⟨⟨F_68, rfl, ⟨(by unfold v_reckon; rw [hb_]; exact q_70), trivial⟩, by rw [ht]; exact h.1, h.2.1, (((hfF_2.w (by decide)).trans hfF_8 (by decide)).trans hfF_68 (by decide))⟩, h.2.2.F ht⟩) h.2.2.2.2 dX5_reckon_162
        · by_cases c_72 : ac = 7
          · refine lv_tableIn (off := 120) (tgt := 131) hx hb dX5_reckon_11 (by rw [c_72]; decide) (by rw [c_72]; decide) (by rw [c_72]; rfl) (by decide) ?_
            have bac_72 : zB 7 7 ac := by rw [c_72]; exact zBc _ _ (by decide)
            refine lv_aload_n hx hb dX5_reckon_131 rfl (lv_at hl 2 rfl) ?_
            refine lv_iload_n hx hb dX5_reckon_132 rfl (lv_at hl 0 rfl) ?_
            refine lv_iload_n hx hb dX5_reckon_133 rfl (lv_at hl 1 rfl) ?_
            refine lv_icmp_le (tgt := 141) hx hb dX5_reckon_134 (by decide) (fun c_74 => ?_) (fun c_74 => ?_)
            · have c_74 := z_le c_74
              refine lv_iconst (v := 0) hx hb dX5_reckon_141 (by decide) ?_
              refine zk_Vv (As := [.int 0]) (rest := []) (bytes := cX5_push) (maxL := 2) (ret := none) Z h (zm_X5_push l D k Γ L F_8 H.size th 0 (v_pop (v_pop (μ))) hth q_10) (cwV 1 hg zv_RX5_76 rfl rfl rfl zd_X5_push ⟨z_leR hRf (by decide), z_leR hRl (by decide)⟩) hth (by decide) rfl rfl hl.1 rfl (Nat.le_of_ble_eq_true rfl) dX5_reckon_142 ⟨Nat.zero_le _, Nat.zero_le _⟩ (fun F_75 H locs w_76 h hfF_75 => ?_)
              obtain ⟨q_77, -⟩ := w_76
              have hI_78 := h.2.1
              refine lv_goto (tgt := 162) hx hb dX5_reckon_145 (by decide) ?_
              have hb_ : v_both ru.toInt ac.toInt.toNat (v_top (v_pop μ)) (v_top μ) = (0 : Int32) := by
                rw [← q_11, ← q_5]
                have q0 := @Int32.lt_iff_toInt_lt; have q1 := @Int32.toInt_inj
                rw [show ac.toInt.toNat = 7 by have := br_7.1; have := br_7.2; have := br_1.1; have := br_1.2; have := bac_72.1; have := bac_72.2; have := bru.1; have := bru.2; omega]
                unfold v_both
                rw [if_neg (show ¬ (7 : Nat) = 3 by decide), if_neg (show ¬ (7 : Nat) = 4 by decide), if_neg (show ¬ (7 : Nat) = 5 by decide), if_neg (show ¬ (7 : Nat) = 6 by decide), if_pos (rfl : (7 : Nat) = 7)]
                rw [if_neg (show ¬ (r_1 < r_7) by rw [Int32.lt_iff_toInt_lt]; have := br_7.1; have := br_7.2; have := br_1.1; have := br_1.2; have := bac_72.1; have := bac_72.2; have := bru.1; have := bru.2; omega)]
              subst hQ
              exact W.vret hx hb hr (fun t ht hW => ⟨⟨F_75, rfl, ⟨(by unfold v_reckon; rw [hb_]; exact q_77), trivial⟩, by rw [ht]; exact h.1, h.2.1, (((hfF_2.w (by decide)).trans hfF_8 (by decide)).trans hfF_75 (by decide))⟩, h.2.2.F ht⟩) h.2.2.2.2 dX5_reckon_162
            · have c_74 := z_nle c_74
              have br_1_79 : zB (-2147483648) 2147483646 r_1 := zB.ltL c_74 br_1 br_7 (by decide)
              have br_7_80 : zB (-2147483647) 2147483647 r_7 := zB.ltR c_74 br_1 br_7 (by decide)
              refine lv_iconst (v := 1) hx hb dX5_reckon_137 (by decide) ?_
              refine lv_goto (tgt := 142) hx hb dX5_reckon_138 (by decide) ?_
              refine zk_Vv (As := [.int 1]) (rest := []) (bytes := cX5_push) (maxL := 2) (ret := none) Z h (zm_X5_push l D k Γ L F_8 H.size th 1 (v_pop (v_pop (μ))) hth q_10) (cwV 1 hg zv_RX5_76 rfl rfl rfl zd_X5_push ⟨z_leR hRf (by decide), z_leR hRl (by decide)⟩) hth (by decide) rfl rfl hl.1 rfl (Nat.le_of_ble_eq_true rfl) dX5_reckon_142 ⟨Nat.zero_le _, Nat.zero_le _⟩ (fun F_81 H locs w_82 h hfF_81 => ?_)
              obtain ⟨q_83, -⟩ := w_82
              have hI_84 := h.2.1
              refine lv_goto (tgt := 162) hx hb dX5_reckon_145 (by decide) ?_
              have hb_ : v_both ru.toInt ac.toInt.toNat (v_top (v_pop μ)) (v_top μ) = (1 : Int32) := by
                rw [← q_11, ← q_5]
                have q0 := @Int32.lt_iff_toInt_lt; have q1 := @Int32.toInt_inj
                rw [show ac.toInt.toNat = 7 by have := br_7_80.1; have := br_7_80.2; have := br_1_79.1; have := br_1_79.2; have := bac_72.1; have := bac_72.2; have := bru.1; have := bru.2; omega]
                unfold v_both
                rw [if_neg (show ¬ (7 : Nat) = 3 by decide), if_neg (show ¬ (7 : Nat) = 4 by decide), if_neg (show ¬ (7 : Nat) = 5 by decide), if_neg (show ¬ (7 : Nat) = 6 by decide), if_pos (rfl : (7 : Nat) = 7)]
                rw [if_pos (show (r_1 < r_7) by rw [Int32.lt_iff_toInt_lt]; have := br_7_80.1; have := br_7_80.2; have := br_1_79.1; have := br_1_79.2; have := bac_72.1; have := bac_72.2; have := bru.1; have := bru.2; omega)]
              subst hQ
              exact W.vret hx hb hr (fun t ht hW => ⟨⟨F_81, rfl, ⟨(by unfold v_reckon; rw [hb_]; exact q_83), trivial⟩, by rw [ht]; exact h.1, h.2.1, (((hfF_2.w (by decide)).trans hfF_8 (by decide)).trans hfF_81 (by decide))⟩, h.2.2.F ht⟩) h.2.2.2.2 dX5_reckon_162
          · have nc_13 : ac.toInt ≠ 3 := z_nev c_13 (by decide)
            have nc_20 : ac.toInt ≠ 4 := z_nev c_20 (by decide)
            have nc_34 : ac.toInt ≠ 5 := z_nev c_34 (by decide)
            have nc_48 : ac.toInt ≠ 6 := z_nev c_48 (by decide)
            have nc_72 : ac.toInt ≠ 7 := z_nev c_72 (by decide)
            refine lv_tableOut (tgt := 148) hx hb dX5_reckon_11 (by have := (zB.all ac).1; have := (zB.all ac).2; omega) (by decide) ?_
            refine lv_aload_n hx hb dX5_reckon_148 rfl (lv_at hl 2 rfl) ?_
            refine lv_iload_n hx hb dX5_reckon_149 rfl (lv_at hl 0 rfl) ?_
            refine lv_iload_n hx hb dX5_reckon_150 rfl (lv_at hl 1 rfl) ?_
            refine lv_icmp_ne (tgt := 158) hx hb dX5_reckon_151 (by decide) (fun c_85 => ?_) (fun c_85 => ?_)
            · have c_85 := z_ne c_85
              refine lv_iconst (v := 0) hx hb dX5_reckon_158 (by decide) ?_
              refine zk_Vv (As := [.int 0]) (rest := []) (bytes := cX5_push) (maxL := 2) (ret := none) Z h (zm_X5_push l D k Γ L F_8 H.size th 0 (v_pop (v_pop (μ))) hth q_10) (cwV 1 hg zv_RX5_76 rfl rfl rfl zd_X5_push ⟨z_leR hRf (by decide), z_leR hRl (by decide)⟩) hth (by decide) rfl rfl hl.1 rfl (Nat.le_of_ble_eq_true rfl) dX5_reckon_159 ⟨Nat.zero_le _, Nat.zero_le _⟩ (fun F_86 H locs w_87 h hfF_86 => ?_)
              obtain ⟨q_88, -⟩ := w_87
              have hI_89 := h.2.1
              have hb_ : v_both ru.toInt ac.toInt.toNat (v_top (v_pop μ)) (v_top μ) = (0 : Int32) := by
                rw [← q_11, ← q_5]
                have q0 := @Int32.lt_iff_toInt_lt; have q1 := @Int32.toInt_inj
                unfold v_both
                rw [if_neg (show ¬ ac.toInt.toNat = 3 by have := br_7.1; have := br_7.2; have := br_1.1; have := br_1.2; have := (zB.all ac).1; have := (zB.all ac).2; have := bru.1; have := bru.2; omega), if_neg (show ¬ ac.toInt.toNat = 4 by have := br_7.1; have := br_7.2; have := br_1.1; have := br_1.2; have := (zB.all ac).1; have := (zB.all ac).2; have := bru.1; have := bru.2; omega), if_neg (show ¬ ac.toInt.toNat = 5 by have := br_7.1; have := br_7.2; have := br_1.1; have := br_1.2; have := (zB.all ac).1; have := (zB.all ac).2; have := bru.1; have := bru.2; omega), if_neg (show ¬ ac.toInt.toNat = 6 by have := br_7.1; have := br_7.2; have := br_1.1; have := br_1.2; have := (zB.all ac).1; have := (zB.all ac).2; have := bru.1; have := bru.2; omega), if_neg (show ¬ ac.toInt.toNat = 7 by have := br_7.1; have := br_7.2; have := br_1.1; have := br_1.2; have := (zB.all ac).1; have := (zB.all ac).2; have := bru.1; have := bru.2; omega)]
                rw [if_neg (show ¬ (r_7 = r_1) by rw [← Int32.toInt_inj]; have := br_7.1; have := br_7.2; have := br_1.1; have := br_1.2; have := (zB.all ac).1; have := (zB.all ac).2; have := bru.1; have := bru.2; omega)]
              subst hQ
              exact W.vret hx hb hr (fun t ht hW => ⟨⟨F_86, rfl, ⟨(by unfold v_reckon; rw [hb_]; exact q_88), trivial⟩, by rw [ht]; exact h.1, h.2.1, (((hfF_2.w (by decide)).trans hfF_8 (by decide)).trans hfF_86 (by decide))⟩, h.2.2.F ht⟩) h.2.2.2.2 dX5_reckon_162
            · have c_85 := z_eq c_85
              refine lv_iconst (v := 1) hx hb dX5_reckon_154 (by decide) ?_
              refine lv_goto (tgt := 159) hx hb dX5_reckon_155 (by decide) ?_
              refine zk_Vv (As := [.int 1]) (rest := []) (bytes := cX5_push) (maxL := 2) (ret := none) Z h (zm_X5_push l D k Γ L F_8 H.size th 1 (v_pop (v_pop (μ))) hth q_10) (cwV 1 hg zv_RX5_76 rfl rfl rfl zd_X5_push ⟨z_leR hRf (by decide), z_leR hRl (by decide)⟩) hth (by decide) rfl rfl hl.1 rfl (Nat.le_of_ble_eq_true rfl) dX5_reckon_159 ⟨Nat.zero_le _, Nat.zero_le _⟩ (fun F_90 H locs w_91 h hfF_90 => ?_)
              obtain ⟨q_92, -⟩ := w_91
              have hI_93 := h.2.1
              have hb_ : v_both ru.toInt ac.toInt.toNat (v_top (v_pop μ)) (v_top μ) = (1 : Int32) := by
                rw [← q_11, ← q_5]
                have q0 := @Int32.lt_iff_toInt_lt; have q1 := @Int32.toInt_inj
                unfold v_both
                rw [if_neg (show ¬ ac.toInt.toNat = 3 by have := br_7.1; have := br_7.2; have := br_1.1; have := br_1.2; have := (zB.all ac).1; have := (zB.all ac).2; have := bru.1; have := bru.2; omega), if_neg (show ¬ ac.toInt.toNat = 4 by have := br_7.1; have := br_7.2; have := br_1.1; have := br_1.2; have := (zB.all ac).1; have := (zB.all ac).2; have := bru.1; have := bru.2; omega), if_neg (show ¬ ac.toInt.toNat = 5 by have := br_7.1; have := br_7.2; have := br_1.1; have := br_1.2; have := (zB.all ac).1; have := (zB.all ac).2; have := bru.1; have := bru.2; omega), if_neg (show ¬ ac.toInt.toNat = 6 by have := br_7.1; have := br_7.2; have := br_1.1; have := br_1.2; have := (zB.all ac).1; have := (zB.all ac).2; have := bru.1; have := bru.2; omega), if_neg (show ¬ ac.toInt.toNat = 7 by have := br_7.1; have := br_7.2; have := br_1.1; have := br_1.2; have := (zB.all ac).1; have := (zB.all ac).2; have := bru.1; have := bru.2; omega)]
                rw [if_pos (show (r_7 = r_1) by rw [← Int32.toInt_inj]; have := br_7.1; have := br_7.2; have := br_1.1; have := br_1.2; have := (zB.all ac).1; have := (zB.all ac).2; have := bru.1; have := bru.2; omega)]
              subst hQ
              exact W.vret hx hb hr (fun t ht hW => ⟨⟨F_90, rfl, ⟨(by unfold v_reckon; rw [hb_]; exact q_92), trivial⟩, by rw [ht]; exact h.1, h.2.1, (((hfF_2.w (by decide)).trans hfF_8 (by decide)).trans hfF_90 (by decide))⟩, h.2.2.F ht⟩) h.2.2.2.2 dX5_reckon_162

set_option maxHeartbeats 4000000 in
set_option maxRecDepth 100000 in
theorem zm_X2_placeAt (l : Launch) (D : va_G) (k : Nat → ClassId) (Γ : Nat → Option Nat) (L : List Nat) (F : Nat → va_E) (sz : Nat) (fu : Nat) (i : Int32) (pc : Int32) (hfu : Γ fu = some 2) (kpc : zfld F fu 7 = .int pc) (bpc : zB 0 3 pc) (hr0 : 0 ≤ i.toInt ∧ i.toInt < pc.toInt) : Met l yX2_placeAt zwX2_placeAt ({ frames := 0, cells := 0, slots := 0, locals := 0 }) (va_Pc [.ref fu, .int i] (zP D k Γ L F sz)) (va_Qi (fun (r : Int32) (u : Nat → va_E) => F = u ∧ r = zar F fu 8 (Int32.toNatClampNeg i) ∧ True) (zQ D k Γ L F []) (zA L sz)) 0 0 (zA L sz) := by
  refine Met.ofW (cc := cX2_placeAt) (maxL := 2) (ret := (some .int)) (by decide) rfl ?_
  intro p e s m args below meth c s₁ B hml hv
  obtain ⟨rfl, hsz, hP, hK, hLn, hE, hI⟩ := hv
  have hx := B.exec
  have hb := B.bytes
  have hr := B.returns
  have hg : ∀ w ∈ zG, w.before _ s = true := fun w h9 => atoms_spec (ws := zwX2_placeAt) B.pre w (List.mem_cons_of_mem _ h9)
  have hown : s.vm.findClass RX2 = some m.cls := findClass_of_methodNamed B.named
  have hlocks := B.notSynchronized
  subst hsz
  have Z : zC p m c cX2_placeAt 2 s _ zG RX2 D k L := ⟨⟨hx, hb, hml, hown, hg⟩, hK, hLn, hE⟩
  have h : zH D k Γ L s F s.heap [] := ⟨hP, hI, va_S.rf⟩
  have hl := lv_entry ([.ref fu, .int i]) (n := 2) (Nat.le_of_ble_eq_true rfl)
  rw [lg_entry_eq]
  generalize (lg_sl ([.ref fu, .int i]) ++ List.replicate (2 - (lg_sl ([.ref fu, .int i])).length) Slot.unset).toArray = ls at hl ⊢
  have hl : lv_has ls 2 [(0, .ref fu), (1, .int i)] := hl
  clear hP hK hLn hE hI
  generalize hargs : ([.ref fu, .int i] : List Value).toArray = args at *
  refine z_start (fun R Q hRf hRl hQ => ?_)
  have hRf : R.frames = 0 := hRf
  have hRl : R.locals = 0 := hRl
  have h9 := h
  refine lv_iload_n hx hb dX2_placeAt_0 rfl (lv_at hl 1 rfl) ?_
  refine lv_if_lt (tgt := 30) hx hb dX2_placeAt_1 (by decide) (fun c_1 => ?_) (fun c_1 => ?_)
  · have c_1 := z_lt c_1
    have bi_2 : zB (-2147483648) (-1) i := zB.ltL c_1 (zB.all i) (zBc 0 0 (by decide)) (by decide)
    refine lv_iconst (v := 0) hx hb dX2_placeAt_30 (by decide) ?_
    subst hQ
    exact W.iret (v := 0) hx hb hr (fun t ht hW => ⟨⟨0, F, rfl, ⟨rfl, (by exfalso; have := bi_2.1; have := bi_2.2; have := bpc.1; have := bpc.2; have : (0 : Int32).toInt = 0 := (by decide); omega), trivial⟩, by rw [ht]; exact h.1, h.2.1, zFr.rf⟩, h.2.2.F ht⟩) h.2.2.2.2 dX2_placeAt_31
  · have c_1 := z_nlt c_1
    have bi_3 : zB 0 2147483647 i := zB.leR c_1 (zBc 0 0 (by decide)) (zB.all i) (by decide)
    refine lv_iload_n hx hb dX2_placeAt_4 rfl (lv_at hl 1 rfl) ?_
    refine lv_aload_n hx hb dX2_placeAt_5 rfl (lv_at hl 0 rfl) ?_
    refine zt_getk (t := 2) (C := RX2) (T := TX2) (N := 9) Z h hfu zin_2 rfl 7 kpc ⟨by decide, rfl, by decide⟩ (zm_RX2 (List.mem_of_getElem? (i := 6) rfl)) (fun _ h9 => h9) dX2_placeAt_6 ?_
    refine lv_icmp_ge (tgt := 30) hx hb dX2_placeAt_9 (by decide) (fun c_4 => ?_) (fun c_4 => ?_)
    · have c_4 := z_le c_4
      refine lv_iconst (v := 0) hx hb dX2_placeAt_30 (by decide) ?_
      subst hQ
      exact W.iret (v := 0) hx hb hr (fun t ht hW => ⟨⟨0, F, rfl, ⟨rfl, (by exfalso; have := bi_3.1; have := bi_3.2; have := bpc.1; have := bpc.2; have : (0 : Int32).toInt = 0 := (by decide); omega), trivial⟩, by rw [ht]; exact h.1, h.2.1, zFr.rf⟩, h.2.2.F ht⟩) h.2.2.2.2 dX2_placeAt_31
    · have c_4 := z_nle c_4
      have bi_5 : zB 0 2 i := zB.ltL c_4 bi_3 bpc (by decide)
      have bpc_6 : zB 1 3 pc := zB.ltR c_4 bi_3 bpc (by decide)
      refine lv_iload_n hx hb dX2_placeAt_12 rfl (lv_at hl 1 rfl) ?_
      refine lv_aload_n hx hb dX2_placeAt_13 rfl (lv_at hl 0 rfl) ?_
      refine zt_getr (t := 2) (C := RX2) (T := TX2) (N := 9) Z h hfu zin_2 rfl 8 rfl ⟨by decide, rfl⟩ (zm_RX2 (List.mem_of_getElem? (i := 8) rfl)) (fun _ h9 => h9) dX2_placeAt_14 (fun a_7 ka_7 ha_7 => ?_)
      refine zt_alen (t := 103) Z h ha_7 ⟨by decide, rfl⟩ (by decide) (v := 3) rfl dX2_placeAt_17 ?_
      refine lv_icmp_ge (tgt := 30) hx hb dX2_placeAt_18 (by decide) (fun c_8 => ?_) (fun c_8 => ?_)
      · have c_8 := z_le c_8
        exact zB.noLe c_8 (zBc 3 3 (by decide)) bi_5 (by decide)
      · have c_8 := z_nle c_8
        refine lv_aload_n hx hb dX2_placeAt_21 rfl (lv_at hl 0 rfl) ?_
        refine zt_getk (t := 2) (C := RX2) (T := TX2) (N := 9) Z h hfu zin_2 rfl 8 ka_7 ⟨by decide, rfl, by decide⟩ (zm_RX2 (List.mem_of_getElem? (i := 8) rfl)) (fun _ h9 => h9) dX2_placeAt_22 ?_
        refine lv_iload_n hx hb dX2_placeAt_25 rfl (lv_at hl 1 rfl) ?_
        refine zt_ialde (t := 103) Z h ha_7 ⟨by decide, rfl⟩ bi_5 ⟨by decide, by decide⟩ dX2_placeAt_26 (fun x_9 ex_9 bx_9 => ?_)
        refine lv_goto (tgt := 31) hx hb dX2_placeAt_27 (by decide) ?_
        subst hQ
        exact W.iret (v := x_9) hx hb hr (fun t ht hW => ⟨⟨x_9, F, rfl, ⟨rfl, (by rw [zar_eq ka_7]; exact ex_9.symm), trivial⟩, by rw [ht]; exact h.1, h.2.1, zFr.rf⟩, h.2.2.F ht⟩) h.2.2.2.2 dX2_placeAt_31

set_option maxHeartbeats 4000000 in
set_option maxRecDepth 100000 in
theorem zm_X1_has (l : Launch) (D : va_G) (k : Nat → ClassId) (Γ : Nat → Option Nat) (L : List Nat) (F : Nat → va_E) (sz : Nat) (co : Nat) (i : Int32) (cz : Int32) (hco : Γ co = some 1) (kcz : zfld F co 3 = .int cz) (bcz : zB 0 1200 cz) : Met l yX1_has zwX1_has ({ frames := 0, cells := 0, slots := 0, locals := 0 }) (va_Pc [.ref co, .int i] (zP D k Γ L F sz)) (va_Qi (fun (r : Int32) (u : Nat → va_E) => F = u ∧ zB 0 1 r ∧ ((r.toInt = 1 ∧ 0 ≤ i.toInt ∧ i.toInt < cz.toInt) ∨ (r.toInt = 0 ∧ (i.toInt < 0 ∨ cz.toInt ≤ i.toInt))) ∧ True) (zQ D k Γ L F []) (zA L sz)) 0 0 (zA L sz) := by
  refine Met.ofW (cc := cX1_has) (maxL := 2) (ret := (some .boolean)) (by decide) rfl ?_
  intro p e s m args below meth c s₁ B hml hv
  obtain ⟨rfl, hsz, hP, hK, hLn, hE, hI⟩ := hv
  have hx := B.exec
  have hb := B.bytes
  have hr := B.returns
  have hg : ∀ w ∈ zG, w.before _ s = true := fun w h9 => atoms_spec (ws := zwX1_has) B.pre w (List.mem_cons_of_mem _ h9)
  have hown : s.vm.findClass RX1 = some m.cls := findClass_of_methodNamed B.named
  have hlocks := B.notSynchronized
  subst hsz
  have Z : zC p m c cX1_has 2 s _ zG RX1 D k L := ⟨⟨hx, hb, hml, hown, hg⟩, hK, hLn, hE⟩
  have h : zH D k Γ L s F s.heap [] := ⟨hP, hI, va_S.rf⟩
  have hl := lv_entry ([.ref co, .int i]) (n := 2) (Nat.le_of_ble_eq_true rfl)
  rw [lg_entry_eq]
  generalize (lg_sl ([.ref co, .int i]) ++ List.replicate (2 - (lg_sl ([.ref co, .int i])).length) Slot.unset).toArray = ls at hl ⊢
  have hl : lv_has ls 2 [(0, .ref co), (1, .int i)] := hl
  clear hP hK hLn hE hI
  generalize hargs : ([.ref co, .int i] : List Value).toArray = args at *
  refine z_start (fun R Q hRf hRl hQ => ?_)
  have hRf : R.frames = 0 := hRf
  have hRl : R.locals = 0 := hRl
  have h9 := h
  refine lv_iload_n hx hb dX1_has_0 rfl (lv_at hl 1 rfl) ?_
  refine lv_if_lt (tgt := 25) hx hb dX1_has_1 (by decide) (fun c_1 => ?_) (fun c_1 => ?_)
  · have c_1 := z_lt c_1
    have bi_2 : zB (-2147483648) (-1) i := zB.ltL c_1 (zB.all i) (zBc 0 0 (by decide)) (by decide)
    refine lv_iconst (v := 0) hx hb dX1_has_25 (by decide) ?_
    subst hQ
    exact W.zret (v := 0) hx hb hr (by decide) (fun t ht hW => ⟨⟨0, F, rfl, ⟨rfl, (zB.of ⟨by decide, by decide⟩), (by have := bi_2.1; have := bi_2.2; have := bcz.1; have := bcz.2; have : (0 : Int32).toInt = 0 := (by decide); omega), trivial⟩, by rw [ht]; exact h.1, h.2.1, zFr.rf⟩, h.2.2.F ht⟩) h.2.2.2.2 dX1_has_26
  · have c_1 := z_nlt c_1
    have bi_3 : zB 0 2147483647 i := zB.leR c_1 (zBc 0 0 (by decide)) (zB.all i) (by decide)
    refine lv_iload_n hx hb dX1_has_4 rfl (lv_at hl 1 rfl) ?_
    refine lv_aload_n hx hb dX1_has_5 rfl (lv_at hl 0 rfl) ?_
    refine zt_getk (t := 1) (C := RX1) (T := TX1) (N := 4) Z h hco zin_1 rfl 3 kcz ⟨by decide, rfl, by decide⟩ (zm_RX1 (List.mem_of_getElem? (i := 2) rfl)) (fun _ h9 => h9) dX1_has_6 ?_
    refine lv_icmp_ge (tgt := 25) hx hb dX1_has_9 (by decide) (fun c_4 => ?_) (fun c_4 => ?_)
    · have c_4 := z_le c_4
      refine lv_iconst (v := 0) hx hb dX1_has_25 (by decide) ?_
      subst hQ
      exact W.zret (v := 0) hx hb hr (by decide) (fun t ht hW => ⟨⟨0, F, rfl, ⟨rfl, (zB.of ⟨by decide, by decide⟩), (by have := bi_3.1; have := bi_3.2; have := bcz.1; have := bcz.2; have : (0 : Int32).toInt = 0 := (by decide); omega), trivial⟩, by rw [ht]; exact h.1, h.2.1, zFr.rf⟩, h.2.2.F ht⟩) h.2.2.2.2 dX1_has_26
    · have c_4 := z_nle c_4
      have bi_5 : zB 0 1199 i := zB.ltL c_4 bi_3 bcz (by decide)
      have bcz_6 : zB 1 1200 cz := zB.ltR c_4 bi_3 bcz (by decide)
      refine lv_iload_n hx hb dX1_has_12 rfl (lv_at hl 1 rfl) ?_
      refine lv_aload_n hx hb dX1_has_13 rfl (lv_at hl 0 rfl) ?_
      refine zt_getr (t := 1) (C := RX1) (T := TX1) (N := 4) Z h hco zin_1 rfl 0 rfl ⟨by decide, rfl⟩ (zm_RX1 (List.mem_of_getElem? (i := 4) rfl)) (fun _ h9 => h9) dX1_has_14 (fun a_7 ka_7 ha_7 => ?_)
      refine zt_alen (t := 102) Z h ha_7 ⟨by decide, rfl⟩ (by decide) (v := 1200) rfl dX1_has_17 ?_
      refine lv_icmp_ge (tgt := 25) hx hb dX1_has_18 (by decide) (fun c_8 => ?_) (fun c_8 => ?_)
      · have c_8 := z_le c_8
        exact zB.noLe c_8 (zBc 1200 1200 (by decide)) bi_5 (by decide)
      · have c_8 := z_nle c_8
        refine lv_iconst (v := 1) hx hb dX1_has_21 (by decide) ?_
        refine lv_goto (tgt := 26) hx hb dX1_has_22 (by decide) ?_
        subst hQ
        exact W.zret (v := 1) hx hb hr (by decide) (fun t ht hW => ⟨⟨1, F, rfl, ⟨rfl, (zB.of ⟨by decide, by decide⟩), (by have := bi_5.1; have := bi_5.2; have := bcz_6.1; have := bcz_6.2; have : (0 : Int32).toInt = 0 := (by decide); have : (1 : Int32).toInt = 1 := (by decide); have : (1200 : Int32).toInt = 1200 := (by decide); omega), trivial⟩, by rw [ht]; exact h.1, h.2.1, zFr.rf⟩, h.2.2.F ht⟩) h.2.2.2.2 dX1_has_26

set_option maxHeartbeats 4000000 in
set_option maxRecDepth 100000 in
theorem zm_X5_enter (l : Launch) (D : va_G) (k : Nat → ClassId) (Γ : Nat → Option Nat) (L : List Nat) (F : Nat → va_E) (sz : Nat) (th : Nat) (f : Int32) (μ : zVm) (fa : Nat → Nat) (pg : zPg) (pr : Nat) (hth : Γ th = some 5) (p_vm : zVc F th μ) (kpr : zfld F th 10 = .ref pr) (hpr : Γ pr = some 6) (p_vp : zVp Γ F pr fa pg) (hr0 : vdp μ ≤ 8) : Met l yX5_enter zwX5_enter ({ frames := 1, cells := 0, slots := 0, locals := 40 }) (va_Pc [.ref th, .int f] (zP D k Γ L F sz)) (va_Qv (fun (u : Nat → va_E) => zVc u th (v_enter pg f.toInt μ) ∧ True) (zQ D k Γ L F [500, 505, 513, 514, 515, 518, 11000, 11100]) (zA L sz)) 0 0 (zA L sz) := by
  refine Met.ofW (cc := cX5_enter) (maxL := 4) (ret := none) (by decide) rfl ?_
  intro p e s m args below meth c s₁ B hml hv
  obtain ⟨rfl, hsz, hP, hK, hLn, hE, hI⟩ := hv
  have hx := B.exec
  have hb := B.bytes
  have hr := B.returns
  have hg : ∀ w ∈ zG, w.before _ s = true := fun w h9 => atoms_spec (ws := zwX5_enter) B.pre w (List.mem_cons_of_mem _ h9)
  have hown : s.vm.findClass RX5 = some m.cls := findClass_of_methodNamed B.named
  have hlocks := B.notSynchronized
  subst hsz
  have Z : zC p m c cX5_enter 4 s _ zG RX5 D k L := ⟨⟨hx, hb, hml, hown, hg⟩, hK, hLn, hE⟩
  have h : zH D k Γ L s F s.heap [] := ⟨hP, hI, va_S.rf⟩
  have hl := lv_entry ([.ref th, .int f]) (n := 4) (Nat.le_of_ble_eq_true rfl)
  rw [lg_entry_eq]
  generalize (lg_sl ([.ref th, .int f]) ++ List.replicate (4 - (lg_sl ([.ref th, .int f])).length) Slot.unset).toArray = ls at hl ⊢
  have hl : lv_has ls 4 [(0, .ref th), (1, .int f)] := hl
  clear hP hK hLn hE hI
  generalize hargs : ([.ref th, .int f] : List Value).toArray = args at *
  refine z_start (fun R Q hRf hRl hQ => ?_)
  have hRf : R.frames = 1 := hRf
  have hRl : R.locals = 40 := hRl
  have h9 := h
  have hI0 := h.2.1
  obtain ⟨dp_, kdp_, tdp_⟩ := p_vm.dp
  have bdp_ : zB 0 8 dp_ := ⟨by omega, by omega⟩
  obtain ⟨nx_, knx_, tnx_⟩ := p_vm.nx
  have bnx_ : zB (-2147483648) 2147483647 nx_ := zB.all _
  obtain ⟨mx_, kmx_, tmx_⟩ := p_vm.mx
  have bmx_ : zB (-2147483648) 2147483647 mx_ := zB.all _
  obtain ⟨fc_, kfc_, tfc_⟩ := p_vp.2.1
  have hfc_ := p_vp.2.2.1
  have bfc_ : zB 0 10 fc_ := ⟨by omega, by omega⟩
  refine lv_aload_n hx hb dX5_enter_0 rfl (lv_at hl 0 rfl) ?_
  refine zt_getk (t := 5) (C := RX5) (T := TX5) (N := 19) Z h hth zin_5 rfl 15 kdp_ ⟨by decide, rfl, by decide⟩ (zm_RX5 (List.mem_of_getElem? (i := 12) rfl)) (fun _ h9 => h9) dX5_enter_1 ?_
  refine lv_bipush (v := 8) hx hb dX5_enter_4 (by decide) ?_
  refine lv_icmp_lt (tgt := 15) hx hb dX5_enter_6 (by decide) (fun c_1 => ?_) (fun c_1 => ?_)
  · have c_1 := z_lt c_1
    have bdp__2 : zB 0 7 dp_ := zB.ltL c_1 bdp_ (zBc 8 8 (by decide)) (by decide)
    refine lv_aload_n hx hb dX5_enter_15 rfl (lv_at hl 0 rfl) ?_
    refine zt_getk (t := 5) (C := RX5) (T := TX5) (N := 19) Z h hth zin_5 rfl 10 kpr ⟨by decide, rfl, by decide⟩ (zm_RX5 (List.mem_of_getElem? (i := 2) rfl)) (fun _ h9 => h9) dX5_enter_16 ?_
    refine lv_iload_n hx hb dX5_enter_19 rfl (lv_at hl 1 rfl) ?_
    refine zk_Vi (As := [.int f]) (rest := []) (bytes := cX6_hasFunction) (maxL := 2) (ret := (some .boolean)) Z h (ze_X6_hasFunction l D k Γ L F s.heap.size pr f fc_ hpr kfc_ bfc_) (cwV 1 hg zv_RX5_70 rfl rfl rfl zd_X6_hasFunction ⟨z_leR hRf (by decide), z_leR hRl (by decide)⟩) hpr (by decide) rfl rfl hl.1 rfl (Nat.le_of_ble_eq_true rfl) dX5_enter_20 ⟨Nat.zero_le _, Nat.zero_le _⟩ (fun r_3 F_4 H locs w_5 h hfF_4 => ?_)
    obtain ⟨rfl, br_3, q_6, q_7, -⟩ := w_5
    refine lv_if_ne (tgt := 27) hx hb dX5_enter_23 (by decide) (fun c_8 => ?_) (fun c_8 => ?_)
    · have q_9 := q_6 c_8
      have c_8 := z_ne c_8
      have br_3_10 : zB 1 1 r_3 := zB.neLo c_8 br_3 (zBc 0 0 (by decide)) (by decide)
      refine lv_aload_n hx hb dX5_enter_27 rfl (lv_at hl 0 rfl) ?_
      refine zt_getk (t := 5) (C := RX5) (T := TX5) (N := 19) Z h hth zin_5 rfl 10 kpr ⟨by decide, rfl, by decide⟩ (zm_RX5 (List.mem_of_getElem? (i := 2) rfl)) (fun _ h9 => h9) dX5_enter_28 ?_
      refine zt_getr (t := 6) (C := RX6) (T := TX6) (N := 6) Z h hpr zin_6 rfl 2 rfl ⟨by decide, rfl⟩ (zm_RX5 (List.mem_of_getElem? (i := 20) rfl)) (fun _ h9 => h9) dX5_enter_31 (fun a_11 ka_11 ha_11 => ?_)
      refine lv_iload_n hx hb dX5_enter_34 rfl (lv_at hl 1 rfl) ?_
      have bf_12 : zB 0 9 f := ⟨by have := (zB.all f).1; have := (zB.all f).2; have := bdp__2.1; have := bdp__2.2; have := bnx_.1; have := bnx_.2; have := bmx_.1; have := bmx_.2; have := bfc_.1; have := bfc_.2; have : (0 : Int32).toInt = 0 := (by decide); have : (8 : Int32).toInt = 8 := (by decide); omega, by have := (zB.all f).1; have := (zB.all f).2; have := bdp__2.1; have := bdp__2.2; have := bnx_.1; have := bnx_.2; have := bmx_.1; have := bmx_.2; have := bfc_.1; have := bfc_.2; have : (0 : Int32).toInt = 0 := (by decide); have : (8 : Int32).toInt = 8 := (by decide); omega⟩
      refine zt_aalde (t := 104) (t1 := 2) Z h ha_11 ⟨by decide, rfl⟩ (by decide) bf_12 ⟨by decide, by decide⟩ dX5_enter_35 (fun a_13 ea_13 ha_13 => ?_)
      have hfa_ := p_vp.1.at ka_11 ea_13 (by have := bf_12.1; have := bf_12.2; have := bdp__2.1; have := bdp__2.2; have := bnx_.1; have := bnx_.2; have := bmx_.1; have := bmx_.2; have := bfc_.1; have := bfc_.2; have : (0 : Int32).toInt = 0 := (by decide); have : (8 : Int32).toInt = 8 := (by decide); omega)
      have hff_ := p_vp.2.2.2 f.toInt.toNat (by have := bf_12.1; have := bf_12.2; have := bdp__2.1; have := bdp__2.2; have := bnx_.1; have := bnx_.2; have := bmx_.1; have := bmx_.2; have := bfc_.1; have := bfc_.2; have : (0 : Int32).toInt = 0 := (by decide); have : (8 : Int32).toInt = 8 := (by decide); omega)
      rw [← hfa_] at hff_
      obtain ⟨⟨pc_, kpc_, tpc_⟩, hpc3_, ⟨fi_, kfi_, tfi_⟩, had_, hpl_⟩ := hff_
      have bpc_ : zB 0 3 pc_ := ⟨by omega, by omega⟩
      have bfi_ : zB 0 2147483647 fi_ := ⟨by omega, (zB.all fi_).2⟩
      refine lv_astore_n (lv' := [(2, .ref a_13), (0, .ref th), (1, .int f)]) hx hb dX5_enter_36 rfl hl (by decide) rfl (fun ls hl => ?_)
      refine lv_aload_n hx hb dX5_enter_37 rfl (lv_at hl 1 rfl) ?_
      refine zt_getr (t := 5) (C := RX5) (T := TX5) (N := 19) Z h hth zin_5 rfl 16 rfl ⟨by decide, rfl⟩ (zm_RX5 (List.mem_of_getElem? (i := 96) rfl)) (fun _ h9 => h9) dX5_enter_38 (fun a_14 ka_14 ha_14 => ?_)
      refine lv_aload_n hx hb dX5_enter_41 rfl (lv_at hl 1 rfl) ?_
      refine zt_getk (t := 5) (C := RX5) (T := TX5) (N := 19) Z h hth zin_5 rfl 15 kdp_ ⟨by decide, rfl, by decide⟩ (zm_RX5 (List.mem_of_getElem? (i := 12) rfl)) (fun _ h9 => h9) dX5_enter_42 ?_
      refine lv_aload_n hx hb dX5_enter_45 rfl (lv_at hl 1 rfl) ?_
      refine zt_getk (t := 5) (C := RX5) (T := TX5) (N := 19) Z h hth zin_5 rfl 14 knx_ ⟨by decide, rfl, by decide⟩ (zm_RX5 (List.mem_of_getElem? (i := 31) rfl)) (fun _ h9 => h9) dX5_enter_46 ?_
      have ad_16 := z_ad (j := 16) (c := 111) h.2.1 hth (by decide) rfl
      refine zt_iaste (t := 111) Z h ha_14 ⟨by decide, rfl⟩ bdp__2 ⟨by decide, by decide⟩ bnx_ dX5_enter_49 (fun H locs F_15 h hfF_15 eF_15 gF_15 => ?_)
      have uF_15 := (zar_st ka_14 (hfF_15.f hth 16 ⟨by decide, by decide⟩ ka_14) eF_15 gF_15).trans (congrArg (fun z => upd z (Int32.toNatClampNeg dp_) nx_) (rfl : zar F th 16 = (zar F th 16)))
      refine lv_aload_n hx hb dX5_enter_50 rfl (lv_at hl 1 rfl) ?_
      refine lv_dup hx hb dX5_enter_51 rfl ?_
      refine zt_getk (t := 5) (C := RX5) (T := TX5) (N := 19) Z h hth zin_5 rfl 15 (hfF_15.f hth 15 ⟨by decide, by decide⟩ kdp_) ⟨by decide, rfl, by decide⟩ (zm_RX5 (List.mem_of_getElem? (i := 12) rfl)) (fun _ h9 => h9) dX5_enter_52 ?_
      refine lv_iconst (v := 1) hx hb dX5_enter_55 (by decide) ?_
      refine lv_iadd hx hb dX5_enter_56 ?_
      refine zi_add (lo := 1) (hi := 8) bdp__2 (zBc 1 1 (by decide)) (by decide) (fun x_17 bx_17 tx_17 => ?_)
      refine zt_put (t := 5) (C := RX5) (T := TX5) (N := 19) (v := .int x_17) Z h hth zin_5 tyX5 tyX5_ok nmX5 rfl 15 rfl ⟨by decide, rfl⟩ (zm_RX5 (List.mem_of_getElem? (i := 12) rfl)) (fun _ h9 => h9) rfl (zV.i (bx_17.w ⟨by decide, by decide⟩)) rfl rfl dX5_enter_57 (fun H locs F_18 h hfF_18 kF_18 => ?_)
      refine lv_aload_n hx hb dX5_enter_60 rfl (lv_at hl 1 rfl) ?_
      refine lv_aload_n hx hb dX5_enter_61 rfl (lv_at hl 1 rfl) ?_
      refine zt_getk (t := 5) (C := RX5) (T := TX5) (N := 19) Z h hth zin_5 rfl 5 (hfF_18.f hth 5 ⟨by decide, by decide⟩ (hfF_15.f hth 5 ⟨by decide, by decide⟩ kmx_)) ⟨by decide, rfl, by decide⟩ (zm_RX5 (List.mem_of_getElem? (i := 10) rfl)) (fun _ h9 => h9) dX5_enter_62 ?_
      refine lv_aload_n hx hb dX5_enter_65 rfl (lv_at hl 1 rfl) ?_
      refine zt_getk (t := 5) (C := RX5) (T := TX5) (N := 19) Z h hth zin_5 rfl 15 kF_18 ⟨by decide, rfl, by decide⟩ (zm_RX5 (List.mem_of_getElem? (i := 12) rfl)) (fun _ h9 => h9) dX5_enter_66 ?_
      refine va_mmax hx hb (by rw [hml]; exact hl.1.symm) hown (hg _ (zm_RX5 (List.mem_of_getElem? (i := 97) rfl))) (hg _ (zm_RX5 (List.mem_of_getElem? (i := 98) rfl))) (hg _ (zm_RX5 (List.mem_of_getElem? (i := 24) rfl))) (hg _ (zm_RX5 (List.mem_of_getElem? (i := 99) rfl))) (z_leR hRf (by decide)) (z_leR hRl (Nat.le_of_ble_eq_true rfl)) (Nat.zero_le _) (Nat.zero_le _) dX5_enter_69 ?_
      refine zi_max (lo := 1) (hi := 2147483647) bmx_ bx_17 (by decide) (fun x_19 bx_19 tx_19 => ?_)
      refine zt_put (t := 5) (C := RX5) (T := TX5) (N := 19) (v := .int x_19) Z h hth zin_5 tyX5 tyX5_ok nmX5 rfl 5 rfl ⟨by decide, rfl⟩ (zm_RX5 (List.mem_of_getElem? (i := 10) rfl)) (fun _ h9 => h9) rfl (zV.i (bx_19.w ⟨by decide, by decide⟩)) rfl rfl dX5_enter_72 (fun H locs F_20 h hfF_20 kF_20 => ?_)
      have ad_21 := ad_16.fr hfF_15 hth ⟨by decide, by decide⟩
      have ad_22 := ad_21.fr hfF_18 hth ⟨by decide, by decide⟩
      have ar_23 : zar F_20 th 16 = (upd (zar F th 16) (Int32.toNatClampNeg dp_) nx_) := ((ad_22.ar hfF_20 hth ⟨by decide, by decide⟩ ⟨by decide, by decide⟩).trans ((ad_21.ar hfF_18 hth ⟨by decide, by decide⟩ ⟨by decide, by decide⟩).trans uF_15))
      have hv_24 : zFr Γ [505, 515, 11100] F F_20 := (((hfF_15.w (by decide)).trans hfF_18 (by decide)).trans hfF_20 (by decide))
      have vm_25 : zVc F_20 th (v_new μ) := ⟨⟨(p_vm.en.fr hv_24 hth ⟨by decide, by decide⟩), (hv_24.f hth 1 ⟨by decide, by decide⟩ p_vm.vl), (p_vm.go.fr hv_24 hth ⟨by decide, by decide⟩)⟩, ⟨(p_vm.st.fr hv_24 hth ⟨by decide, by decide⟩), (hv_24.f hth 6 ⟨by decide, by decide⟩ p_vm.cv), (p_vm.sc.fr hv_24 hth ⟨by decide, by decide⟩), ((zVa (j := 7) (c := 108) hI0 hth hv_24 ⟨by decide, rfl⟩ ⟨⟨by decide, by decide⟩, by decide, by decide⟩).trans p_vm.sd), (p_vm.tc.fr hv_24 hth ⟨by decide, by decide⟩), ((zVa (j := 8) (c := 109) hI0 hth hv_24 ⟨by decide, rfl⟩ ⟨⟨by decide, by decide⟩, by decide, by decide⟩).trans p_vm.tr), (zFi.mk kF_20 (by show _ = ((max (vmx μ) (vdp μ + 1) : Nat) : Int); have := bf_12.1; have := bf_12.2; have := bdp__2.1; have := bdp__2.2; have := bnx_.1; have := bnx_.2; have := bx_17.1; have := bx_17.2; have := bx_19.1; have := bx_19.2; have := bfc_.1; have := bfc_.2; have := bpc_.1; have := bpc_.2; have := bfi_.1; have := bfi_.2; have : (0 : Int32).toInt = 0 := (by decide); have : (1 : Int32).toInt = 1 := (by decide); have : (8 : Int32).toInt = 8 := (by decide); omega))⟩, ⟨(p_vm.nx.fr hv_24 hth ⟨by decide, by decide⟩), (zFi.mk (hfF_20.f hth 15 ⟨by decide, by decide⟩ kF_18) (by show _ = ((vdp μ + 1 : Nat) : Int); have := bf_12.1; have := bf_12.2; have := bx_17.1; have := bx_17.2; have := bnx_.1; have := bnx_.2; have := bx_19.1; have := bx_19.2; have := bfc_.1; have := bfc_.2; have := bpc_.1; have := bpc_.2; have := bfi_.1; have := bfi_.2; have : (0 : Int32).toInt = 0 := (by decide); have : (1 : Int32).toInt = 1 := (by decide); have : (8 : Int32).toInt = 8 := (by decide); omega)), ((zVa (j := 9) (c := 110) hI0 hth hv_24 ⟨by decide, rfl⟩ ⟨⟨by decide, by decide⟩, by decide, by decide⟩).trans p_vm.pl), (fun j hj => by have h7 : j < vdp μ + 1 := hj; rw [ar_23]; show ((if j = Int32.toNatClampNeg dp_ then nx_ else zar F th 16 j : Int32)).toInt = (((if j = vdp μ then vnx μ else vbk μ j) : Nat) : Int) ∨ (((if j = Int32.toNatClampNeg dp_ then nx_ else zar F th 16 j : Int32)).toInt < 0 ∧ 1200 ≤ (if j = vdp μ then vnx μ else vbk μ j)); rw [show Int32.toNatClampNeg dp_ = vdp μ by rw [Int32.toNatClampNeg]; have := bf_12.1; have := bf_12.2; have := bdp__2.1; have := bdp__2.2; have := bnx_.1; have := bnx_.2; have := bx_17.1; have := bx_17.2; have := bx_19.1; have := bx_19.2; have := bfc_.1; have := bfc_.2; have := bpc_.1; have := bpc_.2; have := bfi_.1; have := bfi_.2; have : (0 : Int32).toInt = 0 := (by decide); have : (1 : Int32).toInt = 1 := (by decide); have : (8 : Int32).toInt = 8 := (by decide); omega]; by_cases h8 : j = vdp μ; { rw [if_pos h8, if_pos h8]; have := bf_12.1; have := bf_12.2; have := bdp__2.1; have := bdp__2.2; have := bnx_.1; have := bnx_.2; have := bx_17.1; have := bx_17.2; have := bx_19.1; have := bx_19.2; have := bfc_.1; have := bfc_.2; have := bpc_.1; have := bpc_.2; have := bfi_.1; have := bfi_.2; have : (0 : Int32).toInt = 0 := (by decide); have : (1 : Int32).toInt = 1 := (by decide); have : (8 : Int32).toInt = 8 := (by decide); omega }; { rw [if_neg h8, if_neg h8]; exact p_vm.bk j (by omega) })⟩, (p_vm.tp.fr hv_24 hth ⟨by decide, by decide⟩), (p_vm.sk.trans (congrArg (fun z => zvls z _) (zVa (j := 17) (c := 112) hI0 hth hv_24 ⟨by decide, rfl⟩ ⟨⟨by decide, by decide⟩, by decide, by decide⟩).symm)), p_vm.lh⟩
      have hI_26 := h.2.1
      have hd1_ : 1 ≤ vdp μ + 1 ∧ vdp μ + 1 ≤ 8 := (by have := bf_12.1; have := bf_12.2; have := bx_17.1; have := bx_17.2; have := bnx_.1; have := bnx_.2; have := bx_19.1; have := bx_19.2; have := bfc_.1; have := bfc_.2; have := bpc_.1; have := bpc_.2; have := bfi_.1; have := bfi_.2; have : (0 : Int32).toInt = 0 := (by decide); have : (1 : Int32).toInt = 1 := (by decide); have : (8 : Int32).toInt = 8 := (by decide); omega)
      refine lv_iconst (v := 0) hx hb dX5_enter_75 (by decide) ?_
      refine lv_istore_n (lv' := [(3, .int 0), (2, .ref a_13), (0, .ref th), (1, .int f)]) hx hb dX5_enter_76 rfl hl (by decide) rfl (fun ls hl => ?_)
      have j_j77_27 : ∀ (n : Nat) (ls : Array Slot) (y3_j77_27 : Int32) (F_28 : Nat → va_E) (H : Heap) (locs : List Loc), lv_has ls 4 [(3, .int y3_j77_27), (2, .ref a_13), (0, .ref th)] → zB 0 8 y3_j77_27 → zH D k Γ L s F_28 H locs → zFr Γ [11000] F_20 F_28 → (zVc F_28 th (v_zer (v_new μ) y3_j77_27.toInt.toNat)) → (2147483647 - y3_j77_27.toInt).toNat = n → W p l e R s m args below meth c H locs 0 0 Q (F0 m 77 ls []) := by
        intro n
        induction n using Nat.strongRecOn with
        | _ n ih_j77_27 =>
          intro ls y3_j77_27 F_28 H locs hl by3_j77_27 h hfF_28 r0_j77_27 hn_j77_27
          have hI_29 := h.2.1
          refine lv_iload_n hx hb dX5_enter_77 rfl (lv_at hl 0 rfl) ?_
          refine lv_bipush (v := 8) hx hb dX5_enter_78 (by decide) ?_
          refine lv_icmp_ge (tgt := 95) hx hb dX5_enter_80 (by decide) (fun c_30 => ?_) (fun c_30 => ?_)
          · have c_30 := z_le c_30
            have by3_j77_27_31 : zB 8 8 y3_j77_27 := zB.leR c_30 (zBc 8 8 (by decide)) by3_j77_27 (by decide)
            have vm_32 : zVc F_28 th (v_room μ) := by have h7 := r0_j77_27; rw [show y3_j77_27.toInt.toNat = 8 by have := by3_j77_27_31.1; have := by3_j77_27_31.2; have := bx_17.1; have := bx_17.2; have := bnx_.1; have := bnx_.2; have := bx_19.1; have := bx_19.2; have := bfc_.1; have := bfc_.2; have := bpc_.1; have := bpc_.2; have := bfi_.1; have := bfi_.2; have : (0 : Int32).toInt = 0 := (by decide); have : (1 : Int32).toInt = 1 := (by decide); have : (8 : Int32).toInt = 8 := (by decide); omega] at h7; exact h7
            refine lv_aload_n hx hb dX5_enter_95 rfl (lv_at hl 1 rfl) ?_
            refine zt_getk (t := 2) (C := RX2) (T := TX2) (N := 9) Z h ha_13 zin_2 rfl 7 (hfF_28.f ha_13 7 ⟨by decide, by decide⟩ (hfF_20.f ha_13 7 ⟨by decide, by decide⟩ (hfF_18.f ha_13 7 ⟨by decide, by decide⟩ (hfF_15.f ha_13 7 ⟨by decide, by decide⟩ kpc_)))) ⟨by decide, rfl, by decide⟩ (zm_RX5 (List.mem_of_getElem? (i := 21) rfl)) (fun _ h9 => h9) dX5_enter_96 ?_
            refine lv_iconst (v := 1) hx hb dX5_enter_99 (by decide) ?_
            refine lv_isub hx hb dX5_enter_100 ?_
            refine zi_sub (lo := (-1)) (hi := 2) bpc_ (zBc 1 1 (by decide)) (by decide) (fun x_33 bx_33 tx_33 => ?_)
            refine lv_istore_n (lv' := [(3, .int x_33), (2, .ref a_13), (0, .ref th)]) hx hb dX5_enter_101 rfl hl (by decide) rfl (fun ls hl => ?_)
            have j_j102_34 : ∀ (n : Nat) (ls : Array Slot) (y3_j102_34 : Int32) (F_35 : Nat → va_E) (H : Heap) (locs : List Loc), lv_has ls 4 [(3, .int y3_j102_34), (2, .ref a_13), (0, .ref th)] → zB (-1) 2 y3_j102_34 → zH D k Γ L s F_35 H locs → zFr Γ [518, 11000] F_28 F_35 → (y3_j102_34.toInt ≤ ((pg.1.2 f.toInt.toNat : Nat) : Int) - 1) → (zVc F_35 th (v_tks pg f.toInt.toNat (pg.1.2 f.toInt.toNat) (((pg.1.2 f.toInt.toNat : Nat) : Int) - 1 - y3_j102_34.toInt).toNat (v_room μ))) → (y3_j102_34.toInt + 1).toNat = n → W p l e R s m args below meth c H locs 0 0 Q (F0 m 102 ls []) := by
              intro n
              induction n using Nat.strongRecOn with
              | _ n ih_j102_34 =>
                intro ls y3_j102_34 F_35 H locs hl by3_j102_34 h hfF_35 r0_j102_34 r1_j102_34 hn_j102_34
                have hI_36 := h.2.1
                refine lv_iload_n hx hb dX5_enter_102 rfl (lv_at hl 0 rfl) ?_
                refine lv_if_lt (tgt := 125) hx hb dX5_enter_103 (by decide) (fun c_37 => ?_) (fun c_37 => ?_)
                · have c_37 := z_lt c_37
                  have by3_j102_34_38 : zB (-1) (-1) y3_j102_34 := zB.ltL c_37 by3_j102_34 (zBc 0 0 (by decide)) (by decide)
                  refine lv_aload_n hx hb dX5_enter_125 rfl (lv_at hl 2 rfl) ?_
                  refine lv_aload_n hx hb dX5_enter_126 rfl (lv_at hl 1 rfl) ?_
                  refine zt_getk (t := 2) (C := RX2) (T := TX2) (N := 9) Z h ha_13 zin_2 rfl 5 (hfF_35.f ha_13 5 ⟨by decide, by decide⟩ (hfF_28.f ha_13 5 ⟨by decide, by decide⟩ (hfF_20.f ha_13 5 ⟨by decide, by decide⟩ (hfF_18.f ha_13 5 ⟨by decide, by decide⟩ (hfF_15.f ha_13 5 ⟨by decide, by decide⟩ kfi_))))) ⟨by decide, rfl, by decide⟩ (zm_RX5 (List.mem_of_getElem? (i := 104) rfl)) (fun _ h9 => h9) dX5_enter_127 ?_
                  refine zt_put (t := 5) (C := RX5) (T := TX5) (N := 19) (v := .int fi_) Z h hth zin_5 tyX5 tyX5_ok nmX5 rfl 14 rfl ⟨by decide, rfl⟩ (zm_RX5 (List.mem_of_getElem? (i := 31) rfl)) (fun _ h9 => h9) rfl (zV.i (bfi_.w ⟨by decide, by decide⟩)) rfl rfl dX5_enter_130 (fun H locs F_39 h hfF_39 kF_39 => ?_)
                  have vm_40 : zVc F_35 th (v_tks pg f.toInt.toNat (pg.1.2 f.toInt.toNat) (pg.1.2 f.toInt.toNat) (v_room μ)) := by have h7 := r1_j102_34; rw [show (((pg.1.2 f.toInt.toNat : Nat) : Int) - 1 - y3_j102_34.toInt).toNat = pg.1.2 f.toInt.toNat by have := by3_j102_34_38.1; have := by3_j102_34_38.2; have := bx_17.1; have := bx_17.2; have := bfi_.1; have := bfi_.2; have := bx_19.1; have := bx_19.2; have := bfc_.1; have := bfc_.2; have := bpc_.1; have := bpc_.2; have : (0 : Int32).toInt = 0 := (by decide); have : (1 : Int32).toInt = 1 := (by decide); have : (8 : Int32).toInt = 8 := (by decide); omega] at h7; exact h7
                  have hv_41 : zFr Γ [514] F_35 F_39 := hfF_39
                  have vm_42 : zVc F_39 th (v_go (v_tks pg f.toInt.toNat (pg.1.2 f.toInt.toNat) (pg.1.2 f.toInt.toNat) (v_room μ)) (pg.2.2 f.toInt.toNat)) := ⟨⟨(vm_40.en.fr hv_41 hth ⟨by decide, by decide⟩), (hv_41.f hth 1 ⟨by decide, by decide⟩ vm_40.vl), (vm_40.go.fr hv_41 hth ⟨by decide, by decide⟩)⟩, ⟨(vm_40.st.fr hv_41 hth ⟨by decide, by decide⟩), (hv_41.f hth 6 ⟨by decide, by decide⟩ vm_40.cv), (vm_40.sc.fr hv_41 hth ⟨by decide, by decide⟩), ((zVa (j := 7) (c := 108) hI_36 hth hv_41 ⟨by decide, rfl⟩ ⟨⟨by decide, by decide⟩, by decide, by decide⟩).trans vm_40.sd), (vm_40.tc.fr hv_41 hth ⟨by decide, by decide⟩), ((zVa (j := 8) (c := 109) hI_36 hth hv_41 ⟨by decide, rfl⟩ ⟨⟨by decide, by decide⟩, by decide, by decide⟩).trans vm_40.tr), (vm_40.mx.fr hv_41 hth ⟨by decide, by decide⟩)⟩, ⟨(zFnx.mk kF_39 (by show _ = ((pg.2.2 f.toInt.toNat : Nat) : Int); have := by3_j102_34_38.1; have := by3_j102_34_38.2; have := bx_17.1; have := bx_17.2; have := bfi_.1; have := bfi_.2; have := bx_19.1; have := bx_19.2; have := bfc_.1; have := bfc_.2; have := bpc_.1; have := bpc_.2; have : (0 : Int32).toInt = 0 := (by decide); have : (1 : Int32).toInt = 1 := (by decide); have : (8 : Int32).toInt = 8 := (by decide); omega)), (vm_40.dp.fr hv_41 hth ⟨by decide, by decide⟩), ((zVa (j := 9) (c := 110) hI_36 hth hv_41 ⟨by decide, rfl⟩ ⟨⟨by decide, by decide⟩, by decide, by decide⟩).trans vm_40.pl), (fun j hj => zNg_cg (congrFun (zVa (j := 16) (c := 111) hI_36 hth hv_41 ⟨by decide, rfl⟩ ⟨⟨by decide, by decide⟩, by decide, by decide⟩) j) (vm_40.bk j hj))⟩, (vm_40.tp.fr hv_41 hth ⟨by decide, by decide⟩), (vm_40.sk.trans (congrArg (fun z => zvls z _) (zVa (j := 17) (c := 112) hI_36 hth hv_41 ⟨by decide, rfl⟩ ⟨⟨by decide, by decide⟩, by decide, by decide⟩).symm)), vm_40.lh⟩
                  have hI_43 := h.2.1
                  subst hQ
                  exact W.vret hx hb hr (fun t ht hW => ⟨⟨F_39, rfl, ⟨(by rw [zv_enter2 (by have := by3_j102_34_38.1; have := by3_j102_34_38.2; have := bx_17.1; have := bx_17.2; have := bfi_.1; have := bfi_.2; have := bx_19.1; have := bx_19.2; have := bfc_.1; have := bfc_.2; have := bpc_.1; have := bpc_.2; have : (0 : Int32).toInt = 0 := (by decide); have : (1 : Int32).toInt = 1 := (by decide); have : (8 : Int32).toInt = 8 := (by decide); omega) (by have := by3_j102_34_38.1; have := by3_j102_34_38.2; have := bx_17.1; have := bx_17.2; have := bfi_.1; have := bfi_.2; have := bx_19.1; have := bx_19.2; have := bfc_.1; have := bfc_.2; have := bpc_.1; have := bpc_.2; have : (0 : Int32).toInt = 0 := (by decide); have : (1 : Int32).toInt = 1 := (by decide); have : (8 : Int32).toInt = 8 := (by decide); omega)]; exact vm_42), trivial⟩, by rw [ht]; exact h.1, h.2.1, ((((((hfF_15.w (by decide)).trans hfF_18 (by decide)).trans hfF_20 (by decide)).trans hfF_28 (by decide)).trans hfF_35 (by decide)).trans hfF_39 (by decide))⟩, h.2.2.F ht⟩) h.2.2.2.2 dX5_enter_133
                · have c_37 := z_nlt c_37
                  have by3_j102_34_44 : zB 0 2 y3_j102_34 := zB.leR c_37 (zBc 0 0 (by decide)) by3_j102_34 (by decide)
                  refine lv_aload_n hx hb dX5_enter_106 rfl (lv_at hl 2 rfl) ?_
                  refine lv_aload_n hx hb dX5_enter_107 rfl (lv_at hl 1 rfl) ?_
                  refine lv_iload_n hx hb dX5_enter_108 rfl (lv_at hl 0 rfl) ?_
                  refine zk_Vi (As := [.int y3_j102_34]) (rest := [.ref th]) (bytes := cX2_placeAt) (maxL := 2) (ret := (some .int)) Z h (zm_X2_placeAt l D k Γ L F_35 H.size a_13 y3_j102_34 pc_ ha_13 (hfF_35.f ha_13 7 ⟨by decide, by decide⟩ (hfF_28.f ha_13 7 ⟨by decide, by decide⟩ (hfF_20.f ha_13 7 ⟨by decide, by decide⟩ (hfF_18.f ha_13 7 ⟨by decide, by decide⟩ (hfF_15.f ha_13 7 ⟨by decide, by decide⟩ kpc_))))) bpc_ (by have := by3_j102_34_44.1; have := by3_j102_34_44.2; have := bpc_.1; have := bpc_.2; have := bx_17.1; have := bx_17.2; have := bnx_.1; have := bnx_.2; have := bx_19.1; have := bx_19.2; have := bfc_.1; have := bfc_.2; have := bfi_.1; have := bfi_.2; have : (0 : Int32).toInt = 0 := (by decide); have : (1 : Int32).toInt = 1 := (by decide); have : (8 : Int32).toInt = 8 := (by decide); omega)) (cwV 1 hg zv_RX5_177 rfl rfl rfl zd_X2_placeAt ⟨z_leR hRf (by decide), z_leR hRl (by decide)⟩) ha_13 (by decide) rfl rfl hl.1 rfl (Nat.le_of_ble_eq_true rfl) dX5_enter_109 ⟨Nat.zero_le _, Nat.zero_le _⟩ (fun r_45 F_46 H locs w_47 h hfF_46 => ?_)
                  obtain ⟨rfl, q_48, -⟩ := w_47
                  have br_45 := zB.all r_45
                  have g_49 : zar F_35 a_13 8 = zar F a_13 8 := had_.ar (((((((hfF_15.w (by decide)).trans hfF_18 (by decide)).trans hfF_20 (by decide)).trans hfF_28 (by decide)).trans hfF_35 (by decide)) : zFr Γ [505, 515, 518, 11000, 11100] F F_35)) ha_13 ⟨by decide, by decide⟩ ⟨by decide, by decide⟩
                  refine lv_aload_n hx hb dX5_enter_112 rfl (lv_at hl 2 rfl) ?_
                  refine zk_Vi (As := []) (rest := [.int r_45, .ref th]) (bytes := cX5_pop) (maxL := 1) (ret := (some .int)) Z h (zm_X5_pop l D k Γ L F_35 H.size th (v_tks pg f.toInt.toNat (pg.1.2 f.toInt.toNat) (((pg.1.2 f.toInt.toNat : Nat) : Int) - 1 - y3_j102_34.toInt).toNat (v_room μ)) hth r1_j102_34) (cwV 0 hg zv_RX5_160 rfl rfl rfl zd_X5_pop ⟨z_leR hRf (by decide), z_leR hRl (by decide)⟩) hth (by decide) rfl rfl hl.1 rfl (Nat.le_of_ble_eq_true rfl) dX5_enter_113 ⟨Nat.zero_le _, Nat.zero_le _⟩ (fun r_50 F_51 H locs w_52 h hfF_51 => ?_)
                  obtain ⟨q_53, q_54, -⟩ := w_52
                  have br_50 := zB.all r_50
                  have hI_55 := h.2.1
                  refine zk_Vv (As := [.int r_45, .int r_50]) (rest := []) (bytes := cX5_setPlace) (maxL := 4) (ret := none) Z h (zm_X5_setPlace l D k Γ L F_51 H.size th r_45 r_50 (v_pop (v_tks pg f.toInt.toNat (pg.1.2 f.toInt.toNat) (((pg.1.2 f.toInt.toNat : Nat) : Int) - 1 - y3_j102_34.toInt).toNat (v_room μ))) hth q_53 (by show 1 ≤ vdp (v_tks pg f.toInt.toNat (pg.1.2 f.toInt.toNat) _ (v_room μ)) ∧ vdp (v_tks pg f.toInt.toNat (pg.1.2 f.toInt.toNat) _ (v_room μ)) ≤ 8; rw [v_tks_dp]; exact hd1_)) (cwV 2 hg zv_RX5_174 rfl rfl rfl zd_X5_setPlace ⟨z_leR hRf (by decide), z_leR hRl (by decide)⟩) hth (by decide) rfl rfl hl.1 rfl (Nat.le_of_ble_eq_true rfl) dX5_enter_116 ⟨Nat.zero_le _, Nat.zero_le _⟩ (fun F_56 H locs w_57 h hfF_56 => ?_)
                  obtain ⟨q_58, -⟩ := w_57
                  have hI_59 := h.2.1
                  obtain ⟨x_60, ex_60, bx_60, tx_60⟩ := z_inc (n := (-1)) (lo := (-1)) (hi := 1) by3_j102_34_44 (by decide)
                  refine lv_iinc (v := x_60) (lv' := [(3, .int x_60), (2, .ref a_13), (0, .ref th)]) hx hb dX5_enter_119 hl (k := 0) rfl ex_60 (by decide) rfl (fun ls hl => ?_)
                  refine lv_goto (tgt := 102) hx hb dX5_enter_122 (by decide) ?_
                  have g_61 : (((pg.1.2 f.toInt.toNat : Nat) : Int) - 1 - x_60.toInt).toNat = (((pg.1.2 f.toInt.toNat : Nat) : Int) - 1 - y3_j102_34.toInt).toNat + 1 := (by have := bx_60.1; have := bx_60.2; have := by3_j102_34_44.1; have := by3_j102_34_44.2; have := bx_17.1; have := bx_17.2; have := bnx_.1; have := bnx_.2; have := bx_19.1; have := bx_19.2; have := bfc_.1; have := bfc_.2; have := bpc_.1; have := bpc_.2; have := bfi_.1; have := bfi_.2; have : (0 : Int32).toInt = 0 := (by decide); have : (1 : Int32).toInt = 1 := (by decide); have : (8 : Int32).toInt = 8 := (by decide); omega)
                  have g_62 : pg.1.2 f.toInt.toNat - 1 - (((pg.1.2 f.toInt.toNat : Nat) : Int) - 1 - y3_j102_34.toInt).toNat = Int32.toNatClampNeg y3_j102_34 := by rw [Int32.toNatClampNeg]; have := bx_60.1; have := bx_60.2; have := by3_j102_34_44.1; have := by3_j102_34_44.2; have := bx_17.1; have := bx_17.2; have := bnx_.1; have := bnx_.2; have := bx_19.1; have := bx_19.2; have := bfc_.1; have := bfc_.2; have := bpc_.1; have := bpc_.2; have := bfi_.1; have := bfi_.2; have : (0 : Int32).toInt = 0 := (by decide); have : (1 : Int32).toInt = 1 := (by decide); have : (8 : Int32).toInt = 8 := (by decide); omega
                  have g_63 : pg.2.1 f.toInt.toNat (Int32.toNatClampNeg y3_j102_34) = r_45.toInt := by rw [q_48, g_49]; exact (hpl_ _ (by rw [Int32.toNatClampNeg]; have := bx_60.1; have := bx_60.2; have := by3_j102_34_44.1; have := by3_j102_34_44.2; have := bx_17.1; have := bx_17.2; have := bnx_.1; have := bnx_.2; have := bx_19.1; have := bx_19.2; have := bfc_.1; have := bfc_.2; have := bpc_.1; have := bpc_.2; have := bfi_.1; have := bfi_.2; have : (0 : Int32).toInt = 0 := (by decide); have : (1 : Int32).toInt = 1 := (by decide); have : (8 : Int32).toInt = 8 := (by decide); omega)).symm
                  exact ih_j102_34 _ (by have := bx_60.1; have := bx_60.2; have := bx_17.1; have := bx_17.2; have := bnx_.1; have := bnx_.2; have := bx_19.1; have := bx_19.2; have := bfc_.1; have := bfc_.2; have := bpc_.1; have := bpc_.2; have := bfi_.1; have := bfi_.2; have : (0 : Int32).toInt = 0 := (by decide); have : (1 : Int32).toInt = 1 := (by decide); have : (8 : Int32).toInt = 8 := (by decide); have := by3_j102_34.1; have := by3_j102_34.2; omega) ls x_60 F_56 H locs (lv_sub hl [0, 1, 2] rfl) (bx_60.w ⟨by decide, by decide⟩) h ((hfF_35.trans hfF_51 (by decide)).trans hfF_56 (by decide)) (by have := bx_60.1; have := bx_60.2; have := bx_17.1; have := bx_17.2; have := bnx_.1; have := bnx_.2; have := bx_19.1; have := bx_19.2; have := bfc_.1; have := bfc_.2; have := bpc_.1; have := bpc_.2; have := bfi_.1; have := bfi_.2; have : (0 : Int32).toInt = 0 := (by decide); have : (1 : Int32).toInt = 1 := (by decide); have : (8 : Int32).toInt = 8 := (by decide); omega) (by rw [g_61]; show zVc _ th (v_tk1 pg f.toInt.toNat (pg.1.2 f.toInt.toNat - 1 - (((pg.1.2 f.toInt.toNat : Nat) : Int) - 1 - y3_j102_34.toInt).toNat) _); rw [g_62]; unfold v_tk1; rw [g_63, ← q_54]; exact q_58) rfl
            exact j_j102_34 _ ls x_33 F_28 H locs (lv_sub hl [0, 1, 2] rfl) bx_33 h zFr.rf (by have := bx_33.1; have := bx_33.2; have := bx_17.1; have := bx_17.2; have := bnx_.1; have := bnx_.2; have := bx_19.1; have := bx_19.2; have := bfc_.1; have := bfc_.2; have := bpc_.1; have := bpc_.2; have := bfi_.1; have := bfi_.2; have : (0 : Int32).toInt = 0 := (by decide); have : (1 : Int32).toInt = 1 := (by decide); have : (8 : Int32).toInt = 8 := (by decide); omega) (by rw [show (((pg.1.2 f.toInt.toNat : Nat) : Int) - 1 - x_33.toInt).toNat = 0 by have := bx_33.1; have := bx_33.2; have := bx_17.1; have := bx_17.2; have := bnx_.1; have := bnx_.2; have := bx_19.1; have := bx_19.2; have := bfc_.1; have := bfc_.2; have := bpc_.1; have := bpc_.2; have := bfi_.1; have := bfi_.2; have : (0 : Int32).toInt = 0 := (by decide); have : (1 : Int32).toInt = 1 := (by decide); have : (8 : Int32).toInt = 8 := (by decide); omega]; exact vm_32) rfl
          · have c_30 := z_nle c_30
            have by3_j77_27_64 : zB 0 7 y3_j77_27 := zB.ltL c_30 by3_j77_27 (zBc 8 8 (by decide)) (by decide)
            refine lv_aload_n hx hb dX5_enter_83 rfl (lv_at hl 2 rfl) ?_
            refine lv_iload_n hx hb dX5_enter_84 rfl (lv_at hl 0 rfl) ?_
            refine lv_iconst (v := 0) hx hb dX5_enter_85 (by decide) ?_
            refine zk_Vv (As := [.int y3_j77_27, .int 0]) (rest := []) (bytes := cX5_setPlace) (maxL := 4) (ret := none) Z h (zm_X5_setPlace l D k Γ L F_28 H.size th y3_j77_27 0 (v_zer (v_new μ) y3_j77_27.toInt.toNat) hth r0_j77_27 hd1_) (cwV 2 hg zv_RX5_174 rfl rfl rfl zd_X5_setPlace ⟨z_leR hRf (by decide), z_leR hRl (by decide)⟩) hth (by decide) rfl rfl hl.1 rfl (Nat.le_of_ble_eq_true rfl) dX5_enter_86 ⟨Nat.zero_le _, Nat.zero_le _⟩ (fun F_65 H locs w_66 h hfF_65 => ?_)
            obtain ⟨q_67, -⟩ := w_66
            have hI_68 := h.2.1
            obtain ⟨x_69, ex_69, bx_69, tx_69⟩ := z_inc (n := 1) (lo := 1) (hi := 8) by3_j77_27_64 (by decide)
            refine lv_iinc (v := x_69) (lv' := [(3, .int x_69), (2, .ref a_13), (0, .ref th)]) hx hb dX5_enter_89 hl (k := 0) rfl ex_69 (by decide) rfl (fun ls hl => ?_)
            refine lv_goto (tgt := 77) hx hb dX5_enter_92 (by decide) ?_
            exact ih_j77_27 _ (by have := bx_69.1; have := bx_69.2; have := bx_17.1; have := bx_17.2; have := bnx_.1; have := bnx_.2; have := bx_19.1; have := bx_19.2; have := bfc_.1; have := bfc_.2; have := bpc_.1; have := bpc_.2; have := bfi_.1; have := bfi_.2; have : (0 : Int32).toInt = 0 := (by decide); have : (1 : Int32).toInt = 1 := (by decide); have : (8 : Int32).toInt = 8 := (by decide); have := by3_j77_27.1; have := by3_j77_27.2; omega) ls x_69 F_65 H locs (lv_sub hl [0, 1, 2] rfl) (bx_69.w ⟨by decide, by decide⟩) h (hfF_28.trans hfF_65 (by decide)) (by rw [show x_69.toInt.toNat = y3_j77_27.toInt.toNat + 1 by have := bx_69.1; have := bx_69.2; have := by3_j77_27_64.1; have := by3_j77_27_64.2; have := bx_17.1; have := bx_17.2; have := bnx_.1; have := bnx_.2; have := bx_19.1; have := bx_19.2; have := bfc_.1; have := bfc_.2; have := bpc_.1; have := bpc_.2; have := bfi_.1; have := bfi_.2; have : (0 : Int32).toInt = 0 := (by decide); have : (1 : Int32).toInt = 1 := (by decide); have : (8 : Int32).toInt = 8 := (by decide); omega, ← v_zer1 (m := v_new μ) (show y3_j77_27.toInt.toNat < 8 by have := bx_69.1; have := bx_69.2; have := by3_j77_27_64.1; have := by3_j77_27_64.2; have := bx_17.1; have := bx_17.2; have := bnx_.1; have := bnx_.2; have := bx_19.1; have := bx_19.2; have := bfc_.1; have := bfc_.2; have := bpc_.1; have := bpc_.2; have := bfi_.1; have := bfi_.2; have : (0 : Int32).toInt = 0 := (by decide); have : (1 : Int32).toInt = 1 := (by decide); have : (8 : Int32).toInt = 8 := (by decide); omega) hd1_, show ((y3_j77_27.toInt.toNat : Nat) : Int) = y3_j77_27.toInt by have := bx_69.1; have := bx_69.2; have := by3_j77_27_64.1; have := by3_j77_27_64.2; have := bx_17.1; have := bx_17.2; have := bnx_.1; have := bnx_.2; have := bx_19.1; have := bx_19.2; have := bfc_.1; have := bfc_.2; have := bpc_.1; have := bpc_.2; have := bfi_.1; have := bfi_.2; have : (0 : Int32).toInt = 0 := (by decide); have : (1 : Int32).toInt = 1 := (by decide); have : (8 : Int32).toInt = 8 := (by decide); omega]; exact q_67) rfl
      exact j_j77_27 _ ls 0 F_20 H locs (lv_sub hl [0, 1, 2] rfl) (zB.of ⟨by decide, by decide⟩) h zFr.rf (by rw [show (0 : Int32).toInt.toNat = 0 by decide, v_zer0]; exact vm_25) rfl
    · have q_70 := q_7 c_8
      have c_8 := z_eq c_8
      have br_3_71 : zB 0 0 r_3 := zB.eqL (a := 0) (b := 0) c_8 (zBc 0 0 (by decide))
      subst hQ
      exact W.vret hx hb hr (fun t ht hW => ⟨⟨F, rfl, ⟨(by rw [zv_enter1 (by have := (zB.all f).1; have := (zB.all f).2; have := bdp__2.1; have := bdp__2.2; have := bnx_.1; have := bnx_.2; have := bmx_.1; have := bmx_.2; have := bfc_.1; have := bfc_.2; have : (0 : Int32).toInt = 0 := (by decide); have : (8 : Int32).toInt = 8 := (by decide); omega) (by have := (zB.all f).1; have := (zB.all f).2; have := bdp__2.1; have := bdp__2.2; have := bnx_.1; have := bnx_.2; have := bmx_.1; have := bmx_.2; have := bfc_.1; have := bfc_.2; have : (0 : Int32).toInt = 0 := (by decide); have : (8 : Int32).toInt = 8 := (by decide); omega)]; exact p_vm), trivial⟩, by rw [ht]; exact h.1, h.2.1, zFr.rf⟩, h.2.2.F ht⟩) h.2.2.2.2 dX5_enter_26
  · have c_1 := z_nlt c_1
    have bdp__72 : zB 8 8 dp_ := zB.leR c_1 (zBc 8 8 (by decide)) bdp_ (by decide)
    refine lv_aload_n hx hb dX5_enter_9 rfl (lv_at hl 0 rfl) ?_
    refine lv_iconst (v := 2) hx hb dX5_enter_10 (by decide) ?_
    refine zk_Vv (As := [.int 2]) (rest := []) (bytes := cX5_stop) (maxL := 2) (ret := none) Z h (zm_X5_stop l D k Γ L F s.heap.size th 2 (μ) hth p_vm) (cwV 1 hg zv_RX5_168 rfl rfl rfl zd_X5_stop ⟨z_leR hRf (by decide), z_leR hRl (by decide)⟩) hth (by decide) rfl rfl hl.1 rfl (Nat.le_of_ble_eq_true rfl) dX5_enter_11 ⟨Nat.zero_le _, Nat.zero_le _⟩ (fun F_73 H locs w_74 h hfF_73 => ?_)
    obtain ⟨q_75, -⟩ := w_74
    have hI_76 := h.2.1
    subst hQ
    exact W.vret hx hb hr (fun t ht hW => ⟨⟨F_73, rfl, ⟨(by rw [zv_enter0 (by have := (zB.all f).1; have := (zB.all f).2; have := bdp__72.1; have := bdp__72.2; have := bnx_.1; have := bnx_.2; have := bmx_.1; have := bmx_.2; have := bfc_.1; have := bfc_.2; have : (8 : Int32).toInt = 8 := (by decide); omega)]; exact q_75), trivial⟩, by rw [ht]; exact h.1, h.2.1, (hfF_73.w (by decide))⟩, h.2.2.F ht⟩) h.2.2.2.2 dX5_enter_14

set_option maxHeartbeats 4000000 in
set_option maxRecDepth 100000 in
theorem zm_X5_obey (l : Launch) (D : va_G) (k : Nat → ClassId) (Γ : Nat → Option Nat) (L : List Nat) (F : Nat → va_E) (sz : Nat) (th : Nat) (ac : Int32) (nu : Int32) (li : Int32) (μ : zVm) (fa : Nat → Nat) (pg : zPg) (pr : Nat) (fl : Int32) (ru : Int32) (hth : Γ th = some 5) (p_vm : zVc F th μ) (kpr : zfld F th 10 = .ref pr) (hpr : Γ pr = some 6) (p_vp : zVp Γ F pr fa pg) (kfl : zfld F th 12 = .int fl) (bfl : zB (-2147483648) 2147483647 fl) (kru : zfld F th 11 = .int ru) (bru : zB (-2147483648) 2147483647 ru) (hr0 : 1 ≤ vdp μ ∧ vdp μ ≤ 8) (hr1 : vgo μ = true) (hr2 : vtc μ ≤ 4000000) (hr3 : vsc μ ≤ 4000000) (hr4 : 0 ≤ li.toInt) (hr5 : 0 ≤ ac.toInt ∧ ac.toInt ≤ 16 ∧ (13 ≤ ac.toInt → ac.toInt ≤ 15 → 0 ≤ nu.toInt)) : Met l yX5_obey zwX5_obey ({ frames := 3, cells := 0, slots := 0, locals := 64 }) (va_Pc [.ref th, .int ac, .int nu, .int li] (zP D k Γ L F sz)) (va_Qv (fun (u : Nat → va_E) => zVc u th (v_obey ru.toInt fl.toInt pg (ac.toInt.toNat, nu.toInt, li.toInt.toNat) μ) ∧ True) (zQ D k Γ L F [500, 501, 502, 503, 504, 505, 506, 513, 514, 515, 518, 10800, 10900, 11000, 11100, 11200]) (zA L sz)) 0 0 (zA L sz) := by
  refine Met.ofW (cc := cX5_obey) (maxL := 4) (ret := none) (by decide) rfl ?_
  intro p e s m args below meth c s₁ B hml hv
  obtain ⟨rfl, hsz, hP, hK, hLn, hE, hI⟩ := hv
  have hx := B.exec
  have hb := B.bytes
  have hr := B.returns
  have hg : ∀ w ∈ zG, w.before _ s = true := fun w h9 => atoms_spec (ws := zwX5_obey) B.pre w (List.mem_cons_of_mem _ h9)
  have hown : s.vm.findClass RX5 = some m.cls := findClass_of_methodNamed B.named
  have hlocks := B.notSynchronized
  subst hsz
  have Z : zC p m c cX5_obey 4 s _ zG RX5 D k L := ⟨⟨hx, hb, hml, hown, hg⟩, hK, hLn, hE⟩
  have h : zH D k Γ L s F s.heap [] := ⟨hP, hI, va_S.rf⟩
  have hl := lv_entry ([.ref th, .int ac, .int nu, .int li]) (n := 4) (Nat.le_of_ble_eq_true rfl)
  rw [lg_entry_eq]
  generalize (lg_sl ([.ref th, .int ac, .int nu, .int li]) ++ List.replicate (4 - (lg_sl ([.ref th, .int ac, .int nu, .int li])).length) Slot.unset).toArray = ls at hl ⊢
  have hl : lv_has ls 4 [(0, .ref th), (1, .int ac), (2, .int nu), (3, .int li)] := hl
  clear hP hK hLn hE hI
  generalize hargs : ([.ref th, .int ac, .int nu, .int li] : List Value).toArray = args at *
  refine z_start (fun R Q hRf hRl hQ => ?_)
  have hRf : R.frames = 3 := hRf
  have hRl : R.locals = 64 := hRl
  have h9 := h
  have hI0 := h.2.1
  have bac_ : zB 0 16 ac := ⟨hr5.1, hr5.2.1⟩
  refine lv_iload_n hx hb dX5_obey_0 rfl (lv_at hl 1 rfl) ?_
  by_cases c_1 : ac = 0
  · refine lv_tableIn (off := 83) (tgt := 84) hx hb dX5_obey_1 (by rw [c_1]; decide) (by rw [c_1]; decide) (by rw [c_1]; rfl) (by decide) ?_
    have bac_1 : zB 0 0 ac := by rw [c_1]; exact zBc _ _ (by decide)
    refine lv_aload_n hx hb dX5_obey_84 rfl (lv_at hl 0 rfl) ?_
    refine lv_iload_n hx hb dX5_obey_85 rfl (lv_at hl 3 rfl) ?_
    refine zk_Vv (As := [.int li]) (rest := []) (bytes := cX5_begin) (maxL := 2) (ret := none) Z h (zm_X5_begin l D k Γ L F s.heap.size th li (μ) fl hth p_vm kfl bfl hr1 hr4) (cwV 1 hg zv_RX5_131 rfl rfl rfl zd_X5_begin ⟨z_leR hRf (by decide), z_leR hRl (by decide)⟩) hth (by decide) rfl rfl hl.1 rfl (Nat.le_of_ble_eq_true rfl) dX5_obey_86 ⟨Nat.zero_le _, Nat.zero_le _⟩ (fun F_3 H locs w_4 h hfF_3 => ?_)
    obtain ⟨q_5, -⟩ := w_4
    have hI_6 := h.2.1
    refine lv_goto (tgt := 183) hx hb dX5_obey_89 (by decide) ?_
    subst hQ
    exact W.vret hx hb hr (fun t ht hW => ⟨⟨F_3, rfl, ⟨(by rw [show ac.toInt.toNat = 0 by have := bac_1.1; have := bac_1.2; have := (zB.all nu).1; have := (zB.all nu).2; have := (zB.all li).1; have := (zB.all li).2; have := bfl.1; have := bfl.2; have := bru.1; have := bru.2; omega, zv_ob0]; exact q_5), trivial⟩, by rw [ht]; exact h.1, h.2.1, (hfF_3.w (by decide))⟩, h.2.2.F ht⟩) h.2.2.2.2 dX5_obey_183
  · by_cases c_7 : ac = 1
    · refine lv_tableIn (off := 91) (tgt := 92) hx hb dX5_obey_1 (by rw [c_7]; decide) (by rw [c_7]; decide) (by rw [c_7]; rfl) (by decide) ?_
      have bac_7 : zB 1 1 ac := by rw [c_7]; exact zBc _ _ (by decide)
      refine lv_aload_n hx hb dX5_obey_92 rfl (lv_at hl 0 rfl) ?_
      refine lv_iload_n hx hb dX5_obey_93 rfl (lv_at hl 2 rfl) ?_
      refine zk_Vv (As := [.int nu]) (rest := []) (bytes := cX5_push) (maxL := 2) (ret := none) Z h (zm_X5_push l D k Γ L F s.heap.size th nu (μ) hth p_vm) (cwV 1 hg zv_RX5_76 rfl rfl rfl zd_X5_push ⟨z_leR hRf (by decide), z_leR hRl (by decide)⟩) hth (by decide) rfl rfl hl.1 rfl (Nat.le_of_ble_eq_true rfl) dX5_obey_94 ⟨Nat.zero_le _, Nat.zero_le _⟩ (fun F_9 H locs w_10 h hfF_9 => ?_)
      obtain ⟨q_11, -⟩ := w_10
      have hI_12 := h.2.1
      refine lv_goto (tgt := 183) hx hb dX5_obey_97 (by decide) ?_
      subst hQ
      exact W.vret hx hb hr (fun t ht hW => ⟨⟨F_9, rfl, ⟨(by rw [show ac.toInt.toNat = 1 by have := bac_7.1; have := bac_7.2; have := (zB.all nu).1; have := (zB.all nu).2; have := (zB.all li).1; have := (zB.all li).2; have := bfl.1; have := bfl.2; have := bru.1; have := bru.2; omega, zv_ob1, zv_ofInt]; exact q_11), trivial⟩, by rw [ht]; exact h.1, h.2.1, (hfF_9.w (by decide))⟩, h.2.2.F ht⟩) h.2.2.2.2 dX5_obey_183
    · by_cases c_13 : ac = 2
      · refine lv_tableIn (off := 99) (tgt := 100) hx hb dX5_obey_1 (by rw [c_13]; decide) (by rw [c_13]; decide) (by rw [c_13]; rfl) (by decide) ?_
        have bac_13 : zB 2 2 ac := by rw [c_13]; exact zBc _ _ (by decide)
        refine lv_aload_n hx hb dX5_obey_100 rfl (lv_at hl 0 rfl) ?_
        refine lv_aload_n hx hb dX5_obey_101 rfl (lv_at hl 0 rfl) ?_
        refine lv_iload_n hx hb dX5_obey_102 rfl (lv_at hl 2 rfl) ?_
        refine zk_Vi (As := [.int nu]) (rest := [.ref th]) (bytes := cX5_placeNow) (maxL := 3) (ret := (some .int)) Z h (zm_X5_placeNow l D k Γ L F s.heap.size th nu (μ) hth p_vm hr0) (cwV 1 hg zv_RX5_134 rfl rfl rfl zd_X5_placeNow ⟨z_leR hRf (by decide), z_leR hRl (by decide)⟩) hth (by decide) rfl rfl hl.1 rfl (Nat.le_of_ble_eq_true rfl) dX5_obey_103 ⟨Nat.zero_le _, Nat.zero_le _⟩ (fun r_15 F_16 H locs w_17 h hfF_16 => ?_)
        obtain ⟨rfl, q_18, -⟩ := w_17
        have br_15 := zB.all r_15
        refine zk_Vv (As := [.int r_15]) (rest := []) (bytes := cX5_push) (maxL := 2) (ret := none) Z h (zm_X5_push l D k Γ L F H.size th r_15 (μ) hth p_vm) (cwV 1 hg zv_RX5_76 rfl rfl rfl zd_X5_push ⟨z_leR hRf (by decide), z_leR hRl (by decide)⟩) hth (by decide) rfl rfl hl.1 rfl (Nat.le_of_ble_eq_true rfl) dX5_obey_106 ⟨Nat.zero_le _, Nat.zero_le _⟩ (fun F_19 H locs w_20 h hfF_19 => ?_)
        obtain ⟨q_21, -⟩ := w_20
        have hI_22 := h.2.1
        refine lv_goto (tgt := 183) hx hb dX5_obey_109 (by decide) ?_
        subst hQ
        exact W.vret hx hb hr (fun t ht hW => ⟨⟨F_19, rfl, ⟨(by rw [show ac.toInt.toNat = 2 by have := bac_13.1; have := bac_13.2; have := (zB.all nu).1; have := (zB.all nu).2; have := (zB.all li).1; have := (zB.all li).2; have := bfl.1; have := bfl.2; have := bru.1; have := bru.2; omega, zv_ob2, ← (show _ = v_get μ nu.toInt from q_18)]; exact q_21), trivial⟩, by rw [ht]; exact h.1, h.2.1, (hfF_19.w (by decide))⟩, h.2.2.F ht⟩) h.2.2.2.2 dX5_obey_183
      · by_cases c_23 : ac = 3
        · refine lv_tableIn (off := 177) (tgt := 178) hx hb dX5_obey_1 (by rw [c_23]; decide) (by rw [c_23]; decide) (by rw [c_23]; rfl) (by decide) ?_
          have bac_23 : zB 3 3 ac := by rw [c_23]; exact zBc _ _ (by decide)
          refine lv_aload_n hx hb dX5_obey_178 rfl (lv_at hl 0 rfl) ?_
          refine lv_iload_n hx hb dX5_obey_179 rfl (lv_at hl 1 rfl) ?_
          refine zk_Vv (As := [.int ac]) (rest := []) (bytes := cX5_reckon) (maxL := 4) (ret := none) Z h (zm_X5_reckon l D k Γ L F s.heap.size th ac (μ) ru hth p_vm kru bru (by have := bac_23.1; have := bac_23.2; have := (zB.all nu).1; have := (zB.all nu).2; have := (zB.all li).1; have := (zB.all li).2; have := bfl.1; have := bfl.2; have := bru.1; have := bru.2; omega)) (cwV 1 hg zv_RX5_157 rfl rfl rfl zd_X5_reckon ⟨z_leR hRf (by decide), z_leR hRl (by decide)⟩) hth (by decide) rfl rfl hl.1 rfl (Nat.le_of_ble_eq_true rfl) dX5_obey_180 ⟨Nat.zero_le _, Nat.zero_le _⟩ (fun F_25 H locs w_26 h hfF_25 => ?_)
          obtain ⟨q_27, -⟩ := w_26
          have hI_28 := h.2.1
          subst hQ
          exact W.vret hx hb hr (fun t ht hW => ⟨⟨F_25, rfl, ⟨(by rw [zv_obr (by have := bac_23.1; have := bac_23.2; have := (zB.all nu).1; have := (zB.all nu).2; have := (zB.all li).1; have := (zB.all li).2; have := bfl.1; have := bfl.2; have := bru.1; have := bru.2; omega)]; exact q_27), trivial⟩, by rw [ht]; exact h.1, h.2.1, (hfF_25.w (by decide))⟩, h.2.2.F ht⟩) h.2.2.2.2 dX5_obey_183
        · by_cases c_29 : ac = 4
          · refine lv_tableIn (off := 177) (tgt := 178) hx hb dX5_obey_1 (by rw [c_29]; decide) (by rw [c_29]; decide) (by rw [c_29]; rfl) (by decide) ?_
            have bac_29 : zB 4 4 ac := by rw [c_29]; exact zBc _ _ (by decide)
            refine lv_aload_n hx hb dX5_obey_178 rfl (lv_at hl 0 rfl) ?_
            refine lv_iload_n hx hb dX5_obey_179 rfl (lv_at hl 1 rfl) ?_
            refine zk_Vv (As := [.int ac]) (rest := []) (bytes := cX5_reckon) (maxL := 4) (ret := none) Z h (zm_X5_reckon l D k Γ L F s.heap.size th ac (μ) ru hth p_vm kru bru (by have := bac_29.1; have := bac_29.2; have := (zB.all nu).1; have := (zB.all nu).2; have := (zB.all li).1; have := (zB.all li).2; have := bfl.1; have := bfl.2; have := bru.1; have := bru.2; omega)) (cwV 1 hg zv_RX5_157 rfl rfl rfl zd_X5_reckon ⟨z_leR hRf (by decide), z_leR hRl (by decide)⟩) hth (by decide) rfl rfl hl.1 rfl (Nat.le_of_ble_eq_true rfl) dX5_obey_180 ⟨Nat.zero_le _, Nat.zero_le _⟩ (fun F_31 H locs w_32 h hfF_31 => ?_)
            obtain ⟨q_33, -⟩ := w_32
            have hI_34 := h.2.1
            subst hQ
            exact W.vret hx hb hr (fun t ht hW => ⟨⟨F_31, rfl, ⟨(by rw [zv_obr (by have := bac_29.1; have := bac_29.2; have := (zB.all nu).1; have := (zB.all nu).2; have := (zB.all li).1; have := (zB.all li).2; have := bfl.1; have := bfl.2; have := bru.1; have := bru.2; omega)]; exact q_33), trivial⟩, by rw [ht]; exact h.1, h.2.1, (hfF_31.w (by decide))⟩, h.2.2.F ht⟩) h.2.2.2.2 dX5_obey_183
          · by_cases c_35 : ac = 5
            · refine lv_tableIn (off := 177) (tgt := 178) hx hb dX5_obey_1 (by rw [c_35]; decide) (by rw [c_35]; decide) (by rw [c_35]; rfl) (by decide) ?_
              have bac_35 : zB 5 5 ac := by rw [c_35]; exact zBc _ _ (by decide)
              refine lv_aload_n hx hb dX5_obey_178 rfl (lv_at hl 0 rfl) ?_
              refine lv_iload_n hx hb dX5_obey_179 rfl (lv_at hl 1 rfl) ?_
              refine zk_Vv (As := [.int ac]) (rest := []) (bytes := cX5_reckon) (maxL := 4) (ret := none) Z h (zm_X5_reckon l D k Γ L F s.heap.size th ac (μ) ru hth p_vm kru bru (by have := bac_35.1; have := bac_35.2; have := (zB.all nu).1; have := (zB.all nu).2; have := (zB.all li).1; have := (zB.all li).2; have := bfl.1; have := bfl.2; have := bru.1; have := bru.2; omega)) (cwV 1 hg zv_RX5_157 rfl rfl rfl zd_X5_reckon ⟨z_leR hRf (by decide), z_leR hRl (by decide)⟩) hth (by decide) rfl rfl hl.1 rfl (Nat.le_of_ble_eq_true rfl) dX5_obey_180 ⟨Nat.zero_le _, Nat.zero_le _⟩ (fun F_37 H locs w_38 h hfF_37 => ?_)
              obtain ⟨q_39, -⟩ := w_38
              have hI_40 := h.2.1
              subst hQ
              exact W.vret hx hb hr (fun t ht hW => ⟨⟨F_37, rfl, ⟨(by rw [zv_obr (by have := bac_35.1; have := bac_35.2; have := (zB.all nu).1; have := (zB.all nu).2; have := (zB.all li).1; have := (zB.all li).2; have := bfl.1; have := bfl.2; have := bru.1; have := bru.2; omega)]; exact q_39), trivial⟩, by rw [ht]; exact h.1, h.2.1, (hfF_37.w (by decide))⟩, h.2.2.F ht⟩) h.2.2.2.2 dX5_obey_183
            · by_cases c_41 : ac = 6
              · refine lv_tableIn (off := 177) (tgt := 178) hx hb dX5_obey_1 (by rw [c_41]; decide) (by rw [c_41]; decide) (by rw [c_41]; rfl) (by decide) ?_
                have bac_41 : zB 6 6 ac := by rw [c_41]; exact zBc _ _ (by decide)
                refine lv_aload_n hx hb dX5_obey_178 rfl (lv_at hl 0 rfl) ?_
                refine lv_iload_n hx hb dX5_obey_179 rfl (lv_at hl 1 rfl) ?_
                refine zk_Vv (As := [.int ac]) (rest := []) (bytes := cX5_reckon) (maxL := 4) (ret := none) Z h (zm_X5_reckon l D k Γ L F s.heap.size th ac (μ) ru hth p_vm kru bru (by have := bac_41.1; have := bac_41.2; have := (zB.all nu).1; have := (zB.all nu).2; have := (zB.all li).1; have := (zB.all li).2; have := bfl.1; have := bfl.2; have := bru.1; have := bru.2; omega)) (cwV 1 hg zv_RX5_157 rfl rfl rfl zd_X5_reckon ⟨z_leR hRf (by decide), z_leR hRl (by decide)⟩) hth (by decide) rfl rfl hl.1 rfl (Nat.le_of_ble_eq_true rfl) dX5_obey_180 ⟨Nat.zero_le _, Nat.zero_le _⟩ (fun F_43 H locs w_44 h hfF_43 => ?_)
                obtain ⟨q_45, -⟩ := w_44
                have hI_46 := h.2.1
                subst hQ
                exact W.vret hx hb hr (fun t ht hW => ⟨⟨F_43, rfl, ⟨(by rw [zv_obr (by have := bac_41.1; have := bac_41.2; have := (zB.all nu).1; have := (zB.all nu).2; have := (zB.all li).1; have := (zB.all li).2; have := bfl.1; have := bfl.2; have := bru.1; have := bru.2; omega)]; exact q_45), trivial⟩, by rw [ht]; exact h.1, h.2.1, (hfF_43.w (by decide))⟩, h.2.2.F ht⟩) h.2.2.2.2 dX5_obey_183
              · by_cases c_47 : ac = 7
                · refine lv_tableIn (off := 177) (tgt := 178) hx hb dX5_obey_1 (by rw [c_47]; decide) (by rw [c_47]; decide) (by rw [c_47]; rfl) (by decide) ?_
                  have bac_47 : zB 7 7 ac := by rw [c_47]; exact zBc _ _ (by decide)
                  refine lv_aload_n hx hb dX5_obey_178 rfl (lv_at hl 0 rfl) ?_
                  refine lv_iload_n hx hb dX5_obey_179 rfl (lv_at hl 1 rfl) ?_
                  refine zk_Vv (As := [.int ac]) (rest := []) (bytes := cX5_reckon) (maxL := 4) (ret := none) Z h (zm_X5_reckon l D k Γ L F s.heap.size th ac (μ) ru hth p_vm kru bru (by have := bac_47.1; have := bac_47.2; have := (zB.all nu).1; have := (zB.all nu).2; have := (zB.all li).1; have := (zB.all li).2; have := bfl.1; have := bfl.2; have := bru.1; have := bru.2; omega)) (cwV 1 hg zv_RX5_157 rfl rfl rfl zd_X5_reckon ⟨z_leR hRf (by decide), z_leR hRl (by decide)⟩) hth (by decide) rfl rfl hl.1 rfl (Nat.le_of_ble_eq_true rfl) dX5_obey_180 ⟨Nat.zero_le _, Nat.zero_le _⟩ (fun F_49 H locs w_50 h hfF_49 => ?_)
                  obtain ⟨q_51, -⟩ := w_50
                  have hI_52 := h.2.1
                  subst hQ
                  exact W.vret hx hb hr (fun t ht hW => ⟨⟨F_49, rfl, ⟨(by rw [zv_obr (by have := bac_47.1; have := bac_47.2; have := (zB.all nu).1; have := (zB.all nu).2; have := (zB.all li).1; have := (zB.all li).2; have := bfl.1; have := bfl.2; have := bru.1; have := bru.2; omega)]; exact q_51), trivial⟩, by rw [ht]; exact h.1, h.2.1, (hfF_49.w (by decide))⟩, h.2.2.F ht⟩) h.2.2.2.2 dX5_obey_183
                · by_cases c_53 : ac = 8
                  · refine lv_tableIn (off := 177) (tgt := 178) hx hb dX5_obey_1 (by rw [c_53]; decide) (by rw [c_53]; decide) (by rw [c_53]; rfl) (by decide) ?_
                    have bac_53 : zB 8 8 ac := by rw [c_53]; exact zBc _ _ (by decide)
                    refine lv_aload_n hx hb dX5_obey_178 rfl (lv_at hl 0 rfl) ?_
                    refine lv_iload_n hx hb dX5_obey_179 rfl (lv_at hl 1 rfl) ?_
                    refine zk_Vv (As := [.int ac]) (rest := []) (bytes := cX5_reckon) (maxL := 4) (ret := none) Z h (zm_X5_reckon l D k Γ L F s.heap.size th ac (μ) ru hth p_vm kru bru (by have := bac_53.1; have := bac_53.2; have := (zB.all nu).1; have := (zB.all nu).2; have := (zB.all li).1; have := (zB.all li).2; have := bfl.1; have := bfl.2; have := bru.1; have := bru.2; omega)) (cwV 1 hg zv_RX5_157 rfl rfl rfl zd_X5_reckon ⟨z_leR hRf (by decide), z_leR hRl (by decide)⟩) hth (by decide) rfl rfl hl.1 rfl (Nat.le_of_ble_eq_true rfl) dX5_obey_180 ⟨Nat.zero_le _, Nat.zero_le _⟩ (fun F_55 H locs w_56 h hfF_55 => ?_)
                    obtain ⟨q_57, -⟩ := w_56
                    have hI_58 := h.2.1
                    subst hQ
                    exact W.vret hx hb hr (fun t ht hW => ⟨⟨F_55, rfl, ⟨(by rw [zv_obr (by have := bac_53.1; have := bac_53.2; have := (zB.all nu).1; have := (zB.all nu).2; have := (zB.all li).1; have := (zB.all li).2; have := bfl.1; have := bfl.2; have := bru.1; have := bru.2; omega)]; exact q_57), trivial⟩, by rw [ht]; exact h.1, h.2.1, (hfF_55.w (by decide))⟩, h.2.2.F ht⟩) h.2.2.2.2 dX5_obey_183
                  · by_cases c_59 : ac = 9
                    · refine lv_tableIn (off := 111) (tgt := 112) hx hb dX5_obey_1 (by rw [c_59]; decide) (by rw [c_59]; decide) (by rw [c_59]; rfl) (by decide) ?_
                      have bac_59 : zB 9 9 ac := by rw [c_59]; exact zBc _ _ (by decide)
                      refine lv_aload_n hx hb dX5_obey_112 rfl (lv_at hl 0 rfl) ?_
                      refine lv_iload_n hx hb dX5_obey_113 rfl (lv_at hl 2 rfl) ?_
                      refine zk_Vv (As := [.int nu]) (rest := []) (bytes := cX5_enter) (maxL := 4) (ret := none) Z h (zm_X5_enter l D k Γ L F s.heap.size th nu (μ) fa pg pr hth p_vm kpr hpr p_vp hr0.2) (cwV 1 hg zv_RX5_95 rfl rfl rfl zd_X5_enter ⟨z_leR hRf (by decide), z_leR hRl (by decide)⟩) hth (by decide) rfl rfl hl.1 rfl (Nat.le_of_ble_eq_true rfl) dX5_obey_114 ⟨Nat.zero_le _, Nat.zero_le _⟩ (fun F_61 H locs w_62 h hfF_61 => ?_)
                      obtain ⟨q_63, -⟩ := w_62
                      have hI_64 := h.2.1
                      refine lv_goto (tgt := 183) hx hb dX5_obey_117 (by decide) ?_
                      subst hQ
                      exact W.vret hx hb hr (fun t ht hW => ⟨⟨F_61, rfl, ⟨(by rw [show ac.toInt.toNat = 9 by have := bac_59.1; have := bac_59.2; have := (zB.all nu).1; have := (zB.all nu).2; have := (zB.all li).1; have := (zB.all li).2; have := bfl.1; have := bfl.2; have := bru.1; have := bru.2; omega, zv_ob9]; exact q_63), trivial⟩, by rw [ht]; exact h.1, h.2.1, (hfF_61.w (by decide))⟩, h.2.2.F ht⟩) h.2.2.2.2 dX5_obey_183
                    · by_cases c_65 : ac = 10
                      · refine lv_tableIn (off := 119) (tgt := 120) hx hb dX5_obey_1 (by rw [c_65]; decide) (by rw [c_65]; decide) (by rw [c_65]; rfl) (by decide) ?_
                        have bac_65 : zB 10 10 ac := by rw [c_65]; exact zBc _ _ (by decide)
                        refine lv_aload_n hx hb dX5_obey_120 rfl (lv_at hl 0 rfl) ?_
                        refine lv_iload_n hx hb dX5_obey_121 rfl (lv_at hl 2 rfl) ?_
                        refine lv_iload_n hx hb dX5_obey_122 rfl (lv_at hl 3 rfl) ?_
                        refine zk_Vv (As := [.int nu, .int li]) (rest := []) (bytes := cX5_set) (maxL := 4) (ret := none) Z h (zm_X5_set l D k Γ L F s.heap.size th nu li (μ) hth p_vm hr2 hr0) (cwV 2 hg zv_RX5_138 rfl rfl rfl zd_X5_set ⟨z_leR hRf (by decide), z_leR hRl (by decide)⟩) hth (by decide) rfl rfl hl.1 rfl (Nat.le_of_ble_eq_true rfl) dX5_obey_123 ⟨Nat.zero_le _, Nat.zero_le _⟩ (fun F_67 H locs w_68 h hfF_67 => ?_)
                        obtain ⟨q_69, -⟩ := w_68
                        have hI_70 := h.2.1
                        refine lv_goto (tgt := 183) hx hb dX5_obey_126 (by decide) ?_
                        subst hQ
                        exact W.vret hx hb hr (fun t ht hW => ⟨⟨F_67, rfl, ⟨(by rw [show ac.toInt.toNat = 10 by have := bac_65.1; have := bac_65.2; have := (zB.all nu).1; have := (zB.all nu).2; have := (zB.all li).1; have := (zB.all li).2; have := bfl.1; have := bfl.2; have := bru.1; have := bru.2; omega, zv_ob10, zv_ofNat hr4, zv_ofInt]; exact q_69), trivial⟩, by rw [ht]; exact h.1, h.2.1, (hfF_67.w (by decide))⟩, h.2.2.F ht⟩) h.2.2.2.2 dX5_obey_183
                      · by_cases c_71 : ac = 11
                        · refine lv_tableIn (off := 128) (tgt := 129) hx hb dX5_obey_1 (by rw [c_71]; decide) (by rw [c_71]; decide) (by rw [c_71]; rfl) (by decide) ?_
                          have bac_71 : zB 11 11 ac := by rw [c_71]; exact zBc _ _ (by decide)
                          refine lv_aload_n hx hb dX5_obey_129 rfl (lv_at hl 0 rfl) ?_
                          refine lv_iload_n hx hb dX5_obey_130 rfl (lv_at hl 3 rfl) ?_
                          refine zk_Vv (As := [.int li]) (rest := []) (bytes := cX5_say) (maxL := 3) (ret := none) Z h (zm_X5_say l D k Γ L F s.heap.size th li (μ) hth p_vm hr3 hr2) (cwV 1 hg zv_RX5_142 rfl rfl rfl zd_X5_say ⟨z_leR hRf (by decide), z_leR hRl (by decide)⟩) hth (by decide) rfl rfl hl.1 rfl (Nat.le_of_ble_eq_true rfl) dX5_obey_131 ⟨Nat.zero_le _, Nat.zero_le _⟩ (fun F_73 H locs w_74 h hfF_73 => ?_)
                          obtain ⟨q_75, -⟩ := w_74
                          have hI_76 := h.2.1
                          refine lv_goto (tgt := 183) hx hb dX5_obey_134 (by decide) ?_
                          subst hQ
                          exact W.vret hx hb hr (fun t ht hW => ⟨⟨F_73, rfl, ⟨(by rw [show ac.toInt.toNat = 11 by have := bac_71.1; have := bac_71.2; have := (zB.all nu).1; have := (zB.all nu).2; have := (zB.all li).1; have := (zB.all li).2; have := bfl.1; have := bfl.2; have := bru.1; have := bru.2; omega, zv_ob11, zv_ofNat hr4]; exact q_75), trivial⟩, by rw [ht]; exact h.1, h.2.1, (hfF_73.w (by decide))⟩, h.2.2.F ht⟩) h.2.2.2.2 dX5_obey_183
                        · by_cases c_77 : ac = 12
                          · refine lv_tableIn (off := 136) (tgt := 137) hx hb dX5_obey_1 (by rw [c_77]; decide) (by rw [c_77]; decide) (by rw [c_77]; rfl) (by decide) ?_
                            have bac_77 : zB 12 12 ac := by rw [c_77]; exact zBc _ _ (by decide)
                            refine lv_aload_n hx hb dX5_obey_137 rfl (lv_at hl 0 rfl) ?_
                            refine lv_iload_n hx hb dX5_obey_138 rfl (lv_at hl 3 rfl) ?_
                            refine zk_Vv (As := [.int li]) (rest := []) (bytes := cX5_giveBack) (maxL := 3) (ret := none) Z h (zm_X5_giveBack l D k Γ L F s.heap.size th li (μ) hth p_vm hr2 hr0) (cwV 1 hg zv_RX5_145 rfl rfl rfl zd_X5_giveBack ⟨z_leR hRf (by decide), z_leR hRl (by decide)⟩) hth (by decide) rfl rfl hl.1 rfl (Nat.le_of_ble_eq_true rfl) dX5_obey_139 ⟨Nat.zero_le _, Nat.zero_le _⟩ (fun F_79 H locs w_80 h hfF_79 => ?_)
                            obtain ⟨q_81, -⟩ := w_80
                            have hI_82 := h.2.1
                            refine lv_goto (tgt := 183) hx hb dX5_obey_142 (by decide) ?_
                            subst hQ
                            exact W.vret hx hb hr (fun t ht hW => ⟨⟨F_79, rfl, ⟨(by rw [show ac.toInt.toNat = 12 by have := bac_77.1; have := bac_77.2; have := (zB.all nu).1; have := (zB.all nu).2; have := (zB.all li).1; have := (zB.all li).2; have := bfl.1; have := bfl.2; have := bru.1; have := bru.2; omega, zv_ob12, zv_ofNat hr4]; exact q_81), trivial⟩, by rw [ht]; exact h.1, h.2.1, (hfF_79.w (by decide))⟩, h.2.2.F ht⟩) h.2.2.2.2 dX5_obey_183
                          · by_cases c_83 : ac = 13
                            · refine lv_tableIn (off := 144) (tgt := 145) hx hb dX5_obey_1 (by rw [c_83]; decide) (by rw [c_83]; decide) (by rw [c_83]; rfl) (by decide) ?_
                              have bac_83 : zB 13 13 ac := by rw [c_83]; exact zBc _ _ (by decide)
                              refine lv_aload_n hx hb dX5_obey_145 rfl (lv_at hl 0 rfl) ?_
                              refine lv_iload_n hx hb dX5_obey_146 rfl (lv_at hl 2 rfl) ?_
                              refine lv_iload_n hx hb dX5_obey_147 rfl (lv_at hl 3 rfl) ?_
                              refine zk_Vv (As := [.int nu, .int li]) (rest := []) (bytes := cX5_branch) (maxL := 4) (ret := none) Z h (zm_X5_branch l D k Γ L F s.heap.size th nu li (μ) hth p_vm hr2 hr4 (hr5.2.2 (by have := bac_83.1; have := bac_83.2; have := (zB.all nu).1; have := (zB.all nu).2; have := (zB.all li).1; have := (zB.all li).2; have := bfl.1; have := bfl.2; have := bru.1; have := bru.2; omega) (by have := bac_83.1; have := bac_83.2; have := (zB.all nu).1; have := (zB.all nu).2; have := (zB.all li).1; have := (zB.all li).2; have := bfl.1; have := bfl.2; have := bru.1; have := bru.2; omega))) (cwV 2 hg zv_RX5_148 rfl rfl rfl zd_X5_branch ⟨z_leR hRf (by decide), z_leR hRl (by decide)⟩) hth (by decide) rfl rfl hl.1 rfl (Nat.le_of_ble_eq_true rfl) dX5_obey_148 ⟨Nat.zero_le _, Nat.zero_le _⟩ (fun F_85 H locs w_86 h hfF_85 => ?_)
                              obtain ⟨q_87, -⟩ := w_86
                              have hI_88 := h.2.1
                              refine lv_goto (tgt := 183) hx hb dX5_obey_151 (by decide) ?_
                              subst hQ
                              exact W.vret hx hb hr (fun t ht hW => ⟨⟨F_85, rfl, ⟨(by rw [show ac.toInt.toNat = 13 by have := bac_83.1; have := bac_83.2; have := (zB.all nu).1; have := (zB.all nu).2; have := (zB.all li).1; have := (zB.all li).2; have := bfl.1; have := bfl.2; have := bru.1; have := bru.2; omega, zv_ob13]; exact q_87), trivial⟩, by rw [ht]; exact h.1, h.2.1, (hfF_85.w (by decide))⟩, h.2.2.F ht⟩) h.2.2.2.2 dX5_obey_183
                            · by_cases c_89 : ac = 14
                              · refine lv_tableIn (off := 153) (tgt := 154) hx hb dX5_obey_1 (by rw [c_89]; decide) (by rw [c_89]; decide) (by rw [c_89]; rfl) (by decide) ?_
                                have bac_89 : zB 14 14 ac := by rw [c_89]; exact zBc _ _ (by decide)
                                refine lv_aload_n hx hb dX5_obey_154 rfl (lv_at hl 0 rfl) ?_
                                refine lv_iload_n hx hb dX5_obey_155 rfl (lv_at hl 2 rfl) ?_
                                refine zk_Vv (As := [.int nu]) (rest := []) (bytes := cX5_again) (maxL := 2) (ret := none) Z h (zm_X5_again l D k Γ L F s.heap.size th nu (μ) fl ru hth p_vm kfl bfl kru bru hr1 (hr5.2.2 (by have := bac_89.1; have := bac_89.2; have := (zB.all nu).1; have := (zB.all nu).2; have := (zB.all li).1; have := (zB.all li).2; have := bfl.1; have := bfl.2; have := bru.1; have := bru.2; omega) (by have := bac_89.1; have := bac_89.2; have := (zB.all nu).1; have := (zB.all nu).2; have := (zB.all li).1; have := (zB.all li).2; have := bfl.1; have := bfl.2; have := bru.1; have := bru.2; omega))) (cwV 1 hg zv_RX5_151 rfl rfl rfl zd_X5_again ⟨z_leR hRf (by decide), z_leR hRl (by decide)⟩) hth (by decide) rfl rfl hl.1 rfl (Nat.le_of_ble_eq_true rfl) dX5_obey_156 ⟨Nat.zero_le _, Nat.zero_le _⟩ (fun F_91 H locs w_92 h hfF_91 => ?_)
                                obtain ⟨q_93, -⟩ := w_92
                                have hI_94 := h.2.1
                                refine lv_goto (tgt := 183) hx hb dX5_obey_159 (by decide) ?_
                                subst hQ
                                exact W.vret hx hb hr (fun t ht hW => ⟨⟨F_91, rfl, ⟨(by rw [show ac.toInt.toNat = 14 by have := bac_89.1; have := bac_89.2; have := (zB.all nu).1; have := (zB.all nu).2; have := (zB.all li).1; have := (zB.all li).2; have := bfl.1; have := bfl.2; have := bru.1; have := bru.2; omega, zv_ob14]; exact q_93), trivial⟩, by rw [ht]; exact h.1, h.2.1, (hfF_91.w (by decide))⟩, h.2.2.F ht⟩) h.2.2.2.2 dX5_obey_183
                              · by_cases c_95 : ac = 15
                                · refine lv_tableIn (off := 161) (tgt := 162) hx hb dX5_obey_1 (by rw [c_95]; decide) (by rw [c_95]; decide) (by rw [c_95]; rfl) (by decide) ?_
                                  have bac_95 : zB 15 15 ac := by rw [c_95]; exact zBc _ _ (by decide)
                                  refine lv_aload_n hx hb dX5_obey_162 rfl (lv_at hl 0 rfl) ?_
                                  refine lv_iload_n hx hb dX5_obey_163 rfl (lv_at hl 2 rfl) ?_
                                  refine zt_put (t := 5) (C := RX5) (T := TX5) (N := 19) (v := .int nu) Z h hth zin_5 tyX5 tyX5_ok nmX5 rfl 14 rfl ⟨by decide, rfl⟩ (zm_RX5 (List.mem_of_getElem? (i := 31) rfl)) (fun _ h9 => h9) rfl (zV.i (zB.all nu)) rfl rfl dX5_obey_164 (fun H locs F_97 h hfF_97 kF_97 => ?_)
                                  refine lv_goto (tgt := 183) hx hb dX5_obey_167 (by decide) ?_
                                  have hv_98 : zFr Γ [514] F F_97 := hfF_97
                                  have vm_99 : zVc F_97 th (v_go μ nu.toInt.toNat) := ⟨⟨(p_vm.en.fr hv_98 hth ⟨by decide, by decide⟩), (hv_98.f hth 1 ⟨by decide, by decide⟩ p_vm.vl), (p_vm.go.fr hv_98 hth ⟨by decide, by decide⟩)⟩, ⟨(p_vm.st.fr hv_98 hth ⟨by decide, by decide⟩), (hv_98.f hth 6 ⟨by decide, by decide⟩ p_vm.cv), (p_vm.sc.fr hv_98 hth ⟨by decide, by decide⟩), ((zVa (j := 7) (c := 108) hI0 hth hv_98 ⟨by decide, rfl⟩ ⟨⟨by decide, by decide⟩, by decide, by decide⟩).trans p_vm.sd), (p_vm.tc.fr hv_98 hth ⟨by decide, by decide⟩), ((zVa (j := 8) (c := 109) hI0 hth hv_98 ⟨by decide, rfl⟩ ⟨⟨by decide, by decide⟩, by decide, by decide⟩).trans p_vm.tr), (p_vm.mx.fr hv_98 hth ⟨by decide, by decide⟩)⟩, ⟨(zFnx.mk kF_97 (by show _ = ((nu.toInt.toNat : Nat) : Int); have := bac_95.1; have := bac_95.2; have := (zB.all nu).1; have := (zB.all nu).2; have := (zB.all li).1; have := (zB.all li).2; have := bfl.1; have := bfl.2; have := bru.1; have := bru.2; omega)), (p_vm.dp.fr hv_98 hth ⟨by decide, by decide⟩), ((zVa (j := 9) (c := 110) hI0 hth hv_98 ⟨by decide, rfl⟩ ⟨⟨by decide, by decide⟩, by decide, by decide⟩).trans p_vm.pl), (fun j hj => zNg_cg (congrFun (zVa (j := 16) (c := 111) hI0 hth hv_98 ⟨by decide, rfl⟩ ⟨⟨by decide, by decide⟩, by decide, by decide⟩) j) (p_vm.bk j hj))⟩, (p_vm.tp.fr hv_98 hth ⟨by decide, by decide⟩), (p_vm.sk.trans (congrArg (fun z => zvls z _) (zVa (j := 17) (c := 112) hI0 hth hv_98 ⟨by decide, rfl⟩ ⟨⟨by decide, by decide⟩, by decide, by decide⟩).symm)), p_vm.lh⟩
                                  have hI_100 := h.2.1
                                  subst hQ
                                  exact W.vret hx hb hr (fun t ht hW => ⟨⟨F_97, rfl, ⟨(by rw [show ac.toInt.toNat = 15 by have := bac_95.1; have := bac_95.2; have := (zB.all nu).1; have := (zB.all nu).2; have := (zB.all li).1; have := (zB.all li).2; have := bfl.1; have := bfl.2; have := bru.1; have := bru.2; omega, zv_ob15]; exact vm_99), trivial⟩, by rw [ht]; exact h.1, h.2.1, (hfF_97.w (by decide))⟩, h.2.2.F ht⟩) h.2.2.2.2 dX5_obey_183
                                · by_cases c_101 : ac = 16
                                  · refine lv_tableIn (off := 169) (tgt := 170) hx hb dX5_obey_1 (by rw [c_101]; decide) (by rw [c_101]; decide) (by rw [c_101]; rfl) (by decide) ?_
                                    have bac_101 : zB 16 16 ac := by rw [c_101]; exact zBc _ _ (by decide)
                                    refine lv_aload_n hx hb dX5_obey_170 rfl (lv_at hl 0 rfl) ?_
                                    refine lv_iconst (v := 0) hx hb dX5_obey_171 (by decide) ?_
                                    refine zk_Vv (As := [.int 0]) (rest := []) (bytes := cX5_leave) (maxL := 2) (ret := none) Z h (zm_X5_leave l D k Γ L F s.heap.size th 0 (μ) hth p_vm hr0) (cwV 1 hg zv_RX5_154 rfl rfl rfl zd_X5_leave ⟨z_leR hRf (by decide), z_leR hRl (by decide)⟩) hth (by decide) rfl rfl hl.1 rfl (Nat.le_of_ble_eq_true rfl) dX5_obey_172 ⟨Nat.zero_le _, Nat.zero_le _⟩ (fun F_103 H locs w_104 h hfF_103 => ?_)
                                    obtain ⟨q_105, -⟩ := w_104
                                    have hI_106 := h.2.1
                                    refine lv_goto (tgt := 183) hx hb dX5_obey_175 (by decide) ?_
                                    subst hQ
                                    exact W.vret hx hb hr (fun t ht hW => ⟨⟨F_103, rfl, ⟨(by rw [show ac.toInt.toNat = 16 by have := bac_101.1; have := bac_101.2; have := (zB.all nu).1; have := (zB.all nu).2; have := (zB.all li).1; have := (zB.all li).2; have := bfl.1; have := bfl.2; have := bru.1; have := bru.2; omega, zv_ob16]; exact q_105), trivial⟩, by rw [ht]; exact h.1, h.2.1, (hfF_103.w (by decide))⟩, h.2.2.F ht⟩) h.2.2.2.2 dX5_obey_183
                                  · have nc_1 : ac.toInt ≠ 0 := z_nev c_1 (by decide)
                                    have nc_7 : ac.toInt ≠ 1 := z_nev c_7 (by decide)
                                    have nc_13 : ac.toInt ≠ 2 := z_nev c_13 (by decide)
                                    have nc_23 : ac.toInt ≠ 3 := z_nev c_23 (by decide)
                                    have nc_29 : ac.toInt ≠ 4 := z_nev c_29 (by decide)
                                    have nc_35 : ac.toInt ≠ 5 := z_nev c_35 (by decide)
                                    have nc_41 : ac.toInt ≠ 6 := z_nev c_41 (by decide)
                                    have nc_47 : ac.toInt ≠ 7 := z_nev c_47 (by decide)
                                    have nc_53 : ac.toInt ≠ 8 := z_nev c_53 (by decide)
                                    have nc_59 : ac.toInt ≠ 9 := z_nev c_59 (by decide)
                                    have nc_65 : ac.toInt ≠ 10 := z_nev c_65 (by decide)
                                    have nc_71 : ac.toInt ≠ 11 := z_nev c_71 (by decide)
                                    have nc_77 : ac.toInt ≠ 12 := z_nev c_77 (by decide)
                                    have nc_83 : ac.toInt ≠ 13 := z_nev c_83 (by decide)
                                    have nc_89 : ac.toInt ≠ 14 := z_nev c_89 (by decide)
                                    have nc_95 : ac.toInt ≠ 15 := z_nev c_95 (by decide)
                                    have nc_101 : ac.toInt ≠ 16 := z_nev c_101 (by decide)
                                    exfalso
                                    have := bac_.1; have := bac_.2; omega

set_option maxHeartbeats 4000000 in
set_option maxRecDepth 100000 in
theorem zm_X5_start (l : Launch) (D : va_G) (k : Nat → ClassId) (Γ : Nat → Option Nat) (L : List Nat) (F : Nat → va_E) (sz : Nat) (th : Nat) (p_ : Nat) (fu : Int32) (ru : Int32) (nx_ : Int32) (hth : Γ th = some 5) (hp_ : Γ p_ = some 6) (knx_ : zfld F th 14 = .int nx_) (bnx_ : zB (-2147483648) 2147483647 nx_) : Met l yX5_start zwX5_start ({ frames := 0, cells := 0, slots := 0, locals := 0 }) (va_Pc [.ref th, .ref p_, .int fu, .int ru] (zP D k Γ L F sz)) (va_Qv (fun (u : Nat → va_E) => zVc u th (v_new0 (zar F th 7) (zar F th 8) (zar F th 9) (zng nx_)) ∧ zfld u th 10 = .ref p_ ∧ zfld u th 12 = .int fu ∧ zfld u th 11 = .int ru ∧ True) (zQ D k Γ L F [500, 501, 502, 503, 504, 505, 506, 510, 511, 512, 513, 515, 518]) (zA L sz)) 0 0 (zA L sz) := by
  refine Met.ofW (cc := cX5_start) (maxL := 4) (ret := none) (by decide) rfl ?_
  intro p e s m args below meth c s₁ B hml hv
  obtain ⟨rfl, hsz, hP, hK, hLn, hE, hI⟩ := hv
  have hx := B.exec
  have hb := B.bytes
  have hr := B.returns
  have hg : ∀ w ∈ zG, w.before _ s = true := fun w h9 => atoms_spec (ws := zwX5_start) B.pre w (List.mem_cons_of_mem _ h9)
  have hown : s.vm.findClass RX5 = some m.cls := findClass_of_methodNamed B.named
  have hlocks := B.notSynchronized
  subst hsz
  have Z : zC p m c cX5_start 4 s _ zG RX5 D k L := ⟨⟨hx, hb, hml, hown, hg⟩, hK, hLn, hE⟩
  have h : zH D k Γ L s F s.heap [] := ⟨hP, hI, va_S.rf⟩
  have hl := lv_entry ([.ref th, .ref p_, .int fu, .int ru]) (n := 4) (Nat.le_of_ble_eq_true rfl)
  rw [lg_entry_eq]
  generalize (lg_sl ([.ref th, .ref p_, .int fu, .int ru]) ++ List.replicate (4 - (lg_sl ([.ref th, .ref p_, .int fu, .int ru])).length) Slot.unset).toArray = ls at hl ⊢
  have hl : lv_has ls 4 [(0, .ref th), (1, .ref p_), (2, .int fu), (3, .int ru)] := hl
  clear hP hK hLn hE hI
  generalize hargs : ([.ref th, .ref p_, .int fu, .int ru] : List Value).toArray = args at *
  refine z_start (fun R Q hRf hRl hQ => ?_)
  have hRf : R.frames = 0 := hRf
  have hRl : R.locals = 0 := hRl
  have h9 := h
  have hI0 := h.2.1
  refine lv_aload_n hx hb dX5_start_0 rfl (lv_at hl 0 rfl) ?_
  refine lv_aload_n hx hb dX5_start_1 rfl (lv_at hl 1 rfl) ?_
  refine zt_put (t := 5) (C := RX5) (T := TX5) (N := 19) (v := .ref p_) Z h hth zin_5 tyX5 tyX5_ok nmX5 rfl 10 rfl ⟨by decide, rfl⟩ (zm_RX5 (List.mem_of_getElem? (i := 2) rfl)) (fun _ h9 => h9) rfl trivial rfl rfl dX5_start_2 (fun H locs F_1 h hfF_1 kF_1 => ?_)
  refine lv_aload_n hx hb dX5_start_5 rfl (lv_at hl 0 rfl) ?_
  refine lv_iload_n hx hb dX5_start_6 rfl (lv_at hl 2 rfl) ?_
  refine zt_put (t := 5) (C := RX5) (T := TX5) (N := 19) (v := .int fu) Z h hth zin_5 tyX5 tyX5_ok nmX5 rfl 12 rfl ⟨by decide, rfl⟩ (zm_RX5 (List.mem_of_getElem? (i := 3) rfl)) (fun _ h9 => h9) rfl (zV.i (zB.all fu)) rfl rfl dX5_start_7 (fun H locs F_2 h hfF_2 kF_2 => ?_)
  refine lv_aload_n hx hb dX5_start_10 rfl (lv_at hl 0 rfl) ?_
  refine lv_iload_n hx hb dX5_start_11 rfl (lv_at hl 3 rfl) ?_
  refine zt_put (t := 5) (C := RX5) (T := TX5) (N := 19) (v := .int ru) Z h hth zin_5 tyX5 tyX5_ok nmX5 rfl 11 rfl ⟨by decide, rfl⟩ (zm_RX5 (List.mem_of_getElem? (i := 4) rfl)) (fun _ h9 => h9) rfl (zV.i (zB.all ru)) rfl rfl dX5_start_12 (fun H locs F_3 h hfF_3 kF_3 => ?_)
  refine lv_aload_n hx hb dX5_start_15 rfl (lv_at hl 0 rfl) ?_
  refine lv_iconst (v := 1) hx hb dX5_start_16 (by decide) ?_
  refine zt_put (t := 5) (C := RX5) (T := TX5) (N := 19) (v := .int 1) Z h hth zin_5 tyX5 tyX5_ok nmX5 rfl 0 rfl ⟨by decide, rfl⟩ (zm_RX5 (List.mem_of_getElem? (i := 5) rfl)) (fun _ h9 => h9) rfl (zV.i (zB.of ⟨by decide, by decide⟩)) rfl rfl dX5_start_17 (fun H locs F_4 h hfF_4 kF_4 => ?_)
  refine lv_aload_n hx hb dX5_start_20 rfl (lv_at hl 0 rfl) ?_
  refine lv_iconst (v := 0) hx hb dX5_start_21 (by decide) ?_
  refine zt_put (t := 5) (C := RX5) (T := TX5) (N := 19) (v := .int 0) Z h hth zin_5 tyX5 tyX5_ok nmX5 rfl 1 rfl ⟨by decide, rfl⟩ (zm_RX5 (List.mem_of_getElem? (i := 6) rfl)) (fun _ h9 => h9) rfl (zV.i (zB.of ⟨by decide, by decide⟩)) rfl rfl dX5_start_22 (fun H locs F_5 h hfF_5 kF_5 => ?_)
  refine lv_aload_n hx hb dX5_start_25 rfl (lv_at hl 0 rfl) ?_
  refine lv_iconst (v := 0) hx hb dX5_start_26 (by decide) ?_
  refine zt_put (t := 5) (C := RX5) (T := TX5) (N := 19) (v := .int 0) Z h hth zin_5 tyX5 tyX5_ok nmX5 rfl 2 rfl ⟨by decide, rfl⟩ (zm_RX5 (List.mem_of_getElem? (i := 7) rfl)) (fun _ h9 => h9) rfl (zV.i (zB.of ⟨by decide, by decide⟩)) rfl rfl dX5_start_27 (fun H locs F_6 h hfF_6 kF_6 => ?_)
  refine lv_aload_n hx hb dX5_start_30 rfl (lv_at hl 0 rfl) ?_
  refine lv_iconst (v := 0) hx hb dX5_start_31 (by decide) ?_
  refine zt_put (t := 5) (C := RX5) (T := TX5) (N := 19) (v := .int 0) Z h hth zin_5 tyX5 tyX5_ok nmX5 rfl 3 rfl ⟨by decide, rfl⟩ (zm_RX5 (List.mem_of_getElem? (i := 8) rfl)) (fun _ h9 => h9) rfl (zV.i (zB.of ⟨by decide, by decide⟩)) rfl rfl dX5_start_32 (fun H locs F_7 h hfF_7 kF_7 => ?_)
  refine lv_aload_n hx hb dX5_start_35 rfl (lv_at hl 0 rfl) ?_
  refine lv_iconst (v := 0) hx hb dX5_start_36 (by decide) ?_
  refine zt_put (t := 5) (C := RX5) (T := TX5) (N := 19) (v := .int 0) Z h hth zin_5 tyX5 tyX5_ok nmX5 rfl 4 rfl ⟨by decide, rfl⟩ (zm_RX5 (List.mem_of_getElem? (i := 9) rfl)) (fun _ h9 => h9) rfl (zV.i (zB.of ⟨by decide, by decide⟩)) rfl rfl dX5_start_37 (fun H locs F_8 h hfF_8 kF_8 => ?_)
  refine lv_aload_n hx hb dX5_start_40 rfl (lv_at hl 0 rfl) ?_
  refine lv_iconst (v := 0) hx hb dX5_start_41 (by decide) ?_
  refine zt_put (t := 5) (C := RX5) (T := TX5) (N := 19) (v := .int 0) Z h hth zin_5 tyX5 tyX5_ok nmX5 rfl 5 rfl ⟨by decide, rfl⟩ (zm_RX5 (List.mem_of_getElem? (i := 10) rfl)) (fun _ h9 => h9) rfl (zV.i (zB.of ⟨by decide, by decide⟩)) rfl rfl dX5_start_42 (fun H locs F_9 h hfF_9 kF_9 => ?_)
  refine lv_aload_n hx hb dX5_start_45 rfl (lv_at hl 0 rfl) ?_
  refine lv_lconst (v := 0) hx hb dX5_start_46 (by decide) ?_
  refine zt_put (t := 5) (C := RX5) (T := TX5) (N := 19) (v := .long 0) Z h hth zin_5 tyX5 tyX5_ok nmX5 rfl 6 rfl ⟨by decide, rfl⟩ (zm_RX5 (List.mem_of_getElem? (i := 11) rfl)) (fun _ h9 => h9) rfl zV.l rfl rfl dX5_start_47 (fun H locs F_10 h hfF_10 kF_10 => ?_)
  refine lv_aload_n hx hb dX5_start_50 rfl (lv_at hl 0 rfl) ?_
  refine lv_iconst (v := 0) hx hb dX5_start_51 (by decide) ?_
  refine zt_put (t := 5) (C := RX5) (T := TX5) (N := 19) (v := .int 0) Z h hth zin_5 tyX5 tyX5_ok nmX5 rfl 15 rfl ⟨by decide, rfl⟩ (zm_RX5 (List.mem_of_getElem? (i := 12) rfl)) (fun _ h9 => h9) rfl (zV.i (zB.of ⟨by decide, by decide⟩)) rfl rfl dX5_start_52 (fun H locs F_11 h hfF_11 kF_11 => ?_)
  refine lv_aload_n hx hb dX5_start_55 rfl (lv_at hl 0 rfl) ?_
  refine lv_iconst (v := 0) hx hb dX5_start_56 (by decide) ?_
  refine zt_put (t := 5) (C := RX5) (T := TX5) (N := 19) (v := .int 0) Z h hth zin_5 tyX5 tyX5_ok nmX5 rfl 18 rfl ⟨by decide, rfl⟩ (zm_RX5 (List.mem_of_getElem? (i := 13) rfl)) (fun _ h9 => h9) rfl (zV.i (zB.of ⟨by decide, by decide⟩)) rfl rfl dX5_start_57 (fun H locs F_12 h hfF_12 kF_12 => ?_)
  refine lv_aload_n hx hb dX5_start_60 rfl (lv_at hl 0 rfl) ?_
  refine lv_iconst (v := 1) hx hb dX5_start_61 (by decide) ?_
  refine zt_put (t := 5) (C := RX5) (T := TX5) (N := 19) (v := .int 1) Z h hth zin_5 tyX5 tyX5_ok nmX5 rfl 13 rfl ⟨by decide, rfl⟩ (zm_RX5 (List.mem_of_getElem? (i := 14) rfl)) (fun _ h9 => h9) rfl (zV.i (zB.of ⟨by decide, by decide⟩)) rfl rfl dX5_start_62 (fun H locs F_13 h hfF_13 kF_13 => ?_)
  subst hQ
  exact W.vret hx hb hr (fun t ht hW => ⟨⟨F_13, rfl, ⟨⟨⟨(zFi.mk (hfF_13.f hth 0 ⟨by decide, by decide⟩ (hfF_12.f hth 0 ⟨by decide, by decide⟩ (hfF_11.f hth 0 ⟨by decide, by decide⟩ (hfF_10.f hth 0 ⟨by decide, by decide⟩ (hfF_9.f hth 0 ⟨by decide, by decide⟩ (hfF_8.f hth 0 ⟨by decide, by decide⟩ (hfF_7.f hth 0 ⟨by decide, by decide⟩ (hfF_6.f hth 0 ⟨by decide, by decide⟩ (hfF_5.f hth 0 ⟨by decide, by decide⟩ kF_4))))))))) (show (1 : Int32).toInt = (1 : Int) by decide)), (hfF_13.f hth 1 ⟨by decide, by decide⟩ (hfF_12.f hth 1 ⟨by decide, by decide⟩ (hfF_11.f hth 1 ⟨by decide, by decide⟩ (hfF_10.f hth 1 ⟨by decide, by decide⟩ (hfF_9.f hth 1 ⟨by decide, by decide⟩ (hfF_8.f hth 1 ⟨by decide, by decide⟩ (hfF_7.f hth 1 ⟨by decide, by decide⟩ (hfF_6.f hth 1 ⟨by decide, by decide⟩ kF_5)))))))), (zFi.mk kF_13 (show (1 : Int32).toInt = (1 : Int) by decide))⟩, ⟨(zFi.mk (hfF_13.f hth 2 ⟨by decide, by decide⟩ (hfF_12.f hth 2 ⟨by decide, by decide⟩ (hfF_11.f hth 2 ⟨by decide, by decide⟩ (hfF_10.f hth 2 ⟨by decide, by decide⟩ (hfF_9.f hth 2 ⟨by decide, by decide⟩ (hfF_8.f hth 2 ⟨by decide, by decide⟩ (hfF_7.f hth 2 ⟨by decide, by decide⟩ kF_6))))))) (show (0 : Int32).toInt = (0 : Int) by decide)), (hfF_13.f hth 6 ⟨by decide, by decide⟩ (hfF_12.f hth 6 ⟨by decide, by decide⟩ (hfF_11.f hth 6 ⟨by decide, by decide⟩ kF_10))), (zFi.mk (hfF_13.f hth 3 ⟨by decide, by decide⟩ (hfF_12.f hth 3 ⟨by decide, by decide⟩ (hfF_11.f hth 3 ⟨by decide, by decide⟩ (hfF_10.f hth 3 ⟨by decide, by decide⟩ (hfF_9.f hth 3 ⟨by decide, by decide⟩ (hfF_8.f hth 3 ⟨by decide, by decide⟩ kF_7)))))) (show (0 : Int32).toInt = (0 : Int) by decide)), (zVa (j := 7) (c := 108) hI0 hth (((((((((((((((hfF_1.w (by decide)).trans hfF_2 (by decide)).trans hfF_3 (by decide)).trans hfF_4 (by decide)).trans hfF_5 (by decide)).trans hfF_6 (by decide)).trans hfF_7 (by decide)).trans hfF_8 (by decide)).trans hfF_9 (by decide)).trans hfF_10 (by decide)).trans hfF_11 (by decide)).trans hfF_12 (by decide)).trans hfF_13 (by decide)) : zFr Γ [500, 501, 502, 503, 504, 505, 506, 510, 511, 512, 513, 515, 518] F F_13)) ⟨by decide, rfl⟩ ⟨⟨by decide, by decide⟩, by decide, by decide⟩), (zFi.mk (hfF_13.f hth 4 ⟨by decide, by decide⟩ (hfF_12.f hth 4 ⟨by decide, by decide⟩ (hfF_11.f hth 4 ⟨by decide, by decide⟩ (hfF_10.f hth 4 ⟨by decide, by decide⟩ (hfF_9.f hth 4 ⟨by decide, by decide⟩ kF_8))))) (show (0 : Int32).toInt = (0 : Int) by decide)), (zVa (j := 8) (c := 109) hI0 hth (((((((((((((((hfF_1.w (by decide)).trans hfF_2 (by decide)).trans hfF_3 (by decide)).trans hfF_4 (by decide)).trans hfF_5 (by decide)).trans hfF_6 (by decide)).trans hfF_7 (by decide)).trans hfF_8 (by decide)).trans hfF_9 (by decide)).trans hfF_10 (by decide)).trans hfF_11 (by decide)).trans hfF_12 (by decide)).trans hfF_13 (by decide)) : zFr Γ [500, 501, 502, 503, 504, 505, 506, 510, 511, 512, 513, 515, 518] F F_13)) ⟨by decide, rfl⟩ ⟨⟨by decide, by decide⟩, by decide, by decide⟩), (zFi.mk (hfF_13.f hth 5 ⟨by decide, by decide⟩ (hfF_12.f hth 5 ⟨by decide, by decide⟩ (hfF_11.f hth 5 ⟨by decide, by decide⟩ (hfF_10.f hth 5 ⟨by decide, by decide⟩ kF_9)))) (show (0 : Int32).toInt = (0 : Int) by decide))⟩, ⟨⟨_, (hfF_13.f hth 14 ⟨by decide, by decide⟩ (hfF_12.f hth 14 ⟨by decide, by decide⟩ (hfF_11.f hth 14 ⟨by decide, by decide⟩ (hfF_10.f hth 14 ⟨by decide, by decide⟩ (hfF_9.f hth 14 ⟨by decide, by decide⟩ (hfF_8.f hth 14 ⟨by decide, by decide⟩ (hfF_7.f hth 14 ⟨by decide, by decide⟩ (hfF_6.f hth 14 ⟨by decide, by decide⟩ (hfF_5.f hth 14 ⟨by decide, by decide⟩ (hfF_4.f hth 14 ⟨by decide, by decide⟩ (hfF_3.f hth 14 ⟨by decide, by decide⟩ (hfF_2.f hth 14 ⟨by decide, by decide⟩ (hfF_1.f hth 14 ⟨by decide, by decide⟩ knx_))))))))))))), zng_is nx_⟩, (zFi.mk (hfF_13.f hth 15 ⟨by decide, by decide⟩ (hfF_12.f hth 15 ⟨by decide, by decide⟩ kF_11)) (show (0 : Int32).toInt = (0 : Int) by decide)), (zVa (j := 9) (c := 110) hI0 hth (((((((((((((((hfF_1.w (by decide)).trans hfF_2 (by decide)).trans hfF_3 (by decide)).trans hfF_4 (by decide)).trans hfF_5 (by decide)).trans hfF_6 (by decide)).trans hfF_7 (by decide)).trans hfF_8 (by decide)).trans hfF_9 (by decide)).trans hfF_10 (by decide)).trans hfF_11 (by decide)).trans hfF_12 (by decide)).trans hfF_13 (by decide)) : zFr Γ [500, 501, 502, 503, 504, 505, 506, 510, 511, 512, 513, 515, 518] F F_13)) ⟨by decide, rfl⟩ ⟨⟨by decide, by decide⟩, by decide, by decide⟩), fun j hj => absurd hj (Nat.not_lt_zero _)⟩, (zFi.mk (hfF_13.f hth 18 ⟨by decide, by decide⟩ kF_12) (show (0 : Int32).toInt = (0 : Int) by decide)), rfl, (show (0 : Nat) ≤ 288 by decide)⟩, (hfF_13.f hth 10 ⟨by decide, by decide⟩ (hfF_12.f hth 10 ⟨by decide, by decide⟩ (hfF_11.f hth 10 ⟨by decide, by decide⟩ (hfF_10.f hth 10 ⟨by decide, by decide⟩ (hfF_9.f hth 10 ⟨by decide, by decide⟩ (hfF_8.f hth 10 ⟨by decide, by decide⟩ (hfF_7.f hth 10 ⟨by decide, by decide⟩ (hfF_6.f hth 10 ⟨by decide, by decide⟩ (hfF_5.f hth 10 ⟨by decide, by decide⟩ (hfF_4.f hth 10 ⟨by decide, by decide⟩ (hfF_3.f hth 10 ⟨by decide, by decide⟩ (hfF_2.f hth 10 ⟨by decide, by decide⟩ kF_1)))))))))))), (hfF_13.f hth 12 ⟨by decide, by decide⟩ (hfF_12.f hth 12 ⟨by decide, by decide⟩ (hfF_11.f hth 12 ⟨by decide, by decide⟩ (hfF_10.f hth 12 ⟨by decide, by decide⟩ (hfF_9.f hth 12 ⟨by decide, by decide⟩ (hfF_8.f hth 12 ⟨by decide, by decide⟩ (hfF_7.f hth 12 ⟨by decide, by decide⟩ (hfF_6.f hth 12 ⟨by decide, by decide⟩ (hfF_5.f hth 12 ⟨by decide, by decide⟩ (hfF_4.f hth 12 ⟨by decide, by decide⟩ (hfF_3.f hth 12 ⟨by decide, by decide⟩ kF_2))))))))))), (hfF_13.f hth 11 ⟨by decide, by decide⟩ (hfF_12.f hth 11 ⟨by decide, by decide⟩ (hfF_11.f hth 11 ⟨by decide, by decide⟩ (hfF_10.f hth 11 ⟨by decide, by decide⟩ (hfF_9.f hth 11 ⟨by decide, by decide⟩ (hfF_8.f hth 11 ⟨by decide, by decide⟩ (hfF_7.f hth 11 ⟨by decide, by decide⟩ (hfF_6.f hth 11 ⟨by decide, by decide⟩ (hfF_5.f hth 11 ⟨by decide, by decide⟩ (hfF_4.f hth 11 ⟨by decide, by decide⟩ kF_3)))))))))), trivial⟩, by rw [ht]; exact h.1, h.2.1, (((((((((((((hfF_1.w (by decide)).trans hfF_2 (by decide)).trans hfF_3 (by decide)).trans hfF_4 (by decide)).trans hfF_5 (by decide)).trans hfF_6 (by decide)).trans hfF_7 (by decide)).trans hfF_8 (by decide)).trans hfF_9 (by decide)).trans hfF_10 (by decide)).trans hfF_11 (by decide)).trans hfF_12 (by decide)).trans hfF_13 (by decide))⟩, h.2.2.F ht⟩) h.2.2.2.2 dX5_start_65

set_option maxHeartbeats 4000000 in
set_option maxRecDepth 100000 in
theorem zm_X5_finish (l : Launch) (D : va_G) (k : Nat → ClassId) (Γ : Nat → Option Nat) (L : List Nat) (F : Nat → va_E) (sz : Nat) (th : Nat) (f : Int32) (x : Int32) (y : Int32) (z : Int32) (μ : zVm) (fa : Nat → Nat) (pg : zPg) (pr : Nat) (co : Nat) (A : Nat → Nat × Int × Nat) (na : Nat) (fl : Int32) (ru : Int32) (hth : Γ th = some 5) (p_vm : zVc F th μ) (kpr : zfld F th 10 = .ref pr) (hpr : Γ pr = some 6) (p_vp : zVp Γ F pr fa pg) (kco : zfld F pr 1 = .ref co) (hco : Γ co = some 1) (p_vq : zVq Γ F co A na) (kfl : zfld F th 12 = .int fl) (bfl : zB (-2147483648) 2147483647 fl) (kru : zfld F th 11 = .int ru) (bru : zB (-2147483648) 2147483647 ru) (hr0 : 0 ≤ f.toInt ∧ f.toInt < (pg.1.1 : Int)) (hr1 : vdp μ = 0 ∧ vtc μ = 0 ∧ vsc μ = 0) (hr2 : vsk μ = []) (hr3 : ∀ q, q < na → (A q).1 ≤ 16 ∧ (13 ≤ (A q).1 → (A q).1 ≤ 15 → 0 ≤ (A q).2.1)) : Met l yX5_finish zwX5_finish ({ frames := 4, cells := 0, slots := 0, locals := 87 }) (va_Pc [.ref th, .int f, .int x, .int y, .int z] (zP D k Γ L F sz)) (va_Qv (fun (u : Nat → va_E) => zVc u th (v_run ru.toInt fl.toInt pg A na 4000000 (v_enter pg f.toInt (v_cut (pg.1.2 f.toInt.toNat) x y z μ))) ∧ True) (zQ D k Γ L F [500, 501, 502, 503, 504, 505, 506, 513, 514, 515, 518, 10800, 10900, 11000, 11100, 11200]) (zA L sz)) 0 0 (zA L sz) := by
  refine Met.ofW (cc := cX5_finish) (maxL := 8) (ret := none) (by decide) rfl ?_
  intro p e s m args below meth c s₁ B hml hv
  obtain ⟨rfl, hsz, hP, hK, hLn, hE, hI⟩ := hv
  have hx := B.exec
  have hb := B.bytes
  have hr := B.returns
  have hg : ∀ w ∈ zG, w.before _ s = true := fun w h9 => atoms_spec (ws := zwX5_finish) B.pre w (List.mem_cons_of_mem _ h9)
  have hown : s.vm.findClass RX5 = some m.cls := findClass_of_methodNamed B.named
  have hlocks := B.notSynchronized
  subst hsz
  have Z : zC p m c cX5_finish 8 s _ zG RX5 D k L := ⟨⟨hx, hb, hml, hown, hg⟩, hK, hLn, hE⟩
  have h : zH D k Γ L s F s.heap [] := ⟨hP, hI, va_S.rf⟩
  have hl := lv_entry ([.ref th, .int f, .int x, .int y, .int z]) (n := 8) (Nat.le_of_ble_eq_true rfl)
  rw [lg_entry_eq]
  generalize (lg_sl ([.ref th, .int f, .int x, .int y, .int z]) ++ List.replicate (8 - (lg_sl ([.ref th, .int f, .int x, .int y, .int z])).length) Slot.unset).toArray = ls at hl ⊢
  have hl : lv_has ls 8 [(0, .ref th), (1, .int f), (2, .int x), (3, .int y), (4, .int z)] := hl
  clear hP hK hLn hE hI
  generalize hargs : ([.ref th, .int f, .int x, .int y, .int z] : List Value).toArray = args at *
  refine z_start (fun R Q hRf hRl hQ => ?_)
  have hRf : R.frames = 4 := hRf
  have hRl : R.locals = 87 := hRl
  have h9 := h
  have hI0 := h.2.1
  obtain ⟨fc_, kfc_, tfc_⟩ := p_vp.2.1
  have hfc_ := p_vp.2.2.1
  have bfc_ : zB 0 10 fc_ := ⟨by omega, by omega⟩
  refine lv_aload_n hx hb dX5_finish_0 rfl (lv_at hl 0 rfl) ?_
  refine zt_getk (t := 5) (C := RX5) (T := TX5) (N := 19) Z h hth zin_5 rfl 10 kpr ⟨by decide, rfl, by decide⟩ (zm_RX5 (List.mem_of_getElem? (i := 2) rfl)) (fun _ h9 => h9) dX5_finish_1 ?_
  refine lv_ifnull hx hb dX5_finish_4 ?_
  refine lv_aload_n hx hb dX5_finish_7 rfl (lv_at hl 0 rfl) ?_
  refine zt_getk (t := 5) (C := RX5) (T := TX5) (N := 19) Z h hth zin_5 rfl 10 kpr ⟨by decide, rfl, by decide⟩ (zm_RX5 (List.mem_of_getElem? (i := 2) rfl)) (fun _ h9 => h9) dX5_finish_8 ?_
  refine lv_iload_n hx hb dX5_finish_11 rfl (lv_at hl 1 rfl) ?_
  refine zk_Vi (As := [.int f]) (rest := []) (bytes := cX6_hasFunction) (maxL := 2) (ret := (some .boolean)) Z h (ze_X6_hasFunction l D k Γ L F s.heap.size pr f fc_ hpr kfc_ bfc_) (cwV 1 hg zv_RX5_70 rfl rfl rfl zd_X6_hasFunction ⟨z_leR hRf (by decide), z_leR hRl (by decide)⟩) hpr (by decide) rfl rfl hl.1 rfl (Nat.le_of_ble_eq_true rfl) dX5_finish_12 ⟨Nat.zero_le _, Nat.zero_le _⟩ (fun r_1 F_2 H locs w_3 h hfF_2 => ?_)
  obtain ⟨rfl, br_1, q_4, q_5, -⟩ := w_3
  refine lv_if_ne (tgt := 19) hx hb dX5_finish_15 (by decide) (fun c_6 => ?_) (fun c_6 => ?_)
  · have q_7 := q_4 c_6
    have c_6 := z_ne c_6
    have br_1_8 : zB 1 1 r_1 := zB.neLo c_6 br_1 (zBc 0 0 (by decide)) (by decide)
    refine lv_aload_n hx hb dX5_finish_19 rfl (lv_at hl 0 rfl) ?_
    refine lv_iload_n hx hb dX5_finish_20 rfl (lv_at hl 2 rfl) ?_
    refine zk_Vv (As := [.int x]) (rest := []) (bytes := cX5_push) (maxL := 2) (ret := none) Z h (zm_X5_push l D k Γ L F H.size th x (μ) hth p_vm) (cwV 1 hg zv_RX5_76 rfl rfl rfl zd_X5_push ⟨z_leR hRf (by decide), z_leR hRl (by decide)⟩) hth (by decide) rfl rfl hl.1 rfl (Nat.le_of_ble_eq_true rfl) dX5_finish_21 ⟨Nat.zero_le _, Nat.zero_le _⟩ (fun F_9 H locs w_10 h hfF_9 => ?_)
    obtain ⟨q_11, -⟩ := w_10
    have hI_12 := h.2.1
    refine lv_aload_n hx hb dX5_finish_24 rfl (lv_at hl 0 rfl) ?_
    refine lv_iload_n hx hb dX5_finish_25 rfl (lv_at hl 3 rfl) ?_
    refine zk_Vv (As := [.int y]) (rest := []) (bytes := cX5_push) (maxL := 2) (ret := none) Z h (zm_X5_push l D k Γ L F_9 H.size th y (v_push (μ) x) hth q_11) (cwV 1 hg zv_RX5_76 rfl rfl rfl zd_X5_push ⟨z_leR hRf (by decide), z_leR hRl (by decide)⟩) hth (by decide) rfl rfl hl.1 rfl (Nat.le_of_ble_eq_true rfl) dX5_finish_26 ⟨Nat.zero_le _, Nat.zero_le _⟩ (fun F_13 H locs w_14 h hfF_13 => ?_)
    obtain ⟨q_15, -⟩ := w_14
    have hI_16 := h.2.1
    refine lv_aload_n hx hb dX5_finish_29 rfl (lv_at hl 0 rfl) ?_
    refine lv_iload hx hb dX5_finish_30 (lv_at hl 4 rfl) ?_
    refine zk_Vv (As := [.int z]) (rest := []) (bytes := cX5_push) (maxL := 2) (ret := none) Z h (zm_X5_push l D k Γ L F_13 H.size th z (v_push (v_push (μ) x) y) hth q_15) (cwV 1 hg zv_RX5_76 rfl rfl rfl zd_X5_push ⟨z_leR hRf (by decide), z_leR hRl (by decide)⟩) hth (by decide) rfl rfl hl.1 rfl (Nat.le_of_ble_eq_true rfl) dX5_finish_32 ⟨Nat.zero_le _, Nat.zero_le _⟩ (fun F_17 H locs w_18 h hfF_17 => ?_)
    obtain ⟨q_19, -⟩ := w_18
    have hI_20 := h.2.1
    refine lv_aload_n hx hb dX5_finish_35 rfl (lv_at hl 0 rfl) ?_
    refine lv_aload_n hx hb dX5_finish_36 rfl (lv_at hl 0 rfl) ?_
    refine zt_geti (t := 5) (C := RX5) (T := TX5) (N := 19) Z h hth zin_5 rfl 18 rfl ⟨by decide, rfl⟩ (zm_RX5 (List.mem_of_getElem? (i := 13) rfl)) (fun _ h9 => h9) dX5_finish_37 (fun x_21 kx_21 bx_21 => ?_)
    refine lv_aload_n hx hb dX5_finish_40 rfl (lv_at hl 0 rfl) ?_
    refine zt_getk (t := 5) (C := RX5) (T := TX5) (N := 19) Z h hth zin_5 rfl 10 (hfF_17.f hth 10 ⟨by decide, by decide⟩ (hfF_13.f hth 10 ⟨by decide, by decide⟩ (hfF_9.f hth 10 ⟨by decide, by decide⟩ kpr))) ⟨by decide, rfl, by decide⟩ (zm_RX5 (List.mem_of_getElem? (i := 2) rfl)) (fun _ h9 => h9) dX5_finish_41 ?_
    refine zt_getr (t := 6) (C := RX6) (T := TX6) (N := 6) Z h hpr zin_6 rfl 2 rfl ⟨by decide, rfl⟩ (zm_RX5 (List.mem_of_getElem? (i := 20) rfl)) (fun _ h9 => h9) dX5_finish_44 (fun a_22 ka_22 ha_22 => ?_)
    refine lv_iload_n hx hb dX5_finish_47 rfl (lv_at hl 1 rfl) ?_
    have bf_23 : zB 0 9 f := ⟨by have := (zB.all f).1; have := (zB.all f).2; have := (zB.all x).1; have := (zB.all x).2; have := (zB.all y).1; have := (zB.all y).2; have := (zB.all z).1; have := (zB.all z).2; have := bx_21.1; have := bx_21.2; have := bfl.1; have := bfl.2; have := bru.1; have := bru.2; have := bfc_.1; have := bfc_.2; have : (0 : Int32).toInt = 0 := (by decide); omega, by have := (zB.all f).1; have := (zB.all f).2; have := (zB.all x).1; have := (zB.all x).2; have := (zB.all y).1; have := (zB.all y).2; have := (zB.all z).1; have := (zB.all z).2; have := bx_21.1; have := bx_21.2; have := bfl.1; have := bfl.2; have := bru.1; have := bru.2; have := bfc_.1; have := bfc_.2; have : (0 : Int32).toInt = 0 := (by decide); omega⟩
    refine zt_aalde (t := 104) (t1 := 2) Z h ha_22 ⟨by decide, rfl⟩ (by decide) bf_23 ⟨by decide, by decide⟩ dX5_finish_48 (fun a_24 ea_24 ha_24 => ?_)
    have p_25 := (((p_vp.fr hfF_9 hpr (by decide)).fr hfF_13 hpr (by decide)).fr hfF_17 hpr (by decide))
    have hfa_ := p_25.1.at ka_22 ea_24 (by have := bf_23.1; have := bf_23.2; have := (zB.all x).1; have := (zB.all x).2; have := (zB.all y).1; have := (zB.all y).2; have := (zB.all z).1; have := (zB.all z).2; have := bx_21.1; have := bx_21.2; have := bfl.1; have := bfl.2; have := bru.1; have := bru.2; have := bfc_.1; have := bfc_.2; have : (0 : Int32).toInt = 0 := (by decide); omega)
    have hff_ := p_25.2.2.2 f.toInt.toNat (by have := bf_23.1; have := bf_23.2; have := (zB.all x).1; have := (zB.all x).2; have := (zB.all y).1; have := (zB.all y).2; have := (zB.all z).1; have := (zB.all z).2; have := bx_21.1; have := bx_21.2; have := bfl.1; have := bfl.2; have := bru.1; have := bru.2; have := bfc_.1; have := bfc_.2; have : (0 : Int32).toInt = 0 := (by decide); omega)
    rw [← hfa_] at hff_
    obtain ⟨⟨pc_, kpc_, tpc_⟩, hpc3_, ⟨fi_, kfi_, tfi_⟩, had_, hpl_⟩ := hff_
    have bpc_ : zB 0 3 pc_ := ⟨by omega, by omega⟩
    have bfi_ : zB 0 2147483647 fi_ := ⟨by omega, (zB.all fi_).2⟩
    refine zt_getk (t := 2) (C := RX2) (T := TX2) (N := 9) Z h ha_24 zin_2 rfl 7 kpc_ ⟨by decide, rfl, by decide⟩ (zm_RX5 (List.mem_of_getElem? (i := 21) rfl)) (fun _ h9 => h9) dX5_finish_49 ?_
    refine va_mmin hx hb (by rw [hml]; exact hl.1.symm) hown (hg _ (zm_RX5 (List.mem_of_getElem? (i := 22) rfl))) (hg _ (zm_RX5 (List.mem_of_getElem? (i := 23) rfl))) (hg _ (zm_RX5 (List.mem_of_getElem? (i := 24) rfl))) (hg _ (zm_RX5 (List.mem_of_getElem? (i := 25) rfl))) (z_leR hRf (by decide)) (z_leR hRl (Nat.le_of_ble_eq_true rfl)) (Nat.zero_le _) (Nat.zero_le _) dX5_finish_52 ?_
    refine zi_min (lo := (-2147483648)) (hi := 3) bx_21 bpc_ (by decide) (fun x_26 bx_26 tx_26 => ?_)
    refine zt_put (t := 5) (C := RX5) (T := TX5) (N := 19) (v := .int x_26) Z h hth zin_5 tyX5 tyX5_ok nmX5 rfl 18 rfl ⟨by decide, rfl⟩ (zm_RX5 (List.mem_of_getElem? (i := 13) rfl)) (fun _ h9 => h9) rfl (zV.i (bx_26.w ⟨by decide, by decide⟩)) rfl rfl dX5_finish_55 (fun H locs F_27 h hfF_27 kF_27 => ?_)
    have hs_28 : vsk (v_push (v_push (v_push μ x) y) z) = [z, y, x] := by rw [zv_pushed x (by rw [hr2]; decide), zv_pushed y (by show (x :: vsk μ).length < 288; rw [hr2]; show 1 < 288; decide), zv_pushed z (by show (y :: x :: vsk μ).length < 288; rw [hr2]; show 2 < 288; decide)]; show [z, y, x] ++ vsk μ = _; rw [hr2]; rfl
    have hs_29 : ([z, y, x].drop (3 - pg.1.2 f.toInt.toNat)).length = pg.1.2 f.toInt.toNat := by rw [List.length_drop]; show 3 - (3 - pg.1.2 f.toInt.toNat) = _; omega
    have hs_30 : x_26.toInt = (pg.1.2 f.toInt.toNat : Int) := by have h7 : zFi F_17 th 18 ((vsk (v_push (v_push (v_push μ x) y) z)).length : Int) := q_19.tp; rw [hs_28] at h7; have h8 : (([z, y, x] : List Int32).length : Int) = 3 := rfl; have h9 := zFi.is h7 kx_21; have := bf_23.1; have := bf_23.2; have := (zB.all x).1; have := (zB.all x).2; have := (zB.all y).1; have := (zB.all y).2; have := (zB.all z).1; have := (zB.all z).2; have := bx_26.1; have := bx_26.2; have := bfl.1; have := bfl.2; have := bru.1; have := bru.2; have := bfc_.1; have := bfc_.2; have := bpc_.1; have := bpc_.2; have := bfi_.1; have := bfi_.2; have : (0 : Int32).toInt = 0 := (by decide); omega
    have hv_31 : zFr Γ [518] F_17 F_27 := hfF_27
    have vm_32 : zVc F_27 th (v_cut (pg.1.2 f.toInt.toNat) x y z μ) := ⟨⟨(q_19.en.fr hv_31 hth ⟨by decide, by decide⟩), (hv_31.f hth 1 ⟨by decide, by decide⟩ q_19.vl), (q_19.go.fr hv_31 hth ⟨by decide, by decide⟩)⟩, ⟨(q_19.st.fr hv_31 hth ⟨by decide, by decide⟩), (hv_31.f hth 6 ⟨by decide, by decide⟩ q_19.cv), (q_19.sc.fr hv_31 hth ⟨by decide, by decide⟩), ((zVa (j := 7) (c := 108) hI_20 hth hv_31 ⟨by decide, rfl⟩ ⟨⟨by decide, by decide⟩, by decide, by decide⟩).trans q_19.sd), (q_19.tc.fr hv_31 hth ⟨by decide, by decide⟩), ((zVa (j := 8) (c := 109) hI_20 hth hv_31 ⟨by decide, rfl⟩ ⟨⟨by decide, by decide⟩, by decide, by decide⟩).trans q_19.tr), (q_19.mx.fr hv_31 hth ⟨by decide, by decide⟩)⟩, ⟨(q_19.nx.fr hv_31 hth ⟨by decide, by decide⟩), (q_19.dp.fr hv_31 hth ⟨by decide, by decide⟩), ((zVa (j := 9) (c := 110) hI_20 hth hv_31 ⟨by decide, rfl⟩ ⟨⟨by decide, by decide⟩, by decide, by decide⟩).trans q_19.pl), (fun j hj => zNg_cg (congrFun (zVa (j := 16) (c := 111) hI_20 hth hv_31 ⟨by decide, rfl⟩ ⟨⟨by decide, by decide⟩, by decide, by decide⟩) j) (q_19.bk j hj))⟩, (zFi.mk kF_27 (by show _ = ((([z, y, x].drop (3 - pg.1.2 f.toInt.toNat)).length : Nat) : Int); rw [hs_29]; exact hs_30)), (by show [z, y, x].drop (3 - pg.1.2 f.toInt.toNat) = zvls _ ([z, y, x].drop (3 - pg.1.2 f.toInt.toNat)).length; have h7 := q_19.sk; rw [hs_28] at h7; rw [hs_29, zVa (j := 17) (c := 112) hI_20 hth ((hfF_27 : zFr Γ [518] F_17 F_27)) ⟨by decide, rfl⟩ ⟨⟨by decide, by decide⟩, by decide, by decide⟩]; have h8 := congrArg (List.drop (3 - pg.1.2 f.toInt.toNat)) h7; rw [h8, show ([z, y, x] : List Int32).length = (3 - pg.1.2 f.toInt.toNat) + pg.1.2 f.toInt.toNat by show 3 = _; omega]; exact zvls_drop _ _ _), (by show ([z, y, x].drop (3 - pg.1.2 f.toInt.toNat)).length ≤ 288; rw [hs_29]; omega)⟩
    have hI_33 := h.2.1
    refine lv_aload_n hx hb dX5_finish_58 rfl (lv_at hl 0 rfl) ?_
    refine lv_iload_n hx hb dX5_finish_59 rfl (lv_at hl 1 rfl) ?_
    have p_34 := (p_25.fr hfF_27 hpr (by decide))
    refine zk_Vv (As := [.int f]) (rest := []) (bytes := cX5_enter) (maxL := 4) (ret := none) Z h (zm_X5_enter l D k Γ L F_27 H.size th f (v_cut (pg.1.2 f.toInt.toNat) x y z μ) fa pg pr hth vm_32 (hfF_27.f hth 10 ⟨by decide, by decide⟩ (hfF_17.f hth 10 ⟨by decide, by decide⟩ (hfF_13.f hth 10 ⟨by decide, by decide⟩ (hfF_9.f hth 10 ⟨by decide, by decide⟩ kpr)))) hpr p_34 (by have h7 : vdp (v_cut (pg.1.2 f.toInt.toNat) x y z μ) = vdp μ := zVz.cut.2.1; have h6 := hr1.1; show vdp (v_cut (pg.1.2 f.toInt.toNat) x y z μ) ≤ 8; omega)) (cwV 1 hg zv_RX5_95 rfl rfl rfl zd_X5_enter ⟨z_leR hRf (by decide), z_leR hRl (by decide)⟩) hth (by decide) rfl rfl hl.1 rfl (Nat.le_of_ble_eq_true rfl) dX5_finish_60 ⟨Nat.zero_le _, Nat.zero_le _⟩ (fun F_35 H locs w_36 h hfF_35 => ?_)
    obtain ⟨q_37, -⟩ := w_36
    have hI_38 := h.2.1
    refine lv_aload_n hx hb dX5_finish_63 rfl (lv_at hl 0 rfl) ?_
    refine zt_getk (t := 5) (C := RX5) (T := TX5) (N := 19) Z h hth zin_5 rfl 10 (hfF_35.f hth 10 ⟨by decide, by decide⟩ (hfF_27.f hth 10 ⟨by decide, by decide⟩ (hfF_17.f hth 10 ⟨by decide, by decide⟩ (hfF_13.f hth 10 ⟨by decide, by decide⟩ (hfF_9.f hth 10 ⟨by decide, by decide⟩ kpr))))) ⟨by decide, rfl, by decide⟩ (zm_RX5 (List.mem_of_getElem? (i := 2) rfl)) (fun _ h9 => h9) dX5_finish_64 ?_
    refine zt_getk (t := 6) (C := RX6) (T := TX6) (N := 6) Z h hpr zin_6 rfl 1 (hfF_35.f hpr 1 ⟨by decide, by decide⟩ (hfF_27.f hpr 1 ⟨by decide, by decide⟩ (hfF_17.f hpr 1 ⟨by decide, by decide⟩ (hfF_13.f hpr 1 ⟨by decide, by decide⟩ (hfF_9.f hpr 1 ⟨by decide, by decide⟩ kco))))) ⟨by decide, rfl, by decide⟩ (zm_RX5 (List.mem_of_getElem? (i := 29) rfl)) (fun _ h9 => h9) dX5_finish_67 ?_
    refine lv_astore (lv' := [(5, .ref co), (0, .ref th), (1, .int f), (2, .int x), (3, .int y), (4, .int z)]) hx hb dX5_finish_70 hl (by decide) rfl (fun ls hl => ?_)
    have hok0_ : zVk 0 (v_enter pg f.toInt (v_cut (pg.1.2 f.toInt.toNat) x y z μ)) := zVk.enter0 (m := v_cut (pg.1.2 f.toInt.toNat) x y z μ) (zVz.cut.2.1.trans hr1.1) ⟨zVz.cut.2.2.1.trans hr1.2.1, zVz.cut.2.2.2.trans hr1.2.2⟩ hr0
    refine lv_iconst (v := 0) hx hb dX5_finish_72 (by decide) ?_
    refine lv_istore (lv' := [(6, .int 0), (5, .ref co), (0, .ref th), (1, .int f), (2, .int x), (3, .int y), (4, .int z)]) hx hb dX5_finish_73 hl (by decide) rfl (fun ls hl => ?_)
    have j_j75_39 : ∀ (n : Nat) (ls : Array Slot) (y6_j75_39 : Int32) (F_40 : Nat → va_E) (H : Heap) (locs : List Loc), lv_has ls 8 [(6, .int y6_j75_39), (5, .ref co), (0, .ref th)] → zB 0 4000000 y6_j75_39 → zH D k Γ L s F_40 H locs → zFr Γ [500, 501, 502, 503, 504, 505, 506, 513, 514, 515, 518, 10800, 10900, 11000, 11100, 11200] F_35 F_40 → (zVc F_40 th (v_run ru.toInt fl.toInt pg A na y6_j75_39.toInt.toNat (v_enter pg f.toInt (v_cut (pg.1.2 f.toInt.toNat) x y z μ)))) → (2147483647 - y6_j75_39.toInt).toNat = n → W p l e R s m args below meth c H locs 0 0 Q (F0 m 75 ls []) := by
      intro n
      induction n using Nat.strongRecOn with
      | _ n ih_j75_39 =>
        intro ls y6_j75_39 F_40 H locs hl by6_j75_39 h hfF_40 r0_j75_39 hn_j75_39
        have hI_41 := h.2.1
        have hok_ := zVk.run (n := na) (R := ru.toInt) (fuel := fl.toInt) (pg := pg) (A := A) y6_j75_39.toInt.toNat 0 (v_enter pg f.toInt (v_cut (pg.1.2 f.toInt.toNat) x y z μ)) hok0_
        rw [Nat.zero_add] at hok_
        obtain ⟨go75_, kgo75_, tgo75_⟩ := r0_j75_39.go
        have bgo75_ := zB.all go75_
        obtain ⟨nx75_, knx75_, tnx75_⟩ := r0_j75_39.nx
        have bnx75_ := zB.all nx75_
        obtain ⟨tc75_, ktc75_, ttc75_⟩ := r0_j75_39.tc
        have btc75_ := zB.all tc75_
        obtain ⟨sc75_, ksc75_, tsc75_⟩ := r0_j75_39.sc
        have bsc75_ := zB.all sc75_
        obtain ⟨dp75_, kdp75_, tdp75_⟩ := r0_j75_39.dp
        have bdp75_ := zB.all dp75_
        have hgo_ : go75_.toInt ≠ 0 → vgo (v_run ru.toInt fl.toInt pg A na y6_j75_39.toInt.toNat (v_enter pg f.toInt (v_cut (pg.1.2 f.toInt.toNat) x y z μ))) = true := fun h7 => by by_cases h8 : vgo (v_run ru.toInt fl.toInt pg A na y6_j75_39.toInt.toNat (v_enter pg f.toInt (v_cut (pg.1.2 f.toInt.toNat) x y z μ))) = true; exact h8; rw [if_neg h8] at tgo75_; exact absurd tgo75_ h7
        have hng_ : go75_.toInt = 0 → vgo (v_run ru.toInt fl.toInt pg A na y6_j75_39.toInt.toNat (v_enter pg f.toInt (v_cut (pg.1.2 f.toInt.toNat) x y z μ))) = false := fun h7 => by by_cases h8 : vgo (v_run ru.toInt fl.toInt pg A na y6_j75_39.toInt.toNat (v_enter pg f.toInt (v_cut (pg.1.2 f.toInt.toNat) x y z μ))) = true; rw [if_pos h8] at tgo75_; exact absurd (tgo75_.symm.trans h7) (by decide); exact Bool.eq_false_iff.mpr h8
        have p_42 := ((((((p_vq.fr hfF_9 hco (by decide)).fr hfF_13 hco (by decide)).fr hfF_17 hco (by decide)).fr hfF_27 hco (by decide)).fr hfF_35 hco (by decide)).fr hfF_40 hco (by decide))
        obtain ⟨cz_, kcz_, tcz_⟩ := p_42.1
        have hcz_ := p_42.2.1
        have bcz_ : zB 0 1200 cz_ := ⟨by omega, by omega⟩
        refine lv_iload hx hb dX5_finish_75 (lv_at hl 0 rfl) ?_
        refine lv_ldc hx hb hown (hg _ (zm_RX5 (List.mem_of_getElem? (i := 30) rfl))) dX5_finish_77 ?_
        refine lv_icmp_ge (tgt := 151) hx hb dX5_finish_79 (by decide) (fun c_43 => ?_) (fun c_43 => ?_)
        · have c_43 := z_le c_43
          have by6_j75_39_44 : zB 4000000 4000000 y6_j75_39 := zB.leR c_43 (zBc 4000000 4000000 (by decide)) by6_j75_39 (by decide)
          subst hQ
          exact W.vret hx hb hr (fun t ht hW => ⟨⟨F_40, rfl, ⟨(by rw [show 4000000 = y6_j75_39.toInt.toNat by have := by6_j75_39_44.1; have := by6_j75_39_44.2; have := bfl.1; have := bfl.2; have := bru.1; have := bru.2; have := bfc_.1; have := bfc_.2; have := bpc_.1; have := bpc_.2; have := bfi_.1; have := bfi_.2; have := bgo75_.1; have := bgo75_.2; have := bnx75_.1; have := bnx75_.2; have := btc75_.1; have := btc75_.2; have := bsc75_.1; have := bsc75_.2; have := bdp75_.1; have := bdp75_.2; have := bcz_.1; have := bcz_.2; have : (0 : Int32).toInt = 0 := (by decide); have : (4000000 : Int32).toInt = 4000000 := (by decide); omega]; exact r0_j75_39), trivial⟩, by rw [ht]; exact h.1, h.2.1, ((((((hfF_9.w (by decide)).trans hfF_13 (by decide)).trans hfF_17 (by decide)).trans hfF_27 (by decide)).trans hfF_35 (by decide)).trans hfF_40 (by decide))⟩, h.2.2.F ht⟩) h.2.2.2.2 dX5_finish_151
        · have c_43 := z_nle c_43
          have by6_j75_39_45 : zB 0 3999999 y6_j75_39 := zB.ltL c_43 by6_j75_39 (zBc 4000000 4000000 (by decide)) (by decide)
          refine lv_aload_n hx hb dX5_finish_82 rfl (lv_at hl 2 rfl) ?_
          refine zt_getk (t := 5) (C := RX5) (T := TX5) (N := 19) Z h hth zin_5 rfl 13 kgo75_ ⟨by decide, rfl, by decide⟩ (zm_RX5 (List.mem_of_getElem? (i := 14) rfl)) (fun _ h9 => h9) dX5_finish_83 ?_
          refine lv_if_eq (tgt := 151) hx hb dX5_finish_86 (by decide) (fun c_46 => ?_) (fun c_46 => ?_)
          · have c_46 := z_eq c_46
            have bgo75__47 : zB 0 0 go75_ := zB.eqL (a := 0) (b := 0) c_46 (zBc 0 0 (by decide))
            subst hQ
            exact W.vret hx hb hr (fun t ht hW => ⟨⟨F_40, rfl, ⟨(by rw [(zv_end (a := y6_j75_39.toInt.toNat) (b := 4000000) (by have := by6_j75_39_45.1; have := by6_j75_39_45.2; have := bfl.1; have := bfl.2; have := bru.1; have := bru.2; have := bfc_.1; have := bfc_.2; have := bpc_.1; have := bpc_.2; have := bfi_.1; have := bfi_.2; have := bgo75__47.1; have := bgo75__47.2; have := bnx75_.1; have := bnx75_.2; have := btc75_.1; have := btc75_.2; have := bsc75_.1; have := bsc75_.2; have := bdp75_.1; have := bdp75_.2; have := bcz_.1; have := bcz_.2; have : (0 : Int32).toInt = 0 := (by decide); have : (4000000 : Int32).toInt = 4000000 := (by decide); omega) (if_neg (fun h7 => by rw [hng_ (by have := by6_j75_39_45.1; have := by6_j75_39_45.2; have := bfl.1; have := bfl.2; have := bru.1; have := bru.2; have := bfc_.1; have := bfc_.2; have := bpc_.1; have := bpc_.2; have := bfi_.1; have := bfi_.2; have := bgo75__47.1; have := bgo75__47.2; have := bnx75_.1; have := bnx75_.2; have := btc75_.1; have := btc75_.2; have := bsc75_.1; have := bsc75_.2; have := bdp75_.1; have := bdp75_.2; have := bcz_.1; have := bcz_.2; have : (0 : Int32).toInt = 0 := (by decide); have : (4000000 : Int32).toInt = 4000000 := (by decide); omega)] at h7; exact absurd h7.1 (by decide))))]; exact r0_j75_39), trivial⟩, by rw [ht]; exact h.1, h.2.1, ((((((hfF_9.w (by decide)).trans hfF_13 (by decide)).trans hfF_17 (by decide)).trans hfF_27 (by decide)).trans hfF_35 (by decide)).trans hfF_40 (by decide))⟩, h.2.2.F ht⟩) h.2.2.2.2 dX5_finish_151
          · have c_46 := z_ne c_46
            refine lv_aload hx hb dX5_finish_89 (lv_at hl 1 rfl) ?_
            refine lv_aload_n hx hb dX5_finish_91 rfl (lv_at hl 2 rfl) ?_
            refine zt_getk (t := 5) (C := RX5) (T := TX5) (N := 19) Z h hth zin_5 rfl 14 knx75_ ⟨by decide, rfl, by decide⟩ (zm_RX5 (List.mem_of_getElem? (i := 31) rfl)) (fun _ h9 => h9) dX5_finish_92 ?_
            refine zk_Vi (As := [.int nx75_]) (rest := []) (bytes := cX1_has) (maxL := 2) (ret := (some .boolean)) Z h (zm_X1_has l D k Γ L F_40 H.size co nx75_ cz_ hco kcz_ bcz_) (cwV 1 hg zv_RX5_106 rfl rfl rfl zd_X1_has ⟨z_leR hRf (by decide), z_leR hRl (by decide)⟩) hco (by decide) rfl rfl hl.1 rfl (Nat.le_of_ble_eq_true rfl) dX5_finish_95 ⟨Nat.zero_le _, Nat.zero_le _⟩ (fun r_48 F_49 H locs w_50 h hfF_49 => ?_)
            obtain ⟨rfl, br_48, q_51, -⟩ := w_50
            refine lv_if_eq (tgt := 151) hx hb dX5_finish_98 (by decide) (fun c_52 => ?_) (fun c_52 => ?_)
            · have c_52 := z_eq c_52
              have br_48_53 : zB 0 0 r_48 := zB.eqL (a := 0) (b := 0) c_52 (zBc 0 0 (by decide))
              subst hQ
              exact W.vret hx hb hr (fun t ht hW => ⟨⟨F_40, rfl, ⟨(by rw [(zv_end (a := y6_j75_39.toInt.toNat) (b := 4000000) (by have := by6_j75_39_45.1; have := by6_j75_39_45.2; have := bfl.1; have := bfl.2; have := bru.1; have := bru.2; have := bfc_.1; have := bfc_.2; have := bpc_.1; have := bpc_.2; have := bfi_.1; have := bfi_.2; have := bgo75_.1; have := bgo75_.2; have := bnx75_.1; have := bnx75_.2; have := btc75_.1; have := btc75_.2; have := bsc75_.1; have := bsc75_.2; have := bdp75_.1; have := bdp75_.2; have := bcz_.1; have := bcz_.2; have : (0 : Int32).toInt = 0 := (by decide); have : (4000000 : Int32).toInt = 4000000 := (by decide); omega) (if_neg (fun h7 => by have h8 := h7.2; rcases q_51 with h9 | h9; have := by6_j75_39_45.1; have := by6_j75_39_45.2; have := bfl.1; have := bfl.2; have := bru.1; have := bru.2; have := bfc_.1; have := bfc_.2; have := bpc_.1; have := bpc_.2; have := bfi_.1; have := bfi_.2; have := bgo75_.1; have := bgo75_.2; have := bnx75_.1; have := bnx75_.2; have := btc75_.1; have := btc75_.2; have := bsc75_.1; have := bsc75_.2; have := bdp75_.1; have := bdp75_.2; have := bcz_.1; have := bcz_.2; have : (0 : Int32).toInt = 0 := (by decide); have : (4000000 : Int32).toInt = 4000000 := (by decide); omega; have := by6_j75_39_45.1; have := by6_j75_39_45.2; have := bfl.1; have := bfl.2; have := bru.1; have := bru.2; have := bfc_.1; have := bfc_.2; have := bpc_.1; have := bpc_.2; have := bfi_.1; have := bfi_.2; have := bgo75_.1; have := bgo75_.2; have := bnx75_.1; have := bnx75_.2; have := btc75_.1; have := btc75_.2; have := bsc75_.1; have := bsc75_.2; have := bdp75_.1; have := bdp75_.2; have := bcz_.1; have := bcz_.2; have : (0 : Int32).toInt = 0 := (by decide); have : (4000000 : Int32).toInt = 4000000 := (by decide); omega)))]; exact r0_j75_39), trivial⟩, by rw [ht]; exact h.1, h.2.1, ((((((hfF_9.w (by decide)).trans hfF_13 (by decide)).trans hfF_17 (by decide)).trans hfF_27 (by decide)).trans hfF_35 (by decide)).trans hfF_40 (by decide))⟩, h.2.2.F ht⟩) h.2.2.2.2 dX5_finish_151
            · have c_52 := z_ne c_52
              have br_48_54 : zB 1 1 r_48 := zB.neLo c_52 br_48 (zBc 0 0 (by decide)) (by decide)
              have bnx8_ : zB 0 1199 nx75_ := (by rcases q_51 with h7 | h7; exact ⟨by have := by6_j75_39_45.1; have := by6_j75_39_45.2; have := bfl.1; have := bfl.2; have := bru.1; have := bru.2; have := bfc_.1; have := bfc_.2; have := bpc_.1; have := bpc_.2; have := bfi_.1; have := bfi_.2; have := bgo75_.1; have := bgo75_.2; have := bnx75_.1; have := bnx75_.2; have := btc75_.1; have := btc75_.2; have := bsc75_.1; have := bsc75_.2; have := bdp75_.1; have := bdp75_.2; have := bcz_.1; have := bcz_.2; have : (0 : Int32).toInt = 0 := (by decide); have : (4000000 : Int32).toInt = 4000000 := (by decide); omega, by have := by6_j75_39_45.1; have := by6_j75_39_45.2; have := bfl.1; have := bfl.2; have := bru.1; have := bru.2; have := bfc_.1; have := bfc_.2; have := bpc_.1; have := bpc_.2; have := bfi_.1; have := bfi_.2; have := bgo75_.1; have := bgo75_.2; have := bnx75_.1; have := bnx75_.2; have := btc75_.1; have := btc75_.2; have := bsc75_.1; have := bsc75_.2; have := bdp75_.1; have := bdp75_.2; have := bcz_.1; have := bcz_.2; have : (0 : Int32).toInt = 0 := (by decide); have : (4000000 : Int32).toInt = 4000000 := (by decide); omega⟩; exfalso; have := by6_j75_39_45.1; have := by6_j75_39_45.2; have := bfl.1; have := bfl.2; have := bru.1; have := bru.2; have := bfc_.1; have := bfc_.2; have := bpc_.1; have := bpc_.2; have := bfi_.1; have := bfi_.2; have := bgo75_.1; have := bgo75_.2; have := bnx75_.1; have := bnx75_.2; have := btc75_.1; have := btc75_.2; have := bsc75_.1; have := bsc75_.2; have := bdp75_.1; have := bdp75_.2; have := bcz_.1; have := bcz_.2; have : (0 : Int32).toInt = 0 := (by decide); have : (4000000 : Int32).toInt = 4000000 := (by decide); omega)
              refine lv_aload_n hx hb dX5_finish_101 rfl (lv_at hl 2 rfl) ?_
              refine zt_getk (t := 5) (C := RX5) (T := TX5) (N := 19) Z h hth zin_5 rfl 14 knx75_ ⟨by decide, rfl, by decide⟩ (zm_RX5 (List.mem_of_getElem? (i := 31) rfl)) (fun _ h9 => h9) dX5_finish_102 ?_
              refine lv_istore (lv' := [(7, .int nx75_), (6, .int y6_j75_39), (5, .ref co), (0, .ref th)]) hx hb dX5_finish_105 hl (by decide) rfl (fun ls hl => ?_)
              refine lv_aload_n hx hb dX5_finish_107 rfl (lv_at hl 3 rfl) ?_
              refine lv_dup hx hb dX5_finish_108 rfl ?_
              refine zt_getk (t := 5) (C := RX5) (T := TX5) (N := 19) Z h hth zin_5 rfl 14 knx75_ ⟨by decide, rfl, by decide⟩ (zm_RX5 (List.mem_of_getElem? (i := 31) rfl)) (fun _ h9 => h9) dX5_finish_109 ?_
              refine lv_iconst (v := 1) hx hb dX5_finish_112 (by decide) ?_
              refine lv_iadd hx hb dX5_finish_113 ?_
              refine zi_add (lo := 1) (hi := 1200) bnx8_ (zBc 1 1 (by decide)) (by decide) (fun x_55 bx_55 tx_55 => ?_)
              refine zt_put (t := 5) (C := RX5) (T := TX5) (N := 19) (v := .int x_55) Z h hth zin_5 tyX5 tyX5_ok nmX5 rfl 14 rfl ⟨by decide, rfl⟩ (zm_RX5 (List.mem_of_getElem? (i := 31) rfl)) (fun _ h9 => h9) rfl (zV.i (bx_55.w ⟨by decide, by decide⟩)) rfl rfl dX5_finish_114 (fun H locs F_56 h hfF_56 kF_56 => ?_)
              refine lv_aload_n hx hb dX5_finish_117 rfl (lv_at hl 3 rfl) ?_
              refine lv_aload hx hb dX5_finish_118 (lv_at hl 2 rfl) ?_
              refine zt_getr (t := 1) (C := RX1) (T := TX1) (N := 4) Z h hco zin_1 rfl 0 rfl ⟨by decide, rfl⟩ (zm_RX5 (List.mem_of_getElem? (i := 33) rfl)) (fun _ h9 => h9) dX5_finish_120 (fun a_57 ka_57 ha_57 => ?_)
              refine lv_iload hx hb dX5_finish_123 (lv_at hl 0 rfl) ?_
              refine zt_ialde (t := 102) Z h ha_57 ⟨by decide, rfl⟩ bnx8_ ⟨by decide, by decide⟩ dX5_finish_125 (fun x_58 ex_58 bx_58 => ?_)
              refine lv_aload hx hb dX5_finish_126 (lv_at hl 2 rfl) ?_
              refine zt_getr (t := 1) (C := RX1) (T := TX1) (N := 4) Z h hco zin_1 rfl 1 rfl ⟨by decide, rfl⟩ (zm_RX5 (List.mem_of_getElem? (i := 34) rfl)) (fun _ h9 => h9) dX5_finish_128 (fun a_59 ka_59 ha_59 => ?_)
              refine lv_iload hx hb dX5_finish_131 (lv_at hl 0 rfl) ?_
              refine zt_ialde (t := 158) Z h ha_59 ⟨by decide, rfl⟩ bnx8_ ⟨by decide, by decide⟩ dX5_finish_133 (fun x_60 ex_60 bx_60 => ?_)
              refine lv_aload hx hb dX5_finish_134 (lv_at hl 2 rfl) ?_
              refine zt_getr (t := 1) (C := RX1) (T := TX1) (N := 4) Z h hco zin_1 rfl 2 rfl ⟨by decide, rfl⟩ (zm_RX5 (List.mem_of_getElem? (i := 35) rfl)) (fun _ h9 => h9) dX5_finish_136 (fun a_61 ka_61 ha_61 => ?_)
              refine lv_iload hx hb dX5_finish_139 (lv_at hl 0 rfl) ?_
              refine zt_ialde (t := 159) Z h ha_61 ⟨by decide, rfl⟩ bnx8_ ⟨by decide, by decide⟩ dX5_finish_141 (fun x_62 ex_62 bx_62 => ?_)
              have p_63 := (p_42.fr hfF_56 hco (by decide))
              have hq_ := p_63.2.2.2 (Int32.toNatClampNeg nx75_) (by rw [Int32.toNatClampNeg]; rcases q_51 with h7 | h7; have := bnx8_.1; have := bnx8_.2; have := by6_j75_39_45.1; have := by6_j75_39_45.2; have := bx_62.1; have := bx_62.2; have := bx_60.1; have := bx_60.2; have := bx_58.1; have := bx_58.2; have := bfl.1; have := bfl.2; have := bru.1; have := bru.2; have := bfc_.1; have := bfc_.2; have := bpc_.1; have := bpc_.2; have := bfi_.1; have := bfi_.2; have := bgo75_.1; have := bgo75_.2; have := bx_55.1; have := bx_55.2; have := btc75_.1; have := btc75_.2; have := bsc75_.1; have := bsc75_.2; have := bdp75_.1; have := bdp75_.2; have := bcz_.1; have := bcz_.2; have : (0 : Int32).toInt = 0 := (by decide); have : (1 : Int32).toInt = 1 := (by decide); have : (4000000 : Int32).toInt = 4000000 := (by decide); omega; have := bnx8_.1; have := bnx8_.2; have := by6_j75_39_45.1; have := by6_j75_39_45.2; have := bx_62.1; have := bx_62.2; have := bx_60.1; have := bx_60.2; have := bx_58.1; have := bx_58.2; have := bfl.1; have := bfl.2; have := bru.1; have := bru.2; have := bfc_.1; have := bfc_.2; have := bpc_.1; have := bpc_.2; have := bfi_.1; have := bfi_.2; have := bgo75_.1; have := bgo75_.2; have := bx_55.1; have := bx_55.2; have := btc75_.1; have := btc75_.2; have := bsc75_.1; have := bsc75_.2; have := bdp75_.1; have := bdp75_.2; have := bcz_.1; have := bcz_.2; have : (0 : Int32).toInt = 0 := (by decide); have : (1 : Int32).toInt = 1 := (by decide); have : (4000000 : Int32).toInt = 4000000 := (by decide); omega)
              have hv_64 : zFr Γ [514] F_40 F_56 := hfF_56
              have vm_65 : zVc F_56 th (v_go (v_run ru.toInt fl.toInt pg A na y6_j75_39.toInt.toNat (v_enter pg f.toInt (v_cut (pg.1.2 f.toInt.toNat) x y z μ))) (vnx (v_run ru.toInt fl.toInt pg A na y6_j75_39.toInt.toNat (v_enter pg f.toInt (v_cut (pg.1.2 f.toInt.toNat) x y z μ))) + 1)) := ⟨⟨(r0_j75_39.en.fr hv_64 hth ⟨by decide, by decide⟩), (hv_64.f hth 1 ⟨by decide, by decide⟩ r0_j75_39.vl), (r0_j75_39.go.fr hv_64 hth ⟨by decide, by decide⟩)⟩, ⟨(r0_j75_39.st.fr hv_64 hth ⟨by decide, by decide⟩), (hv_64.f hth 6 ⟨by decide, by decide⟩ r0_j75_39.cv), (r0_j75_39.sc.fr hv_64 hth ⟨by decide, by decide⟩), ((zVa (j := 7) (c := 108) hI_41 hth hv_64 ⟨by decide, rfl⟩ ⟨⟨by decide, by decide⟩, by decide, by decide⟩).trans r0_j75_39.sd), (r0_j75_39.tc.fr hv_64 hth ⟨by decide, by decide⟩), ((zVa (j := 8) (c := 109) hI_41 hth hv_64 ⟨by decide, rfl⟩ ⟨⟨by decide, by decide⟩, by decide, by decide⟩).trans r0_j75_39.tr), (r0_j75_39.mx.fr hv_64 hth ⟨by decide, by decide⟩)⟩, ⟨(zFnx.mk kF_56 (by show _ = ((vnx (v_run ru.toInt fl.toInt pg A na y6_j75_39.toInt.toNat (v_enter pg f.toInt (v_cut (pg.1.2 f.toInt.toNat) x y z μ))) + 1 : Nat) : Int); have := bnx8_.1; have := bnx8_.2; have := by6_j75_39_45.1; have := by6_j75_39_45.2; have := bx_62.1; have := bx_62.2; have := bx_60.1; have := bx_60.2; have := bx_58.1; have := bx_58.2; have := bfl.1; have := bfl.2; have := bru.1; have := bru.2; have := bfc_.1; have := bfc_.2; have := bpc_.1; have := bpc_.2; have := bfi_.1; have := bfi_.2; have := bgo75_.1; have := bgo75_.2; have := bx_55.1; have := bx_55.2; have := btc75_.1; have := btc75_.2; have := bsc75_.1; have := bsc75_.2; have := bdp75_.1; have := bdp75_.2; have := bcz_.1; have := bcz_.2; have : (0 : Int32).toInt = 0 := (by decide); have : (1 : Int32).toInt = 1 := (by decide); have : (4000000 : Int32).toInt = 4000000 := (by decide); omega)), (r0_j75_39.dp.fr hv_64 hth ⟨by decide, by decide⟩), ((zVa (j := 9) (c := 110) hI_41 hth hv_64 ⟨by decide, rfl⟩ ⟨⟨by decide, by decide⟩, by decide, by decide⟩).trans r0_j75_39.pl), (fun j hj => zNg_cg (congrFun (zVa (j := 16) (c := 111) hI_41 hth hv_64 ⟨by decide, rfl⟩ ⟨⟨by decide, by decide⟩, by decide, by decide⟩) j) (r0_j75_39.bk j hj))⟩, (r0_j75_39.tp.fr hv_64 hth ⟨by decide, by decide⟩), (r0_j75_39.sk.trans (congrArg (fun z => zvls z _) (zVa (j := 17) (c := 112) hI_41 hth hv_64 ⟨by decide, rfl⟩ ⟨⟨by decide, by decide⟩, by decide, by decide⟩).symm)), r0_j75_39.lh⟩
              have hI_66 := h.2.1
              have hlt_ : vnx (v_run ru.toInt fl.toInt pg A na y6_j75_39.toInt.toNat (v_enter pg f.toInt (v_cut (pg.1.2 f.toInt.toNat) x y z μ))) < na := (by rcases q_51 with h7 | h7; have := bnx8_.1; have := bnx8_.2; have := by6_j75_39_45.1; have := by6_j75_39_45.2; have := bx_62.1; have := bx_62.2; have := bx_60.1; have := bx_60.2; have := bx_58.1; have := bx_58.2; have := bfl.1; have := bfl.2; have := bru.1; have := bru.2; have := bfc_.1; have := bfc_.2; have := bpc_.1; have := bpc_.2; have := bfi_.1; have := bfi_.2; have := bgo75_.1; have := bgo75_.2; have := bx_55.1; have := bx_55.2; have := btc75_.1; have := btc75_.2; have := bsc75_.1; have := bsc75_.2; have := bdp75_.1; have := bdp75_.2; have := bcz_.1; have := bcz_.2; have : (0 : Int32).toInt = 0 := (by decide); have : (1 : Int32).toInt = 1 := (by decide); have : (4000000 : Int32).toInt = 4000000 := (by decide); omega; have := bnx8_.1; have := bnx8_.2; have := by6_j75_39_45.1; have := by6_j75_39_45.2; have := bx_62.1; have := bx_62.2; have := bx_60.1; have := bx_60.2; have := bx_58.1; have := bx_58.2; have := bfl.1; have := bfl.2; have := bru.1; have := bru.2; have := bfc_.1; have := bfc_.2; have := bpc_.1; have := bpc_.2; have := bfi_.1; have := bfi_.2; have := bgo75_.1; have := bgo75_.2; have := bx_55.1; have := bx_55.2; have := btc75_.1; have := btc75_.2; have := bsc75_.1; have := bsc75_.2; have := bdp75_.1; have := bdp75_.2; have := bcz_.1; have := bcz_.2; have : (0 : Int32).toInt = 0 := (by decide); have : (1 : Int32).toInt = 1 := (by decide); have : (4000000 : Int32).toInt = 4000000 := (by decide); omega)
              have hix_ : Int32.toNatClampNeg nx75_ = vnx (v_run ru.toInt fl.toInt pg A na y6_j75_39.toInt.toNat (v_enter pg f.toInt (v_cut (pg.1.2 f.toInt.toNat) x y z μ))) := by rw [Int32.toNatClampNeg]; have := bnx8_.1; have := bnx8_.2; have := by6_j75_39_45.1; have := by6_j75_39_45.2; have := bx_62.1; have := bx_62.2; have := bx_60.1; have := bx_60.2; have := bx_58.1; have := bx_58.2; have := bfl.1; have := bfl.2; have := bru.1; have := bru.2; have := bfc_.1; have := bfc_.2; have := bpc_.1; have := bpc_.2; have := bfi_.1; have := bfi_.2; have := bgo75_.1; have := bgo75_.2; have := bx_55.1; have := bx_55.2; have := btc75_.1; have := btc75_.2; have := bsc75_.1; have := bsc75_.2; have := bdp75_.1; have := bdp75_.2; have := bcz_.1; have := bcz_.2; have : (0 : Int32).toInt = 0 := (by decide); have : (1 : Int32).toInt = 1 := (by decide); have : (4000000 : Int32).toInt = 4000000 := (by decide); omega
              rw [hix_] at hq_
              rw [show zar F_56 co 0 (vnx (v_run ru.toInt fl.toInt pg A na y6_j75_39.toInt.toNat (v_enter pg f.toInt (v_cut (pg.1.2 f.toInt.toNat) x y z μ)))) = x_58 by rw [zar_eq ka_57, ← hix_]; exact ex_58] at hq_
              rw [show zar F_56 co 1 (vnx (v_run ru.toInt fl.toInt pg A na y6_j75_39.toInt.toNat (v_enter pg f.toInt (v_cut (pg.1.2 f.toInt.toNat) x y z μ)))) = x_60 by rw [zar_eq ka_59, ← hix_]; exact ex_60] at hq_
              rw [show zar F_56 co 2 (vnx (v_run ru.toInt fl.toInt pg A na y6_j75_39.toInt.toNat (v_enter pg f.toInt (v_cut (pg.1.2 f.toInt.toNat) x y z μ)))) = x_62 by rw [zar_eq ka_61, ← hix_]; exact ex_62] at hq_
              have hA_ : A (vnx (v_run ru.toInt fl.toInt pg A na y6_j75_39.toInt.toNat (v_enter pg f.toInt (v_cut (pg.1.2 f.toInt.toNat) x y z μ)))) = (x_58.toInt.toNat, x_60.toInt, x_62.toInt.toNat) := by obtain ⟨h7, h8, h9⟩ := hq_; apply Prod.ext; { show (A _).1 = _; omega }; apply Prod.ext; { show (A _).2.1 = x_60.toInt; omega }; { show (A _).2.2 = x_62.toInt.toNat; omega }
              have hAr_ := hr3 _ hlt_
              rw [hA_] at hAr_
              have hg_67 : vgo (v_run ru.toInt fl.toInt pg A na y6_j75_39.toInt.toNat (v_enter pg f.toInt (v_cut (pg.1.2 f.toInt.toNat) x y z μ))) = true := hgo_ (by have := bnx8_.1; have := bnx8_.2; have := by6_j75_39_45.1; have := by6_j75_39_45.2; have := bx_62.1; have := bx_62.2; have := bx_60.1; have := bx_60.2; have := bx_58.1; have := bx_58.2; have := bfl.1; have := bfl.2; have := bru.1; have := bru.2; have := bfc_.1; have := bfc_.2; have := bpc_.1; have := bpc_.2; have := bfi_.1; have := bfi_.2; have := bgo75_.1; have := bgo75_.2; have := bx_55.1; have := bx_55.2; have := btc75_.1; have := btc75_.2; have := bsc75_.1; have := bsc75_.2; have := bdp75_.1; have := bdp75_.2; have := bcz_.1; have := bcz_.2; have : (0 : Int32).toInt = 0 := (by decide); have : (1 : Int32).toInt = 1 := (by decide); have : (4000000 : Int32).toInt = 4000000 := (by decide); omega)
              have p_68 := (((p_34.fr hfF_35 hpr (by decide)).fr hfF_40 hpr (by decide)).fr hfF_56 hpr (by decide))
              refine zk_Vv (As := [.int x_58, .int x_60, .int x_62]) (rest := []) (bytes := cX5_obey) (maxL := 4) (ret := none) Z h (zm_X5_obey l D k Γ L F_56 H.size th x_58 x_60 x_62 (v_go (v_run ru.toInt fl.toInt pg A na y6_j75_39.toInt.toNat (v_enter pg f.toInt (v_cut (pg.1.2 f.toInt.toNat) x y z μ))) (vnx (v_run ru.toInt fl.toInt pg A na y6_j75_39.toInt.toNat (v_enter pg f.toInt (v_cut (pg.1.2 f.toInt.toNat) x y z μ))) + 1)) fa pg pr fl ru hth vm_65 (hfF_56.f hth 10 ⟨by decide, by decide⟩ (hfF_40.f hth 10 ⟨by decide, by decide⟩ (hfF_35.f hth 10 ⟨by decide, by decide⟩ (hfF_27.f hth 10 ⟨by decide, by decide⟩ (hfF_17.f hth 10 ⟨by decide, by decide⟩ (hfF_13.f hth 10 ⟨by decide, by decide⟩ (hfF_9.f hth 10 ⟨by decide, by decide⟩ kpr))))))) hpr p_68 (hfF_56.f hth 12 ⟨by decide, by decide⟩ (hfF_40.f hth 12 ⟨by decide, by decide⟩ (hfF_35.f hth 12 ⟨by decide, by decide⟩ (hfF_27.f hth 12 ⟨by decide, by decide⟩ (hfF_17.f hth 12 ⟨by decide, by decide⟩ (hfF_13.f hth 12 ⟨by decide, by decide⟩ (hfF_9.f hth 12 ⟨by decide, by decide⟩ kfl))))))) bfl (hfF_56.f hth 11 ⟨by decide, by decide⟩ (hfF_40.f hth 11 ⟨by decide, by decide⟩ (hfF_35.f hth 11 ⟨by decide, by decide⟩ (hfF_27.f hth 11 ⟨by decide, by decide⟩ (hfF_17.f hth 11 ⟨by decide, by decide⟩ (hfF_13.f hth 11 ⟨by decide, by decide⟩ (hfF_9.f hth 11 ⟨by decide, by decide⟩ kru))))))) bru ⟨hok_.1 hg_67, hok_.2.1⟩ hg_67 (by show vtc (v_run ru.toInt fl.toInt pg A na y6_j75_39.toInt.toNat (v_enter pg f.toInt (v_cut (pg.1.2 f.toInt.toNat) x y z μ))) ≤ 4000000; have := hok_.2.2.1; have := bnx8_.1; have := bnx8_.2; have := by6_j75_39_45.1; have := by6_j75_39_45.2; have := bx_62.1; have := bx_62.2; have := bx_60.1; have := bx_60.2; have := bx_58.1; have := bx_58.2; have := bfl.1; have := bfl.2; have := bru.1; have := bru.2; have := bfc_.1; have := bfc_.2; have := bpc_.1; have := bpc_.2; have := bfi_.1; have := bfi_.2; have := bgo75_.1; have := bgo75_.2; have := bx_55.1; have := bx_55.2; have := btc75_.1; have := btc75_.2; have := bsc75_.1; have := bsc75_.2; have := bdp75_.1; have := bdp75_.2; have := bcz_.1; have := bcz_.2; have : (0 : Int32).toInt = 0 := (by decide); have : (1 : Int32).toInt = 1 := (by decide); have : (4000000 : Int32).toInt = 4000000 := (by decide); omega) (by show vsc (v_run ru.toInt fl.toInt pg A na y6_j75_39.toInt.toNat (v_enter pg f.toInt (v_cut (pg.1.2 f.toInt.toNat) x y z μ))) ≤ 4000000; have := hok_.2.2.2; have := bnx8_.1; have := bnx8_.2; have := by6_j75_39_45.1; have := by6_j75_39_45.2; have := bx_62.1; have := bx_62.2; have := bx_60.1; have := bx_60.2; have := bx_58.1; have := bx_58.2; have := bfl.1; have := bfl.2; have := bru.1; have := bru.2; have := bfc_.1; have := bfc_.2; have := bpc_.1; have := bpc_.2; have := bfi_.1; have := bfi_.2; have := bgo75_.1; have := bgo75_.2; have := bx_55.1; have := bx_55.2; have := btc75_.1; have := btc75_.2; have := bsc75_.1; have := bsc75_.2; have := bdp75_.1; have := bdp75_.2; have := bcz_.1; have := bcz_.2; have : (0 : Int32).toInt = 0 := (by decide); have : (1 : Int32).toInt = 1 := (by decide); have : (4000000 : Int32).toInt = 4000000 := (by decide); omega) (by have := bnx8_.1; have := bnx8_.2; have := by6_j75_39_45.1; have := by6_j75_39_45.2; have := bx_62.1; have := bx_62.2; have := bx_60.1; have := bx_60.2; have := bx_58.1; have := bx_58.2; have := bfl.1; have := bfl.2; have := bru.1; have := bru.2; have := bfc_.1; have := bfc_.2; have := bpc_.1; have := bpc_.2; have := bfi_.1; have := bfi_.2; have := bgo75_.1; have := bgo75_.2; have := bx_55.1; have := bx_55.2; have := btc75_.1; have := btc75_.2; have := bsc75_.1; have := bsc75_.2; have := bdp75_.1; have := bdp75_.2; have := bcz_.1; have := bcz_.2; have : (0 : Int32).toInt = 0 := (by decide); have : (1 : Int32).toInt = 1 := (by decide); have : (4000000 : Int32).toInt = 4000000 := (by decide); omega) (by have h7 := hAr_.2; have h8 : x_58.toInt.toNat ≤ 16 := hAr_.1; have h5 := hq_.1; exact ⟨by have := bnx8_.1; have := bnx8_.2; have := by6_j75_39_45.1; have := by6_j75_39_45.2; have := bx_62.1; have := bx_62.2; have := bx_60.1; have := bx_60.2; have := bx_58.1; have := bx_58.2; have := bfl.1; have := bfl.2; have := bru.1; have := bru.2; have := bfc_.1; have := bfc_.2; have := bpc_.1; have := bpc_.2; have := bfi_.1; have := bfi_.2; have := bgo75_.1; have := bgo75_.2; have := bx_55.1; have := bx_55.2; have := btc75_.1; have := btc75_.2; have := bsc75_.1; have := bsc75_.2; have := bdp75_.1; have := bdp75_.2; have := bcz_.1; have := bcz_.2; have : (0 : Int32).toInt = 0 := (by decide); have : (1 : Int32).toInt = 1 := (by decide); have : (4000000 : Int32).toInt = 4000000 := (by decide); omega, by have := bnx8_.1; have := bnx8_.2; have := by6_j75_39_45.1; have := by6_j75_39_45.2; have := bx_62.1; have := bx_62.2; have := bx_60.1; have := bx_60.2; have := bx_58.1; have := bx_58.2; have := bfl.1; have := bfl.2; have := bru.1; have := bru.2; have := bfc_.1; have := bfc_.2; have := bpc_.1; have := bpc_.2; have := bfi_.1; have := bfi_.2; have := bgo75_.1; have := bgo75_.2; have := bx_55.1; have := bx_55.2; have := btc75_.1; have := btc75_.2; have := bsc75_.1; have := bsc75_.2; have := bdp75_.1; have := bdp75_.2; have := bcz_.1; have := bcz_.2; have : (0 : Int32).toInt = 0 := (by decide); have : (1 : Int32).toInt = 1 := (by decide); have : (4000000 : Int32).toInt = 4000000 := (by decide); omega, fun h9 h6 => h7 (show 13 ≤ x_58.toInt.toNat by omega) (show x_58.toInt.toNat ≤ 15 by omega)⟩)) (cwV 3 hg zv_RX5_120 rfl rfl rfl zd_X5_obey ⟨z_leR hRf (by decide), z_leR hRl (by decide)⟩) hth (by decide) rfl rfl hl.1 rfl (Nat.le_of_ble_eq_true rfl) dX5_finish_142 ⟨Nat.zero_le _, Nat.zero_le _⟩ (fun F_69 H locs w_70 h hfF_69 => ?_)
              obtain ⟨q_71, -⟩ := w_70
              have hI_72 := h.2.1
              obtain ⟨x_73, ex_73, bx_73, tx_73⟩ := z_inc (n := 1) (lo := 1) (hi := 4000000) by6_j75_39_45 (by decide)
              refine lv_iinc (v := x_73) (lv' := [(6, .int x_73), (7, .int nx75_), (5, .ref co), (0, .ref th)]) hx hb dX5_finish_145 hl (k := 1) rfl ex_73 (by decide) rfl (fun ls hl => ?_)
              refine lv_goto (tgt := 75) hx hb dX5_finish_148 (by decide) ?_
              exact ih_j75_39 _ (by have := bx_73.1; have := bx_73.2; have := bnx8_.1; have := bnx8_.2; have := bfl.1; have := bfl.2; have := bru.1; have := bru.2; have := bfc_.1; have := bfc_.2; have := bpc_.1; have := bpc_.2; have := bfi_.1; have := bfi_.2; have := bcz_.1; have := bcz_.2; have : (0 : Int32).toInt = 0 := (by decide); have : (1 : Int32).toInt = 1 := (by decide); have : (4000000 : Int32).toInt = 4000000 := (by decide); have := by6_j75_39.1; have := by6_j75_39.2; omega) ls x_73 F_69 H locs (lv_sub hl [0, 2, 3] rfl) (bx_73.w ⟨by decide, by decide⟩) h ((hfF_40.trans hfF_56 (by decide)).trans hfF_69 (by decide)) (by rw [show x_73.toInt.toNat = y6_j75_39.toInt.toNat + 1 by have := bx_73.1; have := bx_73.2; have := bnx8_.1; have := bnx8_.2; have := by6_j75_39_45.1; have := by6_j75_39_45.2; have := bfl.1; have := bfl.2; have := bru.1; have := bru.2; have := bfc_.1; have := bfc_.2; have := bpc_.1; have := bpc_.2; have := bfi_.1; have := bfi_.2; have := bcz_.1; have := bcz_.2; have : (0 : Int32).toInt = 0 := (by decide); have : (1 : Int32).toInt = 1 := (by decide); have : (4000000 : Int32).toInt = 4000000 := (by decide); omega, zv_run1]; exact (by unfold v_turn; rw [if_pos ⟨hg_67, hlt_⟩, hA_]; exact q_71)) rfl
    exact j_j75_39 _ ls 0 F_35 H locs (lv_sub hl [0, 1, 2] rfl) (zB.of ⟨by decide, by decide⟩) h zFr.rf (by rw [show (0 : Int32).toInt.toNat = 0 by decide]; exact q_37) rfl
  · have q_74 := q_5 c_6
    have c_6 := z_eq c_6
    have br_1_75 : zB 0 0 r_1 := zB.eqL (a := 0) (b := 0) c_6 (zBc 0 0 (by decide))
    subst hQ
    exact W.vret hx hb hr (fun t ht hW => ⟨⟨F, rfl, ⟨(by exfalso; have := (zB.all f).1; have := (zB.all f).2; have := (zB.all x).1; have := (zB.all x).2; have := (zB.all y).1; have := (zB.all y).2; have := (zB.all z).1; have := (zB.all z).2; have := bfl.1; have := bfl.2; have := bru.1; have := bru.2; have := bfc_.1; have := bfc_.2; have : (0 : Int32).toInt = 0 := (by decide); omega), trivial⟩, by rw [ht]; exact h.1, h.2.1, zFr.rf⟩, h.2.2.F ht⟩) h.2.2.2.2 dX5_finish_18
