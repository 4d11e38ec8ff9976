set_option maxHeartbeats 4000000 in
set_option maxRecDepth 100000 in
theorem ze_X7_readFunction (l : Launch) (D : va_G) (k : Nat → ClassId) (Γ : Nat → Option Nat) (L : List Nat) (F : Nat → va_E) (sz : Nat) (th : Nat) (pr : Nat) (tk : Nat) (co : Nat) (Bt : Nat → Int32) (nt : Nat) (Nt : Nat) (cc : Int32) (σ : zSg) (fa : Nat → Nat) (la : Nat → Nat) (hth : Γ th = some 7) (kpr : zfld F th 3 = .ref pr) (hpr : Γ pr = some 6) (ktk : zfld F th 4 = .ref tk) (htk : Γ tk = some 8) (kco : zfld F th 5 = .ref co) (hco : Γ co = some 1) (ke_pr_0 : zfld F pr 0 = .ref tk) (p_tb : zTb Γ F tk Bt nt Nt) (kcc : zfld F th 11 = .int cc) (bcc : zB 0 150 cc) (p_au : zC1 F th Nt (σ)) (hm_ : ∀ i d9, σ = .inl (i, d9) → 4 * cc.toInt + 5 ≤ zpo Bt nt i + (5)) (p_c3 : zC3 Γ F pr fa (zTo Bt nt) Nt σ) (p_c4 : zC4 Γ F pr la (zTo Bt nt) σ) : Met l yX7_readFunction zwX7_readFunction ({ frames := 138, cells := 0, slots := 0, locals := 5622 }) (va_Pc [.ref th] (zP D k Γ L F sz)) (va_Qv (fun (u : Nat → va_E) => (∃ (c9 : Int32), zfld u th 11 = .int c9 ∧ zB 0 150 c9 ∧ (0 ≤ c9.toInt)) ∧ (∃ σ9 : zSg, zC1 u th Nt σ9 ∧ zRc (zTo Bt nt) σ [(1, 0, 0, 0)] σ9 [] ∧ zsU σ σ9 ∧ zCc Γ F u th (zTo Bt nt) σ σ9 (5) ∧ zC3 Γ u pr fa (zTo Bt nt) Nt σ9 ∧ zC4 Γ u pr la (zTo Bt nt) σ9) ∧ True) (zQ D k Γ L F [103, 200, 201, 202, 203, 204, 205, 206, 207, 400, 401, 402, 403, 604, 605, 701, 702, 706, 711, 10200, 10300, 10600, 10700, 15800, 15900, 16000, 16100]) (zA L sz)) 0 0 (zA L sz) := by
  refine Met.ofW (cc := cX7_readFunction) (maxL := 3) (ret := none) (by decide) rfl ?_
  intro p e s m args below meth c s₁ B hml hv
  obtain ⟨rfl, hsz, hP, hK, hLn, hE, hI⟩ := hv
  have hx := B.exec
  have hb := B.bytes
  have hr := B.returns
  have hg : ∀ w ∈ zG, w.before _ s = true := fun w h9 => atoms_spec (ws := zwX7_readFunction) B.pre w (List.mem_cons_of_mem _ h9)
  have hown : s.vm.findClass RX7 = some m.cls := findClass_of_methodNamed B.named
  have hlocks := B.notSynchronized
  subst hsz
  have Z : zC p m c cX7_readFunction 3 s _ zG RX7 D k L := ⟨⟨hx, hb, hml, hown, hg⟩, hK, hLn, hE⟩
  have h : zH D k Γ L s F s.heap [] := ⟨hP, hI, va_S.rf⟩
  have hl := lv_entry ([.ref th]) (n := 3) (Nat.le_of_ble_eq_true rfl)
  rw [lg_entry_eq]
  generalize (lg_sl ([.ref th]) ++ List.replicate (3 - (lg_sl ([.ref th])).length) Slot.unset).toArray = ls at hl ⊢
  have hl : lv_has ls 3 [(0, .ref th)] := hl
  clear hP hK hLn hE hI
  generalize hargs : ([.ref th] : List Value).toArray = args at *
  refine z_start (fun R Q hRf hRl hQ => ?_)
  have hRf : R.frames = 138 := hRf
  have hRl : R.locals = 5622 := hRl
  have h9 := h
  have hLs_ := p_tb.2.2.2.1
  obtain ⟨sz_, ksz_, tsz_⟩ := p_tb.2.2.1
  have bsz_ : zB 1 601 sz_ := ⟨by have := hLs_.1; omega, by have := hLs_.2.1; omega⟩
  obtain ⟨⟨x_1, kx_1, nx_1⟩, ⟨x_2, kx_2, nx_2⟩, ox_1⟩ := id p_au
  have gx_1 := zC1.nx p_au hLs_.1 kx_1
  have bx_1 : zB 0 600 x_1 := ⟨by omega, by have := hLs_.2.1; omega⟩
  have bx_2 := zB.all x_2
  have ad_3 := z_ad (j := 7) (c := 106) h.2.1 hth (by decide) rfl
  have ad_4 := z_ad (j := 8) (c := 107) h.2.1 hth (by decide) rfl
  have cc0_ : zCc Γ F F th (zTo Bt nt) σ σ (5) := zCc.rf kcc bcc.1 ⟨ad_3, ad_4⟩ hm_
  have rc0_ : zRc (zTo Bt nt) σ [(1, 0, 0, 0)] σ [(1, 0, 0, 0)] := zRc.rf
  refine lv_aload_n hx hb dX7_readFunction_0 rfl (lv_at hl 0 rfl) ?_
  refine zk_Vi (As := []) (rest := []) (bytes := cX7_kind) (maxL := 2) (ret := (some .int)) Z h (ze_X7_kind l D k Γ L F s.heap.size th tk Bt nt Nt σ hth ktk htk p_tb p_au) (cwV 0 hg zv_RX7_65 rfl rfl rfl zd_X7_kind ⟨z_leR hRf (by decide), z_leR hRl (by decide)⟩) hth (by decide) rfl rfl hl.1 rfl (Nat.le_of_ble_eq_true rfl) dX7_readFunction_1 ⟨Nat.zero_le _, Nat.zero_le _⟩ (fun r_5 F_6 H locs w_7 h hfF_6 => ?_)
  obtain ⟨rfl, q_8, -⟩ := w_7
  have br_5 := zB.all r_5
  refine lv_iconst (v := 5) hx hb dX7_readFunction_4 (by decide) ?_
  refine lv_icmp_eq (tgt := 14) hx hb dX7_readFunction_5 (by decide) (fun c_9 => ?_) (fun c_9 => ?_)
  · have c_9 := z_eq c_9
    have br_5_10 : zB 5 5 r_5 := zB.eqL (a := 0) (b := 0) c_9 (zBc 5 5 (by decide))
    refine lv_aload_n hx hb dX7_readFunction_14 rfl (lv_at hl 0 rfl) ?_
    refine zt_getk (t := 7) (C := RX7) (T := TX7) (N := 12) Z h hth zin_7 rfl 3 kpr ⟨by decide, rfl, by decide⟩ (zm_RX7 (List.mem_of_getElem? (i := 2) rfl)) (fun _ h9 => h9) dX7_readFunction_15 ?_
    refine zt_geti (t := 6) (C := RX6) (T := TX6) (N := 6) Z h hpr zin_6 rfl 4 rfl ⟨by decide, rfl⟩ (zm_RX7 (List.mem_of_getElem? (i := 28) rfl)) (fun _ h9 => h9) dX7_readFunction_18 (fun x_11 kx_11 bx_11 => ?_)
    have hfk_ := zC3.k p_c3 kx_11
    have fk_ : zFk x_11 σ := fun i9 d9 e9 => (hfk_ i9 d9 e9).1
    refine lv_istore_n (lv' := [(1, .int x_11), (0, .ref th)]) hx hb dX7_readFunction_21 rfl hl (by decide) rfl (fun ls hl => ?_)
    refine lv_iload_n hx hb dX7_readFunction_22 rfl (lv_at hl 0 rfl) ?_
    refine lv_bipush (v := 10) hx hb dX7_readFunction_23 (by decide) ?_
    refine lv_icmp_lt (tgt := 34) hx hb dX7_readFunction_25 (by decide) (fun c_12 => ?_) (fun c_12 => ?_)
    · have c_12 := z_lt c_12
      have bx_11_13 : zB 0 9 x_11 := zB.ltL c_12 bx_11 (zBc 10 10 (by decide)) (by decide)
      refine lv_aload_n hx hb dX7_readFunction_34 rfl (lv_at hl 1 rfl) ?_
      refine zt_getk (t := 7) (C := RX7) (T := TX7) (N := 12) Z h hth zin_7 rfl 3 kpr ⟨by decide, rfl, by decide⟩ (zm_RX7 (List.mem_of_getElem? (i := 2) rfl)) (fun _ h9 => h9) dX7_readFunction_35 ?_
      refine zt_getr (t := 6) (C := RX6) (T := TX6) (N := 6) Z h hpr zin_6 rfl 2 rfl ⟨by decide, rfl⟩ (zm_RX7 (List.mem_of_getElem? (i := 29) rfl)) (fun _ h9 => h9) dX7_readFunction_38 (fun a_14 ka_14 ha_14 => ?_)
      refine lv_iload_n hx hb dX7_readFunction_41 rfl (lv_at hl 0 rfl) ?_
      refine zt_aalde (t := 104) (t1 := 2) Z h ha_14 ⟨by decide, rfl⟩ (by decide) bx_11_13 ⟨by decide, by decide⟩ dX7_readFunction_42 (fun fu efu hfu => ?_)
      have hfa_ := zPS.at p_c3.1 ka_14 efu ⟨(by have := bx_11_13.1; have := bx_11_13.2; have := br_5_10.1; have := br_5_10.2; have := bcc.1; have := bcc.2; have := bsz_.1; have := bsz_.2; have := bx_1.1; have := bx_1.2; have := bx_2.1; have := bx_2.2; have : (5 : Int32).toInt = 5 := (by decide); have : (10 : Int32).toInt = 10 := (by decide); omega), (by have := bx_11_13.1; have := bx_11_13.2; have := br_5_10.1; have := br_5_10.2; have := bcc.1; have := bcc.2; have := bsz_.1; have := bsz_.2; have := bx_1.1; have := bx_1.2; have := bx_2.1; have := bx_2.2; have : (5 : Int32).toInt = 5 := (by decide); have : (10 : Int32).toInt = 10 := (by decide); omega)⟩
      refine lv_astore_n (lv' := [(2, .ref fu), (1, .int x_11), (0, .ref th)]) hx hb dX7_readFunction_43 rfl hl (by decide) rfl (fun ls hl => ?_)
      refine lv_aload_n hx hb dX7_readFunction_44 rfl (lv_at hl 0 rfl) ?_
      refine lv_aload_n hx hb dX7_readFunction_45 rfl (lv_at hl 2 rfl) ?_
      refine zt_getk (t := 7) (C := RX7) (T := TX7) (N := 12) Z h hth zin_7 rfl 6 kx_1 ⟨by decide, rfl, by decide⟩ (zm_RX7 (List.mem_of_getElem? (i := 9) rfl)) (fun _ h9 => h9) dX7_readFunction_46 ?_
      refine lv_aload_n hx hb dX7_readFunction_49 rfl (lv_at hl 2 rfl) ?_
      refine zt_getk (t := 7) (C := RX7) (T := TX7) (N := 12) Z h hth zin_7 rfl 3 kpr ⟨by decide, rfl, by decide⟩ (zm_RX7 (List.mem_of_getElem? (i := 2) rfl)) (fun _ h9 => h9) dX7_readFunction_50 ?_
      refine zt_geti (t := 6) (C := RX6) (T := TX6) (N := 6) Z h hpr zin_6 rfl 5 rfl ⟨by decide, rfl⟩ (zm_RX7 (List.mem_of_getElem? (i := 30) rfl)) (fun _ h9 => h9) dX7_readFunction_53 (fun x_16 kx_16 bx_16 => ?_)
      refine lv_aload_n hx hb dX7_readFunction_56 rfl (lv_at hl 2 rfl) ?_
      refine zt_getk (t := 7) (C := RX7) (T := TX7) (N := 12) Z h hth zin_7 rfl 5 kco ⟨by decide, rfl, by decide⟩ (zm_RX7 (List.mem_of_getElem? (i := 6) rfl)) (fun _ h9 => h9) dX7_readFunction_57 ?_
      refine zt_geti (t := 1) (C := RX1) (T := TX1) (N := 4) Z h hco zin_1 rfl 3 rfl ⟨by decide, rfl⟩ (zm_RX7 (List.mem_of_getElem? (i := 31) rfl)) (fun _ h9 => h9) dX7_readFunction_60 (fun x_17 kx_17 bx_17 => ?_)
      refine zk_Vv (As := [.int x_1, .int x_16, .int x_17]) (rest := []) (bytes := cX2_begin) (maxL := 4) (ret := none) Z h (ze_X2_begin l D k Γ L F H.size fu x_1 x_16 x_17 hfu (bx_1.w ⟨by decide, by decide⟩)) (cwV 3 hg zv_RX7_98 rfl rfl rfl zd_X2_begin ⟨z_leR hRf (by decide), z_leR hRl (by decide)⟩) hfu (by decide) rfl rfl hl.1 rfl (Nat.le_of_ble_eq_true rfl) dX7_readFunction_63 ⟨Nat.zero_le _, Nat.zero_le _⟩ (fun F_18 H locs w_19 h hfF_18 => ?_)
      obtain ⟨⟨x_21, kx_21, bx_21⟩, q_22, -⟩ := w_19
      refine lv_aload_n hx hb dX7_readFunction_66 rfl (lv_at hl 2 rfl) ?_
      refine lv_dup hx hb dX7_readFunction_67 rfl ?_
      refine zt_getk (t := 7) (C := RX7) (T := TX7) (N := 12) Z h hth zin_7 rfl 6 (hfF_18.f hth 6 ⟨by decide, by decide⟩ kx_1) ⟨by decide, rfl, by decide⟩ (zm_RX7 (List.mem_of_getElem? (i := 9) rfl)) (fun _ h9 => h9) dX7_readFunction_68 ?_
      refine lv_iconst (v := 1) hx hb dX7_readFunction_71 (by decide) ?_
      refine lv_iadd hx hb dX7_readFunction_72 ?_
      refine zi_add (lo := 1) (hi := 601) bx_1 (zBc 1 1 (by decide)) (by decide) (fun x_23 bx_23 tx_23 => ?_)
      refine zt_put (t := 7) (C := RX7) (T := TX7) (N := 12) (v := .int x_23) Z h hth zin_7 tyX7 tyX7_ok nmX7 rfl 6 rfl ⟨by decide, rfl⟩ (zm_RX7 (List.mem_of_getElem? (i := 9) rfl)) (fun _ h9 => h9) rfl (zV.i (bx_23.w ⟨by decide, by decide⟩)) rfl rfl dX7_readFunction_73 (fun H locs F_24 h hfF_24 kF_24 => ?_)
      have c1_25 := (p_au.fr hfF_18 hth (by decide))
      have cc_26 := (cc0_.fr hfF_18 hth (by decide) (zTo_P Bt nt))
      have c1_27 : zC1 F_24 th Nt (zadv (zmap (fun i d9 => zaddb d9 i) σ)) := (zC1.adm (T := zTo Bt nt) c1_25 hfF_24 hth (by decide) (hfF_18.f hth 6 ⟨by decide, by decide⟩ kx_1) kF_24 (by have := bx_11_13.1; have := bx_11_13.2; have := bx_1.1; have := bx_1.2; have := br_5_10.1; have := br_5_10.2; have := bcc.1; have := bcc.2; have := bsz_.1; have := bsz_.2; have := bx_23.1; have := bx_23.2; have := bx_2.1; have := bx_2.2; have := bx_16.1; have := bx_16.2; have := bx_17.1; have := bx_17.2; have := bx_21.1; have := bx_21.2; have : (1 : Int32).toInt = 1 := (by decide); have : (5 : Int32).toInt = 5 := (by decide); have : (10 : Int32).toInt = 10 := (by decide); omega) hLs_ ⟨by have := bx_11_13.1; have := bx_11_13.2; have := bx_1.1; have := bx_1.2; have := br_5_10.1; have := br_5_10.2; have := bcc.1; have := bcc.2; have := bsz_.1; have := bsz_.2; have := bx_23.1; have := bx_23.2; have := bx_2.1; have := bx_2.2; have := bx_16.1; have := bx_16.2; have := bx_17.1; have := bx_17.2; have := bx_21.1; have := bx_21.2; have : (1 : Int32).toInt = 1 := (by decide); have : (5 : Int32).toInt = 5 := (by decide); have : (10 : Int32).toInt = 10 := (by decide); omega, by have := bx_11_13.1; have := bx_11_13.2; have := bx_1.1; have := bx_1.2; have := br_5_10.1; have := br_5_10.2; have := bcc.1; have := bcc.2; have := bsz_.1; have := bsz_.2; have := bx_23.1; have := bx_23.2; have := bx_2.1; have := bx_2.2; have := bx_16.1; have := bx_16.2; have := bx_17.1; have := bx_17.2; have := bx_21.1; have := bx_21.2; have : (1 : Int32).toInt = 1 := (by decide); have : (5 : Int32).toInt = 5 := (by decide); have : (10 : Int32).toInt = 10 := (by decide); omega⟩)
      have rc_27 : zRc (zTo Bt nt) σ [(1, 0, 0, 0)] (zadv (zmap (fun i d9 => zaddb d9 i) σ)) [(2, 0, 0, 0), (6, 40, 0, 0), (3, 0, 0, 0), (6, 41, 0, 0), (7, 1, 0, 0), (22, 0, 0, 0)] := zRc.fun0 (N := Nt) rc0_ (by have := bx_11_13.1; have := bx_11_13.2; have := bx_1.1; have := bx_1.2; have := br_5_10.1; have := br_5_10.2; have := bcc.1; have := bcc.2; have := bsz_.1; have := bsz_.2; have := bx_23.1; have := bx_23.2; have := bx_2.1; have := bx_2.2; have := bx_16.1; have := bx_16.2; have := bx_17.1; have := bx_17.2; have := bx_21.1; have := bx_21.2; have : (1 : Int32).toInt = 1 := (by decide); have : (5 : Int32).toInt = 5 := (by decide); have : (10 : Int32).toInt = 10 := (by decide); omega) (fun i d9 e9 => by have h9 := hfk_ i d9 e9; have := bx_11_13.1; have := bx_11_13.2; have := br_5_10.1; have := br_5_10.2; have := bcc.1; have := bcc.2; have := bsz_.1; have := bsz_.2; have := bx_23.1; have := bx_23.2; have := bx_2.1; have := bx_2.2; have := bx_16.1; have := bx_16.2; have := bx_17.1; have := bx_17.2; have := bx_21.1; have := bx_21.2; have : (1 : Int32).toInt = 1 := (by decide); have : (5 : Int32).toInt = 5 := (by decide); have : (10 : Int32).toInt = 10 := (by decide); omega)
      have st_27 : zsN σ (zadv (zmap (fun i d9 => zaddb d9 i) σ)) := zsN.b
      have cc_27 : zCc Γ F F_24 th (zTo Bt nt) σ (zadv (zmap (fun i d9 => zaddb d9 i) σ)) (3) := (zCc.adm2 (N := Nt) (f := fun i d9 => zaddb d9 i) (cc_26.fr hfF_24 hth (by decide) (zTo_P Bt nt)) (fun _ _ => rfl) (by have := bx_11_13.1; have := bx_11_13.2; have := bx_1.1; have := bx_1.2; have := br_5_10.1; have := br_5_10.2; have := bcc.1; have := bcc.2; have := bsz_.1; have := bsz_.2; have := bx_23.1; have := bx_23.2; have := bx_2.1; have := bx_2.2; have := bx_16.1; have := bx_16.2; have := bx_17.1; have := bx_17.2; have := bx_21.1; have := bx_21.2; have : (1 : Int32).toInt = 1 := (by decide); have : (5 : Int32).toInt = 5 := (by decide); have : (10 : Int32).toInt = 10 := (by decide); omega) (by omega))
      generalize hσ_27 : zadv (zmap (fun i d9 => zaddb d9 i) σ) = σ_27 at c1_27 rc_27 st_27 cc_27
      obtain ⟨⟨x_28, kx_28, nx_28⟩, ⟨x_29, kx_29, nx_29⟩, ox_28⟩ := id c1_27
      have gx_28 := zC1.nx c1_27 hLs_.1 kx_28
      have bx_28 : zB 0 600 x_28 := ⟨by omega, by have := hLs_.2.1; omega⟩
      have bx_29 := zB.all x_29
      have vx_28 := congrArg Int32.toInt (z_same kF_24 kx_28)
      have mo_27 := zsN.nx st_27 ox_1 ox_28
      have oth_30 : zOth Γ F F_24 fu := (((zOth.rf : zOth Γ F F fu).trans q_22).fr hfF_24 (by decide))
      have c3_31 : zC3 Γ F_24 pr fa (zTo Bt nt) Nt σ_27 := ((zC3.oth p_c3 (p_c3.1.fr (((hfF_18.w (by decide)).trans hfF_24 (by decide)) : zFr Γ [103, 200, 201, 202, 203, 204, 205, 206, 207, 400, 401, 402, 403, 604, 605, 701, 702, 706, 711, 10200, 10300, 10600, 10700, 15800, 15900, 16000, 16100] F F_24) hpr (by decide)) kx_11 (hfF_24.f hpr 4 ⟨by decide, by decide⟩ (hfF_18.f hpr 4 ⟨by decide, by decide⟩ kx_11)) oth_30 hfa_ ⟨by have := bx_11_13.1; have := bx_11_13.2; have := br_5_10.1; have := br_5_10.2; have := bcc.1; have := bcc.2; have := bsz_.1; have := bsz_.2; have := bx_28.1; have := bx_28.2; have := bx_29.1; have := bx_29.2; have := bx_16.1; have := bx_16.2; have := bx_17.1; have := bx_17.2; have := bx_21.1; have := bx_21.2; have : (1 : Int32).toInt = 1 := (by decide); have : (5 : Int32).toInt = 5 := (by decide); have : (10 : Int32).toInt = 10 := (by decide); omega, by have := bx_11_13.1; have := bx_11_13.2; have := br_5_10.1; have := br_5_10.2; have := bcc.1; have := bcc.2; have := bsz_.1; have := bsz_.2; have := bx_28.1; have := bx_28.2; have := bx_29.1; have := bx_29.2; have := bx_16.1; have := bx_16.2; have := bx_17.1; have := bx_17.2; have := bx_21.1; have := bx_21.2; have : (1 : Int32).toInt = 1 := (by decide); have : (5 : Int32).toInt = 5 := (by decide); have : (10 : Int32).toInt = 10 := (by decide); omega⟩).sN st_27)
      refine lv_aload_n hx hb dX7_readFunction_76 rfl (lv_at hl 2 rfl) ?_
      refine lv_aload_n hx hb dX7_readFunction_77 rfl (lv_at hl 0 rfl) ?_
      have p_32 := ((p_tb.fr hfF_18 htk (by decide)).fr hfF_24 htk (by decide))
      refine zk_Vv (As := [.ref fu]) (rest := []) (bytes := cX7_readName) (maxL := 2) (ret := none) Z h (ze_X7_readName l D k Γ L F_24 H.size th fu pr tk co Bt nt Nt cc σ_27 fa hth hfu (hfF_24.f hth 3 ⟨by decide, by decide⟩ (hfF_18.f hth 3 ⟨by decide, by decide⟩ kpr)) hpr (hfF_24.f hth 4 ⟨by decide, by decide⟩ (hfF_18.f hth 4 ⟨by decide, by decide⟩ ktk)) htk (hfF_24.f hth 5 ⟨by decide, by decide⟩ (hfF_18.f hth 5 ⟨by decide, by decide⟩ kco)) hco (hfF_24.f hpr 0 ⟨by decide, by decide⟩ (hfF_18.f hpr 0 ⟨by decide, by decide⟩ ke_pr_0)) p_32 (hfF_24.f hth 11 ⟨by decide, by decide⟩ (hfF_18.f hth 11 ⟨by decide, by decide⟩ kcc)) bcc c1_27 (zCc.m (cc_27.w (dep' := 3) (by have := bx_11_13.1; have := bx_11_13.2; have := bcc.1; have := bcc.2; have := br_5_10.1; have := br_5_10.2; have := bsz_.1; have := bsz_.2; have := bx_28.1; have := bx_28.2; have := bx_29.1; have := bx_29.2; have := bx_16.1; have := bx_16.2; have := bx_17.1; have := bx_17.2; have := bx_21.1; have := bx_21.2; have : (1 : Int32).toInt = 1 := (by decide); have : (5 : Int32).toInt = 5 := (by decide); have : (10 : Int32).toInt = 10 := (by decide); omega)) (hfF_24.f hth 11 ⟨by decide, by decide⟩ (hfF_18.f hth 11 ⟨by decide, by decide⟩ kcc))) c3_31) (cwV 1 hg zv_RX7_104 rfl rfl rfl zd_X7_readName ⟨z_leR hRf (by decide), z_leR hRl (by decide)⟩) hth (by decide) rfl rfl hl.1 rfl (Nat.le_of_ble_eq_true rfl) dX7_readFunction_78 ⟨Nat.zero_le _, Nat.zero_le _⟩ (fun F_33 H locs w_34 h hfF_33 => ?_)
      obtain ⟨⟨σ_36, c1_36, rn_36, st_36, cn_36, nm_36⟩, q_37, -⟩ := w_34
      have rc_36 : zRc (zTo Bt nt) σ [(1, 0, 0, 0)] σ_36 [(6, 40, 0, 0), (3, 0, 0, 0), (6, 41, 0, 0), (7, 1, 0, 0), (22, 0, 0, 0)] := zRc.calls rc_27 (rn_36.x (zSy_eq (by have := bx_11_13.1; have := bx_11_13.2; have := bcc.1; have := bcc.2; have := br_5_10.1; have := br_5_10.2; have := bsz_.1; have := bsz_.2; have := bx_16.1; have := bx_16.2; have := bx_17.1; have := bx_17.2; have := bx_21.1; have := bx_21.2; have : (1 : Int32).toInt = 1 := (by decide); have : (5 : Int32).toInt = 5 := (by decide); have : (10 : Int32).toInt = 10 := (by decide); omega) (by have := bx_11_13.1; have := bx_11_13.2; have := bcc.1; have := bcc.2; have := br_5_10.1; have := br_5_10.2; have := bsz_.1; have := bsz_.2; have := bx_16.1; have := bx_16.2; have := bx_17.1; have := bx_17.2; have := bx_21.1; have := bx_21.2; have : (1 : Int32).toInt = 1 := (by decide); have : (5 : Int32).toInt = 5 := (by decide); have : (10 : Int32).toInt = 10 := (by decide); omega) (by have := bx_11_13.1; have := bx_11_13.2; have := bcc.1; have := bcc.2; have := br_5_10.1; have := br_5_10.2; have := bsz_.1; have := bsz_.2; have := bx_16.1; have := bx_16.2; have := bx_17.1; have := bx_17.2; have := bx_21.1; have := bx_21.2; have : (1 : Int32).toInt = 1 := (by decide); have : (5 : Int32).toInt = 5 := (by decide); have : (10 : Int32).toInt = 10 := (by decide); omega)))
      have cc_36 : zCc Γ F F_33 th (zTo Bt nt) σ (σ_36) (1) := zCc.call cc_27 cn_36
      obtain ⟨⟨x_38, kx_38, nx_38⟩, ⟨x_39, kx_39, nx_39⟩, ox_38⟩ := id c1_36
      have gx_38 := zC1.nx c1_36 hLs_.1 kx_38
      have bx_38 : zB 0 600 x_38 := ⟨by omega, by have := hLs_.2.1; omega⟩
      have bx_39 := zB.all x_39
      have mo_36 := zsN.nx st_36 ox_28 ox_38
      refine lv_aload_n hx hb dX7_readFunction_81 rfl (lv_at hl 2 rfl) ?_
      refine lv_bipush (v := 40) hx hb dX7_readFunction_82 (by decide) ?_
      have p_40 := (p_32.fr hfF_33 htk (by decide))
      refine zk_Vv (As := [.int 40]) (rest := []) (bytes := cX7_take) (maxL := 2) (ret := none) Z h (ze_X7_take l D k Γ L F_33 H.size th 40 tk Bt nt Nt σ_36 hth (zB.of ⟨by decide, by decide⟩) (hfF_33.f hth 4 ⟨by decide, by decide⟩ (hfF_24.f hth 4 ⟨by decide, by decide⟩ (hfF_18.f hth 4 ⟨by decide, by decide⟩ ktk))) htk p_40 c1_36) (cwV 1 hg zv_RX7_108 rfl rfl rfl zd_X7_take ⟨z_leR hRf (by decide), z_leR hRl (by decide)⟩) hth (by decide) rfl rfl hl.1 rfl (Nat.le_of_ble_eq_true rfl) dX7_readFunction_84 ⟨Nat.zero_le _, Nat.zero_le _⟩ (fun F_41 H locs w_42 h hfF_41 => ?_)
      obtain ⟨q_43, -⟩ := w_42
      have c1_44 : zC1 F_41 th Nt (ztk (zTo Bt nt) Nt (40 : Int32).toInt σ_36) := q_43
      have rc_44 : zRc (zTo Bt nt) σ [(1, 0, 0, 0)] (ztk (zTo Bt nt) Nt (40 : Int32).toInt σ_36) [(3, 0, 0, 0), (6, 41, 0, 0), (7, 1, 0, 0), (22, 0, 0, 0)] := zRc.tk (N := Nt) rc_36 (by decide)
      have st_44 : zss σ_36 (ztk (zTo Bt nt) Nt (40 : Int32).toInt σ_36) := zsm.tk.ss
      have cc_44 : zCc Γ F F_41 th (zTo Bt nt) σ (ztk (zTo Bt nt) Nt (40 : Int32).toInt σ_36) (0) := (zCc.shut (N := Nt) (cc_36.fr hfF_41 hth (by decide) (zTo_P Bt nt)) (by omega) (by decide))
      generalize hσ_44 : ztk (zTo Bt nt) Nt (40 : Int32).toInt σ_36 = σ_44 at c1_44 rc_44 st_44 cc_44
      obtain ⟨⟨x_45, kx_45, nx_45⟩, ⟨x_46, kx_46, nx_46⟩, ox_45⟩ := id c1_44
      have gx_45 := zC1.nx c1_44 hLs_.1 kx_45
      have bx_45 : zB 0 600 x_45 := ⟨by omega, by have := hLs_.2.1; omega⟩
      have bx_46 := zB.all x_46
      have mo_44 := zss.nx st_44 ox_38 ox_45
      refine lv_aload_n hx hb dX7_readFunction_87 rfl (lv_at hl 2 rfl) ?_
      refine lv_aload_n hx hb dX7_readFunction_88 rfl (lv_at hl 0 rfl) ?_
      have p_47 := (p_40.fr hfF_41 htk (by decide))
      refine zk_Vv (As := [.ref fu]) (rest := []) (bytes := cX7_readPlaces) (maxL := 3) (ret := none) Z h (ze_X7_readPlaces l D k Γ L F_41 H.size th fu pr tk co Bt nt Nt cc σ_44 x_21 hth hfu (hfF_41.f hth 3 ⟨by decide, by decide⟩ (hfF_33.f hth 3 ⟨by decide, by decide⟩ (hfF_24.f hth 3 ⟨by decide, by decide⟩ (hfF_18.f hth 3 ⟨by decide, by decide⟩ kpr)))) hpr (hfF_41.f hth 4 ⟨by decide, by decide⟩ (hfF_33.f hth 4 ⟨by decide, by decide⟩ (hfF_24.f hth 4 ⟨by decide, by decide⟩ (hfF_18.f hth 4 ⟨by decide, by decide⟩ ktk)))) htk (hfF_41.f hth 5 ⟨by decide, by decide⟩ (hfF_33.f hth 5 ⟨by decide, by decide⟩ (hfF_24.f hth 5 ⟨by decide, by decide⟩ (hfF_18.f hth 5 ⟨by decide, by decide⟩ kco)))) hco p_47 (hfF_41.f hth 11 ⟨by decide, by decide⟩ (hfF_33.f hth 11 ⟨by decide, by decide⟩ (hfF_24.f hth 11 ⟨by decide, by decide⟩ (hfF_18.f hth 11 ⟨by decide, by decide⟩ kcc)))) bcc c1_44 (zCc.m (cc_44.w (dep' := 0) (by have := bx_11_13.1; have := bx_11_13.2; have := bcc.1; have := bcc.2; have := br_5_10.1; have := br_5_10.2; have := bsz_.1; have := bsz_.2; have := bx_45.1; have := bx_45.2; have := bx_46.1; have := bx_46.2; have := bx_16.1; have := bx_16.2; have := bx_17.1; have := bx_17.2; have := bx_21.1; have := bx_21.2; have : (1 : Int32).toInt = 1 := (by decide); have : (5 : Int32).toInt = 5 := (by decide); have : (10 : Int32).toInt = 10 := (by decide); omega)) (hfF_41.f hth 11 ⟨by decide, by decide⟩ (hfF_33.f hth 11 ⟨by decide, by decide⟩ (hfF_24.f hth 11 ⟨by decide, by decide⟩ (hfF_18.f hth 11 ⟨by decide, by decide⟩ kcc))))) (hfF_41.f hfu 7 ⟨by decide, by decide⟩ (hfF_33.f hfu 7 ⟨by decide, by decide⟩ (hfF_24.f hfu 7 ⟨by decide, by decide⟩ kx_21))) bx_21) (cwV 1 hg zv_RX7_111 rfl rfl rfl zd_X7_readPlaces ⟨z_leR hRf (by decide), z_leR hRl (by decide)⟩) hth (by decide) rfl rfl hl.1 rfl (Nat.le_of_ble_eq_true rfl) dX7_readFunction_89 ⟨Nat.zero_le _, Nat.zero_le _⟩ (fun F_48 H locs w_49 h hfF_48 => ?_)
      obtain ⟨⟨σ_51, c1_51, rn_51, st_51, cn_51, pl_51⟩, q_52, -⟩ := w_49
      have rc_51 : zRc (zTo Bt nt) σ [(1, 0, 0, 0)] σ_51 [(6, 41, 0, 0), (7, 1, 0, 0), (22, 0, 0, 0)] := zRc.calls rc_44 (rn_51.x (zSy_eq (by have := bx_11_13.1; have := bx_11_13.2; have := bcc.1; have := bcc.2; have := bx_21.1; have := bx_21.2; have := br_5_10.1; have := br_5_10.2; have := bsz_.1; have := bsz_.2; have := bx_16.1; have := bx_16.2; have := bx_17.1; have := bx_17.2; have : (1 : Int32).toInt = 1 := (by decide); have : (5 : Int32).toInt = 5 := (by decide); have : (10 : Int32).toInt = 10 := (by decide); omega) (by have := bx_11_13.1; have := bx_11_13.2; have := bcc.1; have := bcc.2; have := bx_21.1; have := bx_21.2; have := br_5_10.1; have := br_5_10.2; have := bsz_.1; have := bsz_.2; have := bx_16.1; have := bx_16.2; have := bx_17.1; have := bx_17.2; have : (1 : Int32).toInt = 1 := (by decide); have : (5 : Int32).toInt = 5 := (by decide); have : (10 : Int32).toInt = 10 := (by decide); omega) (by have := bx_11_13.1; have := bx_11_13.2; have := bcc.1; have := bcc.2; have := bx_21.1; have := bx_21.2; have := br_5_10.1; have := br_5_10.2; have := bsz_.1; have := bsz_.2; have := bx_16.1; have := bx_16.2; have := bx_17.1; have := bx_17.2; have : (1 : Int32).toInt = 1 := (by decide); have : (5 : Int32).toInt = 5 := (by decide); have : (10 : Int32).toInt = 10 := (by decide); omega)))
      have cc_51 : zCc Γ F F_48 th (zTo Bt nt) σ (σ_51) (0) := zCc.call cc_44 cn_51
      obtain ⟨⟨x_53, kx_53, nx_53⟩, ⟨x_54, kx_54, nx_54⟩, ox_53⟩ := id c1_51
      have gx_53 := zC1.nx c1_51 hLs_.1 kx_53
      have bx_53 : zB 0 600 x_53 := ⟨by omega, by have := hLs_.2.1; omega⟩
      have bx_54 := zB.all x_54
      have mo_51 := zsP.nx st_51 ox_45 ox_53
      refine lv_aload_n hx hb dX7_readFunction_92 rfl (lv_at hl 2 rfl) ?_
      refine lv_bipush (v := 41) hx hb dX7_readFunction_93 (by decide) ?_
      have p_55 := (p_47.fr hfF_48 htk (by decide))
      refine zk_Vv (As := [.int 41]) (rest := []) (bytes := cX7_take) (maxL := 2) (ret := none) Z h (ze_X7_take l D k Γ L F_48 H.size th 41 tk Bt nt Nt σ_51 hth (zB.of ⟨by decide, by decide⟩) (hfF_48.f hth 4 ⟨by decide, by decide⟩ (hfF_41.f hth 4 ⟨by decide, by decide⟩ (hfF_33.f hth 4 ⟨by decide, by decide⟩ (hfF_24.f hth 4 ⟨by decide, by decide⟩ (hfF_18.f hth 4 ⟨by decide, by decide⟩ ktk))))) htk p_55 c1_51) (cwV 1 hg zv_RX7_108 rfl rfl rfl zd_X7_take ⟨z_leR hRf (by decide), z_leR hRl (by decide)⟩) hth (by decide) rfl rfl hl.1 rfl (Nat.le_of_ble_eq_true rfl) dX7_readFunction_95 ⟨Nat.zero_le _, Nat.zero_le _⟩ (fun F_56 H locs w_57 h hfF_56 => ?_)
      obtain ⟨q_58, -⟩ := w_57
      have c1_59 : zC1 F_56 th Nt (ztk (zTo Bt nt) Nt (41 : Int32).toInt σ_51) := q_58
      have rc_59 : zRc (zTo Bt nt) σ [(1, 0, 0, 0)] (ztk (zTo Bt nt) Nt (41 : Int32).toInt σ_51) [(7, 1, 0, 0), (22, 0, 0, 0)] := zRc.tk (N := Nt) rc_51 (by decide)
      have st_59 : zss σ_51 (ztk (zTo Bt nt) Nt (41 : Int32).toInt σ_51) := zsm.tk.ss
      have cc_59 : zCc Γ F F_56 th (zTo Bt nt) σ (ztk (zTo Bt nt) Nt (41 : Int32).toInt σ_51) (0) := (cc_51.mv hfF_56 hth (by decide) (zTo_P Bt nt) zsm.tk.cs)
      generalize hσ_59 : ztk (zTo Bt nt) Nt (41 : Int32).toInt σ_51 = σ_59 at c1_59 rc_59 st_59 cc_59
      obtain ⟨⟨x_60, kx_60, nx_60⟩, ⟨x_61, kx_61, nx_61⟩, ox_60⟩ := id c1_59
      have gx_60 := zC1.nx c1_59 hLs_.1 kx_60
      have bx_60 : zB 0 600 x_60 := ⟨by omega, by have := hLs_.2.1; omega⟩
      have bx_61 := zB.all x_61
      have mo_59 := zss.nx st_59 ox_53 ox_60
      refine lv_aload_n hx hb dX7_readFunction_98 rfl (lv_at hl 2 rfl) ?_
      refine lv_iconst (v := 1) hx hb dX7_readFunction_99 (by decide) ?_
      have p_62 := (p_55.fr hfF_56 htk (by decide))
      have fk_63 := (((((fk_.sN st_27).sN st_36).ss st_44).sP st_51).ss st_59)
      have c4_64 := (((((((((((p_c4.fr hfF_18 hpr (by decide)).fr hfF_24 hpr (by decide)).fr hfF_33 hpr (by decide)).fr hfF_41 hpr (by decide)).fr hfF_48 hpr (by decide)).fr hfF_56 hpr (by decide)).sN st_27).sN st_36).ss st_44).sP st_51).ss st_59)
      refine zk_Vv (As := [.int 1]) (rest := []) (bytes := cX7_readBlock) (maxL := 3) (ret := none) Z h (zs_block l 6 D k Γ L F_56 H.size th 1 pr tk co Bt nt Nt cc σ_59 la x_11  hth (zB.of ⟨by decide, by decide⟩) (hfF_56.f hth 3 ⟨by decide, by decide⟩ (hfF_48.f hth 3 ⟨by decide, by decide⟩ (hfF_41.f hth 3 ⟨by decide, by decide⟩ (hfF_33.f hth 3 ⟨by decide, by decide⟩ (hfF_24.f hth 3 ⟨by decide, by decide⟩ (hfF_18.f hth 3 ⟨by decide, by decide⟩ kpr)))))) hpr (hfF_56.f hth 4 ⟨by decide, by decide⟩ (hfF_48.f hth 4 ⟨by decide, by decide⟩ (hfF_41.f hth 4 ⟨by decide, by decide⟩ (hfF_33.f hth 4 ⟨by decide, by decide⟩ (hfF_24.f hth 4 ⟨by decide, by decide⟩ (hfF_18.f hth 4 ⟨by decide, by decide⟩ ktk)))))) htk (hfF_56.f hth 5 ⟨by decide, by decide⟩ (hfF_48.f hth 5 ⟨by decide, by decide⟩ (hfF_41.f hth 5 ⟨by decide, by decide⟩ (hfF_33.f hth 5 ⟨by decide, by decide⟩ (hfF_24.f hth 5 ⟨by decide, by decide⟩ (hfF_18.f hth 5 ⟨by decide, by decide⟩ kco)))))) hco p_62 (hfF_56.f hth 11 ⟨by decide, by decide⟩ (hfF_48.f hth 11 ⟨by decide, by decide⟩ (hfF_41.f hth 11 ⟨by decide, by decide⟩ (hfF_33.f hth 11 ⟨by decide, by decide⟩ (hfF_24.f hth 11 ⟨by decide, by decide⟩ (hfF_18.f hth 11 ⟨by decide, by decide⟩ kcc)))))) bcc c1_59 (zCc.m (cc_59.w (dep' := 0) (by have := bx_11_13.1; have := bx_11_13.2; have := bcc.1; have := bcc.2; have := br_5_10.1; have := br_5_10.2; have := bsz_.1; have := bsz_.2; have := bx_60.1; have := bx_60.2; have := bx_61.1; have := bx_61.2; have := bx_16.1; have := bx_16.2; have := bx_17.1; have := bx_17.2; have : (1 : Int32).toInt = 1 := (by decide); have : (5 : Int32).toInt = 5 := (by decide); have : (10 : Int32).toInt = 10 := (by decide); omega)) (hfF_56.f hth 11 ⟨by decide, by decide⟩ (hfF_48.f hth 11 ⟨by decide, by decide⟩ (hfF_41.f hth 11 ⟨by decide, by decide⟩ (hfF_33.f hth 11 ⟨by decide, by decide⟩ (hfF_24.f hth 11 ⟨by decide, by decide⟩ (hfF_18.f hth 11 ⟨by decide, by decide⟩ kcc))))))) (hfF_56.f hpr 4 ⟨by decide, by decide⟩ (hfF_48.f hpr 4 ⟨by decide, by decide⟩ (hfF_41.f hpr 4 ⟨by decide, by decide⟩ (hfF_33.f hpr 4 ⟨by decide, by decide⟩ (hfF_24.f hpr 4 ⟨by decide, by decide⟩ (hfF_18.f hpr 4 ⟨by decide, by decide⟩ kx_11)))))) (bx_11_13.w ⟨by decide, by decide⟩) fk_63 c4_64 (by have := bx_11_13.1; have := bx_11_13.2; have := bcc.1; have := bcc.2; have := br_5_10.1; have := br_5_10.2; have := bsz_.1; have := bsz_.2; have := bx_60.1; have := bx_60.2; have := bx_61.1; have := bx_61.2; have := bx_16.1; have := bx_16.2; have := bx_17.1; have := bx_17.2; have : (1 : Int32).toInt = 1 := (by decide); have : (5 : Int32).toInt = 5 := (by decide); have : (10 : Int32).toInt = 10 := (by decide); omega)) (cwV 1 hg zv_RX7_114 rfl rfl rfl zd_X7_readBlock ⟨z_leR hRf (by decide), z_leR hRl (by decide)⟩) hth (by decide) rfl rfl hl.1 rfl (Nat.le_of_ble_eq_true rfl) dX7_readFunction_100 ⟨Nat.zero_le _, Nat.zero_le _⟩ (fun F_65 H locs w_66 h hfF_65 => ?_)
      obtain ⟨⟨x_68, kx_68, bx_68, q_67⟩, ⟨σ_70, c1_70, rn_70, st_70, cn_70, c4_70⟩, -⟩ := w_66
      have rc_70 : zRc (zTo Bt nt) σ [(1, 0, 0, 0)] σ_70 [(22, 0, 0, 0)] := zRc.calls rc_59 (rn_70.x (zSy_eq (by have := bx_11_13.1; have := bx_11_13.2; have := bcc.1; have := bcc.2; have := bx_68.1; have := bx_68.2; have := br_5_10.1; have := br_5_10.2; have := bsz_.1; have := bsz_.2; have : (1 : Int32).toInt = 1 := (by decide); have : (5 : Int32).toInt = 5 := (by decide); have : (10 : Int32).toInt = 10 := (by decide); omega) (by have := bx_11_13.1; have := bx_11_13.2; have := bcc.1; have := bcc.2; have := bx_68.1; have := bx_68.2; have := br_5_10.1; have := br_5_10.2; have := bsz_.1; have := bsz_.2; have : (1 : Int32).toInt = 1 := (by decide); have : (5 : Int32).toInt = 5 := (by decide); have : (10 : Int32).toInt = 10 := (by decide); omega) (by have := bx_11_13.1; have := bx_11_13.2; have := bcc.1; have := bcc.2; have := bx_68.1; have := bx_68.2; have := br_5_10.1; have := br_5_10.2; have := bsz_.1; have := bsz_.2; have : (1 : Int32).toInt = 1 := (by decide); have : (5 : Int32).toInt = 5 := (by decide); have : (10 : Int32).toInt = 10 := (by decide); omega)))
      have cc_70 : zCc Γ F F_65 th (zTo Bt nt) σ (σ_70) (0) := zCc.call cc_59 cn_70
      obtain ⟨⟨x_71, kx_71, nx_71⟩, ⟨x_72, kx_72, nx_72⟩, ox_71⟩ := id c1_70
      have gx_71 := zC1.nx c1_70 hLs_.1 kx_71
      have bx_71 : zB 0 600 x_71 := ⟨by omega, by have := hLs_.2.1; omega⟩
      have bx_72 := zB.all x_72
      have mo_70 := zsl.nx st_70 ox_60 ox_71
      refine lv_aload_n hx hb dX7_readFunction_103 rfl (lv_at hl 2 rfl) ?_
      refine zt_getk (t := 7) (C := RX7) (T := TX7) (N := 12) Z h hth zin_7 rfl 5 (hfF_65.f hth 5 ⟨by decide, by decide⟩ (hfF_56.f hth 5 ⟨by decide, by decide⟩ (hfF_48.f hth 5 ⟨by decide, by decide⟩ (hfF_41.f hth 5 ⟨by decide, by decide⟩ (hfF_33.f hth 5 ⟨by decide, by decide⟩ (hfF_24.f hth 5 ⟨by decide, by decide⟩ (hfF_18.f hth 5 ⟨by decide, by decide⟩ kco))))))) ⟨by decide, rfl, by decide⟩ (zm_RX7 (List.mem_of_getElem? (i := 6) rfl)) (fun _ h9 => h9) dX7_readFunction_104 ?_
      refine lv_bipush (v := 16) hx hb dX7_readFunction_107 (by decide) ?_
      refine lv_iconst (v := 0) hx hb dX7_readFunction_109 (by decide) ?_
      refine lv_iconst (v := 0) hx hb dX7_readFunction_110 (by decide) ?_
      refine zk_Vi (As := [.int 16, .int 0, .int 0]) (rest := []) (bytes := cX1_add) (maxL := 4) (ret := (some .int)) Z h (zc_X1_add l D k Γ L F_65 H.size co 16 0 0 hco) (cwV 3 hg zv_RX7_117 rfl rfl rfl zd_X1_add ⟨z_leR hRf (by decide), z_leR hRl (by decide)⟩) hco (by decide) rfl rfl hl.1 rfl (Nat.le_of_ble_eq_true rfl) dX7_readFunction_111 ⟨Nat.zero_le _, Nat.zero_le _⟩ (fun r_73 F_74 H locs w_75 h hfF_74 => ?_)
      obtain ⟨br_73, -⟩ := w_75
      refine lv_pop hx hb dX7_readFunction_114 rfl ?_
      refine lv_aload_n hx hb dX7_readFunction_115 rfl (lv_at hl 0 rfl) ?_
      refine lv_aload_n hx hb dX7_readFunction_116 rfl (lv_at hl 2 rfl) ?_
      refine zt_getk (t := 7) (C := RX7) (T := TX7) (N := 12) Z h hth zin_7 rfl 6 (hfF_74.f hth 6 ⟨by decide, by decide⟩ kx_71) ⟨by decide, rfl, by decide⟩ (zm_RX7 (List.mem_of_getElem? (i := 9) rfl)) (fun _ h9 => h9) dX7_readFunction_117 ?_
      refine lv_iconst (v := 1) hx hb dX7_readFunction_120 (by decide) ?_
      refine lv_isub hx hb dX7_readFunction_121 ?_
      refine zi_sub (lo := (-1)) (hi := 599) bx_71 (zBc 1 1 (by decide)) (by decide) (fun x_76 bx_76 tx_76 => ?_)
      refine zt_pute (t := 2) (C := RX2) (T := TX2) (N := 9) (v := .int x_76) Z h hfu zin_2 tyX2 tyX2_ok nmX2 rfl 2 rfl ⟨by decide, rfl⟩ (zm_RX7 (List.mem_of_getElem? (i := 46) rfl)) (fun _ h9 => h9) rfl (zV.i (bx_76.w ⟨by decide, by decide⟩)) rfl rfl dX7_readFunction_122 (fun H locs F_77 h hfF_77 kF_77 oF_77 => ?_)
      refine lv_aload_n hx hb dX7_readFunction_125 rfl (lv_at hl 0 rfl) ?_
      refine lv_aload_n hx hb dX7_readFunction_126 rfl (lv_at hl 2 rfl) ?_
      refine zt_getk (t := 7) (C := RX7) (T := TX7) (N := 12) Z h hth zin_7 rfl 3 (hfF_77.f hth 3 ⟨by decide, by decide⟩ (hfF_74.f hth 3 ⟨by decide, by decide⟩ (hfF_65.f hth 3 ⟨by decide, by decide⟩ (hfF_56.f hth 3 ⟨by decide, by decide⟩ (hfF_48.f hth 3 ⟨by decide, by decide⟩ (hfF_41.f hth 3 ⟨by decide, by decide⟩ (hfF_33.f hth 3 ⟨by decide, by decide⟩ (hfF_24.f hth 3 ⟨by decide, by decide⟩ (hfF_18.f hth 3 ⟨by decide, by decide⟩ kpr))))))))) ⟨by decide, rfl, by decide⟩ (zm_RX7 (List.mem_of_getElem? (i := 2) rfl)) (fun _ h9 => h9) dX7_readFunction_127 ?_
      refine zt_geti (t := 6) (C := RX6) (T := TX6) (N := 6) Z h hpr zin_6 rfl 5 rfl ⟨by decide, rfl⟩ (zm_RX7 (List.mem_of_getElem? (i := 30) rfl)) (fun _ h9 => h9) dX7_readFunction_130 (fun x_78 kx_78 bx_78 => ?_)
      refine lv_aload_n hx hb dX7_readFunction_133 rfl (lv_at hl 0 rfl) ?_
      refine zt_geti (t := 2) (C := RX2) (T := TX2) (N := 9) Z h hfu zin_2 rfl 3 rfl ⟨by decide, rfl⟩ (zm_RX7 (List.mem_of_getElem? (i := 47) rfl)) (fun _ h9 => h9) dX7_readFunction_134 (fun x_79 kx_79 bx_79 => ?_)
      refine lv_isub hx hb dX7_readFunction_137 ?_
      refine zi_any (fun x_80 bx_80 ex_80 => ?_)
      refine zt_pute (t := 2) (C := RX2) (T := TX2) (N := 9) (v := .int x_80) Z h hfu zin_2 tyX2 tyX2_ok nmX2 rfl 4 rfl ⟨by decide, rfl⟩ (zm_RX7 (List.mem_of_getElem? (i := 48) rfl)) (fun _ h9 => h9) rfl (zV.i bx_80) rfl rfl dX7_readFunction_138 (fun H locs F_81 h hfF_81 kF_81 oF_81 => ?_)
      refine lv_aload_n hx hb dX7_readFunction_141 rfl (lv_at hl 2 rfl) ?_
      refine zt_getk (t := 7) (C := RX7) (T := TX7) (N := 12) Z h hth zin_7 rfl 3 (hfF_81.f hth 3 ⟨by decide, by decide⟩ (hfF_77.f hth 3 ⟨by decide, by decide⟩ (hfF_74.f hth 3 ⟨by decide, by decide⟩ (hfF_65.f hth 3 ⟨by decide, by decide⟩ (hfF_56.f hth 3 ⟨by decide, by decide⟩ (hfF_48.f hth 3 ⟨by decide, by decide⟩ (hfF_41.f hth 3 ⟨by decide, by decide⟩ (hfF_33.f hth 3 ⟨by decide, by decide⟩ (hfF_24.f hth 3 ⟨by decide, by decide⟩ (hfF_18.f hth 3 ⟨by decide, by decide⟩ kpr)))))))))) ⟨by decide, rfl, by decide⟩ (zm_RX7 (List.mem_of_getElem? (i := 2) rfl)) (fun _ h9 => h9) dX7_readFunction_142 ?_
      refine lv_dup hx hb dX7_readFunction_145 rfl ?_
      refine zt_getk (t := 6) (C := RX6) (T := TX6) (N := 6) Z h hpr zin_6 rfl 4 (hfF_81.f hpr 4 ⟨by decide, by decide⟩ (hfF_77.f hpr 4 ⟨by decide, by decide⟩ (hfF_74.f hpr 4 ⟨by decide, by decide⟩ (hfF_65.f hpr 4 ⟨by decide, by decide⟩ (hfF_56.f hpr 4 ⟨by decide, by decide⟩ (hfF_48.f hpr 4 ⟨by decide, by decide⟩ (hfF_41.f hpr 4 ⟨by decide, by decide⟩ (hfF_33.f hpr 4 ⟨by decide, by decide⟩ (hfF_24.f hpr 4 ⟨by decide, by decide⟩ (hfF_18.f hpr 4 ⟨by decide, by decide⟩ kx_11)))))))))) ⟨by decide, rfl, by decide⟩ (zm_RX7 (List.mem_of_getElem? (i := 28) rfl)) (fun _ h9 => h9) dX7_readFunction_146 ?_
      refine lv_iconst (v := 1) hx hb dX7_readFunction_149 (by decide) ?_
      refine lv_iadd hx hb dX7_readFunction_150 ?_
      refine zi_add (lo := 1) (hi := 10) bx_11_13 (zBc 1 1 (by decide)) (by decide) (fun x_82 bx_82 tx_82 => ?_)
      have oth_83 : zOth Γ F F_81 fu := (((((((((((zOth.rf : zOth Γ F F fu).trans q_22).fr hfF_24 (by decide)).trans q_37).fr hfF_41 (by decide)).trans q_52).fr hfF_56 (by decide)).fr hfF_65 (by decide)).fr hfF_74 (by decide)).put oF_77).put oF_81)
      have c3_84 : zC3 Γ F_81 pr fa (zTo Bt nt) Nt σ_70 := (((((((zC3.oth p_c3 (p_c3.1.fr (((((((((((hfF_18.w (by decide)).trans hfF_24 (by decide)).trans hfF_33 (by decide)).trans hfF_41 (by decide)).trans hfF_48 (by decide)).trans hfF_56 (by decide)).trans hfF_65 (by decide)).trans hfF_74 (by decide)).trans hfF_77 (by decide)).trans hfF_81 (by decide)) : zFr Γ [103, 200, 201, 202, 203, 204, 205, 206, 207, 400, 401, 402, 403, 604, 605, 701, 702, 706, 711, 10200, 10300, 10600, 10700, 15800, 15900, 16000, 16100] F F_81) hpr (by decide)) kx_11 (hfF_81.f hpr 4 ⟨by decide, by decide⟩ (hfF_77.f hpr 4 ⟨by decide, by decide⟩ (hfF_74.f hpr 4 ⟨by decide, by decide⟩ (hfF_65.f hpr 4 ⟨by decide, by decide⟩ (hfF_56.f hpr 4 ⟨by decide, by decide⟩ (hfF_48.f hpr 4 ⟨by decide, by decide⟩ (hfF_41.f hpr 4 ⟨by decide, by decide⟩ (hfF_33.f hpr 4 ⟨by decide, by decide⟩ (hfF_24.f hpr 4 ⟨by decide, by decide⟩ (hfF_18.f hpr 4 ⟨by decide, by decide⟩ kx_11)))))))))) oth_83 hfa_ ⟨by have := bx_11_13.1; have := bx_11_13.2; have := bx_82.1; have := bx_82.2; have := br_5_10.1; have := br_5_10.2; have := bx_68.1; have := bx_68.2; have := bsz_.1; have := bsz_.2; have := bx_71.1; have := bx_71.2; have := bx_72.1; have := bx_72.2; have := bx_78.1; have := bx_78.2; have := bx_76.1; have := bx_76.2; have := bx_79.1; have := bx_79.2; have := bx_80.1; have := bx_80.2; have := bcc.1; have := bcc.2; have : (1 : Int32).toInt = 1 := (by decide); have : (5 : Int32).toInt = 5 := (by decide); have : (10 : Int32).toInt = 10 := (by decide); omega, by have := bx_11_13.1; have := bx_11_13.2; have := bx_82.1; have := bx_82.2; have := br_5_10.1; have := br_5_10.2; have := bx_68.1; have := bx_68.2; have := bsz_.1; have := bsz_.2; have := bx_71.1; have := bx_71.2; have := bx_72.1; have := bx_72.2; have := bx_78.1; have := bx_78.2; have := bx_76.1; have := bx_76.2; have := bx_79.1; have := bx_79.2; have := bx_80.1; have := bx_80.2; have := bcc.1; have := bcc.2; have : (1 : Int32).toInt = 1 := (by decide); have : (5 : Int32).toInt = 5 := (by decide); have : (10 : Int32).toInt = 10 := (by decide); omega⟩).sN st_27).sN st_36).ss st_44).sP st_51).ss st_59).sl st_70)
      have nm_85 := (((((((((((nm_36.fr hfF_41 hfu (by decide)).fr hfF_48 hfu (by decide)).fr hfF_56 hfu (by decide)).fr hfF_65 hfu (by decide)).fr hfF_74 hfu (by decide)).fr hfF_77 hfu (by decide)).fr hfF_81 hfu (by decide)).ss st_44).sP st_51).ss st_59).sl st_70)
      have pl_86 := (((((((pl_51.fr hfF_56 hfu (by decide)).fr hfF_65 hfu (by decide)).fr hfF_74 hfu (by decide)).fr hfF_77 hfu (by decide)).fr hfF_81 hfu (by decide)).ss st_59).sl st_70)
      refine zt_put (t := 6) (C := RX6) (T := TX6) (N := 6) (v := .int x_82) Z h hpr zin_6 tyX6 tyX6_ok nmX6 rfl 4 rfl ⟨by decide, rfl⟩ (zm_RX7 (List.mem_of_getElem? (i := 28) rfl)) (fun _ h9 => h9) rfl (zV.i (bx_82.w ⟨by decide, by decide⟩)) rfl rfl dX7_readFunction_151 (fun H locs F_87 h hfF_87 kF_87 => ?_)
      have cc_88 := (((cc_70.fr hfF_74 hth (by decide) (zTo_P Bt nt)).fr hfF_77 hth (by decide) (zTo_P Bt nt)).fr hfF_81 hth (by decide) (zTo_P Bt nt))
      have c3_89 := (zC3.add c3_84 nm_85 pl_86 (hfF_81.f hpr 4 ⟨by decide, by decide⟩ (hfF_77.f hpr 4 ⟨by decide, by decide⟩ (hfF_74.f hpr 4 ⟨by decide, by decide⟩ (hfF_65.f hpr 4 ⟨by decide, by decide⟩ (hfF_56.f hpr 4 ⟨by decide, by decide⟩ (hfF_48.f hpr 4 ⟨by decide, by decide⟩ (hfF_41.f hpr 4 ⟨by decide, by decide⟩ (hfF_33.f hpr 4 ⟨by decide, by decide⟩ (hfF_24.f hpr 4 ⟨by decide, by decide⟩ (hfF_18.f hpr 4 ⟨by decide, by decide⟩ kx_11)))))))))) ⟨by have := bx_11_13.1; have := bx_11_13.2; have := bx_82.1; have := bx_82.2; have := br_5_10.1; have := br_5_10.2; have := bx_68.1; have := bx_68.2; have := bsz_.1; have := bsz_.2; have := bx_71.1; have := bx_71.2; have := bx_72.1; have := bx_72.2; have := bx_78.1; have := bx_78.2; have := bx_76.1; have := bx_76.2; have := bx_79.1; have := bx_79.2; have := bx_80.1; have := bx_80.2; have := bcc.1; have := bcc.2; have : (1 : Int32).toInt = 1 := (by decide); have : (5 : Int32).toInt = 5 := (by decide); have : (10 : Int32).toInt = 10 := (by decide); omega, by have := bx_11_13.1; have := bx_11_13.2; have := bx_82.1; have := bx_82.2; have := br_5_10.1; have := br_5_10.2; have := bx_68.1; have := bx_68.2; have := bsz_.1; have := bsz_.2; have := bx_71.1; have := bx_71.2; have := bx_72.1; have := bx_72.2; have := bx_78.1; have := bx_78.2; have := bx_76.1; have := bx_76.2; have := bx_79.1; have := bx_79.2; have := bx_80.1; have := bx_80.2; have := bcc.1; have := bcc.2; have : (1 : Int32).toInt = 1 := (by decide); have : (5 : Int32).toInt = 5 := (by decide); have : (10 : Int32).toInt = 10 := (by decide); omega⟩ hfa_ (c3_84.1.fr hfF_87 hpr (by decide)) kF_87 (by have := bx_11_13.1; have := bx_11_13.2; have := bx_82.1; have := bx_82.2; have := br_5_10.1; have := br_5_10.2; have := bx_68.1; have := bx_68.2; have := bsz_.1; have := bsz_.2; have := bx_71.1; have := bx_71.2; have := bx_72.1; have := bx_72.2; have := bx_78.1; have := bx_78.2; have := bx_76.1; have := bx_76.2; have := bx_79.1; have := bx_79.2; have := bx_80.1; have := bx_80.2; have := bcc.1; have := bcc.2; have : (1 : Int32).toInt = 1 := (by decide); have : (5 : Int32).toInt = 5 := (by decide); have : (10 : Int32).toInt = 10 := (by decide); omega) (fun b j hb hj => (hfF_87.1 b 2 hb).1 (by decide) j (by rcases hj with rfl | rfl <;> decide)))
      have q_90 := zsU.f (((((((zsC.rf : zsC σ σ).trans st_27.c).trans st_36.c).trans st_44.c).trans st_51.c).trans st_59.c).trans st_70.c)
      have c1_91 := ((((c1_70.fr hfF_74 hth (by decide)).fr hfF_77 hth (by decide)).fr hfF_81 hth (by decide)).fr hfF_87 hth (by decide))
      have c1_92 : zC1 F_87 th Nt (zmap (fun _ d => zaddf d) σ_70) := c1_91.map
      have rc_92 : zRc (zTo Bt nt) σ [(1, 0, 0, 0)] (zmap (fun _ d => zaddf d) σ_70) [] := zRc.endf rc_70
      have st_92 : zsQ σ_70 (zmap (fun _ d => zaddf d) σ_70) := zsQ.f
      have cc_92 : zCc Γ F F_87 th (zTo Bt nt) σ (zmap (fun _ d => zaddf d) σ_70) (0) := (cc_88.mv hfF_87 hth (by decide) (zTo_P Bt nt) (zmap_cs (f := fun _ d => zaddf d) (fun _ _ => rfl)))
      generalize hσ_92 : zmap (fun _ d => zaddf d) σ_70 = σ_92 at c1_92 rc_92 st_92 cc_92
      obtain ⟨⟨x_93, kx_93, nx_93⟩, ⟨x_94, kx_94, nx_94⟩, ox_93⟩ := id c1_92
      have gx_93 := zC1.nx c1_92 hLs_.1 kx_93
      have bx_93 : zB 0 600 x_93 := ⟨by omega, by have := hLs_.2.1; omega⟩
      have bx_94 := zB.all x_94
      have vx_93 := congrArg Int32.toInt (z_same (hfF_87.f hth 6 ⟨by decide, by decide⟩ (hfF_81.f hth 6 ⟨by decide, by decide⟩ (hfF_77.f hth 6 ⟨by decide, by decide⟩ (hfF_74.f hth 6 ⟨by decide, by decide⟩ kx_71)))) kx_93)
      have mo_92 := zsQ.nx st_92 ox_71 ox_93
      rw [hσ_92] at c3_89 q_90
      have c4_95 := (((((c4_70.fr hfF_74 hpr (by decide)).fr hfF_77 hpr (by decide)).fr hfF_81 hpr (by decide)).fr hfF_87 hpr (by decide)).sQ st_92)
      subst hQ
      exact W.vret hx hb hr (fun t ht hW => ⟨⟨F_87, rfl, ⟨⟨x_68, (hfF_87.f hth 11 ⟨by decide, by decide⟩ (hfF_81.f hth 11 ⟨by decide, by decide⟩ (hfF_77.f hth 11 ⟨by decide, by decide⟩ (hfF_74.f hth 11 ⟨by decide, by decide⟩ kx_68)))), bx_68, (by have := bx_11_13.1; have := bx_11_13.2; have := bx_68.1; have := bx_68.2; have := br_5_10.1; have := br_5_10.2; have := bsz_.1; have := bsz_.2; have := bx_93.1; have := bx_93.2; have := bx_94.1; have := bx_94.2; have := bx_82.1; have := bx_82.2; have := bx_78.1; have := bx_78.2; have := bx_76.1; have := bx_76.2; have := bx_79.1; have := bx_79.2; have := bx_80.1; have := bx_80.2; have := bcc.1; have := bcc.2; have : (1 : Int32).toInt = 1 := (by decide); have : (5 : Int32).toInt = 5 := (by decide); have : (10 : Int32).toInt = 10 := (by decide); omega)⟩, ⟨σ_92, c1_92, rc_92, q_90, (cc_92.w (by have := bx_11_13.1; have := bx_11_13.2; have := br_5_10.1; have := br_5_10.2; have := bx_68.1; have := bx_68.2; have := bsz_.1; have := bsz_.2; have := bx_93.1; have := bx_93.2; have := bx_94.1; have := bx_94.2; have := bx_82.1; have := bx_82.2; have := bx_78.1; have := bx_78.2; have := bx_76.1; have := bx_76.2; have := bx_79.1; have := bx_79.2; have := bx_80.1; have := bx_80.2; have := bcc.1; have := bcc.2; have : (1 : Int32).toInt = 1 := (by decide); have : (5 : Int32).toInt = 5 := (by decide); have : (10 : Int32).toInt = 10 := (by decide); omega)), c3_89, c4_95⟩, trivial⟩, by rw [ht]; exact h.1, h.2.1, (((((((((((hfF_18.w (by decide)).trans hfF_24 (by decide)).trans hfF_33 (by decide)).trans hfF_41 (by decide)).trans hfF_48 (by decide)).trans hfF_56 (by decide)).trans hfF_65 (by decide)).trans hfF_74 (by decide)).trans hfF_77 (by decide)).trans hfF_81 (by decide)).trans hfF_87 (by decide))⟩, h.2.2.F ht⟩) h.2.2.2.2 dX7_readFunction_154
    · have c_12 := z_nlt c_12
      have bx_11_96 : zB 10 10 x_11 := zB.leR c_12 (zBc 10 10 (by decide)) bx_11 (by decide)
      refine lv_aload_n hx hb dX7_readFunction_28 rfl (lv_at hl 1 rfl) ?_
      refine lv_iconst (v := 3) hx hb dX7_readFunction_29 (by decide) ?_
      refine zk_Vv (As := [.int 3]) (rest := []) (bytes := cX7_fail) (maxL := 2) (ret := none) Z h (ze_X7_fail l D k Γ L F H.size th 3 tk Bt nt Nt σ hth ktk htk p_tb p_au (by have := bx_11_96.1; have := bx_11_96.2; have := br_5_10.1; have := br_5_10.2; have := bcc.1; have := bcc.2; have := bsz_.1; have := bsz_.2; have := bx_1.1; have := bx_1.2; have := bx_2.1; have := bx_2.2; have : (3 : Int32).toInt = 3 := (by decide); have : (5 : Int32).toInt = 5 := (by decide); have : (10 : Int32).toInt = 10 := (by decide); omega)) (cwV 1 hg zv_RX7_79 rfl rfl rfl zd_X7_fail ⟨z_leR hRf (by decide), z_leR hRl (by decide)⟩) hth (by decide) rfl rfl hl.1 rfl (Nat.le_of_ble_eq_true rfl) dX7_readFunction_30 ⟨Nat.zero_le _, Nat.zero_le _⟩ (fun F_97 H locs w_98 h hfF_97 => ?_)
      obtain ⟨q_99, -⟩ := w_98
      have c1_100 : zC1 F_97 th Nt (zfl 3 σ) := (by have h9 := q_99; rw [show (3 : Int32).toInt = 3 by decide] at h9; exact h9)
      have rc_100 : zRc (zTo Bt nt) σ [(1, 0, 0, 0)] (zfl 3 σ) [] := zRc.fun3 (N := Nt) rc0_ (by have := bx_11_96.1; have := bx_11_96.2; have := br_5_10.1; have := br_5_10.2; have := bcc.1; have := bcc.2; have := bsz_.1; have := bsz_.2; have : (5 : Int32).toInt = 5 := (by decide); have : (10 : Int32).toInt = 10 := (by decide); omega) (fun i d9 e9 => by have h9 := hfk_ i d9 e9; have := bx_11_96.1; have := bx_11_96.2; have := br_5_10.1; have := br_5_10.2; have := bcc.1; have := bcc.2; have := bsz_.1; have := bsz_.2; have : (5 : Int32).toInt = 5 := (by decide); have : (10 : Int32).toInt = 10 := (by decide); omega)
      have st_100 : zss σ (zfl 3 σ) := zsm.fl.ss
      have cc_100 : zCc Γ F F_97 th (zTo Bt nt) σ (zfl 3 σ) (5) := (cc0_.mv hfF_97 hth (by decide) (zTo_P Bt nt) zsm.fl.cs)
      generalize hσ_100 : zfl 3 σ = σ_100 at c1_100 rc_100 st_100 cc_100
      obtain ⟨⟨x_101, kx_101, nx_101⟩, ⟨x_102, kx_102, nx_102⟩, ox_101⟩ := id c1_100
      have gx_101 := zC1.nx c1_100 hLs_.1 kx_101
      have bx_101 : zB 0 600 x_101 := ⟨by omega, by have := hLs_.2.1; omega⟩
      have bx_102 := zB.all x_102
      have mo_100 := zss.nx st_100 ox_1 ox_101
      have q_103 : zsU σ σ_100 := by rw [← hσ_100]; exact zsU.fl
      have c3_104 := ((p_c3.fr hfF_97 hpr (by decide)).ss st_100)
      have c4_105 := ((p_c4.fr hfF_97 hpr (by decide)).ss st_100)
      subst hQ
      exact W.vret hx hb hr (fun t ht hW => ⟨⟨F_97, rfl, ⟨⟨cc, (hfF_97.f hth 11 ⟨by decide, by decide⟩ kcc), bcc, (by have := bx_11_96.1; have := bx_11_96.2; have := bcc.1; have := bcc.2; have := br_5_10.1; have := br_5_10.2; have := bsz_.1; have := bsz_.2; have := bx_101.1; have := bx_101.2; have := bx_102.1; have := bx_102.2; have : (5 : Int32).toInt = 5 := (by decide); have : (10 : Int32).toInt = 10 := (by decide); omega)⟩, ⟨σ_100, c1_100, rc_100, q_103, (cc_100.w (by have := bx_11_96.1; have := bx_11_96.2; have := br_5_10.1; have := br_5_10.2; have := bcc.1; have := bcc.2; have := bsz_.1; have := bsz_.2; have := bx_101.1; have := bx_101.2; have := bx_102.1; have := bx_102.2; have : (5 : Int32).toInt = 5 := (by decide); have : (10 : Int32).toInt = 10 := (by decide); omega)), c3_104, c4_105⟩, trivial⟩, by rw [ht]; exact h.1, h.2.1, (hfF_97.w (by decide))⟩, h.2.2.F ht⟩) h.2.2.2.2 dX7_readFunction_33
  · have c_9 := z_ne c_9
    refine lv_aload_n hx hb dX7_readFunction_8 rfl (lv_at hl 0 rfl) ?_
    refine lv_iconst (v := 1) hx hb dX7_readFunction_9 (by decide) ?_
    refine zk_Vv (As := [.int 1]) (rest := []) (bytes := cX7_fail) (maxL := 2) (ret := none) Z h (ze_X7_fail l D k Γ L F H.size th 1 tk Bt nt Nt σ hth ktk htk p_tb p_au (by have := br_5.1; have := br_5.2; have := bcc.1; have := bcc.2; have := bsz_.1; have := bsz_.2; have := bx_1.1; have := bx_1.2; have := bx_2.1; have := bx_2.2; have : (1 : Int32).toInt = 1 := (by decide); have : (5 : Int32).toInt = 5 := (by decide); omega)) (cwV 1 hg zv_RX7_79 rfl rfl rfl zd_X7_fail ⟨z_leR hRf (by decide), z_leR hRl (by decide)⟩) hth (by decide) rfl rfl hl.1 rfl (Nat.le_of_ble_eq_true rfl) dX7_readFunction_10 ⟨Nat.zero_le _, Nat.zero_le _⟩ (fun F_106 H locs w_107 h hfF_106 => ?_)
    obtain ⟨q_108, -⟩ := w_107
    have c1_109 : zC1 F_106 th Nt (zfl 1 σ) := (by have h9 := q_108; rw [show (1 : Int32).toInt = 1 by decide] at h9; exact h9)
    have rc_109 : zRc (zTo Bt nt) σ [(1, 0, 0, 0)] (zfl 1 σ) [] := zRc.fun1 (N := Nt) rc0_ (by have := br_5.1; have := br_5.2; have := bcc.1; have := bcc.2; have := bsz_.1; have := bsz_.2; have : (5 : Int32).toInt = 5 := (by decide); omega)
    have st_109 : zss σ (zfl 1 σ) := zsm.fl.ss
    have cc_109 : zCc Γ F F_106 th (zTo Bt nt) σ (zfl 1 σ) (5) := (cc0_.mv hfF_106 hth (by decide) (zTo_P Bt nt) zsm.fl.cs)
    generalize hσ_109 : zfl 1 σ = σ_109 at c1_109 rc_109 st_109 cc_109
    obtain ⟨⟨x_110, kx_110, nx_110⟩, ⟨x_111, kx_111, nx_111⟩, ox_110⟩ := id c1_109
    have gx_110 := zC1.nx c1_109 hLs_.1 kx_110
    have bx_110 : zB 0 600 x_110 := ⟨by omega, by have := hLs_.2.1; omega⟩
    have bx_111 := zB.all x_111
    have mo_109 := zss.nx st_109 ox_1 ox_110
    have q_112 : zsU σ σ_109 := by rw [← hσ_109]; exact zsU.fl
    have c3_113 := ((p_c3.fr hfF_106 hpr (by decide)).ss st_109)
    have c4_114 := ((p_c4.fr hfF_106 hpr (by decide)).ss st_109)
    subst hQ
    exact W.vret hx hb hr (fun t ht hW => ⟨⟨F_106, rfl, ⟨⟨cc, (hfF_106.f hth 11 ⟨by decide, by decide⟩ kcc), bcc, (by have := bcc.1; have := bcc.2; have := br_5.1; have := br_5.2; have := bsz_.1; have := bsz_.2; have := bx_110.1; have := bx_110.2; have := bx_111.1; have := bx_111.2; have : (5 : Int32).toInt = 5 := (by decide); omega)⟩, ⟨σ_109, c1_109, rc_109, q_112, (cc_109.w (by have := br_5.1; have := br_5.2; have := bcc.1; have := bcc.2; have := bsz_.1; have := bsz_.2; have := bx_110.1; have := bx_110.2; have := bx_111.1; have := bx_111.2; have : (5 : Int32).toInt = 5 := (by decide); omega)), c3_113, c4_114⟩, trivial⟩, by rw [ht]; exact h.1, h.2.1, (hfF_106.w (by decide))⟩, h.2.2.F ht⟩) h.2.2.2.2 dX7_readFunction_13

set_option maxHeartbeats 4000000 in
set_option maxRecDepth 100000 in
theorem ze_X7_joinCalls (l : Launch) (D : va_G) (k : Nat → ClassId) (Γ : Nat → Option Nat) (L : List Nat) (F : Nat → va_E) (sz : Nat) (th : Nat) (pr : Nat) (tk : Nat) (co : Nat) (Bt : Nat → Int32) (nt : Nat) (Nt : Nat) (cc : Int32) (σ : zSg) (fa : Nat → Nat) (iq : Nat) (dq : zDat) (hth : Γ th = some 7) (kpr : zfld F th 3 = .ref pr) (hpr : Γ pr = some 6) (ktk : zfld F th 4 = .ref tk) (htk : Γ tk = some 8) (kco : zfld F th 5 = .ref co) (hco : Γ co = some 1) (ke_pr_0 : zfld F pr 0 = .ref tk) (p_tb : zTb Γ F tk Bt nt Nt) (kcc : zfld F th 11 = .int cc) (bcc : zB 0 150 cc) (p_au : zC1 F th Nt (σ)) (p_c3 : zC3 Γ F pr fa (zTo Bt nt) Nt σ) (hr0 : σ = .inl (iq, dq)) (hr1 : (∀ e : Nat × Nat, e ∈ zcs dq ↔ ∃ q : Nat, (q : Int) < cc.toInt ∧ (zar F th 7 q).toInt = (e.1 : Int) ∧ (zar F th 8 q).toInt = (e.2 : Int)) ∧ (∀ q : Nat, (q : Int) < cc.toInt → ∃ e ∈ zcs dq, (zar F th 7 q).toInt = (e.1 : Int) ∧ (zar F th 8 q).toInt = (e.2 : Int)) ∧ ∀ e ∈ zcs dq, (zTo Bt nt).1 e.1 = 4 ∧ e.1 < Nt) : Met l yX7_joinCalls zwX7_joinCalls ({ frames := 4, cells := 0, slots := 0, locals := 90 }) (va_Pc [.ref th] (zP D k Γ L F sz)) (va_Qv (fun (u : Nat → va_E) => (∃ (f9 : Int32), zfld u th 1 = .int f9 ∧ zB (-2147483648) 2147483647 f9 ∧ (0 = 0) ∧ ((f9.toInt = 0 ∧ ∀ e ∈ zcs dq, zgood (zTo Bt nt) dq e) ∨ (f9.toInt = 4 ∧ ∃ e ∈ zcs dq, ¬ zgood (zTo Bt nt) dq e))) ∧ True) (zQ D k Γ L F [206, 701, 702, 706, 15800]) (zA L sz)) 0 0 (zA L sz) := by
  refine Met.ofW (cc := cX7_joinCalls) (maxL := 3) (ret := none) (by decide) rfl ?_
  intro p e s m args below meth c s₁ B hml hv
  obtain ⟨rfl, hsz, hP, hK, hLn, hE, hI⟩ := hv
  have hx := B.exec
  have hb := B.bytes
  have hr := B.returns
  have hg : ∀ w ∈ zG, w.before _ s = true := fun w h9 => atoms_spec (ws := zwX7_joinCalls) B.pre w (List.mem_cons_of_mem _ h9)
  have hown : s.vm.findClass RX7 = some m.cls := findClass_of_methodNamed B.named
  have hlocks := B.notSynchronized
  subst hsz
  have Z : zC p m c cX7_joinCalls 3 s _ zG RX7 D k L := ⟨⟨hx, hb, hml, hown, hg⟩, hK, hLn, hE⟩
  have h : zH D k Γ L s F s.heap [] := ⟨hP, hI, va_S.rf⟩
  have hl := lv_entry ([.ref th]) (n := 3) (Nat.le_of_ble_eq_true rfl)
  rw [lg_entry_eq]
  generalize (lg_sl ([.ref th]) ++ List.replicate (3 - (lg_sl ([.ref th])).length) Slot.unset).toArray = ls at hl ⊢
  have hl : lv_has ls 3 [(0, .ref th)] := hl
  clear hP hK hLn hE hI
  generalize hargs : ([.ref th] : List Value).toArray = args at *
  refine z_start (fun R Q hRf hRl hQ => ?_)
  have hRf : R.frames = 4 := hRf
  have hRl : R.locals = 90 := hRl
  have h9 := h
  have hLs_ := p_tb.2.2.2.1
  obtain ⟨sz_, ksz_, tsz_⟩ := p_tb.2.2.1
  have bsz_ : zB 1 601 sz_ := ⟨by have := hLs_.1; omega, by have := hLs_.2.1; omega⟩
  obtain ⟨⟨x_1, kx_1, nx_1⟩, ⟨x_2, kx_2, nx_2⟩, ox_1⟩ := id p_au
  have gx_1 := zC1.nx p_au hLs_.1 kx_1
  have bx_1 : zB 0 600 x_1 := ⟨by omega, by have := hLs_.2.1; omega⟩
  have bx_2 := zB.all x_2
  have ad_3 := z_ad (j := 7) (c := 106) h.2.1 hth (by decide) rfl
  have ad_4 := z_ad (j := 8) (c := 107) h.2.1 hth (by decide) rfl
  refine lv_iconst (v := 0) hx hb dX7_joinCalls_0 (by decide) ?_
  refine lv_istore_n (lv' := [(1, .int 0), (0, .ref th)]) hx hb dX7_joinCalls_1 rfl hl (by decide) rfl (fun ls hl => ?_)
  have j_j2_5 : ∀ (n : Nat) (ls : Array Slot) (y1_j2_5 : Int32) (F_6 : Nat → va_E) (H : Heap) (locs : List Loc), lv_has ls 3 [(1, .int y1_j2_5), (0, .ref th)] → zB 0 150 y1_j2_5 → zH D k Γ L s F_6 H locs → zFr Γ [206, 15800] F F_6 → (y1_j2_5.toInt ≤ cc.toInt) → (∀ q : Nat, (q : Int) < y1_j2_5.toInt → ∀ e : Nat × Nat, (zar F th 7 q).toInt = (e.1 : Int) → (zar F th 8 q).toInt = (e.2 : Int) → zgood (zTo Bt nt) dq e) → (2147483647 - y1_j2_5.toInt).toNat = n → W p l e R s m args below meth c H locs 0 0 Q (F0 m 2 ls []) := by
    intro n
    induction n using Nat.strongRecOn with
    | _ n ih_j2_5 =>
      intro ls y1_j2_5 F_6 H locs hl by1_j2_5 h hfF_6 r0_j2_5 r1_j2_5 hn_j2_5
      refine lv_iload_n hx hb dX7_joinCalls_2 rfl (lv_at hl 0 rfl) ?_
      refine lv_aload_n hx hb dX7_joinCalls_3 rfl (lv_at hl 1 rfl) ?_
      refine zt_getk (t := 7) (C := RX7) (T := TX7) (N := 12) Z h hth zin_7 rfl 11 (hfF_6.f hth 11 ⟨by decide, by decide⟩ kcc) ⟨by decide, rfl, by decide⟩ (zm_RX7 (List.mem_of_getElem? (i := 10) rfl)) (fun _ h9 => h9) dX7_joinCalls_4 ?_
      refine lv_icmp_ge (tgt := 140) hx hb dX7_joinCalls_7 (by decide) (fun c_7 => ?_) (fun c_7 => ?_)
      · have c_7 := z_le c_7
        have c1_8 := (p_au.fr hfF_6 hth (by decide))
        subst hQ
        exact W.vret hx hb hr (fun t ht hW => ⟨⟨F_6, rfl, ⟨⟨x_2, (hfF_6.f hth 1 ⟨by decide, by decide⟩ kx_2), bx_2, (by have := by1_j2_5.1; have := by1_j2_5.2; have := bx_2.1; have := bx_2.2; have := bcc.1; have := bcc.2; have := bsz_.1; have := bsz_.2; have := bx_1.1; have := bx_1.2; omega), (Or.inl ⟨by have h9 := c1_8; obtain ⟨-, ⟨y9, k9, t9⟩, -⟩ := h9; rw [z_vi (hfF_6.f hth 1 ⟨by decide, by decide⟩ kx_2) k9, t9, hr0]; rfl, fun e9 h9 => by obtain ⟨q, a1, a2, a3⟩ := (hr1.1 e9).mp h9; exact r1_j2_5 q (by have := by1_j2_5.1; have := by1_j2_5.2; have := bcc.1; have := bcc.2; have := bsz_.1; have := bsz_.2; have := bx_1.1; have := bx_1.2; have := bx_2.1; have := bx_2.2; omega) e9 a2 a3⟩)⟩, trivial⟩, by rw [ht]; exact h.1, h.2.1, (hfF_6.w (by decide))⟩, h.2.2.F ht⟩) h.2.2.2.2 dX7_joinCalls_140
      · have c_7 := z_nle c_7
        have by1_j2_5_9 : zB 0 149 y1_j2_5 := zB.ltL c_7 by1_j2_5 bcc (by decide)
        have bcc_10 : zB 1 150 cc := zB.ltR c_7 by1_j2_5 bcc (by decide)
        refine lv_iload_n hx hb dX7_joinCalls_10 rfl (lv_at hl 0 rfl) ?_
        refine lv_aload_n hx hb dX7_joinCalls_11 rfl (lv_at hl 1 rfl) ?_
        refine zt_getr (t := 7) (C := RX7) (T := TX7) (N := 12) Z h hth zin_7 rfl 7 rfl ⟨by decide, rfl⟩ (zm_RX7 (List.mem_of_getElem? (i := 122) rfl)) (fun _ h9 => h9) dX7_joinCalls_12 (fun a_11 ka_11 ha_11 => ?_)
        refine zt_alen (t := 106) Z h ha_11 ⟨by decide, rfl⟩ (by decide) (v := 150) rfl dX7_joinCalls_15 ?_
        refine lv_icmp_ge (tgt := 140) hx hb dX7_joinCalls_16 (by decide) (fun c_12 => ?_) (fun c_12 => ?_)
        · have c_12 := z_le c_12
          exact zB.noLe c_12 (zBc 150 150 (by decide)) by1_j2_5_9 (by decide)
        · have c_12 := z_nle c_12
          refine lv_aload_n hx hb dX7_joinCalls_19 rfl (lv_at hl 1 rfl) ?_
          refine zt_getk (t := 7) (C := RX7) (T := TX7) (N := 12) Z h hth zin_7 rfl 3 (hfF_6.f hth 3 ⟨by decide, by decide⟩ kpr) ⟨by decide, rfl, by decide⟩ (zm_RX7 (List.mem_of_getElem? (i := 2) rfl)) (fun _ h9 => h9) dX7_joinCalls_20 ?_
          refine lv_aload_n hx hb dX7_joinCalls_23 rfl (lv_at hl 1 rfl) ?_
          refine zt_getk (t := 7) (C := RX7) (T := TX7) (N := 12) Z h hth zin_7 rfl 4 (hfF_6.f hth 4 ⟨by decide, by decide⟩ ktk) ⟨by decide, rfl, by decide⟩ (zm_RX7 (List.mem_of_getElem? (i := 4) rfl)) (fun _ h9 => h9) dX7_joinCalls_24 ?_
          refine lv_aload_n hx hb dX7_joinCalls_27 rfl (lv_at hl 1 rfl) ?_
          refine zt_getk (t := 7) (C := RX7) (T := TX7) (N := 12) Z h hth zin_7 rfl 7 ka_11 ⟨by decide, rfl, by decide⟩ (zm_RX7 (List.mem_of_getElem? (i := 122) rfl)) (fun _ h9 => h9) dX7_joinCalls_28 ?_
          refine lv_iload_n hx hb dX7_joinCalls_31 rfl (lv_at hl 0 rfl) ?_
          refine zt_ialde (t := 106) Z h ha_11 ⟨by decide, rfl⟩ by1_j2_5_9 ⟨by decide, by decide⟩ dX7_joinCalls_32 (fun x_13 ex_13 bx_13 => ?_)
          have ar_14 : zar F_6 th 7 = (zar F th 7) := ((ad_3.ar hfF_6 hth ⟨by decide, by decide⟩ ⟨by decide, by decide⟩).trans rfl)
          have hx7_ : zar F th 7 (Int32.toNatClampNeg y1_j2_5) = x_13 := (by rw [← ar_14, zar_eq ka_11]; exact ex_13)
          obtain ⟨e_, he_, h7_, h8_⟩ := hr1.2.1 (Int32.toNatClampNeg y1_j2_5) (by have := z_cl (x := y1_j2_5) (by have := by1_j2_5_9.1; have := by1_j2_5_9.2; have := bx_13.1; have := bx_13.2; have := bcc_10.1; have := bcc_10.2; have := bsz_.1; have := bsz_.2; have := bx_1.1; have := bx_1.2; have := bx_2.1; have := bx_2.2; have : (150 : Int32).toInt = 150 := (by decide); omega); have := by1_j2_5_9.1; have := by1_j2_5_9.2; have := bx_13.1; have := bx_13.2; have := bcc_10.1; have := bcc_10.2; have := bsz_.1; have := bsz_.2; have := bx_1.1; have := bx_1.2; have := bx_2.1; have := bx_2.2; have : (150 : Int32).toInt = 150 := (by decide); omega)
          rw [hx7_] at h7_
          have hN_ := (hr1.2.2 e_ he_).2
          have p_15 := (p_tb.fr hfF_6 htk (by decide))
          have c3_16 := (p_c3.fr hfF_6 hpr (by decide))
          refine zk_Vi (As := [.ref tk, .int x_13]) (rest := []) (bytes := cX6_functionNamed) (maxL := 4) (ret := (some .int)) Z h (ze_X6_functionNamed l D k Γ L F_6 H.size pr tk x_13 Bt nt Nt fa iq dq hpr htk (hfF_6.f hpr 0 ⟨by decide, by decide⟩ ke_pr_0) p_15 (by rw [← hr0]; exact c3_16) ⟨by have := by1_j2_5_9.1; have := by1_j2_5_9.2; have := bx_13.1; have := bx_13.2; have := bcc_10.1; have := bcc_10.2; have := bsz_.1; have := bsz_.2; have := bx_1.1; have := bx_1.2; have := bx_2.1; have := bx_2.2; have : (150 : Int32).toInt = 150 := (by decide); omega, by have := by1_j2_5_9.1; have := by1_j2_5_9.2; have := bx_13.1; have := bx_13.2; have := bcc_10.1; have := bcc_10.2; have := bsz_.1; have := bsz_.2; have := bx_1.1; have := bx_1.2; have := bx_2.1; have := bx_2.2; have : (150 : Int32).toInt = 150 := (by decide); omega, by rw [show x_13.toInt.toNat = e_.1 by omega]; exact (hr1.2.2 e_ he_).1⟩) (cwV 2 hg zv_RX7_128 rfl rfl rfl zd_X6_functionNamed ⟨z_leR hRf (by decide), z_leR hRl (by decide)⟩) hpr (by decide) rfl rfl hl.1 rfl (Nat.le_of_ble_eq_true rfl) dX7_joinCalls_33 ⟨Nat.zero_le _, Nat.zero_le _⟩ (fun r_17 F_18 H locs w_19 h hfF_18 => ?_)
          obtain ⟨rfl, br_17, q_20, -⟩ := w_19
          refine lv_istore_n (lv' := [(2, .int r_17), (1, .int y1_j2_5), (0, .ref th)]) hx hb dX7_joinCalls_36 rfl hl (by decide) rfl (fun ls hl => ?_)
          refine lv_iload_n hx hb dX7_joinCalls_37 rfl (lv_at hl 0 rfl) ?_
          refine lv_iconst (v := (-1)) hx hb dX7_joinCalls_38 (by decide) ?_
          refine lv_icmp_eq (tgt := 63) hx hb dX7_joinCalls_39 (by decide) (fun c_21 => ?_) (fun c_21 => ?_)
          · have c_21 := z_eq c_21
            have br_17_22 : zB (-1) (-1) r_17 := zB.eqL (a := 0) (b := 0) c_21 (zBc (-1) (-1) (by decide))
            refine lv_aload_n hx hb dX7_joinCalls_63 rfl (lv_at hl 2 rfl) ?_
            refine lv_aload_n hx hb dX7_joinCalls_64 rfl (lv_at hl 2 rfl) ?_
            refine zt_getk (t := 7) (C := RX7) (T := TX7) (N := 12) Z h hth zin_7 rfl 7 ka_11 ⟨by decide, rfl, by decide⟩ (zm_RX7 (List.mem_of_getElem? (i := 122) rfl)) (fun _ h9 => h9) dX7_joinCalls_65 ?_
            refine lv_iload_n hx hb dX7_joinCalls_68 rfl (lv_at hl 1 rfl) ?_
            refine zt_ialdk (t := 106) Z h ha_11 ⟨by decide, rfl⟩ by1_j2_5_9 ⟨by decide, by decide⟩ ex_13 dX7_joinCalls_69 ?_
            refine zt_put (t := 7) (C := RX7) (T := TX7) (N := 12) (v := .int x_13) Z h hth zin_7 tyX7 tyX7_ok nmX7 rfl 6 rfl ⟨by decide, rfl⟩ (zm_RX7 (List.mem_of_getElem? (i := 9) rfl)) (fun _ h9 => h9) rfl (zV.i bx_13) rfl rfl dX7_joinCalls_70 (fun H locs F_23 h hfF_23 kF_23 => ?_)
            have hbad_ : ∃ e ∈ zcs dq, ¬ zgood (zTo Bt nt) dq e := ⟨e_, he_, (fun h9 => by obtain ⟨f9, a1, a2⟩ := h9; have h5 := q_20; rw [show x_13.toInt.toNat = e_.1 by omega] at h5; rw [a1] at h5; have h6 : zfi (some f9) = (f9 : Int) := rfl; have := br_17_22.1; have := br_17_22.2; have := by1_j2_5_9.1; have := by1_j2_5_9.2; have := bx_13.1; have := bx_13.2; have := bcc_10.1; have := bcc_10.2; have := bsz_.1; have := bsz_.2; have := bx_2.1; have := bx_2.2; have : ((-1) : Int32).toInt = (-1) := (by decide); have : (150 : Int32).toInt = 150 := (by decide); omega)⟩
            have c1_24 := (p_au.fr hfF_6 hth (by decide))
            have c1_25 : zC1 F_23 th Nt (.inl (e_.1, dq)) := ⟨⟨x_13, kF_23, h7_⟩, (c1_24.2.1.elim (fun y9 h9 => ⟨y9, hfF_23.f hth 1 ⟨by decide, by decide⟩ h9.1, by rw [h9.2, hr0]; rfl⟩)), hN_⟩
            refine lv_aload_n hx hb dX7_joinCalls_73 rfl (lv_at hl 2 rfl) ?_
            refine lv_iconst (v := 4) hx hb dX7_joinCalls_74 (by decide) ?_
            have p_26 := (p_15.fr hfF_23 htk (by decide))
            refine zk_Vv (As := [.int 4]) (rest := []) (bytes := cX7_fail) (maxL := 2) (ret := none) Z h (ze_X7_fail l D k Γ L F_23 H.size th 4 tk Bt nt Nt (.inl (e_.1, dq)) hth (hfF_23.f hth 4 ⟨by decide, by decide⟩ (hfF_6.f hth 4 ⟨by decide, by decide⟩ ktk)) htk p_26 c1_25 (by have := br_17_22.1; have := br_17_22.2; have := by1_j2_5_9.1; have := by1_j2_5_9.2; have := bcc_10.1; have := bcc_10.2; have := bsz_.1; have := bsz_.2; have := bx_13.1; have := bx_13.2; have := bx_2.1; have := bx_2.2; have : ((-1) : Int32).toInt = (-1) := (by decide); have : (4 : Int32).toInt = 4 := (by decide); have : (150 : Int32).toInt = 150 := (by decide); omega)) (cwV 1 hg zv_RX7_79 rfl rfl rfl zd_X7_fail ⟨z_leR hRf (by decide), z_leR hRl (by decide)⟩) hth (by decide) rfl rfl hl.1 rfl (Nat.le_of_ble_eq_true rfl) dX7_joinCalls_75 ⟨Nat.zero_le _, Nat.zero_le _⟩ (fun F_27 H locs w_28 h hfF_27 => ?_)
            obtain ⟨q_29, -⟩ := w_28
            obtain ⟨x_30, kx_30, bx_30⟩ := z_learn (j := 1) (lo := (-2147483648)) (hi := 2147483647) h hth (by decide) rfl
            subst hQ
            exact W.vret hx hb hr (fun t ht hW => ⟨⟨F_27, rfl, ⟨⟨x_30, kx_30, bx_30, (by have := br_17_22.1; have := br_17_22.2; have := by1_j2_5_9.1; have := by1_j2_5_9.2; have := bx_30.1; have := bx_30.2; have := bcc_10.1; have := bcc_10.2; have := bsz_.1; have := bsz_.2; have : ((-1) : Int32).toInt = (-1) := (by decide); have : (150 : Int32).toInt = 150 := (by decide); omega), (Or.inr ⟨by have h9 := q_29; obtain ⟨-, ⟨y9, k9, t9⟩, -⟩ := h9; rw [z_vi kx_30 k9, t9]; show (4 : Int32).toInt = 4; decide, hbad_⟩)⟩, trivial⟩, by rw [ht]; exact h.1, h.2.1, (((hfF_6.w (by decide)).trans hfF_23 (by decide)).trans hfF_27 (by decide))⟩, h.2.2.F ht⟩) h.2.2.2.2 dX7_joinCalls_78
          · have c_21 := z_ne c_21
            have br_17_31 : zB 0 9 r_17 := zB.neLo c_21 br_17 (zBc (-1) (-1) (by decide)) (by decide)
            refine lv_aload_n hx hb dX7_joinCalls_42 rfl (lv_at hl 2 rfl) ?_
            refine zt_getk (t := 7) (C := RX7) (T := TX7) (N := 12) Z h hth zin_7 rfl 3 (hfF_6.f hth 3 ⟨by decide, by decide⟩ kpr) ⟨by decide, rfl, by decide⟩ (zm_RX7 (List.mem_of_getElem? (i := 2) rfl)) (fun _ h9 => h9) dX7_joinCalls_43 ?_
            refine zt_getr (t := 6) (C := RX6) (T := TX6) (N := 6) Z h hpr zin_6 rfl 2 rfl ⟨by decide, rfl⟩ (zm_RX7 (List.mem_of_getElem? (i := 29) rfl)) (fun _ h9 => h9) dX7_joinCalls_46 (fun a_32 ka_32 ha_32 => ?_)
            refine lv_iload_n hx hb dX7_joinCalls_49 rfl (lv_at hl 0 rfl) ?_
            refine zt_aalde (t := 104) (t1 := 2) Z h ha_32 ⟨by decide, rfl⟩ (by decide) br_17_31 ⟨by decide, by decide⟩ dX7_joinCalls_50 (fun a_33 ea_33 ha_33 => ?_)
            have hb_ := zPS.at c3_16.1 ka_32 ea_33 ⟨by have := br_17_31.1; have := br_17_31.2; have := by1_j2_5_9.1; have := by1_j2_5_9.2; have := bcc_10.1; have := bcc_10.2; have := bsz_.1; have := bsz_.2; have := bx_1.1; have := bx_1.2; have := bx_2.1; have := bx_2.2; have : ((-1) : Int32).toInt = (-1) := (by decide); have : (150 : Int32).toInt = 150 := (by decide); omega, by have := br_17_31.1; have := br_17_31.2; have := by1_j2_5_9.1; have := by1_j2_5_9.2; have := bcc_10.1; have := bcc_10.2; have := bsz_.1; have := bsz_.2; have := bx_1.1; have := bx_1.2; have := bx_2.1; have := bx_2.2; have : ((-1) : Int32).toInt = (-1) := (by decide); have : (150 : Int32).toInt = 150 := (by decide); omega⟩
            have hfd_ : ∃ g : Nat, zfind (zTo Bt nt).2.2 (znm dq) ((zTo Bt nt).2.2 e_.1) (zfc dq) = some g ∧ (g : Int) = r_17.toInt := by have h5 := q_20; rw [show x_13.toInt.toNat = e_.1 by omega] at h5; cases h4 : zfind (zTo Bt nt).2.2 (znm dq) ((zTo Bt nt).2.2 e_.1) (zfc dq) with | none => (exfalso; rw [h4] at h5; have h6 : zfi none = -1 := rfl; have := br_17_31.1; have := br_17_31.2; have := by1_j2_5_9.1; have := by1_j2_5_9.2; have := bcc_10.1; have := bcc_10.2; have := bsz_.1; have := bsz_.2; have := bx_1.1; have := bx_1.2; have := bx_2.1; have := bx_2.2; have : ((-1) : Int32).toInt = (-1) := (by decide); have : (150 : Int32).toInt = 150 := (by decide); omega) | some g => (rw [h4] at h5; exact ⟨g, rfl, h5.symm⟩)
            obtain ⟨g_, hg_, hgi_⟩ := hfd_
            obtain ⟨-, ⟨z_, kz_, tz_⟩, -⟩ := (c3_16.2 iq dq hr0).2.2 g_ (zfind_lt hg_).1
            rw [show fa g_ = a_33 by rw [hb_, show r_17.toInt.toNat = g_ by omega]] at kz_
            have bz_ : zB 0 3 z_ := by obtain ⟨x9, k9, b9⟩ := z_learn (j := 7) (lo := 0) (hi := 3) h ha_33 (by decide) rfl; rw [z_vi kz_ k9]; exact b9
            refine zt_getk (t := 2) (C := RX2) (T := TX2) (N := 9) Z h ha_33 zin_2 rfl 7 kz_ ⟨by decide, rfl, by decide⟩ (zm_RX7 (List.mem_of_getElem? (i := 60) rfl)) (fun _ h9 => h9) dX7_joinCalls_51 ?_
            refine lv_aload_n hx hb dX7_joinCalls_54 rfl (lv_at hl 2 rfl) ?_
            refine zt_getr (t := 7) (C := RX7) (T := TX7) (N := 12) Z h hth zin_7 rfl 8 rfl ⟨by decide, rfl⟩ (zm_RX7 (List.mem_of_getElem? (i := 113) rfl)) (fun _ h9 => h9) dX7_joinCalls_55 (fun a_34 ka_34 ha_34 => ?_)
            refine lv_iload_n hx hb dX7_joinCalls_58 rfl (lv_at hl 1 rfl) ?_
            refine zt_ialde (t := 107) Z h ha_34 ⟨by decide, rfl⟩ by1_j2_5_9 ⟨by decide, by decide⟩ dX7_joinCalls_59 (fun x_35 ex_35 bx_35 => ?_)
            have ar_36 : zar F_6 th 8 = (zar F th 8) := ((ad_4.ar hfF_6 hth ⟨by decide, by decide⟩ ⟨by decide, by decide⟩).trans rfl)
            have hx8_ : zar F th 8 (Int32.toNatClampNeg y1_j2_5) = x_35 := (by rw [← ar_36, zar_eq ka_34]; exact ex_35)
            rw [hx8_] at h8_
            refine lv_icmp_eq (tgt := 79) hx hb dX7_joinCalls_60 (by decide) (fun c_37 => ?_) (fun c_37 => ?_)
            · have c_37 := z_eq c_37
              have bx_35_38 : zB 0 3 x_35 := zB.eqR (c := 0) (d := 0) c_37 bz_
              refine lv_aload_n hx hb dX7_joinCalls_79 rfl (lv_at hl 2 rfl) ?_
              refine zt_getk (t := 7) (C := RX7) (T := TX7) (N := 12) Z h hth zin_7 rfl 5 (hfF_6.f hth 5 ⟨by decide, by decide⟩ kco) ⟨by decide, rfl, by decide⟩ (zm_RX7 (List.mem_of_getElem? (i := 6) rfl)) (fun _ h9 => h9) dX7_joinCalls_80 ?_
              refine lv_aload_n hx hb dX7_joinCalls_83 rfl (lv_at hl 2 rfl) ?_
              refine zt_getr (t := 7) (C := RX7) (T := TX7) (N := 12) Z h hth zin_7 rfl 9 rfl ⟨by decide, rfl⟩ (zm_RX7 (List.mem_of_getElem? (i := 114) rfl)) (fun _ h9 => h9) dX7_joinCalls_84 (fun a_39 ka_39 ha_39 => ?_)
              refine lv_iload_n hx hb dX7_joinCalls_87 rfl (lv_at hl 1 rfl) ?_
              refine zt_ialde (t := 160) Z h ha_39 ⟨by decide, rfl⟩ by1_j2_5_9 ⟨by decide, by decide⟩ dX7_joinCalls_88 (fun x_40 ex_40 bx_40 => ?_)
              refine lv_iload_n hx hb dX7_joinCalls_89 rfl (lv_at hl 0 rfl) ?_
              refine zk_Vv (As := [.int x_40, .int r_17]) (rest := []) (bytes := cX1_setNumber) (maxL := 3) (ret := none) Z h (zc_X1_setNumber l D k Γ L F_6 H.size co x_40 r_17 hco) (cwV 2 hg zv_RX7_176 rfl rfl rfl zd_X1_setNumber ⟨z_leR hRf (by decide), z_leR hRl (by decide)⟩) hco (by decide) rfl rfl hl.1 rfl (Nat.le_of_ble_eq_true rfl) dX7_joinCalls_90 ⟨Nat.zero_le _, Nat.zero_le _⟩ (fun F_41 H locs w_42 h hfF_41 => ?_)
              refine lv_aload_n hx hb dX7_joinCalls_93 rfl (lv_at hl 2 rfl) ?_
              refine zt_getk (t := 7) (C := RX7) (T := TX7) (N := 12) Z h hth zin_7 rfl 3 (hfF_41.f hth 3 ⟨by decide, by decide⟩ (hfF_6.f hth 3 ⟨by decide, by decide⟩ kpr)) ⟨by decide, rfl, by decide⟩ (zm_RX7 (List.mem_of_getElem? (i := 2) rfl)) (fun _ h9 => h9) dX7_joinCalls_94 ?_
              refine lv_aload_n hx hb dX7_joinCalls_97 rfl (lv_at hl 2 rfl) ?_
              refine zt_getr (t := 7) (C := RX7) (T := TX7) (N := 12) Z h hth zin_7 rfl 10 rfl ⟨by decide, rfl⟩ (zm_RX7 (List.mem_of_getElem? (i := 123) rfl)) (fun _ h9 => h9) dX7_joinCalls_98 (fun a_43 ka_43 ha_43 => ?_)
              refine lv_iload_n hx hb dX7_joinCalls_101 rfl (lv_at hl 1 rfl) ?_
              refine zt_ialde (t := 161) Z h ha_43 ⟨by decide, rfl⟩ by1_j2_5_9 ⟨by decide, by decide⟩ dX7_joinCalls_102 (fun x_44 ex_44 bx_44 => ?_)
              refine zk_Vi (As := [.int x_44]) (rest := []) (bytes := cX6_hasFunction) (maxL := 2) (ret := (some .boolean)) Z h (zc_X6_hasFunction l D k Γ L F_41 H.size pr x_44 hpr) (cwV 1 hg zv_RX7_206 rfl rfl rfl zd_X6_hasFunction ⟨z_leR hRf (by decide), z_leR hRl (by decide)⟩) hpr (by decide) rfl rfl hl.1 rfl (Nat.le_of_ble_eq_true rfl) dX7_joinCalls_103 ⟨Nat.zero_le _, Nat.zero_le _⟩ (fun r_45 F_46 H locs w_47 h hfF_46 => ?_)
              obtain ⟨rfl, br_45, q_48, q_49, -⟩ := w_47
              refine lv_if_eq (tgt := 134) hx hb dX7_joinCalls_106 (by decide) (fun c_50 => ?_) (fun c_50 => ?_)
              · have c_50 := z_eq c_50
                have br_45_51 : zB 0 0 r_45 := zB.eqL (a := 0) (b := 0) c_50 (zBc 0 0 (by decide))
                obtain ⟨x_52, ex_52, bx_52, tx_52⟩ := z_inc (n := 1) (lo := 1) (hi := 150) by1_j2_5_9 (by decide)
                refine lv_iinc (v := x_52) (lv' := [(1, .int x_52), (2, .int r_17), (0, .ref th)]) hx hb dX7_joinCalls_134 hl (k := 1) rfl ex_52 (by decide) rfl (fun ls hl => ?_)
                refine lv_goto (tgt := 2) hx hb dX7_joinCalls_137 (by decide) ?_
                exact ih_j2_5 _ (by have := bx_52.1; have := bx_52.2; have := br_17_31.1; have := br_17_31.2; have := bcc_10.1; have := bcc_10.2; have := bsz_.1; have := bsz_.2; have := bx_1.1; have := bx_1.2; have := bx_2.1; have := bx_2.2; have := bz_.1; have := bz_.2; have : ((-1) : Int32).toInt = (-1) := (by decide); have : (0 : Int32).toInt = 0 := (by decide); have : (150 : Int32).toInt = 150 := (by decide); have := by1_j2_5.1; have := by1_j2_5.2; omega) ls x_52 F_41 H locs (lv_sub hl [0, 2] rfl) (bx_52.w ⟨by decide, by decide⟩) h (hfF_6.trans hfF_41 (by decide)) (by have := bx_52.1; have := bx_52.2; have := br_17_31.1; have := br_17_31.2; have := bcc_10.1; have := bcc_10.2; have := bsz_.1; have := bsz_.2; have := bx_1.1; have := bx_1.2; have := bx_2.1; have := bx_2.2; have := bz_.1; have := bz_.2; have : ((-1) : Int32).toInt = (-1) := (by decide); have : (0 : Int32).toInt = 0 := (by decide); have : (150 : Int32).toInt = 150 := (by decide); omega) (fun q h1 e9 h2 h3 => if h4 : (q : Int) < y1_j2_5.toInt then r1_j2_5 q h4 e9 h2 h3 else (by have hq : q = Int32.toNatClampNeg y1_j2_5 := (by have := z_cl (x := y1_j2_5) (by have := bx_52.1; have := bx_52.2; have := br_17_31.1; have := br_17_31.2; have := by1_j2_5_9.1; have := by1_j2_5_9.2; have := bcc_10.1; have := bcc_10.2; have := bsz_.1; have := bsz_.2; have := bx_1.1; have := bx_1.2; have := bx_2.1; have := bx_2.2; have := bz_.1; have := bz_.2; have : ((-1) : Int32).toInt = (-1) := (by decide); have : (0 : Int32).toInt = 0 := (by decide); have : (150 : Int32).toInt = 150 := (by decide); omega); have := bx_52.1; have := bx_52.2; have := br_17_31.1; have := br_17_31.2; have := by1_j2_5_9.1; have := by1_j2_5_9.2; have := bcc_10.1; have := bcc_10.2; have := bsz_.1; have := bsz_.2; have := bx_1.1; have := bx_1.2; have := bx_2.1; have := bx_2.2; have := bz_.1; have := bz_.2; have : ((-1) : Int32).toInt = (-1) := (by decide); have : (0 : Int32).toInt = 0 := (by decide); have : (150 : Int32).toInt = 150 := (by decide); omega); subst hq; rw [hx7_] at h2; rw [hx8_] at h3; rw [show e9 = e_ from Prod.ext (by omega) (by omega)]; exact ⟨g_, hg_, by have := bx_52.1; have := bx_52.2; have := br_17_31.1; have := br_17_31.2; have := bx_35_38.1; have := bx_35_38.2; have := bz_.1; have := bz_.2; have := bcc_10.1; have := bcc_10.2; have := bsz_.1; have := bsz_.2; have := bx_1.1; have := bx_1.2; have := bx_2.1; have := bx_2.2; have : ((-1) : Int32).toInt = (-1) := (by decide); have : (0 : Int32).toInt = 0 := (by decide); have : (150 : Int32).toInt = 150 := (by decide); omega⟩)) rfl
              · have bx_44_53 : zB 0 9 x_44 := q_48 c_50
                obtain ⟨x_54, kx_54, bx_54, q_55⟩ := q_49 c_50
                have c_50 := z_ne c_50
                have br_45_56 : zB 1 1 r_45 := zB.neLo c_50 br_45 (zBc 0 0 (by decide)) (by decide)
                refine lv_aload_n hx hb dX7_joinCalls_109 rfl (lv_at hl 2 rfl) ?_
                refine zt_getk (t := 7) (C := RX7) (T := TX7) (N := 12) Z h hth zin_7 rfl 3 (hfF_41.f hth 3 ⟨by decide, by decide⟩ (hfF_6.f hth 3 ⟨by decide, by decide⟩ kpr)) ⟨by decide, rfl, by decide⟩ (zm_RX7 (List.mem_of_getElem? (i := 2) rfl)) (fun _ h9 => h9) dX7_joinCalls_110 ?_
                refine zt_getk (t := 6) (C := RX6) (T := TX6) (N := 6) Z h hpr zin_6 rfl 2 (hfF_41.f hpr 2 ⟨by decide, by decide⟩ ka_32) ⟨by decide, rfl, by decide⟩ (zm_RX7 (List.mem_of_getElem? (i := 29) rfl)) (fun _ h9 => h9) dX7_joinCalls_113 ?_
                refine lv_aload_n hx hb dX7_joinCalls_116 rfl (lv_at hl 2 rfl) ?_
                refine zt_getk (t := 7) (C := RX7) (T := TX7) (N := 12) Z h hth zin_7 rfl 10 ka_43 ⟨by decide, rfl, by decide⟩ (zm_RX7 (List.mem_of_getElem? (i := 123) rfl)) (fun _ h9 => h9) dX7_joinCalls_117 ?_
                refine lv_iload_n hx hb dX7_joinCalls_120 rfl (lv_at hl 1 rfl) ?_
                refine zt_ialdk (t := 161) Z h ha_43 ⟨by decide, rfl⟩ by1_j2_5_9 ⟨by decide, by decide⟩ ex_44 dX7_joinCalls_121 ?_
                refine zt_aalde (t := 104) (t1 := 2) Z h ha_32 ⟨by decide, rfl⟩ (by decide) bx_44_53 ⟨by decide, by decide⟩ dX7_joinCalls_122 (fun a_57 ea_57 ha_57 => ?_)
                refine lv_dup hx hb dX7_joinCalls_123 rfl ?_
                refine zt_geti (t := 2) (C := RX2) (T := TX2) (N := 9) Z h ha_57 zin_2 rfl 6 rfl ⟨by decide, rfl⟩ (zm_RX7 (List.mem_of_getElem? (i := 126) rfl)) (fun _ h9 => h9) dX7_joinCalls_124 (fun x_58 kx_58 bx_58 => ?_)
                refine lv_iconst (v := 1) hx hb dX7_joinCalls_127 (by decide) ?_
                refine lv_iload_n hx hb dX7_joinCalls_128 rfl (lv_at hl 0 rfl) ?_
                refine lv_ishl hx hb dX7_joinCalls_129 ?_
                refine zi_shl1 (n := 9) (hi := 512) br_17_31 (by decide) rfl (fun x_59 bx_59 => ?_)
                refine lv_ior hx hb dX7_joinCalls_130 ?_
                refine zi_any (fun x_60 bx_60 ex_60 => ?_)
                refine zt_put (t := 2) (C := RX2) (T := TX2) (N := 9) (v := .int x_60) Z h ha_57 zin_2 tyX2 tyX2_ok nmX2 rfl 6 rfl ⟨by decide, rfl⟩ (zm_RX7 (List.mem_of_getElem? (i := 126) rfl)) (fun _ h9 => h9) rfl (zV.i bx_60) rfl rfl dX7_joinCalls_131 (fun H locs F_61 h hfF_61 kF_61 => ?_)
                obtain ⟨x_62, ex_62, bx_62, tx_62⟩ := z_inc (n := 1) (lo := 1) (hi := 150) by1_j2_5_9 (by decide)
                refine lv_iinc (v := x_62) (lv' := [(1, .int x_62), (2, .int r_17), (0, .ref th)]) hx hb dX7_joinCalls_134 hl (k := 1) rfl ex_62 (by decide) rfl (fun ls hl => ?_)
                refine lv_goto (tgt := 2) hx hb dX7_joinCalls_137 (by decide) ?_
                exact ih_j2_5 _ (by have := bx_62.1; have := bx_62.2; have := br_17_31.1; have := br_17_31.2; have := bcc_10.1; have := bcc_10.2; have := bsz_.1; have := bsz_.2; have := bx_1.1; have := bx_1.2; have := bx_2.1; have := bx_2.2; have := bz_.1; have := bz_.2; have := bx_54.1; have := bx_54.2; have := bx_60.1; have := bx_60.2; have : ((-1) : Int32).toInt = (-1) := (by decide); have : (0 : Int32).toInt = 0 := (by decide); have : (1 : Int32).toInt = 1 := (by decide); have : (150 : Int32).toInt = 150 := (by decide); have := by1_j2_5.1; have := by1_j2_5.2; omega) ls x_62 F_61 H locs (lv_sub hl [0, 2] rfl) (bx_62.w ⟨by decide, by decide⟩) h ((hfF_6.trans hfF_41 (by decide)).trans hfF_61 (by decide)) (by have := bx_62.1; have := bx_62.2; have := br_17_31.1; have := br_17_31.2; have := bcc_10.1; have := bcc_10.2; have := bsz_.1; have := bsz_.2; have := bx_1.1; have := bx_1.2; have := bx_2.1; have := bx_2.2; have := bz_.1; have := bz_.2; have := bx_54.1; have := bx_54.2; have := bx_60.1; have := bx_60.2; have : ((-1) : Int32).toInt = (-1) := (by decide); have : (0 : Int32).toInt = 0 := (by decide); have : (1 : Int32).toInt = 1 := (by decide); have : (150 : Int32).toInt = 150 := (by decide); omega) (fun q h1 e9 h2 h3 => if h4 : (q : Int) < y1_j2_5.toInt then r1_j2_5 q h4 e9 h2 h3 else (by have hq : q = Int32.toNatClampNeg y1_j2_5 := (by have := z_cl (x := y1_j2_5) (by have := bx_62.1; have := bx_62.2; have := br_17_31.1; have := br_17_31.2; have := by1_j2_5_9.1; have := by1_j2_5_9.2; have := bcc_10.1; have := bcc_10.2; have := bsz_.1; have := bsz_.2; have := bx_1.1; have := bx_1.2; have := bx_2.1; have := bx_2.2; have := bz_.1; have := bz_.2; have := bx_54.1; have := bx_54.2; have := bx_60.1; have := bx_60.2; have : ((-1) : Int32).toInt = (-1) := (by decide); have : (0 : Int32).toInt = 0 := (by decide); have : (1 : Int32).toInt = 1 := (by decide); have : (150 : Int32).toInt = 150 := (by decide); omega); have := bx_62.1; have := bx_62.2; have := br_17_31.1; have := br_17_31.2; have := by1_j2_5_9.1; have := by1_j2_5_9.2; have := bcc_10.1; have := bcc_10.2; have := bsz_.1; have := bsz_.2; have := bx_1.1; have := bx_1.2; have := bx_2.1; have := bx_2.2; have := bz_.1; have := bz_.2; have := bx_54.1; have := bx_54.2; have := bx_60.1; have := bx_60.2; have : ((-1) : Int32).toInt = (-1) := (by decide); have : (0 : Int32).toInt = 0 := (by decide); have : (1 : Int32).toInt = 1 := (by decide); have : (150 : Int32).toInt = 150 := (by decide); omega); subst hq; rw [hx7_] at h2; rw [hx8_] at h3; rw [show e9 = e_ from Prod.ext (by omega) (by omega)]; exact ⟨g_, hg_, by have := bx_62.1; have := bx_62.2; have := br_17_31.1; have := br_17_31.2; have := bx_35_38.1; have := bx_35_38.2; have := bz_.1; have := bz_.2; have := bcc_10.1; have := bcc_10.2; have := bsz_.1; have := bsz_.2; have := bx_1.1; have := bx_1.2; have := bx_2.1; have := bx_2.2; have := bx_54.1; have := bx_54.2; have := bx_60.1; have := bx_60.2; have : ((-1) : Int32).toInt = (-1) := (by decide); have : (0 : Int32).toInt = 0 := (by decide); have : (1 : Int32).toInt = 1 := (by decide); have : (150 : Int32).toInt = 150 := (by decide); omega⟩)) rfl
            · have c_37 := z_ne c_37
              refine lv_aload_n hx hb dX7_joinCalls_63 rfl (lv_at hl 2 rfl) ?_
              refine lv_aload_n hx hb dX7_joinCalls_64 rfl (lv_at hl 2 rfl) ?_
              refine zt_getk (t := 7) (C := RX7) (T := TX7) (N := 12) Z h hth zin_7 rfl 7 ka_11 ⟨by decide, rfl, by decide⟩ (zm_RX7 (List.mem_of_getElem? (i := 122) rfl)) (fun _ h9 => h9) dX7_joinCalls_65 ?_
              refine lv_iload_n hx hb dX7_joinCalls_68 rfl (lv_at hl 1 rfl) ?_
              refine zt_ialdk (t := 106) Z h ha_11 ⟨by decide, rfl⟩ by1_j2_5_9 ⟨by decide, by decide⟩ ex_13 dX7_joinCalls_69 ?_
              refine zt_put (t := 7) (C := RX7) (T := TX7) (N := 12) (v := .int x_13) Z h hth zin_7 tyX7 tyX7_ok nmX7 rfl 6 rfl ⟨by decide, rfl⟩ (zm_RX7 (List.mem_of_getElem? (i := 9) rfl)) (fun _ h9 => h9) rfl (zV.i bx_13) rfl rfl dX7_joinCalls_70 (fun H locs F_63 h hfF_63 kF_63 => ?_)
              have hbad_ : ∃ e ∈ zcs dq, ¬ zgood (zTo Bt nt) dq e := ⟨e_, he_, (fun h9 => by obtain ⟨f9, a1, a2⟩ := h9; rw [hg_] at a1; injection a1 with a1; subst a1; have := br_17_31.1; have := br_17_31.2; have := by1_j2_5_9.1; have := by1_j2_5_9.2; have := bx_13.1; have := bx_13.2; have := bx_35.1; have := bx_35.2; have := bz_.1; have := bz_.2; have := bcc_10.1; have := bcc_10.2; have := bsz_.1; have := bsz_.2; have := bx_2.1; have := bx_2.2; have : ((-1) : Int32).toInt = (-1) := (by decide); have : (150 : Int32).toInt = 150 := (by decide); omega)⟩
              have c1_64 := (p_au.fr hfF_6 hth (by decide))
              have c1_65 : zC1 F_63 th Nt (.inl (e_.1, dq)) := ⟨⟨x_13, kF_63, h7_⟩, (c1_64.2.1.elim (fun y9 h9 => ⟨y9, hfF_63.f hth 1 ⟨by decide, by decide⟩ h9.1, by rw [h9.2, hr0]; rfl⟩)), hN_⟩
              refine lv_aload_n hx hb dX7_joinCalls_73 rfl (lv_at hl 2 rfl) ?_
              refine lv_iconst (v := 4) hx hb dX7_joinCalls_74 (by decide) ?_
              have p_66 := (p_15.fr hfF_63 htk (by decide))
              refine zk_Vv (As := [.int 4]) (rest := []) (bytes := cX7_fail) (maxL := 2) (ret := none) Z h (ze_X7_fail l D k Γ L F_63 H.size th 4 tk Bt nt Nt (.inl (e_.1, dq)) hth (hfF_63.f hth 4 ⟨by decide, by decide⟩ (hfF_6.f hth 4 ⟨by decide, by decide⟩ ktk)) htk p_66 c1_65 (by have := br_17_31.1; have := br_17_31.2; have := by1_j2_5_9.1; have := by1_j2_5_9.2; have := bcc_10.1; have := bcc_10.2; have := bsz_.1; have := bsz_.2; have := bx_13.1; have := bx_13.2; have := bx_2.1; have := bx_2.2; have := bz_.1; have := bz_.2; have : ((-1) : Int32).toInt = (-1) := (by decide); have : (4 : Int32).toInt = 4 := (by decide); have : (150 : Int32).toInt = 150 := (by decide); omega)) (cwV 1 hg zv_RX7_79 rfl rfl rfl zd_X7_fail ⟨z_leR hRf (by decide), z_leR hRl (by decide)⟩) hth (by decide) rfl rfl hl.1 rfl (Nat.le_of_ble_eq_true rfl) dX7_joinCalls_75 ⟨Nat.zero_le _, Nat.zero_le _⟩ (fun F_67 H locs w_68 h hfF_67 => ?_)
              obtain ⟨q_69, -⟩ := w_68
              obtain ⟨x_70, kx_70, bx_70⟩ := z_learn (j := 1) (lo := (-2147483648)) (hi := 2147483647) h hth (by decide) rfl
              subst hQ
              exact W.vret hx hb hr (fun t ht hW => ⟨⟨F_67, rfl, ⟨⟨x_70, kx_70, bx_70, (by have := br_17_31.1; have := br_17_31.2; have := by1_j2_5_9.1; have := by1_j2_5_9.2; have := bx_70.1; have := bx_70.2; have := bcc_10.1; have := bcc_10.2; have := bsz_.1; have := bsz_.2; have := bz_.1; have := bz_.2; have : ((-1) : Int32).toInt = (-1) := (by decide); have : (150 : Int32).toInt = 150 := (by decide); omega), (Or.inr ⟨by have h9 := q_69; obtain ⟨-, ⟨y9, k9, t9⟩, -⟩ := h9; rw [z_vi kx_70 k9, t9]; show (4 : Int32).toInt = 4; decide, hbad_⟩)⟩, trivial⟩, by rw [ht]; exact h.1, h.2.1, (((hfF_6.w (by decide)).trans hfF_63 (by decide)).trans hfF_67 (by decide))⟩, h.2.2.F ht⟩) h.2.2.2.2 dX7_joinCalls_78
  exact j_j2_5 _ ls 0 F s.heap [] (lv_sub hl [0, 1] rfl) (zB.of ⟨by decide, by decide⟩) h zFr.rf (by have := bcc.1; have := bcc.2; have := bsz_.1; have := bsz_.2; have := bx_1.1; have := bx_1.2; have := bx_2.1; have := bx_2.2; have : (0 : Int32).toInt = 0 := (by decide); omega) (fun q h1 e9 h2 h3 => by exfalso; have : (0 : Int32).toInt = 0 := (by decide); omega) rfl
