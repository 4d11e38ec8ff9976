set_option maxHeartbeats 4000000 in
set_option maxRecDepth 100000 in
theorem zm_X10_ran (l : Launch) (D : va_G) (k : Nat → ClassId) (Γ : Nat → Option Nat) (L : List Nat) (F : Nat → va_E) (sz : Nat) (th : Nat) (wh : Int32) (hs : Int32) (lm : Nat) (μ : zVm) (hth : Γ th = some 10) (khs : zfld F th 8 = .int hs) (bhs : zB 0 1 hs) (klm : zfld F th 5 = .ref lm) (hlm : Γ lm = some 5) (hr0 : (hs.toInt ≠ 0 → zVc F lm μ)) : Met l yX10_ran zwX10_ran ({ frames := 1, cells := 0, slots := 0, locals := 21 }) (va_Pc [.ref th, .int wh] (zP D k Γ L F sz)) (va_Qi (fun (r : Int32) (u : Nat → va_E) => ((hs.toInt ≠ 0 ∧ wh.toInt = 0 → r = vvl μ) ∧ (hs.toInt ≠ 0 ∧ wh.toInt = 1 → r.toInt = vst μ) ∧ (hs.toInt ≠ 0 ∧ wh.toInt = 2 → r.toInt = (vsc μ : Int)) ∧ (hs.toInt ≠ 0 ∧ wh.toInt = 3 → r.toInt = (vtc μ : Int)) ∧ (hs.toInt ≠ 0 ∧ wh.toInt = 4 → r.toInt = (zbn (zln9 (vcv μ)) 64 : Int)) ∧ (hs.toInt ≠ 0 ∧ wh.toInt = 5 → r.toInt = (vmx μ : Int)) ∧ (hs.toInt = 0 ∨ wh.toInt < 0 ∨ 5 < wh.toInt → r.toInt = -1)) ∧ True) (zQ D k Γ L F [1013]) (zA L sz)) 0 0 (zA L sz) := by
  refine Met.ofW (cc := cX10_ran) (maxL := 2) (ret := (some .int)) (by decide) rfl ?_
  intro p e s m args below meth c s₁ B hml hv
  obtain ⟨rfl, hsz, hP, hK, hLn, hE, hI⟩ := hv
  have hx := B.exec
  have hb := B.bytes
  have hr := B.returns
  have hg : ∀ w ∈ zG, w.before _ s = true := fun w h9 => atoms_spec (ws := zwX10_ran) B.pre w (List.mem_cons_of_mem _ h9)
  have hown : s.vm.findClass RX10 = some m.cls := findClass_of_methodNamed B.named
  have hlocks := B.notSynchronized
  subst hsz
  have Z : zC p m c cX10_ran 2 s _ zG RX10 D k L := ⟨⟨hx, hb, hml, hown, hg⟩, hK, hLn, hE⟩
  have h : zH D k Γ L s F s.heap [] := ⟨hP, hI, va_S.rf⟩
  have hl := lv_entry ([.ref th, .int wh]) (n := 2) (Nat.le_of_ble_eq_true rfl)
  rw [lg_entry_eq]
  generalize (lg_sl ([.ref th, .int wh]) ++ List.replicate (2 - (lg_sl ([.ref th, .int wh])).length) Slot.unset).toArray = ls at hl ⊢
  have hl : lv_has ls 2 [(0, .ref th), (1, .int wh)] := hl
  clear hP hK hLn hE hI
  generalize hargs : ([.ref th, .int wh] : List Value).toArray = args at *
  refine z_start (fun R Q hRf hRl hQ => ?_)
  have hRf : R.frames = 1 := hRf
  have hRl : R.locals = 21 := hRl
  have h9 := h
  refine lv_aload_n hx hb dX10_ran_0 rfl (lv_at hl 0 rfl) ?_
  refine zt_getk (t := 10) (C := RX10) (T := TX10) (N := 14) Z h hth zin_10 rfl 8 khs ⟨by decide, rfl, by decide⟩ (zm_RX10 (List.mem_of_getElem? (i := 49) rfl)) (fun _ h9 => h9) dX10_ran_1 ?_
  refine lv_if_ne (tgt := 13) hx hb dX10_ran_4 (by decide) (fun c_1 => ?_) (fun c_1 => ?_)
  · have c_1 := z_ne c_1
    have bhs_2 : zB 1 1 hs := zB.neLo c_1 bhs (zBc 0 0 (by decide)) (by decide)
    refine lv_iload_n hx hb dX10_ran_13 rfl (lv_at hl 1 rfl) ?_
    have hlv_ := hr0 (by have := (zB.all wh).1; have := (zB.all wh).2; have := bhs_2.1; have := bhs_2.2; have : (0 : Int32).toInt = 0 := (by decide); omega)
    by_cases c_3 : wh = 0
    · refine lv_tableIn (off := 38) (tgt := 52) hx hb dX10_ran_14 (by rw [c_3]; decide) (by rw [c_3]; decide) (by rw [c_3]; rfl) (by decide) ?_
      have bwh_3 : zB 0 0 wh := by rw [c_3]; exact zBc _ _ (by decide)
      refine lv_aload_n hx hb dX10_ran_52 rfl (lv_at hl 0 rfl) ?_
      refine lv_aload_n hx hb dX10_ran_53 rfl (lv_at hl 0 rfl) ?_
      refine zt_getk (t := 10) (C := RX10) (T := TX10) (N := 14) Z h hth zin_10 rfl 5 klm ⟨by decide, rfl, by decide⟩ (zm_RX10 (List.mem_of_getElem? (i := 46) rfl)) (fun _ h9 => h9) dX10_ran_54 ?_
      refine zt_geti (t := 5) (C := RX5) (T := TX5) (N := 19) Z h hlm zin_5 rfl 1 rfl ⟨by decide, rfl⟩ (zm_RX10 (List.mem_of_getElem? (i := 52) rfl)) (fun _ h9 => h9) dX10_ran_57 (fun x_5 kx_5 bx_5 => ?_)
      refine zk_Vi (As := [.int x_5]) (rest := []) (bytes := cX10_accept) (maxL := 2) (ret := (some .int)) Z h (zm_X10_accept l D k Γ L F s.heap.size th x_5 hth) (cwV 1 hg zv_RX10_76 rfl rfl rfl zd_X10_accept ⟨z_leR hRf (by decide), z_leR hRl (by decide)⟩) hth (by decide) rfl rfl hl.1 rfl (Nat.le_of_ble_eq_true rfl) dX10_ran_60 ⟨Nat.zero_le _, Nat.zero_le _⟩ (fun r_6 F_7 H locs w_8 h hfF_7 => ?_)
      obtain ⟨q_9, -⟩ := w_8
      have br_6 := zB.all r_6
      subst hQ
      exact W.iret (v := r_6) hx hb hr (fun t ht hW => ⟨⟨r_6, F_7, rfl, ⟨⟨(fun _ => by rw [q_9]; exact z_vi kx_5 hlv_.vl), (fun h9 => by exfalso; have := bwh_3.1; have := bwh_3.2; have := br_6.1; have := br_6.2; have := bhs_2.1; have := bhs_2.2; have := bx_5.1; have := bx_5.2; have : (0 : Int32).toInt = 0 := (by decide); omega), (fun h9 => by exfalso; have := bwh_3.1; have := bwh_3.2; have := br_6.1; have := br_6.2; have := bhs_2.1; have := bhs_2.2; have := bx_5.1; have := bx_5.2; have : (0 : Int32).toInt = 0 := (by decide); omega), (fun h9 => by exfalso; have := bwh_3.1; have := bwh_3.2; have := br_6.1; have := br_6.2; have := bhs_2.1; have := bhs_2.2; have := bx_5.1; have := bx_5.2; have : (0 : Int32).toInt = 0 := (by decide); omega), (fun h9 => by exfalso; have := bwh_3.1; have := bwh_3.2; have := br_6.1; have := br_6.2; have := bhs_2.1; have := bhs_2.2; have := bx_5.1; have := bx_5.2; have : (0 : Int32).toInt = 0 := (by decide); omega), (fun h9 => by exfalso; have := bwh_3.1; have := bwh_3.2; have := br_6.1; have := br_6.2; have := bhs_2.1; have := bhs_2.2; have := bx_5.1; have := bx_5.2; have : (0 : Int32).toInt = 0 := (by decide); omega), by intro h9; exfalso; have := bwh_3.1; have := bwh_3.2; have := br_6.1; have := br_6.2; have := bhs_2.1; have := bhs_2.2; have := bx_5.1; have := bx_5.2; have : (0 : Int32).toInt = 0 := (by decide); omega⟩, trivial⟩, by rw [ht]; exact h.1, h.2.1, hfF_7⟩, h.2.2.F ht⟩) h.2.2.2.2 dX10_ran_63
    · by_cases c_10 : wh = 1
      · refine lv_tableIn (off := 50) (tgt := 64) hx hb dX10_ran_14 (by rw [c_10]; decide) (by rw [c_10]; decide) (by rw [c_10]; rfl) (by decide) ?_
        have bwh_10 : zB 1 1 wh := by rw [c_10]; exact zBc _ _ (by decide)
        refine lv_aload_n hx hb dX10_ran_64 rfl (lv_at hl 0 rfl) ?_
        refine lv_aload_n hx hb dX10_ran_65 rfl (lv_at hl 0 rfl) ?_
        refine zt_getk (t := 10) (C := RX10) (T := TX10) (N := 14) Z h hth zin_10 rfl 5 klm ⟨by decide, rfl, by decide⟩ (zm_RX10 (List.mem_of_getElem? (i := 46) rfl)) (fun _ h9 => h9) dX10_ran_66 ?_
        refine zt_geti (t := 5) (C := RX5) (T := TX5) (N := 19) Z h hlm zin_5 rfl 2 rfl ⟨by decide, rfl⟩ (zm_RX10 (List.mem_of_getElem? (i := 53) rfl)) (fun _ h9 => h9) dX10_ran_69 (fun x_12 kx_12 bx_12 => ?_)
        refine zk_Vi (As := [.int x_12]) (rest := []) (bytes := cX10_accept) (maxL := 2) (ret := (some .int)) Z h (zm_X10_accept l D k Γ L F s.heap.size th x_12 hth) (cwV 1 hg zv_RX10_76 rfl rfl rfl zd_X10_accept ⟨z_leR hRf (by decide), z_leR hRl (by decide)⟩) hth (by decide) rfl rfl hl.1 rfl (Nat.le_of_ble_eq_true rfl) dX10_ran_72 ⟨Nat.zero_le _, Nat.zero_le _⟩ (fun r_13 F_14 H locs w_15 h hfF_14 => ?_)
        obtain ⟨q_16, -⟩ := w_15
        have br_13 := zB.all r_13
        subst hQ
        exact W.iret (v := r_13) hx hb hr (fun t ht hW => ⟨⟨r_13, F_14, rfl, ⟨⟨(fun h9 => by exfalso; have := bwh_10.1; have := bwh_10.2; have := br_13.1; have := br_13.2; have := bhs_2.1; have := bhs_2.2; have := bx_12.1; have := bx_12.2; have : (0 : Int32).toInt = 0 := (by decide); omega), (fun _ => by rw [q_16]; exact zFi.is hlv_.st kx_12), (fun h9 => by exfalso; have := bwh_10.1; have := bwh_10.2; have := br_13.1; have := br_13.2; have := bhs_2.1; have := bhs_2.2; have := bx_12.1; have := bx_12.2; have : (0 : Int32).toInt = 0 := (by decide); omega), (fun h9 => by exfalso; have := bwh_10.1; have := bwh_10.2; have := br_13.1; have := br_13.2; have := bhs_2.1; have := bhs_2.2; have := bx_12.1; have := bx_12.2; have : (0 : Int32).toInt = 0 := (by decide); omega), (fun h9 => by exfalso; have := bwh_10.1; have := bwh_10.2; have := br_13.1; have := br_13.2; have := bhs_2.1; have := bhs_2.2; have := bx_12.1; have := bx_12.2; have : (0 : Int32).toInt = 0 := (by decide); omega), (fun h9 => by exfalso; have := bwh_10.1; have := bwh_10.2; have := br_13.1; have := br_13.2; have := bhs_2.1; have := bhs_2.2; have := bx_12.1; have := bx_12.2; have : (0 : Int32).toInt = 0 := (by decide); omega), by intro h9; exfalso; have := bwh_10.1; have := bwh_10.2; have := br_13.1; have := br_13.2; have := bhs_2.1; have := bhs_2.2; have := bx_12.1; have := bx_12.2; have : (0 : Int32).toInt = 0 := (by decide); omega⟩, trivial⟩, by rw [ht]; exact h.1, h.2.1, hfF_14⟩, h.2.2.F ht⟩) h.2.2.2.2 dX10_ran_75
      · by_cases c_17 : wh = 2
        · refine lv_tableIn (off := 62) (tgt := 76) hx hb dX10_ran_14 (by rw [c_17]; decide) (by rw [c_17]; decide) (by rw [c_17]; rfl) (by decide) ?_
          have bwh_17 : zB 2 2 wh := by rw [c_17]; exact zBc _ _ (by decide)
          refine lv_aload_n hx hb dX10_ran_76 rfl (lv_at hl 0 rfl) ?_
          refine lv_aload_n hx hb dX10_ran_77 rfl (lv_at hl 0 rfl) ?_
          refine zt_getk (t := 10) (C := RX10) (T := TX10) (N := 14) Z h hth zin_10 rfl 5 klm ⟨by decide, rfl, by decide⟩ (zm_RX10 (List.mem_of_getElem? (i := 46) rfl)) (fun _ h9 => h9) dX10_ran_78 ?_
          refine zt_geti (t := 5) (C := RX5) (T := TX5) (N := 19) Z h hlm zin_5 rfl 3 rfl ⟨by decide, rfl⟩ (zm_RX10 (List.mem_of_getElem? (i := 54) rfl)) (fun _ h9 => h9) dX10_ran_81 (fun x_19 kx_19 bx_19 => ?_)
          refine zk_Vi (As := [.int x_19]) (rest := []) (bytes := cX10_accept) (maxL := 2) (ret := (some .int)) Z h (zm_X10_accept l D k Γ L F s.heap.size th x_19 hth) (cwV 1 hg zv_RX10_76 rfl rfl rfl zd_X10_accept ⟨z_leR hRf (by decide), z_leR hRl (by decide)⟩) hth (by decide) rfl rfl hl.1 rfl (Nat.le_of_ble_eq_true rfl) dX10_ran_84 ⟨Nat.zero_le _, Nat.zero_le _⟩ (fun r_20 F_21 H locs w_22 h hfF_21 => ?_)
          obtain ⟨q_23, -⟩ := w_22
          have br_20 := zB.all r_20
          subst hQ
          exact W.iret (v := r_20) hx hb hr (fun t ht hW => ⟨⟨r_20, F_21, rfl, ⟨⟨(fun h9 => by exfalso; have := bwh_17.1; have := bwh_17.2; have := br_20.1; have := br_20.2; have := bhs_2.1; have := bhs_2.2; have := bx_19.1; have := bx_19.2; have : (0 : Int32).toInt = 0 := (by decide); omega), (fun h9 => by exfalso; have := bwh_17.1; have := bwh_17.2; have := br_20.1; have := br_20.2; have := bhs_2.1; have := bhs_2.2; have := bx_19.1; have := bx_19.2; have : (0 : Int32).toInt = 0 := (by decide); omega), (fun _ => by rw [q_23]; exact zFi.is hlv_.sc kx_19), (fun h9 => by exfalso; have := bwh_17.1; have := bwh_17.2; have := br_20.1; have := br_20.2; have := bhs_2.1; have := bhs_2.2; have := bx_19.1; have := bx_19.2; have : (0 : Int32).toInt = 0 := (by decide); omega), (fun h9 => by exfalso; have := bwh_17.1; have := bwh_17.2; have := br_20.1; have := br_20.2; have := bhs_2.1; have := bhs_2.2; have := bx_19.1; have := bx_19.2; have : (0 : Int32).toInt = 0 := (by decide); omega), (fun h9 => by exfalso; have := bwh_17.1; have := bwh_17.2; have := br_20.1; have := br_20.2; have := bhs_2.1; have := bhs_2.2; have := bx_19.1; have := bx_19.2; have : (0 : Int32).toInt = 0 := (by decide); omega), by intro h9; exfalso; have := bwh_17.1; have := bwh_17.2; have := br_20.1; have := br_20.2; have := bhs_2.1; have := bhs_2.2; have := bx_19.1; have := bx_19.2; have : (0 : Int32).toInt = 0 := (by decide); omega⟩, trivial⟩, by rw [ht]; exact h.1, h.2.1, hfF_21⟩, h.2.2.F ht⟩) h.2.2.2.2 dX10_ran_87
        · by_cases c_24 : wh = 3
          · refine lv_tableIn (off := 74) (tgt := 88) hx hb dX10_ran_14 (by rw [c_24]; decide) (by rw [c_24]; decide) (by rw [c_24]; rfl) (by decide) ?_
            have bwh_24 : zB 3 3 wh := by rw [c_24]; exact zBc _ _ (by decide)
            refine lv_aload_n hx hb dX10_ran_88 rfl (lv_at hl 0 rfl) ?_
            refine lv_aload_n hx hb dX10_ran_89 rfl (lv_at hl 0 rfl) ?_
            refine zt_getk (t := 10) (C := RX10) (T := TX10) (N := 14) Z h hth zin_10 rfl 5 klm ⟨by decide, rfl, by decide⟩ (zm_RX10 (List.mem_of_getElem? (i := 46) rfl)) (fun _ h9 => h9) dX10_ran_90 ?_
            refine zt_geti (t := 5) (C := RX5) (T := TX5) (N := 19) Z h hlm zin_5 rfl 4 rfl ⟨by decide, rfl⟩ (zm_RX10 (List.mem_of_getElem? (i := 55) rfl)) (fun _ h9 => h9) dX10_ran_93 (fun x_26 kx_26 bx_26 => ?_)
            refine zk_Vi (As := [.int x_26]) (rest := []) (bytes := cX10_accept) (maxL := 2) (ret := (some .int)) Z h (zm_X10_accept l D k Γ L F s.heap.size th x_26 hth) (cwV 1 hg zv_RX10_76 rfl rfl rfl zd_X10_accept ⟨z_leR hRf (by decide), z_leR hRl (by decide)⟩) hth (by decide) rfl rfl hl.1 rfl (Nat.le_of_ble_eq_true rfl) dX10_ran_96 ⟨Nat.zero_le _, Nat.zero_le _⟩ (fun r_27 F_28 H locs w_29 h hfF_28 => ?_)
            obtain ⟨q_30, -⟩ := w_29
            have br_27 := zB.all r_27
            subst hQ
            exact W.iret (v := r_27) hx hb hr (fun t ht hW => ⟨⟨r_27, F_28, rfl, ⟨⟨(fun h9 => by exfalso; have := bwh_24.1; have := bwh_24.2; have := br_27.1; have := br_27.2; have := bhs_2.1; have := bhs_2.2; have := bx_26.1; have := bx_26.2; have : (0 : Int32).toInt = 0 := (by decide); omega), (fun h9 => by exfalso; have := bwh_24.1; have := bwh_24.2; have := br_27.1; have := br_27.2; have := bhs_2.1; have := bhs_2.2; have := bx_26.1; have := bx_26.2; have : (0 : Int32).toInt = 0 := (by decide); omega), (fun h9 => by exfalso; have := bwh_24.1; have := bwh_24.2; have := br_27.1; have := br_27.2; have := bhs_2.1; have := bhs_2.2; have := bx_26.1; have := bx_26.2; have : (0 : Int32).toInt = 0 := (by decide); omega), (fun _ => by rw [q_30]; exact zFi.is hlv_.tc kx_26), (fun h9 => by exfalso; have := bwh_24.1; have := bwh_24.2; have := br_27.1; have := br_27.2; have := bhs_2.1; have := bhs_2.2; have := bx_26.1; have := bx_26.2; have : (0 : Int32).toInt = 0 := (by decide); omega), (fun h9 => by exfalso; have := bwh_24.1; have := bwh_24.2; have := br_27.1; have := br_27.2; have := bhs_2.1; have := bhs_2.2; have := bx_26.1; have := bx_26.2; have : (0 : Int32).toInt = 0 := (by decide); omega), by intro h9; exfalso; have := bwh_24.1; have := bwh_24.2; have := br_27.1; have := br_27.2; have := bhs_2.1; have := bhs_2.2; have := bx_26.1; have := bx_26.2; have : (0 : Int32).toInt = 0 := (by decide); omega⟩, trivial⟩, by rw [ht]; exact h.1, h.2.1, hfF_28⟩, h.2.2.F ht⟩) h.2.2.2.2 dX10_ran_99
          · by_cases c_31 : wh = 4
            · refine lv_tableIn (off := 86) (tgt := 100) hx hb dX10_ran_14 (by rw [c_31]; decide) (by rw [c_31]; decide) (by rw [c_31]; rfl) (by decide) ?_
              have bwh_31 : zB 4 4 wh := by rw [c_31]; exact zBc _ _ (by decide)
              refine lv_aload_n hx hb dX10_ran_100 rfl (lv_at hl 0 rfl) ?_
              refine lv_aload_n hx hb dX10_ran_101 rfl (lv_at hl 0 rfl) ?_
              refine zt_getk (t := 10) (C := RX10) (T := TX10) (N := 14) Z h hth zin_10 rfl 5 klm ⟨by decide, rfl, by decide⟩ (zm_RX10 (List.mem_of_getElem? (i := 46) rfl)) (fun _ h9 => h9) dX10_ran_102 ?_
              refine zt_getl (t := 5) (C := RX5) (T := TX5) (N := 19) Z h hlm zin_5 rfl 6 rfl ⟨by decide, rfl⟩ (zm_RX10 (List.mem_of_getElem? (i := 56) rfl)) (fun _ h9 => h9) dX10_ran_105 (fun g_33 kg_33 => ?_)
              refine zk_Si (As := [.long g_33]) (rest := [.ref th]) (bytes := cJ13_bitCount_95d88) (maxL := 2) (ret := (some .int)) Z h (ze_J13_bitCount l D k Γ L F s.heap.size g_33) (va_cwS 1 hg zv_RX10_194 rfl rfl rfl zd_J13_bitCount_95d88 ⟨z_leR hRf (by decide), z_leR hRl (by decide)⟩) rfl hl.1 rfl (Nat.le_of_ble_eq_true rfl) dX10_ran_108 ⟨Nat.zero_le _, Nat.zero_le _⟩ (fun r_34 F_35 H locs w_36 h hfF_35 => ?_)
              obtain ⟨rfl, q_37, -⟩ := w_36
              have br_34 := zB.all r_34
              refine zk_Vi (As := [.int r_34]) (rest := []) (bytes := cX10_accept) (maxL := 2) (ret := (some .int)) Z h (zm_X10_accept l D k Γ L F H.size th r_34 hth) (cwV 1 hg zv_RX10_76 rfl rfl rfl zd_X10_accept ⟨z_leR hRf (by decide), z_leR hRl (by decide)⟩) hth (by decide) rfl rfl hl.1 rfl (Nat.le_of_ble_eq_true rfl) dX10_ran_111 ⟨Nat.zero_le _, Nat.zero_le _⟩ (fun r_38 F_39 H locs w_40 h hfF_39 => ?_)
              obtain ⟨q_41, -⟩ := w_40
              have br_38 := zB.all r_38
              subst hQ
              exact W.iret (v := r_38) hx hb hr (fun t ht hW => ⟨⟨r_38, F_39, rfl, ⟨⟨(fun h9 => by exfalso; have := bwh_31.1; have := bwh_31.2; have := br_38.1; have := br_38.2; have := bhs_2.1; have := bhs_2.2; have : (0 : Int32).toInt = 0 := (by decide); omega), (fun h9 => by exfalso; have := bwh_31.1; have := bwh_31.2; have := br_38.1; have := br_38.2; have := bhs_2.1; have := bhs_2.2; have : (0 : Int32).toInt = 0 := (by decide); omega), (fun h9 => by exfalso; have := bwh_31.1; have := bwh_31.2; have := br_38.1; have := br_38.2; have := bhs_2.1; have := bhs_2.2; have : (0 : Int32).toInt = 0 := (by decide); omega), (fun h9 => by exfalso; have := bwh_31.1; have := bwh_31.2; have := br_38.1; have := br_38.2; have := bhs_2.1; have := bhs_2.2; have : (0 : Int32).toInt = 0 := (by decide); omega), (fun _ => by rw [q_41, q_37, show g_33 = vcv μ from z_vl kg_33 hlv_.cv]; exact zlbc_bn), (fun h9 => by exfalso; have := bwh_31.1; have := bwh_31.2; have := br_38.1; have := br_38.2; have := bhs_2.1; have := bhs_2.2; have : (0 : Int32).toInt = 0 := (by decide); omega), by intro h9; exfalso; have := bwh_31.1; have := bwh_31.2; have := br_38.1; have := br_38.2; have := bhs_2.1; have := bhs_2.2; have : (0 : Int32).toInt = 0 := (by decide); omega⟩, trivial⟩, by rw [ht]; exact h.1, h.2.1, hfF_39⟩, h.2.2.F ht⟩) h.2.2.2.2 dX10_ran_114
            · by_cases c_42 : wh = 5
              · refine lv_tableIn (off := 101) (tgt := 115) hx hb dX10_ran_14 (by rw [c_42]; decide) (by rw [c_42]; decide) (by rw [c_42]; rfl) (by decide) ?_
                have bwh_42 : zB 5 5 wh := by rw [c_42]; exact zBc _ _ (by decide)
                refine lv_aload_n hx hb dX10_ran_115 rfl (lv_at hl 0 rfl) ?_
                refine lv_aload_n hx hb dX10_ran_116 rfl (lv_at hl 0 rfl) ?_
                refine zt_getk (t := 10) (C := RX10) (T := TX10) (N := 14) Z h hth zin_10 rfl 5 klm ⟨by decide, rfl, by decide⟩ (zm_RX10 (List.mem_of_getElem? (i := 46) rfl)) (fun _ h9 => h9) dX10_ran_117 ?_
                refine zt_geti (t := 5) (C := RX5) (T := TX5) (N := 19) Z h hlm zin_5 rfl 5 rfl ⟨by decide, rfl⟩ (zm_RX10 (List.mem_of_getElem? (i := 59) rfl)) (fun _ h9 => h9) dX10_ran_120 (fun x_44 kx_44 bx_44 => ?_)
                refine zk_Vi (As := [.int x_44]) (rest := []) (bytes := cX10_accept) (maxL := 2) (ret := (some .int)) Z h (zm_X10_accept l D k Γ L F s.heap.size th x_44 hth) (cwV 1 hg zv_RX10_76 rfl rfl rfl zd_X10_accept ⟨z_leR hRf (by decide), z_leR hRl (by decide)⟩) hth (by decide) rfl rfl hl.1 rfl (Nat.le_of_ble_eq_true rfl) dX10_ran_123 ⟨Nat.zero_le _, Nat.zero_le _⟩ (fun r_45 F_46 H locs w_47 h hfF_46 => ?_)
                obtain ⟨q_48, -⟩ := w_47
                have br_45 := zB.all r_45
                subst hQ
                exact W.iret (v := r_45) hx hb hr (fun t ht hW => ⟨⟨r_45, F_46, rfl, ⟨⟨(fun h9 => by exfalso; have := bwh_42.1; have := bwh_42.2; have := br_45.1; have := br_45.2; have := bhs_2.1; have := bhs_2.2; have := bx_44.1; have := bx_44.2; have : (0 : Int32).toInt = 0 := (by decide); omega), (fun h9 => by exfalso; have := bwh_42.1; have := bwh_42.2; have := br_45.1; have := br_45.2; have := bhs_2.1; have := bhs_2.2; have := bx_44.1; have := bx_44.2; have : (0 : Int32).toInt = 0 := (by decide); omega), (fun h9 => by exfalso; have := bwh_42.1; have := bwh_42.2; have := br_45.1; have := br_45.2; have := bhs_2.1; have := bhs_2.2; have := bx_44.1; have := bx_44.2; have : (0 : Int32).toInt = 0 := (by decide); omega), (fun h9 => by exfalso; have := bwh_42.1; have := bwh_42.2; have := br_45.1; have := br_45.2; have := bhs_2.1; have := bhs_2.2; have := bx_44.1; have := bx_44.2; have : (0 : Int32).toInt = 0 := (by decide); omega), (fun h9 => by exfalso; have := bwh_42.1; have := bwh_42.2; have := br_45.1; have := br_45.2; have := bhs_2.1; have := bhs_2.2; have := bx_44.1; have := bx_44.2; have : (0 : Int32).toInt = 0 := (by decide); omega), (fun _ => by rw [q_48]; exact zFi.is hlv_.mx kx_44), by intro h9; exfalso; have := bwh_42.1; have := bwh_42.2; have := br_45.1; have := br_45.2; have := bhs_2.1; have := bhs_2.2; have := bx_44.1; have := bx_44.2; have : (0 : Int32).toInt = 0 := (by decide); omega⟩, trivial⟩, by rw [ht]; exact h.1, h.2.1, hfF_46⟩, h.2.2.F ht⟩) h.2.2.2.2 dX10_ran_126
              · have nc_3 : wh.toInt ≠ 0 := z_nev c_3 (by decide)
                have nc_10 : wh.toInt ≠ 1 := z_nev c_10 (by decide)
                have nc_17 : wh.toInt ≠ 2 := z_nev c_17 (by decide)
                have nc_24 : wh.toInt ≠ 3 := z_nev c_24 (by decide)
                have nc_31 : wh.toInt ≠ 4 := z_nev c_31 (by decide)
                have nc_42 : wh.toInt ≠ 5 := z_nev c_42 (by decide)
                refine lv_tableOut (tgt := 127) hx hb dX10_ran_14 (by have := (zB.all wh).1; have := (zB.all wh).2; omega) (by decide) ?_
                refine lv_aload_n hx hb dX10_ran_127 rfl (lv_at hl 0 rfl) ?_
                refine lv_iconst (v := 2) hx hb dX10_ran_128 (by decide) ?_
                refine zk_Vi (As := [.int 2]) (rest := []) (bytes := cX10_refuse) (maxL := 2) (ret := (some .int)) Z h (zc_X10_refuse l D k Γ L F s.heap.size th 2 hth) (cwV 1 hg zv_RX10_68 rfl rfl rfl zd_X10_refuse ⟨z_leR hRf (by decide), z_leR hRl (by decide)⟩) hth (by decide) rfl rfl hl.1 rfl (Nat.le_of_ble_eq_true rfl) dX10_ran_129 ⟨Nat.zero_le _, Nat.zero_le _⟩ (fun r_49 F_50 H locs w_51 h hfF_50 => ?_)
                obtain ⟨br_49, -⟩ := w_51
                subst hQ
                exact W.iret (v := r_49) hx hb hr (fun t ht hW => ⟨⟨r_49, F_50, rfl, ⟨⟨(fun h9 => by exfalso; have := (zB.all wh).1; have := (zB.all wh).2; have := br_49.1; have := br_49.2; have := bhs_2.1; have := bhs_2.2; have : (0 : Int32).toInt = 0 := (by decide); omega), (fun h9 => by exfalso; have := (zB.all wh).1; have := (zB.all wh).2; have := br_49.1; have := br_49.2; have := bhs_2.1; have := bhs_2.2; have : (0 : Int32).toInt = 0 := (by decide); omega), (fun h9 => by exfalso; have := (zB.all wh).1; have := (zB.all wh).2; have := br_49.1; have := br_49.2; have := bhs_2.1; have := bhs_2.2; have : (0 : Int32).toInt = 0 := (by decide); omega), (fun h9 => by exfalso; have := (zB.all wh).1; have := (zB.all wh).2; have := br_49.1; have := br_49.2; have := bhs_2.1; have := bhs_2.2; have : (0 : Int32).toInt = 0 := (by decide); omega), (fun h9 => by exfalso; have := (zB.all wh).1; have := (zB.all wh).2; have := br_49.1; have := br_49.2; have := bhs_2.1; have := bhs_2.2; have : (0 : Int32).toInt = 0 := (by decide); omega), (fun h9 => by exfalso; have := (zB.all wh).1; have := (zB.all wh).2; have := br_49.1; have := br_49.2; have := bhs_2.1; have := bhs_2.2; have : (0 : Int32).toInt = 0 := (by decide); omega), by intro h9; have := (zB.all wh).1; have := (zB.all wh).2; have := br_49.1; have := br_49.2; have := bhs_2.1; have := bhs_2.2; have : (0 : Int32).toInt = 0 := (by decide); omega⟩, trivial⟩, by rw [ht]; exact h.1, h.2.1, hfF_50⟩, h.2.2.F ht⟩) h.2.2.2.2 dX10_ran_132
  · have c_1 := z_eq c_1
    have bhs_52 : zB 0 0 hs := zB.eqL (a := 0) (b := 0) c_1 (zBc 0 0 (by decide))
    refine lv_aload_n hx hb dX10_ran_7 rfl (lv_at hl 0 rfl) ?_
    refine lv_iconst (v := 5) hx hb dX10_ran_8 (by decide) ?_
    refine zk_Vi (As := [.int 5]) (rest := []) (bytes := cX10_refuse) (maxL := 2) (ret := (some .int)) Z h (zc_X10_refuse l D k Γ L F s.heap.size th 5 hth) (cwV 1 hg zv_RX10_68 rfl rfl rfl zd_X10_refuse ⟨z_leR hRf (by decide), z_leR hRl (by decide)⟩) hth (by decide) rfl rfl hl.1 rfl (Nat.le_of_ble_eq_true rfl) dX10_ran_9 ⟨Nat.zero_le _, Nat.zero_le _⟩ (fun r_53 F_54 H locs w_55 h hfF_54 => ?_)
    obtain ⟨br_53, -⟩ := w_55
    subst hQ
    exact W.iret (v := r_53) hx hb hr (fun t ht hW => ⟨⟨r_53, F_54, rfl, ⟨⟨(fun h9 => by exfalso; have := (zB.all wh).1; have := (zB.all wh).2; have := br_53.1; have := br_53.2; have := bhs_52.1; have := bhs_52.2; have : (0 : Int32).toInt = 0 := (by decide); omega), (fun h9 => by exfalso; have := (zB.all wh).1; have := (zB.all wh).2; have := br_53.1; have := br_53.2; have := bhs_52.1; have := bhs_52.2; have : (0 : Int32).toInt = 0 := (by decide); omega), (fun h9 => by exfalso; have := (zB.all wh).1; have := (zB.all wh).2; have := br_53.1; have := br_53.2; have := bhs_52.1; have := bhs_52.2; have : (0 : Int32).toInt = 0 := (by decide); omega), (fun h9 => by exfalso; have := (zB.all wh).1; have := (zB.all wh).2; have := br_53.1; have := br_53.2; have := bhs_52.1; have := bhs_52.2; have : (0 : Int32).toInt = 0 := (by decide); omega), (fun h9 => by exfalso; have := (zB.all wh).1; have := (zB.all wh).2; have := br_53.1; have := br_53.2; have := bhs_52.1; have := bhs_52.2; have : (0 : Int32).toInt = 0 := (by decide); omega), (fun h9 => by exfalso; have := (zB.all wh).1; have := (zB.all wh).2; have := br_53.1; have := br_53.2; have := bhs_52.1; have := bhs_52.2; have : (0 : Int32).toInt = 0 := (by decide); omega), by intro h9; have := (zB.all wh).1; have := (zB.all wh).2; have := br_53.1; have := br_53.2; have := bhs_52.1; have := bhs_52.2; have : (0 : Int32).toInt = 0 := (by decide); omega⟩, trivial⟩, by rw [ht]; exact h.1, h.2.1, hfF_54⟩, h.2.2.F ht⟩) h.2.2.2.2 dX10_ran_12

set_option maxHeartbeats 4000000 in
set_option maxRecDepth 100000 in
theorem zm_X10_said (l : Launch) (hst : l.stackTraces = false) (D : va_G) (k : Nat → ClassId) (Γ : Nat → Option Nat) (L : List Nat) (F : Nat → va_E) (sz : Nat) (th : Nat) (i : Int32) (hs : Int32) (lm : Nat) (μ : zVm) (hth : Γ th = some 10) (khs : zfld F th 8 = .int hs) (bhs : zB 0 1 hs) (klm : zfld F th 5 = .ref lm) (hlm : Γ lm = some 5) (hr0 : (hs.toInt ≠ 0 → zVc F lm μ)) : vx_Met l yX10_said zwX10_said ({ frames := 8, cells := 1, slots := 6, locals := 200 }) (va_Pc [.ref th, .int i] (zP D k Γ L F sz)) (va_Qi (fun (r : Int32) (u : Nat → va_E) => F = u ∧ ((hs.toInt ≠ 0 ∧ 0 ≤ i.toInt ∧ i.toInt < (vsc μ : Int) ∧ i.toInt < 60) ∧ r = vsd μ i.toInt.toNat) ∧ True) (zQ D k Γ L F []) (zA L sz)) (vx_X (fun _ : Unit => True) (fun E _ t => E = "java/util/NoSuchElementException" ∧ va_P D z_Cl (va_pl L F) t.heap ∧ (hs.toInt = 0 ∨ i.toInt < 0 ∨ (vsc μ : Int) ≤ i.toInt ∨ 60 ≤ i.toInt)) (zA L sz)) 1 6 (zA L sz) := by
  refine vx_ofW (cc := cX10_said) (maxL := 2) (ret := (some .int)) (by decide) rfl ?_
  intro p e s m args below meth c s₁ B hml ht9 hv
  obtain ⟨rfl, hsz, hP, hK, hLn, hE, hI⟩ := hv
  have hx := B.exec
  have hb := B.bytes
  have hr := B.returns
  have hg : ∀ w ∈ zG, w.before _ s = true := fun w h9 => atoms_spec (ws := zwX10_said) B.pre w (List.mem_cons_of_mem _ h9)
  have hown : s.vm.findClass RX10 = some m.cls := findClass_of_methodNamed B.named
  have hlocks := B.notSynchronized
  subst hsz
  have Z : zC p m c cX10_said 2 s _ zG RX10 D k L := ⟨⟨hx, hb, hml, hown, hg⟩, hK, hLn, hE⟩
  have h : zH D k Γ L s F s.heap [] := ⟨hP, hI, va_S.rf⟩
  have hl := lv_entry ([.ref th, .int i]) (n := 2) (Nat.le_of_ble_eq_true rfl)
  rw [lg_entry_eq]
  generalize (lg_sl ([.ref th, .int i]) ++ List.replicate (2 - (lg_sl ([.ref th, .int i])).length) Slot.unset).toArray = ls at hl ⊢
  have hl : lv_has ls 2 [(0, .ref th), (1, .int i)] := hl
  clear hP hK hLn hE hI
  generalize hargs : ([.ref th, .int i] : List Value).toArray = args at *
  refine z_start2 (fun R Q hRf hRl hRc hRs hQ => ?_)
  have hRc : R.cells = 1 := hRc
  have hRs : R.slots = 6 := hRs
  have hRf : R.frames = 8 := hRf
  have hRl : R.locals = 200 := hRl
  have h9 := h
  refine lv_aload_n hx hb dX10_said_0 rfl (lv_at hl 0 rfl) ?_
  refine zt_getk (t := 10) (C := RX10) (T := TX10) (N := 14) Z h hth zin_10 rfl 8 khs ⟨by decide, rfl, by decide⟩ (zm_RX10 (List.mem_of_getElem? (i := 49) rfl)) (fun _ h9 => h9) dX10_said_1 ?_
  refine lv_if_eq (tgt := 18) hx hb dX10_said_4 (by decide) (fun c_1 => ?_) (fun c_1 => ?_)
  · have c_1 := z_eq c_1
    have bhs_2 : zB 0 0 hs := zB.eqL (a := 0) (b := 0) c_1 (zBc 0 0 (by decide))
    obtain ⟨sa_3, hsa_3⟩ := Z.2.2.2.1.2.2.2.2.2.1
    subst hQ
    exact z_throwS (text := "nothing such was said") hx hb hst hown (hg _ (zm_thr (List.mem_of_getElem? (i := 0) rfl))) (hg _ (zm_thr (List.mem_of_getElem? (i := 1) rfl))) hsa_3 (vx_hat (fun w9 h9 => hg w9 (zm_thr (List.mem_cons_of_mem _ (List.mem_cons_of_mem _ h9)))) z_B_in (Z.2.2.2.1.B)) (by decide +kernel) Z.2.2.2.2.2.1.1 Z.2.2.2.2.2.1.2 h.2.2 (hl.1.trans hml.symm) dX10_said_18 dX10_said_21 dX10_said_22 dX10_said_24 dX10_said_27 (fun x hx => (ht9 x hx).elim) (by omega) (z_leR hRl (Nat.le_of_ble_eq_true rfl)) (z_leR hRc (by decide)) (z_leR hRs (by decide)) hlocks (fun t _ h1 h2 => ⟨(), trivial, ⟨rfl, zP_kept h h2, (by have := (zB.all i).1; have := (zB.all i).2; have := bhs_2.1; have := bhs_2.2; have : (0 : Int32).toInt = 0 := (by decide); omega)⟩, ⟨Nat.le_trans h.2.2.1 h1, fun q hq hn => (h2 q (Nat.lt_of_lt_of_le hq h.2.2.1)).trans (h.2.2.2.1 q hq hn)⟩⟩) h.2.2.2.2 (Nat.le_of_ble_eq_true rfl) (Nat.le_of_ble_eq_true rfl)
  · have c_1 := z_ne c_1
    have bhs_4 : zB 1 1 hs := zB.neLo c_1 bhs (zBc 0 0 (by decide)) (by decide)
    have hlv_ := hr0 (by have := (zB.all i).1; have := (zB.all i).2; have := bhs_4.1; have := bhs_4.2; have : (0 : Int32).toInt = 0 := (by decide); omega)
    refine lv_aload_n hx hb dX10_said_7 rfl (lv_at hl 0 rfl) ?_
    refine zt_getk (t := 10) (C := RX10) (T := TX10) (N := 14) Z h hth zin_10 rfl 5 klm ⟨by decide, rfl, by decide⟩ (zm_RX10 (List.mem_of_getElem? (i := 46) rfl)) (fun _ h9 => h9) dX10_said_8 ?_
    refine lv_iload_n hx hb dX10_said_11 rfl (lv_at hl 1 rfl) ?_
    refine zk_Vi (As := [.int i]) (rest := []) (bytes := cX5_keepsSaid) (maxL := 2) (ret := (some .boolean)) Z h (zm_X5_keepsSaid l D k Γ L F s.heap.size lm i μ hlm hlv_) (cwV 1 hg zv_RX10_203 rfl rfl rfl zd_X5_keepsSaid ⟨z_leR hRf (by decide), z_leR hRl (by decide)⟩) hlm (by decide) rfl rfl hl.1 rfl (Nat.le_of_ble_eq_true rfl) dX10_said_12 ⟨Nat.zero_le _, Nat.zero_le _⟩ (fun r_5 F_6 H locs w_7 h hfF_6 => ?_)
    obtain ⟨rfl, br_5, q_8, q_9, -⟩ := w_7
    refine lv_if_ne (tgt := 28) hx hb dX10_said_15 (by decide) (fun c_10 => ?_) (fun c_10 => ?_)
    · have bi_11 : zB 0 59 i := q_8 c_10
      have c_10 := z_ne c_10
      have br_5_12 : zB 1 1 r_5 := zB.neLo c_10 br_5 (zBc 0 0 (by decide)) (by decide)
      refine lv_aload_n hx hb dX10_said_28 rfl (lv_at hl 0 rfl) ?_
      refine zt_getk (t := 10) (C := RX10) (T := TX10) (N := 14) Z h hth zin_10 rfl 5 klm ⟨by decide, rfl, by decide⟩ (zm_RX10 (List.mem_of_getElem? (i := 46) rfl)) (fun _ h9 => h9) dX10_said_29 ?_
      refine lv_iload_n hx hb dX10_said_32 rfl (lv_at hl 1 rfl) ?_
      refine zk_Vi (As := [.int i]) (rest := []) (bytes := cX5_saidAt) (maxL := 2) (ret := (some .int)) Z h (zm_X5_saidAt l D k Γ L F H.size lm i μ hlm hlv_) (cwV 1 hg zv_RX10_208 rfl rfl rfl zd_X5_saidAt ⟨z_leR hRf (by decide), z_leR hRl (by decide)⟩) hlm (by decide) rfl rfl hl.1 rfl (Nat.le_of_ble_eq_true rfl) dX10_said_33 ⟨Nat.zero_le _, Nat.zero_le _⟩ (fun r_13 F_14 H locs w_15 h hfF_14 => ?_)
      obtain ⟨rfl, q_16, -⟩ := w_15
      have br_13 := zB.all r_13
      subst hQ
      refine vx_ret ?_
      refine W.widen (k := 1) (n := 6) (Nat.le_of_ble_eq_true rfl) (Nat.le_of_ble_eq_true rfl) ?_
      exact W.iret (v := r_13) hx hb hr (fun t ht hW => ⟨⟨r_13, F, rfl, ⟨rfl, ⟨⟨by have := bi_11.1; have := bi_11.2; have := br_13.1; have := br_13.2; have := bhs_4.1; have := bhs_4.2; have : (0 : Int32).toInt = 0 := (by decide); omega, by have := bi_11.1; have := bi_11.2; have := br_13.1; have := br_13.2; have := bhs_4.1; have := bhs_4.2; have : (0 : Int32).toInt = 0 := (by decide); omega, by have := bi_11.1; have := bi_11.2; have := br_13.1; have := br_13.2; have := bhs_4.1; have := bhs_4.2; have : (0 : Int32).toInt = 0 := (by decide); omega, by have := bi_11.1; have := bi_11.2; have := br_13.1; have := br_13.2; have := bhs_4.1; have := bhs_4.2; have : (0 : Int32).toInt = 0 := (by decide); omega⟩, q_16 ⟨by have := bi_11.1; have := bi_11.2; have := br_13.1; have := br_13.2; have := bhs_4.1; have := bhs_4.2; have : (0 : Int32).toInt = 0 := (by decide); omega, by have := bi_11.1; have := bi_11.2; have := br_13.1; have := br_13.2; have := bhs_4.1; have := bhs_4.2; have : (0 : Int32).toInt = 0 := (by decide); omega, by have := bi_11.1; have := bi_11.2; have := br_13.1; have := br_13.2; have := bhs_4.1; have := bhs_4.2; have : (0 : Int32).toInt = 0 := (by decide); omega⟩⟩, trivial⟩, by rw [ht]; exact h.1, h.2.1, zFr.rf⟩, h.2.2.F ht⟩) h.2.2.2.2 dX10_said_36
    · have c_10 := z_eq c_10
      have br_5_17 : zB 0 0 r_5 := zB.eqL (a := 0) (b := 0) c_10 (zBc 0 0 (by decide))
      obtain ⟨sa_18, hsa_18⟩ := Z.2.2.2.1.2.2.2.2.2.1
      subst hQ
      exact z_throwS (text := "nothing such was said") hx hb hst hown (hg _ (zm_thr (List.mem_of_getElem? (i := 0) rfl))) (hg _ (zm_thr (List.mem_of_getElem? (i := 1) rfl))) hsa_18 (vx_hat (fun w9 h9 => hg w9 (zm_thr (List.mem_cons_of_mem _ (List.mem_cons_of_mem _ h9)))) z_B_in (Z.2.2.2.1.B)) (by decide +kernel) Z.2.2.2.2.2.1.1 Z.2.2.2.2.2.1.2 h.2.2 (hl.1.trans hml.symm) dX10_said_18 dX10_said_21 dX10_said_22 dX10_said_24 dX10_said_27 (fun x hx => (ht9 x hx).elim) (by omega) (z_leR hRl (Nat.le_of_ble_eq_true rfl)) (z_leR hRc (by decide)) (z_leR hRs (by decide)) hlocks (fun t _ h1 h2 => ⟨(), trivial, ⟨rfl, zP_kept h h2, (by have := (zB.all i).1; have := (zB.all i).2; have := bhs_4.1; have := bhs_4.2; have : (0 : Int32).toInt = 0 := (by decide); omega)⟩, ⟨Nat.le_trans h.2.2.1 h1, fun q hq hn => (h2 q (Nat.lt_of_lt_of_le hq h.2.2.1)).trans (h.2.2.2.1 q hq hn)⟩⟩) h.2.2.2.2 (Nat.le_of_ble_eq_true rfl) (Nat.le_of_ble_eq_true rfl)

set_option maxHeartbeats 4000000 in
set_option maxRecDepth 100000 in
theorem zm_X10_trace (l : Launch) (hst : l.stackTraces = false) (D : va_G) (k : Nat → ClassId) (Γ : Nat → Option Nat) (L : List Nat) (F : Nat → va_E) (sz : Nat) (th : Nat) (i : Int32) (wh : Int32) (hs : Int32) (lm : Nat) (μ : zVm) (hth : Γ th = some 10) (khs : zfld F th 8 = .int hs) (bhs : zB 0 1 hs) (klm : zfld F th 5 = .ref lm) (hlm : Γ lm = some 5) (hr0 : (hs.toInt ≠ 0 → zVc F lm μ)) : vx_Met l yX10_trace zwX10_trace ({ frames := 8, cells := 1, slots := 6, locals := 200 }) (va_Pc [.ref th, .int i, .int wh] (zP D k Γ L F sz)) (va_Qi (fun (r : Int32) (u : Nat → va_E) => F = u ∧ ((hs.toInt ≠ 0 ∧ (0 ≤ i.toInt ∧ i.toInt < (vtc μ : Int) ∧ i.toInt < 400) ∧ 0 ≤ wh.toInt ∧ wh.toInt ≤ 3) ∧ r = vtr μ (4 * i.toInt.toNat + wh.toInt.toNat)) ∧ True) (zQ D k Γ L F []) (zA L sz)) (vx_X (fun _ : Unit => True) (fun E _ t => E = "java/util/NoSuchElementException" ∧ va_P D z_Cl (va_pl L F) t.heap ∧ (hs.toInt = 0 ∨ i.toInt < 0 ∨ (vtc μ : Int) ≤ i.toInt ∨ 400 ≤ i.toInt ∨ wh.toInt < 0 ∨ 3 < wh.toInt)) (zA L sz)) 1 6 (zA L sz) := by
  refine vx_ofW (cc := cX10_trace) (maxL := 3) (ret := (some .int)) (by decide) rfl ?_
  intro p e s m args below meth c s₁ B hml ht9 hv
  obtain ⟨rfl, hsz, hP, hK, hLn, hE, hI⟩ := hv
  have hx := B.exec
  have hb := B.bytes
  have hr := B.returns
  have hg : ∀ w ∈ zG, w.before _ s = true := fun w h9 => atoms_spec (ws := zwX10_trace) B.pre w (List.mem_cons_of_mem _ h9)
  have hown : s.vm.findClass RX10 = some m.cls := findClass_of_methodNamed B.named
  have hlocks := B.notSynchronized
  subst hsz
  have Z : zC p m c cX10_trace 3 s _ zG RX10 D k L := ⟨⟨hx, hb, hml, hown, hg⟩, hK, hLn, hE⟩
  have h : zH D k Γ L s F s.heap [] := ⟨hP, hI, va_S.rf⟩
  have hl := lv_entry ([.ref th, .int i, .int wh]) (n := 3) (Nat.le_of_ble_eq_true rfl)
  rw [lg_entry_eq]
  generalize (lg_sl ([.ref th, .int i, .int wh]) ++ List.replicate (3 - (lg_sl ([.ref th, .int i, .int wh])).length) Slot.unset).toArray = ls at hl ⊢
  have hl : lv_has ls 3 [(0, .ref th), (1, .int i), (2, .int wh)] := hl
  clear hP hK hLn hE hI
  generalize hargs : ([.ref th, .int i, .int wh] : List Value).toArray = args at *
  refine z_start2 (fun R Q hRf hRl hRc hRs hQ => ?_)
  have hRc : R.cells = 1 := hRc
  have hRs : R.slots = 6 := hRs
  have hRf : R.frames = 8 := hRf
  have hRl : R.locals = 200 := hRl
  have h9 := h
  refine lv_aload_n hx hb dX10_trace_0 rfl (lv_at hl 0 rfl) ?_
  refine zt_getk (t := 10) (C := RX10) (T := TX10) (N := 14) Z h hth zin_10 rfl 8 khs ⟨by decide, rfl, by decide⟩ (zm_RX10 (List.mem_of_getElem? (i := 49) rfl)) (fun _ h9 => h9) dX10_trace_1 ?_
  refine lv_if_eq (tgt := 19) hx hb dX10_trace_4 (by decide) (fun c_1 => ?_) (fun c_1 => ?_)
  · have c_1 := z_eq c_1
    have bhs_2 : zB 0 0 hs := zB.eqL (a := 0) (b := 0) c_1 (zBc 0 0 (by decide))
    obtain ⟨sa_3, hsa_3⟩ := Z.2.2.2.1.2.2.2.2.2.2.1
    subst hQ
    exact z_throwS (text := "nothing such was traced") hx hb hst hown (hg _ (zm_thr (List.mem_of_getElem? (i := 0) rfl))) (hg _ (zm_thr (List.mem_of_getElem? (i := 1) rfl))) hsa_3 (vx_hat (fun w9 h9 => hg w9 (zm_thr (List.mem_cons_of_mem _ (List.mem_cons_of_mem _ h9)))) z_B_in (Z.2.2.2.1.B)) (by decide +kernel) Z.2.2.2.2.2.1.1 Z.2.2.2.2.2.1.2 h.2.2 (hl.1.trans hml.symm) dX10_trace_19 dX10_trace_22 dX10_trace_23 dX10_trace_25 dX10_trace_28 (fun x hx => (ht9 x hx).elim) (by omega) (z_leR hRl (Nat.le_of_ble_eq_true rfl)) (z_leR hRc (by decide)) (z_leR hRs (by decide)) hlocks (fun t _ h1 h2 => ⟨(), trivial, ⟨rfl, zP_kept h h2, (by have := (zB.all i).1; have := (zB.all i).2; have := (zB.all wh).1; have := (zB.all wh).2; have := bhs_2.1; have := bhs_2.2; have : (0 : Int32).toInt = 0 := (by decide); omega)⟩, ⟨Nat.le_trans h.2.2.1 h1, fun q hq hn => (h2 q (Nat.lt_of_lt_of_le hq h.2.2.1)).trans (h.2.2.2.1 q hq hn)⟩⟩) h.2.2.2.2 (Nat.le_of_ble_eq_true rfl) (Nat.le_of_ble_eq_true rfl)
  · have c_1 := z_ne c_1
    have bhs_4 : zB 1 1 hs := zB.neLo c_1 bhs (zBc 0 0 (by decide)) (by decide)
    have hlv_ := hr0 (by have := (zB.all i).1; have := (zB.all i).2; have := (zB.all wh).1; have := (zB.all wh).2; have := bhs_4.1; have := bhs_4.2; have : (0 : Int32).toInt = 0 := (by decide); omega)
    refine lv_aload_n hx hb dX10_trace_7 rfl (lv_at hl 0 rfl) ?_
    refine zt_getk (t := 10) (C := RX10) (T := TX10) (N := 14) Z h hth zin_10 rfl 5 klm ⟨by decide, rfl, by decide⟩ (zm_RX10 (List.mem_of_getElem? (i := 46) rfl)) (fun _ h9 => h9) dX10_trace_8 ?_
    refine lv_iload_n hx hb dX10_trace_11 rfl (lv_at hl 1 rfl) ?_
    refine lv_iload_n hx hb dX10_trace_12 rfl (lv_at hl 2 rfl) ?_
    refine zk_Vi (As := [.int i, .int wh]) (rest := []) (bytes := cX5_keepsTrace) (maxL := 3) (ret := (some .boolean)) Z h (zm_X5_keepsTrace l D k Γ L F s.heap.size lm i wh μ hlm hlv_) (cwV 2 hg zv_RX10_211 rfl rfl rfl zd_X5_keepsTrace ⟨z_leR hRf (by decide), z_leR hRl (by decide)⟩) hlm (by decide) rfl rfl hl.1 rfl (Nat.le_of_ble_eq_true rfl) dX10_trace_13 ⟨Nat.zero_le _, Nat.zero_le _⟩ (fun r_5 F_6 H locs w_7 h hfF_6 => ?_)
    obtain ⟨rfl, br_5, q_8, q_9, q_10, -⟩ := w_7
    refine lv_if_ne (tgt := 29) hx hb dX10_trace_16 (by decide) (fun c_11 => ?_) (fun c_11 => ?_)
    · have bi_12 : zB 0 399 i := q_8 c_11
      have bwh_13 : zB 0 3 wh := q_9 c_11
      have c_11 := z_ne c_11
      have br_5_14 : zB 1 1 r_5 := zB.neLo c_11 br_5 (zBc 0 0 (by decide)) (by decide)
      refine lv_aload_n hx hb dX10_trace_29 rfl (lv_at hl 0 rfl) ?_
      refine zt_getk (t := 10) (C := RX10) (T := TX10) (N := 14) Z h hth zin_10 rfl 5 klm ⟨by decide, rfl, by decide⟩ (zm_RX10 (List.mem_of_getElem? (i := 46) rfl)) (fun _ h9 => h9) dX10_trace_30 ?_
      refine lv_iload_n hx hb dX10_trace_33 rfl (lv_at hl 1 rfl) ?_
      refine lv_iload_n hx hb dX10_trace_34 rfl (lv_at hl 2 rfl) ?_
      refine zk_Vi (As := [.int i, .int wh]) (rest := []) (bytes := cX5_traceAt) (maxL := 3) (ret := (some .int)) Z h (zm_X5_traceAt l D k Γ L F H.size lm i wh μ hlm hlv_) (cwV 2 hg zv_RX10_217 rfl rfl rfl zd_X5_traceAt ⟨z_leR hRf (by decide), z_leR hRl (by decide)⟩) hlm (by decide) rfl rfl hl.1 rfl (Nat.le_of_ble_eq_true rfl) dX10_trace_35 ⟨Nat.zero_le _, Nat.zero_le _⟩ (fun r_15 F_16 H locs w_17 h hfF_16 => ?_)
      obtain ⟨rfl, q_18, -⟩ := w_17
      have br_15 := zB.all r_15
      subst hQ
      refine vx_ret ?_
      refine W.widen (k := 1) (n := 6) (Nat.le_of_ble_eq_true rfl) (Nat.le_of_ble_eq_true rfl) ?_
      exact W.iret (v := r_15) hx hb hr (fun t ht hW => ⟨⟨r_15, F, rfl, ⟨rfl, ⟨⟨by have := bi_12.1; have := bi_12.2; have := bwh_13.1; have := bwh_13.2; have := br_15.1; have := br_15.2; have := bhs_4.1; have := bhs_4.2; have : (0 : Int32).toInt = 0 := (by decide); omega, ⟨by have := bi_12.1; have := bi_12.2; have := bwh_13.1; have := bwh_13.2; have := br_15.1; have := br_15.2; have := bhs_4.1; have := bhs_4.2; have : (0 : Int32).toInt = 0 := (by decide); omega, by have := bi_12.1; have := bi_12.2; have := bwh_13.1; have := bwh_13.2; have := br_15.1; have := br_15.2; have := bhs_4.1; have := bhs_4.2; have : (0 : Int32).toInt = 0 := (by decide); omega, by have := bi_12.1; have := bi_12.2; have := bwh_13.1; have := bwh_13.2; have := br_15.1; have := br_15.2; have := bhs_4.1; have := bhs_4.2; have : (0 : Int32).toInt = 0 := (by decide); omega⟩, by have := bi_12.1; have := bi_12.2; have := bwh_13.1; have := bwh_13.2; have := br_15.1; have := br_15.2; have := bhs_4.1; have := bhs_4.2; have : (0 : Int32).toInt = 0 := (by decide); omega, by have := bi_12.1; have := bi_12.2; have := bwh_13.1; have := bwh_13.2; have := br_15.1; have := br_15.2; have := bhs_4.1; have := bhs_4.2; have : (0 : Int32).toInt = 0 := (by decide); omega⟩, q_18 ⟨⟨by have := bi_12.1; have := bi_12.2; have := bwh_13.1; have := bwh_13.2; have := br_15.1; have := br_15.2; have := bhs_4.1; have := bhs_4.2; have : (0 : Int32).toInt = 0 := (by decide); omega, by have := bi_12.1; have := bi_12.2; have := bwh_13.1; have := bwh_13.2; have := br_15.1; have := br_15.2; have := bhs_4.1; have := bhs_4.2; have : (0 : Int32).toInt = 0 := (by decide); omega, by have := bi_12.1; have := bi_12.2; have := bwh_13.1; have := bwh_13.2; have := br_15.1; have := br_15.2; have := bhs_4.1; have := bhs_4.2; have : (0 : Int32).toInt = 0 := (by decide); omega⟩, by have := bi_12.1; have := bi_12.2; have := bwh_13.1; have := bwh_13.2; have := br_15.1; have := br_15.2; have := bhs_4.1; have := bhs_4.2; have : (0 : Int32).toInt = 0 := (by decide); omega, by have := bi_12.1; have := bi_12.2; have := bwh_13.1; have := bwh_13.2; have := br_15.1; have := br_15.2; have := bhs_4.1; have := bhs_4.2; have : (0 : Int32).toInt = 0 := (by decide); omega⟩⟩, trivial⟩, by rw [ht]; exact h.1, h.2.1, zFr.rf⟩, h.2.2.F ht⟩) h.2.2.2.2 dX10_trace_38
    · have c_11 := z_eq c_11
      have br_5_19 : zB 0 0 r_5 := zB.eqL (a := 0) (b := 0) c_11 (zBc 0 0 (by decide))
      obtain ⟨sa_20, hsa_20⟩ := Z.2.2.2.1.2.2.2.2.2.2.1
      subst hQ
      exact z_throwS (text := "nothing such was traced") hx hb hst hown (hg _ (zm_thr (List.mem_of_getElem? (i := 0) rfl))) (hg _ (zm_thr (List.mem_of_getElem? (i := 1) rfl))) hsa_20 (vx_hat (fun w9 h9 => hg w9 (zm_thr (List.mem_cons_of_mem _ (List.mem_cons_of_mem _ h9)))) z_B_in (Z.2.2.2.1.B)) (by decide +kernel) Z.2.2.2.2.2.1.1 Z.2.2.2.2.2.1.2 h.2.2 (hl.1.trans hml.symm) dX10_trace_19 dX10_trace_22 dX10_trace_23 dX10_trace_25 dX10_trace_28 (fun x hx => (ht9 x hx).elim) (by omega) (z_leR hRl (Nat.le_of_ble_eq_true rfl)) (z_leR hRc (by decide)) (z_leR hRs (by decide)) hlocks (fun t _ h1 h2 => ⟨(), trivial, ⟨rfl, zP_kept h h2, (by have := (zB.all i).1; have := (zB.all i).2; have := (zB.all wh).1; have := (zB.all wh).2; have := bhs_4.1; have := bhs_4.2; have : (0 : Int32).toInt = 0 := (by decide); omega)⟩, ⟨Nat.le_trans h.2.2.1 h1, fun q hq hn => (h2 q (Nat.lt_of_lt_of_le hq h.2.2.1)).trans (h.2.2.2.1 q hq hn)⟩⟩) h.2.2.2.2 (Nat.le_of_ble_eq_true rfl) (Nat.le_of_ble_eq_true rfl)

set_option maxHeartbeats 4000000 in
set_option maxRecDepth 100000 in
theorem zm_X10_covered (l : Launch) (D : va_G) (k : Nat → ClassId) (Γ : Nat → Option Nat) (L : List Nat) (F : Nat → va_E) (sz : Nat) (th : Nat) (li : Int32) (hs : Int32) (lm : Nat) (μ : zVm) (pn : Nat) (lc : Int32) (hth : Γ th = some 10) (khs : zfld F th 8 = .int hs) (bhs : zB 0 1 hs) (klm : zfld F th 5 = .ref lm) (hlm : Γ lm = some 5) (hr0 : (hs.toInt ≠ 0 → zVc F lm μ)) (kpn : zfld F th 2 = .ref pn) (hpn : Γ pn = some 6) (klc : zfld F pn 5 = .int lc) (blc : zB 0 60 lc) : Met l yX10_covered zwX10_covered ({ frames := 1, cells := 0, slots := 0, locals := 21 }) (va_Pc [.ref th, .int li] (zP D k Γ L F sz)) (va_Qi (fun (r : Int32) (u : Nat → va_E) => F = u ∧ ((hs.toInt ≠ 0 ∧ 0 ≤ li.toInt ∧ li.toInt < lc.toInt → r = zcvb (zln9 (vcv μ)) li.toInt.toNat) ∧ (hs.toInt = 0 ∨ li.toInt < 0 ∨ lc.toInt ≤ li.toInt → r.toInt = -1)) ∧ True) (zQ D k Γ L F []) (zA L sz)) 0 0 (zA L sz) := by
  refine Met.ofW (cc := cX10_covered) (maxL := 2) (ret := (some .int)) (by decide) rfl ?_
  intro p e s m args below meth c s₁ B hml hv
  obtain ⟨rfl, hsz, hP, hK, hLn, hE, hI⟩ := hv
  have hx := B.exec
  have hb := B.bytes
  have hr := B.returns
  have hg : ∀ w ∈ zG, w.before _ s = true := fun w h9 => atoms_spec (ws := zwX10_covered) B.pre w (List.mem_cons_of_mem _ h9)
  have hown : s.vm.findClass RX10 = some m.cls := findClass_of_methodNamed B.named
  have hlocks := B.notSynchronized
  subst hsz
  have Z : zC p m c cX10_covered 2 s _ zG RX10 D k L := ⟨⟨hx, hb, hml, hown, hg⟩, hK, hLn, hE⟩
  have h : zH D k Γ L s F s.heap [] := ⟨hP, hI, va_S.rf⟩
  have hl := lv_entry ([.ref th, .int li]) (n := 2) (Nat.le_of_ble_eq_true rfl)
  rw [lg_entry_eq]
  generalize (lg_sl ([.ref th, .int li]) ++ List.replicate (2 - (lg_sl ([.ref th, .int li])).length) Slot.unset).toArray = ls at hl ⊢
  have hl : lv_has ls 2 [(0, .ref th), (1, .int li)] := hl
  clear hP hK hLn hE hI
  generalize hargs : ([.ref th, .int li] : List Value).toArray = args at *
  refine z_start (fun R Q hRf hRl hQ => ?_)
  have hRf : R.frames = 1 := hRf
  have hRl : R.locals = 21 := hRl
  have h9 := h
  refine lv_aload_n hx hb dX10_covered_0 rfl (lv_at hl 0 rfl) ?_
  refine zt_getk (t := 10) (C := RX10) (T := TX10) (N := 14) Z h hth zin_10 rfl 8 khs ⟨by decide, rfl, by decide⟩ (zm_RX10 (List.mem_of_getElem? (i := 49) rfl)) (fun _ h9 => h9) dX10_covered_1 ?_
  refine lv_if_eq (tgt := 18) hx hb dX10_covered_4 (by decide) (fun c_1 => ?_) (fun c_1 => ?_)
  · have c_1 := z_eq c_1
    have bhs_2 : zB 0 0 hs := zB.eqL (a := 0) (b := 0) c_1 (zBc 0 0 (by decide))
    refine lv_iconst (v := (-1)) hx hb dX10_covered_18 (by decide) ?_
    subst hQ
    exact W.iret (v := (-1)) hx hb hr (fun t ht hW => ⟨⟨(-1), F, rfl, ⟨rfl, ⟨fun h9 => by exfalso; have := (zB.all li).1; have := (zB.all li).2; have := bhs_2.1; have := bhs_2.2; have := blc.1; have := blc.2; have : ((-1) : Int32).toInt = (-1) := (by decide); have : (0 : Int32).toInt = 0 := (by decide); omega, fun _ => by have := (zB.all li).1; have := (zB.all li).2; have := bhs_2.1; have := bhs_2.2; have := blc.1; have := blc.2; have : ((-1) : Int32).toInt = (-1) := (by decide); have : (0 : Int32).toInt = 0 := (by decide); omega⟩, trivial⟩, by rw [ht]; exact h.1, h.2.1, zFr.rf⟩, h.2.2.F ht⟩) h.2.2.2.2 dX10_covered_19
  · have c_1 := z_ne c_1
    have bhs_3 : zB 1 1 hs := zB.neLo c_1 bhs (zBc 0 0 (by decide)) (by decide)
    refine lv_aload_n hx hb dX10_covered_7 rfl (lv_at hl 0 rfl) ?_
    refine zt_getk (t := 10) (C := RX10) (T := TX10) (N := 14) Z h hth zin_10 rfl 2 kpn ⟨by decide, rfl, by decide⟩ (zm_RX10 (List.mem_of_getElem? (i := 21) rfl)) (fun _ h9 => h9) dX10_covered_8 ?_
    refine lv_iload_n hx hb dX10_covered_11 rfl (lv_at hl 1 rfl) ?_
    refine zk_Vi (As := [.int li]) (rest := []) (bytes := cX6_hasLine) (maxL := 2) (ret := (some .boolean)) Z h (ze_X6_hasLine l D k Γ L F s.heap.size pn li lc hpn klc blc) (cwV 1 hg zv_RX10_142 rfl rfl rfl zd_X6_hasLine ⟨z_leR hRf (by decide), z_leR hRl (by decide)⟩) hpn (by decide) rfl rfl hl.1 rfl (Nat.le_of_ble_eq_true rfl) dX10_covered_12 ⟨Nat.zero_le _, Nat.zero_le _⟩ (fun r_4 F_5 H locs w_6 h hfF_5 => ?_)
    obtain ⟨rfl, br_4, q_7, q_8, q_9, -⟩ := w_6
    refine lv_if_ne (tgt := 20) hx hb dX10_covered_15 (by decide) (fun c_10 => ?_) (fun c_10 => ?_)
    · have bli_11 : zB 0 59 li := q_7 c_10
      have q_12 := q_8 c_10
      have c_10 := z_ne c_10
      have br_4_13 : zB 1 1 r_4 := zB.neLo c_10 br_4 (zBc 0 0 (by decide)) (by decide)
      have hlv_ := hr0 (by have := bli_11.1; have := bli_11.2; have := bhs_3.1; have := bhs_3.2; have := blc.1; have := blc.2; have : (0 : Int32).toInt = 0 := (by decide); omega)
      refine lv_aload_n hx hb dX10_covered_20 rfl (lv_at hl 0 rfl) ?_
      refine zt_getk (t := 10) (C := RX10) (T := TX10) (N := 14) Z h hth zin_10 rfl 5 klm ⟨by decide, rfl, by decide⟩ (zm_RX10 (List.mem_of_getElem? (i := 46) rfl)) (fun _ h9 => h9) dX10_covered_21 ?_
      refine zt_getl (t := 5) (C := RX5) (T := TX5) (N := 19) Z h hlm zin_5 rfl 6 rfl ⟨by decide, rfl⟩ (zm_RX10 (List.mem_of_getElem? (i := 56) rfl)) (fun _ h9 => h9) dX10_covered_24 (fun g_14 kg_14 => ?_)
      refine lv_iload_n hx hb dX10_covered_27 rfl (lv_at hl 1 rfl) ?_
      refine lv_lshr hx hb dX10_covered_28 rfl ?_
      refine lv_topl (fun g_15 eg_15 => ?_)
      refine lv_lconst (v := 1) hx hb dX10_covered_29 (by decide) ?_
      refine lv_land hx hb dX10_covered_30 ?_
      refine lv_topl (fun g_16 eg_16 => ?_)
      refine lv_lconst (v := 0) hx hb dX10_covered_31 (by decide) ?_
      refine W.lcmp hx hb dX10_covered_32 ?_
      refine zi_any (fun x_17 bx_17 ex_17 => ?_)
      refine lv_if_eq (tgt := 40) hx hb dX10_covered_33 (by decide) (fun c_18 => ?_) (fun c_18 => ?_)
      · have c_18 := z_eq c_18
        have bx_17_19 : zB 0 0 x_17 := zB.eqL (a := 0) (b := 0) c_18 (zBc 0 0 (by decide))
        refine lv_iconst (v := 0) hx hb dX10_covered_40 (by decide) ?_
        subst hQ
        exact W.iret (v := 0) hx hb hr (fun t ht hW => ⟨⟨0, F, rfl, ⟨rfl, ⟨fun h9 => by have hg : g_16 = if (zln9 (vcv μ)).testBit li.toInt.toNat then 1 else 0 := (by rw [eg_16, eg_15, show g_14 = vcv μ from z_vl kg_14 hlv_.cv]; have h6 := zbt2 (vcv μ) (l := li.toInt.toNat) (by have := bli_11.1; have := bli_11.2; have := bhs_3.1; have := bhs_3.2; have := blc.1; have := blc.2; have : (0 : Int32).toInt = 0 := (by decide); omega); rw [zv_ofNat (by have := bli_11.1; have := bli_11.2; have := bhs_3.1; have := bhs_3.2; have := blc.1; have := blc.2; have : (0 : Int32).toInt = 0 := (by decide); omega)] at h6; exact h6); unfold zcvb; rcases z_lcmp ex_17 with ⟨h8, h7⟩ | ⟨h8, h7⟩; { by_cases h5 : (zln9 (vcv μ)).testBit li.toInt.toNat = true; { rw [hg, if_pos h5] at h7; exact absurd h7 (by decide) }; { rw [if_neg h5]; first | done | decide } }; { exfalso; have := bli_11.1; have := bli_11.2; have := bx_17_19.1; have := bx_17_19.2; have := bhs_3.1; have := bhs_3.2; have := blc.1; have := blc.2; have : (0 : Int32).toInt = 0 := (by decide); omega }, fun h9 => by exfalso; have := bli_11.1; have := bli_11.2; have := bhs_3.1; have := bhs_3.2; have := blc.1; have := blc.2; have : (0 : Int32).toInt = 0 := (by decide); omega⟩, trivial⟩, by rw [ht]; exact h.1, h.2.1, zFr.rf⟩, h.2.2.F ht⟩) h.2.2.2.2 dX10_covered_41
      · have c_18 := z_ne c_18
        refine lv_iconst (v := 1) hx hb dX10_covered_36 (by decide) ?_
        refine lv_goto (tgt := 41) hx hb dX10_covered_37 (by decide) ?_
        subst hQ
        exact W.iret (v := 1) hx hb hr (fun t ht hW => ⟨⟨1, F, rfl, ⟨rfl, ⟨fun h9 => by have hg : g_16 = if (zln9 (vcv μ)).testBit li.toInt.toNat then 1 else 0 := (by rw [eg_16, eg_15, show g_14 = vcv μ from z_vl kg_14 hlv_.cv]; have h6 := zbt2 (vcv μ) (l := li.toInt.toNat) (by have := bli_11.1; have := bli_11.2; have := bhs_3.1; have := bhs_3.2; have := blc.1; have := blc.2; have : (0 : Int32).toInt = 0 := (by decide); have : (1 : Int32).toInt = 1 := (by decide); omega); rw [zv_ofNat (by have := bli_11.1; have := bli_11.2; have := bhs_3.1; have := bhs_3.2; have := blc.1; have := blc.2; have : (0 : Int32).toInt = 0 := (by decide); have : (1 : Int32).toInt = 1 := (by decide); omega)] at h6; exact h6); unfold zcvb; rcases z_lcmp ex_17 with ⟨h8, h7⟩ | ⟨h8, h7⟩; { exfalso; have := bli_11.1; have := bli_11.2; have := bx_17.1; have := bx_17.2; have := bhs_3.1; have := bhs_3.2; have := blc.1; have := blc.2; have : (0 : Int32).toInt = 0 := (by decide); have : (1 : Int32).toInt = 1 := (by decide); omega }; { by_cases h5 : (zln9 (vcv μ)).testBit li.toInt.toNat = true; { rw [if_pos h5]; first | done | decide }; { exact absurd (by rw [hg, if_neg h5]) h7 } }, fun h9 => by exfalso; have := bli_11.1; have := bli_11.2; have := bhs_3.1; have := bhs_3.2; have := blc.1; have := blc.2; have : (0 : Int32).toInt = 0 := (by decide); have : (1 : Int32).toInt = 1 := (by decide); omega⟩, trivial⟩, by rw [ht]; exact h.1, h.2.1, zFr.rf⟩, h.2.2.F ht⟩) h.2.2.2.2 dX10_covered_41
    · have q_20 := q_9 c_10
      have c_10 := z_eq c_10
      have br_4_21 : zB 0 0 r_4 := zB.eqL (a := 0) (b := 0) c_10 (zBc 0 0 (by decide))
      refine lv_iconst (v := (-1)) hx hb dX10_covered_18 (by decide) ?_
      subst hQ
      exact W.iret (v := (-1)) hx hb hr (fun t ht hW => ⟨⟨(-1), F, rfl, ⟨rfl, ⟨fun h9 => by exfalso; have := (zB.all li).1; have := (zB.all li).2; have := bhs_3.1; have := bhs_3.2; have := blc.1; have := blc.2; have : ((-1) : Int32).toInt = (-1) := (by decide); have : (0 : Int32).toInt = 0 := (by decide); omega, fun _ => by have := (zB.all li).1; have := (zB.all li).2; have := bhs_3.1; have := bhs_3.2; have := blc.1; have := blc.2; have : ((-1) : Int32).toInt = (-1) := (by decide); have : (0 : Int32).toInt = 0 := (by decide); omega⟩, trivial⟩, by rw [ht]; exact h.1, h.2.1, zFr.rf⟩, h.2.2.F ht⟩) h.2.2.2.2 dX10_covered_19

set_option maxHeartbeats 4000000 in
set_option maxRecDepth 100000 in
theorem zm_X10_place (l : Launch) (D : va_G) (k : Nat → ClassId) (Γ : Nat → Option Nat) (L : List Nat) (F : Nat → va_E) (sz : Nat) (th : Nat) (q : Int32) (hs : Int32) (lm : Nat) (μ : zVm) (hth : Γ th = some 10) (khs : zfld F th 8 = .int hs) (bhs : zB 0 1 hs) (klm : zfld F th 5 = .ref lm) (hlm : Γ lm = some 5) (hr0 : (hs.toInt ≠ 0 → zVc F lm μ)) : Met l yX10_place zwX10_place ({ frames := 1, cells := 0, slots := 0, locals := 21 }) (va_Pc [.ref th, .int q] (zP D k Γ L F sz)) (va_Qi (fun (r : Int32) (u : Nat → va_E) => ((hs.toInt ≠ 0 ∧ 0 ≤ q.toInt ∧ q.toInt < 8 → r = vpl μ q.toInt.toNat) ∧ (hs.toInt = 0 ∨ q.toInt < 0 ∨ 8 ≤ q.toInt → r.toInt = -1)) ∧ True) (zQ D k Γ L F [1013]) (zA L sz)) 0 0 (zA L sz) := by
  refine Met.ofW (cc := cX10_place) (maxL := 2) (ret := (some .int)) (by decide) rfl ?_
  intro p e s m args below meth c s₁ B hml hv
  obtain ⟨rfl, hsz, hP, hK, hLn, hE, hI⟩ := hv
  have hx := B.exec
  have hb := B.bytes
  have hr := B.returns
  have hg : ∀ w ∈ zG, w.before _ s = true := fun w h9 => atoms_spec (ws := zwX10_place) B.pre w (List.mem_cons_of_mem _ h9)
  have hown : s.vm.findClass RX10 = some m.cls := findClass_of_methodNamed B.named
  have hlocks := B.notSynchronized
  subst hsz
  have Z : zC p m c cX10_place 2 s _ zG RX10 D k L := ⟨⟨hx, hb, hml, hown, hg⟩, hK, hLn, hE⟩
  have h : zH D k Γ L s F s.heap [] := ⟨hP, hI, va_S.rf⟩
  have hl := lv_entry ([.ref th, .int q]) (n := 2) (Nat.le_of_ble_eq_true rfl)
  rw [lg_entry_eq]
  generalize (lg_sl ([.ref th, .int q]) ++ List.replicate (2 - (lg_sl ([.ref th, .int q])).length) Slot.unset).toArray = ls at hl ⊢
  have hl : lv_has ls 2 [(0, .ref th), (1, .int q)] := hl
  clear hP hK hLn hE hI
  generalize hargs : ([.ref th, .int q] : List Value).toArray = args at *
  refine z_start (fun R Q hRf hRl hQ => ?_)
  have hRf : R.frames = 1 := hRf
  have hRl : R.locals = 21 := hRl
  have h9 := h
  refine lv_aload_n hx hb dX10_place_0 rfl (lv_at hl 0 rfl) ?_
  refine zt_getk (t := 10) (C := RX10) (T := TX10) (N := 14) Z h hth zin_10 rfl 8 khs ⟨by decide, rfl, by decide⟩ (zm_RX10 (List.mem_of_getElem? (i := 49) rfl)) (fun _ h9 => h9) dX10_place_1 ?_
  refine lv_if_ne (tgt := 13) hx hb dX10_place_4 (by decide) (fun c_1 => ?_) (fun c_1 => ?_)
  · have c_1 := z_ne c_1
    have bhs_2 : zB 1 1 hs := zB.neLo c_1 bhs (zBc 0 0 (by decide)) (by decide)
    have hlv_ := hr0 (by have := (zB.all q).1; have := (zB.all q).2; have := bhs_2.1; have := bhs_2.2; have : (0 : Int32).toInt = 0 := (by decide); omega)
    refine lv_iload_n hx hb dX10_place_13 rfl (lv_at hl 1 rfl) ?_
    refine lv_if_lt (tgt := 23) hx hb dX10_place_14 (by decide) (fun c_3 => ?_) (fun c_3 => ?_)
    · have c_3 := z_lt c_3
      have bq_4 : zB (-2147483648) (-1) q := zB.ltL c_3 (zB.all q) (zBc 0 0 (by decide)) (by decide)
      refine lv_aload_n hx hb dX10_place_23 rfl (lv_at hl 0 rfl) ?_
      refine lv_iconst (v := 2) hx hb dX10_place_24 (by decide) ?_
      refine zk_Vi (As := [.int 2]) (rest := []) (bytes := cX10_refuse) (maxL := 2) (ret := (some .int)) Z h (zc_X10_refuse l D k Γ L F s.heap.size th 2 hth) (cwV 1 hg zv_RX10_68 rfl rfl rfl zd_X10_refuse ⟨z_leR hRf (by decide), z_leR hRl (by decide)⟩) hth (by decide) rfl rfl hl.1 rfl (Nat.le_of_ble_eq_true rfl) dX10_place_25 ⟨Nat.zero_le _, Nat.zero_le _⟩ (fun r_5 F_6 H locs w_7 h hfF_6 => ?_)
      obtain ⟨br_5, -⟩ := w_7
      subst hQ
      exact W.iret (v := r_5) hx hb hr (fun t ht hW => ⟨⟨r_5, F_6, rfl, ⟨⟨fun h9 => by exfalso; have := bq_4.1; have := bq_4.2; have := br_5.1; have := br_5.2; have := bhs_2.1; have := bhs_2.2; have : (0 : Int32).toInt = 0 := (by decide); omega, fun _ => by have := bq_4.1; have := bq_4.2; have := br_5.1; have := br_5.2; have := bhs_2.1; have := bhs_2.2; have : (0 : Int32).toInt = 0 := (by decide); omega⟩, trivial⟩, by rw [ht]; exact h.1, h.2.1, hfF_6⟩, h.2.2.F ht⟩) h.2.2.2.2 dX10_place_28
    · have c_3 := z_nlt c_3
      have bq_8 : zB 0 2147483647 q := zB.leR c_3 (zBc 0 0 (by decide)) (zB.all q) (by decide)
      refine lv_iload_n hx hb dX10_place_17 rfl (lv_at hl 1 rfl) ?_
      refine lv_bipush (v := 8) hx hb dX10_place_18 (by decide) ?_
      refine lv_icmp_lt (tgt := 29) hx hb dX10_place_20 (by decide) (fun c_9 => ?_) (fun c_9 => ?_)
      · have c_9 := z_lt c_9
        have bq_10 : zB 0 7 q := zB.ltL c_9 bq_8 (zBc 8 8 (by decide)) (by decide)
        refine lv_aload_n hx hb dX10_place_29 rfl (lv_at hl 0 rfl) ?_
        refine lv_aload_n hx hb dX10_place_30 rfl (lv_at hl 0 rfl) ?_
        refine zt_getk (t := 10) (C := RX10) (T := TX10) (N := 14) Z h hth zin_10 rfl 5 klm ⟨by decide, rfl, by decide⟩ (zm_RX10 (List.mem_of_getElem? (i := 46) rfl)) (fun _ h9 => h9) dX10_place_31 ?_
        refine lv_iload_n hx hb dX10_place_34 rfl (lv_at hl 1 rfl) ?_
        refine zk_Vi (As := [.int q]) (rest := [.ref th]) (bytes := cX5_firstCallsPlace) (maxL := 2) (ret := (some .int)) Z h (zm_X5_firstCallsPlace l D k Γ L F s.heap.size lm q μ hlm hlv_) (cwV 1 hg zv_RX10_220 rfl rfl rfl zd_X5_firstCallsPlace ⟨z_leR hRf (by decide), z_leR hRl (by decide)⟩) hlm (by decide) rfl rfl hl.1 rfl (Nat.le_of_ble_eq_true rfl) dX10_place_35 ⟨Nat.zero_le _, Nat.zero_le _⟩ (fun r_11 F_12 H locs w_13 h hfF_12 => ?_)
        obtain ⟨rfl, q_14, -⟩ := w_13
        have br_11 := zB.all r_11
        refine zk_Vi (As := [.int r_11]) (rest := []) (bytes := cX10_accept) (maxL := 2) (ret := (some .int)) Z h (zm_X10_accept l D k Γ L F H.size th r_11 hth) (cwV 1 hg zv_RX10_76 rfl rfl rfl zd_X10_accept ⟨z_leR hRf (by decide), z_leR hRl (by decide)⟩) hth (by decide) rfl rfl hl.1 rfl (Nat.le_of_ble_eq_true rfl) dX10_place_38 ⟨Nat.zero_le _, Nat.zero_le _⟩ (fun r_15 F_16 H locs w_17 h hfF_16 => ?_)
        obtain ⟨q_18, -⟩ := w_17
        have br_15 := zB.all r_15
        subst hQ
        exact W.iret (v := r_15) hx hb hr (fun t ht hW => ⟨⟨r_15, F_16, rfl, ⟨⟨fun h9 => by rw [q_18]; exact q_14 ⟨h9.2.1, h9.2.2⟩, fun h9 => by exfalso; have := bq_10.1; have := bq_10.2; have := br_15.1; have := br_15.2; have := bhs_2.1; have := bhs_2.2; have : (0 : Int32).toInt = 0 := (by decide); have : (8 : Int32).toInt = 8 := (by decide); omega⟩, trivial⟩, by rw [ht]; exact h.1, h.2.1, hfF_16⟩, h.2.2.F ht⟩) h.2.2.2.2 dX10_place_41
      · have c_9 := z_nlt c_9
        have bq_19 : zB 8 2147483647 q := zB.leR c_9 (zBc 8 8 (by decide)) bq_8 (by decide)
        refine lv_aload_n hx hb dX10_place_23 rfl (lv_at hl 0 rfl) ?_
        refine lv_iconst (v := 2) hx hb dX10_place_24 (by decide) ?_
        refine zk_Vi (As := [.int 2]) (rest := []) (bytes := cX10_refuse) (maxL := 2) (ret := (some .int)) Z h (zc_X10_refuse l D k Γ L F s.heap.size th 2 hth) (cwV 1 hg zv_RX10_68 rfl rfl rfl zd_X10_refuse ⟨z_leR hRf (by decide), z_leR hRl (by decide)⟩) hth (by decide) rfl rfl hl.1 rfl (Nat.le_of_ble_eq_true rfl) dX10_place_25 ⟨Nat.zero_le _, Nat.zero_le _⟩ (fun r_20 F_21 H locs w_22 h hfF_21 => ?_)
        obtain ⟨br_20, -⟩ := w_22
        subst hQ
        exact W.iret (v := r_20) hx hb hr (fun t ht hW => ⟨⟨r_20, F_21, rfl, ⟨⟨fun h9 => by exfalso; have := bq_19.1; have := bq_19.2; have := br_20.1; have := br_20.2; have := bhs_2.1; have := bhs_2.2; have : (0 : Int32).toInt = 0 := (by decide); have : (8 : Int32).toInt = 8 := (by decide); omega, fun _ => by have := bq_19.1; have := bq_19.2; have := br_20.1; have := br_20.2; have := bhs_2.1; have := bhs_2.2; have : (0 : Int32).toInt = 0 := (by decide); have : (8 : Int32).toInt = 8 := (by decide); omega⟩, trivial⟩, by rw [ht]; exact h.1, h.2.1, hfF_21⟩, h.2.2.F ht⟩) h.2.2.2.2 dX10_place_28
  · have c_1 := z_eq c_1
    have bhs_23 : zB 0 0 hs := zB.eqL (a := 0) (b := 0) c_1 (zBc 0 0 (by decide))
    refine lv_aload_n hx hb dX10_place_7 rfl (lv_at hl 0 rfl) ?_
    refine lv_iconst (v := 5) hx hb dX10_place_8 (by decide) ?_
    refine zk_Vi (As := [.int 5]) (rest := []) (bytes := cX10_refuse) (maxL := 2) (ret := (some .int)) Z h (zc_X10_refuse l D k Γ L F s.heap.size th 5 hth) (cwV 1 hg zv_RX10_68 rfl rfl rfl zd_X10_refuse ⟨z_leR hRf (by decide), z_leR hRl (by decide)⟩) hth (by decide) rfl rfl hl.1 rfl (Nat.le_of_ble_eq_true rfl) dX10_place_9 ⟨Nat.zero_le _, Nat.zero_le _⟩ (fun r_24 F_25 H locs w_26 h hfF_25 => ?_)
    obtain ⟨br_24, -⟩ := w_26
    subst hQ
    exact W.iret (v := r_24) hx hb hr (fun t ht hW => ⟨⟨r_24, F_25, rfl, ⟨⟨fun h9 => by exfalso; have := (zB.all q).1; have := (zB.all q).2; have := br_24.1; have := br_24.2; have := bhs_23.1; have := bhs_23.2; have : (0 : Int32).toInt = 0 := (by decide); omega, fun _ => by have := (zB.all q).1; have := (zB.all q).2; have := br_24.1; have := br_24.2; have := bhs_23.1; have := bhs_23.2; have : (0 : Int32).toInt = 0 := (by decide); omega⟩, trivial⟩, by rw [ht]; exact h.1, h.2.1, hfF_25⟩, h.2.2.F ht⟩) h.2.2.2.2 dX10_place_12
