abbrev zR_block (l : Launch) (nv : Nat) : Prop := ∀ (D : va_G) (k : Nat → ClassId) (Γ : Nat → Option Nat) (L : List Nat) (F : Nat → va_E) (sz : Nat) (th : Nat) (d : Int32) (pr : Nat) (tk : Nat) (co : Nat) (hth : Γ th = some 7) (bd : zB 1 7 d) (kpr : zfld F th 3 = .ref pr) (hpr : Γ pr = some 6) (ktk : zfld F th 4 = .ref tk) (htk : Γ tk = some 8) (kco : zfld F th 5 = .ref co) (hco : Γ co = some 1) (hr0 : 7 ≤ d.toInt + (nv : Int)), Met l yX7_readBlock zwX7_readBlock ({ frames := 10 * nv + 77, cells := 0, slots := 0, locals := 400 * nv + 3200 }) (va_Pc [.ref th, .int d] (zP D k Γ L F sz)) (va_Qv (fun (u : Nat → va_E) => True) (zQ D k Γ L F [103, 400, 401, 402, 403, 605, 701, 702, 706, 711, 10200, 10600, 10700]) (zA L sz)) 0 0 (zA L sz)

set_option maxHeartbeats 4000000 in
set_option maxRecDepth 100000 in
theorem zc_X7_readIf (l : Launch) (D : va_G) (k : Nat → ClassId) (Γ : Nat → Option Nat) (L : List Nat) (F : Nat → va_E) (sz : Nat) (th : Nat) (li : Int32) (d : Int32) (pr : Nat) (tk : Nat) (co : Nat) (nv : Nat) (hth : Γ th = some 7) (bd : zB 1 6 d) (kpr : zfld F th 3 = .ref pr) (hpr : Γ pr = some 6) (ktk : zfld F th 4 = .ref tk) (htk : Γ tk = some 8) (kco : zfld F th 5 = .ref co) (hco : Γ co = some 1) (hr0 : 7 ≤ d.toInt + (nv : Int)) (hrec : ∀ q : Nat, nv = q + 1 → zR_block l q) : Met l yX7_readIf zwX7_readIf ({ frames := 10 * nv + 75, cells := 0, slots := 0, locals := 400 * nv + 3000 }) (va_Pc [.ref th, .int li, .int d] (zP D k Γ L F sz)) (va_Qv (fun (u : Nat → va_E) => True) (zQ D k Γ L F [103, 400, 401, 402, 403, 605, 701, 702, 706, 711, 10200, 10600, 10700]) (zA L sz)) 0 0 (zA L sz) := by
  refine Met.ofW (cc := cX7_readIf) (maxL := 5) (ret := none) (by decide) rfl ?_
  intro p e s m args below meth c s₁ B hml hv
  obtain ⟨rfl, hsz, hP, hK, hLn, hE, hI⟩ := hv
  have hx := B.exec
  have hb := B.bytes
  have hr := B.returns
  have hg : ∀ w ∈ zG, w.before _ s = true := fun w h9 => atoms_spec (ws := zwX7_readIf) B.pre w (List.mem_cons_of_mem _ h9)
  have hown : s.vm.findClass RX7 = some m.cls := findClass_of_methodNamed B.named
  have hlocks := B.notSynchronized
  subst hsz
  have Z : zC p m c cX7_readIf 5 s _ zG RX7 D k L := ⟨⟨hx, hb, hml, hown, hg⟩, hK, hLn, hE⟩
  have h : zH D k Γ L s F s.heap [] := ⟨hP, hI, va_S.rf⟩
  have hl := lv_entry ([.ref th, .int li, .int d]) (n := 5) (Nat.le_of_ble_eq_true rfl)
  rw [lg_entry_eq]
  generalize (lg_sl ([.ref th, .int li, .int d]) ++ List.replicate (5 - (lg_sl ([.ref th, .int li, .int d])).length) Slot.unset).toArray = ls at hl ⊢
  have hl : lv_has ls 5 [(0, .ref th), (1, .int li), (2, .int d)] := hl
  clear hP hK hLn hE hI
  generalize hargs : ([.ref th, .int li, .int d] : List Value).toArray = args at *
  refine z_start (fun R Q hRf hRl hQ => ?_)
  have hRf : R.frames = 10 * nv + 75 := hRf
  have hRl : R.locals = 400 * nv + 3000 := hRl
  refine lv_aload_n hx hb dX7_readIf_0 rfl (lv_at hl 0 rfl) ?_
  refine zk_Vv (As := []) (rest := []) (bytes := cX7_readTest) (maxL := 2) (ret := none) Z h (zc_X7_readTest l D k Γ L F s.heap.size th pr tk co hth kpr hpr ktk htk kco hco) (cwV 0 hg zv_RX7_173 rfl rfl rfl zd_X7_readTest ⟨z_leR hRf (by have := (zB.all li).1; have := (zB.all li).2; have := bd.1; have := bd.2; dsimp only; omega), z_leR hRl (by have := (zB.all li).1; have := (zB.all li).2; have := bd.1; have := bd.2; dsimp only; omega)⟩) hth (by decide) rfl rfl hl.1 rfl (Nat.le_of_ble_eq_true rfl) dX7_readIf_1 ⟨Nat.zero_le _, Nat.zero_le _⟩ (fun F_1 H locs w_2 h hfF_1 => ?_)
  refine lv_aload_n hx hb dX7_readIf_4 rfl (lv_at hl 0 rfl) ?_
  refine zt_getk (t := 7) (C := RX7) (T := TX7) (N := 12) Z h hth zin_7 rfl 5 (hfF_1.f hth 5 ⟨by decide, by decide⟩ kco) ⟨by decide, rfl, by decide⟩ (zm_RX7 (List.mem_of_getElem? (i := 6) rfl)) (fun _ h9 => h9) dX7_readIf_5 ?_
  refine lv_bipush (v := 13) hx hb dX7_readIf_8 (by decide) ?_
  refine lv_iconst (v := 0) hx hb dX7_readIf_10 (by decide) ?_
  refine lv_iload_n hx hb dX7_readIf_11 rfl (lv_at hl 1 rfl) ?_
  refine zk_Vi (As := [.int 13, .int 0, .int li]) (rest := []) (bytes := cX1_add) (maxL := 4) (ret := (some .int)) Z h (zc_X1_add l D k Γ L F_1 H.size co 13 0 li hco) (cwV 3 hg zv_RX7_117 rfl rfl rfl zd_X1_add ⟨z_leR hRf (by have := (zB.all li).1; have := (zB.all li).2; have := bd.1; have := bd.2; have : (0 : Int32).toInt = 0 := (by decide); have : (13 : Int32).toInt = 13 := (by decide); dsimp only; omega), z_leR hRl (by have := (zB.all li).1; have := (zB.all li).2; have := bd.1; have := bd.2; have : (0 : Int32).toInt = 0 := (by decide); have : (13 : Int32).toInt = 13 := (by decide); dsimp only; omega)⟩) hco (by decide) rfl rfl hl.1 rfl (Nat.le_of_ble_eq_true rfl) dX7_readIf_12 ⟨Nat.zero_le _, Nat.zero_le _⟩ (fun r_3 F_4 H locs w_5 h hfF_4 => ?_)
  obtain ⟨br_3, -⟩ := w_5
  refine lv_istore_n (lv' := [(3, .int r_3), (0, .ref th), (1, .int li), (2, .int d)]) hx hb dX7_readIf_15 rfl hl (by decide) rfl (fun ls hl => ?_)
  refine lv_aload_n hx hb dX7_readIf_16 rfl (lv_at hl 1 rfl) ?_
  refine lv_iload_n hx hb dX7_readIf_17 rfl (lv_at hl 3 rfl) ?_
  refine lv_iconst (v := 1) hx hb dX7_readIf_18 (by decide) ?_
  refine lv_iadd hx hb dX7_readIf_19 ?_
  refine zi_add (lo := 2) (hi := 7) bd (zBc 1 1 (by decide)) (by decide) (fun x_6 bx_6 tx_6 => ?_)
  refine zk_Vv (As := [.int x_6]) (rest := []) (bytes := cX7_readBlock) (maxL := 3) (ret := none) Z h (hrec (nv - 1) (by have := br_3.1; have := br_3.2; have := (zB.all li).1; have := (zB.all li).2; have := bd.1; have := bd.2; have := bx_6.1; have := bx_6.2; have : (1 : Int32).toInt = 1 := (by decide); omega) D k Γ L F_4 H.size th x_6 pr tk co  hth (bx_6.w ⟨by decide, by decide⟩) (hfF_4.f hth 3 ⟨by decide, by decide⟩ (hfF_1.f hth 3 ⟨by decide, by decide⟩ kpr)) hpr (hfF_4.f hth 4 ⟨by decide, by decide⟩ (hfF_1.f hth 4 ⟨by decide, by decide⟩ ktk)) htk (hfF_4.f hth 5 ⟨by decide, by decide⟩ (hfF_1.f hth 5 ⟨by decide, by decide⟩ kco)) hco (by have := br_3.1; have := br_3.2; have := (zB.all li).1; have := (zB.all li).2; have := bd.1; have := bd.2; have := bx_6.1; have := bx_6.2; have : (1 : Int32).toInt = 1 := (by decide); omega)) (cwV 1 hg zv_RX7_114 rfl rfl rfl zd_X7_readBlock ⟨z_leR hRf (by have := br_3.1; have := br_3.2; have := (zB.all li).1; have := (zB.all li).2; have := bd.1; have := bd.2; have := bx_6.1; have := bx_6.2; have : (1 : Int32).toInt = 1 := (by decide); dsimp only; omega), z_leR hRl (by have := br_3.1; have := br_3.2; have := (zB.all li).1; have := (zB.all li).2; have := bd.1; have := bd.2; have := bx_6.1; have := bx_6.2; have : (1 : Int32).toInt = 1 := (by decide); dsimp only; omega)⟩) hth (by decide) rfl rfl hl.1 rfl (Nat.le_of_ble_eq_true rfl) dX7_readIf_20 ⟨Nat.zero_le _, Nat.zero_le _⟩ (fun F_7 H locs w_8 h hfF_7 => ?_)
  refine lv_aload_n hx hb dX7_readIf_23 rfl (lv_at hl 1 rfl) ?_
  refine zk_Vi (As := []) (rest := []) (bytes := cX7_kind) (maxL := 2) (ret := (some .int)) Z h (zc_X7_kind l D k Γ L F_7 H.size th tk hth (hfF_7.f hth 4 ⟨by decide, by decide⟩ (hfF_4.f hth 4 ⟨by decide, by decide⟩ (hfF_1.f hth 4 ⟨by decide, by decide⟩ ktk))) htk) (cwV 0 hg zv_RX7_65 rfl rfl rfl zd_X7_kind ⟨z_leR hRf (by have := br_3.1; have := br_3.2; have := (zB.all li).1; have := (zB.all li).2; have := bd.1; have := bd.2; have : (1 : Int32).toInt = 1 := (by decide); dsimp only; omega), z_leR hRl (by have := br_3.1; have := br_3.2; have := (zB.all li).1; have := (zB.all li).2; have := bd.1; have := bd.2; have : (1 : Int32).toInt = 1 := (by decide); dsimp only; omega)⟩) hth (by decide) rfl rfl hl.1 rfl (Nat.le_of_ble_eq_true rfl) dX7_readIf_24 ⟨Nat.zero_le _, Nat.zero_le _⟩ (fun r_9 F_10 H locs w_11 h hfF_10 => ?_)
  obtain ⟨rfl, q_12, -⟩ := w_11
  have br_9 := zB.all r_9
  refine lv_bipush (v := 9) hx hb dX7_readIf_27 (by decide) ?_
  refine lv_icmp_eq (tgt := 48) hx hb dX7_readIf_29 (by decide) (fun c_13 => ?_) (fun c_13 => ?_)
  · have c_13 := z_eq c_13
    have br_9_14 : zB 9 9 r_9 := zB.eqL (a := 0) (b := 0) c_13 (zBc 9 9 (by decide))
    have c_15 := z_not0 br_9_14 (by decide)
    obtain ⟨x_16, kx_16, bx_16⟩ := q_12 c_15
    refine lv_aload_n hx hb dX7_readIf_48 rfl (lv_at hl 1 rfl) ?_
    refine lv_dup hx hb dX7_readIf_49 rfl ?_
    refine zt_getk (t := 7) (C := RX7) (T := TX7) (N := 12) Z h hth zin_7 rfl 6 kx_16 ⟨by decide, rfl, by decide⟩ (zm_RX7 (List.mem_of_getElem? (i := 9) rfl)) (fun _ h9 => h9) dX7_readIf_50 ?_
    refine lv_iconst (v := 1) hx hb dX7_readIf_53 (by decide) ?_
    refine lv_iadd hx hb dX7_readIf_54 ?_
    refine zi_add (lo := 1) (hi := 601) bx_16 (zBc 1 1 (by decide)) (by decide) (fun x_17 bx_17 tx_17 => ?_)
    refine zt_put (t := 7) (C := RX7) (T := TX7) (N := 12) (v := .int x_17) Z h hth zin_7 tyX7 tyX7_ok nmX7 rfl 6 rfl ⟨by decide, rfl⟩ (zm_RX7 (List.mem_of_getElem? (i := 9) rfl)) (fun _ h9 => h9) rfl (zV.i (bx_17.w ⟨by decide, by decide⟩)) rfl rfl dX7_readIf_55 (fun H locs F_18 h hfF_18 kF_18 => ?_)
    refine lv_aload_n hx hb dX7_readIf_58 rfl (lv_at hl 1 rfl) ?_
    refine zt_getk (t := 7) (C := RX7) (T := TX7) (N := 12) Z h hth zin_7 rfl 5 (hfF_18.f hth 5 ⟨by decide, by decide⟩ (hfF_7.f hth 5 ⟨by decide, by decide⟩ (hfF_4.f hth 5 ⟨by decide, by decide⟩ (hfF_1.f hth 5 ⟨by decide, by decide⟩ kco)))) ⟨by decide, rfl, by decide⟩ (zm_RX7 (List.mem_of_getElem? (i := 6) rfl)) (fun _ h9 => h9) dX7_readIf_59 ?_
    refine lv_bipush (v := 15) hx hb dX7_readIf_62 (by decide) ?_
    refine lv_iconst (v := 0) hx hb dX7_readIf_64 (by decide) ?_
    refine lv_iload_n hx hb dX7_readIf_65 rfl (lv_at hl 2 rfl) ?_
    refine zk_Vi (As := [.int 15, .int 0, .int li]) (rest := []) (bytes := cX1_add) (maxL := 4) (ret := (some .int)) Z h (zc_X1_add l D k Γ L F_18 H.size co 15 0 li hco) (cwV 3 hg zv_RX7_117 rfl rfl rfl zd_X1_add ⟨z_leR hRf (by have := br_3.1; have := br_3.2; have := (zB.all li).1; have := (zB.all li).2; have := bd.1; have := bd.2; have := bx_17.1; have := bx_17.2; have : (0 : Int32).toInt = 0 := (by decide); have : (1 : Int32).toInt = 1 := (by decide); have : (9 : Int32).toInt = 9 := (by decide); have : (15 : Int32).toInt = 15 := (by decide); dsimp only; omega), z_leR hRl (by have := br_3.1; have := br_3.2; have := (zB.all li).1; have := (zB.all li).2; have := bd.1; have := bd.2; have := bx_17.1; have := bx_17.2; have : (0 : Int32).toInt = 0 := (by decide); have : (1 : Int32).toInt = 1 := (by decide); have : (9 : Int32).toInt = 9 := (by decide); have : (15 : Int32).toInt = 15 := (by decide); dsimp only; omega)⟩) hco (by decide) rfl rfl hl.1 rfl (Nat.le_of_ble_eq_true rfl) dX7_readIf_66 ⟨Nat.zero_le _, Nat.zero_le _⟩ (fun r_19 F_20 H locs w_21 h hfF_20 => ?_)
    obtain ⟨br_19, -⟩ := w_21
    refine lv_istore (lv' := [(4, .int r_19), (3, .int r_3), (0, .ref th), (1, .int li), (2, .int d)]) hx hb dX7_readIf_69 hl (by decide) rfl (fun ls hl => ?_)
    refine lv_aload_n hx hb dX7_readIf_71 rfl (lv_at hl 2 rfl) ?_
    refine zt_getk (t := 7) (C := RX7) (T := TX7) (N := 12) Z h hth zin_7 rfl 5 (hfF_20.f hth 5 ⟨by decide, by decide⟩ (hfF_18.f hth 5 ⟨by decide, by decide⟩ (hfF_7.f hth 5 ⟨by decide, by decide⟩ (hfF_4.f hth 5 ⟨by decide, by decide⟩ (hfF_1.f hth 5 ⟨by decide, by decide⟩ kco))))) ⟨by decide, rfl, by decide⟩ (zm_RX7 (List.mem_of_getElem? (i := 6) rfl)) (fun _ h9 => h9) dX7_readIf_72 ?_
    refine lv_iload_n hx hb dX7_readIf_75 rfl (lv_at hl 1 rfl) ?_
    refine lv_aload_n hx hb dX7_readIf_76 rfl (lv_at hl 2 rfl) ?_
    refine zt_getk (t := 7) (C := RX7) (T := TX7) (N := 12) Z h hth zin_7 rfl 5 (hfF_20.f hth 5 ⟨by decide, by decide⟩ (hfF_18.f hth 5 ⟨by decide, by decide⟩ (hfF_7.f hth 5 ⟨by decide, by decide⟩ (hfF_4.f hth 5 ⟨by decide, by decide⟩ (hfF_1.f hth 5 ⟨by decide, by decide⟩ kco))))) ⟨by decide, rfl, by decide⟩ (zm_RX7 (List.mem_of_getElem? (i := 6) rfl)) (fun _ h9 => h9) dX7_readIf_77 ?_
    refine zt_geti (t := 1) (C := RX1) (T := TX1) (N := 4) Z h hco zin_1 rfl 3 rfl ⟨by decide, rfl⟩ (zm_RX7 (List.mem_of_getElem? (i := 31) rfl)) (fun _ h9 => h9) dX7_readIf_80 (fun x_22 kx_22 bx_22 => ?_)
    refine zk_Vv (As := [.int r_3, .int x_22]) (rest := []) (bytes := cX1_setNumber) (maxL := 3) (ret := none) Z h (zc_X1_setNumber l D k Γ L F_20 H.size co r_3 x_22 hco) (cwV 2 hg zv_RX7_176 rfl rfl rfl zd_X1_setNumber ⟨z_leR hRf (by have := br_19.1; have := br_19.2; have := br_3.1; have := br_3.2; have := (zB.all li).1; have := (zB.all li).2; have := bd.1; have := bd.2; have := bx_22.1; have := bx_22.2; have := bx_17.1; have := bx_17.2; have : (1 : Int32).toInt = 1 := (by decide); have : (9 : Int32).toInt = 9 := (by decide); dsimp only; omega), z_leR hRl (by have := br_19.1; have := br_19.2; have := br_3.1; have := br_3.2; have := (zB.all li).1; have := (zB.all li).2; have := bd.1; have := bd.2; have := bx_22.1; have := bx_22.2; have := bx_17.1; have := bx_17.2; have : (1 : Int32).toInt = 1 := (by decide); have : (9 : Int32).toInt = 9 := (by decide); dsimp only; omega)⟩) hco (by decide) rfl rfl hl.1 rfl (Nat.le_of_ble_eq_true rfl) dX7_readIf_83 ⟨Nat.zero_le _, Nat.zero_le _⟩ (fun F_23 H locs w_24 h hfF_23 => ?_)
    refine lv_aload_n hx hb dX7_readIf_86 rfl (lv_at hl 2 rfl) ?_
    refine lv_iload_n hx hb dX7_readIf_87 rfl (lv_at hl 4 rfl) ?_
    refine lv_iconst (v := 1) hx hb dX7_readIf_88 (by decide) ?_
    refine lv_iadd hx hb dX7_readIf_89 ?_
    refine zi_add (lo := 2) (hi := 7) bd (zBc 1 1 (by decide)) (by decide) (fun x_25 bx_25 tx_25 => ?_)
    refine zk_Vv (As := [.int x_25]) (rest := []) (bytes := cX7_readBlock) (maxL := 3) (ret := none) Z h (hrec (nv - 1) (by have := br_19.1; have := br_19.2; have := br_3.1; have := br_3.2; have := (zB.all li).1; have := (zB.all li).2; have := bd.1; have := bd.2; have := bx_25.1; have := bx_25.2; have := bx_17.1; have := bx_17.2; have := bx_22.1; have := bx_22.2; have : (1 : Int32).toInt = 1 := (by decide); have : (9 : Int32).toInt = 9 := (by decide); omega) D k Γ L F_23 H.size th x_25 pr tk co  hth (bx_25.w ⟨by decide, by decide⟩) (hfF_23.f hth 3 ⟨by decide, by decide⟩ (hfF_20.f hth 3 ⟨by decide, by decide⟩ (hfF_18.f hth 3 ⟨by decide, by decide⟩ (hfF_7.f hth 3 ⟨by decide, by decide⟩ (hfF_4.f hth 3 ⟨by decide, by decide⟩ (hfF_1.f hth 3 ⟨by decide, by decide⟩ kpr)))))) hpr (hfF_23.f hth 4 ⟨by decide, by decide⟩ (hfF_20.f hth 4 ⟨by decide, by decide⟩ (hfF_18.f hth 4 ⟨by decide, by decide⟩ (hfF_7.f hth 4 ⟨by decide, by decide⟩ (hfF_4.f hth 4 ⟨by decide, by decide⟩ (hfF_1.f hth 4 ⟨by decide, by decide⟩ ktk)))))) htk (hfF_23.f hth 5 ⟨by decide, by decide⟩ (hfF_20.f hth 5 ⟨by decide, by decide⟩ (hfF_18.f hth 5 ⟨by decide, by decide⟩ (hfF_7.f hth 5 ⟨by decide, by decide⟩ (hfF_4.f hth 5 ⟨by decide, by decide⟩ (hfF_1.f hth 5 ⟨by decide, by decide⟩ kco)))))) hco (by have := br_19.1; have := br_19.2; have := br_3.1; have := br_3.2; have := (zB.all li).1; have := (zB.all li).2; have := bd.1; have := bd.2; have := bx_25.1; have := bx_25.2; have := bx_17.1; have := bx_17.2; have := bx_22.1; have := bx_22.2; have : (1 : Int32).toInt = 1 := (by decide); have : (9 : Int32).toInt = 9 := (by decide); omega)) (cwV 1 hg zv_RX7_114 rfl rfl rfl zd_X7_readBlock ⟨z_leR hRf (by have := br_19.1; have := br_19.2; have := br_3.1; have := br_3.2; have := (zB.all li).1; have := (zB.all li).2; have := bd.1; have := bd.2; have := bx_25.1; have := bx_25.2; have := bx_17.1; have := bx_17.2; have := bx_22.1; have := bx_22.2; have : (1 : Int32).toInt = 1 := (by decide); have : (9 : Int32).toInt = 9 := (by decide); dsimp only; omega), z_leR hRl (by have := br_19.1; have := br_19.2; have := br_3.1; have := br_3.2; have := (zB.all li).1; have := (zB.all li).2; have := bd.1; have := bd.2; have := bx_25.1; have := bx_25.2; have := bx_17.1; have := bx_17.2; have := bx_22.1; have := bx_22.2; have : (1 : Int32).toInt = 1 := (by decide); have : (9 : Int32).toInt = 9 := (by decide); dsimp only; omega)⟩) hth (by decide) rfl rfl hl.1 rfl (Nat.le_of_ble_eq_true rfl) dX7_readIf_90 ⟨Nat.zero_le _, Nat.zero_le _⟩ (fun F_26 H locs w_27 h hfF_26 => ?_)
    refine lv_aload_n hx hb dX7_readIf_93 rfl (lv_at hl 2 rfl) ?_
    refine zt_getk (t := 7) (C := RX7) (T := TX7) (N := 12) Z h hth zin_7 rfl 5 (hfF_26.f hth 5 ⟨by decide, by decide⟩ (hfF_23.f hth 5 ⟨by decide, by decide⟩ (hfF_20.f hth 5 ⟨by decide, by decide⟩ (hfF_18.f hth 5 ⟨by decide, by decide⟩ (hfF_7.f hth 5 ⟨by decide, by decide⟩ (hfF_4.f hth 5 ⟨by decide, by decide⟩ (hfF_1.f hth 5 ⟨by decide, by decide⟩ kco))))))) ⟨by decide, rfl, by decide⟩ (zm_RX7 (List.mem_of_getElem? (i := 6) rfl)) (fun _ h9 => h9) dX7_readIf_94 ?_
    refine lv_iload hx hb dX7_readIf_97 (lv_at hl 0 rfl) ?_
    refine lv_aload_n hx hb dX7_readIf_99 rfl (lv_at hl 2 rfl) ?_
    refine zt_getk (t := 7) (C := RX7) (T := TX7) (N := 12) Z h hth zin_7 rfl 5 (hfF_26.f hth 5 ⟨by decide, by decide⟩ (hfF_23.f hth 5 ⟨by decide, by decide⟩ (hfF_20.f hth 5 ⟨by decide, by decide⟩ (hfF_18.f hth 5 ⟨by decide, by decide⟩ (hfF_7.f hth 5 ⟨by decide, by decide⟩ (hfF_4.f hth 5 ⟨by decide, by decide⟩ (hfF_1.f hth 5 ⟨by decide, by decide⟩ kco))))))) ⟨by decide, rfl, by decide⟩ (zm_RX7 (List.mem_of_getElem? (i := 6) rfl)) (fun _ h9 => h9) dX7_readIf_100 ?_
    refine zt_geti (t := 1) (C := RX1) (T := TX1) (N := 4) Z h hco zin_1 rfl 3 rfl ⟨by decide, rfl⟩ (zm_RX7 (List.mem_of_getElem? (i := 31) rfl)) (fun _ h9 => h9) dX7_readIf_103 (fun x_28 kx_28 bx_28 => ?_)
    refine zk_Vv (As := [.int r_19, .int x_28]) (rest := []) (bytes := cX1_setNumber) (maxL := 3) (ret := none) Z h (zc_X1_setNumber l D k Γ L F_26 H.size co r_19 x_28 hco) (cwV 2 hg zv_RX7_176 rfl rfl rfl zd_X1_setNumber ⟨z_leR hRf (by have := br_19.1; have := br_19.2; have := br_3.1; have := br_3.2; have := (zB.all li).1; have := (zB.all li).2; have := bd.1; have := bd.2; have := bx_28.1; have := bx_28.2; have : (1 : Int32).toInt = 1 := (by decide); have : (9 : Int32).toInt = 9 := (by decide); dsimp only; omega), z_leR hRl (by have := br_19.1; have := br_19.2; have := br_3.1; have := br_3.2; have := (zB.all li).1; have := (zB.all li).2; have := bd.1; have := bd.2; have := bx_28.1; have := bx_28.2; have : (1 : Int32).toInt = 1 := (by decide); have : (9 : Int32).toInt = 9 := (by decide); dsimp only; omega)⟩) hco (by decide) rfl rfl hl.1 rfl (Nat.le_of_ble_eq_true rfl) dX7_readIf_106 ⟨Nat.zero_le _, Nat.zero_le _⟩ (fun F_29 H locs w_30 h hfF_29 => ?_)
    subst hQ
    exact W.vret hx hb hr (fun t ht hW => ⟨⟨F_29, rfl, trivial, by rw [ht]; exact h.1, h.2.1, ((((((((hfF_1.w (by decide)).trans hfF_4 (by decide)).trans hfF_7 (by decide)).trans hfF_18 (by decide)).trans hfF_20 (by decide)).trans hfF_23 (by decide)).trans hfF_26 (by decide)).trans hfF_29 (by decide))⟩, h.2.2.F ht⟩) h.2.2.2.2 dX7_readIf_109
  · have c_13 := z_ne c_13
    refine lv_aload_n hx hb dX7_readIf_32 rfl (lv_at hl 1 rfl) ?_
    refine zt_getk (t := 7) (C := RX7) (T := TX7) (N := 12) Z h hth zin_7 rfl 5 (hfF_7.f hth 5 ⟨by decide, by decide⟩ (hfF_4.f hth 5 ⟨by decide, by decide⟩ (hfF_1.f hth 5 ⟨by decide, by decide⟩ kco))) ⟨by decide, rfl, by decide⟩ (zm_RX7 (List.mem_of_getElem? (i := 6) rfl)) (fun _ h9 => h9) dX7_readIf_33 ?_
    refine lv_iload_n hx hb dX7_readIf_36 rfl (lv_at hl 0 rfl) ?_
    refine lv_aload_n hx hb dX7_readIf_37 rfl (lv_at hl 1 rfl) ?_
    refine zt_getk (t := 7) (C := RX7) (T := TX7) (N := 12) Z h hth zin_7 rfl 5 (hfF_7.f hth 5 ⟨by decide, by decide⟩ (hfF_4.f hth 5 ⟨by decide, by decide⟩ (hfF_1.f hth 5 ⟨by decide, by decide⟩ kco))) ⟨by decide, rfl, by decide⟩ (zm_RX7 (List.mem_of_getElem? (i := 6) rfl)) (fun _ h9 => h9) dX7_readIf_38 ?_
    refine zt_geti (t := 1) (C := RX1) (T := TX1) (N := 4) Z h hco zin_1 rfl 3 rfl ⟨by decide, rfl⟩ (zm_RX7 (List.mem_of_getElem? (i := 31) rfl)) (fun _ h9 => h9) dX7_readIf_41 (fun x_31 kx_31 bx_31 => ?_)
    refine zk_Vv (As := [.int r_3, .int x_31]) (rest := []) (bytes := cX1_setNumber) (maxL := 3) (ret := none) Z h (zc_X1_setNumber l D k Γ L F_7 H.size co r_3 x_31 hco) (cwV 2 hg zv_RX7_176 rfl rfl rfl zd_X1_setNumber ⟨z_leR hRf (by have := br_3.1; have := br_3.2; have := (zB.all li).1; have := (zB.all li).2; have := bd.1; have := bd.2; have := bx_31.1; have := bx_31.2; have : (1 : Int32).toInt = 1 := (by decide); have : (9 : Int32).toInt = 9 := (by decide); dsimp only; omega), z_leR hRl (by have := br_3.1; have := br_3.2; have := (zB.all li).1; have := (zB.all li).2; have := bd.1; have := bd.2; have := bx_31.1; have := bx_31.2; have : (1 : Int32).toInt = 1 := (by decide); have : (9 : Int32).toInt = 9 := (by decide); dsimp only; omega)⟩) hco (by decide) rfl rfl hl.1 rfl (Nat.le_of_ble_eq_true rfl) dX7_readIf_44 ⟨Nat.zero_le _, Nat.zero_le _⟩ (fun F_32 H locs w_33 h hfF_32 => ?_)
    subst hQ
    exact W.vret hx hb hr (fun t ht hW => ⟨⟨F_32, rfl, trivial, by rw [ht]; exact h.1, h.2.1, ((((hfF_1.w (by decide)).trans hfF_4 (by decide)).trans hfF_7 (by decide)).trans hfF_32 (by decide))⟩, h.2.2.F ht⟩) h.2.2.2.2 dX7_readIf_47

set_option maxHeartbeats 4000000 in
set_option maxRecDepth 100000 in
theorem zc_X7_readWhile (l : Launch) (D : va_G) (k : Nat → ClassId) (Γ : Nat → Option Nat) (L : List Nat) (F : Nat → va_E) (sz : Nat) (th : Nat) (li : Int32) (d : Int32) (pr : Nat) (tk : Nat) (co : Nat) (nv : Nat) (hth : Γ th = some 7) (bd : zB 1 6 d) (kpr : zfld F th 3 = .ref pr) (hpr : Γ pr = some 6) (ktk : zfld F th 4 = .ref tk) (htk : Γ tk = some 8) (kco : zfld F th 5 = .ref co) (hco : Γ co = some 1) (hr0 : 7 ≤ d.toInt + (nv : Int)) (hrec : ∀ q : Nat, nv = q + 1 → zR_block l q) : Met l yX7_readWhile zwX7_readWhile ({ frames := 10 * nv + 75, cells := 0, slots := 0, locals := 400 * nv + 3000 }) (va_Pc [.ref th, .int li, .int d] (zP D k Γ L F sz)) (va_Qv (fun (u : Nat → va_E) => True) (zQ D k Γ L F [103, 400, 401, 402, 403, 605, 701, 702, 706, 711, 10200, 10600, 10700]) (zA L sz)) 0 0 (zA L sz) := by
  refine Met.ofW (cc := cX7_readWhile) (maxL := 5) (ret := none) (by decide) rfl ?_
  intro p e s m args below meth c s₁ B hml hv
  obtain ⟨rfl, hsz, hP, hK, hLn, hE, hI⟩ := hv
  have hx := B.exec
  have hb := B.bytes
  have hr := B.returns
  have hg : ∀ w ∈ zG, w.before _ s = true := fun w h9 => atoms_spec (ws := zwX7_readWhile) B.pre w (List.mem_cons_of_mem _ h9)
  have hown : s.vm.findClass RX7 = some m.cls := findClass_of_methodNamed B.named
  have hlocks := B.notSynchronized
  subst hsz
  have Z : zC p m c cX7_readWhile 5 s _ zG RX7 D k L := ⟨⟨hx, hb, hml, hown, hg⟩, hK, hLn, hE⟩
  have h : zH D k Γ L s F s.heap [] := ⟨hP, hI, va_S.rf⟩
  have hl := lv_entry ([.ref th, .int li, .int d]) (n := 5) (Nat.le_of_ble_eq_true rfl)
  rw [lg_entry_eq]
  generalize (lg_sl ([.ref th, .int li, .int d]) ++ List.replicate (5 - (lg_sl ([.ref th, .int li, .int d])).length) Slot.unset).toArray = ls at hl ⊢
  have hl : lv_has ls 5 [(0, .ref th), (1, .int li), (2, .int d)] := hl
  clear hP hK hLn hE hI
  generalize hargs : ([.ref th, .int li, .int d] : List Value).toArray = args at *
  refine z_start (fun R Q hRf hRl hQ => ?_)
  have hRf : R.frames = 10 * nv + 75 := hRf
  have hRl : R.locals = 400 * nv + 3000 := hRl
  refine lv_aload_n hx hb dX7_readWhile_0 rfl (lv_at hl 0 rfl) ?_
  refine zt_getk (t := 7) (C := RX7) (T := TX7) (N := 12) Z h hth zin_7 rfl 5 kco ⟨by decide, rfl, by decide⟩ (zm_RX7 (List.mem_of_getElem? (i := 6) rfl)) (fun _ h9 => h9) dX7_readWhile_1 ?_
  refine zt_geti (t := 1) (C := RX1) (T := TX1) (N := 4) Z h hco zin_1 rfl 3 rfl ⟨by decide, rfl⟩ (zm_RX7 (List.mem_of_getElem? (i := 31) rfl)) (fun _ h9 => h9) dX7_readWhile_4 (fun x_1 kx_1 bx_1 => ?_)
  refine lv_istore_n (lv' := [(3, .int x_1), (0, .ref th), (1, .int li), (2, .int d)]) hx hb dX7_readWhile_7 rfl hl (by decide) rfl (fun ls hl => ?_)
  refine lv_aload_n hx hb dX7_readWhile_8 rfl (lv_at hl 1 rfl) ?_
  refine zk_Vv (As := []) (rest := []) (bytes := cX7_readTest) (maxL := 2) (ret := none) Z h (zc_X7_readTest l D k Γ L F s.heap.size th pr tk co hth kpr hpr ktk htk kco hco) (cwV 0 hg zv_RX7_173 rfl rfl rfl zd_X7_readTest ⟨z_leR hRf (by have := bx_1.1; have := bx_1.2; have := (zB.all li).1; have := (zB.all li).2; have := bd.1; have := bd.2; dsimp only; omega), z_leR hRl (by have := bx_1.1; have := bx_1.2; have := (zB.all li).1; have := (zB.all li).2; have := bd.1; have := bd.2; dsimp only; omega)⟩) hth (by decide) rfl rfl hl.1 rfl (Nat.le_of_ble_eq_true rfl) dX7_readWhile_9 ⟨Nat.zero_le _, Nat.zero_le _⟩ (fun F_2 H locs w_3 h hfF_2 => ?_)
  refine lv_aload_n hx hb dX7_readWhile_12 rfl (lv_at hl 1 rfl) ?_
  refine zt_getk (t := 7) (C := RX7) (T := TX7) (N := 12) Z h hth zin_7 rfl 5 (hfF_2.f hth 5 ⟨by decide, by decide⟩ kco) ⟨by decide, rfl, by decide⟩ (zm_RX7 (List.mem_of_getElem? (i := 6) rfl)) (fun _ h9 => h9) dX7_readWhile_13 ?_
  refine lv_bipush (v := 13) hx hb dX7_readWhile_16 (by decide) ?_
  refine lv_iconst (v := 0) hx hb dX7_readWhile_18 (by decide) ?_
  refine lv_iload_n hx hb dX7_readWhile_19 rfl (lv_at hl 2 rfl) ?_
  refine zk_Vi (As := [.int 13, .int 0, .int li]) (rest := []) (bytes := cX1_add) (maxL := 4) (ret := (some .int)) Z h (zc_X1_add l D k Γ L F_2 H.size co 13 0 li hco) (cwV 3 hg zv_RX7_117 rfl rfl rfl zd_X1_add ⟨z_leR hRf (by have := bx_1.1; have := bx_1.2; have := (zB.all li).1; have := (zB.all li).2; have := bd.1; have := bd.2; have : (0 : Int32).toInt = 0 := (by decide); have : (13 : Int32).toInt = 13 := (by decide); dsimp only; omega), z_leR hRl (by have := bx_1.1; have := bx_1.2; have := (zB.all li).1; have := (zB.all li).2; have := bd.1; have := bd.2; have : (0 : Int32).toInt = 0 := (by decide); have : (13 : Int32).toInt = 13 := (by decide); dsimp only; omega)⟩) hco (by decide) rfl rfl hl.1 rfl (Nat.le_of_ble_eq_true rfl) dX7_readWhile_20 ⟨Nat.zero_le _, Nat.zero_le _⟩ (fun r_4 F_5 H locs w_6 h hfF_5 => ?_)
  obtain ⟨br_4, -⟩ := w_6
  refine lv_istore (lv' := [(4, .int r_4), (3, .int x_1), (0, .ref th), (1, .int li), (2, .int d)]) hx hb dX7_readWhile_23 hl (by decide) rfl (fun ls hl => ?_)
  refine lv_aload_n hx hb dX7_readWhile_25 rfl (lv_at hl 2 rfl) ?_
  refine lv_iload_n hx hb dX7_readWhile_26 rfl (lv_at hl 4 rfl) ?_
  refine lv_iconst (v := 1) hx hb dX7_readWhile_27 (by decide) ?_
  refine lv_iadd hx hb dX7_readWhile_28 ?_
  refine zi_add (lo := 2) (hi := 7) bd (zBc 1 1 (by decide)) (by decide) (fun x_7 bx_7 tx_7 => ?_)
  refine zk_Vv (As := [.int x_7]) (rest := []) (bytes := cX7_readBlock) (maxL := 3) (ret := none) Z h (hrec (nv - 1) (by have := br_4.1; have := br_4.2; have := bx_1.1; have := bx_1.2; have := (zB.all li).1; have := (zB.all li).2; have := bd.1; have := bd.2; have := bx_7.1; have := bx_7.2; have : (1 : Int32).toInt = 1 := (by decide); omega) D k Γ L F_5 H.size th x_7 pr tk co  hth (bx_7.w ⟨by decide, by decide⟩) (hfF_5.f hth 3 ⟨by decide, by decide⟩ (hfF_2.f hth 3 ⟨by decide, by decide⟩ kpr)) hpr (hfF_5.f hth 4 ⟨by decide, by decide⟩ (hfF_2.f hth 4 ⟨by decide, by decide⟩ ktk)) htk (hfF_5.f hth 5 ⟨by decide, by decide⟩ (hfF_2.f hth 5 ⟨by decide, by decide⟩ kco)) hco (by have := br_4.1; have := br_4.2; have := bx_1.1; have := bx_1.2; have := (zB.all li).1; have := (zB.all li).2; have := bd.1; have := bd.2; have := bx_7.1; have := bx_7.2; have : (1 : Int32).toInt = 1 := (by decide); omega)) (cwV 1 hg zv_RX7_114 rfl rfl rfl zd_X7_readBlock ⟨z_leR hRf (by have := br_4.1; have := br_4.2; have := bx_1.1; have := bx_1.2; have := (zB.all li).1; have := (zB.all li).2; have := bd.1; have := bd.2; have := bx_7.1; have := bx_7.2; have : (1 : Int32).toInt = 1 := (by decide); dsimp only; omega), z_leR hRl (by have := br_4.1; have := br_4.2; have := bx_1.1; have := bx_1.2; have := (zB.all li).1; have := (zB.all li).2; have := bd.1; have := bd.2; have := bx_7.1; have := bx_7.2; have : (1 : Int32).toInt = 1 := (by decide); dsimp only; omega)⟩) hth (by decide) rfl rfl hl.1 rfl (Nat.le_of_ble_eq_true rfl) dX7_readWhile_29 ⟨Nat.zero_le _, Nat.zero_le _⟩ (fun F_8 H locs w_9 h hfF_8 => ?_)
  refine lv_aload_n hx hb dX7_readWhile_32 rfl (lv_at hl 2 rfl) ?_
  refine zt_getk (t := 7) (C := RX7) (T := TX7) (N := 12) Z h hth zin_7 rfl 5 (hfF_8.f hth 5 ⟨by decide, by decide⟩ (hfF_5.f hth 5 ⟨by decide, by decide⟩ (hfF_2.f hth 5 ⟨by decide, by decide⟩ kco))) ⟨by decide, rfl, by decide⟩ (zm_RX7 (List.mem_of_getElem? (i := 6) rfl)) (fun _ h9 => h9) dX7_readWhile_33 ?_
  refine lv_bipush (v := 14) hx hb dX7_readWhile_36 (by decide) ?_
  refine lv_iload_n hx hb dX7_readWhile_38 rfl (lv_at hl 1 rfl) ?_
  refine lv_iload_n hx hb dX7_readWhile_39 rfl (lv_at hl 3 rfl) ?_
  refine zk_Vi (As := [.int 14, .int x_1, .int li]) (rest := []) (bytes := cX1_add) (maxL := 4) (ret := (some .int)) Z h (zc_X1_add l D k Γ L F_8 H.size co 14 x_1 li hco) (cwV 3 hg zv_RX7_117 rfl rfl rfl zd_X1_add ⟨z_leR hRf (by have := br_4.1; have := br_4.2; have := bx_1.1; have := bx_1.2; have := (zB.all li).1; have := (zB.all li).2; have := bd.1; have := bd.2; have : (1 : Int32).toInt = 1 := (by decide); have : (14 : Int32).toInt = 14 := (by decide); dsimp only; omega), z_leR hRl (by have := br_4.1; have := br_4.2; have := bx_1.1; have := bx_1.2; have := (zB.all li).1; have := (zB.all li).2; have := bd.1; have := bd.2; have : (1 : Int32).toInt = 1 := (by decide); have : (14 : Int32).toInt = 14 := (by decide); dsimp only; omega)⟩) hco (by decide) rfl rfl hl.1 rfl (Nat.le_of_ble_eq_true rfl) dX7_readWhile_40 ⟨Nat.zero_le _, Nat.zero_le _⟩ (fun r_10 F_11 H locs w_12 h hfF_11 => ?_)
  obtain ⟨br_10, -⟩ := w_12
  refine lv_pop hx hb dX7_readWhile_43 rfl ?_
  refine lv_aload_n hx hb dX7_readWhile_44 rfl (lv_at hl 2 rfl) ?_
  refine zt_getk (t := 7) (C := RX7) (T := TX7) (N := 12) Z h hth zin_7 rfl 5 (hfF_11.f hth 5 ⟨by decide, by decide⟩ (hfF_8.f hth 5 ⟨by decide, by decide⟩ (hfF_5.f hth 5 ⟨by decide, by decide⟩ (hfF_2.f hth 5 ⟨by decide, by decide⟩ kco)))) ⟨by decide, rfl, by decide⟩ (zm_RX7 (List.mem_of_getElem? (i := 6) rfl)) (fun _ h9 => h9) dX7_readWhile_45 ?_
  refine lv_iload hx hb dX7_readWhile_48 (lv_at hl 0 rfl) ?_
  refine lv_aload_n hx hb dX7_readWhile_50 rfl (lv_at hl 2 rfl) ?_
  refine zt_getk (t := 7) (C := RX7) (T := TX7) (N := 12) Z h hth zin_7 rfl 5 (hfF_11.f hth 5 ⟨by decide, by decide⟩ (hfF_8.f hth 5 ⟨by decide, by decide⟩ (hfF_5.f hth 5 ⟨by decide, by decide⟩ (hfF_2.f hth 5 ⟨by decide, by decide⟩ kco)))) ⟨by decide, rfl, by decide⟩ (zm_RX7 (List.mem_of_getElem? (i := 6) rfl)) (fun _ h9 => h9) dX7_readWhile_51 ?_
  refine zt_geti (t := 1) (C := RX1) (T := TX1) (N := 4) Z h hco zin_1 rfl 3 rfl ⟨by decide, rfl⟩ (zm_RX7 (List.mem_of_getElem? (i := 31) rfl)) (fun _ h9 => h9) dX7_readWhile_54 (fun x_13 kx_13 bx_13 => ?_)
  refine zk_Vv (As := [.int r_4, .int x_13]) (rest := []) (bytes := cX1_setNumber) (maxL := 3) (ret := none) Z h (zc_X1_setNumber l D k Γ L F_11 H.size co r_4 x_13 hco) (cwV 2 hg zv_RX7_176 rfl rfl rfl zd_X1_setNumber ⟨z_leR hRf (by have := br_4.1; have := br_4.2; have := bx_1.1; have := bx_1.2; have := (zB.all li).1; have := (zB.all li).2; have := bd.1; have := bd.2; have := bx_13.1; have := bx_13.2; have : (1 : Int32).toInt = 1 := (by decide); dsimp only; omega), z_leR hRl (by have := br_4.1; have := br_4.2; have := bx_1.1; have := bx_1.2; have := (zB.all li).1; have := (zB.all li).2; have := bd.1; have := bd.2; have := bx_13.1; have := bx_13.2; have : (1 : Int32).toInt = 1 := (by decide); dsimp only; omega)⟩) hco (by decide) rfl rfl hl.1 rfl (Nat.le_of_ble_eq_true rfl) dX7_readWhile_57 ⟨Nat.zero_le _, Nat.zero_le _⟩ (fun F_14 H locs w_15 h hfF_14 => ?_)
  subst hQ
  exact W.vret hx hb hr (fun t ht hW => ⟨⟨F_14, rfl, trivial, by rw [ht]; exact h.1, h.2.1, (((((hfF_2.w (by decide)).trans hfF_5 (by decide)).trans hfF_8 (by decide)).trans hfF_11 (by decide)).trans hfF_14 (by decide))⟩, h.2.2.F ht⟩) h.2.2.2.2 dX7_readWhile_60

set_option maxHeartbeats 4000000 in
set_option maxRecDepth 100000 in
theorem zc_X7_readLine (l : Launch) (D : va_G) (k : Nat → ClassId) (Γ : Nat → Option Nat) (L : List Nat) (F : Nat → va_E) (sz : Nat) (th : Nat) (d : Int32) (pr : Nat) (tk : Nat) (co : Nat) (nv : Nat) (hth : Γ th = some 7) (bd : zB 1 6 d) (kpr : zfld F th 3 = .ref pr) (hpr : Γ pr = some 6) (ktk : zfld F th 4 = .ref tk) (htk : Γ tk = some 8) (kco : zfld F th 5 = .ref co) (hco : Γ co = some 1) (hr0 : 7 ≤ d.toInt + (nv : Int)) (hrec : ∀ q : Nat, nv = q + 1 → zR_block l q) : Met l yX7_readLine zwX7_readLine ({ frames := 10 * nv + 76, cells := 0, slots := 0, locals := 400 * nv + 3100 }) (va_Pc [.ref th, .int d] (zP D k Γ L F sz)) (va_Qv (fun (u : Nat → va_E) => True) (zQ D k Γ L F [103, 400, 401, 402, 403, 605, 701, 702, 706, 711, 10200, 10600, 10700]) (zA L sz)) 0 0 (zA L sz) := by
  refine Met.ofW (cc := cX7_readLine) (maxL := 5) (ret := none) (by decide) rfl ?_
  intro p e s m args below meth c s₁ B hml hv
  obtain ⟨rfl, hsz, hP, hK, hLn, hE, hI⟩ := hv
  have hx := B.exec
  have hb := B.bytes
  have hr := B.returns
  have hg : ∀ w ∈ zG, w.before _ s = true := fun w h9 => atoms_spec (ws := zwX7_readLine) B.pre w (List.mem_cons_of_mem _ h9)
  have hown : s.vm.findClass RX7 = some m.cls := findClass_of_methodNamed B.named
  have hlocks := B.notSynchronized
  subst hsz
  have Z : zC p m c cX7_readLine 5 s _ zG RX7 D k L := ⟨⟨hx, hb, hml, hown, hg⟩, hK, hLn, hE⟩
  have h : zH D k Γ L s F s.heap [] := ⟨hP, hI, va_S.rf⟩
  have hl := lv_entry ([.ref th, .int d]) (n := 5) (Nat.le_of_ble_eq_true rfl)
  rw [lg_entry_eq]
  generalize (lg_sl ([.ref th, .int d]) ++ List.replicate (5 - (lg_sl ([.ref th, .int d])).length) Slot.unset).toArray = ls at hl ⊢
  have hl : lv_has ls 5 [(0, .ref th), (1, .int d)] := hl
  clear hP hK hLn hE hI
  generalize hargs : ([.ref th, .int d] : List Value).toArray = args at *
  refine z_start (fun R Q hRf hRl hQ => ?_)
  have hRf : R.frames = 10 * nv + 76 := hRf
  have hRl : R.locals = 400 * nv + 3100 := hRl
  refine lv_aload_n hx hb dX7_readLine_0 rfl (lv_at hl 0 rfl) ?_
  refine zk_Vi (As := []) (rest := []) (bytes := cX7_kind) (maxL := 2) (ret := (some .int)) Z h (zc_X7_kind l D k Γ L F s.heap.size th tk hth ktk htk) (cwV 0 hg zv_RX7_65 rfl rfl rfl zd_X7_kind ⟨z_leR hRf (by have := bd.1; have := bd.2; dsimp only; omega), z_leR hRl (by have := bd.1; have := bd.2; dsimp only; omega)⟩) hth (by decide) rfl rfl hl.1 rfl (Nat.le_of_ble_eq_true rfl) dX7_readLine_1 ⟨Nat.zero_le _, Nat.zero_le _⟩ (fun r_1 F_2 H locs w_3 h hfF_2 => ?_)
  obtain ⟨rfl, q_4, -⟩ := w_3
  have br_1 := zB.all r_1
  refine zk_Si (As := [.int r_1]) (rest := []) (bytes := cX7_lineKindOf) (maxL := 1) (ret := (some .int)) Z h (zc_X7_lineKindOf l D k Γ L F H.size r_1) (va_cwS 1 hg zv_RX7_155 rfl rfl rfl zd_X7_lineKindOf ⟨z_leR hRf (by have := bd.1; have := bd.2; have := br_1.1; have := br_1.2; dsimp only; omega), z_leR hRl (by have := bd.1; have := bd.2; have := br_1.1; have := br_1.2; dsimp only; omega)⟩) rfl hl.1 rfl (Nat.le_of_ble_eq_true rfl) dX7_readLine_4 ⟨Nat.zero_le _, Nat.zero_le _⟩ (fun r_5 F_6 H locs w_7 h hfF_6 => ?_)
  obtain ⟨rfl, br_5, q_8, -⟩ := w_7
  refine lv_istore_n (lv' := [(2, .int r_5), (0, .ref th), (1, .int d)]) hx hb dX7_readLine_7 rfl hl (by decide) rfl (fun ls hl => ?_)
  refine lv_iload_n hx hb dX7_readLine_8 rfl (lv_at hl 0 rfl) ?_
  refine lv_iconst (v := (-1)) hx hb dX7_readLine_9 (by decide) ?_
  refine lv_icmp_ne (tgt := 19) hx hb dX7_readLine_10 (by decide) (fun c_9 => ?_) (fun c_9 => ?_)
  · have c_9 := z_ne c_9
    have br_5_10 : zB 0 4 r_5 := zB.neLo c_9 br_5 (zBc (-1) (-1) (by decide)) (by decide)
    have c_11 : ¬ r_1 = 0 := z_n0 (by have := br_5_10.1; have := br_5_10.2; have := bd.1; have := bd.2; have : ((-1) : Int32).toInt = (-1) := (by decide); omega)
    obtain ⟨x_12, kx_12, bx_12⟩ := q_4 c_11
    refine lv_aload_n hx hb dX7_readLine_19 rfl (lv_at hl 1 rfl) ?_
    refine zt_getk (t := 7) (C := RX7) (T := TX7) (N := 12) Z h hth zin_7 rfl 3 kpr ⟨by decide, rfl, by decide⟩ (zm_RX7 (List.mem_of_getElem? (i := 2) rfl)) (fun _ h9 => h9) dX7_readLine_20 ?_
    refine lv_iload_n hx hb dX7_readLine_23 rfl (lv_at hl 0 rfl) ?_
    refine lv_aload_n hx hb dX7_readLine_24 rfl (lv_at hl 1 rfl) ?_
    refine zt_getk (t := 7) (C := RX7) (T := TX7) (N := 12) Z h hth zin_7 rfl 4 ktk ⟨by decide, rfl, by decide⟩ (zm_RX7 (List.mem_of_getElem? (i := 4) rfl)) (fun _ h9 => h9) dX7_readLine_25 ?_
    refine lv_aload_n hx hb dX7_readLine_28 rfl (lv_at hl 1 rfl) ?_
    refine zt_getk (t := 7) (C := RX7) (T := TX7) (N := 12) Z h hth zin_7 rfl 6 kx_12 ⟨by decide, rfl, by decide⟩ (zm_RX7 (List.mem_of_getElem? (i := 9) rfl)) (fun _ h9 => h9) dX7_readLine_29 ?_
    refine zk_Vi (As := [.int x_12]) (rest := [.int r_5, .ref pr]) (bytes := cX8_placeOf) (maxL := 2) (ret := (some .int)) Z h (zc_X8_placeOf l D k Γ L F H.size tk x_12 htk) (cwV 1 hg zv_RX7_72 rfl rfl rfl zd_X8_placeOf ⟨z_leR hRf (by have := br_5_10.1; have := br_5_10.2; have := bd.1; have := bd.2; have := bx_12.1; have := bx_12.2; have : ((-1) : Int32).toInt = (-1) := (by decide); dsimp only; omega), z_leR hRl (by have := br_5_10.1; have := br_5_10.2; have := bd.1; have := bd.2; have := bx_12.1; have := bx_12.2; have : ((-1) : Int32).toInt = (-1) := (by decide); dsimp only; omega)⟩) htk (by decide) rfl rfl hl.1 rfl (Nat.le_of_ble_eq_true rfl) dX7_readLine_32 ⟨Nat.zero_le _, Nat.zero_le _⟩ (fun r_13 F_14 H locs w_15 h hfF_14 => ?_)
    obtain ⟨rfl, -⟩ := w_15
    have br_13 := zB.all r_13
    refine lv_iload_n hx hb dX7_readLine_35 rfl (lv_at hl 2 rfl) ?_
    refine zk_Vi (As := [.int r_5, .int r_13, .int d]) (rest := []) (bytes := cX6_addLine) (maxL := 5) (ret := (some .int)) Z h (zc_X6_addLine l D k Γ L F H.size pr r_5 r_13 d hpr) (cwV 3 hg zv_RX7_158 rfl rfl rfl zd_X6_addLine ⟨z_leR hRf (by have := br_5_10.1; have := br_5_10.2; have := bd.1; have := bd.2; have := br_13.1; have := br_13.2; have := bx_12.1; have := bx_12.2; have : ((-1) : Int32).toInt = (-1) := (by decide); dsimp only; omega), z_leR hRl (by have := br_5_10.1; have := br_5_10.2; have := bd.1; have := bd.2; have := br_13.1; have := br_13.2; have := bx_12.1; have := bx_12.2; have : ((-1) : Int32).toInt = (-1) := (by decide); dsimp only; omega)⟩) hpr (by decide) rfl rfl hl.1 rfl (Nat.le_of_ble_eq_true rfl) dX7_readLine_36 ⟨Nat.zero_le _, Nat.zero_le _⟩ (fun r_16 F_17 H locs w_18 h hfF_17 => ?_)
    obtain ⟨br_16, -⟩ := w_18
    refine lv_istore_n (lv' := [(3, .int r_16), (2, .int r_5), (0, .ref th), (1, .int d)]) hx hb dX7_readLine_39 rfl hl (by decide) rfl (fun ls hl => ?_)
    refine lv_iload_n hx hb dX7_readLine_40 rfl (lv_at hl 0 rfl) ?_
    refine lv_iconst (v := (-1)) hx hb dX7_readLine_41 (by decide) ?_
    refine lv_icmp_ne (tgt := 51) hx hb dX7_readLine_42 (by decide) (fun c_19 => ?_) (fun c_19 => ?_)
    · have c_19 := z_ne c_19
      have br_16_20 : zB 0 59 r_16 := zB.neLo c_19 br_16 (zBc (-1) (-1) (by decide)) (by decide)
      refine lv_aload_n hx hb dX7_readLine_51 rfl (lv_at hl 2 rfl) ?_
      refine zt_getk (t := 7) (C := RX7) (T := TX7) (N := 12) Z h hth zin_7 rfl 6 (hfF_17.f hth 6 ⟨by decide, by decide⟩ kx_12) ⟨by decide, rfl, by decide⟩ (zm_RX7 (List.mem_of_getElem? (i := 9) rfl)) (fun _ h9 => h9) dX7_readLine_52 ?_
      refine lv_istore (lv' := [(4, .int x_12), (3, .int r_16), (2, .int r_5), (0, .ref th), (1, .int d)]) hx hb dX7_readLine_55 hl (by decide) rfl (fun ls hl => ?_)
      refine lv_aload_n hx hb dX7_readLine_57 rfl (lv_at hl 3 rfl) ?_
      refine lv_dup hx hb dX7_readLine_58 rfl ?_
      refine zt_getk (t := 7) (C := RX7) (T := TX7) (N := 12) Z h hth zin_7 rfl 6 (hfF_17.f hth 6 ⟨by decide, by decide⟩ kx_12) ⟨by decide, rfl, by decide⟩ (zm_RX7 (List.mem_of_getElem? (i := 9) rfl)) (fun _ h9 => h9) dX7_readLine_59 ?_
      refine lv_iconst (v := 1) hx hb dX7_readLine_62 (by decide) ?_
      refine lv_iadd hx hb dX7_readLine_63 ?_
      refine zi_add (lo := 1) (hi := 601) bx_12 (zBc 1 1 (by decide)) (by decide) (fun x_21 bx_21 tx_21 => ?_)
      refine zt_put (t := 7) (C := RX7) (T := TX7) (N := 12) (v := .int x_21) Z h hth zin_7 tyX7 tyX7_ok nmX7 rfl 6 rfl ⟨by decide, rfl⟩ (zm_RX7 (List.mem_of_getElem? (i := 9) rfl)) (fun _ h9 => h9) rfl (zV.i (bx_21.w ⟨by decide, by decide⟩)) rfl rfl dX7_readLine_64 (fun H locs F_22 h hfF_22 kF_22 => ?_)
      refine lv_aload_n hx hb dX7_readLine_67 rfl (lv_at hl 3 rfl) ?_
      refine zt_getk (t := 7) (C := RX7) (T := TX7) (N := 12) Z h hth zin_7 rfl 5 (hfF_22.f hth 5 ⟨by decide, by decide⟩ (hfF_17.f hth 5 ⟨by decide, by decide⟩ kco)) ⟨by decide, rfl, by decide⟩ (zm_RX7 (List.mem_of_getElem? (i := 6) rfl)) (fun _ h9 => h9) dX7_readLine_68 ?_
      refine lv_iconst (v := 0) hx hb dX7_readLine_71 (by decide) ?_
      refine lv_iconst (v := 0) hx hb dX7_readLine_72 (by decide) ?_
      refine lv_iload_n hx hb dX7_readLine_73 rfl (lv_at hl 1 rfl) ?_
      refine zk_Vi (As := [.int 0, .int 0, .int r_16]) (rest := []) (bytes := cX1_add) (maxL := 4) (ret := (some .int)) Z h (zc_X1_add l D k Γ L F_22 H.size co 0 0 r_16 hco) (cwV 3 hg zv_RX7_117 rfl rfl rfl zd_X1_add ⟨z_leR hRf (by have := bx_12.1; have := bx_12.2; have := br_16_20.1; have := br_16_20.2; have := br_5_10.1; have := br_5_10.2; have := bd.1; have := bd.2; have := bx_21.1; have := bx_21.2; have : ((-1) : Int32).toInt = (-1) := (by decide); have : (0 : Int32).toInt = 0 := (by decide); have : (1 : Int32).toInt = 1 := (by decide); dsimp only; omega), z_leR hRl (by have := bx_12.1; have := bx_12.2; have := br_16_20.1; have := br_16_20.2; have := br_5_10.1; have := br_5_10.2; have := bd.1; have := bd.2; have := bx_21.1; have := bx_21.2; have : ((-1) : Int32).toInt = (-1) := (by decide); have : (0 : Int32).toInt = 0 := (by decide); have : (1 : Int32).toInt = 1 := (by decide); dsimp only; omega)⟩) hco (by decide) rfl rfl hl.1 rfl (Nat.le_of_ble_eq_true rfl) dX7_readLine_74 ⟨Nat.zero_le _, Nat.zero_le _⟩ (fun r_23 F_24 H locs w_25 h hfF_24 => ?_)
      obtain ⟨br_23, -⟩ := w_25
      refine lv_pop hx hb dX7_readLine_77 rfl ?_
      refine lv_iload_n hx hb dX7_readLine_78 rfl (lv_at hl 2 rfl) ?_
      by_cases c_26 : r_5 = 0
      · refine lv_tableIn (off := 29) (tgt := 108) hx hb dX7_readLine_79 (by rw [c_26]; decide) (by rw [c_26]; decide) (by rw [c_26]; rfl) (by decide) ?_
        have br_5_26 : zB 0 0 r_5 := by rw [c_26]; exact zBc _ _ (by decide)
        refine lv_aload_n hx hb dX7_readLine_108 rfl (lv_at hl 3 rfl) ?_
        refine lv_bipush (v := 61) hx hb dX7_readLine_109 (by decide) ?_
        refine zk_Vv (As := [.int 61]) (rest := []) (bytes := cX7_take) (maxL := 2) (ret := none) Z h (zc_X7_take l D k Γ L F_24 H.size th 61 tk hth (zB.of ⟨by decide, by decide⟩) (hfF_24.f hth 4 ⟨by decide, by decide⟩ (hfF_22.f hth 4 ⟨by decide, by decide⟩ (hfF_17.f hth 4 ⟨by decide, by decide⟩ ktk))) htk) (cwV 1 hg zv_RX7_108 rfl rfl rfl zd_X7_take ⟨z_leR hRf (by have := bx_12.1; have := bx_12.2; have := br_16_20.1; have := br_16_20.2; have := br_5_26.1; have := br_5_26.2; have := bd.1; have := bd.2; have := bx_21.1; have := bx_21.2; have : ((-1) : Int32).toInt = (-1) := (by decide); have : (1 : Int32).toInt = 1 := (by decide); have : (61 : Int32).toInt = 61 := (by decide); dsimp only; omega), z_leR hRl (by have := bx_12.1; have := bx_12.2; have := br_16_20.1; have := br_16_20.2; have := br_5_26.1; have := br_5_26.2; have := bd.1; have := bd.2; have := bx_21.1; have := bx_21.2; have : ((-1) : Int32).toInt = (-1) := (by decide); have : (1 : Int32).toInt = 1 := (by decide); have : (61 : Int32).toInt = 61 := (by decide); dsimp only; omega)⟩) hth (by decide) rfl rfl hl.1 rfl (Nat.le_of_ble_eq_true rfl) dX7_readLine_111 ⟨Nat.zero_le _, Nat.zero_le _⟩ (fun F_28 H locs w_29 h hfF_28 => ?_)
        refine lv_aload_n hx hb dX7_readLine_114 rfl (lv_at hl 3 rfl) ?_
        refine lv_iconst (v := 0) hx hb dX7_readLine_115 (by decide) ?_
        refine zk_Vv (As := [.int 0]) (rest := []) (bytes := cX7_readSum) (maxL := 4) (ret := none) Z h (zs_sum l 6 D k Γ L F_28 H.size th 0 pr tk co  hth (zB.of ⟨by decide, by decide⟩) (hfF_28.f hth 3 ⟨by decide, by decide⟩ (hfF_24.f hth 3 ⟨by decide, by decide⟩ (hfF_22.f hth 3 ⟨by decide, by decide⟩ (hfF_17.f hth 3 ⟨by decide, by decide⟩ kpr)))) hpr (hfF_28.f hth 4 ⟨by decide, by decide⟩ (hfF_24.f hth 4 ⟨by decide, by decide⟩ (hfF_22.f hth 4 ⟨by decide, by decide⟩ (hfF_17.f hth 4 ⟨by decide, by decide⟩ ktk)))) htk (hfF_28.f hth 5 ⟨by decide, by decide⟩ (hfF_24.f hth 5 ⟨by decide, by decide⟩ (hfF_22.f hth 5 ⟨by decide, by decide⟩ (hfF_17.f hth 5 ⟨by decide, by decide⟩ kco)))) hco (by have := bx_12.1; have := bx_12.2; have := br_16_20.1; have := br_16_20.2; have := br_5_26.1; have := br_5_26.2; have := bd.1; have := bd.2; have : ((-1) : Int32).toInt = (-1) := (by decide); have : (0 : Int32).toInt = 0 := (by decide); have : (1 : Int32).toInt = 1 := (by decide); omega)) (cwV 1 hg zv_RX7_161 rfl rfl rfl zd_X7_readSum ⟨z_leR hRf (by have := bx_12.1; have := bx_12.2; have := br_16_20.1; have := br_16_20.2; have := br_5_26.1; have := br_5_26.2; have := bd.1; have := bd.2; have : ((-1) : Int32).toInt = (-1) := (by decide); have : (0 : Int32).toInt = 0 := (by decide); have : (1 : Int32).toInt = 1 := (by decide); dsimp only; omega), z_leR hRl (by have := bx_12.1; have := bx_12.2; have := br_16_20.1; have := br_16_20.2; have := br_5_26.1; have := br_5_26.2; have := bd.1; have := bd.2; have : ((-1) : Int32).toInt = (-1) := (by decide); have : (0 : Int32).toInt = 0 := (by decide); have : (1 : Int32).toInt = 1 := (by decide); dsimp only; omega)⟩) hth (by decide) rfl rfl hl.1 rfl (Nat.le_of_ble_eq_true rfl) dX7_readLine_116 ⟨Nat.zero_le _, Nat.zero_le _⟩ (fun F_30 H locs w_31 h hfF_30 => ?_)
        refine lv_aload_n hx hb dX7_readLine_119 rfl (lv_at hl 3 rfl) ?_
        refine zt_getk (t := 7) (C := RX7) (T := TX7) (N := 12) Z h hth zin_7 rfl 5 (hfF_30.f hth 5 ⟨by decide, by decide⟩ (hfF_28.f hth 5 ⟨by decide, by decide⟩ (hfF_24.f hth 5 ⟨by decide, by decide⟩ (hfF_22.f hth 5 ⟨by decide, by decide⟩ (hfF_17.f hth 5 ⟨by decide, by decide⟩ kco))))) ⟨by decide, rfl, by decide⟩ (zm_RX7 (List.mem_of_getElem? (i := 6) rfl)) (fun _ h9 => h9) dX7_readLine_120 ?_
        refine lv_bipush (v := 10) hx hb dX7_readLine_123 (by decide) ?_
        refine lv_aload_n hx hb dX7_readLine_125 rfl (lv_at hl 3 rfl) ?_
        refine zt_getk (t := 7) (C := RX7) (T := TX7) (N := 12) Z h hth zin_7 rfl 4 (hfF_30.f hth 4 ⟨by decide, by decide⟩ (hfF_28.f hth 4 ⟨by decide, by decide⟩ (hfF_24.f hth 4 ⟨by decide, by decide⟩ (hfF_22.f hth 4 ⟨by decide, by decide⟩ (hfF_17.f hth 4 ⟨by decide, by decide⟩ ktk))))) ⟨by decide, rfl, by decide⟩ (zm_RX7 (List.mem_of_getElem? (i := 4) rfl)) (fun _ h9 => h9) dX7_readLine_126 ?_
        refine lv_iload hx hb dX7_readLine_129 (lv_at hl 0 rfl) ?_
        refine zk_Vi (As := [.int x_12]) (rest := [.int 10, .ref co]) (bytes := cX8_letterOf) (maxL := 2) (ret := (some .int)) Z h (zc_X8_letterOf l D k Γ L F_30 H.size tk x_12 htk) (cwV 1 hg zv_RX7_139 rfl rfl rfl zd_X8_letterOf ⟨z_leR hRf (by have := bx_12.1; have := bx_12.2; have := br_16_20.1; have := br_16_20.2; have := br_5_26.1; have := br_5_26.2; have := bd.1; have := bd.2; have : ((-1) : Int32).toInt = (-1) := (by decide); have : (1 : Int32).toInt = 1 := (by decide); have : (10 : Int32).toInt = 10 := (by decide); dsimp only; omega), z_leR hRl (by have := bx_12.1; have := bx_12.2; have := br_16_20.1; have := br_16_20.2; have := br_5_26.1; have := br_5_26.2; have := bd.1; have := bd.2; have : ((-1) : Int32).toInt = (-1) := (by decide); have : (1 : Int32).toInt = 1 := (by decide); have : (10 : Int32).toInt = 10 := (by decide); dsimp only; omega)⟩) htk (by decide) rfl rfl hl.1 rfl (Nat.le_of_ble_eq_true rfl) dX7_readLine_131 ⟨Nat.zero_le _, Nat.zero_le _⟩ (fun r_32 F_33 H locs w_34 h hfF_33 => ?_)
        obtain ⟨rfl, br_32, -⟩ := w_34
        refine lv_iload_n hx hb dX7_readLine_134 rfl (lv_at hl 1 rfl) ?_
        refine zk_Vi (As := [.int 10, .int r_32, .int r_16]) (rest := []) (bytes := cX1_add) (maxL := 4) (ret := (some .int)) Z h (zc_X1_add l D k Γ L F_30 H.size co 10 r_32 r_16 hco) (cwV 3 hg zv_RX7_117 rfl rfl rfl zd_X1_add ⟨z_leR hRf (by have := bx_12.1; have := bx_12.2; have := br_16_20.1; have := br_16_20.2; have := br_5_26.1; have := br_5_26.2; have := bd.1; have := bd.2; have := br_32.1; have := br_32.2; have : ((-1) : Int32).toInt = (-1) := (by decide); have : (1 : Int32).toInt = 1 := (by decide); have : (10 : Int32).toInt = 10 := (by decide); dsimp only; omega), z_leR hRl (by have := bx_12.1; have := bx_12.2; have := br_16_20.1; have := br_16_20.2; have := br_5_26.1; have := br_5_26.2; have := bd.1; have := bd.2; have := br_32.1; have := br_32.2; have : ((-1) : Int32).toInt = (-1) := (by decide); have : (1 : Int32).toInt = 1 := (by decide); have : (10 : Int32).toInt = 10 := (by decide); dsimp only; omega)⟩) hco (by decide) rfl rfl hl.1 rfl (Nat.le_of_ble_eq_true rfl) dX7_readLine_135 ⟨Nat.zero_le _, Nat.zero_le _⟩ (fun r_35 F_36 H locs w_37 h hfF_36 => ?_)
        obtain ⟨br_35, -⟩ := w_37
        refine lv_pop hx hb dX7_readLine_138 rfl ?_
        refine lv_goto (tgt := 197) hx hb dX7_readLine_139 (by decide) ?_
        subst hQ
        exact W.vret hx hb hr (fun t ht hW => ⟨⟨F_36, rfl, trivial, by rw [ht]; exact h.1, h.2.1, ((((((hfF_17.w (by decide)).trans hfF_22 (by decide)).trans hfF_24 (by decide)).trans hfF_28 (by decide)).trans hfF_30 (by decide)).trans hfF_36 (by decide))⟩, h.2.2.F ht⟩) h.2.2.2.2 dX7_readLine_197
      · by_cases c_38 : r_5 = 1
        · refine lv_tableIn (off := 63) (tgt := 142) hx hb dX7_readLine_79 (by rw [c_38]; decide) (by rw [c_38]; decide) (by rw [c_38]; rfl) (by decide) ?_
          have br_5_38 : zB 1 1 r_5 := by rw [c_38]; exact zBc _ _ (by decide)
          refine lv_aload_n hx hb dX7_readLine_142 rfl (lv_at hl 3 rfl) ?_
          refine lv_iconst (v := 0) hx hb dX7_readLine_143 (by decide) ?_
          refine zk_Vv (As := [.int 0]) (rest := []) (bytes := cX7_readSum) (maxL := 4) (ret := none) Z h (zs_sum l 6 D k Γ L F_24 H.size th 0 pr tk co  hth (zB.of ⟨by decide, by decide⟩) (hfF_24.f hth 3 ⟨by decide, by decide⟩ (hfF_22.f hth 3 ⟨by decide, by decide⟩ (hfF_17.f hth 3 ⟨by decide, by decide⟩ kpr))) hpr (hfF_24.f hth 4 ⟨by decide, by decide⟩ (hfF_22.f hth 4 ⟨by decide, by decide⟩ (hfF_17.f hth 4 ⟨by decide, by decide⟩ ktk))) htk (hfF_24.f hth 5 ⟨by decide, by decide⟩ (hfF_22.f hth 5 ⟨by decide, by decide⟩ (hfF_17.f hth 5 ⟨by decide, by decide⟩ kco))) hco (by have := bx_12.1; have := bx_12.2; have := br_16_20.1; have := br_16_20.2; have := br_5_38.1; have := br_5_38.2; have := bd.1; have := bd.2; have := bx_21.1; have := bx_21.2; have : ((-1) : Int32).toInt = (-1) := (by decide); have : (0 : Int32).toInt = 0 := (by decide); have : (1 : Int32).toInt = 1 := (by decide); omega)) (cwV 1 hg zv_RX7_161 rfl rfl rfl zd_X7_readSum ⟨z_leR hRf (by have := bx_12.1; have := bx_12.2; have := br_16_20.1; have := br_16_20.2; have := br_5_38.1; have := br_5_38.2; have := bd.1; have := bd.2; have := bx_21.1; have := bx_21.2; have : ((-1) : Int32).toInt = (-1) := (by decide); have : (0 : Int32).toInt = 0 := (by decide); have : (1 : Int32).toInt = 1 := (by decide); dsimp only; omega), z_leR hRl (by have := bx_12.1; have := bx_12.2; have := br_16_20.1; have := br_16_20.2; have := br_5_38.1; have := br_5_38.2; have := bd.1; have := bd.2; have := bx_21.1; have := bx_21.2; have : ((-1) : Int32).toInt = (-1) := (by decide); have : (0 : Int32).toInt = 0 := (by decide); have : (1 : Int32).toInt = 1 := (by decide); dsimp only; omega)⟩) hth (by decide) rfl rfl hl.1 rfl (Nat.le_of_ble_eq_true rfl) dX7_readLine_144 ⟨Nat.zero_le _, Nat.zero_le _⟩ (fun F_40 H locs w_41 h hfF_40 => ?_)
          refine lv_aload_n hx hb dX7_readLine_147 rfl (lv_at hl 3 rfl) ?_
          refine zt_getk (t := 7) (C := RX7) (T := TX7) (N := 12) Z h hth zin_7 rfl 5 (hfF_40.f hth 5 ⟨by decide, by decide⟩ (hfF_24.f hth 5 ⟨by decide, by decide⟩ (hfF_22.f hth 5 ⟨by decide, by decide⟩ (hfF_17.f hth 5 ⟨by decide, by decide⟩ kco)))) ⟨by decide, rfl, by decide⟩ (zm_RX7 (List.mem_of_getElem? (i := 6) rfl)) (fun _ h9 => h9) dX7_readLine_148 ?_
          refine lv_bipush (v := 11) hx hb dX7_readLine_151 (by decide) ?_
          refine lv_iconst (v := 0) hx hb dX7_readLine_153 (by decide) ?_
          refine lv_iload_n hx hb dX7_readLine_154 rfl (lv_at hl 1 rfl) ?_
          refine zk_Vi (As := [.int 11, .int 0, .int r_16]) (rest := []) (bytes := cX1_add) (maxL := 4) (ret := (some .int)) Z h (zc_X1_add l D k Γ L F_40 H.size co 11 0 r_16 hco) (cwV 3 hg zv_RX7_117 rfl rfl rfl zd_X1_add ⟨z_leR hRf (by have := bx_12.1; have := bx_12.2; have := br_16_20.1; have := br_16_20.2; have := br_5_38.1; have := br_5_38.2; have := bd.1; have := bd.2; have : ((-1) : Int32).toInt = (-1) := (by decide); have : (0 : Int32).toInt = 0 := (by decide); have : (1 : Int32).toInt = 1 := (by decide); have : (11 : Int32).toInt = 11 := (by decide); dsimp only; omega), z_leR hRl (by have := bx_12.1; have := bx_12.2; have := br_16_20.1; have := br_16_20.2; have := br_5_38.1; have := br_5_38.2; have := bd.1; have := bd.2; have : ((-1) : Int32).toInt = (-1) := (by decide); have : (0 : Int32).toInt = 0 := (by decide); have : (1 : Int32).toInt = 1 := (by decide); have : (11 : Int32).toInt = 11 := (by decide); dsimp only; omega)⟩) hco (by decide) rfl rfl hl.1 rfl (Nat.le_of_ble_eq_true rfl) dX7_readLine_155 ⟨Nat.zero_le _, Nat.zero_le _⟩ (fun r_42 F_43 H locs w_44 h hfF_43 => ?_)
          obtain ⟨br_42, -⟩ := w_44
          refine lv_pop hx hb dX7_readLine_158 rfl ?_
          refine lv_goto (tgt := 197) hx hb dX7_readLine_159 (by decide) ?_
          subst hQ
          exact W.vret hx hb hr (fun t ht hW => ⟨⟨F_43, rfl, trivial, by rw [ht]; exact h.1, h.2.1, (((((hfF_17.w (by decide)).trans hfF_22 (by decide)).trans hfF_24 (by decide)).trans hfF_40 (by decide)).trans hfF_43 (by decide))⟩, h.2.2.F ht⟩) h.2.2.2.2 dX7_readLine_197
        · by_cases c_45 : r_5 = 2
          · refine lv_tableIn (off := 83) (tgt := 162) hx hb dX7_readLine_79 (by rw [c_45]; decide) (by rw [c_45]; decide) (by rw [c_45]; rfl) (by decide) ?_
            have br_5_45 : zB 2 2 r_5 := by rw [c_45]; exact zBc _ _ (by decide)
            refine lv_aload_n hx hb dX7_readLine_162 rfl (lv_at hl 3 rfl) ?_
            refine lv_iconst (v := 0) hx hb dX7_readLine_163 (by decide) ?_
            refine zk_Vv (As := [.int 0]) (rest := []) (bytes := cX7_readSum) (maxL := 4) (ret := none) Z h (zs_sum l 6 D k Γ L F_24 H.size th 0 pr tk co  hth (zB.of ⟨by decide, by decide⟩) (hfF_24.f hth 3 ⟨by decide, by decide⟩ (hfF_22.f hth 3 ⟨by decide, by decide⟩ (hfF_17.f hth 3 ⟨by decide, by decide⟩ kpr))) hpr (hfF_24.f hth 4 ⟨by decide, by decide⟩ (hfF_22.f hth 4 ⟨by decide, by decide⟩ (hfF_17.f hth 4 ⟨by decide, by decide⟩ ktk))) htk (hfF_24.f hth 5 ⟨by decide, by decide⟩ (hfF_22.f hth 5 ⟨by decide, by decide⟩ (hfF_17.f hth 5 ⟨by decide, by decide⟩ kco))) hco (by have := bx_12.1; have := bx_12.2; have := br_16_20.1; have := br_16_20.2; have := br_5_45.1; have := br_5_45.2; have := bd.1; have := bd.2; have := bx_21.1; have := bx_21.2; have : ((-1) : Int32).toInt = (-1) := (by decide); have : (0 : Int32).toInt = 0 := (by decide); have : (1 : Int32).toInt = 1 := (by decide); omega)) (cwV 1 hg zv_RX7_161 rfl rfl rfl zd_X7_readSum ⟨z_leR hRf (by have := bx_12.1; have := bx_12.2; have := br_16_20.1; have := br_16_20.2; have := br_5_45.1; have := br_5_45.2; have := bd.1; have := bd.2; have := bx_21.1; have := bx_21.2; have : ((-1) : Int32).toInt = (-1) := (by decide); have : (0 : Int32).toInt = 0 := (by decide); have : (1 : Int32).toInt = 1 := (by decide); dsimp only; omega), z_leR hRl (by have := bx_12.1; have := bx_12.2; have := br_16_20.1; have := br_16_20.2; have := br_5_45.1; have := br_5_45.2; have := bd.1; have := bd.2; have := bx_21.1; have := bx_21.2; have : ((-1) : Int32).toInt = (-1) := (by decide); have : (0 : Int32).toInt = 0 := (by decide); have : (1 : Int32).toInt = 1 := (by decide); dsimp only; omega)⟩) hth (by decide) rfl rfl hl.1 rfl (Nat.le_of_ble_eq_true rfl) dX7_readLine_164 ⟨Nat.zero_le _, Nat.zero_le _⟩ (fun F_47 H locs w_48 h hfF_47 => ?_)
            refine lv_aload_n hx hb dX7_readLine_167 rfl (lv_at hl 3 rfl) ?_
            refine zt_getk (t := 7) (C := RX7) (T := TX7) (N := 12) Z h hth zin_7 rfl 5 (hfF_47.f hth 5 ⟨by decide, by decide⟩ (hfF_24.f hth 5 ⟨by decide, by decide⟩ (hfF_22.f hth 5 ⟨by decide, by decide⟩ (hfF_17.f hth 5 ⟨by decide, by decide⟩ kco)))) ⟨by decide, rfl, by decide⟩ (zm_RX7 (List.mem_of_getElem? (i := 6) rfl)) (fun _ h9 => h9) dX7_readLine_168 ?_
            refine lv_bipush (v := 12) hx hb dX7_readLine_171 (by decide) ?_
            refine lv_iconst (v := 0) hx hb dX7_readLine_173 (by decide) ?_
            refine lv_iload_n hx hb dX7_readLine_174 rfl (lv_at hl 1 rfl) ?_
            refine zk_Vi (As := [.int 12, .int 0, .int r_16]) (rest := []) (bytes := cX1_add) (maxL := 4) (ret := (some .int)) Z h (zc_X1_add l D k Γ L F_47 H.size co 12 0 r_16 hco) (cwV 3 hg zv_RX7_117 rfl rfl rfl zd_X1_add ⟨z_leR hRf (by have := bx_12.1; have := bx_12.2; have := br_16_20.1; have := br_16_20.2; have := br_5_45.1; have := br_5_45.2; have := bd.1; have := bd.2; have : ((-1) : Int32).toInt = (-1) := (by decide); have : (0 : Int32).toInt = 0 := (by decide); have : (1 : Int32).toInt = 1 := (by decide); have : (12 : Int32).toInt = 12 := (by decide); dsimp only; omega), z_leR hRl (by have := bx_12.1; have := bx_12.2; have := br_16_20.1; have := br_16_20.2; have := br_5_45.1; have := br_5_45.2; have := bd.1; have := bd.2; have : ((-1) : Int32).toInt = (-1) := (by decide); have : (0 : Int32).toInt = 0 := (by decide); have : (1 : Int32).toInt = 1 := (by decide); have : (12 : Int32).toInt = 12 := (by decide); dsimp only; omega)⟩) hco (by decide) rfl rfl hl.1 rfl (Nat.le_of_ble_eq_true rfl) dX7_readLine_175 ⟨Nat.zero_le _, Nat.zero_le _⟩ (fun r_49 F_50 H locs w_51 h hfF_50 => ?_)
            obtain ⟨br_49, -⟩ := w_51
            refine lv_pop hx hb dX7_readLine_178 rfl ?_
            refine lv_goto (tgt := 197) hx hb dX7_readLine_179 (by decide) ?_
            subst hQ
            exact W.vret hx hb hr (fun t ht hW => ⟨⟨F_50, rfl, trivial, by rw [ht]; exact h.1, h.2.1, (((((hfF_17.w (by decide)).trans hfF_22 (by decide)).trans hfF_24 (by decide)).trans hfF_47 (by decide)).trans hfF_50 (by decide))⟩, h.2.2.F ht⟩) h.2.2.2.2 dX7_readLine_197
          · by_cases c_52 : r_5 = 3
            · refine lv_tableIn (off := 103) (tgt := 182) hx hb dX7_readLine_79 (by rw [c_52]; decide) (by rw [c_52]; decide) (by rw [c_52]; rfl) (by decide) ?_
              have br_5_52 : zB 3 3 r_5 := by rw [c_52]; exact zBc _ _ (by decide)
              refine lv_aload_n hx hb dX7_readLine_182 rfl (lv_at hl 3 rfl) ?_
              refine lv_iload_n hx hb dX7_readLine_183 rfl (lv_at hl 1 rfl) ?_
              refine lv_iload_n hx hb dX7_readLine_184 rfl (lv_at hl 4 rfl) ?_
              refine zk_Vv (As := [.int r_16, .int d]) (rest := []) (bytes := cX7_readIf) (maxL := 5) (ret := none) Z h (zc_X7_readIf l D k Γ L F_24 H.size th r_16 d pr tk co nv hth bd (hfF_24.f hth 3 ⟨by decide, by decide⟩ (hfF_22.f hth 3 ⟨by decide, by decide⟩ (hfF_17.f hth 3 ⟨by decide, by decide⟩ kpr))) hpr (hfF_24.f hth 4 ⟨by decide, by decide⟩ (hfF_22.f hth 4 ⟨by decide, by decide⟩ (hfF_17.f hth 4 ⟨by decide, by decide⟩ ktk))) htk (hfF_24.f hth 5 ⟨by decide, by decide⟩ (hfF_22.f hth 5 ⟨by decide, by decide⟩ (hfF_17.f hth 5 ⟨by decide, by decide⟩ kco))) hco (by have := bx_12.1; have := bx_12.2; have := br_16_20.1; have := br_16_20.2; have := br_5_52.1; have := br_5_52.2; have := bd.1; have := bd.2; have := bx_21.1; have := bx_21.2; have : ((-1) : Int32).toInt = (-1) := (by decide); have : (1 : Int32).toInt = 1 := (by decide); omega) hrec) (cwV 2 hg zv_RX7_164 rfl rfl rfl zd_X7_readIf ⟨z_leR hRf (by have := bx_12.1; have := bx_12.2; have := br_16_20.1; have := br_16_20.2; have := br_5_52.1; have := br_5_52.2; have := bd.1; have := bd.2; have := bx_21.1; have := bx_21.2; have : ((-1) : Int32).toInt = (-1) := (by decide); have : (1 : Int32).toInt = 1 := (by decide); dsimp only; omega), z_leR hRl (by have := bx_12.1; have := bx_12.2; have := br_16_20.1; have := br_16_20.2; have := br_5_52.1; have := br_5_52.2; have := bd.1; have := bd.2; have := bx_21.1; have := bx_21.2; have : ((-1) : Int32).toInt = (-1) := (by decide); have : (1 : Int32).toInt = 1 := (by decide); dsimp only; omega)⟩) hth (by decide) rfl rfl hl.1 rfl (Nat.le_of_ble_eq_true rfl) dX7_readLine_185 ⟨Nat.zero_le _, Nat.zero_le _⟩ (fun F_54 H locs w_55 h hfF_54 => ?_)
              refine lv_goto (tgt := 197) hx hb dX7_readLine_188 (by decide) ?_
              subst hQ
              exact W.vret hx hb hr (fun t ht hW => ⟨⟨F_54, rfl, trivial, by rw [ht]; exact h.1, h.2.1, ((((hfF_17.w (by decide)).trans hfF_22 (by decide)).trans hfF_24 (by decide)).trans hfF_54 (by decide))⟩, h.2.2.F ht⟩) h.2.2.2.2 dX7_readLine_197
            · have nc_26 : r_5.toInt ≠ 0 := z_nev c_26 (by decide)
              have nc_38 : r_5.toInt ≠ 1 := z_nev c_38 (by decide)
              have nc_45 : r_5.toInt ≠ 2 := z_nev c_45 (by decide)
              have nc_52 : r_5.toInt ≠ 3 := z_nev c_52 (by decide)
              refine lv_tableOut (tgt := 191) hx hb dX7_readLine_79 (by have := br_5_10.1; have := br_5_10.2; omega) (by decide) ?_
              refine lv_aload_n hx hb dX7_readLine_191 rfl (lv_at hl 3 rfl) ?_
              refine lv_iload_n hx hb dX7_readLine_192 rfl (lv_at hl 1 rfl) ?_
              refine lv_iload_n hx hb dX7_readLine_193 rfl (lv_at hl 4 rfl) ?_
              refine zk_Vv (As := [.int r_16, .int d]) (rest := []) (bytes := cX7_readWhile) (maxL := 5) (ret := none) Z h (zc_X7_readWhile l D k Γ L F_24 H.size th r_16 d pr tk co nv hth bd (hfF_24.f hth 3 ⟨by decide, by decide⟩ (hfF_22.f hth 3 ⟨by decide, by decide⟩ (hfF_17.f hth 3 ⟨by decide, by decide⟩ kpr))) hpr (hfF_24.f hth 4 ⟨by decide, by decide⟩ (hfF_22.f hth 4 ⟨by decide, by decide⟩ (hfF_17.f hth 4 ⟨by decide, by decide⟩ ktk))) htk (hfF_24.f hth 5 ⟨by decide, by decide⟩ (hfF_22.f hth 5 ⟨by decide, by decide⟩ (hfF_17.f hth 5 ⟨by decide, by decide⟩ kco))) hco (by have := bx_12.1; have := bx_12.2; have := br_16_20.1; have := br_16_20.2; have := br_5_10.1; have := br_5_10.2; have := bd.1; have := bd.2; have := bx_21.1; have := bx_21.2; have : ((-1) : Int32).toInt = (-1) := (by decide); have : (1 : Int32).toInt = 1 := (by decide); omega) hrec) (cwV 2 hg zv_RX7_168 rfl rfl rfl zd_X7_readWhile ⟨z_leR hRf (by have := bx_12.1; have := bx_12.2; have := br_16_20.1; have := br_16_20.2; have := br_5_10.1; have := br_5_10.2; have := bd.1; have := bd.2; have := bx_21.1; have := bx_21.2; have : ((-1) : Int32).toInt = (-1) := (by decide); have : (1 : Int32).toInt = 1 := (by decide); dsimp only; omega), z_leR hRl (by have := bx_12.1; have := bx_12.2; have := br_16_20.1; have := br_16_20.2; have := br_5_10.1; have := br_5_10.2; have := bd.1; have := bd.2; have := bx_21.1; have := bx_21.2; have : ((-1) : Int32).toInt = (-1) := (by decide); have : (1 : Int32).toInt = 1 := (by decide); dsimp only; omega)⟩) hth (by decide) rfl rfl hl.1 rfl (Nat.le_of_ble_eq_true rfl) dX7_readLine_194 ⟨Nat.zero_le _, Nat.zero_le _⟩ (fun F_56 H locs w_57 h hfF_56 => ?_)
              subst hQ
              exact W.vret hx hb hr (fun t ht hW => ⟨⟨F_56, rfl, trivial, by rw [ht]; exact h.1, h.2.1, ((((hfF_17.w (by decide)).trans hfF_22 (by decide)).trans hfF_24 (by decide)).trans hfF_56 (by decide))⟩, h.2.2.F ht⟩) h.2.2.2.2 dX7_readLine_197
    · have c_19 := z_eq c_19
      have br_16_58 : zB (-1) (-1) r_16 := zB.eqL (a := 0) (b := 0) c_19 (zBc (-1) (-1) (by decide))
      refine lv_aload_n hx hb dX7_readLine_45 rfl (lv_at hl 2 rfl) ?_
      refine lv_iconst (v := 3) hx hb dX7_readLine_46 (by decide) ?_
      refine zk_Vv (As := [.int 3]) (rest := []) (bytes := cX7_fail) (maxL := 2) (ret := none) Z h (zc_X7_fail l D k Γ L F_17 H.size th 3 tk hth (hfF_17.f hth 4 ⟨by decide, by decide⟩ ktk) htk) (cwV 1 hg zv_RX7_79 rfl rfl rfl zd_X7_fail ⟨z_leR hRf (by have := br_16_58.1; have := br_16_58.2; have := br_5_10.1; have := br_5_10.2; have := bd.1; have := bd.2; have := bx_12.1; have := bx_12.2; have : ((-1) : Int32).toInt = (-1) := (by decide); have : (3 : Int32).toInt = 3 := (by decide); dsimp only; omega), z_leR hRl (by have := br_16_58.1; have := br_16_58.2; have := br_5_10.1; have := br_5_10.2; have := bd.1; have := bd.2; have := bx_12.1; have := bx_12.2; have : ((-1) : Int32).toInt = (-1) := (by decide); have : (3 : Int32).toInt = 3 := (by decide); dsimp only; omega)⟩) hth (by decide) rfl rfl hl.1 rfl (Nat.le_of_ble_eq_true rfl) dX7_readLine_47 ⟨Nat.zero_le _, Nat.zero_le _⟩ (fun F_59 H locs w_60 h hfF_59 => ?_)
      subst hQ
      exact W.vret hx hb hr (fun t ht hW => ⟨⟨F_59, rfl, trivial, by rw [ht]; exact h.1, h.2.1, ((hfF_17.w (by decide)).trans hfF_59 (by decide))⟩, h.2.2.F ht⟩) h.2.2.2.2 dX7_readLine_50
  · have c_9 := z_eq c_9
    have br_5_61 : zB (-1) (-1) r_5 := zB.eqL (a := 0) (b := 0) c_9 (zBc (-1) (-1) (by decide))
    refine lv_aload_n hx hb dX7_readLine_13 rfl (lv_at hl 1 rfl) ?_
    refine lv_iconst (v := 1) hx hb dX7_readLine_14 (by decide) ?_
    refine zk_Vv (As := [.int 1]) (rest := []) (bytes := cX7_fail) (maxL := 2) (ret := none) Z h (zc_X7_fail l D k Γ L F H.size th 1 tk hth ktk htk) (cwV 1 hg zv_RX7_79 rfl rfl rfl zd_X7_fail ⟨z_leR hRf (by have := br_5_61.1; have := br_5_61.2; have := bd.1; have := bd.2; have : ((-1) : Int32).toInt = (-1) := (by decide); have : (1 : Int32).toInt = 1 := (by decide); dsimp only; omega), z_leR hRl (by have := br_5_61.1; have := br_5_61.2; have := bd.1; have := bd.2; have : ((-1) : Int32).toInt = (-1) := (by decide); have : (1 : Int32).toInt = 1 := (by decide); dsimp only; omega)⟩) hth (by decide) rfl rfl hl.1 rfl (Nat.le_of_ble_eq_true rfl) dX7_readLine_15 ⟨Nat.zero_le _, Nat.zero_le _⟩ (fun F_62 H locs w_63 h hfF_62 => ?_)
    subst hQ
    exact W.vret hx hb hr (fun t ht hW => ⟨⟨F_62, rfl, trivial, by rw [ht]; exact h.1, h.2.1, (hfF_62.w (by decide))⟩, h.2.2.F ht⟩) h.2.2.2.2 dX7_readLine_18

set_option maxHeartbeats 4000000 in
set_option maxRecDepth 100000 in
theorem zc_X7_readBlock (l : Launch) (D : va_G) (k : Nat → ClassId) (Γ : Nat → Option Nat) (L : List Nat) (F : Nat → va_E) (sz : Nat) (th : Nat) (d : Int32) (pr : Nat) (tk : Nat) (co : Nat) (nv : Nat) (hth : Γ th = some 7) (bd : zB 1 7 d) (kpr : zfld F th 3 = .ref pr) (hpr : Γ pr = some 6) (ktk : zfld F th 4 = .ref tk) (htk : Γ tk = some 8) (kco : zfld F th 5 = .ref co) (hco : Γ co = some 1) (hr0 : 7 ≤ d.toInt + (nv : Int)) (hrec : ∀ q : Nat, nv = q + 1 → zR_block l q) : Met l yX7_readBlock zwX7_readBlock ({ frames := 10 * nv + 77, cells := 0, slots := 0, locals := 400 * nv + 3200 }) (va_Pc [.ref th, .int d] (zP D k Γ L F sz)) (va_Qv (fun (u : Nat → va_E) => True) (zQ D k Γ L F [103, 400, 401, 402, 403, 605, 701, 702, 706, 711, 10200, 10600, 10700]) (zA L sz)) 0 0 (zA L sz) := by
  refine Met.ofW (cc := cX7_readBlock) (maxL := 3) (ret := none) (by decide) rfl ?_
  intro p e s m args below meth c s₁ B hml hv
  obtain ⟨rfl, hsz, hP, hK, hLn, hE, hI⟩ := hv
  have hx := B.exec
  have hb := B.bytes
  have hr := B.returns
  have hg : ∀ w ∈ zG, w.before _ s = true := fun w h9 => atoms_spec (ws := zwX7_readBlock) B.pre w (List.mem_cons_of_mem _ h9)
  have hown : s.vm.findClass RX7 = some m.cls := findClass_of_methodNamed B.named
  have hlocks := B.notSynchronized
  subst hsz
  have Z : zC p m c cX7_readBlock 3 s _ zG RX7 D k L := ⟨⟨hx, hb, hml, hown, hg⟩, hK, hLn, hE⟩
  have h : zH D k Γ L s F s.heap [] := ⟨hP, hI, va_S.rf⟩
  have hl := lv_entry ([.ref th, .int d]) (n := 3) (Nat.le_of_ble_eq_true rfl)
  rw [lg_entry_eq]
  generalize (lg_sl ([.ref th, .int d]) ++ List.replicate (3 - (lg_sl ([.ref th, .int d])).length) Slot.unset).toArray = ls at hl ⊢
  have hl : lv_has ls 3 [(0, .ref th), (1, .int d)] := hl
  clear hP hK hLn hE hI
  generalize hargs : ([.ref th, .int d] : List Value).toArray = args at *
  refine z_start (fun R Q hRf hRl hQ => ?_)
  have hRf : R.frames = 10 * nv + 77 := hRf
  have hRl : R.locals = 400 * nv + 3200 := hRl
  refine lv_aload_n hx hb dX7_readBlock_0 rfl (lv_at hl 0 rfl) ?_
  refine zk_Vi (As := []) (rest := []) (bytes := cX7_kind) (maxL := 2) (ret := (some .int)) Z h (zc_X7_kind l D k Γ L F s.heap.size th tk hth ktk htk) (cwV 0 hg zv_RX7_65 rfl rfl rfl zd_X7_kind ⟨z_leR hRf (by have := bd.1; have := bd.2; dsimp only; omega), z_leR hRl (by have := bd.1; have := bd.2; dsimp only; omega)⟩) hth (by decide) rfl rfl hl.1 rfl (Nat.le_of_ble_eq_true rfl) dX7_readBlock_1 ⟨Nat.zero_le _, Nat.zero_le _⟩ (fun r_1 F_2 H locs w_3 h hfF_2 => ?_)
  obtain ⟨rfl, q_4, -⟩ := w_3
  have br_1 := zB.all r_1
  refine lv_bipush (v := 123) hx hb dX7_readBlock_4 (by decide) ?_
  refine lv_icmp_eq (tgt := 15) hx hb dX7_readBlock_6 (by decide) (fun c_5 => ?_) (fun c_5 => ?_)
  · have c_5 := z_eq c_5
    have br_1_6 : zB 123 123 r_1 := zB.eqL (a := 0) (b := 0) c_5 (zBc 123 123 (by decide))
    have c_7 := z_not0 br_1_6 (by decide)
    obtain ⟨x_8, kx_8, bx_8⟩ := q_4 c_7
    refine lv_iload_n hx hb dX7_readBlock_15 rfl (lv_at hl 1 rfl) ?_
    refine lv_bipush (v := 6) hx hb dX7_readBlock_16 (by decide) ?_
    refine lv_icmp_le (tgt := 27) hx hb dX7_readBlock_18 (by decide) (fun c_9 => ?_) (fun c_9 => ?_)
    · have c_9 := z_le c_9
      have bd_10 : zB 1 6 d := zB.leL c_9 bd (zBc 6 6 (by decide)) (by decide)
      refine lv_aload_n hx hb dX7_readBlock_27 rfl (lv_at hl 0 rfl) ?_
      refine lv_dup hx hb dX7_readBlock_28 rfl ?_
      refine zt_getk (t := 7) (C := RX7) (T := TX7) (N := 12) Z h hth zin_7 rfl 6 kx_8 ⟨by decide, rfl, by decide⟩ (zm_RX7 (List.mem_of_getElem? (i := 9) rfl)) (fun _ h9 => h9) dX7_readBlock_29 ?_
      refine lv_iconst (v := 1) hx hb dX7_readBlock_32 (by decide) ?_
      refine lv_iadd hx hb dX7_readBlock_33 ?_
      refine zi_add (lo := 1) (hi := 601) bx_8 (zBc 1 1 (by decide)) (by decide) (fun x_11 bx_11 tx_11 => ?_)
      refine zt_put (t := 7) (C := RX7) (T := TX7) (N := 12) (v := .int x_11) Z h hth zin_7 tyX7 tyX7_ok nmX7 rfl 6 rfl ⟨by decide, rfl⟩ (zm_RX7 (List.mem_of_getElem? (i := 9) rfl)) (fun _ h9 => h9) rfl (zV.i (bx_11.w ⟨by decide, by decide⟩)) rfl rfl dX7_readBlock_34 (fun H locs F_12 h hfF_12 kF_12 => ?_)
      refine lv_aload_n hx hb dX7_readBlock_37 rfl (lv_at hl 0 rfl) ?_
      refine lv_iload_n hx hb dX7_readBlock_38 rfl (lv_at hl 1 rfl) ?_
      refine zk_Vv (As := [.int d]) (rest := []) (bytes := cX7_readLine) (maxL := 5) (ret := none) Z h (zc_X7_readLine l D k Γ L F_12 H.size th d pr tk co nv hth bd_10 (hfF_12.f hth 3 ⟨by decide, by decide⟩ kpr) hpr (hfF_12.f hth 4 ⟨by decide, by decide⟩ ktk) htk (hfF_12.f hth 5 ⟨by decide, by decide⟩ kco) hco (by have := bd_10.1; have := bd_10.2; have := bx_11.1; have := bx_11.2; have : (1 : Int32).toInt = 1 := (by decide); have : (6 : Int32).toInt = 6 := (by decide); have : (123 : Int32).toInt = 123 := (by decide); omega) hrec) (cwV 1 hg zv_RX7_152 rfl rfl rfl zd_X7_readLine ⟨z_leR hRf (by have := bd_10.1; have := bd_10.2; have := bx_11.1; have := bx_11.2; have : (1 : Int32).toInt = 1 := (by decide); have : (6 : Int32).toInt = 6 := (by decide); have : (123 : Int32).toInt = 123 := (by decide); dsimp only; omega), z_leR hRl (by have := bd_10.1; have := bd_10.2; have := bx_11.1; have := bx_11.2; have : (1 : Int32).toInt = 1 := (by decide); have : (6 : Int32).toInt = 6 := (by decide); have : (123 : Int32).toInt = 123 := (by decide); dsimp only; omega)⟩) hth (by decide) rfl rfl hl.1 rfl (Nat.le_of_ble_eq_true rfl) dX7_readBlock_39 ⟨Nat.zero_le _, Nat.zero_le _⟩ (fun F_13 H locs w_14 h hfF_13 => ?_)
      refine lv_iconst (v := 0) hx hb dX7_readBlock_42 (by decide) ?_
      refine lv_istore_n (lv' := [(2, .int 0), (0, .ref th), (1, .int d)]) hx hb dX7_readBlock_43 rfl hl (by decide) rfl (fun ls hl => ?_)
      have j_j44_15 : ∀ (n : Nat) (ls : Array Slot) (y2_j44_15 : Int32) (F_16 : Nat → va_E) (H : Heap) (locs : List Loc), lv_has ls 3 [(2, .int y2_j44_15), (0, .ref th), (1, .int d)] → zB 0 601 y2_j44_15 → zH D k Γ L s F_16 H locs → zFr Γ [103, 400, 401, 402, 403, 605, 701, 702, 706, 711, 10200, 10600, 10700] F_13 F_16 → (2147483647 - y2_j44_15.toInt).toNat = n → W p l e R s m args below meth c H locs 0 0 Q (F0 m 44 ls []) := by
        intro n
        induction n using Nat.strongRecOn with
        | _ n ih_j44_15 =>
          intro ls y2_j44_15 F_16 H locs hl by2_j44_15 h hfF_16 hn_j44_15
          refine lv_iload_n hx hb dX7_readBlock_44 rfl (lv_at hl 0 rfl) ?_
          refine lv_aload_n hx hb dX7_readBlock_45 rfl (lv_at hl 1 rfl) ?_
          refine zt_getk (t := 7) (C := RX7) (T := TX7) (N := 12) Z h hth zin_7 rfl 4 (hfF_16.f hth 4 ⟨by decide, by decide⟩ (hfF_13.f hth 4 ⟨by decide, by decide⟩ (hfF_12.f hth 4 ⟨by decide, by decide⟩ ktk))) ⟨by decide, rfl, by decide⟩ (zm_RX7 (List.mem_of_getElem? (i := 4) rfl)) (fun _ h9 => h9) dX7_readBlock_46 ?_
          refine zt_geti (t := 8) (C := RX8) (T := TX8) (N := 6) Z h htk zin_8 rfl 5 rfl ⟨by decide, rfl⟩ (zm_RX7 (List.mem_of_getElem? (i := 56) rfl)) (fun _ h9 => h9) dX7_readBlock_49 (fun x_17 kx_17 bx_17 => ?_)
          refine lv_icmp_ge (tgt := 85) hx hb dX7_readBlock_52 (by decide) (fun c_18 => ?_) (fun c_18 => ?_)
          · have c_18 := z_le c_18
            refine lv_aload_n hx hb dX7_readBlock_85 rfl (lv_at hl 1 rfl) ?_
            refine lv_bipush (v := 125) hx hb dX7_readBlock_86 (by decide) ?_
            refine zk_Vv (As := [.int 125]) (rest := []) (bytes := cX7_take) (maxL := 2) (ret := none) Z h (zc_X7_take l D k Γ L F_16 H.size th 125 tk hth (zB.of ⟨by decide, by decide⟩) (hfF_16.f hth 4 ⟨by decide, by decide⟩ (hfF_13.f hth 4 ⟨by decide, by decide⟩ (hfF_12.f hth 4 ⟨by decide, by decide⟩ ktk))) htk) (cwV 1 hg zv_RX7_108 rfl rfl rfl zd_X7_take ⟨z_leR hRf (by have := by2_j44_15.1; have := by2_j44_15.2; have := bd_10.1; have := bd_10.2; have := bx_17.1; have := bx_17.2; have : (1 : Int32).toInt = 1 := (by decide); have : (6 : Int32).toInt = 6 := (by decide); have : (123 : Int32).toInt = 123 := (by decide); have : (125 : Int32).toInt = 125 := (by decide); dsimp only; omega), z_leR hRl (by have := by2_j44_15.1; have := by2_j44_15.2; have := bd_10.1; have := bd_10.2; have := bx_17.1; have := bx_17.2; have : (1 : Int32).toInt = 1 := (by decide); have : (6 : Int32).toInt = 6 := (by decide); have : (123 : Int32).toInt = 123 := (by decide); have : (125 : Int32).toInt = 125 := (by decide); dsimp only; omega)⟩) hth (by decide) rfl rfl hl.1 rfl (Nat.le_of_ble_eq_true rfl) dX7_readBlock_88 ⟨Nat.zero_le _, Nat.zero_le _⟩ (fun F_19 H locs w_20 h hfF_19 => ?_)
            subst hQ
            exact W.vret hx hb hr (fun t ht hW => ⟨⟨F_19, rfl, trivial, by rw [ht]; exact h.1, h.2.1, ((((hfF_12.w (by decide)).trans hfF_13 (by decide)).trans hfF_16 (by decide)).trans hfF_19 (by decide))⟩, h.2.2.F ht⟩) h.2.2.2.2 dX7_readBlock_91
          · have c_18 := z_nle c_18
            have by2_j44_15_21 : zB 0 600 y2_j44_15 := zB.ltL c_18 by2_j44_15 bx_17 (by decide)
            have bx_17_22 : zB 1 601 x_17 := zB.ltR c_18 by2_j44_15 bx_17 (by decide)
            refine lv_aload_n hx hb dX7_readBlock_55 rfl (lv_at hl 1 rfl) ?_
            refine zk_Vi (As := []) (rest := []) (bytes := cX7_kind) (maxL := 2) (ret := (some .int)) Z h (zc_X7_kind l D k Γ L F_16 H.size th tk hth (hfF_16.f hth 4 ⟨by decide, by decide⟩ (hfF_13.f hth 4 ⟨by decide, by decide⟩ (hfF_12.f hth 4 ⟨by decide, by decide⟩ ktk))) htk) (cwV 0 hg zv_RX7_65 rfl rfl rfl zd_X7_kind ⟨z_leR hRf (by have := by2_j44_15_21.1; have := by2_j44_15_21.2; have := bd_10.1; have := bd_10.2; have := bx_17_22.1; have := bx_17_22.2; have : (1 : Int32).toInt = 1 := (by decide); have : (6 : Int32).toInt = 6 := (by decide); have : (123 : Int32).toInt = 123 := (by decide); dsimp only; omega), z_leR hRl (by have := by2_j44_15_21.1; have := by2_j44_15_21.2; have := bd_10.1; have := bd_10.2; have := bx_17_22.1; have := bx_17_22.2; have : (1 : Int32).toInt = 1 := (by decide); have : (6 : Int32).toInt = 6 := (by decide); have : (123 : Int32).toInt = 123 := (by decide); dsimp only; omega)⟩) hth (by decide) rfl rfl hl.1 rfl (Nat.le_of_ble_eq_true rfl) dX7_readBlock_56 ⟨Nat.zero_le _, Nat.zero_le _⟩ (fun r_23 F_24 H locs w_25 h hfF_24 => ?_)
            obtain ⟨rfl, q_26, -⟩ := w_25
            have br_23 := zB.all r_23
            refine lv_bipush (v := 59) hx hb dX7_readBlock_59 (by decide) ?_
            refine lv_icmp_ne (tgt := 85) hx hb dX7_readBlock_61 (by decide) (fun c_27 => ?_) (fun c_27 => ?_)
            · have c_27 := z_ne c_27
              refine lv_aload_n hx hb dX7_readBlock_85 rfl (lv_at hl 1 rfl) ?_
              refine lv_bipush (v := 125) hx hb dX7_readBlock_86 (by decide) ?_
              refine zk_Vv (As := [.int 125]) (rest := []) (bytes := cX7_take) (maxL := 2) (ret := none) Z h (zc_X7_take l D k Γ L F_16 H.size th 125 tk hth (zB.of ⟨by decide, by decide⟩) (hfF_16.f hth 4 ⟨by decide, by decide⟩ (hfF_13.f hth 4 ⟨by decide, by decide⟩ (hfF_12.f hth 4 ⟨by decide, by decide⟩ ktk))) htk) (cwV 1 hg zv_RX7_108 rfl rfl rfl zd_X7_take ⟨z_leR hRf (by have := by2_j44_15_21.1; have := by2_j44_15_21.2; have := bd_10.1; have := bd_10.2; have := bx_17_22.1; have := bx_17_22.2; have : (1 : Int32).toInt = 1 := (by decide); have : (6 : Int32).toInt = 6 := (by decide); have : (59 : Int32).toInt = 59 := (by decide); have : (123 : Int32).toInt = 123 := (by decide); have : (125 : Int32).toInt = 125 := (by decide); dsimp only; omega), z_leR hRl (by have := by2_j44_15_21.1; have := by2_j44_15_21.2; have := bd_10.1; have := bd_10.2; have := bx_17_22.1; have := bx_17_22.2; have : (1 : Int32).toInt = 1 := (by decide); have : (6 : Int32).toInt = 6 := (by decide); have : (59 : Int32).toInt = 59 := (by decide); have : (123 : Int32).toInt = 123 := (by decide); have : (125 : Int32).toInt = 125 := (by decide); dsimp only; omega)⟩) hth (by decide) rfl rfl hl.1 rfl (Nat.le_of_ble_eq_true rfl) dX7_readBlock_88 ⟨Nat.zero_le _, Nat.zero_le _⟩ (fun F_28 H locs w_29 h hfF_28 => ?_)
              subst hQ
              exact W.vret hx hb hr (fun t ht hW => ⟨⟨F_28, rfl, trivial, by rw [ht]; exact h.1, h.2.1, ((((hfF_12.w (by decide)).trans hfF_13 (by decide)).trans hfF_16 (by decide)).trans hfF_28 (by decide))⟩, h.2.2.F ht⟩) h.2.2.2.2 dX7_readBlock_91
            · have c_27 := z_eq c_27
              have br_23_30 : zB 59 59 r_23 := zB.eqL (a := 0) (b := 0) c_27 (zBc 59 59 (by decide))
              have c_31 := z_not0 br_23_30 (by decide)
              obtain ⟨x_32, kx_32, bx_32⟩ := q_26 c_31
              refine lv_aload_n hx hb dX7_readBlock_64 rfl (lv_at hl 1 rfl) ?_
              refine lv_dup hx hb dX7_readBlock_65 rfl ?_
              refine zt_getk (t := 7) (C := RX7) (T := TX7) (N := 12) Z h hth zin_7 rfl 6 kx_32 ⟨by decide, rfl, by decide⟩ (zm_RX7 (List.mem_of_getElem? (i := 9) rfl)) (fun _ h9 => h9) dX7_readBlock_66 ?_
              refine lv_iconst (v := 1) hx hb dX7_readBlock_69 (by decide) ?_
              refine lv_iadd hx hb dX7_readBlock_70 ?_
              refine zi_add (lo := 1) (hi := 601) bx_32 (zBc 1 1 (by decide)) (by decide) (fun x_33 bx_33 tx_33 => ?_)
              refine zt_put (t := 7) (C := RX7) (T := TX7) (N := 12) (v := .int x_33) Z h hth zin_7 tyX7 tyX7_ok nmX7 rfl 6 rfl ⟨by decide, rfl⟩ (zm_RX7 (List.mem_of_getElem? (i := 9) rfl)) (fun _ h9 => h9) rfl (zV.i (bx_33.w ⟨by decide, by decide⟩)) rfl rfl dX7_readBlock_71 (fun H locs F_34 h hfF_34 kF_34 => ?_)
              refine lv_aload_n hx hb dX7_readBlock_74 rfl (lv_at hl 1 rfl) ?_
              refine lv_iload_n hx hb dX7_readBlock_75 rfl (lv_at hl 2 rfl) ?_
              refine zk_Vv (As := [.int d]) (rest := []) (bytes := cX7_readLine) (maxL := 5) (ret := none) Z h (zc_X7_readLine l D k Γ L F_34 H.size th d pr tk co nv hth bd_10 (hfF_34.f hth 3 ⟨by decide, by decide⟩ (hfF_16.f hth 3 ⟨by decide, by decide⟩ (hfF_13.f hth 3 ⟨by decide, by decide⟩ (hfF_12.f hth 3 ⟨by decide, by decide⟩ kpr)))) hpr (hfF_34.f hth 4 ⟨by decide, by decide⟩ (hfF_16.f hth 4 ⟨by decide, by decide⟩ (hfF_13.f hth 4 ⟨by decide, by decide⟩ (hfF_12.f hth 4 ⟨by decide, by decide⟩ ktk)))) htk (hfF_34.f hth 5 ⟨by decide, by decide⟩ (hfF_16.f hth 5 ⟨by decide, by decide⟩ (hfF_13.f hth 5 ⟨by decide, by decide⟩ (hfF_12.f hth 5 ⟨by decide, by decide⟩ kco)))) hco (by have := by2_j44_15_21.1; have := by2_j44_15_21.2; have := bd_10.1; have := bd_10.2; have := bx_33.1; have := bx_33.2; have := bx_17_22.1; have := bx_17_22.2; have : (1 : Int32).toInt = 1 := (by decide); have : (6 : Int32).toInt = 6 := (by decide); have : (59 : Int32).toInt = 59 := (by decide); have : (123 : Int32).toInt = 123 := (by decide); omega) hrec) (cwV 1 hg zv_RX7_152 rfl rfl rfl zd_X7_readLine ⟨z_leR hRf (by have := by2_j44_15_21.1; have := by2_j44_15_21.2; have := bd_10.1; have := bd_10.2; have := bx_33.1; have := bx_33.2; have := bx_17_22.1; have := bx_17_22.2; have : (1 : Int32).toInt = 1 := (by decide); have : (6 : Int32).toInt = 6 := (by decide); have : (59 : Int32).toInt = 59 := (by decide); have : (123 : Int32).toInt = 123 := (by decide); dsimp only; omega), z_leR hRl (by have := by2_j44_15_21.1; have := by2_j44_15_21.2; have := bd_10.1; have := bd_10.2; have := bx_33.1; have := bx_33.2; have := bx_17_22.1; have := bx_17_22.2; have : (1 : Int32).toInt = 1 := (by decide); have : (6 : Int32).toInt = 6 := (by decide); have : (59 : Int32).toInt = 59 := (by decide); have : (123 : Int32).toInt = 123 := (by decide); dsimp only; omega)⟩) hth (by decide) rfl rfl hl.1 rfl (Nat.le_of_ble_eq_true rfl) dX7_readBlock_76 ⟨Nat.zero_le _, Nat.zero_le _⟩ (fun F_35 H locs w_36 h hfF_35 => ?_)
              obtain ⟨x_37, ex_37, bx_37, tx_37⟩ := z_inc (n := 1) (lo := 1) (hi := 601) by2_j44_15_21 (by decide)
              refine lv_iinc (v := x_37) (lv' := [(2, .int x_37), (0, .ref th), (1, .int d)]) hx hb dX7_readBlock_79 hl (k := 0) rfl ex_37 (by decide) rfl (fun ls hl => ?_)
              refine lv_goto (tgt := 44) hx hb dX7_readBlock_82 (by decide) ?_
              exact ih_j44_15 _ (by have := bx_37.1; have := bx_37.2; have := bd_10.1; have := bd_10.2; have := bx_17_22.1; have := bx_17_22.2; have : (1 : Int32).toInt = 1 := (by decide); have : (6 : Int32).toInt = 6 := (by decide); have : (59 : Int32).toInt = 59 := (by decide); have : (123 : Int32).toInt = 123 := (by decide); have := by2_j44_15.1; have := by2_j44_15.2; omega) ls x_37 F_35 H locs (lv_sub hl [0, 1, 2] rfl) (bx_37.w ⟨by decide, by decide⟩) h ((hfF_16.trans hfF_34 (by decide)).trans hfF_35 (by decide)) rfl
      exact j_j44_15 _ ls 0 F_13 H locs (lv_sub hl [0, 1, 2] rfl) (zB.of ⟨by decide, by decide⟩) h zFr.rf rfl
    · have c_9 := z_nle c_9
      have bd_38 : zB 7 7 d := zB.ltR c_9 (zBc 6 6 (by decide)) bd (by decide)
      refine lv_aload_n hx hb dX7_readBlock_21 rfl (lv_at hl 0 rfl) ?_
      refine lv_iconst (v := 3) hx hb dX7_readBlock_22 (by decide) ?_
      refine zk_Vv (As := [.int 3]) (rest := []) (bytes := cX7_fail) (maxL := 2) (ret := none) Z h (zc_X7_fail l D k Γ L F H.size th 3 tk hth ktk htk) (cwV 1 hg zv_RX7_79 rfl rfl rfl zd_X7_fail ⟨z_leR hRf (by have := bd_38.1; have := bd_38.2; have := bx_8.1; have := bx_8.2; have : (3 : Int32).toInt = 3 := (by decide); have : (6 : Int32).toInt = 6 := (by decide); have : (123 : Int32).toInt = 123 := (by decide); dsimp only; omega), z_leR hRl (by have := bd_38.1; have := bd_38.2; have := bx_8.1; have := bx_8.2; have : (3 : Int32).toInt = 3 := (by decide); have : (6 : Int32).toInt = 6 := (by decide); have : (123 : Int32).toInt = 123 := (by decide); dsimp only; omega)⟩) hth (by decide) rfl rfl hl.1 rfl (Nat.le_of_ble_eq_true rfl) dX7_readBlock_23 ⟨Nat.zero_le _, Nat.zero_le _⟩ (fun F_39 H locs w_40 h hfF_39 => ?_)
      subst hQ
      exact W.vret hx hb hr (fun t ht hW => ⟨⟨F_39, rfl, trivial, by rw [ht]; exact h.1, h.2.1, (hfF_39.w (by decide))⟩, h.2.2.F ht⟩) h.2.2.2.2 dX7_readBlock_26
  · have c_5 := z_ne c_5
    refine lv_aload_n hx hb dX7_readBlock_9 rfl (lv_at hl 0 rfl) ?_
    refine lv_iconst (v := 1) hx hb dX7_readBlock_10 (by decide) ?_
    refine zk_Vv (As := [.int 1]) (rest := []) (bytes := cX7_fail) (maxL := 2) (ret := none) Z h (zc_X7_fail l D k Γ L F H.size th 1 tk hth ktk htk) (cwV 1 hg zv_RX7_79 rfl rfl rfl zd_X7_fail ⟨z_leR hRf (by have := bd.1; have := bd.2; have : (1 : Int32).toInt = 1 := (by decide); have : (123 : Int32).toInt = 123 := (by decide); dsimp only; omega), z_leR hRl (by have := bd.1; have := bd.2; have : (1 : Int32).toInt = 1 := (by decide); have : (123 : Int32).toInt = 123 := (by decide); dsimp only; omega)⟩) hth (by decide) rfl rfl hl.1 rfl (Nat.le_of_ble_eq_true rfl) dX7_readBlock_11 ⟨Nat.zero_le _, Nat.zero_le _⟩ (fun F_41 H locs w_42 h hfF_41 => ?_)
    subst hQ
    exact W.vret hx hb hr (fun t ht hW => ⟨⟨F_41, rfl, trivial, by rw [ht]; exact h.1, h.2.1, (hfF_41.w (by decide))⟩, h.2.2.F ht⟩) h.2.2.2.2 dX7_readBlock_14

theorem zs_block (l : Launch) : ∀ nv : Nat, zR_block l nv := by
  intro nv
  induction nv with
  | zero => exact fun D k Γ L F sz th d pr tk co hth bd kpr hpr ktk htk kco hco hr0 => zc_X7_readBlock l D k Γ L F sz th d pr tk co 0 hth bd kpr hpr ktk htk kco hco hr0 (fun q h9 => by omega)
  | succ nv ih => exact fun D k Γ L F sz th d pr tk co hth bd kpr hpr ktk htk kco hco hr0 => zc_X7_readBlock l D k Γ L F sz th d pr tk co (nv + 1) hth bd kpr hpr ktk htk kco hco hr0 (fun q h9 => by cases (show nv = q by omega); exact ih)

set_option maxHeartbeats 4000000 in
set_option maxRecDepth 100000 in
theorem zc_X7_readFunction (l : Launch) (D : va_G) (k : Nat → ClassId) (Γ : Nat → Option Nat) (L : List Nat) (F : Nat → va_E) (sz : Nat) (th : Nat) (pr : Nat) (tk : Nat) (co : Nat) (hth : Γ th = some 7) (kpr : zfld F th 3 = .ref pr) (hpr : Γ pr = some 6) (ktk : zfld F th 4 = .ref tk) (htk : Γ tk = some 8) (kco : zfld F th 5 = .ref co) (hco : Γ co = some 1) : Met l yX7_readFunction zwX7_readFunction ({ frames := 138, cells := 0, slots := 0, locals := 5622 }) (va_Pc [.ref th] (zP D k Γ L F sz)) (va_Qv (fun (u : Nat → va_E) => True) (zQ D k Γ L F [103, 200, 201, 202, 203, 204, 205, 206, 207, 400, 401, 402, 403, 604, 605, 701, 702, 706, 711, 10200, 10300, 10600, 10700]) (zA L sz)) 0 0 (zA L sz) := by
  refine Met.ofW (cc := cX7_readFunction) (maxL := 3) (ret := none) (by decide) rfl ?_
  intro p e s m args below meth c s₁ B hml hv
  obtain ⟨rfl, hsz, hP, hK, hLn, hE, hI⟩ := hv
  have hx := B.exec
  have hb := B.bytes
  have hr := B.returns
  have hg : ∀ w ∈ zG, w.before _ s = true := fun w h9 => atoms_spec (ws := zwX7_readFunction) B.pre w (List.mem_cons_of_mem _ h9)
  have hown : s.vm.findClass RX7 = some m.cls := findClass_of_methodNamed B.named
  have hlocks := B.notSynchronized
  subst hsz
  have Z : zC p m c cX7_readFunction 3 s _ zG RX7 D k L := ⟨⟨hx, hb, hml, hown, hg⟩, hK, hLn, hE⟩
  have h : zH D k Γ L s F s.heap [] := ⟨hP, hI, va_S.rf⟩
  have hl := lv_entry ([.ref th]) (n := 3) (Nat.le_of_ble_eq_true rfl)
  rw [lg_entry_eq]
  generalize (lg_sl ([.ref th]) ++ List.replicate (3 - (lg_sl ([.ref th])).length) Slot.unset).toArray = ls at hl ⊢
  have hl : lv_has ls 3 [(0, .ref th)] := hl
  clear hP hK hLn hE hI
  generalize hargs : ([.ref th] : List Value).toArray = args at *
  refine z_start (fun R Q hRf hRl hQ => ?_)
  have hRf : R.frames = 138 := hRf
  have hRl : R.locals = 5622 := hRl
  refine lv_aload_n hx hb dX7_readFunction_0 rfl (lv_at hl 0 rfl) ?_
  refine zk_Vi (As := []) (rest := []) (bytes := cX7_kind) (maxL := 2) (ret := (some .int)) Z h (zc_X7_kind l D k Γ L F s.heap.size th tk hth ktk htk) (cwV 0 hg zv_RX7_65 rfl rfl rfl zd_X7_kind ⟨z_leR hRf (by decide), z_leR hRl (by decide)⟩) hth (by decide) rfl rfl hl.1 rfl (Nat.le_of_ble_eq_true rfl) dX7_readFunction_1 ⟨Nat.zero_le _, Nat.zero_le _⟩ (fun r_1 F_2 H locs w_3 h hfF_2 => ?_)
  obtain ⟨rfl, q_4, -⟩ := w_3
  have br_1 := zB.all r_1
  refine lv_iconst (v := 5) hx hb dX7_readFunction_4 (by decide) ?_
  refine lv_icmp_eq (tgt := 14) hx hb dX7_readFunction_5 (by decide) (fun c_5 => ?_) (fun c_5 => ?_)
  · have c_5 := z_eq c_5
    have br_1_6 : zB 5 5 r_1 := zB.eqL (a := 0) (b := 0) c_5 (zBc 5 5 (by decide))
    have c_7 := z_not0 br_1_6 (by decide)
    obtain ⟨x_8, kx_8, bx_8⟩ := q_4 c_7
    refine lv_aload_n hx hb dX7_readFunction_14 rfl (lv_at hl 0 rfl) ?_
    refine zt_getk (t := 7) (C := RX7) (T := TX7) (N := 12) Z h hth zin_7 rfl 3 kpr ⟨by decide, rfl, by decide⟩ (zm_RX7 (List.mem_of_getElem? (i := 2) rfl)) (fun _ h9 => h9) dX7_readFunction_15 ?_
    refine zt_geti (t := 6) (C := RX6) (T := TX6) (N := 6) Z h hpr zin_6 rfl 4 rfl ⟨by decide, rfl⟩ (zm_RX7 (List.mem_of_getElem? (i := 28) rfl)) (fun _ h9 => h9) dX7_readFunction_18 (fun x_9 kx_9 bx_9 => ?_)
    refine lv_istore_n (lv' := [(1, .int x_9), (0, .ref th)]) hx hb dX7_readFunction_21 rfl hl (by decide) rfl (fun ls hl => ?_)
    refine lv_iload_n hx hb dX7_readFunction_22 rfl (lv_at hl 0 rfl) ?_
    refine lv_bipush (v := 10) hx hb dX7_readFunction_23 (by decide) ?_
    refine lv_icmp_lt (tgt := 34) hx hb dX7_readFunction_25 (by decide) (fun c_10 => ?_) (fun c_10 => ?_)
    · have c_10 := z_lt c_10
      have bx_9_11 : zB 0 9 x_9 := zB.ltL c_10 bx_9 (zBc 10 10 (by decide)) (by decide)
      refine lv_aload_n hx hb dX7_readFunction_34 rfl (lv_at hl 1 rfl) ?_
      refine zt_getk (t := 7) (C := RX7) (T := TX7) (N := 12) Z h hth zin_7 rfl 3 kpr ⟨by decide, rfl, by decide⟩ (zm_RX7 (List.mem_of_getElem? (i := 2) rfl)) (fun _ h9 => h9) dX7_readFunction_35 ?_
      refine zt_getr (t := 6) (C := RX6) (T := TX6) (N := 6) Z h hpr zin_6 rfl 2 rfl ⟨by decide, rfl⟩ (zm_RX7 (List.mem_of_getElem? (i := 29) rfl)) (fun _ h9 => h9) dX7_readFunction_38 (fun a_12 ka_12 ha_12 => ?_)
      refine lv_iload_n hx hb dX7_readFunction_41 rfl (lv_at hl 0 rfl) ?_
      refine zt_aald (t := 104) (t1 := 2) Z h ha_12 ⟨by decide, rfl⟩ (by decide) bx_9_11 ⟨by decide, by decide⟩ dX7_readFunction_42 (fun a_13 ha_13 => ?_)
      refine lv_astore_n (lv' := [(2, .ref a_13), (1, .int x_9), (0, .ref th)]) hx hb dX7_readFunction_43 rfl hl (by decide) rfl (fun ls hl => ?_)
      refine lv_aload_n hx hb dX7_readFunction_44 rfl (lv_at hl 0 rfl) ?_
      refine lv_aload_n hx hb dX7_readFunction_45 rfl (lv_at hl 2 rfl) ?_
      refine zt_getk (t := 7) (C := RX7) (T := TX7) (N := 12) Z h hth zin_7 rfl 6 kx_8 ⟨by decide, rfl, by decide⟩ (zm_RX7 (List.mem_of_getElem? (i := 9) rfl)) (fun _ h9 => h9) dX7_readFunction_46 ?_
      refine lv_aload_n hx hb dX7_readFunction_49 rfl (lv_at hl 2 rfl) ?_
      refine zt_getk (t := 7) (C := RX7) (T := TX7) (N := 12) Z h hth zin_7 rfl 3 kpr ⟨by decide, rfl, by decide⟩ (zm_RX7 (List.mem_of_getElem? (i := 2) rfl)) (fun _ h9 => h9) dX7_readFunction_50 ?_
      refine zt_geti (t := 6) (C := RX6) (T := TX6) (N := 6) Z h hpr zin_6 rfl 5 rfl ⟨by decide, rfl⟩ (zm_RX7 (List.mem_of_getElem? (i := 30) rfl)) (fun _ h9 => h9) dX7_readFunction_53 (fun x_14 kx_14 bx_14 => ?_)
      refine lv_aload_n hx hb dX7_readFunction_56 rfl (lv_at hl 2 rfl) ?_
      refine zt_getk (t := 7) (C := RX7) (T := TX7) (N := 12) Z h hth zin_7 rfl 5 kco ⟨by decide, rfl, by decide⟩ (zm_RX7 (List.mem_of_getElem? (i := 6) rfl)) (fun _ h9 => h9) dX7_readFunction_57 ?_
      refine zt_geti (t := 1) (C := RX1) (T := TX1) (N := 4) Z h hco zin_1 rfl 3 rfl ⟨by decide, rfl⟩ (zm_RX7 (List.mem_of_getElem? (i := 31) rfl)) (fun _ h9 => h9) dX7_readFunction_60 (fun x_15 kx_15 bx_15 => ?_)
      refine zk_Vv (As := [.int x_8, .int x_14, .int x_15]) (rest := []) (bytes := cX2_begin) (maxL := 4) (ret := none) Z h (zc_X2_begin l D k Γ L F H.size a_13 x_8 x_14 x_15 ha_13 (bx_8.w ⟨by decide, by decide⟩)) (cwV 3 hg zv_RX7_98 rfl rfl rfl zd_X2_begin ⟨z_leR hRf (by decide), z_leR hRl (by decide)⟩) ha_13 (by decide) rfl rfl hl.1 rfl (Nat.le_of_ble_eq_true rfl) dX7_readFunction_63 ⟨Nat.zero_le _, Nat.zero_le _⟩ (fun F_16 H locs w_17 h hfF_16 => ?_)
      refine lv_aload_n hx hb dX7_readFunction_66 rfl (lv_at hl 2 rfl) ?_
      refine lv_dup hx hb dX7_readFunction_67 rfl ?_
      refine zt_getk (t := 7) (C := RX7) (T := TX7) (N := 12) Z h hth zin_7 rfl 6 (hfF_16.f hth 6 ⟨by decide, by decide⟩ kx_8) ⟨by decide, rfl, by decide⟩ (zm_RX7 (List.mem_of_getElem? (i := 9) rfl)) (fun _ h9 => h9) dX7_readFunction_68 ?_
      refine lv_iconst (v := 1) hx hb dX7_readFunction_71 (by decide) ?_
      refine lv_iadd hx hb dX7_readFunction_72 ?_
      refine zi_add (lo := 1) (hi := 601) bx_8 (zBc 1 1 (by decide)) (by decide) (fun x_18 bx_18 tx_18 => ?_)
      refine zt_put (t := 7) (C := RX7) (T := TX7) (N := 12) (v := .int x_18) Z h hth zin_7 tyX7 tyX7_ok nmX7 rfl 6 rfl ⟨by decide, rfl⟩ (zm_RX7 (List.mem_of_getElem? (i := 9) rfl)) (fun _ h9 => h9) rfl (zV.i (bx_18.w ⟨by decide, by decide⟩)) rfl rfl dX7_readFunction_73 (fun H locs F_19 h hfF_19 kF_19 => ?_)
      refine lv_aload_n hx hb dX7_readFunction_76 rfl (lv_at hl 2 rfl) ?_
      refine lv_aload_n hx hb dX7_readFunction_77 rfl (lv_at hl 0 rfl) ?_
      refine zk_Vv (As := [.ref a_13]) (rest := []) (bytes := cX7_readName) (maxL := 2) (ret := none) Z h (zc_X7_readName l D k Γ L F_19 H.size th a_13 pr tk hth ha_13 (hfF_19.f hth 3 ⟨by decide, by decide⟩ (hfF_16.f hth 3 ⟨by decide, by decide⟩ kpr)) hpr (hfF_19.f hth 4 ⟨by decide, by decide⟩ (hfF_16.f hth 4 ⟨by decide, by decide⟩ ktk)) htk) (cwV 1 hg zv_RX7_104 rfl rfl rfl zd_X7_readName ⟨z_leR hRf (by decide), z_leR hRl (by decide)⟩) hth (by decide) rfl rfl hl.1 rfl (Nat.le_of_ble_eq_true rfl) dX7_readFunction_78 ⟨Nat.zero_le _, Nat.zero_le _⟩ (fun F_20 H locs w_21 h hfF_20 => ?_)
      refine lv_aload_n hx hb dX7_readFunction_81 rfl (lv_at hl 2 rfl) ?_
      refine lv_bipush (v := 40) hx hb dX7_readFunction_82 (by decide) ?_
      refine zk_Vv (As := [.int 40]) (rest := []) (bytes := cX7_take) (maxL := 2) (ret := none) Z h (zc_X7_take l D k Γ L F_20 H.size th 40 tk hth (zB.of ⟨by decide, by decide⟩) (hfF_20.f hth 4 ⟨by decide, by decide⟩ (hfF_19.f hth 4 ⟨by decide, by decide⟩ (hfF_16.f hth 4 ⟨by decide, by decide⟩ ktk))) htk) (cwV 1 hg zv_RX7_108 rfl rfl rfl zd_X7_take ⟨z_leR hRf (by decide), z_leR hRl (by decide)⟩) hth (by decide) rfl rfl hl.1 rfl (Nat.le_of_ble_eq_true rfl) dX7_readFunction_84 ⟨Nat.zero_le _, Nat.zero_le _⟩ (fun F_22 H locs w_23 h hfF_22 => ?_)
      refine lv_aload_n hx hb dX7_readFunction_87 rfl (lv_at hl 2 rfl) ?_
      refine lv_aload_n hx hb dX7_readFunction_88 rfl (lv_at hl 0 rfl) ?_
      refine zk_Vv (As := [.ref a_13]) (rest := []) (bytes := cX7_readPlaces) (maxL := 3) (ret := none) Z h (zc_X7_readPlaces l D k Γ L F_22 H.size th a_13 tk hth ha_13 (hfF_22.f hth 4 ⟨by decide, by decide⟩ (hfF_20.f hth 4 ⟨by decide, by decide⟩ (hfF_19.f hth 4 ⟨by decide, by decide⟩ (hfF_16.f hth 4 ⟨by decide, by decide⟩ ktk)))) htk) (cwV 1 hg zv_RX7_111 rfl rfl rfl zd_X7_readPlaces ⟨z_leR hRf (by decide), z_leR hRl (by decide)⟩) hth (by decide) rfl rfl hl.1 rfl (Nat.le_of_ble_eq_true rfl) dX7_readFunction_89 ⟨Nat.zero_le _, Nat.zero_le _⟩ (fun F_24 H locs w_25 h hfF_24 => ?_)
      refine lv_aload_n hx hb dX7_readFunction_92 rfl (lv_at hl 2 rfl) ?_
      refine lv_bipush (v := 41) hx hb dX7_readFunction_93 (by decide) ?_
      refine zk_Vv (As := [.int 41]) (rest := []) (bytes := cX7_take) (maxL := 2) (ret := none) Z h (zc_X7_take l D k Γ L F_24 H.size th 41 tk hth (zB.of ⟨by decide, by decide⟩) (hfF_24.f hth 4 ⟨by decide, by decide⟩ (hfF_22.f hth 4 ⟨by decide, by decide⟩ (hfF_20.f hth 4 ⟨by decide, by decide⟩ (hfF_19.f hth 4 ⟨by decide, by decide⟩ (hfF_16.f hth 4 ⟨by decide, by decide⟩ ktk))))) htk) (cwV 1 hg zv_RX7_108 rfl rfl rfl zd_X7_take ⟨z_leR hRf (by decide), z_leR hRl (by decide)⟩) hth (by decide) rfl rfl hl.1 rfl (Nat.le_of_ble_eq_true rfl) dX7_readFunction_95 ⟨Nat.zero_le _, Nat.zero_le _⟩ (fun F_26 H locs w_27 h hfF_26 => ?_)
      refine lv_aload_n hx hb dX7_readFunction_98 rfl (lv_at hl 2 rfl) ?_
      refine lv_iconst (v := 1) hx hb dX7_readFunction_99 (by decide) ?_
      refine zk_Vv (As := [.int 1]) (rest := []) (bytes := cX7_readBlock) (maxL := 3) (ret := none) Z h (zs_block l 6 D k Γ L F_26 H.size th 1 pr tk co  hth (zB.of ⟨by decide, by decide⟩) (hfF_26.f hth 3 ⟨by decide, by decide⟩ (hfF_24.f hth 3 ⟨by decide, by decide⟩ (hfF_22.f hth 3 ⟨by decide, by decide⟩ (hfF_20.f hth 3 ⟨by decide, by decide⟩ (hfF_19.f hth 3 ⟨by decide, by decide⟩ (hfF_16.f hth 3 ⟨by decide, by decide⟩ kpr)))))) hpr (hfF_26.f hth 4 ⟨by decide, by decide⟩ (hfF_24.f hth 4 ⟨by decide, by decide⟩ (hfF_22.f hth 4 ⟨by decide, by decide⟩ (hfF_20.f hth 4 ⟨by decide, by decide⟩ (hfF_19.f hth 4 ⟨by decide, by decide⟩ (hfF_16.f hth 4 ⟨by decide, by decide⟩ ktk)))))) htk (hfF_26.f hth 5 ⟨by decide, by decide⟩ (hfF_24.f hth 5 ⟨by decide, by decide⟩ (hfF_22.f hth 5 ⟨by decide, by decide⟩ (hfF_20.f hth 5 ⟨by decide, by decide⟩ (hfF_19.f hth 5 ⟨by decide, by decide⟩ (hfF_16.f hth 5 ⟨by decide, by decide⟩ kco)))))) hco (by have := bx_9_11.1; have := bx_9_11.2; have := bx_14.1; have := bx_14.2; have := bx_15.1; have := bx_15.2; have : (1 : Int32).toInt = 1 := (by decide); have : (5 : Int32).toInt = 5 := (by decide); have : (10 : Int32).toInt = 10 := (by decide); omega)) (cwV 1 hg zv_RX7_114 rfl rfl rfl zd_X7_readBlock ⟨z_leR hRf (by decide), z_leR hRl (by decide)⟩) hth (by decide) rfl rfl hl.1 rfl (Nat.le_of_ble_eq_true rfl) dX7_readFunction_100 ⟨Nat.zero_le _, Nat.zero_le _⟩ (fun F_28 H locs w_29 h hfF_28 => ?_)
      refine lv_aload_n hx hb dX7_readFunction_103 rfl (lv_at hl 2 rfl) ?_
      refine zt_getk (t := 7) (C := RX7) (T := TX7) (N := 12) Z h hth zin_7 rfl 5 (hfF_28.f hth 5 ⟨by decide, by decide⟩ (hfF_26.f hth 5 ⟨by decide, by decide⟩ (hfF_24.f hth 5 ⟨by decide, by decide⟩ (hfF_22.f hth 5 ⟨by decide, by decide⟩ (hfF_20.f hth 5 ⟨by decide, by decide⟩ (hfF_19.f hth 5 ⟨by decide, by decide⟩ (hfF_16.f hth 5 ⟨by decide, by decide⟩ kco))))))) ⟨by decide, rfl, by decide⟩ (zm_RX7 (List.mem_of_getElem? (i := 6) rfl)) (fun _ h9 => h9) dX7_readFunction_104 ?_
      refine lv_bipush (v := 16) hx hb dX7_readFunction_107 (by decide) ?_
      refine lv_iconst (v := 0) hx hb dX7_readFunction_109 (by decide) ?_
      refine lv_iconst (v := 0) hx hb dX7_readFunction_110 (by decide) ?_
      refine zk_Vi (As := [.int 16, .int 0, .int 0]) (rest := []) (bytes := cX1_add) (maxL := 4) (ret := (some .int)) Z h (zc_X1_add l D k Γ L F_28 H.size co 16 0 0 hco) (cwV 3 hg zv_RX7_117 rfl rfl rfl zd_X1_add ⟨z_leR hRf (by decide), z_leR hRl (by decide)⟩) hco (by decide) rfl rfl hl.1 rfl (Nat.le_of_ble_eq_true rfl) dX7_readFunction_111 ⟨Nat.zero_le _, Nat.zero_le _⟩ (fun r_30 F_31 H locs w_32 h hfF_31 => ?_)
      obtain ⟨br_30, -⟩ := w_32
      refine lv_pop hx hb dX7_readFunction_114 rfl ?_
      refine lv_aload_n hx hb dX7_readFunction_115 rfl (lv_at hl 0 rfl) ?_
      refine lv_aload_n hx hb dX7_readFunction_116 rfl (lv_at hl 2 rfl) ?_
      refine zt_geti (t := 7) (C := RX7) (T := TX7) (N := 12) Z h hth zin_7 rfl 6 rfl ⟨by decide, rfl⟩ (zm_RX7 (List.mem_of_getElem? (i := 9) rfl)) (fun _ h9 => h9) dX7_readFunction_117 (fun x_33 kx_33 bx_33 => ?_)
      refine lv_iconst (v := 1) hx hb dX7_readFunction_120 (by decide) ?_
      refine lv_isub hx hb dX7_readFunction_121 ?_
      refine zi_sub (lo := (-2)) (hi := 600) bx_33 (zBc 1 1 (by decide)) (by decide) (fun x_34 bx_34 tx_34 => ?_)
      refine zt_put (t := 2) (C := RX2) (T := TX2) (N := 9) (v := .int x_34) Z h ha_13 zin_2 tyX2 tyX2_ok nmX2 rfl 2 rfl ⟨by decide, rfl⟩ (zm_RX7 (List.mem_of_getElem? (i := 46) rfl)) (fun _ h9 => h9) rfl (zV.i bx_34) rfl rfl dX7_readFunction_122 (fun H locs F_35 h hfF_35 kF_35 => ?_)
      refine lv_aload_n hx hb dX7_readFunction_125 rfl (lv_at hl 0 rfl) ?_
      refine lv_aload_n hx hb dX7_readFunction_126 rfl (lv_at hl 2 rfl) ?_
      refine zt_getk (t := 7) (C := RX7) (T := TX7) (N := 12) Z h hth zin_7 rfl 3 (hfF_35.f hth 3 ⟨by decide, by decide⟩ (hfF_31.f hth 3 ⟨by decide, by decide⟩ (hfF_28.f hth 3 ⟨by decide, by decide⟩ (hfF_26.f hth 3 ⟨by decide, by decide⟩ (hfF_24.f hth 3 ⟨by decide, by decide⟩ (hfF_22.f hth 3 ⟨by decide, by decide⟩ (hfF_20.f hth 3 ⟨by decide, by decide⟩ (hfF_19.f hth 3 ⟨by decide, by decide⟩ (hfF_16.f hth 3 ⟨by decide, by decide⟩ kpr))))))))) ⟨by decide, rfl, by decide⟩ (zm_RX7 (List.mem_of_getElem? (i := 2) rfl)) (fun _ h9 => h9) dX7_readFunction_127 ?_
      refine zt_geti (t := 6) (C := RX6) (T := TX6) (N := 6) Z h hpr zin_6 rfl 5 rfl ⟨by decide, rfl⟩ (zm_RX7 (List.mem_of_getElem? (i := 30) rfl)) (fun _ h9 => h9) dX7_readFunction_130 (fun x_36 kx_36 bx_36 => ?_)
      refine lv_aload_n hx hb dX7_readFunction_133 rfl (lv_at hl 0 rfl) ?_
      refine zt_geti (t := 2) (C := RX2) (T := TX2) (N := 9) Z h ha_13 zin_2 rfl 3 rfl ⟨by decide, rfl⟩ (zm_RX7 (List.mem_of_getElem? (i := 47) rfl)) (fun _ h9 => h9) dX7_readFunction_134 (fun x_37 kx_37 bx_37 => ?_)
      refine lv_isub hx hb dX7_readFunction_137 ?_
      refine zi_any (fun x_38 bx_38 ex_38 => ?_)
      refine zt_put (t := 2) (C := RX2) (T := TX2) (N := 9) (v := .int x_38) Z h ha_13 zin_2 tyX2 tyX2_ok nmX2 rfl 4 rfl ⟨by decide, rfl⟩ (zm_RX7 (List.mem_of_getElem? (i := 48) rfl)) (fun _ h9 => h9) rfl (zV.i bx_38) rfl rfl dX7_readFunction_138 (fun H locs F_39 h hfF_39 kF_39 => ?_)
      refine lv_aload_n hx hb dX7_readFunction_141 rfl (lv_at hl 2 rfl) ?_
      refine zt_getk (t := 7) (C := RX7) (T := TX7) (N := 12) Z h hth zin_7 rfl 3 (hfF_39.f hth 3 ⟨by decide, by decide⟩ (hfF_35.f hth 3 ⟨by decide, by decide⟩ (hfF_31.f hth 3 ⟨by decide, by decide⟩ (hfF_28.f hth 3 ⟨by decide, by decide⟩ (hfF_26.f hth 3 ⟨by decide, by decide⟩ (hfF_24.f hth 3 ⟨by decide, by decide⟩ (hfF_22.f hth 3 ⟨by decide, by decide⟩ (hfF_20.f hth 3 ⟨by decide, by decide⟩ (hfF_19.f hth 3 ⟨by decide, by decide⟩ (hfF_16.f hth 3 ⟨by decide, by decide⟩ kpr)))))))))) ⟨by decide, rfl, by decide⟩ (zm_RX7 (List.mem_of_getElem? (i := 2) rfl)) (fun _ h9 => h9) dX7_readFunction_142 ?_
      refine lv_dup hx hb dX7_readFunction_145 rfl ?_
      refine zt_getk (t := 6) (C := RX6) (T := TX6) (N := 6) Z h hpr zin_6 rfl 4 (hfF_39.f hpr 4 ⟨by decide, by decide⟩ (hfF_35.f hpr 4 ⟨by decide, by decide⟩ (hfF_31.f hpr 4 ⟨by decide, by decide⟩ (hfF_28.f hpr 4 ⟨by decide, by decide⟩ (hfF_26.f hpr 4 ⟨by decide, by decide⟩ (hfF_24.f hpr 4 ⟨by decide, by decide⟩ (hfF_22.f hpr 4 ⟨by decide, by decide⟩ (hfF_20.f hpr 4 ⟨by decide, by decide⟩ (hfF_19.f hpr 4 ⟨by decide, by decide⟩ (hfF_16.f hpr 4 ⟨by decide, by decide⟩ kx_9)))))))))) ⟨by decide, rfl, by decide⟩ (zm_RX7 (List.mem_of_getElem? (i := 28) rfl)) (fun _ h9 => h9) dX7_readFunction_146 ?_
      refine lv_iconst (v := 1) hx hb dX7_readFunction_149 (by decide) ?_
      refine lv_iadd hx hb dX7_readFunction_150 ?_
      refine zi_add (lo := 1) (hi := 10) bx_9_11 (zBc 1 1 (by decide)) (by decide) (fun x_40 bx_40 tx_40 => ?_)
      refine zt_put (t := 6) (C := RX6) (T := TX6) (N := 6) (v := .int x_40) Z h hpr zin_6 tyX6 tyX6_ok nmX6 rfl 4 rfl ⟨by decide, rfl⟩ (zm_RX7 (List.mem_of_getElem? (i := 28) rfl)) (fun _ h9 => h9) rfl (zV.i (bx_40.w ⟨by decide, by decide⟩)) rfl rfl dX7_readFunction_151 (fun H locs F_41 h hfF_41 kF_41 => ?_)
      subst hQ
      exact W.vret hx hb hr (fun t ht hW => ⟨⟨F_41, rfl, trivial, by rw [ht]; exact h.1, h.2.1, (((((((((((hfF_16.w (by decide)).trans hfF_19 (by decide)).trans hfF_20 (by decide)).trans hfF_22 (by decide)).trans hfF_24 (by decide)).trans hfF_26 (by decide)).trans hfF_28 (by decide)).trans hfF_31 (by decide)).trans hfF_35 (by decide)).trans hfF_39 (by decide)).trans hfF_41 (by decide))⟩, h.2.2.F ht⟩) h.2.2.2.2 dX7_readFunction_154
    · have c_10 := z_nlt c_10
      have bx_9_42 : zB 10 10 x_9 := zB.leR c_10 (zBc 10 10 (by decide)) bx_9 (by decide)
      refine lv_aload_n hx hb dX7_readFunction_28 rfl (lv_at hl 1 rfl) ?_
      refine lv_iconst (v := 3) hx hb dX7_readFunction_29 (by decide) ?_
      refine zk_Vv (As := [.int 3]) (rest := []) (bytes := cX7_fail) (maxL := 2) (ret := none) Z h (zc_X7_fail l D k Γ L F H.size th 3 tk hth ktk htk) (cwV 1 hg zv_RX7_79 rfl rfl rfl zd_X7_fail ⟨z_leR hRf (by decide), z_leR hRl (by decide)⟩) hth (by decide) rfl rfl hl.1 rfl (Nat.le_of_ble_eq_true rfl) dX7_readFunction_30 ⟨Nat.zero_le _, Nat.zero_le _⟩ (fun F_43 H locs w_44 h hfF_43 => ?_)
      subst hQ
      exact W.vret hx hb hr (fun t ht hW => ⟨⟨F_43, rfl, trivial, by rw [ht]; exact h.1, h.2.1, (hfF_43.w (by decide))⟩, h.2.2.F ht⟩) h.2.2.2.2 dX7_readFunction_33
  · have c_5 := z_ne c_5
    refine lv_aload_n hx hb dX7_readFunction_8 rfl (lv_at hl 0 rfl) ?_
    refine lv_iconst (v := 1) hx hb dX7_readFunction_9 (by decide) ?_
    refine zk_Vv (As := [.int 1]) (rest := []) (bytes := cX7_fail) (maxL := 2) (ret := none) Z h (zc_X7_fail l D k Γ L F H.size th 1 tk hth ktk htk) (cwV 1 hg zv_RX7_79 rfl rfl rfl zd_X7_fail ⟨z_leR hRf (by decide), z_leR hRl (by decide)⟩) hth (by decide) rfl rfl hl.1 rfl (Nat.le_of_ble_eq_true rfl) dX7_readFunction_10 ⟨Nat.zero_le _, Nat.zero_le _⟩ (fun F_45 H locs w_46 h hfF_45 => ?_)
    subst hQ
    exact W.vret hx hb hr (fun t ht hW => ⟨⟨F_45, rfl, trivial, by rw [ht]; exact h.1, h.2.1, (hfF_45.w (by decide))⟩, h.2.2.F ht⟩) h.2.2.2.2 dX7_readFunction_13

set_option maxHeartbeats 4000000 in
set_option maxRecDepth 100000 in
theorem zc_X7_read (l : Launch) (D : va_G) (k : Nat → ClassId) (Γ : Nat → Option Nat) (L : List Nat) (F : Nat → va_E) (sz : Nat) (th : Nat) (ta : Nat) (q : Int32) (in_ : Nat) (hth : Γ th = some 7) (hta : Γ ta = some 100) (hin_ : Γ in_ = some 6) : Met l yX7_read zwX7_read ({ frames := 139, cells := 0, slots := 0, locals := 5644 }) (va_Pc [.ref th, .ref ta, .int q, .ref in_] (zP D k Γ L F sz)) (va_Qi (fun (r : Int32) (u : Nat → va_E) => True) (zQ D k Γ L F [103, 200, 201, 202, 203, 204, 205, 206, 207, 400, 401, 402, 403, 604, 605, 700, 701, 702, 703, 704, 705, 706, 711, 801, 805, 10000, 10100, 10200, 10300, 10600, 10700]) (zA L sz)) 0 0 (zA L sz) := by
  refine Met.ofW (cc := cX7_read) (maxL := 5) (ret := (some .int)) (by decide) rfl ?_
  intro p e s m args below meth c s₁ B hml hv
  obtain ⟨rfl, hsz, hP, hK, hLn, hE, hI⟩ := hv
  have hx := B.exec
  have hb := B.bytes
  have hr := B.returns
  have hg : ∀ w ∈ zG, w.before _ s = true := fun w h9 => atoms_spec (ws := zwX7_read) B.pre w (List.mem_cons_of_mem _ h9)
  have hown : s.vm.findClass RX7 = some m.cls := findClass_of_methodNamed B.named
  have hlocks := B.notSynchronized
  subst hsz
  have Z : zC p m c cX7_read 5 s _ zG RX7 D k L := ⟨⟨hx, hb, hml, hown, hg⟩, hK, hLn, hE⟩
  have h : zH D k Γ L s F s.heap [] := ⟨hP, hI, va_S.rf⟩
  have hl := lv_entry ([.ref th, .ref ta, .int q, .ref in_]) (n := 5) (Nat.le_of_ble_eq_true rfl)
  rw [lg_entry_eq]
  generalize (lg_sl ([.ref th, .ref ta, .int q, .ref in_]) ++ List.replicate (5 - (lg_sl ([.ref th, .ref ta, .int q, .ref in_])).length) Slot.unset).toArray = ls at hl ⊢
  have hl : lv_has ls 5 [(0, .ref th), (1, .ref ta), (2, .int q), (3, .ref in_)] := hl
  clear hP hK hLn hE hI
  generalize hargs : ([.ref th, .ref ta, .int q, .ref in_] : List Value).toArray = args at *
  refine z_start (fun R Q hRf hRl hQ => ?_)
  have hRf : R.frames = 139 := hRf
  have hRl : R.locals = 5644 := hRl
  refine lv_aload_n hx hb dX7_read_0 rfl (lv_at hl 0 rfl) ?_
  refine lv_aload_n hx hb dX7_read_1 rfl (lv_at hl 3 rfl) ?_
  refine zt_put (t := 7) (C := RX7) (T := TX7) (N := 12) (v := .ref in_) Z h hth zin_7 tyX7 tyX7_ok nmX7 rfl 3 rfl ⟨by decide, rfl⟩ (zm_RX7 (List.mem_of_getElem? (i := 2) rfl)) (fun _ h9 => h9) rfl (zV.rn hin_ rfl) rfl rfl dX7_read_2 (fun H locs F_1 h hfF_1 kF_1 => ?_)
  refine lv_aload_n hx hb dX7_read_5 rfl (lv_at hl 0 rfl) ?_
  refine lv_aload_n hx hb dX7_read_6 rfl (lv_at hl 3 rfl) ?_
  refine zt_getr (t := 6) (C := RX6) (T := TX6) (N := 6) Z h hin_ zin_6 rfl 0 rfl ⟨by decide, rfl⟩ (zm_RX7 (List.mem_of_getElem? (i := 3) rfl)) (fun _ h9 => h9) dX7_read_7 (fun a_2 ka_2 ha_2 => ?_)
  refine zt_put (t := 7) (C := RX7) (T := TX7) (N := 12) (v := .ref a_2) Z h hth zin_7 tyX7 tyX7_ok nmX7 rfl 4 rfl ⟨by decide, rfl⟩ (zm_RX7 (List.mem_of_getElem? (i := 4) rfl)) (fun _ h9 => h9) rfl (zV.rn ha_2 rfl) rfl rfl dX7_read_10 (fun H locs F_3 h hfF_3 kF_3 => ?_)
  refine lv_aload_n hx hb dX7_read_13 rfl (lv_at hl 0 rfl) ?_
  refine lv_aload_n hx hb dX7_read_14 rfl (lv_at hl 3 rfl) ?_
  refine zt_getr (t := 6) (C := RX6) (T := TX6) (N := 6) Z h hin_ zin_6 rfl 1 rfl ⟨by decide, rfl⟩ (zm_RX7 (List.mem_of_getElem? (i := 5) rfl)) (fun _ h9 => h9) dX7_read_15 (fun a_4 ka_4 ha_4 => ?_)
  refine zt_put (t := 7) (C := RX7) (T := TX7) (N := 12) (v := .ref a_4) Z h hth zin_7 tyX7 tyX7_ok nmX7 rfl 5 rfl ⟨by decide, rfl⟩ (zm_RX7 (List.mem_of_getElem? (i := 6) rfl)) (fun _ h9 => h9) rfl (zV.rn ha_4 rfl) rfl rfl dX7_read_18 (fun H locs F_5 h hfF_5 kF_5 => ?_)
  refine lv_aload_n hx hb dX7_read_21 rfl (lv_at hl 0 rfl) ?_
  refine zt_getk (t := 7) (C := RX7) (T := TX7) (N := 12) Z h hth zin_7 rfl 3 (hfF_5.f hth 3 ⟨by decide, by decide⟩ (hfF_3.f hth 3 ⟨by decide, by decide⟩ kF_1)) ⟨by decide, rfl, by decide⟩ (zm_RX7 (List.mem_of_getElem? (i := 2) rfl)) (fun _ h9 => h9) dX7_read_22 ?_
  refine zk_Vv (As := []) (rest := []) (bytes := cX6_clear) (maxL := 1) (ret := none) Z h (zc_X6_clear l D k Γ L F_5 H.size in_ hin_) (cwV 0 hg zv_RX7_40 rfl rfl rfl zd_X6_clear ⟨z_leR hRf (by decide), z_leR hRl (by decide)⟩) hin_ (by decide) rfl rfl hl.1 rfl (Nat.le_of_ble_eq_true rfl) dX7_read_25 ⟨Nat.zero_le _, Nat.zero_le _⟩ (fun F_6 H locs w_7 h hfF_6 => ?_)
  refine lv_aload_n hx hb dX7_read_28 rfl (lv_at hl 0 rfl) ?_
  refine zt_getk (t := 7) (C := RX7) (T := TX7) (N := 12) Z h hth zin_7 rfl 4 (hfF_6.f hth 4 ⟨by decide, by decide⟩ (hfF_5.f hth 4 ⟨by decide, by decide⟩ kF_3)) ⟨by decide, rfl, by decide⟩ (zm_RX7 (List.mem_of_getElem? (i := 4) rfl)) (fun _ h9 => h9) dX7_read_29 ?_
  refine lv_aload_n hx hb dX7_read_32 rfl (lv_at hl 1 rfl) ?_
  refine lv_iload_n hx hb dX7_read_33 rfl (lv_at hl 2 rfl) ?_
  refine zk_Vv (As := [.ref ta, .int q]) (rest := []) (bytes := cX8_cut) (maxL := 5) (ret := none) Z h (zc_X8_cut l D k Γ L F_6 H.size a_2 ta q ha_2 hta) (cwV 2 hg zv_RX7_43 rfl rfl rfl zd_X8_cut ⟨z_leR hRf (by decide), z_leR hRl (by decide)⟩) ha_2 (by decide) rfl rfl hl.1 rfl (Nat.le_of_ble_eq_true rfl) dX7_read_34 ⟨Nat.zero_le _, Nat.zero_le _⟩ (fun F_8 H locs w_9 h hfF_8 => ?_)
  refine lv_aload_n hx hb dX7_read_37 rfl (lv_at hl 0 rfl) ?_
  refine lv_iconst (v := 0) hx hb dX7_read_38 (by decide) ?_
  refine zt_put (t := 7) (C := RX7) (T := TX7) (N := 12) (v := .int 0) Z h hth zin_7 tyX7 tyX7_ok nmX7 rfl 6 rfl ⟨by decide, rfl⟩ (zm_RX7 (List.mem_of_getElem? (i := 9) rfl)) (fun _ h9 => h9) rfl (zV.i (zB.of ⟨by decide, by decide⟩)) rfl rfl dX7_read_39 (fun H locs F_10 h hfF_10 kF_10 => ?_)
  refine lv_aload_n hx hb dX7_read_42 rfl (lv_at hl 0 rfl) ?_
  refine lv_iconst (v := 0) hx hb dX7_read_43 (by decide) ?_
  refine zt_put (t := 7) (C := RX7) (T := TX7) (N := 12) (v := .int 0) Z h hth zin_7 tyX7 tyX7_ok nmX7 rfl 11 rfl ⟨by decide, rfl⟩ (zm_RX7 (List.mem_of_getElem? (i := 10) rfl)) (fun _ h9 => h9) rfl (zV.i (zB.of ⟨by decide, by decide⟩)) rfl rfl dX7_read_44 (fun H locs F_11 h hfF_11 kF_11 => ?_)
  refine lv_aload_n hx hb dX7_read_47 rfl (lv_at hl 0 rfl) ?_
  refine lv_iconst (v := 0) hx hb dX7_read_48 (by decide) ?_
  refine zt_put (t := 7) (C := RX7) (T := TX7) (N := 12) (v := .int 0) Z h hth zin_7 tyX7 tyX7_ok nmX7 rfl 1 rfl ⟨by decide, rfl⟩ (zm_RX7 (List.mem_of_getElem? (i := 11) rfl)) (fun _ h9 => h9) rfl (zV.i (zB.of ⟨by decide, by decide⟩)) rfl rfl dX7_read_49 (fun H locs F_12 h hfF_12 kF_12 => ?_)
  refine lv_aload_n hx hb dX7_read_52 rfl (lv_at hl 0 rfl) ?_
  refine lv_iconst (v := 0) hx hb dX7_read_53 (by decide) ?_
  refine zt_put (t := 7) (C := RX7) (T := TX7) (N := 12) (v := .int 0) Z h hth zin_7 tyX7 tyX7_ok nmX7 rfl 2 rfl ⟨by decide, rfl⟩ (zm_RX7 (List.mem_of_getElem? (i := 12) rfl)) (fun _ h9 => h9) rfl (zV.i (zB.of ⟨by decide, by decide⟩)) rfl rfl dX7_read_54 (fun H locs F_13 h hfF_13 kF_13 => ?_)
  refine lv_aload_n hx hb dX7_read_57 rfl (lv_at hl 0 rfl) ?_
  refine zk_Vv (As := []) (rest := []) (bytes := cX7_readFunction) (maxL := 3) (ret := none) Z h (zc_X7_readFunction l D k Γ L F_13 H.size th in_ a_2 a_4 hth (hfF_13.f hth 3 ⟨by decide, by decide⟩ (hfF_12.f hth 3 ⟨by decide, by decide⟩ (hfF_11.f hth 3 ⟨by decide, by decide⟩ (hfF_10.f hth 3 ⟨by decide, by decide⟩ (hfF_8.f hth 3 ⟨by decide, by decide⟩ (hfF_6.f hth 3 ⟨by decide, by decide⟩ (hfF_5.f hth 3 ⟨by decide, by decide⟩ (hfF_3.f hth 3 ⟨by decide, by decide⟩ kF_1)))))))) hin_ (hfF_13.f hth 4 ⟨by decide, by decide⟩ (hfF_12.f hth 4 ⟨by decide, by decide⟩ (hfF_11.f hth 4 ⟨by decide, by decide⟩ (hfF_10.f hth 4 ⟨by decide, by decide⟩ (hfF_8.f hth 4 ⟨by decide, by decide⟩ (hfF_6.f hth 4 ⟨by decide, by decide⟩ (hfF_5.f hth 4 ⟨by decide, by decide⟩ kF_3))))))) ha_2 (hfF_13.f hth 5 ⟨by decide, by decide⟩ (hfF_12.f hth 5 ⟨by decide, by decide⟩ (hfF_11.f hth 5 ⟨by decide, by decide⟩ (hfF_10.f hth 5 ⟨by decide, by decide⟩ (hfF_8.f hth 5 ⟨by decide, by decide⟩ (hfF_6.f hth 5 ⟨by decide, by decide⟩ kF_5)))))) ha_4) (cwV 0 hg zv_RX7_62 rfl rfl rfl zd_X7_readFunction ⟨z_leR hRf (by decide), z_leR hRl (by decide)⟩) hth (by decide) rfl rfl hl.1 rfl (Nat.le_of_ble_eq_true rfl) dX7_read_58 ⟨Nat.zero_le _, Nat.zero_le _⟩ (fun F_14 H locs w_15 h hfF_14 => ?_)
  refine lv_iconst (v := 0) hx hb dX7_read_61 (by decide) ?_
  refine lv_istore (lv' := [(4, .int 0), (0, .ref th), (1, .ref ta), (2, .int q), (3, .ref in_)]) hx hb dX7_read_62 hl (by decide) rfl (fun ls hl => ?_)
  have j_j64_16 : ∀ (n : Nat) (ls : Array Slot) (y4_j64_16 : Int32) (F_17 : Nat → va_E) (H : Heap) (locs : List Loc), lv_has ls 5 [(4, .int y4_j64_16), (0, .ref th)] → zB 0 10 y4_j64_16 → zH D k Γ L s F_17 H locs → zFr Γ [103, 200, 201, 202, 203, 204, 205, 206, 207, 400, 401, 402, 403, 604, 605, 701, 702, 706, 711, 10200, 10300, 10600, 10700] F_14 F_17 → (2147483647 - y4_j64_16.toInt).toNat = n → W p l e R s m args below meth c H locs 0 0 Q (F0 m 64 ls []) := by
    intro n
    induction n using Nat.strongRecOn with
    | _ n ih_j64_16 =>
      intro ls y4_j64_16 F_17 H locs hl by4_j64_16 h hfF_17 hn_j64_16
      refine lv_iload hx hb dX7_read_64 (lv_at hl 0 rfl) ?_
      refine lv_bipush (v := 10) hx hb dX7_read_66 (by decide) ?_
      refine lv_icmp_ge (tgt := 88) hx hb dX7_read_68 (by decide) (fun c_18 => ?_) (fun c_18 => ?_)
      · have c_18 := z_le c_18
        have by4_j64_16_19 : zB 10 10 y4_j64_16 := zB.leR c_18 (zBc 10 10 (by decide)) by4_j64_16 (by decide)
        refine lv_aload_n hx hb dX7_read_88 rfl (lv_at hl 1 rfl) ?_
        refine zt_geti (t := 7) (C := RX7) (T := TX7) (N := 12) Z h hth zin_7 rfl 1 rfl ⟨by decide, rfl⟩ (zm_RX7 (List.mem_of_getElem? (i := 11) rfl)) (fun _ h9 => h9) dX7_read_89 (fun x_20 kx_20 bx_20 => ?_)
        refine lv_if_ne (tgt := 99) hx hb dX7_read_92 (by decide) (fun c_21 => ?_) (fun c_21 => ?_)
        · have c_21 := z_ne c_21
          refine lv_aload_n hx hb dX7_read_99 rfl (lv_at hl 1 rfl) ?_
          refine lv_aload_n hx hb dX7_read_100 rfl (lv_at hl 1 rfl) ?_
          refine zt_getk (t := 7) (C := RX7) (T := TX7) (N := 12) Z h hth zin_7 rfl 4 (hfF_17.f hth 4 ⟨by decide, by decide⟩ (hfF_14.f hth 4 ⟨by decide, by decide⟩ (hfF_13.f hth 4 ⟨by decide, by decide⟩ (hfF_12.f hth 4 ⟨by decide, by decide⟩ (hfF_11.f hth 4 ⟨by decide, by decide⟩ (hfF_10.f hth 4 ⟨by decide, by decide⟩ (hfF_8.f hth 4 ⟨by decide, by decide⟩ (hfF_6.f hth 4 ⟨by decide, by decide⟩ (hfF_5.f hth 4 ⟨by decide, by decide⟩ kF_3))))))))) ⟨by decide, rfl, by decide⟩ (zm_RX7 (List.mem_of_getElem? (i := 4) rfl)) (fun _ h9 => h9) dX7_read_101 ?_
          refine lv_aload_n hx hb dX7_read_104 rfl (lv_at hl 1 rfl) ?_
          refine zt_geti (t := 7) (C := RX7) (T := TX7) (N := 12) Z h hth zin_7 rfl 2 rfl ⟨by decide, rfl⟩ (zm_RX7 (List.mem_of_getElem? (i := 12) rfl)) (fun _ h9 => h9) dX7_read_105 (fun x_22 kx_22 bx_22 => ?_)
          refine zk_Vi (As := [.int x_22]) (rest := [.ref th]) (bytes := cX8_placeOf) (maxL := 2) (ret := (some .int)) Z h (zc_X8_placeOf l D k Γ L F_17 H.size a_2 x_22 ha_2) (cwV 1 hg zv_RX7_72 rfl rfl rfl zd_X8_placeOf ⟨z_leR hRf (by decide), z_leR hRl (by decide)⟩) ha_2 (by decide) rfl rfl hl.1 rfl (Nat.le_of_ble_eq_true rfl) dX7_read_108 ⟨Nat.zero_le _, Nat.zero_le _⟩ (fun r_23 F_24 H locs w_25 h hfF_24 => ?_)
          obtain ⟨rfl, -⟩ := w_25
          have br_23 := zB.all r_23
          refine zt_put (t := 7) (C := RX7) (T := TX7) (N := 12) (v := .int r_23) Z h hth zin_7 tyX7 tyX7_ok nmX7 rfl 0 rfl ⟨by decide, rfl⟩ (zm_RX7 (List.mem_of_getElem? (i := 23) rfl)) (fun _ h9 => h9) rfl (zV.i br_23) rfl rfl dX7_read_111 (fun H locs F_26 h hfF_26 kF_26 => ?_)
          refine lv_aload_n hx hb dX7_read_114 rfl (lv_at hl 1 rfl) ?_
          refine zt_getk (t := 7) (C := RX7) (T := TX7) (N := 12) Z h hth zin_7 rfl 1 (hfF_26.f hth 1 ⟨by decide, by decide⟩ kx_20) ⟨by decide, rfl, by decide⟩ (zm_RX7 (List.mem_of_getElem? (i := 11) rfl)) (fun _ h9 => h9) dX7_read_115 ?_
          subst hQ
          exact W.iret (v := x_20) hx hb hr (fun t ht hW => ⟨⟨x_20, F_26, rfl, trivial, by rw [ht]; exact h.1, h.2.1, ((((((((((((hfF_1.w (by decide)).trans hfF_3 (by decide)).trans hfF_5 (by decide)).trans hfF_6 (by decide)).trans hfF_8 (by decide)).trans hfF_10 (by decide)).trans hfF_11 (by decide)).trans hfF_12 (by decide)).trans hfF_13 (by decide)).trans hfF_14 (by decide)).trans hfF_17 (by decide)).trans hfF_26 (by decide))⟩, h.2.2.F ht⟩) h.2.2.2.2 dX7_read_118
        · have c_21 := z_eq c_21
          have bx_20_27 : zB 0 0 x_20 := zB.eqL (a := 0) (b := 0) c_21 (zBc 0 0 (by decide))
          refine lv_aload_n hx hb dX7_read_95 rfl (lv_at hl 1 rfl) ?_
          refine zk_Vv (As := []) (rest := []) (bytes := cX7_joinCalls) (maxL := 3) (ret := none) Z h (zc_X7_joinCalls l D k Γ L F_17 H.size th in_ a_2 a_4 hth (hfF_17.f hth 3 ⟨by decide, by decide⟩ (hfF_14.f hth 3 ⟨by decide, by decide⟩ (hfF_13.f hth 3 ⟨by decide, by decide⟩ (hfF_12.f hth 3 ⟨by decide, by decide⟩ (hfF_11.f hth 3 ⟨by decide, by decide⟩ (hfF_10.f hth 3 ⟨by decide, by decide⟩ (hfF_8.f hth 3 ⟨by decide, by decide⟩ (hfF_6.f hth 3 ⟨by decide, by decide⟩ (hfF_5.f hth 3 ⟨by decide, by decide⟩ (hfF_3.f hth 3 ⟨by decide, by decide⟩ kF_1)))))))))) hin_ (hfF_17.f hth 4 ⟨by decide, by decide⟩ (hfF_14.f hth 4 ⟨by decide, by decide⟩ (hfF_13.f hth 4 ⟨by decide, by decide⟩ (hfF_12.f hth 4 ⟨by decide, by decide⟩ (hfF_11.f hth 4 ⟨by decide, by decide⟩ (hfF_10.f hth 4 ⟨by decide, by decide⟩ (hfF_8.f hth 4 ⟨by decide, by decide⟩ (hfF_6.f hth 4 ⟨by decide, by decide⟩ (hfF_5.f hth 4 ⟨by decide, by decide⟩ kF_3))))))))) ha_2 (hfF_17.f hth 5 ⟨by decide, by decide⟩ (hfF_14.f hth 5 ⟨by decide, by decide⟩ (hfF_13.f hth 5 ⟨by decide, by decide⟩ (hfF_12.f hth 5 ⟨by decide, by decide⟩ (hfF_11.f hth 5 ⟨by decide, by decide⟩ (hfF_10.f hth 5 ⟨by decide, by decide⟩ (hfF_8.f hth 5 ⟨by decide, by decide⟩ (hfF_6.f hth 5 ⟨by decide, by decide⟩ kF_5)))))))) ha_4) (cwV 0 hg zv_RX7_69 rfl rfl rfl zd_X7_joinCalls ⟨z_leR hRf (by decide), z_leR hRl (by decide)⟩) hth (by decide) rfl rfl hl.1 rfl (Nat.le_of_ble_eq_true rfl) dX7_read_96 ⟨Nat.zero_le _, Nat.zero_le _⟩ (fun F_28 H locs w_29 h hfF_28 => ?_)
          refine lv_aload_n hx hb dX7_read_99 rfl (lv_at hl 1 rfl) ?_
          refine lv_aload_n hx hb dX7_read_100 rfl (lv_at hl 1 rfl) ?_
          refine zt_getk (t := 7) (C := RX7) (T := TX7) (N := 12) Z h hth zin_7 rfl 4 (hfF_28.f hth 4 ⟨by decide, by decide⟩ (hfF_17.f hth 4 ⟨by decide, by decide⟩ (hfF_14.f hth 4 ⟨by decide, by decide⟩ (hfF_13.f hth 4 ⟨by decide, by decide⟩ (hfF_12.f hth 4 ⟨by decide, by decide⟩ (hfF_11.f hth 4 ⟨by decide, by decide⟩ (hfF_10.f hth 4 ⟨by decide, by decide⟩ (hfF_8.f hth 4 ⟨by decide, by decide⟩ (hfF_6.f hth 4 ⟨by decide, by decide⟩ (hfF_5.f hth 4 ⟨by decide, by decide⟩ kF_3)))))))))) ⟨by decide, rfl, by decide⟩ (zm_RX7 (List.mem_of_getElem? (i := 4) rfl)) (fun _ h9 => h9) dX7_read_101 ?_
          refine lv_aload_n hx hb dX7_read_104 rfl (lv_at hl 1 rfl) ?_
          refine zt_geti (t := 7) (C := RX7) (T := TX7) (N := 12) Z h hth zin_7 rfl 2 rfl ⟨by decide, rfl⟩ (zm_RX7 (List.mem_of_getElem? (i := 12) rfl)) (fun _ h9 => h9) dX7_read_105 (fun x_30 kx_30 bx_30 => ?_)
          refine zk_Vi (As := [.int x_30]) (rest := [.ref th]) (bytes := cX8_placeOf) (maxL := 2) (ret := (some .int)) Z h (zc_X8_placeOf l D k Γ L F_28 H.size a_2 x_30 ha_2) (cwV 1 hg zv_RX7_72 rfl rfl rfl zd_X8_placeOf ⟨z_leR hRf (by decide), z_leR hRl (by decide)⟩) ha_2 (by decide) rfl rfl hl.1 rfl (Nat.le_of_ble_eq_true rfl) dX7_read_108 ⟨Nat.zero_le _, Nat.zero_le _⟩ (fun r_31 F_32 H locs w_33 h hfF_32 => ?_)
          obtain ⟨rfl, -⟩ := w_33
          have br_31 := zB.all r_31
          refine zt_put (t := 7) (C := RX7) (T := TX7) (N := 12) (v := .int r_31) Z h hth zin_7 tyX7 tyX7_ok nmX7 rfl 0 rfl ⟨by decide, rfl⟩ (zm_RX7 (List.mem_of_getElem? (i := 23) rfl)) (fun _ h9 => h9) rfl (zV.i br_31) rfl rfl dX7_read_111 (fun H locs F_34 h hfF_34 kF_34 => ?_)
          refine lv_aload_n hx hb dX7_read_114 rfl (lv_at hl 1 rfl) ?_
          refine zt_geti (t := 7) (C := RX7) (T := TX7) (N := 12) Z h hth zin_7 rfl 1 rfl ⟨by decide, rfl⟩ (zm_RX7 (List.mem_of_getElem? (i := 11) rfl)) (fun _ h9 => h9) dX7_read_115 (fun x_35 kx_35 bx_35 => ?_)
          subst hQ
          exact W.iret (v := x_35) hx hb hr (fun t ht hW => ⟨⟨x_35, F_34, rfl, trivial, by rw [ht]; exact h.1, h.2.1, (((((((((((((hfF_1.w (by decide)).trans hfF_3 (by decide)).trans hfF_5 (by decide)).trans hfF_6 (by decide)).trans hfF_8 (by decide)).trans hfF_10 (by decide)).trans hfF_11 (by decide)).trans hfF_12 (by decide)).trans hfF_13 (by decide)).trans hfF_14 (by decide)).trans hfF_17 (by decide)).trans hfF_28 (by decide)).trans hfF_34 (by decide))⟩, h.2.2.F ht⟩) h.2.2.2.2 dX7_read_118
      · have c_18 := z_nle c_18
        have by4_j64_16_36 : zB 0 9 y4_j64_16 := zB.ltL c_18 by4_j64_16 (zBc 10 10 (by decide)) (by decide)
        refine lv_aload_n hx hb dX7_read_71 rfl (lv_at hl 1 rfl) ?_
        refine zk_Vi (As := []) (rest := []) (bytes := cX7_kind) (maxL := 2) (ret := (some .int)) Z h (zc_X7_kind l D k Γ L F_17 H.size th a_2 hth (hfF_17.f hth 4 ⟨by decide, by decide⟩ (hfF_14.f hth 4 ⟨by decide, by decide⟩ (hfF_13.f hth 4 ⟨by decide, by decide⟩ (hfF_12.f hth 4 ⟨by decide, by decide⟩ (hfF_11.f hth 4 ⟨by decide, by decide⟩ (hfF_10.f hth 4 ⟨by decide, by decide⟩ (hfF_8.f hth 4 ⟨by decide, by decide⟩ (hfF_6.f hth 4 ⟨by decide, by decide⟩ (hfF_5.f hth 4 ⟨by decide, by decide⟩ kF_3))))))))) ha_2) (cwV 0 hg zv_RX7_65 rfl rfl rfl zd_X7_kind ⟨z_leR hRf (by decide), z_leR hRl (by decide)⟩) hth (by decide) rfl rfl hl.1 rfl (Nat.le_of_ble_eq_true rfl) dX7_read_72 ⟨Nat.zero_le _, Nat.zero_le _⟩ (fun r_37 F_38 H locs w_39 h hfF_38 => ?_)
        obtain ⟨rfl, q_40, -⟩ := w_39
        have br_37 := zB.all r_37
        refine lv_if_eq (tgt := 88) hx hb dX7_read_75 (by decide) (fun c_41 => ?_) (fun c_41 => ?_)
        · have c_41 := z_eq c_41
          have br_37_42 : zB 0 0 r_37 := zB.eqL (a := 0) (b := 0) c_41 (zBc 0 0 (by decide))
          refine lv_aload_n hx hb dX7_read_88 rfl (lv_at hl 1 rfl) ?_
          refine zt_geti (t := 7) (C := RX7) (T := TX7) (N := 12) Z h hth zin_7 rfl 1 rfl ⟨by decide, rfl⟩ (zm_RX7 (List.mem_of_getElem? (i := 11) rfl)) (fun _ h9 => h9) dX7_read_89 (fun x_43 kx_43 bx_43 => ?_)
          refine lv_if_ne (tgt := 99) hx hb dX7_read_92 (by decide) (fun c_44 => ?_) (fun c_44 => ?_)
          · have c_44 := z_ne c_44
            refine lv_aload_n hx hb dX7_read_99 rfl (lv_at hl 1 rfl) ?_
            refine lv_aload_n hx hb dX7_read_100 rfl (lv_at hl 1 rfl) ?_
            refine zt_getk (t := 7) (C := RX7) (T := TX7) (N := 12) Z h hth zin_7 rfl 4 (hfF_17.f hth 4 ⟨by decide, by decide⟩ (hfF_14.f hth 4 ⟨by decide, by decide⟩ (hfF_13.f hth 4 ⟨by decide, by decide⟩ (hfF_12.f hth 4 ⟨by decide, by decide⟩ (hfF_11.f hth 4 ⟨by decide, by decide⟩ (hfF_10.f hth 4 ⟨by decide, by decide⟩ (hfF_8.f hth 4 ⟨by decide, by decide⟩ (hfF_6.f hth 4 ⟨by decide, by decide⟩ (hfF_5.f hth 4 ⟨by decide, by decide⟩ kF_3))))))))) ⟨by decide, rfl, by decide⟩ (zm_RX7 (List.mem_of_getElem? (i := 4) rfl)) (fun _ h9 => h9) dX7_read_101 ?_
            refine lv_aload_n hx hb dX7_read_104 rfl (lv_at hl 1 rfl) ?_
            refine zt_geti (t := 7) (C := RX7) (T := TX7) (N := 12) Z h hth zin_7 rfl 2 rfl ⟨by decide, rfl⟩ (zm_RX7 (List.mem_of_getElem? (i := 12) rfl)) (fun _ h9 => h9) dX7_read_105 (fun x_45 kx_45 bx_45 => ?_)
            refine zk_Vi (As := [.int x_45]) (rest := [.ref th]) (bytes := cX8_placeOf) (maxL := 2) (ret := (some .int)) Z h (zc_X8_placeOf l D k Γ L F_17 H.size a_2 x_45 ha_2) (cwV 1 hg zv_RX7_72 rfl rfl rfl zd_X8_placeOf ⟨z_leR hRf (by decide), z_leR hRl (by decide)⟩) ha_2 (by decide) rfl rfl hl.1 rfl (Nat.le_of_ble_eq_true rfl) dX7_read_108 ⟨Nat.zero_le _, Nat.zero_le _⟩ (fun r_46 F_47 H locs w_48 h hfF_47 => ?_)
            obtain ⟨rfl, -⟩ := w_48
            have br_46 := zB.all r_46
            refine zt_put (t := 7) (C := RX7) (T := TX7) (N := 12) (v := .int r_46) Z h hth zin_7 tyX7 tyX7_ok nmX7 rfl 0 rfl ⟨by decide, rfl⟩ (zm_RX7 (List.mem_of_getElem? (i := 23) rfl)) (fun _ h9 => h9) rfl (zV.i br_46) rfl rfl dX7_read_111 (fun H locs F_49 h hfF_49 kF_49 => ?_)
            refine lv_aload_n hx hb dX7_read_114 rfl (lv_at hl 1 rfl) ?_
            refine zt_getk (t := 7) (C := RX7) (T := TX7) (N := 12) Z h hth zin_7 rfl 1 (hfF_49.f hth 1 ⟨by decide, by decide⟩ kx_43) ⟨by decide, rfl, by decide⟩ (zm_RX7 (List.mem_of_getElem? (i := 11) rfl)) (fun _ h9 => h9) dX7_read_115 ?_
            subst hQ
            exact W.iret (v := x_43) hx hb hr (fun t ht hW => ⟨⟨x_43, F_49, rfl, trivial, by rw [ht]; exact h.1, h.2.1, ((((((((((((hfF_1.w (by decide)).trans hfF_3 (by decide)).trans hfF_5 (by decide)).trans hfF_6 (by decide)).trans hfF_8 (by decide)).trans hfF_10 (by decide)).trans hfF_11 (by decide)).trans hfF_12 (by decide)).trans hfF_13 (by decide)).trans hfF_14 (by decide)).trans hfF_17 (by decide)).trans hfF_49 (by decide))⟩, h.2.2.F ht⟩) h.2.2.2.2 dX7_read_118
          · have c_44 := z_eq c_44
            have bx_43_50 : zB 0 0 x_43 := zB.eqL (a := 0) (b := 0) c_44 (zBc 0 0 (by decide))
            refine lv_aload_n hx hb dX7_read_95 rfl (lv_at hl 1 rfl) ?_
            refine zk_Vv (As := []) (rest := []) (bytes := cX7_joinCalls) (maxL := 3) (ret := none) Z h (zc_X7_joinCalls l D k Γ L F_17 H.size th in_ a_2 a_4 hth (hfF_17.f hth 3 ⟨by decide, by decide⟩ (hfF_14.f hth 3 ⟨by decide, by decide⟩ (hfF_13.f hth 3 ⟨by decide, by decide⟩ (hfF_12.f hth 3 ⟨by decide, by decide⟩ (hfF_11.f hth 3 ⟨by decide, by decide⟩ (hfF_10.f hth 3 ⟨by decide, by decide⟩ (hfF_8.f hth 3 ⟨by decide, by decide⟩ (hfF_6.f hth 3 ⟨by decide, by decide⟩ (hfF_5.f hth 3 ⟨by decide, by decide⟩ (hfF_3.f hth 3 ⟨by decide, by decide⟩ kF_1)))))))))) hin_ (hfF_17.f hth 4 ⟨by decide, by decide⟩ (hfF_14.f hth 4 ⟨by decide, by decide⟩ (hfF_13.f hth 4 ⟨by decide, by decide⟩ (hfF_12.f hth 4 ⟨by decide, by decide⟩ (hfF_11.f hth 4 ⟨by decide, by decide⟩ (hfF_10.f hth 4 ⟨by decide, by decide⟩ (hfF_8.f hth 4 ⟨by decide, by decide⟩ (hfF_6.f hth 4 ⟨by decide, by decide⟩ (hfF_5.f hth 4 ⟨by decide, by decide⟩ kF_3))))))))) ha_2 (hfF_17.f hth 5 ⟨by decide, by decide⟩ (hfF_14.f hth 5 ⟨by decide, by decide⟩ (hfF_13.f hth 5 ⟨by decide, by decide⟩ (hfF_12.f hth 5 ⟨by decide, by decide⟩ (hfF_11.f hth 5 ⟨by decide, by decide⟩ (hfF_10.f hth 5 ⟨by decide, by decide⟩ (hfF_8.f hth 5 ⟨by decide, by decide⟩ (hfF_6.f hth 5 ⟨by decide, by decide⟩ kF_5)))))))) ha_4) (cwV 0 hg zv_RX7_69 rfl rfl rfl zd_X7_joinCalls ⟨z_leR hRf (by decide), z_leR hRl (by decide)⟩) hth (by decide) rfl rfl hl.1 rfl (Nat.le_of_ble_eq_true rfl) dX7_read_96 ⟨Nat.zero_le _, Nat.zero_le _⟩ (fun F_51 H locs w_52 h hfF_51 => ?_)
            refine lv_aload_n hx hb dX7_read_99 rfl (lv_at hl 1 rfl) ?_
            refine lv_aload_n hx hb dX7_read_100 rfl (lv_at hl 1 rfl) ?_
            refine zt_getk (t := 7) (C := RX7) (T := TX7) (N := 12) Z h hth zin_7 rfl 4 (hfF_51.f hth 4 ⟨by decide, by decide⟩ (hfF_17.f hth 4 ⟨by decide, by decide⟩ (hfF_14.f hth 4 ⟨by decide, by decide⟩ (hfF_13.f hth 4 ⟨by decide, by decide⟩ (hfF_12.f hth 4 ⟨by decide, by decide⟩ (hfF_11.f hth 4 ⟨by decide, by decide⟩ (hfF_10.f hth 4 ⟨by decide, by decide⟩ (hfF_8.f hth 4 ⟨by decide, by decide⟩ (hfF_6.f hth 4 ⟨by decide, by decide⟩ (hfF_5.f hth 4 ⟨by decide, by decide⟩ kF_3)))))))))) ⟨by decide, rfl, by decide⟩ (zm_RX7 (List.mem_of_getElem? (i := 4) rfl)) (fun _ h9 => h9) dX7_read_101 ?_
            refine lv_aload_n hx hb dX7_read_104 rfl (lv_at hl 1 rfl) ?_
            refine zt_geti (t := 7) (C := RX7) (T := TX7) (N := 12) Z h hth zin_7 rfl 2 rfl ⟨by decide, rfl⟩ (zm_RX7 (List.mem_of_getElem? (i := 12) rfl)) (fun _ h9 => h9) dX7_read_105 (fun x_53 kx_53 bx_53 => ?_)
            refine zk_Vi (As := [.int x_53]) (rest := [.ref th]) (bytes := cX8_placeOf) (maxL := 2) (ret := (some .int)) Z h (zc_X8_placeOf l D k Γ L F_51 H.size a_2 x_53 ha_2) (cwV 1 hg zv_RX7_72 rfl rfl rfl zd_X8_placeOf ⟨z_leR hRf (by decide), z_leR hRl (by decide)⟩) ha_2 (by decide) rfl rfl hl.1 rfl (Nat.le_of_ble_eq_true rfl) dX7_read_108 ⟨Nat.zero_le _, Nat.zero_le _⟩ (fun r_54 F_55 H locs w_56 h hfF_55 => ?_)
            obtain ⟨rfl, -⟩ := w_56
            have br_54 := zB.all r_54
            refine zt_put (t := 7) (C := RX7) (T := TX7) (N := 12) (v := .int r_54) Z h hth zin_7 tyX7 tyX7_ok nmX7 rfl 0 rfl ⟨by decide, rfl⟩ (zm_RX7 (List.mem_of_getElem? (i := 23) rfl)) (fun _ h9 => h9) rfl (zV.i br_54) rfl rfl dX7_read_111 (fun H locs F_57 h hfF_57 kF_57 => ?_)
            refine lv_aload_n hx hb dX7_read_114 rfl (lv_at hl 1 rfl) ?_
            refine zt_geti (t := 7) (C := RX7) (T := TX7) (N := 12) Z h hth zin_7 rfl 1 rfl ⟨by decide, rfl⟩ (zm_RX7 (List.mem_of_getElem? (i := 11) rfl)) (fun _ h9 => h9) dX7_read_115 (fun x_58 kx_58 bx_58 => ?_)
            subst hQ
            exact W.iret (v := x_58) hx hb hr (fun t ht hW => ⟨⟨x_58, F_57, rfl, trivial, by rw [ht]; exact h.1, h.2.1, (((((((((((((hfF_1.w (by decide)).trans hfF_3 (by decide)).trans hfF_5 (by decide)).trans hfF_6 (by decide)).trans hfF_8 (by decide)).trans hfF_10 (by decide)).trans hfF_11 (by decide)).trans hfF_12 (by decide)).trans hfF_13 (by decide)).trans hfF_14 (by decide)).trans hfF_17 (by decide)).trans hfF_51 (by decide)).trans hfF_57 (by decide))⟩, h.2.2.F ht⟩) h.2.2.2.2 dX7_read_118
        · obtain ⟨x_59, kx_59, bx_59⟩ := q_40 c_41
          have c_41 := z_ne c_41
          refine lv_aload_n hx hb dX7_read_78 rfl (lv_at hl 1 rfl) ?_
          refine zk_Vv (As := []) (rest := []) (bytes := cX7_readFunction) (maxL := 3) (ret := none) Z h (zc_X7_readFunction l D k Γ L F_17 H.size th in_ a_2 a_4 hth (hfF_17.f hth 3 ⟨by decide, by decide⟩ (hfF_14.f hth 3 ⟨by decide, by decide⟩ (hfF_13.f hth 3 ⟨by decide, by decide⟩ (hfF_12.f hth 3 ⟨by decide, by decide⟩ (hfF_11.f hth 3 ⟨by decide, by decide⟩ (hfF_10.f hth 3 ⟨by decide, by decide⟩ (hfF_8.f hth 3 ⟨by decide, by decide⟩ (hfF_6.f hth 3 ⟨by decide, by decide⟩ (hfF_5.f hth 3 ⟨by decide, by decide⟩ (hfF_3.f hth 3 ⟨by decide, by decide⟩ kF_1)))))))))) hin_ (hfF_17.f hth 4 ⟨by decide, by decide⟩ (hfF_14.f hth 4 ⟨by decide, by decide⟩ (hfF_13.f hth 4 ⟨by decide, by decide⟩ (hfF_12.f hth 4 ⟨by decide, by decide⟩ (hfF_11.f hth 4 ⟨by decide, by decide⟩ (hfF_10.f hth 4 ⟨by decide, by decide⟩ (hfF_8.f hth 4 ⟨by decide, by decide⟩ (hfF_6.f hth 4 ⟨by decide, by decide⟩ (hfF_5.f hth 4 ⟨by decide, by decide⟩ kF_3))))))))) ha_2 (hfF_17.f hth 5 ⟨by decide, by decide⟩ (hfF_14.f hth 5 ⟨by decide, by decide⟩ (hfF_13.f hth 5 ⟨by decide, by decide⟩ (hfF_12.f hth 5 ⟨by decide, by decide⟩ (hfF_11.f hth 5 ⟨by decide, by decide⟩ (hfF_10.f hth 5 ⟨by decide, by decide⟩ (hfF_8.f hth 5 ⟨by decide, by decide⟩ (hfF_6.f hth 5 ⟨by decide, by decide⟩ kF_5)))))))) ha_4) (cwV 0 hg zv_RX7_62 rfl rfl rfl zd_X7_readFunction ⟨z_leR hRf (by decide), z_leR hRl (by decide)⟩) hth (by decide) rfl rfl hl.1 rfl (Nat.le_of_ble_eq_true rfl) dX7_read_79 ⟨Nat.zero_le _, Nat.zero_le _⟩ (fun F_60 H locs w_61 h hfF_60 => ?_)
          obtain ⟨x_62, ex_62, bx_62, tx_62⟩ := z_inc (n := 1) (lo := 1) (hi := 10) by4_j64_16_36 (by decide)
          refine lv_iinc (v := x_62) (lv' := [(4, .int x_62), (0, .ref th)]) hx hb dX7_read_82 hl (k := 0) rfl ex_62 (by decide) rfl (fun ls hl => ?_)
          refine lv_goto (tgt := 64) hx hb dX7_read_85 (by decide) ?_
          exact ih_j64_16 _ (by have := bx_62.1; have := bx_62.2; have : (0 : Int32).toInt = 0 := (by decide); have : (10 : Int32).toInt = 10 := (by decide); have := by4_j64_16.1; have := by4_j64_16.2; omega) ls x_62 F_60 H locs (lv_sub hl [0, 1] rfl) (bx_62.w ⟨by decide, by decide⟩) h (hfF_17.trans hfF_60 (by decide)) rfl
  exact j_j64_16 _ ls 0 F_14 H locs (lv_sub hl [0, 1] rfl) (zB.of ⟨by decide, by decide⟩) h zFr.rf rfl
