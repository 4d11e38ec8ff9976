set_option maxHeartbeats 4000000 in
set_option maxRecDepth 100000 in
theorem ze_X14_need (l : Launch) (D : va_G) (k : Nat → ClassId) (Γ : Nat → Option Nat) (L : List Nat) (F : Nat → va_E) (sz : Nat) (th : Nat) (c_ : Int32) (tp : Nat) (st : Nat) (pl : Int32) (zz : Int32) (Bt : Nat → Int32) (nt : Nat) (σ : zSg) (hth : Γ th = some 14) (bc_ : zB 40 125 c_) (ktp : zfld F th 10 = .ref tp) (htp : Γ tp = some 152) (kst : zfld F th 9 = .ref st) (hst : Γ st = some 13) (p_tk : zTk F th tp) (kpl : zfld F th 15 = .int pl) (bpl : zB 0 600 pl) (kzz : zfld F th 12 = .int zz) (bzz : zB 0 600 zz) (hr0 : zel F tp = Bt) (hr1 : zz.toInt = nt) (p_au : zD1 F th Bt nt (σ)) : vy_Met l yX14_need zwX14_need ({ frames := 2, cells := 0, slots := 0, locals := 43 }) (va_Pc [.ref th, .int c_] (zP D k Γ L F sz)) (va_Qv (fun (u : Nat → va_E) => (∃ (p9 : Int32), zfld u th 15 = .int p9 ∧ zB 0 600 p9 ∧ (pl.toInt + 1 ≤ p9.toInt)) ∧ (zTk u th tp) ∧ (∃ σ9 : zSg, zD1 u th Bt nt σ9 ∧ zRc (zTo Bt nt) σ [(6, c_.toInt.toNat, 0, 0)] σ9 [] ∧ zss σ σ9 ∧ True) ∧ True) (zQ D k Γ L F [1306, 1307, 1413, 1414, 1415, 1416, 1417, 1418, 1421]) (zA L sz)) (vy_X (fun u => ∃ k9 : Int32, zfld u st 6 = .int k9 ∧ zRc (zTo Bt nt) σ [(6, c_.toInt.toNat, 0, 0)] (.inr k9.toInt) []) (zX D k Γ L F [1306, 1307, 1413, 1414, 1415, 1416, 1417, 1418, 1421] st) (zA L sz)) 0 0 (zA L sz) := by
  refine vy_ofW (cc := cX14_need) (maxL := 2) (ret := none) (by decide) rfl ?_
  intro p e s m args below meth c s₁ B hml ht9 hv
  obtain ⟨rfl, hsz, hP, hK, hLn, hE, hI⟩ := hv
  have hx := B.exec
  have hb := B.bytes
  have hr := B.returns
  have hg : ∀ w ∈ zG, w.before _ s = true := fun w h9 => atoms_spec (ws := zwX14_need) B.pre w (List.mem_cons_of_mem _ h9)
  have hown : s.vm.findClass RX14 = some m.cls := findClass_of_methodNamed B.named
  have hlocks := B.notSynchronized
  subst hsz
  have Z : zC p m c cX14_need 2 s _ zG RX14 D k L := ⟨⟨hx, hb, hml, hown, hg⟩, hK, hLn, hE⟩
  have h : zH D k Γ L s F s.heap [] := ⟨hP, hI, va_S.rf⟩
  have hl := lv_entry ([.ref th, .int c_]) (n := 2) (Nat.le_of_ble_eq_true rfl)
  rw [lg_entry_eq]
  generalize (lg_sl ([.ref th, .int c_]) ++ List.replicate (2 - (lg_sl ([.ref th, .int c_])).length) Slot.unset).toArray = ls at hl ⊢
  have hl : lv_has ls 2 [(0, .ref th), (1, .int c_)] := hl
  clear hP hK hLn hE hI
  generalize hargs : ([.ref th, .int c_] : List Value).toArray = args at *
  refine z_start (fun R Q hRf hRl hQ => ?_)
  have hRf : R.frames = 2 := hRf
  have hRl : R.locals = 43 := hRl
  have h9 := h
  have rc0_ : zRc (zTo Bt nt) σ [(6, c_.toInt.toNat, 0, 0)] σ [(6, c_.toInt.toNat, 0, 0)] := zRc.rf
  have ss0_ : zss σ σ := zss.rf
  refine lv_aload_n hx hb dX14_need_0 rfl (lv_at hl 0 rfl) ?_
  refine lv_iload_n hx hb dX14_need_1 rfl (lv_at hl 1 rfl) ?_
  refine zk_Vi (As := [.int c_]) (rest := []) (bytes := cX14_is) (maxL := 2) (ret := (some .boolean)) Z h (ze_X14_is l D k Γ L F s.heap.size th c_ Bt nt σ hth bc_ p_au) (cwV 1 hg zv_RX14_141 rfl rfl rfl zd_X14_is ⟨z_leR hRf (by decide), z_leR hRl (by decide)⟩) hth (by decide) rfl rfl hl.1 rfl (Nat.le_of_ble_eq_true rfl) dX14_need_2 ⟨Nat.zero_le _, Nat.zero_le _⟩ (fun r_1 F_2 H locs w_3 h hfF_2 => ?_)
  obtain ⟨rfl, br_1, q_4, q_5, -⟩ := w_3
  refine lv_if_ne (tgt := 18) hx hb dX14_need_5 (by decide) (fun c_6 => ?_) (fun c_6 => ?_)
  · obtain ⟨x_7, x_8, kx_7, bx_7, kx_8, bx_8, q_9⟩ := q_4 c_6
    have c_6 := z_ne c_6
    have br_1_10 : zB 1 1 r_1 := zB.neLo c_6 br_1 (zBc 0 0 (by decide)) (by decide)
    refine lv_aload_n hx hb dX14_need_18 rfl (lv_at hl 0 rfl) ?_
    obtain ⟨x_11, kx_11, bx_11⟩ := z_learn (j := 13) (lo := 0) (hi := 600) h hth (by decide) rfl
    have q_12 := zTk.adv p_tk kzz kx_11 kx_7 kpl
    obtain ⟨i_13, di_13, hi_13, zi_13⟩ := zD1.at p_au kx_11
    refine zk_Vv (As := []) (rest := []) (bytes := cX14_next) (maxL := 3) (ret := none) Z h (ze_X14_next l D k Γ L F H.size th tp x_11 zz Bt nt (i_13 + 1) hth ktp htp kx_11 bx_11 kzz bzz (by have := bc_.1; have := bc_.2; have := bx_11.1; have := bx_11.2; have := bzz.1; have := bzz.2; have := bpl.1; have := bpl.2; have := bx_7.1; have := bx_7.2; have := bx_8.1; have := bx_8.2; have : (0 : Int32).toInt = 0 := (by decide); omega) (zTk.ok p_tk kx_11) hr0 (by have := bc_.1; have := bc_.2; have := bx_11.1; have := bx_11.2; have := bzz.1; have := bzz.2; have := bpl.1; have := bpl.2; have := bx_7.1; have := bx_7.2; have := bx_8.1; have := bx_8.2; have : (0 : Int32).toInt = 0 := (by decide); omega) zi_13) (cwV 0 hg zv_RX14_147 rfl rfl rfl zd_X14_next ⟨z_leR hRf (by decide), z_leR hRl (by decide)⟩) hth (by decide) rfl rfl hl.1 rfl (Nat.le_of_ble_eq_true rfl) dX14_need_19 ⟨Nat.zero_le _, Nat.zero_le _⟩ (fun F_14 H locs w_15 h hfF_14 => ?_)
    obtain ⟨⟨x_17, kx_17, bx_17, q_16⟩, q_18, q_19, -⟩ := w_15
    have c1_20 : zD1 F_14 th Bt nt (zadv σ) := ⟨i_13 + 1, di_13, by rw [hi_13]; rfl, q_19⟩
    have rc_20 : zRc (zTo Bt nt) σ [(6, c_.toInt.toNat, 0, 0)] (zadv σ) [] := zRc.need1 (N := 0) rc0_ (by have := bc_.1; have := bc_.2; have := bx_17.1; have := bx_17.2; have := bzz.1; have := bzz.2; have := bpl.1; have := bpl.2; have : (0 : Int32).toInt = 0 := (by decide); omega)
    have st_20 : zss σ (zadv σ) := zsm.adv.ss
    have ss_20 : zss σ (zadv σ) := ss0_.trans st_20
    generalize hσ_20 : zadv σ = σ_20 at c1_20 rc_20 st_20 ss_20
    subst hQ
    refine vy_ret ?_
    exact W.vret hx hb hr (fun t ht hW => ⟨⟨F_14, rfl, ⟨⟨x_17, kx_17, bx_17, (by have := bc_.1; have := bc_.2; have := bx_17.1; have := bx_17.2; have := bzz.1; have := bzz.2; have := bpl.1; have := bpl.2; have : (0 : Int32).toInt = 0 := (by decide); omega)⟩, q_18, ⟨σ_20, c1_20, rc_20, ss_20, trivial⟩, trivial⟩, by rw [ht]; exact h.1, h.2.1, (hfF_14.w (by decide))⟩, h.2.2.F ht⟩) h.2.2.2.2 dX14_need_22
  · have c_6 := z_eq c_6
    have br_1_21 : zB 0 0 r_1 := zB.eqL (a := 0) (b := 0) c_6 (zBc 0 0 (by decide))
    refine lv_aload_n hx hb dX14_need_8 rfl (lv_at hl 0 rfl) ?_
    refine lv_iconst (v := 1) hx hb dX14_need_9 (by decide) ?_
    refine lv_aload_n hx hb dX14_need_10 rfl (lv_at hl 0 rfl) ?_
    refine zt_getk (t := 14) (C := RX14) (T := TX14) (N := 40) Z h hth zin_14 rfl 15 kpl ⟨by decide, rfl, by decide⟩ (zm_RX14 (List.mem_of_getElem? (i := 23) rfl)) (fun _ h9 => h9) dX14_need_11 ?_
    refine zk_Vr (As := [.int 1, .int pl]) (rest := []) (bytes := cX14_stop) (maxL := 3) (ret := (some (.object "LessonMakerModel$Stop"))) Z h (ze_X14_stop l D k Γ L F H.size th 1 pl st hth kst hst) (cwV 2 hg zv_RX14_144 rfl rfl rfl zd_X14_stop ⟨z_leR hRf (by decide), z_leR hRl (by decide)⟩) hth (by decide) rfl rfl hl.1 rfl (Nat.le_of_ble_eq_true rfl) dX14_need_14 ⟨Nat.zero_le _, Nat.zero_le _⟩ (fun F_22 H locs w_23 h hfF_22 => ?_)
    obtain ⟨q_24, -⟩ := w_23
    refine z_athrow hx hb dX14_need_17 ?_
    obtain ⟨ce, hce, hcv, hcl⟩ := z_cell Z h hst
    subst hQ
    exact zx_out ⟨1, q_24, by rw [show (1 : Int32).toInt = 1 by decide]; exact zRc.flr (zRc.need0 (N := 0) rc0_ (by have := bc_.1; have := bc_.2; have := bpl.1; have := bpl.2; have := bzz.1; have := bzz.2; have : (0 : Int32).toInt = 0 := (by decide); have : (1 : Int32).toInt = 1 := (by decide); omega)) (zD1.inl p_au)⟩ ht9 hlocks h (hfF_22.w (by decide)) hce hcv hcl

set_option maxHeartbeats 4000000 in
set_option maxRecDepth 100000 in
theorem ze_X14_opens (l : Launch) (D : va_G) (k : Nat → ClassId) (Γ : Nat → Option Nat) (L : List Nat) (F : Nat → va_E) (sz : Nat) (th : Nat) (tp : Nat) (st : Nat) (pl : Int32) (br : Int32) (zz : Int32) (Bt : Nat → Int32) (nt : Nat) (σ : zSg) (hth : Γ th = some 14) (ktp : zfld F th 10 = .ref tp) (htp : Γ tp = some 152) (kst : zfld F th 9 = .ref st) (hst : Γ st = some 13) (p_tk : zTk F th tp) (kpl : zfld F th 15 = .int pl) (bpl : zB 0 600 pl) (kbr : zfld F th 20 = .int br) (bbr : zB 0 6 br) (kzz : zfld F th 12 = .int zz) (bzz : zB 0 600 zz) (hr0 : zel F tp = Bt) (hr1 : zz.toInt = nt) (p_au : zD1 F th Bt nt (σ)) : vy_Met l yX14_opens zwX14_opens ({ frames := 2, cells := 0, slots := 0, locals := 43 }) (va_Pc [.ref th] (zP D k Γ L F sz)) (va_Qv (fun (u : Nat → va_E) => (∃ (p9 : Int32) (b9 : Int32), zfld u th 15 = .int p9 ∧ zB 0 600 p9 ∧ zfld u th 20 = .int b9 ∧ zB 0 6 b9 ∧ (pl.toInt + 1 ≤ p9.toInt ∧ b9.toInt = br.toInt + 1)) ∧ (zTk u th tp) ∧ (∃ σ9 : zSg, zD1 u th Bt nt σ9 ∧ zRc (zTo Bt nt) σ [(18, br.toInt.toNat, 0, 0)] σ9 [] ∧ zss σ σ9 ∧ True) ∧ True) (zQ D k Γ L F [1306, 1307, 1413, 1414, 1415, 1416, 1417, 1418, 1420, 1421]) (zA L sz)) (vy_X (fun u => ∃ k9 : Int32, zfld u st 6 = .int k9 ∧ zRc (zTo Bt nt) σ [(18, br.toInt.toNat, 0, 0)] (.inr k9.toInt) []) (zX D k Γ L F [1306, 1307, 1413, 1414, 1415, 1416, 1417, 1418, 1420, 1421] st) (zA L sz)) 0 0 (zA L sz) := by
  refine vy_ofW (cc := cX14_opens) (maxL := 1) (ret := none) (by decide) rfl ?_
  intro p e s m args below meth c s₁ B hml ht9 hv
  obtain ⟨rfl, hsz, hP, hK, hLn, hE, hI⟩ := hv
  have hx := B.exec
  have hb := B.bytes
  have hr := B.returns
  have hg : ∀ w ∈ zG, w.before _ s = true := fun w h9 => atoms_spec (ws := zwX14_opens) B.pre w (List.mem_cons_of_mem _ h9)
  have hown : s.vm.findClass RX14 = some m.cls := findClass_of_methodNamed B.named
  have hlocks := B.notSynchronized
  subst hsz
  have Z : zC p m c cX14_opens 1 s _ zG RX14 D k L := ⟨⟨hx, hb, hml, hown, hg⟩, hK, hLn, hE⟩
  have h : zH D k Γ L s F s.heap [] := ⟨hP, hI, va_S.rf⟩
  have hl := lv_entry ([.ref th]) (n := 1) (Nat.le_of_ble_eq_true rfl)
  rw [lg_entry_eq]
  generalize (lg_sl ([.ref th]) ++ List.replicate (1 - (lg_sl ([.ref th])).length) Slot.unset).toArray = ls at hl ⊢
  have hl : lv_has ls 1 [(0, .ref th)] := hl
  clear hP hK hLn hE hI
  generalize hargs : ([.ref th] : List Value).toArray = args at *
  refine z_start (fun R Q hRf hRl hQ => ?_)
  have hRf : R.frames = 2 := hRf
  have hRl : R.locals = 43 := hRl
  have h9 := h
  have rc0_ : zRc (zTo Bt nt) σ [(18, br.toInt.toNat, 0, 0)] σ [(18, br.toInt.toNat, 0, 0)] := zRc.rf
  have ss0_ : zss σ σ := zss.rf
  refine lv_aload_n hx hb dX14_opens_0 rfl (lv_at hl 0 rfl) ?_
  refine lv_bipush (v := 40) hx hb dX14_opens_1 (by decide) ?_
  refine zk_Vi (As := [.int 40]) (rest := []) (bytes := cX14_is) (maxL := 2) (ret := (some .boolean)) Z h (ze_X14_is l D k Γ L F s.heap.size th 40 Bt nt σ hth (zB.of ⟨by decide, by decide⟩) p_au) (cwV 1 hg zv_RX14_141 rfl rfl rfl zd_X14_is ⟨z_leR hRf (by decide), z_leR hRl (by decide)⟩) hth (by decide) rfl rfl hl.1 rfl (Nat.le_of_ble_eq_true rfl) dX14_opens_3 ⟨Nat.zero_le _, Nat.zero_le _⟩ (fun r_1 F_2 H locs w_3 h hfF_2 => ?_)
  obtain ⟨rfl, br_1, q_4, q_5, -⟩ := w_3
  refine lv_if_ne (tgt := 19) hx hb dX14_opens_6 (by decide) (fun c_6 => ?_) (fun c_6 => ?_)
  · obtain ⟨x_7, x_8, kx_7, bx_7, kx_8, bx_8, q_9⟩ := q_4 c_6
    have c_6 := z_ne c_6
    have br_1_10 : zB 1 1 r_1 := zB.neLo c_6 br_1 (zBc 0 0 (by decide)) (by decide)
    refine lv_aload_n hx hb dX14_opens_19 rfl (lv_at hl 0 rfl) ?_
    refine zt_getk (t := 14) (C := RX14) (T := TX14) (N := 40) Z h hth zin_14 rfl 20 kbr ⟨by decide, rfl, by decide⟩ (zm_RX14 (List.mem_of_getElem? (i := 59) rfl)) (fun _ h9 => h9) dX14_opens_20 ?_
    refine lv_bipush (v := 6) hx hb dX14_opens_23 (by decide) ?_
    refine lv_icmp_ne (tgt := 38) hx hb dX14_opens_25 (by decide) (fun c_11 => ?_) (fun c_11 => ?_)
    · have c_11 := z_ne c_11
      have bbr_12 : zB 0 5 br := zB.neHi c_11 bbr (zBc 6 6 (by decide)) (by decide)
      refine lv_aload_n hx hb dX14_opens_38 rfl (lv_at hl 0 rfl) ?_
      refine lv_dup hx hb dX14_opens_39 rfl ?_
      refine zt_getk (t := 14) (C := RX14) (T := TX14) (N := 40) Z h hth zin_14 rfl 20 kbr ⟨by decide, rfl, by decide⟩ (zm_RX14 (List.mem_of_getElem? (i := 59) rfl)) (fun _ h9 => h9) dX14_opens_40 ?_
      refine lv_iconst (v := 1) hx hb dX14_opens_43 (by decide) ?_
      refine lv_iadd hx hb dX14_opens_44 ?_
      refine zi_add (lo := 1) (hi := 6) bbr_12 (zBc 1 1 (by decide)) (by decide) (fun x_13 bx_13 tx_13 => ?_)
      refine zt_put (t := 14) (C := RX14) (T := TX14) (N := 40) (v := .int x_13) Z h hth zin_14 tyX14 tyX14_ok nmX14 rfl 20 rfl ⟨by decide, rfl⟩ (zm_RX14 (List.mem_of_getElem? (i := 59) rfl)) (fun _ h9 => h9) rfl (zV.i (bx_13.w ⟨by decide, by decide⟩)) rfl rfl dX14_opens_45 (fun H locs F_14 h hfF_14 kF_14 => ?_)
      refine lv_aload_n hx hb dX14_opens_48 rfl (lv_at hl 0 rfl) ?_
      have p_15 := (p_tk.fr hfF_14 hth htp (by decide))
      obtain ⟨x_16, kx_16, bx_16⟩ := z_learn (j := 13) (lo := 0) (hi := 600) h hth (by decide) rfl
      have q_17 := zTk.adv p_15 (hfF_14.f hth 12 ⟨by decide, by decide⟩ kzz) kx_16 (hfF_14.f hth 14 ⟨by decide, by decide⟩ kx_7) (hfF_14.f hth 15 ⟨by decide, by decide⟩ kpl)
      have c1_19 := (p_au.fr hfF_14 hth (by decide))
      obtain ⟨i_18, di_18, hi_18, zi_18⟩ := zD1.at c1_19 kx_16
      refine zk_Vv (As := []) (rest := []) (bytes := cX14_next) (maxL := 3) (ret := none) Z h (ze_X14_next l D k Γ L F_14 H.size th tp x_16 zz Bt nt (i_18 + 1) hth (hfF_14.f hth 10 ⟨by decide, by decide⟩ ktp) htp kx_16 bx_16 (hfF_14.f hth 12 ⟨by decide, by decide⟩ kzz) bzz (by have := bx_16.1; have := bx_16.2; have := bzz.1; have := bzz.2; have := bpl.1; have := bpl.2; have := bx_13.1; have := bx_13.2; have := bx_7.1; have := bx_7.2; have := bx_8.1; have := bx_8.2; have := bbr_12.1; have := bbr_12.2; have : (0 : Int32).toInt = 0 := (by decide); have : (1 : Int32).toInt = 1 := (by decide); have : (6 : Int32).toInt = 6 := (by decide); have : (40 : Int32).toInt = 40 := (by decide); omega) (zTk.ok p_15 kx_16) ((((hfF_14.w (by decide)) : zFr Γ [1306, 1307, 1413, 1414, 1415, 1416, 1417, 1418, 1420, 1421] F F_14).elf htp (by decide)).trans hr0) (by have := bx_16.1; have := bx_16.2; have := bzz.1; have := bzz.2; have := bpl.1; have := bpl.2; have := bx_13.1; have := bx_13.2; have := bx_7.1; have := bx_7.2; have := bx_8.1; have := bx_8.2; have := bbr_12.1; have := bbr_12.2; have : (0 : Int32).toInt = 0 := (by decide); have : (1 : Int32).toInt = 1 := (by decide); have : (6 : Int32).toInt = 6 := (by decide); have : (40 : Int32).toInt = 40 := (by decide); omega) zi_18) (cwV 0 hg zv_RX14_147 rfl rfl rfl zd_X14_next ⟨z_leR hRf (by decide), z_leR hRl (by decide)⟩) hth (by decide) rfl rfl hl.1 rfl (Nat.le_of_ble_eq_true rfl) dX14_opens_49 ⟨Nat.zero_le _, Nat.zero_le _⟩ (fun F_20 H locs w_21 h hfF_20 => ?_)
      obtain ⟨⟨x_23, kx_23, bx_23, q_22⟩, q_24, q_25, -⟩ := w_21
      have c1_26 : zD1 F_20 th Bt nt (zadv σ) := ⟨i_18 + 1, di_18, by rw [hi_18]; rfl, q_25⟩
      have rc_26 : zRc (zTo Bt nt) σ [(18, br.toInt.toNat, 0, 0)] (zadv σ) [] := zRc.open0 (N := 0) rc0_ (by have := bx_23.1; have := bx_23.2; have := bx_13.1; have := bx_13.2; have := bzz.1; have := bzz.2; have := bpl.1; have := bpl.2; have := bbr_12.1; have := bbr_12.2; have : (0 : Int32).toInt = 0 := (by decide); have : (1 : Int32).toInt = 1 := (by decide); have : (6 : Int32).toInt = 6 := (by decide); have : (40 : Int32).toInt = 40 := (by decide); omega) (by have := bx_23.1; have := bx_23.2; have := bx_13.1; have := bx_13.2; have := bzz.1; have := bzz.2; have := bpl.1; have := bpl.2; have := bbr_12.1; have := bbr_12.2; have : (0 : Int32).toInt = 0 := (by decide); have : (1 : Int32).toInt = 1 := (by decide); have : (6 : Int32).toInt = 6 := (by decide); have : (40 : Int32).toInt = 40 := (by decide); omega)
      have st_26 : zss σ (zadv σ) := zsm.adv.ss
      have ss_26 : zss σ (zadv σ) := ss0_.trans st_26
      generalize hσ_26 : zadv σ = σ_26 at c1_26 rc_26 st_26 ss_26
      subst hQ
      refine vy_ret ?_
      exact W.vret hx hb hr (fun t ht hW => ⟨⟨F_20, rfl, ⟨⟨x_23, x_13, kx_23, bx_23, (hfF_20.f hth 20 ⟨by decide, by decide⟩ kF_14), (bx_13.w ⟨by decide, by decide⟩), (by have := bx_23.1; have := bx_23.2; have := bx_13.1; have := bx_13.2; have := bzz.1; have := bzz.2; have := bpl.1; have := bpl.2; have := bbr_12.1; have := bbr_12.2; have : (0 : Int32).toInt = 0 := (by decide); have : (1 : Int32).toInt = 1 := (by decide); have : (6 : Int32).toInt = 6 := (by decide); have : (40 : Int32).toInt = 40 := (by decide); omega)⟩, q_24, ⟨σ_26, c1_26, rc_26, ss_26, trivial⟩, trivial⟩, by rw [ht]; exact h.1, h.2.1, ((hfF_14.w (by decide)).trans hfF_20 (by decide))⟩, h.2.2.F ht⟩) h.2.2.2.2 dX14_opens_52
    · have c_11 := z_eq c_11
      have bbr_27 : zB 6 6 br := zB.eqL (a := 0) (b := 0) c_11 (zBc 6 6 (by decide))
      refine lv_aload_n hx hb dX14_opens_28 rfl (lv_at hl 0 rfl) ?_
      refine lv_iconst (v := 3) hx hb dX14_opens_29 (by decide) ?_
      refine lv_aload_n hx hb dX14_opens_30 rfl (lv_at hl 0 rfl) ?_
      refine zt_getk (t := 14) (C := RX14) (T := TX14) (N := 40) Z h hth zin_14 rfl 15 kpl ⟨by decide, rfl, by decide⟩ (zm_RX14 (List.mem_of_getElem? (i := 23) rfl)) (fun _ h9 => h9) dX14_opens_31 ?_
      refine zk_Vr (As := [.int 3, .int pl]) (rest := []) (bytes := cX14_stop) (maxL := 3) (ret := (some (.object "LessonMakerModel$Stop"))) Z h (ze_X14_stop l D k Γ L F H.size th 3 pl st hth kst hst) (cwV 2 hg zv_RX14_144 rfl rfl rfl zd_X14_stop ⟨z_leR hRf (by decide), z_leR hRl (by decide)⟩) hth (by decide) rfl rfl hl.1 rfl (Nat.le_of_ble_eq_true rfl) dX14_opens_34 ⟨Nat.zero_le _, Nat.zero_le _⟩ (fun F_28 H locs w_29 h hfF_28 => ?_)
      obtain ⟨q_30, -⟩ := w_29
      refine z_athrow hx hb dX14_opens_37 ?_
      obtain ⟨ce, hce, hcv, hcl⟩ := z_cell Z h hst
      subst hQ
      exact zx_out ⟨3, q_30, by rw [show (3 : Int32).toInt = 3 by decide]; exact zRc.flr (zRc.open3 (N := 0) rc0_ (by have := bpl.1; have := bpl.2; have := bbr_27.1; have := bbr_27.2; have := bzz.1; have := bzz.2; have := bx_7.1; have := bx_7.2; have := bx_8.1; have := bx_8.2; have : (0 : Int32).toInt = 0 := (by decide); have : (3 : Int32).toInt = 3 := (by decide); have : (6 : Int32).toInt = 6 := (by decide); have : (40 : Int32).toInt = 40 := (by decide); omega) (by have := bpl.1; have := bpl.2; have := bbr_27.1; have := bbr_27.2; have := bzz.1; have := bzz.2; have := bx_7.1; have := bx_7.2; have := bx_8.1; have := bx_8.2; have : (0 : Int32).toInt = 0 := (by decide); have : (3 : Int32).toInt = 3 := (by decide); have : (6 : Int32).toInt = 6 := (by decide); have : (40 : Int32).toInt = 40 := (by decide); omega)) (zD1.inl p_au)⟩ ht9 hlocks h (hfF_28.w (by decide)) hce hcv hcl
  · have c_6 := z_eq c_6
    have br_1_31 : zB 0 0 r_1 := zB.eqL (a := 0) (b := 0) c_6 (zBc 0 0 (by decide))
    refine lv_aload_n hx hb dX14_opens_9 rfl (lv_at hl 0 rfl) ?_
    refine lv_iconst (v := 1) hx hb dX14_opens_10 (by decide) ?_
    refine lv_aload_n hx hb dX14_opens_11 rfl (lv_at hl 0 rfl) ?_
    refine zt_getk (t := 14) (C := RX14) (T := TX14) (N := 40) Z h hth zin_14 rfl 15 kpl ⟨by decide, rfl, by decide⟩ (zm_RX14 (List.mem_of_getElem? (i := 23) rfl)) (fun _ h9 => h9) dX14_opens_12 ?_
    refine zk_Vr (As := [.int 1, .int pl]) (rest := []) (bytes := cX14_stop) (maxL := 3) (ret := (some (.object "LessonMakerModel$Stop"))) Z h (ze_X14_stop l D k Γ L F H.size th 1 pl st hth kst hst) (cwV 2 hg zv_RX14_144 rfl rfl rfl zd_X14_stop ⟨z_leR hRf (by decide), z_leR hRl (by decide)⟩) hth (by decide) rfl rfl hl.1 rfl (Nat.le_of_ble_eq_true rfl) dX14_opens_15 ⟨Nat.zero_le _, Nat.zero_le _⟩ (fun F_32 H locs w_33 h hfF_32 => ?_)
    obtain ⟨q_34, -⟩ := w_33
    refine z_athrow hx hb dX14_opens_18 ?_
    obtain ⟨ce, hce, hcv, hcl⟩ := z_cell Z h hst
    subst hQ
    exact zx_out ⟨1, q_34, by rw [show (1 : Int32).toInt = 1 by decide]; exact zRc.flr (zRc.open1 (N := 0) rc0_ (by have := bpl.1; have := bpl.2; have := bbr.1; have := bbr.2; have := bzz.1; have := bzz.2; have : (0 : Int32).toInt = 0 := (by decide); have : (1 : Int32).toInt = 1 := (by decide); have : (40 : Int32).toInt = 40 := (by decide); omega)) (zD1.inl p_au)⟩ ht9 hlocks h (hfF_32.w (by decide)) hce hcv hcl
