set_option maxHeartbeats 4000000 in
set_option maxRecDepth 100000 in
theorem zx_X14_done (l : Launch) (D : va_G) (k : Nat → ClassId) (Γ : Nat → Option Nat) (L : List Nat) (F : Nat → va_E) (sz : Nat) (th : Nat) (va : Int32) (hth : Γ th = some 14) : Met l yX14_done zwX14_done ({ frames := 0, cells := 0, slots := 0, locals := 0 }) (va_Pc [.ref th, .int va] (zP D k Γ L F sz)) (va_Qi (fun (r : Int32) (u : Nat → va_E) => r = va ∧ True) (zQ D k Γ L F [1401, 1402]) (zA L sz)) 0 0 (zA L sz) := by
  refine Met.ofW (cc := cX14_done) (maxL := 2) (ret := (some .int)) (by decide) rfl ?_
  intro p e s m args below meth c s₁ B hml hv
  obtain ⟨rfl, hsz, hP, hK, hLn, hE, hI⟩ := hv
  have hx := B.exec
  have hb := B.bytes
  have hr := B.returns
  have hg : ∀ w ∈ zG, w.before _ s = true := fun w h9 => atoms_spec (ws := zwX14_done) B.pre w (List.mem_cons_of_mem _ h9)
  have hown : s.vm.findClass RX14 = some m.cls := findClass_of_methodNamed B.named
  have hlocks := B.notSynchronized
  subst hsz
  have Z : zC p m c cX14_done 2 s _ zG RX14 D k L := ⟨⟨hx, hb, hml, hown, hg⟩, hK, hLn, hE⟩
  have h : zH D k Γ L s F s.heap [] := ⟨hP, hI, va_S.rf⟩
  have hl := lv_entry ([.ref th, .int va]) (n := 2) (Nat.le_of_ble_eq_true rfl)
  rw [lg_entry_eq]
  generalize (lg_sl ([.ref th, .int va]) ++ List.replicate (2 - (lg_sl ([.ref th, .int va])).length) Slot.unset).toArray = ls at hl ⊢
  have hl : lv_has ls 2 [(0, .ref th), (1, .int va)] := hl
  clear hP hK hLn hE hI
  generalize hargs : ([.ref th, .int va] : List Value).toArray = args at *
  refine z_start (fun R Q hRf hRl hQ => ?_)
  have hRf : R.frames = 0 := hRf
  have hRl : R.locals = 0 := hRl
  have h9 := h
  refine lv_aload_n hx hb dX14_done_0 rfl (lv_at hl 0 rfl) ?_
  refine lv_iconst (v := 0) hx hb dX14_done_1 (by decide) ?_
  refine zt_put (t := 14) (C := RX14) (T := TX14) (N := 40) (v := .int 0) Z h hth zin_14 tyX14 tyX14_ok nmX14 rfl 1 rfl ⟨by decide, rfl⟩ (zm_RX14 (List.mem_of_getElem? (i := 2) rfl)) (fun _ h9 => h9) rfl (zV.i (zB.of ⟨by decide, by decide⟩)) rfl rfl dX14_done_2 (fun H locs F_1 h hfF_1 kF_1 => ?_)
  refine lv_aload_n hx hb dX14_done_5 rfl (lv_at hl 0 rfl) ?_
  refine lv_iconst (v := (-1)) hx hb dX14_done_6 (by decide) ?_
  refine zt_put (t := 14) (C := RX14) (T := TX14) (N := 40) (v := .int (-1)) Z h hth zin_14 tyX14 tyX14_ok nmX14 rfl 2 rfl ⟨by decide, rfl⟩ (zm_RX14 (List.mem_of_getElem? (i := 3) rfl)) (fun _ h9 => h9) rfl (zV.i (zB.of ⟨by decide, by decide⟩)) rfl rfl dX14_done_7 (fun H locs F_2 h hfF_2 kF_2 => ?_)
  refine lv_iload_n hx hb dX14_done_10 rfl (lv_at hl 1 rfl) ?_
  subst hQ
  exact W.iret (v := va) hx hb hr (fun t ht hW => ⟨⟨va, F_2, rfl, ⟨rfl, trivial⟩, by rw [ht]; exact h.1, h.2.1, ((hfF_1.w (by decide)).trans hfF_2 (by decide))⟩, h.2.2.F ht⟩) h.2.2.2.2 dX14_done_11

set_option maxHeartbeats 4000000 in
set_option maxRecDepth 100000 in
theorem zx_X14_in (l : Launch) (D : va_G) (k : Nat → ClassId) (Γ : Nat → Option Nat) (L : List Nat) (F : Nat → va_E) (sz : Nat) (i0 : Int32) (i1 : Int32) (i2 : Int32) : Met l yX14_in zwX14_in ({ frames := 0, cells := 0, slots := 0, locals := 0 }) (va_Pc [.int i0, .int i1, .int i2] (zP D k Γ L F sz)) (va_Qi (fun (r : Int32) (u : Nat → va_E) => F = u ∧ zB 0 1 r ∧ ((r.toInt = 1 ∧ i1.toInt ≤ i0.toInt ∧ i0.toInt ≤ i2.toInt) ∨ (r.toInt = 0 ∧ (i0.toInt < i1.toInt ∨ i2.toInt < i0.toInt))) ∧ True) (zQ D k Γ L F []) (zA L sz)) 0 0 (zA L sz) := by
  refine Met.ofW (cc := cX14_in) (maxL := 3) (ret := (some .boolean)) (by decide) rfl ?_
  intro p e s m args below meth c s₁ B hml hv
  obtain ⟨rfl, hsz, hP, hK, hLn, hE, hI⟩ := hv
  have hx := B.exec
  have hb := B.bytes
  have hr := B.returns
  have hg : ∀ w ∈ zG, w.before _ s = true := fun w h9 => atoms_spec (ws := zwX14_in) B.pre w (List.mem_cons_of_mem _ h9)
  have hown : s.vm.findClass RX14 = some m.cls := findClass_of_methodNamed B.named
  have hlocks := B.notSynchronized
  subst hsz
  have Z : zC p m c cX14_in 3 s _ zG RX14 D k L := ⟨⟨hx, hb, hml, hown, hg⟩, hK, hLn, hE⟩
  have h : zH D k Γ L s F s.heap [] := ⟨hP, hI, va_S.rf⟩
  have hl := lv_entry ([.int i0, .int i1, .int i2]) (n := 3) (Nat.le_of_ble_eq_true rfl)
  rw [lg_entry_eq]
  generalize (lg_sl ([.int i0, .int i1, .int i2]) ++ List.replicate (3 - (lg_sl ([.int i0, .int i1, .int i2])).length) Slot.unset).toArray = ls at hl ⊢
  have hl : lv_has ls 3 [(0, .int i0), (1, .int i1), (2, .int i2)] := hl
  clear hP hK hLn hE hI
  generalize hargs : ([.int i0, .int i1, .int i2] : List Value).toArray = args at *
  refine z_start (fun R Q hRf hRl hQ => ?_)
  have hRf : R.frames = 0 := hRf
  have hRl : R.locals = 0 := hRl
  have h9 := h
  refine lv_iload_n hx hb dX14_in_0 rfl (lv_at hl 0 rfl) ?_
  refine lv_iload_n hx hb dX14_in_1 rfl (lv_at hl 1 rfl) ?_
  refine lv_icmp_lt (tgt := 14) hx hb dX14_in_2 (by decide) (fun c_1 => ?_) (fun c_1 => ?_)
  · have c_1 := z_lt c_1
    have bi0_2 : zB (-2147483648) 2147483646 i0 := zB.ltL c_1 (zB.all i0) (zB.all i1) (by decide)
    have bi1_3 : zB (-2147483647) 2147483647 i1 := zB.ltR c_1 (zB.all i0) (zB.all i1) (by decide)
    refine lv_iconst (v := 0) hx hb dX14_in_14 (by decide) ?_
    subst hQ
    exact W.zret (v := 0) hx hb hr (by decide) (fun t ht hW => ⟨⟨0, F, rfl, ⟨rfl, (zB.of ⟨by decide, by decide⟩), (by have := bi0_2.1; have := bi0_2.2; have := bi1_3.1; have := bi1_3.2; have := (zB.all i2).1; have := (zB.all i2).2; have : (0 : Int32).toInt = 0 := (by decide); omega), trivial⟩, by rw [ht]; exact h.1, h.2.1, zFr.rf⟩, h.2.2.F ht⟩) h.2.2.2.2 dX14_in_15
  · have c_1 := z_nlt c_1
    refine lv_iload_n hx hb dX14_in_5 rfl (lv_at hl 0 rfl) ?_
    refine lv_iload_n hx hb dX14_in_6 rfl (lv_at hl 2 rfl) ?_
    refine lv_icmp_gt (tgt := 14) hx hb dX14_in_7 (by decide) (fun c_4 => ?_) (fun c_4 => ?_)
    · have c_4 := z_lt c_4
      have bi2_5 : zB (-2147483648) 2147483646 i2 := zB.ltL c_4 (zB.all i2) (zB.all i0) (by decide)
      have bi0_6 : zB (-2147483647) 2147483647 i0 := zB.ltR c_4 (zB.all i2) (zB.all i0) (by decide)
      refine lv_iconst (v := 0) hx hb dX14_in_14 (by decide) ?_
      subst hQ
      exact W.zret (v := 0) hx hb hr (by decide) (fun t ht hW => ⟨⟨0, F, rfl, ⟨rfl, (zB.of ⟨by decide, by decide⟩), (by have := bi0_6.1; have := bi0_6.2; have := (zB.all i1).1; have := (zB.all i1).2; have := bi2_5.1; have := bi2_5.2; have : (0 : Int32).toInt = 0 := (by decide); omega), trivial⟩, by rw [ht]; exact h.1, h.2.1, zFr.rf⟩, h.2.2.F ht⟩) h.2.2.2.2 dX14_in_15
    · have c_4 := z_nlt c_4
      refine lv_iconst (v := 1) hx hb dX14_in_10 (by decide) ?_
      refine lv_goto (tgt := 15) hx hb dX14_in_11 (by decide) ?_
      subst hQ
      exact W.zret (v := 1) hx hb hr (by decide) (fun t ht hW => ⟨⟨1, F, rfl, ⟨rfl, (zB.of ⟨by decide, by decide⟩), (by have := (zB.all i0).1; have := (zB.all i0).2; have := (zB.all i1).1; have := (zB.all i1).2; have := (zB.all i2).1; have := (zB.all i2).2; have : (1 : Int32).toInt = 1 := (by decide); omega), trivial⟩, by rw [ht]; exact h.1, h.2.1, zFr.rf⟩, h.2.2.F ht⟩) h.2.2.2.2 dX14_in_15

set_option maxHeartbeats 4000000 in
set_option maxRecDepth 100000 in
theorem zx_X14_run (l : Launch) (D : va_G) (k : Nat → ClassId) (Γ : Nat → Option Nat) (L : List Nat) (F : Nat → va_E) (sz : Nat) (th : Nat) (f_ : Int32) (x : Int32) (y : Int32) (z : Int32) (fv : Int32) (st : Nat) (pr : Nat) (wk : Nat) (is_ : Int32) (nf : Int32) (d : zDat) (T : zTS) (V : Nat → Int) (hth : Γ th = some 14) (kst : zfld F th 9 = .ref st) (hst : Γ st = some 13) (kpr : zfld F th 4 = .ref pr) (hpr : Γ pr = some 11) (kwk : zfld F th 23 = .ref wk) (hwk : Γ wk = some 12) (p_mi : zMI Γ F th pr) (kis_ : zfld F th 7 = .int is_) (bis_ : zB 0 1 is_) (knf : zfld F pr 0 = .int nf) (bnf : zB 0 10 nf) (hr0 : is_.toInt ≠ 0 → zRb Γ F pr T V d ∧ zTd d ∧ zAn (zAa T V d) (zac d)) : Met l yX14_run zwX14_run ({ frames := 87, cells := 0, slots := 0, locals := 3453 }) (va_Pc [.ref th, .int f_, .int x, .int y, .int z, .int fv] (zP D k Γ L F sz)) (va_Qi (fun (r : Int32) (u : Nat → va_E) => ((is_.toInt ≠ 0 ∧ 0 ≤ f_.toInt ∧ f_.toInt < nf.toInt ∧ 1 ≤ fv.toInt ∧ fv.toInt ≤ 2000 → zRz ((-1) : Int32).toInt fv.toInt d T V u wk f_.toInt x y z ∧ r.toInt = ven (zFx9 ((-1) : Int32).toInt fv.toInt d T V f_.toInt x y z)) ∧ (¬ (is_.toInt ≠ 0 ∧ 0 ≤ f_.toInt ∧ f_.toInt < nf.toInt ∧ 1 ≤ fv.toInt ∧ fv.toInt ≤ 2000) → r.toInt = -1)) ∧ True) (zQ D k Γ L F [1200, 1201, 1202, 1203, 1204, 1205, 1206, 1306, 1307, 1400, 1401, 1402, 1422, 1423, 1424, 1426, 1427, 1428, 1429, 15000, 16500, 16600, 16700]) (zA L sz)) 0 0 (zA L sz) := by
  refine Met.ofW (cc := cX14_run) (maxL := 7) (ret := (some .int)) (by decide) rfl ?_
  intro p e s m args below meth c s₁ B hml hv
  obtain ⟨rfl, hsz, hP, hK, hLn, hE, hI⟩ := hv
  have hx := B.exec
  have hb := B.bytes
  have hr := B.returns
  have hg : ∀ w ∈ zG, w.before _ s = true := fun w h9 => atoms_spec (ws := zwX14_run) B.pre w (List.mem_cons_of_mem _ h9)
  have hown : s.vm.findClass RX14 = some m.cls := findClass_of_methodNamed B.named
  have hlocks := B.notSynchronized
  subst hsz
  have Z : zC p m c cX14_run 7 s _ zG RX14 D k L := ⟨⟨hx, hb, hml, hown, hg⟩, hK, hLn, hE⟩
  have h : zH D k Γ L s F s.heap [] := ⟨hP, hI, va_S.rf⟩
  have hl := lv_entry ([.ref th, .int f_, .int x, .int y, .int z, .int fv]) (n := 7) (Nat.le_of_ble_eq_true rfl)
  rw [lg_entry_eq]
  generalize (lg_sl ([.ref th, .int f_, .int x, .int y, .int z, .int fv]) ++ List.replicate (7 - (lg_sl ([.ref th, .int f_, .int x, .int y, .int z, .int fv])).length) Slot.unset).toArray = ls at hl ⊢
  have hl : lv_has ls 7 [(0, .ref th), (1, .int f_), (2, .int x), (3, .int y), (4, .int z), (5, .int fv)] := hl
  clear hP hK hLn hE hI
  generalize hargs : ([.ref th, .int f_, .int x, .int y, .int z, .int fv] : List Value).toArray = args at *
  refine z_start (fun R Q hRf hRl hQ => ?_)
  have hRf : R.frames = 87 := hRf
  have hRl : R.locals = 3453 := hRl
  have h9 := h
  have hI0 := h.2.1
  refine lv_aload_n hx hb dX14_run_0 rfl (lv_at hl 0 rfl) ?_
  refine lv_iconst (v := 0) hx hb dX14_run_1 (by decide) ?_
  refine zt_put (t := 14) (C := RX14) (T := TX14) (N := 40) (v := .int 0) Z h hth zin_14 tyX14 tyX14_ok nmX14 rfl 0 rfl ⟨by decide, rfl⟩ (zm_RX14 (List.mem_of_getElem? (i := 105) rfl)) (fun _ h9 => h9) rfl (zV.i (zB.of ⟨by decide, by decide⟩)) rfl rfl dX14_run_2 (fun H locs F_1 h hfF_1 kF_1 => ?_)
  refine lv_aload_n hx hb dX14_run_5 rfl (lv_at hl 0 rfl) ?_
  refine lv_iload_n hx hb dX14_run_6 rfl (lv_at hl 1 rfl) ?_
  refine zk_Vi (As := [.int f_]) (rest := []) (bytes := cX14_isFunction) (maxL := 2) (ret := (some .boolean)) Z h (zc_X14_isFunction l D k Γ L F_1 H.size th f_ pr is_ nf hth (hfF_1.f hth 4 ⟨by decide, by decide⟩ kpr) hpr (hfF_1.f hth 7 ⟨by decide, by decide⟩ kis_) bis_ (hfF_1.f hpr 0 ⟨by decide, by decide⟩ knf) bnf) (cwV 1 hg zv_RX14_336 rfl rfl rfl zd_X14_isFunction ⟨z_leR hRf (by decide), z_leR hRl (by decide)⟩) hth (by decide) rfl rfl hl.1 rfl (Nat.le_of_ble_eq_true rfl) dX14_run_7 ⟨Nat.zero_le _, Nat.zero_le _⟩ (fun r_2 F_3 H locs w_4 h hfF_3 => ?_)
  obtain ⟨rfl, br_2, q_5, q_6, q_7, q_8, -⟩ := w_4
  refine lv_if_ne (tgt := 19) hx hb dX14_run_10 (by decide) (fun c_9 => ?_) (fun c_9 => ?_)
  · have q_10 := q_5 c_9
    have bf__11 : zB 0 9 f_ := q_7 c_9
    obtain ⟨⟨x_12, kx_12, hx_12⟩, x_13, kx_13, hx_13⟩ := q_8 c_9
    have bx_12 := zB.all x_12
    have bx_13 : zB 0 10 x_13 := by obtain ⟨x9, k9, b9⟩ := z_learn (j := 0) (lo := 0) (hi := 10) h hpr (by decide) rfl; rw [z_vi kx_13 k9]; exact b9
    have p_14 := (p_mi.fr hfF_1 hth (by decide))
    have wf_15 := zMI.wf p_14 kx_12 hx_12
    have c_9 := z_ne c_9
    have br_2_16 : zB 1 1 r_2 := zB.neLo c_9 br_2 (zBc 0 0 (by decide)) (by decide)
    refine lv_iload hx hb dX14_run_19 (lv_at hl 5 rfl) ?_
    refine lv_iconst (v := 1) hx hb dX14_run_21 (by decide) ?_
    refine lv_sipush (v := 2000) hx hb dX14_run_22 (by decide) ?_
    refine zk_Si (As := [.int fv, .int 1, .int 2000]) (rest := []) (bytes := cX14_in) (maxL := 3) (ret := (some .boolean)) Z h (zx_X14_in l D k Γ L F_1 H.size fv 1 2000) (va_cwS 3 hg zv_RX14_407 rfl rfl rfl zd_X14_in ⟨z_leR hRf (by decide), z_leR hRl (by decide)⟩) rfl hl.1 rfl (Nat.le_of_ble_eq_true rfl) dX14_run_25 ⟨Nat.zero_le _, Nat.zero_le _⟩ (fun r_17 F_18 H locs w_19 h hfF_18 => ?_)
    obtain ⟨rfl, br_17, q_20, -⟩ := w_19
    refine lv_if_ne (tgt := 37) hx hb dX14_run_28 (by decide) (fun c_21 => ?_) (fun c_21 => ?_)
    · have c_21 := z_ne c_21
      have br_17_22 : zB 1 1 r_17 := zB.neLo c_21 br_17 (zBc 0 0 (by decide)) (by decide)
      obtain ⟨hrb_, htd_, hAn_⟩ := hr0 (by have := bf__11.1; have := bf__11.2; have := (zB.all x).1; have := (zB.all x).2; have := (zB.all y).1; have := (zB.all y).2; have := (zB.all z).1; have := (zB.all z).2; have := (zB.all fv).1; have := (zB.all fv).2; have := bx_12.1; have := bx_12.2; have := bx_13.1; have := bx_13.2; have := bis_.1; have := bis_.2; have := bnf.1; have := bnf.2; have : (0 : Int32).toInt = 0 := (by decide); have : (1 : Int32).toInt = 1 := (by decide); have : (3 : Int32).toInt = 3 := (by decide); have : (2000 : Int32).toInt = 2000 := (by decide); omega)
      refine lv_aload_n hx hb dX14_run_37 rfl (lv_at hl 0 rfl) ?_
      refine lv_iload_n hx hb dX14_run_38 rfl (lv_at hl 1 rfl) ?_
      refine lv_iload_n hx hb dX14_run_39 rfl (lv_at hl 2 rfl) ?_
      refine lv_iload_n hx hb dX14_run_40 rfl (lv_at hl 3 rfl) ?_
      refine lv_iload hx hb dX14_run_41 (lv_at hl 4 rfl) ?_
      refine lv_iload hx hb dX14_run_43 (lv_at hl 5 rfl) ?_
      refine lv_iconst (v := (-1)) hx hb dX14_run_45 (by decide) ?_
      obtain ⟨x_23, kx_23, bx_23⟩ := z_learn (j := 1) (lo := 0) (hi := 60) h hpr (by decide) rfl
      obtain ⟨x_24, kx_24, bx_24⟩ := z_learn (j := 2) (lo := 0) (hi := 620) h hpr (by decide) rfl
      have p_25 := (hrb_.fr hfF_1 hpr ⟨by unfold zXM; decide, by decide⟩)
      refine zk_VHv (hh := [(108, 120, 123, 26)]) (As := [.int f_, .int x, .int y, .int z, .int fv, .int (-1)]) (rest := []) (bytes := cX14_runs) (maxL := 8) (ret := none) Z h (zx_X14_runs l D k Γ L F_1 H.size th f_ x y z fv (-1) st pr x_13 x_23 x_24 wk d T V hth bf__11 (zB.of ⟨by have := bf__11.1; have := bf__11.2; have := (zB.all x).1; have := (zB.all x).2; have := (zB.all y).1; have := (zB.all y).2; have := (zB.all z).1; have := (zB.all z).2; have := (zB.all fv).1; have := (zB.all fv).2; have := bx_12.1; have := bx_12.2; have := bx_13.1; have := bx_13.2; have := bis_.1; have := bis_.2; have := bnf.1; have := bnf.2; have : ((-1) : Int32).toInt = (-1) := (by decide); have : (0 : Int32).toInt = 0 := (by decide); have : (1 : Int32).toInt = 1 := (by decide); have : (3 : Int32).toInt = 3 := (by decide); have : (2000 : Int32).toInt = 2000 := (by decide); omega, by have := bf__11.1; have := bf__11.2; have := (zB.all x).1; have := (zB.all x).2; have := (zB.all y).1; have := (zB.all y).2; have := (zB.all z).1; have := (zB.all z).2; have := (zB.all fv).1; have := (zB.all fv).2; have := bx_12.1; have := bx_12.2; have := bx_13.1; have := bx_13.2; have := bis_.1; have := bis_.2; have := bnf.1; have := bnf.2; have : ((-1) : Int32).toInt = (-1) := (by decide); have : (0 : Int32).toInt = 0 := (by decide); have : (1 : Int32).toInt = 1 := (by decide); have : (3 : Int32).toInt = 3 := (by decide); have : (2000 : Int32).toInt = 2000 := (by decide); omega⟩) (hfF_1.f hth 9 ⟨by decide, by decide⟩ kst) hst (hfF_1.f hth 4 ⟨by decide, by decide⟩ kpr) hpr kx_13 bx_13 kx_23 bx_23 kx_24 bx_24 wf_15 (hfF_1.f hth 23 ⟨by decide, by decide⟩ kwk) hwk (by have := bf__11.1; have := bf__11.2; have := (zB.all x).1; have := (zB.all x).2; have := (zB.all y).1; have := (zB.all y).2; have := (zB.all z).1; have := (zB.all z).2; have := (zB.all fv).1; have := (zB.all fv).2; have := bx_13.1; have := bx_13.2; have := bx_23.1; have := bx_23.2; have := bx_24.1; have := bx_24.2; have := bx_12.1; have := bx_12.2; have := bis_.1; have := bis_.2; have := bnf.1; have := bnf.2; have : ((-1) : Int32).toInt = (-1) := (by decide); have : (0 : Int32).toInt = 0 := (by decide); have : (1 : Int32).toInt = 1 := (by decide); have : (3 : Int32).toInt = 3 := (by decide); have : (2000 : Int32).toInt = 2000 := (by decide); omega) p_25 htd_) (vx_cwVW 6 hg zv_RX14_411 rfl rfl rfl zd_X14_runs ⟨z_leR hRf (by decide), z_leR hRl (by decide)⟩) hth (by decide) rfl rfl hl.1 rfl (Nat.le_of_ble_eq_true rfl) dX14_run_46 ⟨Nat.zero_le _, Nat.zero_le _⟩ (fun F_26 H locs w_27 h hfF_26 => ?_)
      obtain ⟨q_28, -⟩ := w_27
      obtain ⟨x_29, kx_29, bx_29⟩ := z_learn (j := 2) (lo := 0) (hi := 2000) h hwk (by decide) rfl
      have hfc_ := zRb.fc hrb_ knf
      have hfn_ : Int32.toNatClampNeg f_ = f_.toInt.toNat := by have h6 := z_cl (x := f_) (by have := bf__11.1; have := bf__11.2; have := (zB.all x).1; have := (zB.all x).2; have := (zB.all y).1; have := (zB.all y).2; have := (zB.all z).1; have := (zB.all z).2; have := (zB.all fv).1; have := (zB.all fv).2; have := bx_12.1; have := bx_12.2; have := bx_13.1; have := bx_13.2; have := bx_23.1; have := bx_23.2; have := bx_24.1; have := bx_24.2; have := bx_29.1; have := bx_29.2; have := bis_.1; have := bis_.2; have := bnf.1; have := bnf.2; have : (0 : Int32).toInt = 0 := (by decide); have : (1 : Int32).toInt = 1 := (by decide); have : (3 : Int32).toInt = 3 := (by decide); have : (2000 : Int32).toInt = 2000 := (by decide); omega); omega
      have h6_ : (zar F_1 pr 6 (Int32.toNatClampNeg f_)).toInt = (zpc d f_.toInt.toNat : Int) := by rw [(hrb_.1.ar (hfF_1 : zFr Γ [1400] F F_1) 6 (by decide)), hfn_]; exact (hrb_.2.2.2.2.2.2 _ (by have := bf__11.1; have := bf__11.2; have := (zB.all x).1; have := (zB.all x).2; have := (zB.all y).1; have := (zB.all y).2; have := (zB.all z).1; have := (zB.all z).2; have := (zB.all fv).1; have := (zB.all fv).2; have := bx_12.1; have := bx_12.2; have := bx_13.1; have := bx_13.2; have := bx_23.1; have := bx_23.2; have := bx_24.1; have := bx_24.2; have := bx_29.1; have := bx_29.2; have := bis_.1; have := bis_.2; have := bnf.1; have := bnf.2; have : (0 : Int32).toInt = 0 := (by decide); have : (1 : Int32).toInt = 1 := (by decide); have : (3 : Int32).toInt = 3 := (by decide); have : (2000 : Int32).toInt = 2000 := (by decide); omega)).2.1
      have h63_ := zVb (j := 6) (c := 126) hI0 hpr ⟨by decide, rfl⟩ ⟨by decide, rfl⟩ (Int32.toNatClampNeg f_) (by rw [hfn_]; have := bf__11.1; have := bf__11.2; have := (zB.all x).1; have := (zB.all x).2; have := (zB.all y).1; have := (zB.all y).2; have := (zB.all z).1; have := (zB.all z).2; have := (zB.all fv).1; have := (zB.all fv).2; have := bx_12.1; have := bx_12.2; have := bx_13.1; have := bx_13.2; have := bx_23.1; have := bx_23.2; have := bx_24.1; have := bx_24.2; have := bx_29.1; have := bx_29.2; have := bis_.1; have := bis_.2; have := bnf.1; have := bnf.2; have : (0 : Int32).toInt = 0 := (by decide); have : (1 : Int32).toInt = 1 := (by decide); have : (3 : Int32).toInt = 3 := (by decide); have : (2000 : Int32).toInt = 2000 := (by decide); omega)
      have h6z_ : (zar F pr 6 (Int32.toNatClampNeg f_)).toInt = (zpc d f_.toInt.toNat : Int) := by rw [hfn_]; exact (hrb_.2.2.2.2.2.2 _ (by have := bf__11.1; have := bf__11.2; have := (zB.all x).1; have := (zB.all x).2; have := (zB.all y).1; have := (zB.all y).2; have := (zB.all z).1; have := (zB.all z).2; have := (zB.all fv).1; have := (zB.all fv).2; have := bx_12.1; have := bx_12.2; have := bx_13.1; have := bx_13.2; have := bx_23.1; have := bx_23.2; have := bx_24.1; have := bx_24.2; have := bx_29.1; have := bx_29.2; have := bis_.1; have := bis_.2; have := bnf.1; have := bnf.2; have : (0 : Int32).toInt = 0 := (by decide); have : (1 : Int32).toInt = 1 := (by decide); have : (3 : Int32).toInt = 3 := (by decide); have : (2000 : Int32).toInt = 2000 := (by decide); omega)).2.1
      have hrz_ : zRz ((-1) : Int32).toInt fv.toInt d T V F_26 wk f_.toInt x y z := zRz.of (by rw [h6_]; omega) (by rw [h6_]; have := h63_.2; omega) ⟨by have := bf__11.1; have := bf__11.2; have := (zB.all x).1; have := (zB.all x).2; have := (zB.all y).1; have := (zB.all y).2; have := (zB.all z).1; have := (zB.all z).2; have := (zB.all fv).1; have := (zB.all fv).2; have := bx_12.1; have := bx_12.2; have := bx_13.1; have := bx_13.2; have := bx_23.1; have := bx_23.2; have := bx_24.1; have := bx_24.2; have := bx_29.1; have := bx_29.2; have := bis_.1; have := bis_.2; have := bnf.1; have := bnf.2; have : (0 : Int32).toInt = 0 := (by decide); have : (1 : Int32).toInt = 1 := (by decide); have : (3 : Int32).toInt = 3 := (by decide); have : (2000 : Int32).toInt = 2000 := (by decide); omega, by have := bf__11.1; have := bf__11.2; have := (zB.all x).1; have := (zB.all x).2; have := (zB.all y).1; have := (zB.all y).2; have := (zB.all z).1; have := (zB.all z).2; have := (zB.all fv).1; have := (zB.all fv).2; have := bx_12.1; have := bx_12.2; have := bx_13.1; have := bx_13.2; have := bx_23.1; have := bx_23.2; have := bx_24.1; have := bx_24.2; have := bx_29.1; have := bx_29.2; have := bis_.1; have := bis_.2; have := bnf.1; have := bnf.2; have : (0 : Int32).toInt = 0 := (by decide); have : (1 : Int32).toInt = 1 := (by decide); have : (3 : Int32).toInt = 3 := (by decide); have : (2000 : Int32).toInt = 2000 := (by decide); omega⟩ hAn_ kx_29 bx_29.2 q_28
      have hIz_ := h.2.1
      refine lv_aload_n hx hb dX14_run_49 rfl (lv_at hl 0 rfl) ?_
      refine zt_getr (t := 14) (C := RX14) (T := TX14) (N := 40) Z h hth zin_14 rfl 22 rfl ⟨by decide, rfl⟩ (zm_RX14 (List.mem_of_getElem? (i := 183) rfl)) (fun _ h9 => h9) dX14_run_50 (fun a_30 ka_30 ha_30 => ?_)
      refine lv_astore (lv' := [(6, .ref a_30), (0, .ref th), (1, .int f_), (2, .int x), (3, .int y), (4, .int z), (5, .int fv)]) hx hb dX14_run_53 hl (by decide) rfl (fun ls hl => ?_)
      refine lv_aload_n hx hb dX14_run_55 rfl (lv_at hl 1 rfl) ?_
      refine lv_aload_n hx hb dX14_run_56 rfl (lv_at hl 1 rfl) ?_
      refine zt_getk (t := 14) (C := RX14) (T := TX14) (N := 40) Z h hth zin_14 rfl 23 (hfF_26.f hth 23 ⟨by decide, by decide⟩ (hfF_1.f hth 23 ⟨by decide, by decide⟩ kwk)) ⟨by decide, rfl, by decide⟩ (zm_RX14 (List.mem_of_getElem? (i := 145) rfl)) (fun _ h9 => h9) dX14_run_57 ?_
      refine zt_put (t := 14) (C := RX14) (T := TX14) (N := 40) (v := .ref wk) Z h hth zin_14 tyX14 tyX14_ok nmX14 rfl 22 rfl ⟨by decide, rfl⟩ (zm_RX14 (List.mem_of_getElem? (i := 183) rfl)) (fun _ h9 => h9) rfl (zV.r hwk rfl) rfl rfl dX14_run_60 (fun H locs F_31 h hfF_31 kF_31 => ?_)
      refine lv_aload_n hx hb dX14_run_63 rfl (lv_at hl 1 rfl) ?_
      refine lv_aload hx hb dX14_run_64 (lv_at hl 0 rfl) ?_
      refine zt_put (t := 14) (C := RX14) (T := TX14) (N := 40) (v := .ref a_30) Z h hth zin_14 tyX14 tyX14_ok nmX14 rfl 23 rfl ⟨by decide, rfl⟩ (zm_RX14 (List.mem_of_getElem? (i := 145) rfl)) (fun _ h9 => h9) rfl (zV.r ha_30 rfl) rfl rfl dX14_run_66 (fun H locs F_32 h hfF_32 kF_32 => ?_)
      refine lv_aload_n hx hb dX14_run_69 rfl (lv_at hl 1 rfl) ?_
      refine lv_iconst (v := 1) hx hb dX14_run_70 (by decide) ?_
      refine zt_put (t := 14) (C := RX14) (T := TX14) (N := 40) (v := .int 1) Z h hth zin_14 tyX14 tyX14_ok nmX14 rfl 24 rfl ⟨by decide, rfl⟩ (zm_RX14 (List.mem_of_getElem? (i := 124) rfl)) (fun _ h9 => h9) rfl (zV.i (zB.of ⟨by decide, by decide⟩)) rfl rfl dX14_run_71 (fun H locs F_33 h hfF_33 kF_33 => ?_)
      refine lv_aload_n hx hb dX14_run_74 rfl (lv_at hl 1 rfl) ?_
      refine lv_aload_n hx hb dX14_run_75 rfl (lv_at hl 1 rfl) ?_
      refine zt_getk (t := 14) (C := RX14) (T := TX14) (N := 40) Z h hth zin_14 rfl 22 (hfF_33.f hth 22 ⟨by decide, by decide⟩ (hfF_32.f hth 22 ⟨by decide, by decide⟩ kF_31)) ⟨by decide, rfl, by decide⟩ (zm_RX14 (List.mem_of_getElem? (i := 183) rfl)) (fun _ h9 => h9) dX14_run_76 ?_
      refine zt_getiN (t := 12) (C := RX12) (T := TX12) (N := 10) Z h hwk zin_12 rfl 0 rfl ⟨by decide, rfl⟩ (zn_32 Z) (fun _ h9 => h9) dX14_run_79 (fun x_34 kx_34 bx_34 => ?_)
      refine zk_Vi (As := [.int x_34]) (rest := []) (bytes := cX14_done) (maxL := 2) (ret := (some .int)) Z h (zx_X14_done l D k Γ L F_33 H.size th x_34 hth) (cwV 1 hg zv_RX14_333 rfl rfl rfl zd_X14_done ⟨z_leR hRf (by decide), z_leR hRl (by decide)⟩) hth (by decide) rfl rfl hl.1 rfl (Nat.le_of_ble_eq_true rfl) dX14_run_82 ⟨Nat.zero_le _, Nat.zero_le _⟩ (fun r_35 F_36 H locs w_37 h hfF_36 => ?_)
      obtain ⟨q_38, -⟩ := w_37
      have br_35 := zB.all r_35
      subst hQ
      exact W.iret (v := r_35) hx hb hr (fun t ht hW => ⟨⟨r_35, F_36, rfl, ⟨⟨fun _ => (by have hrz9_ := hrz_.fr hIz_ (((((hfF_31.w (by decide)).trans hfF_32 (by decide)).trans hfF_33 (by decide)).trans hfF_36 (by decide)) : zFr Γ [1401, 1402, 1422, 1423, 1424] F_26 F_36) hwk (by decide); refine ⟨hrz9_, ?_⟩; obtain ⟨m, g1, g2, g3, g4, g5⟩ := hrz9_; rw [q_38]; have h7 := zFi.is g3 (hfF_36.f hwk 0 ⟨by decide, by decide⟩ kx_34); rw [h7, g1.2.2.1]), fun h9 => by exfalso; exact h9 (by refine ⟨?_, ?_, ?_, ?_, ?_⟩ <;> (have := bf__11.1; have := bf__11.2; have := (zB.all x).1; have := (zB.all x).2; have := (zB.all y).1; have := (zB.all y).2; have := (zB.all z).1; have := (zB.all z).2; have := (zB.all fv).1; have := (zB.all fv).2; have := br_35.1; have := br_35.2; have := bx_12.1; have := bx_12.2; have := bx_13.1; have := bx_13.2; have := bx_23.1; have := bx_23.2; have := bx_24.1; have := bx_24.2; have := bx_29.1; have := bx_29.2; have := bx_34.1; have := bx_34.2; have := bis_.1; have := bis_.2; have := bnf.1; have := bnf.2; have : (0 : Int32).toInt = 0 := (by decide); have : (1 : Int32).toInt = 1 := (by decide); have : (3 : Int32).toInt = 3 := (by decide); have : (2000 : Int32).toInt = 2000 := (by decide); omega))⟩, trivial⟩, by rw [ht]; exact h.1, h.2.1, ((((((hfF_1.w (by decide)).trans hfF_26 (by decide)).trans hfF_31 (by decide)).trans hfF_32 (by decide)).trans hfF_33 (by decide)).trans hfF_36 (by decide))⟩, h.2.2.F ht⟩) h.2.2.2.2 dX14_run_85
    · have c_21 := z_eq c_21
      have br_17_39 : zB 0 0 r_17 := zB.eqL (a := 0) (b := 0) c_21 (zBc 0 0 (by decide))
      refine lv_aload_n hx hb dX14_run_31 rfl (lv_at hl 0 rfl) ?_
      refine lv_iconst (v := 2) hx hb dX14_run_32 (by decide) ?_
      refine zk_Vi (As := [.int 2]) (rest := []) (bytes := cX14_refused) (maxL := 2) (ret := (some .int)) Z h (zc_X14_refused l D k Γ L F_1 H.size th 2 hth) (cwV 1 hg zv_RX14_307 rfl rfl rfl zd_X14_refused ⟨z_leR hRf (by decide), z_leR hRl (by decide)⟩) hth (by decide) rfl rfl hl.1 rfl (Nat.le_of_ble_eq_true rfl) dX14_run_33 ⟨Nat.zero_le _, Nat.zero_le _⟩ (fun r_40 F_41 H locs w_42 h hfF_41 => ?_)
      obtain ⟨br_40, -⟩ := w_42
      subst hQ
      exact W.iret (v := r_40) hx hb hr (fun t ht hW => ⟨⟨r_40, F_41, rfl, ⟨⟨fun h9 => by exfalso; have := bf__11.1; have := bf__11.2; have := (zB.all x).1; have := (zB.all x).2; have := (zB.all y).1; have := (zB.all y).2; have := (zB.all z).1; have := (zB.all z).2; have := (zB.all fv).1; have := (zB.all fv).2; have := br_40.1; have := br_40.2; have := bx_12.1; have := bx_12.2; have := bx_13.1; have := bx_13.2; have := bis_.1; have := bis_.2; have := bnf.1; have := bnf.2; have : (0 : Int32).toInt = 0 := (by decide); have : (1 : Int32).toInt = 1 := (by decide); have : (3 : Int32).toInt = 3 := (by decide); have : (2000 : Int32).toInt = 2000 := (by decide); omega, fun _ => by have := bf__11.1; have := bf__11.2; have := (zB.all x).1; have := (zB.all x).2; have := (zB.all y).1; have := (zB.all y).2; have := (zB.all z).1; have := (zB.all z).2; have := (zB.all fv).1; have := (zB.all fv).2; have := br_40.1; have := br_40.2; have := bx_12.1; have := bx_12.2; have := bx_13.1; have := bx_13.2; have := bis_.1; have := bis_.2; have := bnf.1; have := bnf.2; have : (0 : Int32).toInt = 0 := (by decide); have : (1 : Int32).toInt = 1 := (by decide); have : (3 : Int32).toInt = 3 := (by decide); have : (2000 : Int32).toInt = 2000 := (by decide); omega⟩, trivial⟩, by rw [ht]; exact h.1, h.2.1, ((hfF_1.w (by decide)).trans hfF_41 (by decide))⟩, h.2.2.F ht⟩) h.2.2.2.2 dX14_run_36
  · have q_43 := q_6 c_9
    have c_9 := z_eq c_9
    have br_2_44 : zB 0 0 r_2 := zB.eqL (a := 0) (b := 0) c_9 (zBc 0 0 (by decide))
    refine lv_aload_n hx hb dX14_run_13 rfl (lv_at hl 0 rfl) ?_
    refine lv_iconst (v := 1) hx hb dX14_run_14 (by decide) ?_
    refine zk_Vi (As := [.int 1]) (rest := []) (bytes := cX14_refused) (maxL := 2) (ret := (some .int)) Z h (zc_X14_refused l D k Γ L F_1 H.size th 1 hth) (cwV 1 hg zv_RX14_307 rfl rfl rfl zd_X14_refused ⟨z_leR hRf (by decide), z_leR hRl (by decide)⟩) hth (by decide) rfl rfl hl.1 rfl (Nat.le_of_ble_eq_true rfl) dX14_run_15 ⟨Nat.zero_le _, Nat.zero_le _⟩ (fun r_45 F_46 H locs w_47 h hfF_46 => ?_)
    obtain ⟨br_45, -⟩ := w_47
    subst hQ
    exact W.iret (v := r_45) hx hb hr (fun t ht hW => ⟨⟨r_45, F_46, rfl, ⟨⟨fun h9 => by exfalso; have := (zB.all f_).1; have := (zB.all f_).2; have := (zB.all x).1; have := (zB.all x).2; have := (zB.all y).1; have := (zB.all y).2; have := (zB.all z).1; have := (zB.all z).2; have := (zB.all fv).1; have := (zB.all fv).2; have := br_45.1; have := br_45.2; have := bis_.1; have := bis_.2; have := bnf.1; have := bnf.2; have : (0 : Int32).toInt = 0 := (by decide); omega, fun _ => by have := (zB.all f_).1; have := (zB.all f_).2; have := (zB.all x).1; have := (zB.all x).2; have := (zB.all y).1; have := (zB.all y).2; have := (zB.all z).1; have := (zB.all z).2; have := (zB.all fv).1; have := (zB.all fv).2; have := br_45.1; have := br_45.2; have := bis_.1; have := bis_.2; have := bnf.1; have := bnf.2; have : (0 : Int32).toInt = 0 := (by decide); omega⟩, trivial⟩, by rw [ht]; exact h.1, h.2.1, ((hfF_1.w (by decide)).trans hfF_46 (by decide))⟩, h.2.2.F ht⟩) h.2.2.2.2 dX14_run_18

set_option maxHeartbeats 4000000 in
set_option maxRecDepth 100000 in
theorem zx_X14_wrong (l : Launch) (D : va_G) (k : Nat → ClassId) (Γ : Nat → Option Nat) (L : List Nat) (F : Nat → va_E) (sz : Nat) (th : Nat) (ru : Int32) (f_ : Int32) (x : Int32) (y : Int32) (z : Int32) (st : Nat) (pr : Nat) (wk : Nat) (is_ : Int32) (nf : Int32) (d : zDat) (T : zTS) (V : Nat → Int) (hth : Γ th = some 14) (kst : zfld F th 9 = .ref st) (hst : Γ st = some 13) (kpr : zfld F th 4 = .ref pr) (hpr : Γ pr = some 11) (kwk : zfld F th 23 = .ref wk) (hwk : Γ wk = some 12) (p_mi : zMI Γ F th pr) (kis_ : zfld F th 7 = .int is_) (bis_ : zB 0 1 is_) (knf : zfld F pr 0 = .int nf) (bnf : zB 0 10 nf) (hr0 : is_.toInt ≠ 0 → zRb Γ F pr T V d ∧ zTd d ∧ zAn (zAa T V d) (zac d)) : Met l yX14_wrong zwX14_wrong ({ frames := 87, cells := 0, slots := 0, locals := 3453 }) (va_Pc [.ref th, .int ru, .int f_, .int x, .int y, .int z] (zP D k Γ L F sz)) (va_Qi (fun (r : Int32) (u : Nat → va_E) => ((is_.toInt ≠ 0 ∧ 0 ≤ f_.toInt ∧ f_.toInt < nf.toInt ∧ 0 ≤ ru.toInt ∧ ru.toInt ≤ 3 → zRz ru.toInt (2000 : Int32).toInt d T V u wk f_.toInt x y z ∧ r = vvl (zFx9 ru.toInt (2000 : Int32).toInt d T V f_.toInt x y z)) ∧ (¬ (is_.toInt ≠ 0 ∧ 0 ≤ f_.toInt ∧ f_.toInt < nf.toInt ∧ 0 ≤ ru.toInt ∧ ru.toInt ≤ 3) → r.toInt = -1)) ∧ True) (zQ D k Γ L F [1200, 1201, 1202, 1203, 1204, 1205, 1206, 1306, 1307, 1400, 1401, 1402, 1426, 1427, 1428, 1429, 15000, 16500, 16600, 16700]) (zA L sz)) 0 0 (zA L sz) := by
  refine Met.ofW (cc := cX14_wrong) (maxL := 6) (ret := (some .int)) (by decide) rfl ?_
  intro p e s m args below meth c s₁ B hml hv
  obtain ⟨rfl, hsz, hP, hK, hLn, hE, hI⟩ := hv
  have hx := B.exec
  have hb := B.bytes
  have hr := B.returns
  have hg : ∀ w ∈ zG, w.before _ s = true := fun w h9 => atoms_spec (ws := zwX14_wrong) B.pre w (List.mem_cons_of_mem _ h9)
  have hown : s.vm.findClass RX14 = some m.cls := findClass_of_methodNamed B.named
  have hlocks := B.notSynchronized
  subst hsz
  have Z : zC p m c cX14_wrong 6 s _ zG RX14 D k L := ⟨⟨hx, hb, hml, hown, hg⟩, hK, hLn, hE⟩
  have h : zH D k Γ L s F s.heap [] := ⟨hP, hI, va_S.rf⟩
  have hl := lv_entry ([.ref th, .int ru, .int f_, .int x, .int y, .int z]) (n := 6) (Nat.le_of_ble_eq_true rfl)
  rw [lg_entry_eq]
  generalize (lg_sl ([.ref th, .int ru, .int f_, .int x, .int y, .int z]) ++ List.replicate (6 - (lg_sl ([.ref th, .int ru, .int f_, .int x, .int y, .int z])).length) Slot.unset).toArray = ls at hl ⊢
  have hl : lv_has ls 6 [(0, .ref th), (1, .int ru), (2, .int f_), (3, .int x), (4, .int y), (5, .int z)] := hl
  clear hP hK hLn hE hI
  generalize hargs : ([.ref th, .int ru, .int f_, .int x, .int y, .int z] : List Value).toArray = args at *
  refine z_start (fun R Q hRf hRl hQ => ?_)
  have hRf : R.frames = 87 := hRf
  have hRl : R.locals = 3453 := hRl
  have h9 := h
  have hI0 := h.2.1
  refine lv_aload_n hx hb dX14_wrong_0 rfl (lv_at hl 0 rfl) ?_
  refine lv_iconst (v := 0) hx hb dX14_wrong_1 (by decide) ?_
  refine zt_put (t := 14) (C := RX14) (T := TX14) (N := 40) (v := .int 0) Z h hth zin_14 tyX14 tyX14_ok nmX14 rfl 0 rfl ⟨by decide, rfl⟩ (zm_RX14 (List.mem_of_getElem? (i := 105) rfl)) (fun _ h9 => h9) rfl (zV.i (zB.of ⟨by decide, by decide⟩)) rfl rfl dX14_wrong_2 (fun H locs F_1 h hfF_1 kF_1 => ?_)
  refine lv_aload_n hx hb dX14_wrong_5 rfl (lv_at hl 0 rfl) ?_
  refine lv_iload_n hx hb dX14_wrong_6 rfl (lv_at hl 2 rfl) ?_
  refine zk_Vi (As := [.int f_]) (rest := []) (bytes := cX14_isFunction) (maxL := 2) (ret := (some .boolean)) Z h (zc_X14_isFunction l D k Γ L F_1 H.size th f_ pr is_ nf hth (hfF_1.f hth 4 ⟨by decide, by decide⟩ kpr) hpr (hfF_1.f hth 7 ⟨by decide, by decide⟩ kis_) bis_ (hfF_1.f hpr 0 ⟨by decide, by decide⟩ knf) bnf) (cwV 1 hg zv_RX14_336 rfl rfl rfl zd_X14_isFunction ⟨z_leR hRf (by decide), z_leR hRl (by decide)⟩) hth (by decide) rfl rfl hl.1 rfl (Nat.le_of_ble_eq_true rfl) dX14_wrong_7 ⟨Nat.zero_le _, Nat.zero_le _⟩ (fun r_2 F_3 H locs w_4 h hfF_3 => ?_)
  obtain ⟨rfl, br_2, q_5, q_6, q_7, q_8, -⟩ := w_4
  refine lv_if_ne (tgt := 19) hx hb dX14_wrong_10 (by decide) (fun c_9 => ?_) (fun c_9 => ?_)
  · have q_10 := q_5 c_9
    have bf__11 : zB 0 9 f_ := q_7 c_9
    obtain ⟨⟨x_12, kx_12, hx_12⟩, x_13, kx_13, hx_13⟩ := q_8 c_9
    have bx_12 := zB.all x_12
    have bx_13 : zB 0 10 x_13 := by obtain ⟨x9, k9, b9⟩ := z_learn (j := 0) (lo := 0) (hi := 10) h hpr (by decide) rfl; rw [z_vi kx_13 k9]; exact b9
    have p_14 := (p_mi.fr hfF_1 hth (by decide))
    have wf_15 := zMI.wf p_14 kx_12 hx_12
    have c_9 := z_ne c_9
    have br_2_16 : zB 1 1 r_2 := zB.neLo c_9 br_2 (zBc 0 0 (by decide)) (by decide)
    refine lv_iload_n hx hb dX14_wrong_19 rfl (lv_at hl 1 rfl) ?_
    refine lv_iconst (v := 0) hx hb dX14_wrong_20 (by decide) ?_
    refine lv_iconst (v := 3) hx hb dX14_wrong_21 (by decide) ?_
    refine zk_Si (As := [.int ru, .int 0, .int 3]) (rest := []) (bytes := cX14_in) (maxL := 3) (ret := (some .boolean)) Z h (zx_X14_in l D k Γ L F_1 H.size ru 0 3) (va_cwS 3 hg zv_RX14_407 rfl rfl rfl zd_X14_in ⟨z_leR hRf (by decide), z_leR hRl (by decide)⟩) rfl hl.1 rfl (Nat.le_of_ble_eq_true rfl) dX14_wrong_22 ⟨Nat.zero_le _, Nat.zero_le _⟩ (fun r_17 F_18 H locs w_19 h hfF_18 => ?_)
    obtain ⟨rfl, br_17, q_20, -⟩ := w_19
    refine lv_if_ne (tgt := 34) hx hb dX14_wrong_25 (by decide) (fun c_21 => ?_) (fun c_21 => ?_)
    · have c_21 := z_ne c_21
      have br_17_22 : zB 1 1 r_17 := zB.neLo c_21 br_17 (zBc 0 0 (by decide)) (by decide)
      obtain ⟨hrb_, htd_, hAn_⟩ := hr0 (by have := (zB.all ru).1; have := (zB.all ru).2; have := bf__11.1; have := bf__11.2; have := (zB.all x).1; have := (zB.all x).2; have := (zB.all y).1; have := (zB.all y).2; have := (zB.all z).1; have := (zB.all z).2; have := bx_12.1; have := bx_12.2; have := bx_13.1; have := bx_13.2; have := bis_.1; have := bis_.2; have := bnf.1; have := bnf.2; have : (0 : Int32).toInt = 0 := (by decide); have : (1 : Int32).toInt = 1 := (by decide); have : (3 : Int32).toInt = 3 := (by decide); have : (2000 : Int32).toInt = 2000 := (by decide); omega)
      refine lv_aload_n hx hb dX14_wrong_34 rfl (lv_at hl 0 rfl) ?_
      refine lv_iload_n hx hb dX14_wrong_35 rfl (lv_at hl 2 rfl) ?_
      refine lv_iload_n hx hb dX14_wrong_36 rfl (lv_at hl 3 rfl) ?_
      refine lv_iload hx hb dX14_wrong_37 (lv_at hl 4 rfl) ?_
      refine lv_iload hx hb dX14_wrong_39 (lv_at hl 5 rfl) ?_
      refine lv_sipush (v := 2000) hx hb dX14_wrong_41 (by decide) ?_
      refine lv_iload_n hx hb dX14_wrong_44 rfl (lv_at hl 1 rfl) ?_
      obtain ⟨x_23, kx_23, bx_23⟩ := z_learn (j := 1) (lo := 0) (hi := 60) h hpr (by decide) rfl
      obtain ⟨x_24, kx_24, bx_24⟩ := z_learn (j := 2) (lo := 0) (hi := 620) h hpr (by decide) rfl
      have p_25 := (hrb_.fr hfF_1 hpr ⟨by unfold zXM; decide, by decide⟩)
      refine zk_VHv (hh := [(108, 120, 123, 26)]) (As := [.int f_, .int x, .int y, .int z, .int 2000, .int ru]) (rest := []) (bytes := cX14_runs) (maxL := 8) (ret := none) Z h (zx_X14_runs l D k Γ L F_1 H.size th f_ x y z 2000 ru st pr x_13 x_23 x_24 wk d T V hth bf__11 (zB.of ⟨by decide, by decide⟩) (hfF_1.f hth 9 ⟨by decide, by decide⟩ kst) hst (hfF_1.f hth 4 ⟨by decide, by decide⟩ kpr) hpr kx_13 bx_13 kx_23 bx_23 kx_24 bx_24 wf_15 (hfF_1.f hth 23 ⟨by decide, by decide⟩ kwk) hwk (by have := (zB.all ru).1; have := (zB.all ru).2; have := bf__11.1; have := bf__11.2; have := (zB.all x).1; have := (zB.all x).2; have := (zB.all y).1; have := (zB.all y).2; have := (zB.all z).1; have := (zB.all z).2; have := bx_13.1; have := bx_13.2; have := bx_23.1; have := bx_23.2; have := bx_24.1; have := bx_24.2; have := bx_12.1; have := bx_12.2; have := bis_.1; have := bis_.2; have := bnf.1; have := bnf.2; have : (0 : Int32).toInt = 0 := (by decide); have : (1 : Int32).toInt = 1 := (by decide); have : (3 : Int32).toInt = 3 := (by decide); have : (2000 : Int32).toInt = 2000 := (by decide); omega) p_25 htd_) (vx_cwVW 6 hg zv_RX14_411 rfl rfl rfl zd_X14_runs ⟨z_leR hRf (by decide), z_leR hRl (by decide)⟩) hth (by decide) rfl rfl hl.1 rfl (Nat.le_of_ble_eq_true rfl) dX14_wrong_45 ⟨Nat.zero_le _, Nat.zero_le _⟩ (fun F_26 H locs w_27 h hfF_26 => ?_)
      obtain ⟨q_28, -⟩ := w_27
      obtain ⟨x_29, kx_29, bx_29⟩ := z_learn (j := 2) (lo := 0) (hi := 2000) h hwk (by decide) rfl
      have hfc_ := zRb.fc hrb_ knf
      have hfn_ : Int32.toNatClampNeg f_ = f_.toInt.toNat := by have h6 := z_cl (x := f_) (by have := (zB.all ru).1; have := (zB.all ru).2; have := bf__11.1; have := bf__11.2; have := (zB.all x).1; have := (zB.all x).2; have := (zB.all y).1; have := (zB.all y).2; have := (zB.all z).1; have := (zB.all z).2; have := bx_12.1; have := bx_12.2; have := bx_13.1; have := bx_13.2; have := bx_23.1; have := bx_23.2; have := bx_24.1; have := bx_24.2; have := bx_29.1; have := bx_29.2; have := bis_.1; have := bis_.2; have := bnf.1; have := bnf.2; have : (0 : Int32).toInt = 0 := (by decide); have : (1 : Int32).toInt = 1 := (by decide); have : (3 : Int32).toInt = 3 := (by decide); have : (2000 : Int32).toInt = 2000 := (by decide); omega); omega
      have h6_ : (zar F_1 pr 6 (Int32.toNatClampNeg f_)).toInt = (zpc d f_.toInt.toNat : Int) := by rw [(hrb_.1.ar (hfF_1 : zFr Γ [1400] F F_1) 6 (by decide)), hfn_]; exact (hrb_.2.2.2.2.2.2 _ (by have := (zB.all ru).1; have := (zB.all ru).2; have := bf__11.1; have := bf__11.2; have := (zB.all x).1; have := (zB.all x).2; have := (zB.all y).1; have := (zB.all y).2; have := (zB.all z).1; have := (zB.all z).2; have := bx_12.1; have := bx_12.2; have := bx_13.1; have := bx_13.2; have := bx_23.1; have := bx_23.2; have := bx_24.1; have := bx_24.2; have := bx_29.1; have := bx_29.2; have := bis_.1; have := bis_.2; have := bnf.1; have := bnf.2; have : (0 : Int32).toInt = 0 := (by decide); have : (1 : Int32).toInt = 1 := (by decide); have : (3 : Int32).toInt = 3 := (by decide); have : (2000 : Int32).toInt = 2000 := (by decide); omega)).2.1
      have h63_ := zVb (j := 6) (c := 126) hI0 hpr ⟨by decide, rfl⟩ ⟨by decide, rfl⟩ (Int32.toNatClampNeg f_) (by rw [hfn_]; have := (zB.all ru).1; have := (zB.all ru).2; have := bf__11.1; have := bf__11.2; have := (zB.all x).1; have := (zB.all x).2; have := (zB.all y).1; have := (zB.all y).2; have := (zB.all z).1; have := (zB.all z).2; have := bx_12.1; have := bx_12.2; have := bx_13.1; have := bx_13.2; have := bx_23.1; have := bx_23.2; have := bx_24.1; have := bx_24.2; have := bx_29.1; have := bx_29.2; have := bis_.1; have := bis_.2; have := bnf.1; have := bnf.2; have : (0 : Int32).toInt = 0 := (by decide); have : (1 : Int32).toInt = 1 := (by decide); have : (3 : Int32).toInt = 3 := (by decide); have : (2000 : Int32).toInt = 2000 := (by decide); omega)
      have h6z_ : (zar F pr 6 (Int32.toNatClampNeg f_)).toInt = (zpc d f_.toInt.toNat : Int) := by rw [hfn_]; exact (hrb_.2.2.2.2.2.2 _ (by have := (zB.all ru).1; have := (zB.all ru).2; have := bf__11.1; have := bf__11.2; have := (zB.all x).1; have := (zB.all x).2; have := (zB.all y).1; have := (zB.all y).2; have := (zB.all z).1; have := (zB.all z).2; have := bx_12.1; have := bx_12.2; have := bx_13.1; have := bx_13.2; have := bx_23.1; have := bx_23.2; have := bx_24.1; have := bx_24.2; have := bx_29.1; have := bx_29.2; have := bis_.1; have := bis_.2; have := bnf.1; have := bnf.2; have : (0 : Int32).toInt = 0 := (by decide); have : (1 : Int32).toInt = 1 := (by decide); have : (3 : Int32).toInt = 3 := (by decide); have : (2000 : Int32).toInt = 2000 := (by decide); omega)).2.1
      have hrz_ : zRz ru.toInt (2000 : Int32).toInt d T V F_26 wk f_.toInt x y z := zRz.of (by rw [h6_]; omega) (by rw [h6_]; have := h63_.2; omega) ⟨by have := (zB.all ru).1; have := (zB.all ru).2; have := bf__11.1; have := bf__11.2; have := (zB.all x).1; have := (zB.all x).2; have := (zB.all y).1; have := (zB.all y).2; have := (zB.all z).1; have := (zB.all z).2; have := bx_12.1; have := bx_12.2; have := bx_13.1; have := bx_13.2; have := bx_23.1; have := bx_23.2; have := bx_24.1; have := bx_24.2; have := bx_29.1; have := bx_29.2; have := bis_.1; have := bis_.2; have := bnf.1; have := bnf.2; have : (0 : Int32).toInt = 0 := (by decide); have : (1 : Int32).toInt = 1 := (by decide); have : (3 : Int32).toInt = 3 := (by decide); have : (2000 : Int32).toInt = 2000 := (by decide); omega, by have := (zB.all ru).1; have := (zB.all ru).2; have := bf__11.1; have := bf__11.2; have := (zB.all x).1; have := (zB.all x).2; have := (zB.all y).1; have := (zB.all y).2; have := (zB.all z).1; have := (zB.all z).2; have := bx_12.1; have := bx_12.2; have := bx_13.1; have := bx_13.2; have := bx_23.1; have := bx_23.2; have := bx_24.1; have := bx_24.2; have := bx_29.1; have := bx_29.2; have := bis_.1; have := bis_.2; have := bnf.1; have := bnf.2; have : (0 : Int32).toInt = 0 := (by decide); have : (1 : Int32).toInt = 1 := (by decide); have : (3 : Int32).toInt = 3 := (by decide); have : (2000 : Int32).toInt = 2000 := (by decide); omega⟩ hAn_ kx_29 bx_29.2 q_28
      have hIz_ := h.2.1
      refine lv_aload_n hx hb dX14_wrong_48 rfl (lv_at hl 0 rfl) ?_
      refine lv_aload_n hx hb dX14_wrong_49 rfl (lv_at hl 0 rfl) ?_
      refine zt_getk (t := 14) (C := RX14) (T := TX14) (N := 40) Z h hth zin_14 rfl 23 (hfF_26.f hth 23 ⟨by decide, by decide⟩ (hfF_1.f hth 23 ⟨by decide, by decide⟩ kwk)) ⟨by decide, rfl, by decide⟩ (zm_RX14 (List.mem_of_getElem? (i := 145) rfl)) (fun _ h9 => h9) dX14_wrong_50 ?_
      refine zt_getiN (t := 12) (C := RX12) (T := TX12) (N := 10) Z h hwk zin_12 rfl 1 rfl ⟨by decide, rfl⟩ (zn_33 Z) (fun _ h9 => h9) dX14_wrong_53 (fun x_30 kx_30 bx_30 => ?_)
      refine zk_Vi (As := [.int x_30]) (rest := []) (bytes := cX14_done) (maxL := 2) (ret := (some .int)) Z h (zx_X14_done l D k Γ L F_26 H.size th x_30 hth) (cwV 1 hg zv_RX14_333 rfl rfl rfl zd_X14_done ⟨z_leR hRf (by decide), z_leR hRl (by decide)⟩) hth (by decide) rfl rfl hl.1 rfl (Nat.le_of_ble_eq_true rfl) dX14_wrong_56 ⟨Nat.zero_le _, Nat.zero_le _⟩ (fun r_31 F_32 H locs w_33 h hfF_32 => ?_)
      obtain ⟨q_34, -⟩ := w_33
      have br_31 := zB.all r_31
      subst hQ
      exact W.iret (v := r_31) hx hb hr (fun t ht hW => ⟨⟨r_31, F_32, rfl, ⟨⟨fun _ => (by have hrz9_ := hrz_.fr hIz_ (hfF_32 : zFr Γ [1401, 1402] F_26 F_32) hwk (by decide); refine ⟨hrz9_, ?_⟩; obtain ⟨m, g1, g2, g3, g4, g5⟩ := hrz9_; rw [q_34]; have h7 := Value.int.inj ((hfF_32.f hwk 1 ⟨by decide, by decide⟩ kx_30).symm.trans g4); rw [h7]; exact g1.2.2.2.1.symm), fun h9 => by exfalso; exact h9 (by refine ⟨?_, ?_, ?_, ?_, ?_⟩ <;> (have := (zB.all ru).1; have := (zB.all ru).2; have := bf__11.1; have := bf__11.2; have := (zB.all x).1; have := (zB.all x).2; have := (zB.all y).1; have := (zB.all y).2; have := (zB.all z).1; have := (zB.all z).2; have := br_31.1; have := br_31.2; have := bx_12.1; have := bx_12.2; have := bx_13.1; have := bx_13.2; have := bx_23.1; have := bx_23.2; have := bx_24.1; have := bx_24.2; have := bx_29.1; have := bx_29.2; have := bx_30.1; have := bx_30.2; have := bis_.1; have := bis_.2; have := bnf.1; have := bnf.2; have : (0 : Int32).toInt = 0 := (by decide); have : (1 : Int32).toInt = 1 := (by decide); have : (3 : Int32).toInt = 3 := (by decide); have : (2000 : Int32).toInt = 2000 := (by decide); omega))⟩, trivial⟩, by rw [ht]; exact h.1, h.2.1, (((hfF_1.w (by decide)).trans hfF_26 (by decide)).trans hfF_32 (by decide))⟩, h.2.2.F ht⟩) h.2.2.2.2 dX14_wrong_59
    · have c_21 := z_eq c_21
      have br_17_35 : zB 0 0 r_17 := zB.eqL (a := 0) (b := 0) c_21 (zBc 0 0 (by decide))
      refine lv_aload_n hx hb dX14_wrong_28 rfl (lv_at hl 0 rfl) ?_
      refine lv_iconst (v := 2) hx hb dX14_wrong_29 (by decide) ?_
      refine zk_Vi (As := [.int 2]) (rest := []) (bytes := cX14_refused) (maxL := 2) (ret := (some .int)) Z h (zc_X14_refused l D k Γ L F_1 H.size th 2 hth) (cwV 1 hg zv_RX14_307 rfl rfl rfl zd_X14_refused ⟨z_leR hRf (by decide), z_leR hRl (by decide)⟩) hth (by decide) rfl rfl hl.1 rfl (Nat.le_of_ble_eq_true rfl) dX14_wrong_30 ⟨Nat.zero_le _, Nat.zero_le _⟩ (fun r_36 F_37 H locs w_38 h hfF_37 => ?_)
      obtain ⟨br_36, -⟩ := w_38
      subst hQ
      exact W.iret (v := r_36) hx hb hr (fun t ht hW => ⟨⟨r_36, F_37, rfl, ⟨⟨fun h9 => by exfalso; have := (zB.all ru).1; have := (zB.all ru).2; have := bf__11.1; have := bf__11.2; have := (zB.all x).1; have := (zB.all x).2; have := (zB.all y).1; have := (zB.all y).2; have := (zB.all z).1; have := (zB.all z).2; have := br_36.1; have := br_36.2; have := bx_12.1; have := bx_12.2; have := bx_13.1; have := bx_13.2; have := bis_.1; have := bis_.2; have := bnf.1; have := bnf.2; have : (0 : Int32).toInt = 0 := (by decide); have : (1 : Int32).toInt = 1 := (by decide); have : (3 : Int32).toInt = 3 := (by decide); have : (2000 : Int32).toInt = 2000 := (by decide); omega, fun _ => by have := (zB.all ru).1; have := (zB.all ru).2; have := bf__11.1; have := bf__11.2; have := (zB.all x).1; have := (zB.all x).2; have := (zB.all y).1; have := (zB.all y).2; have := (zB.all z).1; have := (zB.all z).2; have := br_36.1; have := br_36.2; have := bx_12.1; have := bx_12.2; have := bx_13.1; have := bx_13.2; have := bis_.1; have := bis_.2; have := bnf.1; have := bnf.2; have : (0 : Int32).toInt = 0 := (by decide); have : (1 : Int32).toInt = 1 := (by decide); have : (3 : Int32).toInt = 3 := (by decide); have : (2000 : Int32).toInt = 2000 := (by decide); omega⟩, trivial⟩, by rw [ht]; exact h.1, h.2.1, ((hfF_1.w (by decide)).trans hfF_37 (by decide))⟩, h.2.2.F ht⟩) h.2.2.2.2 dX14_wrong_33
  · have q_39 := q_6 c_9
    have c_9 := z_eq c_9
    have br_2_40 : zB 0 0 r_2 := zB.eqL (a := 0) (b := 0) c_9 (zBc 0 0 (by decide))
    refine lv_aload_n hx hb dX14_wrong_13 rfl (lv_at hl 0 rfl) ?_
    refine lv_iconst (v := 1) hx hb dX14_wrong_14 (by decide) ?_
    refine zk_Vi (As := [.int 1]) (rest := []) (bytes := cX14_refused) (maxL := 2) (ret := (some .int)) Z h (zc_X14_refused l D k Γ L F_1 H.size th 1 hth) (cwV 1 hg zv_RX14_307 rfl rfl rfl zd_X14_refused ⟨z_leR hRf (by decide), z_leR hRl (by decide)⟩) hth (by decide) rfl rfl hl.1 rfl (Nat.le_of_ble_eq_true rfl) dX14_wrong_15 ⟨Nat.zero_le _, Nat.zero_le _⟩ (fun r_41 F_42 H locs w_43 h hfF_42 => ?_)
    obtain ⟨br_41, -⟩ := w_43
    subst hQ
    exact W.iret (v := r_41) hx hb hr (fun t ht hW => ⟨⟨r_41, F_42, rfl, ⟨⟨fun h9 => by exfalso; have := (zB.all ru).1; have := (zB.all ru).2; have := (zB.all f_).1; have := (zB.all f_).2; have := (zB.all x).1; have := (zB.all x).2; have := (zB.all y).1; have := (zB.all y).2; have := (zB.all z).1; have := (zB.all z).2; have := br_41.1; have := br_41.2; have := bis_.1; have := bis_.2; have := bnf.1; have := bnf.2; have : (0 : Int32).toInt = 0 := (by decide); omega, fun _ => by have := (zB.all ru).1; have := (zB.all ru).2; have := (zB.all f_).1; have := (zB.all f_).2; have := (zB.all x).1; have := (zB.all x).2; have := (zB.all y).1; have := (zB.all y).2; have := (zB.all z).1; have := (zB.all z).2; have := br_41.1; have := br_41.2; have := bis_.1; have := bis_.2; have := bnf.1; have := bnf.2; have : (0 : Int32).toInt = 0 := (by decide); omega⟩, trivial⟩, by rw [ht]; exact h.1, h.2.1, ((hfF_1.w (by decide)).trans hfF_42 (by decide))⟩, h.2.2.F ht⟩) h.2.2.2.2 dX14_wrong_18
