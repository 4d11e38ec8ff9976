set_option maxHeartbeats 4000000 in
set_option maxRecDepth 100000 in
theorem zx_X14_done (l : Launch) (D : va_G) (k : Nat → ClassId) (Γ : Nat → Option Nat) (L : List Nat) (F : Nat → va_E) (sz : Nat) (th : Nat) (va : Int32) (hth : Γ th = some 14) : Met l yX14_done zwX14_done ({ frames := 0, cells := 0, slots := 0, locals := 0 }) (va_Pc [.ref th, .int va] (zP D k Γ L F sz)) (va_Qi (fun (r : Int32) (u : Nat → va_E) => r = va ∧ True) (zQ D k Γ L F [1401, 1402]) (zA L sz)) 0 0 (zA L sz) := by
  refine Met.ofW (cc := cX14_done) (maxL := 2) (ret := (some .int)) (by decide) rfl ?_
  intro p e s m args below meth c s₁ B hml hv
  obtain ⟨rfl, hsz, hP, hK, hLn, hE, hI⟩ := hv
  have hx := B.exec
  have hb := B.bytes
  have hr := B.returns
  have hg : ∀ w ∈ zG, w.before _ s = true := fun w h9 => atoms_spec (ws := zwX14_done) B.pre w (List.mem_cons_of_mem _ h9)
  have hown : s.vm.findClass RX14 = some m.cls := findClass_of_methodNamed B.named
  have hlocks := B.notSynchronized
  subst hsz
  have Z : zC p m c cX14_done 2 s _ zG RX14 D k L := ⟨⟨hx, hb, hml, hown, hg⟩, hK, hLn, hE⟩
  have h : zH D k Γ L s F s.heap [] := ⟨hP, hI, va_S.rf⟩
  have hl := lv_entry ([.ref th, .int va]) (n := 2) (Nat.le_of_ble_eq_true rfl)
  rw [lg_entry_eq]
  generalize (lg_sl ([.ref th, .int va]) ++ List.replicate (2 - (lg_sl ([.ref th, .int va])).length) Slot.unset).toArray = ls at hl ⊢
  have hl : lv_has ls 2 [(0, .ref th), (1, .int va)] := hl
  clear hP hK hLn hE hI
  generalize hargs : ([.ref th, .int va] : List Value).toArray = args at *
  refine z_start (fun R Q hRf hRl hQ => ?_)
  have hRf : R.frames = 0 := hRf
  have hRl : R.locals = 0 := hRl
  have h9 := h
  refine lv_aload_n hx hb dX14_done_0 rfl (lv_at hl 0 rfl) ?_
  refine lv_iconst (v := 0) hx hb dX14_done_1 (by decide) ?_
  refine zt_put (t := 14) (C := RX14) (T := TX14) (N := 40) (v := .int 0) Z h hth zin_14 tyX14 tyX14_ok nmX14 rfl 1 rfl ⟨by decide, rfl⟩ (zm_RX14 (List.mem_of_getElem? (i := 2) rfl)) (fun _ h9 => h9) rfl (zV.i (zB.of ⟨by decide, by decide⟩)) rfl rfl dX14_done_2 (fun H locs F_1 h hfF_1 kF_1 => ?_)
  refine lv_aload_n hx hb dX14_done_5 rfl (lv_at hl 0 rfl) ?_
  refine lv_iconst (v := (-1)) hx hb dX14_done_6 (by decide) ?_
  refine zt_put (t := 14) (C := RX14) (T := TX14) (N := 40) (v := .int (-1)) Z h hth zin_14 tyX14 tyX14_ok nmX14 rfl 2 rfl ⟨by decide, rfl⟩ (zm_RX14 (List.mem_of_getElem? (i := 3) rfl)) (fun _ h9 => h9) rfl (zV.i (zB.of ⟨by decide, by decide⟩)) rfl rfl dX14_done_7 (fun H locs F_2 h hfF_2 kF_2 => ?_)
  refine lv_iload_n hx hb dX14_done_10 rfl (lv_at hl 1 rfl) ?_
  subst hQ
  exact W.iret (v := va) hx hb hr (fun t ht hW => ⟨⟨va, F_2, rfl, ⟨rfl, trivial⟩, by rw [ht]; exact h.1, h.2.1, ((hfF_1.w (by decide)).trans hfF_2 (by decide))⟩, h.2.2.F ht⟩) h.2.2.2.2 dX14_done_11

set_option maxHeartbeats 4000000 in
set_option maxRecDepth 100000 in
theorem zx_X14_in (l : Launch) (D : va_G) (k : Nat → ClassId) (Γ : Nat → Option Nat) (L : List Nat) (F : Nat → va_E) (sz : Nat) (i0 : Int32) (i1 : Int32) (i2 : Int32) : Met l yX14_in zwX14_in ({ frames := 0, cells := 0, slots := 0, locals := 0 }) (va_Pc [.int i0, .int i1, .int i2] (zP D k Γ L F sz)) (va_Qi (fun (r : Int32) (u : Nat → va_E) => F = u ∧ zB 0 1 r ∧ ((r.toInt = 1 ∧ i1.toInt ≤ i0.toInt ∧ i0.toInt ≤ i2.toInt) ∨ (r.toInt = 0 ∧ (i0.toInt < i1.toInt ∨ i2.toInt < i0.toInt))) ∧ True) (zQ D k Γ L F []) (zA L sz)) 0 0 (zA L sz) := by
  refine Met.ofW (cc := cX14_in) (maxL := 3) (ret := (some .boolean)) (by decide) rfl ?_
  intro p e s m args below meth c s₁ B hml hv
  obtain ⟨rfl, hsz, hP, hK, hLn, hE, hI⟩ := hv
  have hx := B.exec
  have hb := B.bytes
  have hr := B.returns
  have hg : ∀ w ∈ zG, w.before _ s = true := fun w h9 => atoms_spec (ws := zwX14_in) B.pre w (List.mem_cons_of_mem _ h9)
  have hown : s.vm.findClass RX14 = some m.cls := findClass_of_methodNamed B.named
  have hlocks := B.notSynchronized
  subst hsz
  have Z : zC p m c cX14_in 3 s _ zG RX14 D k L := ⟨⟨hx, hb, hml, hown, hg⟩, hK, hLn, hE⟩
  have h : zH D k Γ L s F s.heap [] := ⟨hP, hI, va_S.rf⟩
  have hl := lv_entry ([.int i0, .int i1, .int i2]) (n := 3) (Nat.le_of_ble_eq_true rfl)
  rw [lg_entry_eq]
  generalize (lg_sl ([.int i0, .int i1, .int i2]) ++ List.replicate (3 - (lg_sl ([.int i0, .int i1, .int i2])).length) Slot.unset).toArray = ls at hl ⊢
  have hl : lv_has ls 3 [(0, .int i0), (1, .int i1), (2, .int i2)] := hl
  clear hP hK hLn hE hI
  generalize hargs : ([.int i0, .int i1, .int i2] : List Value).toArray = args at *
  refine z_start (fun R Q hRf hRl hQ => ?_)
  have hRf : R.frames = 0 := hRf
  have hRl : R.locals = 0 := hRl
  have h9 := h
  refine lv_iload_n hx hb dX14_in_0 rfl (lv_at hl 0 rfl) ?_
  refine lv_iload_n hx hb dX14_in_1 rfl (lv_at hl 1 rfl) ?_
  refine lv_icmp_lt (tgt := 14) hx hb dX14_in_2 (by decide) (fun c_1 => ?_) (fun c_1 => ?_)
  · have c_1 := z_lt c_1
    have bi0_2 : zB (-2147483648) 2147483646 i0 := zB.ltL c_1 (zB.all i0) (zB.all i1) (by decide)
    have bi1_3 : zB (-2147483647) 2147483647 i1 := zB.ltR c_1 (zB.all i0) (zB.all i1) (by decide)
    refine lv_iconst (v := 0) hx hb dX14_in_14 (by decide) ?_
    subst hQ
    exact W.zret (v := 0) hx hb hr (by decide) (fun t ht hW => ⟨⟨0, F, rfl, ⟨rfl, (zB.of ⟨by decide, by decide⟩), (by have := bi0_2.1; have := bi0_2.2; have := bi1_3.1; have := bi1_3.2; have := (zB.all i2).1; have := (zB.all i2).2; have : (0 : Int32).toInt = 0 := (by decide); omega), trivial⟩, by rw [ht]; exact h.1, h.2.1, zFr.rf⟩, h.2.2.F ht⟩) h.2.2.2.2 dX14_in_15
  · have c_1 := z_nlt c_1
    refine lv_iload_n hx hb dX14_in_5 rfl (lv_at hl 0 rfl) ?_
    refine lv_iload_n hx hb dX14_in_6 rfl (lv_at hl 2 rfl) ?_
    refine lv_icmp_gt (tgt := 14) hx hb dX14_in_7 (by decide) (fun c_4 => ?_) (fun c_4 => ?_)
    · have c_4 := z_lt c_4
      have bi2_5 : zB (-2147483648) 2147483646 i2 := zB.ltL c_4 (zB.all i2) (zB.all i0) (by decide)
      have bi0_6 : zB (-2147483647) 2147483647 i0 := zB.ltR c_4 (zB.all i2) (zB.all i0) (by decide)
      refine lv_iconst (v := 0) hx hb dX14_in_14 (by decide) ?_
      subst hQ
      exact W.zret (v := 0) hx hb hr (by decide) (fun t ht hW => ⟨⟨0, F, rfl, ⟨rfl, (zB.of ⟨by decide, by decide⟩), (by have := bi0_6.1; have := bi0_6.2; have := (zB.all i1).1; have := (zB.all i1).2; have := bi2_5.1; have := bi2_5.2; have : (0 : Int32).toInt = 0 := (by decide); omega), trivial⟩, by rw [ht]; exact h.1, h.2.1, zFr.rf⟩, h.2.2.F ht⟩) h.2.2.2.2 dX14_in_15
    · have c_4 := z_nlt c_4
      refine lv_iconst (v := 1) hx hb dX14_in_10 (by decide) ?_
      refine lv_goto (tgt := 15) hx hb dX14_in_11 (by decide) ?_
      subst hQ
      exact W.zret (v := 1) hx hb hr (by decide) (fun t ht hW => ⟨⟨1, F, rfl, ⟨rfl, (zB.of ⟨by decide, by decide⟩), (by have := (zB.all i0).1; have := (zB.all i0).2; have := (zB.all i1).1; have := (zB.all i1).2; have := (zB.all i2).1; have := (zB.all i2).2; have : (1 : Int32).toInt = 1 := (by decide); omega), trivial⟩, by rw [ht]; exact h.1, h.2.1, zFr.rf⟩, h.2.2.F ht⟩) h.2.2.2.2 dX14_in_15

theorem zj_X14_runs (l : Launch) (D : va_G) (k : Nat → ClassId) (Γ : Nat → Option Nat) (L : List Nat) (F : Nat → va_E) (sz : Nat) (th : Nat) (f_ : Int32) (xx : Int32) (yy : Int32) (zz : Int32) (fv : Int32) (ru : Int32) (st : Nat) (pr : Nat) (nf : Int32) (ln : Int32) (it : Int32) (wk : Nat) (d : zDat) (T : zTS) (V : Nat → Int) (X : List Nat) (hth : Γ th = some 14) (bf_ : zB 0 9 f_) (bfv : zB 0 2000 fv) (kst : zfld F th 9 = .ref st) (hst : Γ st = some 13) (kpr : zfld F th 4 = .ref pr) (hpr : Γ pr = some 11) (knf : zfld F pr 0 = .int nf) (bnf : zB 0 10 nf) (kln : zfld F pr 1 = .int ln) (bln : zB 0 60 ln) (kit : zfld F pr 2 = .int it) (bit : zB 0 620 it) (p_wf : zWG Γ F pr) (kwk : zfld F th 23 = .ref wk) (hwk : Γ wk = some 12) (hr0 : f_.toInt < nf.toInt) (p_rb : zRb Γ F pr T V d) (hr1 : zTd d) (hX : zYm Γ F wk X) : Met l yX14_runs zwX14_runs ({ frames := 86, cells := 0, slots := 0, locals := 3426 }) (va_Pc [.ref th, .int f_, .int xx, .int yy, .int zz, .int fv, .int ru] (zP D k Γ L F sz)) (va_Qv (fun (u : Nat → va_E) => zRn ru.toInt fv.toInt d T V u wk (v_enter (zPgd d) f_.toInt (v_start0 (zar F wk 7) (zar F wk 8) (zar F wk 9) (zvls (upd (upd (upd (zar F th 25) 0 xx) 1 yy) 2 zz) ((zar F pr 6 (Int32.toNatClampNeg f_)).toInt).toNat))) ∧ zYk Γ X F u ∧ True) (zQ D k Γ L F [1200, 1201, 1202, 1203, 1204, 1205, 1206, 1306, 1307, 1426, 1427, 1428, 1429, 15000, 16500, 16600, 16700]) (zA L sz)) 0 0 (zA L sz) := by
  exact zMet_vkV (zx_X14_runs l D k (zYv Γ X) L F sz th f_ xx yy zz fv ru st pr nf ln it wk d T V (zYv.nf hth (by decide)) bf_ bfv kst (zYv.nf hst (by decide)) kpr (zYv.nf hpr (by decide)) knf bnf kln bln kit bit p_wf.vy kwk (zYv.to hwk (fun _ => hX.1)) hr0 p_rb.vy hr1) hX.2.2 (fun u hq hs => ⟨hq.1, hs, trivial⟩)

set_option maxHeartbeats 4000000 in
set_option maxRecDepth 100000 in
theorem zx_X14_run (l : Launch) (D : va_G) (k : Nat → ClassId) (Γ : Nat → Option Nat) (L : List Nat) (F : Nat → va_E) (sz : Nat) (th : Nat) (f_ : Int32) (x : Int32) (y : Int32) (z : Int32) (fv : Int32) (st : Nat) (pr : Nat) (wk : Nat) (is_ : Int32) (nf : Int32) (d : zDat) (T : zTS) (V : Nat → Int) (X : List Nat) (lt : Nat) (hth : Γ th = some 14) (kst : zfld F th 9 = .ref st) (hst : Γ st = some 13) (kpr : zfld F th 4 = .ref pr) (hpr : Γ pr = some 11) (kwk : zfld F th 23 = .ref wk) (hwk : Γ wk = some 12) (p_mi : zMI Γ F th pr) (kis_ : zfld F th 7 = .int is_) (bis_ : zB 0 1 is_) (knf : zfld F pr 0 = .int nf) (bnf : zB 0 10 nf) (hr0 : is_.toInt ≠ 0 → zRb Γ F pr T V d ∧ zTd d ∧ zAn (zAa T V d) (zac d)) (hr1 : zYm Γ F wk X) (klt : zfld F th 22 = .ref lt) (hlt : Γ lt = some 12) : Met l yX14_run zwX14_run ({ frames := 87, cells := 0, slots := 0, locals := 3453 }) (va_Pc [.ref th, .int f_, .int x, .int y, .int z, .int fv] (zP D k Γ L F sz)) (va_Qi (fun (r : Int32) (u : Nat → va_E) => ((is_.toInt ≠ 0 ∧ 0 ≤ f_.toInt ∧ f_.toInt < nf.toInt ∧ 1 ≤ fv.toInt ∧ fv.toInt ≤ 2000 → zRz ((-1) : Int32).toInt fv.toInt d T V u wk f_.toInt x y z ∧ r.toInt = ven (zFx9 ((-1) : Int32).toInt fv.toInt d T V f_.toInt x y z)) ∧ (¬ (is_.toInt ≠ 0 ∧ 0 ≤ f_.toInt ∧ f_.toInt < nf.toInt ∧ 1 ≤ fv.toInt ∧ fv.toInt ≤ 2000) → r.toInt = -1)) ∧ zYk Γ X F u ∧ (is_.toInt ≠ 0 ∧ 0 ≤ f_.toInt ∧ f_.toInt < nf.toInt ∧ 1 ≤ fv.toInt ∧ fv.toInt ≤ 2000 → zfld u th 22 = .ref wk ∧ zfld u th 23 = .ref lt ∧ zfld u th 24 = .int 1) ∧ (¬ (is_.toInt ≠ 0 ∧ 0 ≤ f_.toInt ∧ f_.toInt < nf.toInt ∧ 1 ≤ fv.toInt ∧ fv.toInt ≤ 2000) → zfld u th 22 = .ref lt ∧ zfld u th 23 = .ref wk ∧ zfld u th 24 = zfld F th 24) ∧ True) (zQ D k Γ L F [1200, 1201, 1202, 1203, 1204, 1205, 1206, 1306, 1307, 1400, 1401, 1402, 1422, 1423, 1424, 1426, 1427, 1428, 1429, 15000, 16500, 16600, 16700]) (zA L sz)) 0 0 (zA L sz) := by
  refine Met.ofW (cc := cX14_run) (maxL := 7) (ret := (some .int)) (by decide) rfl ?_
  intro p e s m args below meth c s₁ B hml hv
  obtain ⟨rfl, hsz, hP, hK, hLn, hE, hI⟩ := hv
  have hx := B.exec
  have hb := B.bytes
  have hr := B.returns
  have hg : ∀ w ∈ zG, w.before _ s = true := fun w h9 => atoms_spec (ws := zwX14_run) B.pre w (List.mem_cons_of_mem _ h9)
  have hown : s.vm.findClass RX14 = some m.cls := findClass_of_methodNamed B.named
  have hlocks := B.notSynchronized
  subst hsz
  have Z : zC p m c cX14_run 7 s _ zG RX14 D k L := ⟨⟨hx, hb, hml, hown, hg⟩, hK, hLn, hE⟩
  have h : zH D k Γ L s F s.heap [] := ⟨hP, hI, va_S.rf⟩
  have hl := lv_entry ([.ref th, .int f_, .int x, .int y, .int z, .int fv]) (n := 7) (Nat.le_of_ble_eq_true rfl)
  rw [lg_entry_eq]
  generalize (lg_sl ([.ref th, .int f_, .int x, .int y, .int z, .int fv]) ++ List.replicate (7 - (lg_sl ([.ref th, .int f_, .int x, .int y, .int z, .int fv])).length) Slot.unset).toArray = ls at hl ⊢
  have hl : lv_has ls 7 [(0, .ref th), (1, .int f_), (2, .int x), (3, .int y), (4, .int z), (5, .int fv)] := hl
  clear hP hK hLn hE hI
  generalize hargs : ([.ref th, .int f_, .int x, .int y, .int z, .int fv] : List Value).toArray = args at *
  refine z_start (fun R Q hRf hRl hQ => ?_)
  have hRf : R.frames = 87 := hRf
  have hRl : R.locals = 3453 := hRl
  have h9 := h
  have hI0 := h.2.1
  refine lv_aload_n hx hb dX14_run_0 rfl (lv_at hl 0 rfl) ?_
  refine lv_iconst (v := 0) hx hb dX14_run_1 (by decide) ?_
  refine zt_put (t := 14) (C := RX14) (T := TX14) (N := 40) (v := .int 0) Z h hth zin_14 tyX14 tyX14_ok nmX14 rfl 0 rfl ⟨by decide, rfl⟩ (zm_RX14 (List.mem_of_getElem? (i := 105) rfl)) (fun _ h9 => h9) rfl (zV.i (zB.of ⟨by decide, by decide⟩)) rfl rfl dX14_run_2 (fun H locs F_1 h hfF_1 kF_1 => ?_)
  refine lv_aload_n hx hb dX14_run_5 rfl (lv_at hl 0 rfl) ?_
  refine lv_iload_n hx hb dX14_run_6 rfl (lv_at hl 1 rfl) ?_
  refine zk_Vi (As := [.int f_]) (rest := []) (bytes := cX14_isFunction) (maxL := 2) (ret := (some .boolean)) Z h (zc_X14_isFunction l D k Γ L F_1 H.size th f_ pr is_ nf hth (hfF_1.f hth 4 ⟨by decide, by decide⟩ kpr) hpr (hfF_1.f hth 7 ⟨by decide, by decide⟩ kis_) bis_ (hfF_1.f hpr 0 ⟨by decide, by decide⟩ knf) bnf) (cwV 1 hg zv_RX14_336 rfl rfl rfl zd_X14_isFunction ⟨z_leR hRf (by decide), z_leR hRl (by decide)⟩) hth (by decide) rfl rfl hl.1 rfl (Nat.le_of_ble_eq_true rfl) dX14_run_7 ⟨Nat.zero_le _, Nat.zero_le _⟩ (fun r_2 F_3 H locs w_4 h hfF_3 => ?_)
  obtain ⟨rfl, br_2, q_5, q_6, q_7, q_8, -⟩ := w_4
  refine lv_if_ne (tgt := 19) hx hb dX14_run_10 (by decide) (fun c_9 => ?_) (fun c_9 => ?_)
  · have q_10 := q_5 c_9
    have bf__11 : zB 0 9 f_ := q_7 c_9
    obtain ⟨⟨x_12, kx_12, hx_12⟩, x_13, kx_13, hx_13⟩ := q_8 c_9
    have bx_12 := zB.all x_12
    have bx_13 : zB 0 10 x_13 := by obtain ⟨x9, k9, b9⟩ := z_learn (j := 0) (lo := 0) (hi := 10) h hpr (by decide) rfl; rw [z_vi kx_13 k9]; exact b9
    have p_14 := (p_mi.fr hfF_1 hth (by decide))
    have wf_15 := zMI.wf p_14 kx_12 hx_12
    have c_9 := z_ne c_9
    have br_2_16 : zB 1 1 r_2 := zB.neLo c_9 br_2 (zBc 0 0 (by decide)) (by decide)
    refine lv_iload hx hb dX14_run_19 (lv_at hl 5 rfl) ?_
    refine lv_iconst (v := 1) hx hb dX14_run_21 (by decide) ?_
    refine lv_sipush (v := 2000) hx hb dX14_run_22 (by decide) ?_
    refine zk_Si (As := [.int fv, .int 1, .int 2000]) (rest := []) (bytes := cX14_in) (maxL := 3) (ret := (some .boolean)) Z h (zx_X14_in l D k Γ L F_1 H.size fv 1 2000) (va_cwS 3 hg zv_RX14_407 rfl rfl rfl zd_X14_in ⟨z_leR hRf (by decide), z_leR hRl (by decide)⟩) rfl hl.1 rfl (Nat.le_of_ble_eq_true rfl) dX14_run_25 ⟨Nat.zero_le _, Nat.zero_le _⟩ (fun r_17 F_18 H locs w_19 h hfF_18 => ?_)
    obtain ⟨rfl, br_17, q_20, -⟩ := w_19
    refine lv_if_ne (tgt := 37) hx hb dX14_run_28 (by decide) (fun c_21 => ?_) (fun c_21 => ?_)
    · have c_21 := z_ne c_21
      have br_17_22 : zB 1 1 r_17 := zB.neLo c_21 br_17 (zBc 0 0 (by decide)) (by decide)
      obtain ⟨hrb_, htd_, hAn_⟩ := hr0 (by have := bf__11.1; have := bf__11.2; have := (zB.all x).1; have := (zB.all x).2; have := (zB.all y).1; have := (zB.all y).2; have := (zB.all z).1; have := (zB.all z).2; have := (zB.all fv).1; have := (zB.all fv).2; have := bx_12.1; have := bx_12.2; have := bx_13.1; have := bx_13.2; have := bis_.1; have := bis_.2; have := bnf.1; have := bnf.2; have : (0 : Int32).toInt = 0 := (by decide); have : (1 : Int32).toInt = 1 := (by decide); have : (3 : Int32).toInt = 3 := (by decide); have : (2000 : Int32).toInt = 2000 := (by decide); omega)
      have hI_23 := h.2.1
      refine lv_aload_n hx hb dX14_run_37 rfl (lv_at hl 0 rfl) ?_
      refine lv_iload_n hx hb dX14_run_38 rfl (lv_at hl 1 rfl) ?_
      refine lv_iload_n hx hb dX14_run_39 rfl (lv_at hl 2 rfl) ?_
      refine lv_iload_n hx hb dX14_run_40 rfl (lv_at hl 3 rfl) ?_
      refine lv_iload hx hb dX14_run_41 (lv_at hl 4 rfl) ?_
      refine lv_iload hx hb dX14_run_43 (lv_at hl 5 rfl) ?_
      refine lv_iconst (v := (-1)) hx hb dX14_run_45 (by decide) ?_
      obtain ⟨x_24, kx_24, bx_24⟩ := z_learn (j := 1) (lo := 0) (hi := 60) h hpr (by decide) rfl
      obtain ⟨x_25, kx_25, bx_25⟩ := z_learn (j := 2) (lo := 0) (hi := 620) h hpr (by decide) rfl
      have p_26 := (hrb_.fr hfF_1 hpr ⟨by unfold zXM; decide, by decide⟩)
      refine zk_VHv (hh := [(108, 120, 123, 26)]) (As := [.int f_, .int x, .int y, .int z, .int fv, .int (-1)]) (rest := []) (bytes := cX14_runs) (maxL := 8) (ret := none) Z h (zj_X14_runs l D k Γ L F_1 H.size th f_ x y z fv (-1) st pr x_13 x_24 x_25 wk d T V X hth bf__11 (zB.of ⟨by have := bf__11.1; have := bf__11.2; have := (zB.all x).1; have := (zB.all x).2; have := (zB.all y).1; have := (zB.all y).2; have := (zB.all z).1; have := (zB.all z).2; have := (zB.all fv).1; have := (zB.all fv).2; have := bx_12.1; have := bx_12.2; have := bx_13.1; have := bx_13.2; have := bis_.1; have := bis_.2; have := bnf.1; have := bnf.2; have : ((-1) : Int32).toInt = (-1) := (by decide); have : (0 : Int32).toInt = 0 := (by decide); have : (1 : Int32).toInt = 1 := (by decide); have : (3 : Int32).toInt = 3 := (by decide); have : (2000 : Int32).toInt = 2000 := (by decide); omega, by have := bf__11.1; have := bf__11.2; have := (zB.all x).1; have := (zB.all x).2; have := (zB.all y).1; have := (zB.all y).2; have := (zB.all z).1; have := (zB.all z).2; have := (zB.all fv).1; have := (zB.all fv).2; have := bx_12.1; have := bx_12.2; have := bx_13.1; have := bx_13.2; have := bis_.1; have := bis_.2; have := bnf.1; have := bnf.2; have : ((-1) : Int32).toInt = (-1) := (by decide); have : (0 : Int32).toInt = 0 := (by decide); have : (1 : Int32).toInt = 1 := (by decide); have : (3 : Int32).toInt = 3 := (by decide); have : (2000 : Int32).toInt = 2000 := (by decide); omega⟩) (hfF_1.f hth 9 ⟨by decide, by decide⟩ kst) hst (hfF_1.f hth 4 ⟨by decide, by decide⟩ kpr) hpr kx_13 bx_13 kx_24 bx_24 kx_25 bx_25 wf_15 (hfF_1.f hth 23 ⟨by decide, by decide⟩ kwk) hwk (by have := bf__11.1; have := bf__11.2; have := (zB.all x).1; have := (zB.all x).2; have := (zB.all y).1; have := (zB.all y).2; have := (zB.all z).1; have := (zB.all z).2; have := (zB.all fv).1; have := (zB.all fv).2; have := bx_13.1; have := bx_13.2; have := bx_24.1; have := bx_24.2; have := bx_25.1; have := bx_25.2; have := bx_12.1; have := bx_12.2; have := bis_.1; have := bis_.2; have := bnf.1; have := bnf.2; have : ((-1) : Int32).toInt = (-1) := (by decide); have : (0 : Int32).toInt = 0 := (by decide); have : (1 : Int32).toInt = 1 := (by decide); have : (3 : Int32).toInt = 3 := (by decide); have : (2000 : Int32).toInt = 2000 := (by decide); omega) p_26 htd_ (hr1.fr (hfF_1 : zFr Γ [1400] F F_1) (by decide))) (vx_cwVW 6 hg zv_RX14_411 rfl rfl rfl zd_X14_runs ⟨z_leR hRf (by decide), z_leR hRl (by decide)⟩) hth (by decide) rfl rfl hl.1 rfl (Nat.le_of_ble_eq_true rfl) dX14_run_46 ⟨Nat.zero_le _, Nat.zero_le _⟩ (fun F_27 H locs w_28 h hfF_27 => ?_)
      obtain ⟨q_29, q_30, -⟩ := w_28
      obtain ⟨x_31, kx_31, bx_31⟩ := z_learn (j := 2) (lo := 0) (hi := 2000) h hwk (by decide) rfl
      have hfc_ := zRb.fc hrb_ knf
      have hfn_ : Int32.toNatClampNeg f_ = f_.toInt.toNat := by have h6 := z_cl (x := f_) (by have := bf__11.1; have := bf__11.2; have := (zB.all x).1; have := (zB.all x).2; have := (zB.all y).1; have := (zB.all y).2; have := (zB.all z).1; have := (zB.all z).2; have := (zB.all fv).1; have := (zB.all fv).2; have := bx_12.1; have := bx_12.2; have := bx_13.1; have := bx_13.2; have := bx_24.1; have := bx_24.2; have := bx_25.1; have := bx_25.2; have := bx_31.1; have := bx_31.2; have := bis_.1; have := bis_.2; have := bnf.1; have := bnf.2; have : (0 : Int32).toInt = 0 := (by decide); have : (1 : Int32).toInt = 1 := (by decide); have : (3 : Int32).toInt = 3 := (by decide); have : (2000 : Int32).toInt = 2000 := (by decide); omega); omega
      have h63_ := zVb (j := 6) (c := 126) hI0 hpr ⟨by decide, rfl⟩ ⟨by decide, rfl⟩ (Int32.toNatClampNeg f_) (by rw [hfn_]; have := bf__11.1; have := bf__11.2; have := (zB.all x).1; have := (zB.all x).2; have := (zB.all y).1; have := (zB.all y).2; have := (zB.all z).1; have := (zB.all z).2; have := (zB.all fv).1; have := (zB.all fv).2; have := bx_12.1; have := bx_12.2; have := bx_13.1; have := bx_13.2; have := bx_24.1; have := bx_24.2; have := bx_25.1; have := bx_25.2; have := bx_31.1; have := bx_31.2; have := bis_.1; have := bis_.2; have := bnf.1; have := bnf.2; have : (0 : Int32).toInt = 0 := (by decide); have : (1 : Int32).toInt = 1 := (by decide); have : (3 : Int32).toInt = 3 := (by decide); have : (2000 : Int32).toInt = 2000 := (by decide); omega)
      have h6z_ : (zar F pr 6 (Int32.toNatClampNeg f_)).toInt = (zpc d f_.toInt.toNat : Int) := by rw [hfn_]; exact (hrb_.2.2.2.2.2.2 _ (by have := bf__11.1; have := bf__11.2; have := (zB.all x).1; have := (zB.all x).2; have := (zB.all y).1; have := (zB.all y).2; have := (zB.all z).1; have := (zB.all z).2; have := (zB.all fv).1; have := (zB.all fv).2; have := bx_12.1; have := bx_12.2; have := bx_13.1; have := bx_13.2; have := bx_24.1; have := bx_24.2; have := bx_25.1; have := bx_25.2; have := bx_31.1; have := bx_31.2; have := bis_.1; have := bis_.2; have := bnf.1; have := bnf.2; have : (0 : Int32).toInt = 0 := (by decide); have : (1 : Int32).toInt = 1 := (by decide); have : (3 : Int32).toInt = 3 := (by decide); have : (2000 : Int32).toInt = 2000 := (by decide); omega)).2.1
      have h6_32 : (zar F_1 pr 6 (Int32.toNatClampNeg f_)).toInt = (zpc d f_.toInt.toNat : Int) := by rw [(hrb_.1.ar (hfF_1 : zFr Γ [1400] F F_1) 6 (by decide))]; exact h6z_
      have hrz_ : zRz ((-1) : Int32).toInt fv.toInt d T V F_27 wk f_.toInt x y z := zRz.of (by rw [h6_32]; omega) (by rw [h6_32]; have := h63_.2; omega) ⟨by have := bf__11.1; have := bf__11.2; have := (zB.all x).1; have := (zB.all x).2; have := (zB.all y).1; have := (zB.all y).2; have := (zB.all z).1; have := (zB.all z).2; have := (zB.all fv).1; have := (zB.all fv).2; have := bx_12.1; have := bx_12.2; have := bx_13.1; have := bx_13.2; have := bx_24.1; have := bx_24.2; have := bx_25.1; have := bx_25.2; have := bx_31.1; have := bx_31.2; have := bis_.1; have := bis_.2; have := bnf.1; have := bnf.2; have : (0 : Int32).toInt = 0 := (by decide); have : (1 : Int32).toInt = 1 := (by decide); have : (3 : Int32).toInt = 3 := (by decide); have : (2000 : Int32).toInt = 2000 := (by decide); omega, by have := bf__11.1; have := bf__11.2; have := (zB.all x).1; have := (zB.all x).2; have := (zB.all y).1; have := (zB.all y).2; have := (zB.all z).1; have := (zB.all z).2; have := (zB.all fv).1; have := (zB.all fv).2; have := bx_12.1; have := bx_12.2; have := bx_13.1; have := bx_13.2; have := bx_24.1; have := bx_24.2; have := bx_25.1; have := bx_25.2; have := bx_31.1; have := bx_31.2; have := bis_.1; have := bis_.2; have := bnf.1; have := bnf.2; have : (0 : Int32).toInt = 0 := (by decide); have : (1 : Int32).toInt = 1 := (by decide); have : (3 : Int32).toInt = 3 := (by decide); have : (2000 : Int32).toInt = 2000 := (by decide); omega⟩ hAn_ kx_31 bx_31.2 q_29
      have hI_34 := h.2.1
      have st_33 : zYk Γ X F F_27 := zYk.tr (zFr.wholeY hI0 hI_23 (hfF_1 : zFr Γ [1400] F F_1) (by decide)) q_30
      refine lv_aload_n hx hb dX14_run_49 rfl (lv_at hl 0 rfl) ?_
      refine zt_getk (t := 14) (C := RX14) (T := TX14) (N := 40) Z h hth zin_14 rfl 22 (hfF_27.f hth 22 ⟨by decide, by decide⟩ (hfF_1.f hth 22 ⟨by decide, by decide⟩ klt)) ⟨by decide, rfl, by decide⟩ (zm_RX14 (List.mem_of_getElem? (i := 183) rfl)) (fun _ h9 => h9) dX14_run_50 ?_
      refine lv_astore (lv' := [(6, .ref lt), (0, .ref th), (1, .int f_), (2, .int x), (3, .int y), (4, .int z), (5, .int fv)]) hx hb dX14_run_53 hl (by decide) rfl (fun ls hl => ?_)
      refine lv_aload_n hx hb dX14_run_55 rfl (lv_at hl 1 rfl) ?_
      refine lv_aload_n hx hb dX14_run_56 rfl (lv_at hl 1 rfl) ?_
      refine zt_getk (t := 14) (C := RX14) (T := TX14) (N := 40) Z h hth zin_14 rfl 23 (hfF_27.f hth 23 ⟨by decide, by decide⟩ (hfF_1.f hth 23 ⟨by decide, by decide⟩ kwk)) ⟨by decide, rfl, by decide⟩ (zm_RX14 (List.mem_of_getElem? (i := 145) rfl)) (fun _ h9 => h9) dX14_run_57 ?_
      refine zt_put (t := 14) (C := RX14) (T := TX14) (N := 40) (v := .ref wk) Z h hth zin_14 tyX14 tyX14_ok nmX14 rfl 22 rfl ⟨by decide, rfl⟩ (zm_RX14 (List.mem_of_getElem? (i := 183) rfl)) (fun _ h9 => h9) rfl trivial rfl rfl dX14_run_60 (fun H locs F_35 h hfF_35 kF_35 => ?_)
      refine lv_aload_n hx hb dX14_run_63 rfl (lv_at hl 1 rfl) ?_
      refine lv_aload hx hb dX14_run_64 (lv_at hl 0 rfl) ?_
      refine zt_put (t := 14) (C := RX14) (T := TX14) (N := 40) (v := .ref lt) Z h hth zin_14 tyX14 tyX14_ok nmX14 rfl 23 rfl ⟨by decide, rfl⟩ (zm_RX14 (List.mem_of_getElem? (i := 145) rfl)) (fun _ h9 => h9) rfl trivial rfl rfl dX14_run_66 (fun H locs F_36 h hfF_36 kF_36 => ?_)
      refine lv_aload_n hx hb dX14_run_69 rfl (lv_at hl 1 rfl) ?_
      refine lv_iconst (v := 1) hx hb dX14_run_70 (by decide) ?_
      refine zt_put (t := 14) (C := RX14) (T := TX14) (N := 40) (v := .int 1) Z h hth zin_14 tyX14 tyX14_ok nmX14 rfl 24 rfl ⟨by decide, rfl⟩ (zm_RX14 (List.mem_of_getElem? (i := 124) rfl)) (fun _ h9 => h9) rfl (zV.i (zB.of ⟨by decide, by decide⟩)) rfl rfl dX14_run_71 (fun H locs F_37 h hfF_37 kF_37 => ?_)
      refine lv_aload_n hx hb dX14_run_74 rfl (lv_at hl 1 rfl) ?_
      refine lv_aload_n hx hb dX14_run_75 rfl (lv_at hl 1 rfl) ?_
      refine zt_getk (t := 14) (C := RX14) (T := TX14) (N := 40) Z h hth zin_14 rfl 22 (hfF_37.f hth 22 ⟨by decide, by decide⟩ (hfF_36.f hth 22 ⟨by decide, by decide⟩ kF_35)) ⟨by decide, rfl, by decide⟩ (zm_RX14 (List.mem_of_getElem? (i := 183) rfl)) (fun _ h9 => h9) dX14_run_76 ?_
      refine zt_getiN (t := 12) (C := RX12) (T := TX12) (N := 10) Z h hwk zin_12 rfl 0 rfl ⟨by decide, rfl⟩ (zn_32 Z) (fun _ h9 => h9) dX14_run_79 (fun x_38 kx_38 bx_38 => ?_)
      refine zk_Vi (As := [.int x_38]) (rest := []) (bytes := cX14_done) (maxL := 2) (ret := (some .int)) Z h (zx_X14_done l D k Γ L F_37 H.size th x_38 hth) (cwV 1 hg zv_RX14_333 rfl rfl rfl zd_X14_done ⟨z_leR hRf (by decide), z_leR hRl (by decide)⟩) hth (by decide) rfl rfl hl.1 rfl (Nat.le_of_ble_eq_true rfl) dX14_run_82 ⟨Nat.zero_le _, Nat.zero_le _⟩ (fun r_39 F_40 H locs w_41 h hfF_40 => ?_)
      obtain ⟨q_42, -⟩ := w_41
      have br_39 := zB.all r_39
      subst hQ
      exact W.iret (v := r_39) hx hb hr (fun t ht hW => ⟨⟨r_39, F_40, rfl, ⟨⟨fun _ => (by have hrz9_ := hrz_.fr hI_34 (((((hfF_35.w (by decide)).trans hfF_36 (by decide)).trans hfF_37 (by decide)).trans hfF_40 (by decide)) : zFr Γ [1401, 1402, 1422, 1423, 1424] F_27 F_40) hwk (by decide); refine ⟨hrz9_, ?_⟩; obtain ⟨m, g1, g2, g3, g4, g5⟩ := hrz9_; rw [q_42]; have h7 := zFi.is g3 (hfF_40.f hwk 0 ⟨by decide, by decide⟩ kx_38); rw [h7, g1.2.2.1]), fun h9 => by exfalso; exact h9 (by refine ⟨?_, ?_, ?_, ?_, ?_⟩ <;> (have := bf__11.1; have := bf__11.2; have := (zB.all x).1; have := (zB.all x).2; have := (zB.all y).1; have := (zB.all y).2; have := (zB.all z).1; have := (zB.all z).2; have := (zB.all fv).1; have := (zB.all fv).2; have := br_39.1; have := br_39.2; have := bx_12.1; have := bx_12.2; have := bx_13.1; have := bx_13.2; have := bx_24.1; have := bx_24.2; have := bx_25.1; have := bx_25.2; have := bx_31.1; have := bx_31.2; have := bx_38.1; have := bx_38.2; have := bis_.1; have := bis_.2; have := bnf.1; have := bnf.2; have : (0 : Int32).toInt = 0 := (by decide); have : (1 : Int32).toInt = 1 := (by decide); have : (3 : Int32).toInt = 3 := (by decide); have : (2000 : Int32).toInt = 2000 := (by decide); omega))⟩, (zYk.tr st_33 (zFr.wholeY hI_34 h.2.1 (((((hfF_35.w (by decide)).trans hfF_36 (by decide)).trans hfF_37 (by decide)).trans hfF_40 (by decide)) : zFr Γ [1401, 1402, 1422, 1423, 1424] F_27 F_40) (by decide))), (fun _ => ⟨(hfF_40.f hth 22 ⟨by decide, by decide⟩ (hfF_37.f hth 22 ⟨by decide, by decide⟩ (hfF_36.f hth 22 ⟨by decide, by decide⟩ kF_35))), (hfF_40.f hth 23 ⟨by decide, by decide⟩ (hfF_37.f hth 23 ⟨by decide, by decide⟩ kF_36)), (hfF_40.f hth 24 ⟨by decide, by decide⟩ kF_37)⟩), (fun h9 => by exfalso; exact h9 (by refine ⟨?_, ?_, ?_, ?_, ?_⟩ <;> (have := bf__11.1; have := bf__11.2; have := (zB.all x).1; have := (zB.all x).2; have := (zB.all y).1; have := (zB.all y).2; have := (zB.all z).1; have := (zB.all z).2; have := (zB.all fv).1; have := (zB.all fv).2; have := br_39.1; have := br_39.2; have := bx_12.1; have := bx_12.2; have := bx_13.1; have := bx_13.2; have := bx_24.1; have := bx_24.2; have := bx_25.1; have := bx_25.2; have := bx_31.1; have := bx_31.2; have := bx_38.1; have := bx_38.2; have := bis_.1; have := bis_.2; have := bnf.1; have := bnf.2; have : (0 : Int32).toInt = 0 := (by decide); have : (1 : Int32).toInt = 1 := (by decide); have : (3 : Int32).toInt = 3 := (by decide); have : (2000 : Int32).toInt = 2000 := (by decide); omega))), trivial⟩, by rw [ht]; exact h.1, h.2.1, ((((((hfF_1.w (by decide)).trans hfF_27 (by decide)).trans hfF_35 (by decide)).trans hfF_36 (by decide)).trans hfF_37 (by decide)).trans hfF_40 (by decide))⟩, h.2.2.F ht⟩) h.2.2.2.2 dX14_run_85
    · have c_21 := z_eq c_21
      have br_17_43 : zB 0 0 r_17 := zB.eqL (a := 0) (b := 0) c_21 (zBc 0 0 (by decide))
      refine lv_aload_n hx hb dX14_run_31 rfl (lv_at hl 0 rfl) ?_
      refine lv_iconst (v := 2) hx hb dX14_run_32 (by decide) ?_
      refine zk_Vi (As := [.int 2]) (rest := []) (bytes := cX14_refused) (maxL := 2) (ret := (some .int)) Z h (zc_X14_refused l D k Γ L F_1 H.size th 2 hth) (cwV 1 hg zv_RX14_307 rfl rfl rfl zd_X14_refused ⟨z_leR hRf (by decide), z_leR hRl (by decide)⟩) hth (by decide) rfl rfl hl.1 rfl (Nat.le_of_ble_eq_true rfl) dX14_run_33 ⟨Nat.zero_le _, Nat.zero_le _⟩ (fun r_44 F_45 H locs w_46 h hfF_45 => ?_)
      obtain ⟨br_44, -⟩ := w_46
      subst hQ
      exact W.iret (v := r_44) hx hb hr (fun t ht hW => ⟨⟨r_44, F_45, rfl, ⟨⟨fun h9 => by exfalso; have := bf__11.1; have := bf__11.2; have := (zB.all x).1; have := (zB.all x).2; have := (zB.all y).1; have := (zB.all y).2; have := (zB.all z).1; have := (zB.all z).2; have := (zB.all fv).1; have := (zB.all fv).2; have := br_44.1; have := br_44.2; have := bx_12.1; have := bx_12.2; have := bx_13.1; have := bx_13.2; have := bis_.1; have := bis_.2; have := bnf.1; have := bnf.2; have : (0 : Int32).toInt = 0 := (by decide); have : (1 : Int32).toInt = 1 := (by decide); have : (3 : Int32).toInt = 3 := (by decide); have : (2000 : Int32).toInt = 2000 := (by decide); omega, fun _ => by have := bf__11.1; have := bf__11.2; have := (zB.all x).1; have := (zB.all x).2; have := (zB.all y).1; have := (zB.all y).2; have := (zB.all z).1; have := (zB.all z).2; have := (zB.all fv).1; have := (zB.all fv).2; have := br_44.1; have := br_44.2; have := bx_12.1; have := bx_12.2; have := bx_13.1; have := bx_13.2; have := bis_.1; have := bis_.2; have := bnf.1; have := bnf.2; have : (0 : Int32).toInt = 0 := (by decide); have : (1 : Int32).toInt = 1 := (by decide); have : (3 : Int32).toInt = 3 := (by decide); have : (2000 : Int32).toInt = 2000 := (by decide); omega⟩, (zFr.wholeY hI0 h.2.1 (((hfF_1.w (by decide)).trans hfF_45 (by decide)) : zFr Γ [1400, 1401, 1402] F F_45) (by decide)), (fun h9 => by exfalso; have := bf__11.1; have := bf__11.2; have := (zB.all x).1; have := (zB.all x).2; have := (zB.all y).1; have := (zB.all y).2; have := (zB.all z).1; have := (zB.all z).2; have := (zB.all fv).1; have := (zB.all fv).2; have := br_44.1; have := br_44.2; have := bx_12.1; have := bx_12.2; have := bx_13.1; have := bx_13.2; have := bis_.1; have := bis_.2; have := bnf.1; have := bnf.2; have : (0 : Int32).toInt = 0 := (by decide); have : (1 : Int32).toInt = 1 := (by decide); have : (3 : Int32).toInt = 3 := (by decide); have : (2000 : Int32).toInt = 2000 := (by decide); omega), (fun _ => ⟨(hfF_45.f hth 22 ⟨by decide, by decide⟩ (hfF_1.f hth 22 ⟨by decide, by decide⟩ klt)), (hfF_45.f hth 23 ⟨by decide, by decide⟩ (hfF_1.f hth 23 ⟨by decide, by decide⟩ kwk)), ((((hfF_1.w (by decide)).trans hfF_45 (by decide)) : zFr Γ [1400, 1401, 1402] F F_45).1 th 14 hth).1 (by decide) 24 (by decide)⟩), trivial⟩, by rw [ht]; exact h.1, h.2.1, ((hfF_1.w (by decide)).trans hfF_45 (by decide))⟩, h.2.2.F ht⟩) h.2.2.2.2 dX14_run_36
  · have q_47 := q_6 c_9
    have c_9 := z_eq c_9
    have br_2_48 : zB 0 0 r_2 := zB.eqL (a := 0) (b := 0) c_9 (zBc 0 0 (by decide))
    refine lv_aload_n hx hb dX14_run_13 rfl (lv_at hl 0 rfl) ?_
    refine lv_iconst (v := 1) hx hb dX14_run_14 (by decide) ?_
    refine zk_Vi (As := [.int 1]) (rest := []) (bytes := cX14_refused) (maxL := 2) (ret := (some .int)) Z h (zc_X14_refused l D k Γ L F_1 H.size th 1 hth) (cwV 1 hg zv_RX14_307 rfl rfl rfl zd_X14_refused ⟨z_leR hRf (by decide), z_leR hRl (by decide)⟩) hth (by decide) rfl rfl hl.1 rfl (Nat.le_of_ble_eq_true rfl) dX14_run_15 ⟨Nat.zero_le _, Nat.zero_le _⟩ (fun r_49 F_50 H locs w_51 h hfF_50 => ?_)
    obtain ⟨br_49, -⟩ := w_51
    subst hQ
    exact W.iret (v := r_49) hx hb hr (fun t ht hW => ⟨⟨r_49, F_50, rfl, ⟨⟨fun h9 => by exfalso; have := (zB.all f_).1; have := (zB.all f_).2; have := (zB.all x).1; have := (zB.all x).2; have := (zB.all y).1; have := (zB.all y).2; have := (zB.all z).1; have := (zB.all z).2; have := (zB.all fv).1; have := (zB.all fv).2; have := br_49.1; have := br_49.2; have := bis_.1; have := bis_.2; have := bnf.1; have := bnf.2; have : (0 : Int32).toInt = 0 := (by decide); omega, fun _ => by have := (zB.all f_).1; have := (zB.all f_).2; have := (zB.all x).1; have := (zB.all x).2; have := (zB.all y).1; have := (zB.all y).2; have := (zB.all z).1; have := (zB.all z).2; have := (zB.all fv).1; have := (zB.all fv).2; have := br_49.1; have := br_49.2; have := bis_.1; have := bis_.2; have := bnf.1; have := bnf.2; have : (0 : Int32).toInt = 0 := (by decide); omega⟩, (zFr.wholeY hI0 h.2.1 (((hfF_1.w (by decide)).trans hfF_50 (by decide)) : zFr Γ [1400, 1401, 1402] F F_50) (by decide)), (fun h9 => by exfalso; have := (zB.all f_).1; have := (zB.all f_).2; have := (zB.all x).1; have := (zB.all x).2; have := (zB.all y).1; have := (zB.all y).2; have := (zB.all z).1; have := (zB.all z).2; have := (zB.all fv).1; have := (zB.all fv).2; have := br_49.1; have := br_49.2; have := bis_.1; have := bis_.2; have := bnf.1; have := bnf.2; have : (0 : Int32).toInt = 0 := (by decide); omega), (fun _ => ⟨(hfF_50.f hth 22 ⟨by decide, by decide⟩ (hfF_1.f hth 22 ⟨by decide, by decide⟩ klt)), (hfF_50.f hth 23 ⟨by decide, by decide⟩ (hfF_1.f hth 23 ⟨by decide, by decide⟩ kwk)), ((((hfF_1.w (by decide)).trans hfF_50 (by decide)) : zFr Γ [1400, 1401, 1402] F F_50).1 th 14 hth).1 (by decide) 24 (by decide)⟩), trivial⟩, by rw [ht]; exact h.1, h.2.1, ((hfF_1.w (by decide)).trans hfF_50 (by decide))⟩, h.2.2.F ht⟩) h.2.2.2.2 dX14_run_18

set_option maxHeartbeats 4000000 in
set_option maxRecDepth 100000 in
theorem zx_X14_wrong (l : Launch) (D : va_G) (k : Nat → ClassId) (Γ : Nat → Option Nat) (L : List Nat) (F : Nat → va_E) (sz : Nat) (th : Nat) (ru : Int32) (f_ : Int32) (x : Int32) (y : Int32) (z : Int32) (st : Nat) (pr : Nat) (wk : Nat) (is_ : Int32) (nf : Int32) (d : zDat) (T : zTS) (V : Nat → Int) (X : List Nat) (hth : Γ th = some 14) (kst : zfld F th 9 = .ref st) (hst : Γ st = some 13) (kpr : zfld F th 4 = .ref pr) (hpr : Γ pr = some 11) (kwk : zfld F th 23 = .ref wk) (hwk : Γ wk = some 12) (p_mi : zMI Γ F th pr) (kis_ : zfld F th 7 = .int is_) (bis_ : zB 0 1 is_) (knf : zfld F pr 0 = .int nf) (bnf : zB 0 10 nf) (hr0 : is_.toInt ≠ 0 → zRb Γ F pr T V d ∧ zTd d ∧ zAn (zAa T V d) (zac d)) (hr1 : zYm Γ F wk X) : Met l yX14_wrong zwX14_wrong ({ frames := 87, cells := 0, slots := 0, locals := 3453 }) (va_Pc [.ref th, .int ru, .int f_, .int x, .int y, .int z] (zP D k Γ L F sz)) (va_Qi (fun (r : Int32) (u : Nat → va_E) => ((is_.toInt ≠ 0 ∧ 0 ≤ f_.toInt ∧ f_.toInt < nf.toInt ∧ 0 ≤ ru.toInt ∧ ru.toInt ≤ 3 → zRz ru.toInt (2000 : Int32).toInt d T V u wk f_.toInt x y z ∧ r = vvl (zFx9 ru.toInt (2000 : Int32).toInt d T V f_.toInt x y z)) ∧ (¬ (is_.toInt ≠ 0 ∧ 0 ≤ f_.toInt ∧ f_.toInt < nf.toInt ∧ 0 ≤ ru.toInt ∧ ru.toInt ≤ 3) → r.toInt = -1)) ∧ zYk Γ X F u ∧ True) (zQ D k Γ L F [1200, 1201, 1202, 1203, 1204, 1205, 1206, 1306, 1307, 1400, 1401, 1402, 1426, 1427, 1428, 1429, 15000, 16500, 16600, 16700]) (zA L sz)) 0 0 (zA L sz) := by
  refine Met.ofW (cc := cX14_wrong) (maxL := 6) (ret := (some .int)) (by decide) rfl ?_
  intro p e s m args below meth c s₁ B hml hv
  obtain ⟨rfl, hsz, hP, hK, hLn, hE, hI⟩ := hv
  have hx := B.exec
  have hb := B.bytes
  have hr := B.returns
  have hg : ∀ w ∈ zG, w.before _ s = true := fun w h9 => atoms_spec (ws := zwX14_wrong) B.pre w (List.mem_cons_of_mem _ h9)
  have hown : s.vm.findClass RX14 = some m.cls := findClass_of_methodNamed B.named
  have hlocks := B.notSynchronized
  subst hsz
  have Z : zC p m c cX14_wrong 6 s _ zG RX14 D k L := ⟨⟨hx, hb, hml, hown, hg⟩, hK, hLn, hE⟩
  have h : zH D k Γ L s F s.heap [] := ⟨hP, hI, va_S.rf⟩
  have hl := lv_entry ([.ref th, .int ru, .int f_, .int x, .int y, .int z]) (n := 6) (Nat.le_of_ble_eq_true rfl)
  rw [lg_entry_eq]
  generalize (lg_sl ([.ref th, .int ru, .int f_, .int x, .int y, .int z]) ++ List.replicate (6 - (lg_sl ([.ref th, .int ru, .int f_, .int x, .int y, .int z])).length) Slot.unset).toArray = ls at hl ⊢
  have hl : lv_has ls 6 [(0, .ref th), (1, .int ru), (2, .int f_), (3, .int x), (4, .int y), (5, .int z)] := hl
  clear hP hK hLn hE hI
  generalize hargs : ([.ref th, .int ru, .int f_, .int x, .int y, .int z] : List Value).toArray = args at *
  refine z_start (fun R Q hRf hRl hQ => ?_)
  have hRf : R.frames = 87 := hRf
  have hRl : R.locals = 3453 := hRl
  have h9 := h
  have hI0 := h.2.1
  refine lv_aload_n hx hb dX14_wrong_0 rfl (lv_at hl 0 rfl) ?_
  refine lv_iconst (v := 0) hx hb dX14_wrong_1 (by decide) ?_
  refine zt_put (t := 14) (C := RX14) (T := TX14) (N := 40) (v := .int 0) Z h hth zin_14 tyX14 tyX14_ok nmX14 rfl 0 rfl ⟨by decide, rfl⟩ (zm_RX14 (List.mem_of_getElem? (i := 105) rfl)) (fun _ h9 => h9) rfl (zV.i (zB.of ⟨by decide, by decide⟩)) rfl rfl dX14_wrong_2 (fun H locs F_1 h hfF_1 kF_1 => ?_)
  refine lv_aload_n hx hb dX14_wrong_5 rfl (lv_at hl 0 rfl) ?_
  refine lv_iload_n hx hb dX14_wrong_6 rfl (lv_at hl 2 rfl) ?_
  refine zk_Vi (As := [.int f_]) (rest := []) (bytes := cX14_isFunction) (maxL := 2) (ret := (some .boolean)) Z h (zc_X14_isFunction l D k Γ L F_1 H.size th f_ pr is_ nf hth (hfF_1.f hth 4 ⟨by decide, by decide⟩ kpr) hpr (hfF_1.f hth 7 ⟨by decide, by decide⟩ kis_) bis_ (hfF_1.f hpr 0 ⟨by decide, by decide⟩ knf) bnf) (cwV 1 hg zv_RX14_336 rfl rfl rfl zd_X14_isFunction ⟨z_leR hRf (by decide), z_leR hRl (by decide)⟩) hth (by decide) rfl rfl hl.1 rfl (Nat.le_of_ble_eq_true rfl) dX14_wrong_7 ⟨Nat.zero_le _, Nat.zero_le _⟩ (fun r_2 F_3 H locs w_4 h hfF_3 => ?_)
  obtain ⟨rfl, br_2, q_5, q_6, q_7, q_8, -⟩ := w_4
  refine lv_if_ne (tgt := 19) hx hb dX14_wrong_10 (by decide) (fun c_9 => ?_) (fun c_9 => ?_)
  · have q_10 := q_5 c_9
    have bf__11 : zB 0 9 f_ := q_7 c_9
    obtain ⟨⟨x_12, kx_12, hx_12⟩, x_13, kx_13, hx_13⟩ := q_8 c_9
    have bx_12 := zB.all x_12
    have bx_13 : zB 0 10 x_13 := by obtain ⟨x9, k9, b9⟩ := z_learn (j := 0) (lo := 0) (hi := 10) h hpr (by decide) rfl; rw [z_vi kx_13 k9]; exact b9
    have p_14 := (p_mi.fr hfF_1 hth (by decide))
    have wf_15 := zMI.wf p_14 kx_12 hx_12
    have c_9 := z_ne c_9
    have br_2_16 : zB 1 1 r_2 := zB.neLo c_9 br_2 (zBc 0 0 (by decide)) (by decide)
    refine lv_iload_n hx hb dX14_wrong_19 rfl (lv_at hl 1 rfl) ?_
    refine lv_iconst (v := 0) hx hb dX14_wrong_20 (by decide) ?_
    refine lv_iconst (v := 3) hx hb dX14_wrong_21 (by decide) ?_
    refine zk_Si (As := [.int ru, .int 0, .int 3]) (rest := []) (bytes := cX14_in) (maxL := 3) (ret := (some .boolean)) Z h (zx_X14_in l D k Γ L F_1 H.size ru 0 3) (va_cwS 3 hg zv_RX14_407 rfl rfl rfl zd_X14_in ⟨z_leR hRf (by decide), z_leR hRl (by decide)⟩) rfl hl.1 rfl (Nat.le_of_ble_eq_true rfl) dX14_wrong_22 ⟨Nat.zero_le _, Nat.zero_le _⟩ (fun r_17 F_18 H locs w_19 h hfF_18 => ?_)
    obtain ⟨rfl, br_17, q_20, -⟩ := w_19
    refine lv_if_ne (tgt := 34) hx hb dX14_wrong_25 (by decide) (fun c_21 => ?_) (fun c_21 => ?_)
    · have c_21 := z_ne c_21
      have br_17_22 : zB 1 1 r_17 := zB.neLo c_21 br_17 (zBc 0 0 (by decide)) (by decide)
      obtain ⟨hrb_, htd_, hAn_⟩ := hr0 (by have := (zB.all ru).1; have := (zB.all ru).2; have := bf__11.1; have := bf__11.2; have := (zB.all x).1; have := (zB.all x).2; have := (zB.all y).1; have := (zB.all y).2; have := (zB.all z).1; have := (zB.all z).2; have := bx_12.1; have := bx_12.2; have := bx_13.1; have := bx_13.2; have := bis_.1; have := bis_.2; have := bnf.1; have := bnf.2; have : (0 : Int32).toInt = 0 := (by decide); have : (1 : Int32).toInt = 1 := (by decide); have : (3 : Int32).toInt = 3 := (by decide); have : (2000 : Int32).toInt = 2000 := (by decide); omega)
      have hI_23 := h.2.1
      refine lv_aload_n hx hb dX14_wrong_34 rfl (lv_at hl 0 rfl) ?_
      refine lv_iload_n hx hb dX14_wrong_35 rfl (lv_at hl 2 rfl) ?_
      refine lv_iload_n hx hb dX14_wrong_36 rfl (lv_at hl 3 rfl) ?_
      refine lv_iload hx hb dX14_wrong_37 (lv_at hl 4 rfl) ?_
      refine lv_iload hx hb dX14_wrong_39 (lv_at hl 5 rfl) ?_
      refine lv_sipush (v := 2000) hx hb dX14_wrong_41 (by decide) ?_
      refine lv_iload_n hx hb dX14_wrong_44 rfl (lv_at hl 1 rfl) ?_
      obtain ⟨x_24, kx_24, bx_24⟩ := z_learn (j := 1) (lo := 0) (hi := 60) h hpr (by decide) rfl
      obtain ⟨x_25, kx_25, bx_25⟩ := z_learn (j := 2) (lo := 0) (hi := 620) h hpr (by decide) rfl
      have p_26 := (hrb_.fr hfF_1 hpr ⟨by unfold zXM; decide, by decide⟩)
      refine zk_VHv (hh := [(108, 120, 123, 26)]) (As := [.int f_, .int x, .int y, .int z, .int 2000, .int ru]) (rest := []) (bytes := cX14_runs) (maxL := 8) (ret := none) Z h (zj_X14_runs l D k Γ L F_1 H.size th f_ x y z 2000 ru st pr x_13 x_24 x_25 wk d T V X hth bf__11 (zB.of ⟨by decide, by decide⟩) (hfF_1.f hth 9 ⟨by decide, by decide⟩ kst) hst (hfF_1.f hth 4 ⟨by decide, by decide⟩ kpr) hpr kx_13 bx_13 kx_24 bx_24 kx_25 bx_25 wf_15 (hfF_1.f hth 23 ⟨by decide, by decide⟩ kwk) hwk (by have := (zB.all ru).1; have := (zB.all ru).2; have := bf__11.1; have := bf__11.2; have := (zB.all x).1; have := (zB.all x).2; have := (zB.all y).1; have := (zB.all y).2; have := (zB.all z).1; have := (zB.all z).2; have := bx_13.1; have := bx_13.2; have := bx_24.1; have := bx_24.2; have := bx_25.1; have := bx_25.2; have := bx_12.1; have := bx_12.2; have := bis_.1; have := bis_.2; have := bnf.1; have := bnf.2; have : (0 : Int32).toInt = 0 := (by decide); have : (1 : Int32).toInt = 1 := (by decide); have : (3 : Int32).toInt = 3 := (by decide); have : (2000 : Int32).toInt = 2000 := (by decide); omega) p_26 htd_ (hr1.fr (hfF_1 : zFr Γ [1400] F F_1) (by decide))) (vx_cwVW 6 hg zv_RX14_411 rfl rfl rfl zd_X14_runs ⟨z_leR hRf (by decide), z_leR hRl (by decide)⟩) hth (by decide) rfl rfl hl.1 rfl (Nat.le_of_ble_eq_true rfl) dX14_wrong_45 ⟨Nat.zero_le _, Nat.zero_le _⟩ (fun F_27 H locs w_28 h hfF_27 => ?_)
      obtain ⟨q_29, q_30, -⟩ := w_28
      obtain ⟨x_31, kx_31, bx_31⟩ := z_learn (j := 2) (lo := 0) (hi := 2000) h hwk (by decide) rfl
      have hfc_ := zRb.fc hrb_ knf
      have hfn_ : Int32.toNatClampNeg f_ = f_.toInt.toNat := by have h6 := z_cl (x := f_) (by have := (zB.all ru).1; have := (zB.all ru).2; have := bf__11.1; have := bf__11.2; have := (zB.all x).1; have := (zB.all x).2; have := (zB.all y).1; have := (zB.all y).2; have := (zB.all z).1; have := (zB.all z).2; have := bx_12.1; have := bx_12.2; have := bx_13.1; have := bx_13.2; have := bx_24.1; have := bx_24.2; have := bx_25.1; have := bx_25.2; have := bx_31.1; have := bx_31.2; have := bis_.1; have := bis_.2; have := bnf.1; have := bnf.2; have : (0 : Int32).toInt = 0 := (by decide); have : (1 : Int32).toInt = 1 := (by decide); have : (3 : Int32).toInt = 3 := (by decide); have : (2000 : Int32).toInt = 2000 := (by decide); omega); omega
      have h63_ := zVb (j := 6) (c := 126) hI0 hpr ⟨by decide, rfl⟩ ⟨by decide, rfl⟩ (Int32.toNatClampNeg f_) (by rw [hfn_]; have := (zB.all ru).1; have := (zB.all ru).2; have := bf__11.1; have := bf__11.2; have := (zB.all x).1; have := (zB.all x).2; have := (zB.all y).1; have := (zB.all y).2; have := (zB.all z).1; have := (zB.all z).2; have := bx_12.1; have := bx_12.2; have := bx_13.1; have := bx_13.2; have := bx_24.1; have := bx_24.2; have := bx_25.1; have := bx_25.2; have := bx_31.1; have := bx_31.2; have := bis_.1; have := bis_.2; have := bnf.1; have := bnf.2; have : (0 : Int32).toInt = 0 := (by decide); have : (1 : Int32).toInt = 1 := (by decide); have : (3 : Int32).toInt = 3 := (by decide); have : (2000 : Int32).toInt = 2000 := (by decide); omega)
      have h6z_ : (zar F pr 6 (Int32.toNatClampNeg f_)).toInt = (zpc d f_.toInt.toNat : Int) := by rw [hfn_]; exact (hrb_.2.2.2.2.2.2 _ (by have := (zB.all ru).1; have := (zB.all ru).2; have := bf__11.1; have := bf__11.2; have := (zB.all x).1; have := (zB.all x).2; have := (zB.all y).1; have := (zB.all y).2; have := (zB.all z).1; have := (zB.all z).2; have := bx_12.1; have := bx_12.2; have := bx_13.1; have := bx_13.2; have := bx_24.1; have := bx_24.2; have := bx_25.1; have := bx_25.2; have := bx_31.1; have := bx_31.2; have := bis_.1; have := bis_.2; have := bnf.1; have := bnf.2; have : (0 : Int32).toInt = 0 := (by decide); have : (1 : Int32).toInt = 1 := (by decide); have : (3 : Int32).toInt = 3 := (by decide); have : (2000 : Int32).toInt = 2000 := (by decide); omega)).2.1
      have h6_32 : (zar F_1 pr 6 (Int32.toNatClampNeg f_)).toInt = (zpc d f_.toInt.toNat : Int) := by rw [(hrb_.1.ar (hfF_1 : zFr Γ [1400] F F_1) 6 (by decide))]; exact h6z_
      have hrz_ : zRz ru.toInt (2000 : Int32).toInt d T V F_27 wk f_.toInt x y z := zRz.of (by rw [h6_32]; omega) (by rw [h6_32]; have := h63_.2; omega) ⟨by have := (zB.all ru).1; have := (zB.all ru).2; have := bf__11.1; have := bf__11.2; have := (zB.all x).1; have := (zB.all x).2; have := (zB.all y).1; have := (zB.all y).2; have := (zB.all z).1; have := (zB.all z).2; have := bx_12.1; have := bx_12.2; have := bx_13.1; have := bx_13.2; have := bx_24.1; have := bx_24.2; have := bx_25.1; have := bx_25.2; have := bx_31.1; have := bx_31.2; have := bis_.1; have := bis_.2; have := bnf.1; have := bnf.2; have : (0 : Int32).toInt = 0 := (by decide); have : (1 : Int32).toInt = 1 := (by decide); have : (3 : Int32).toInt = 3 := (by decide); have : (2000 : Int32).toInt = 2000 := (by decide); omega, by have := (zB.all ru).1; have := (zB.all ru).2; have := bf__11.1; have := bf__11.2; have := (zB.all x).1; have := (zB.all x).2; have := (zB.all y).1; have := (zB.all y).2; have := (zB.all z).1; have := (zB.all z).2; have := bx_12.1; have := bx_12.2; have := bx_13.1; have := bx_13.2; have := bx_24.1; have := bx_24.2; have := bx_25.1; have := bx_25.2; have := bx_31.1; have := bx_31.2; have := bis_.1; have := bis_.2; have := bnf.1; have := bnf.2; have : (0 : Int32).toInt = 0 := (by decide); have : (1 : Int32).toInt = 1 := (by decide); have : (3 : Int32).toInt = 3 := (by decide); have : (2000 : Int32).toInt = 2000 := (by decide); omega⟩ hAn_ kx_31 bx_31.2 q_29
      have hI_34 := h.2.1
      have st_33 : zYk Γ X F F_27 := zYk.tr (zFr.wholeY hI0 hI_23 (hfF_1 : zFr Γ [1400] F F_1) (by decide)) q_30
      refine lv_aload_n hx hb dX14_wrong_48 rfl (lv_at hl 0 rfl) ?_
      refine lv_aload_n hx hb dX14_wrong_49 rfl (lv_at hl 0 rfl) ?_
      refine zt_getk (t := 14) (C := RX14) (T := TX14) (N := 40) Z h hth zin_14 rfl 23 (hfF_27.f hth 23 ⟨by decide, by decide⟩ (hfF_1.f hth 23 ⟨by decide, by decide⟩ kwk)) ⟨by decide, rfl, by decide⟩ (zm_RX14 (List.mem_of_getElem? (i := 145) rfl)) (fun _ h9 => h9) dX14_wrong_50 ?_
      refine zt_getiN (t := 12) (C := RX12) (T := TX12) (N := 10) Z h hwk zin_12 rfl 1 rfl ⟨by decide, rfl⟩ (zn_33 Z) (fun _ h9 => h9) dX14_wrong_53 (fun x_35 kx_35 bx_35 => ?_)
      refine zk_Vi (As := [.int x_35]) (rest := []) (bytes := cX14_done) (maxL := 2) (ret := (some .int)) Z h (zx_X14_done l D k Γ L F_27 H.size th x_35 hth) (cwV 1 hg zv_RX14_333 rfl rfl rfl zd_X14_done ⟨z_leR hRf (by decide), z_leR hRl (by decide)⟩) hth (by decide) rfl rfl hl.1 rfl (Nat.le_of_ble_eq_true rfl) dX14_wrong_56 ⟨Nat.zero_le _, Nat.zero_le _⟩ (fun r_36 F_37 H locs w_38 h hfF_37 => ?_)
      obtain ⟨q_39, -⟩ := w_38
      have br_36 := zB.all r_36
      subst hQ
      exact W.iret (v := r_36) hx hb hr (fun t ht hW => ⟨⟨r_36, F_37, rfl, ⟨⟨fun _ => (by have hrz9_ := hrz_.fr hI_34 (hfF_37 : zFr Γ [1401, 1402] F_27 F_37) hwk (by decide); refine ⟨hrz9_, ?_⟩; obtain ⟨m, g1, g2, g3, g4, g5⟩ := hrz9_; rw [q_39]; have h7 := Value.int.inj ((hfF_37.f hwk 1 ⟨by decide, by decide⟩ kx_35).symm.trans g4); rw [h7]; exact g1.2.2.2.1.symm), fun h9 => by exfalso; exact h9 (by refine ⟨?_, ?_, ?_, ?_, ?_⟩ <;> (have := (zB.all ru).1; have := (zB.all ru).2; have := bf__11.1; have := bf__11.2; have := (zB.all x).1; have := (zB.all x).2; have := (zB.all y).1; have := (zB.all y).2; have := (zB.all z).1; have := (zB.all z).2; have := br_36.1; have := br_36.2; have := bx_12.1; have := bx_12.2; have := bx_13.1; have := bx_13.2; have := bx_24.1; have := bx_24.2; have := bx_25.1; have := bx_25.2; have := bx_31.1; have := bx_31.2; have := bx_35.1; have := bx_35.2; have := bis_.1; have := bis_.2; have := bnf.1; have := bnf.2; have : (0 : Int32).toInt = 0 := (by decide); have : (1 : Int32).toInt = 1 := (by decide); have : (3 : Int32).toInt = 3 := (by decide); have : (2000 : Int32).toInt = 2000 := (by decide); omega))⟩, (zYk.tr st_33 (zFr.wholeY hI_34 h.2.1 (hfF_37 : zFr Γ [1401, 1402] F_27 F_37) (by decide))), trivial⟩, by rw [ht]; exact h.1, h.2.1, (((hfF_1.w (by decide)).trans hfF_27 (by decide)).trans hfF_37 (by decide))⟩, h.2.2.F ht⟩) h.2.2.2.2 dX14_wrong_59
    · have c_21 := z_eq c_21
      have br_17_40 : zB 0 0 r_17 := zB.eqL (a := 0) (b := 0) c_21 (zBc 0 0 (by decide))
      refine lv_aload_n hx hb dX14_wrong_28 rfl (lv_at hl 0 rfl) ?_
      refine lv_iconst (v := 2) hx hb dX14_wrong_29 (by decide) ?_
      refine zk_Vi (As := [.int 2]) (rest := []) (bytes := cX14_refused) (maxL := 2) (ret := (some .int)) Z h (zc_X14_refused l D k Γ L F_1 H.size th 2 hth) (cwV 1 hg zv_RX14_307 rfl rfl rfl zd_X14_refused ⟨z_leR hRf (by decide), z_leR hRl (by decide)⟩) hth (by decide) rfl rfl hl.1 rfl (Nat.le_of_ble_eq_true rfl) dX14_wrong_30 ⟨Nat.zero_le _, Nat.zero_le _⟩ (fun r_41 F_42 H locs w_43 h hfF_42 => ?_)
      obtain ⟨br_41, -⟩ := w_43
      subst hQ
      exact W.iret (v := r_41) hx hb hr (fun t ht hW => ⟨⟨r_41, F_42, rfl, ⟨⟨fun h9 => by exfalso; have := (zB.all ru).1; have := (zB.all ru).2; have := bf__11.1; have := bf__11.2; have := (zB.all x).1; have := (zB.all x).2; have := (zB.all y).1; have := (zB.all y).2; have := (zB.all z).1; have := (zB.all z).2; have := br_41.1; have := br_41.2; have := bx_12.1; have := bx_12.2; have := bx_13.1; have := bx_13.2; have := bis_.1; have := bis_.2; have := bnf.1; have := bnf.2; have : (0 : Int32).toInt = 0 := (by decide); have : (1 : Int32).toInt = 1 := (by decide); have : (3 : Int32).toInt = 3 := (by decide); have : (2000 : Int32).toInt = 2000 := (by decide); omega, fun _ => by have := (zB.all ru).1; have := (zB.all ru).2; have := bf__11.1; have := bf__11.2; have := (zB.all x).1; have := (zB.all x).2; have := (zB.all y).1; have := (zB.all y).2; have := (zB.all z).1; have := (zB.all z).2; have := br_41.1; have := br_41.2; have := bx_12.1; have := bx_12.2; have := bx_13.1; have := bx_13.2; have := bis_.1; have := bis_.2; have := bnf.1; have := bnf.2; have : (0 : Int32).toInt = 0 := (by decide); have : (1 : Int32).toInt = 1 := (by decide); have : (3 : Int32).toInt = 3 := (by decide); have : (2000 : Int32).toInt = 2000 := (by decide); omega⟩, (zFr.wholeY hI0 h.2.1 (((hfF_1.w (by decide)).trans hfF_42 (by decide)) : zFr Γ [1400, 1401, 1402] F F_42) (by decide)), trivial⟩, by rw [ht]; exact h.1, h.2.1, ((hfF_1.w (by decide)).trans hfF_42 (by decide))⟩, h.2.2.F ht⟩) h.2.2.2.2 dX14_wrong_33
  · have q_44 := q_6 c_9
    have c_9 := z_eq c_9
    have br_2_45 : zB 0 0 r_2 := zB.eqL (a := 0) (b := 0) c_9 (zBc 0 0 (by decide))
    refine lv_aload_n hx hb dX14_wrong_13 rfl (lv_at hl 0 rfl) ?_
    refine lv_iconst (v := 1) hx hb dX14_wrong_14 (by decide) ?_
    refine zk_Vi (As := [.int 1]) (rest := []) (bytes := cX14_refused) (maxL := 2) (ret := (some .int)) Z h (zc_X14_refused l D k Γ L F_1 H.size th 1 hth) (cwV 1 hg zv_RX14_307 rfl rfl rfl zd_X14_refused ⟨z_leR hRf (by decide), z_leR hRl (by decide)⟩) hth (by decide) rfl rfl hl.1 rfl (Nat.le_of_ble_eq_true rfl) dX14_wrong_15 ⟨Nat.zero_le _, Nat.zero_le _⟩ (fun r_46 F_47 H locs w_48 h hfF_47 => ?_)
    obtain ⟨br_46, -⟩ := w_48
    subst hQ
    exact W.iret (v := r_46) hx hb hr (fun t ht hW => ⟨⟨r_46, F_47, rfl, ⟨⟨fun h9 => by exfalso; have := (zB.all ru).1; have := (zB.all ru).2; have := (zB.all f_).1; have := (zB.all f_).2; have := (zB.all x).1; have := (zB.all x).2; have := (zB.all y).1; have := (zB.all y).2; have := (zB.all z).1; have := (zB.all z).2; have := br_46.1; have := br_46.2; have := bis_.1; have := bis_.2; have := bnf.1; have := bnf.2; have : (0 : Int32).toInt = 0 := (by decide); omega, fun _ => by have := (zB.all ru).1; have := (zB.all ru).2; have := (zB.all f_).1; have := (zB.all f_).2; have := (zB.all x).1; have := (zB.all x).2; have := (zB.all y).1; have := (zB.all y).2; have := (zB.all z).1; have := (zB.all z).2; have := br_46.1; have := br_46.2; have := bis_.1; have := bis_.2; have := bnf.1; have := bnf.2; have : (0 : Int32).toInt = 0 := (by decide); omega⟩, (zFr.wholeY hI0 h.2.1 (((hfF_1.w (by decide)).trans hfF_47 (by decide)) : zFr Γ [1400, 1401, 1402] F F_47) (by decide)), trivial⟩, by rw [ht]; exact h.1, h.2.1, ((hfF_1.w (by decide)).trans hfF_47 (by decide))⟩, h.2.2.F ht⟩) h.2.2.2.2 dX14_wrong_18

set_option maxHeartbeats 4000000 in
set_option maxRecDepth 100000 in
theorem zx_X14_lines (l : Launch) (D : va_G) (k : Nat → ClassId) (Γ : Nat → Option Nat) (L : List Nat) (F : Nat → va_E) (sz : Nat) (co : Int64) : Met l yX14_lines zwX14_lines ({ frames := 0, cells := 0, slots := 0, locals := 0 }) (va_Pc [.long co] (zP D k Γ L F sz)) (va_Qi (fun (r : Int32) (u : Nat → va_E) => F = u ∧ r.toInt = (zbn (zln9 co) 60 : Int) ∧ True) (zQ D k Γ L F []) (zA L sz)) 0 0 (zA L sz) := by
  refine Met.ofW (cc := cX14_lines) (maxL := 4) (ret := (some .int)) (by decide) rfl ?_
  intro p e s m args below meth c s₁ B hml hv
  obtain ⟨rfl, hsz, hP, hK, hLn, hE, hI⟩ := hv
  have hx := B.exec
  have hb := B.bytes
  have hr := B.returns
  have hg : ∀ w ∈ zG, w.before _ s = true := fun w h9 => atoms_spec (ws := zwX14_lines) B.pre w (List.mem_cons_of_mem _ h9)
  have hown : s.vm.findClass RX14 = some m.cls := findClass_of_methodNamed B.named
  have hlocks := B.notSynchronized
  subst hsz
  have Z : zC p m c cX14_lines 4 s _ zG RX14 D k L := ⟨⟨hx, hb, hml, hown, hg⟩, hK, hLn, hE⟩
  have h : zH D k Γ L s F s.heap [] := ⟨hP, hI, va_S.rf⟩
  have hl := lv_entry ([.long co]) (n := 4) (Nat.le_of_ble_eq_true rfl)
  rw [lg_entry_eq]
  generalize (lg_sl ([.long co]) ++ List.replicate (4 - (lg_sl ([.long co])).length) Slot.unset).toArray = ls at hl ⊢
  have hl : lv_has ls 4 [(0, .long co)] := hl
  clear hP hK hLn hE hI
  generalize hargs : ([.long co] : List Value).toArray = args at *
  refine z_start (fun R Q hRf hRl hQ => ?_)
  have hRf : R.frames = 0 := hRf
  have hRl : R.locals = 0 := hRl
  have h9 := h
  refine lv_iconst (v := 0) hx hb dX14_lines_0 (by decide) ?_
  refine lv_istore_n (lv' := [(2, .int 0), (0, .long co)]) hx hb dX14_lines_1 rfl hl (by decide) rfl (fun ls hl => ?_)
  refine lv_iconst (v := 0) hx hb dX14_lines_2 (by decide) ?_
  refine lv_istore_n (lv' := [(3, .int 0), (2, .int 0), (0, .long co)]) hx hb dX14_lines_3 rfl hl (by decide) rfl (fun ls hl => ?_)
  have j_j4_1 : ∀ (n : Nat) (ls : Array Slot) (y3_j4_1 : Int32) (y2_j4_1 : Int32), lv_has ls 4 [(3, .int y3_j4_1), (2, .int y2_j4_1), (0, .long co)] → zB 0 60 y3_j4_1 → zB 0 60 y2_j4_1 → (y2_j4_1.toInt ≤ y3_j4_1.toInt) → (y2_j4_1.toInt = ((zbn (zln9 co) y3_j4_1.toInt.toNat : Nat) : Int)) → (2147483647 - y3_j4_1.toInt).toNat = n → W p l e R s m args below meth c s.heap [] 0 0 Q (F0 m 4 ls []) := by
    intro n
    induction n using Nat.strongRecOn with
    | _ n ih_j4_1 =>
      intro ls y3_j4_1 y2_j4_1 hl by3_j4_1 by2_j4_1 r0_j4_1 r1_j4_1 hn_j4_1
      refine lv_iload_n hx hb dX14_lines_4 rfl (lv_at hl 0 rfl) ?_
      refine lv_bipush (v := 60) hx hb dX14_lines_5 (by decide) ?_
      refine lv_icmp_ge (tgt := 34) hx hb dX14_lines_7 (by decide) (fun c_2 => ?_) (fun c_2 => ?_)
      · have c_2 := z_le c_2
        have by3_j4_1_3 : zB 60 60 y3_j4_1 := zB.leR c_2 (zBc 60 60 (by decide)) by3_j4_1 (by decide)
        refine lv_iload_n hx hb dX14_lines_34 rfl (lv_at hl 1 rfl) ?_
        subst hQ
        exact W.iret (v := y2_j4_1) hx hb hr (fun t ht hW => ⟨⟨y2_j4_1, F, rfl, ⟨rfl, (by rw [← show y3_j4_1.toInt.toNat = 60 by have := by3_j4_1_3.1; have := by3_j4_1_3.2; have := by2_j4_1.1; have := by2_j4_1.2; have : (60 : Int32).toInt = 60 := (by decide); omega]; exact r1_j4_1), trivial⟩, by rw [ht]; exact h.1, h.2.1, zFr.rf⟩, h.2.2.F ht⟩) h.2.2.2.2 dX14_lines_35
      · have c_2 := z_nle c_2
        have by3_j4_1_4 : zB 0 59 y3_j4_1 := zB.ltL c_2 by3_j4_1 (zBc 60 60 (by decide)) (by decide)
        refine lv_iload_n hx hb dX14_lines_10 rfl (lv_at hl 1 rfl) ?_
        refine lv_lload_n hx hb dX14_lines_11 rfl (lv_at hl 2 rfl) ?_
        refine lv_iload_n hx hb dX14_lines_12 rfl (lv_at hl 0 rfl) ?_
        refine lv_lshr hx hb dX14_lines_13 rfl ?_
        refine lv_topl (fun g_5 eg_5 => ?_)
        refine lv_lconst (v := 1) hx hb dX14_lines_14 (by decide) ?_
        refine lv_land hx hb dX14_lines_15 ?_
        refine lv_topl (fun g_6 eg_6 => ?_)
        refine lv_lconst (v := 1) hx hb dX14_lines_16 (by decide) ?_
        refine W.lcmp hx hb dX14_lines_17 ?_
        refine zi_any (fun x_7 bx_7 ex_7 => ?_)
        refine lv_if_ne (tgt := 25) hx hb dX14_lines_18 (by decide) (fun c_8 => ?_) (fun c_8 => ?_)
        · have c_8 := z_ne c_8
          refine lv_iconst (v := 0) hx hb dX14_lines_25 (by decide) ?_
          refine lv_iadd hx hb dX14_lines_26 ?_
          refine zi_add (lo := 0) (hi := 60) by2_j4_1 (zBc 0 0 (by decide)) (by decide) (fun x_9 bx_9 tx_9 => ?_)
          refine lv_istore_n (lv' := [(2, .int x_9), (3, .int y3_j4_1), (0, .long co)]) hx hb dX14_lines_27 rfl hl (by decide) rfl (fun ls hl => ?_)
          obtain ⟨x_10, ex_10, bx_10, tx_10⟩ := z_inc (n := 1) (lo := 1) (hi := 60) by3_j4_1_4 (by decide)
          refine lv_iinc (v := x_10) (lv' := [(3, .int x_10), (2, .int x_9), (0, .long co)]) hx hb dX14_lines_28 hl (k := 1) rfl ex_10 (by decide) rfl (fun ls hl => ?_)
          refine lv_goto (tgt := 4) hx hb dX14_lines_31 (by decide) ?_
          exact ih_j4_1 _ (by have := bx_10.1; have := bx_10.2; have := bx_9.1; have := bx_9.2; have : (0 : Int32).toInt = 0 := (by decide); have : (60 : Int32).toInt = 60 := (by decide); have := by3_j4_1.1; have := by3_j4_1.2; have := by2_j4_1.1; have := by2_j4_1.2; omega) ls x_10 x_9 (lv_sub hl [0, 1, 2] rfl) (bx_10.w ⟨by decide, by decide⟩) bx_9 (by have := bx_10.1; have := bx_10.2; have := bx_9.1; have := bx_9.2; have : (0 : Int32).toInt = 0 := (by decide); have : (60 : Int32).toInt = 60 := (by decide); omega) (by rw [show x_10.toInt.toNat = y3_j4_1.toInt.toNat + 1 by have := bx_10.1; have := bx_10.2; have := bx_9.1; have := bx_9.2; have := by3_j4_1_4.1; have := by3_j4_1_4.2; have := bx_7.1; have := bx_7.2; have : (0 : Int32).toInt = 0 := (by decide); have : (60 : Int32).toInt = 60 := (by decide); omega]; show x_9.toInt = ((zbn (zln9 co) y3_j4_1.toInt.toNat + (if (zln9 co).testBit y3_j4_1.toInt.toNat then 1 else 0) : Nat) : Int); have h5 := r1_j4_1; have h6 := zbt2 co (l := y3_j4_1.toInt.toNat) (by have := bx_10.1; have := bx_10.2; have := bx_9.1; have := bx_9.2; have := by3_j4_1_4.1; have := by3_j4_1_4.2; have := bx_7.1; have := bx_7.2; have : (0 : Int32).toInt = 0 := (by decide); have : (60 : Int32).toInt = 60 := (by decide); omega); rw [zv_ofNat (by have := bx_10.1; have := bx_10.2; have := bx_9.1; have := bx_9.2; have := by3_j4_1_4.1; have := by3_j4_1_4.2; have := bx_7.1; have := bx_7.2; have : (0 : Int32).toInt = 0 := (by decide); have : (60 : Int32).toInt = 60 := (by decide); omega)] at h6; rcases z_lcmp ex_7 with ⟨h8, h7⟩ | ⟨h8, h7⟩; { rw [eg_6, eg_5] at h7; rw [h6] at h7; by_cases h4 : (zln9 co).testBit y3_j4_1.toInt.toNat = true; { rw [if_pos h4]; have := bx_10.1; have := bx_10.2; have := bx_9.1; have := bx_9.2; have := by3_j4_1_4.1; have := by3_j4_1_4.2; have := bx_7.1; have := bx_7.2; have : (0 : Int32).toInt = 0 := (by decide); have : (60 : Int32).toInt = 60 := (by decide); omega }; { rw [if_neg h4] at h7; exact absurd h7 (by decide) } }; { rw [eg_6, eg_5] at h7; rw [h6] at h7; by_cases h4 : (zln9 co).testBit y3_j4_1.toInt.toNat = true; { rw [if_pos h4] at h7; exact absurd rfl h7 }; { rw [if_neg h4]; have := bx_10.1; have := bx_10.2; have := bx_9.1; have := bx_9.2; have := by3_j4_1_4.1; have := by3_j4_1_4.2; have := bx_7.1; have := bx_7.2; have : (0 : Int32).toInt = 0 := (by decide); have : (60 : Int32).toInt = 60 := (by decide); omega } }) rfl
        · have c_8 := z_eq c_8
          have bx_7_11 : zB 0 0 x_7 := zB.eqL (a := 0) (b := 0) c_8 (zBc 0 0 (by decide))
          refine lv_iconst (v := 1) hx hb dX14_lines_21 (by decide) ?_
          refine lv_goto (tgt := 26) hx hb dX14_lines_22 (by decide) ?_
          refine lv_iadd hx hb dX14_lines_26 ?_
          refine zi_add (lo := 1) (hi := 61) by2_j4_1 (zBc 1 1 (by decide)) (by decide) (fun x_12 bx_12 tx_12 => ?_)
          refine lv_istore_n (lv' := [(2, .int x_12), (3, .int y3_j4_1), (0, .long co)]) hx hb dX14_lines_27 rfl hl (by decide) rfl (fun ls hl => ?_)
          obtain ⟨x_13, ex_13, bx_13, tx_13⟩ := z_inc (n := 1) (lo := 1) (hi := 60) by3_j4_1_4 (by decide)
          refine lv_iinc (v := x_13) (lv' := [(3, .int x_13), (2, .int x_12), (0, .long co)]) hx hb dX14_lines_28 hl (k := 1) rfl ex_13 (by decide) rfl (fun ls hl => ?_)
          refine lv_goto (tgt := 4) hx hb dX14_lines_31 (by decide) ?_
          exact ih_j4_1 _ (by have := bx_13.1; have := bx_13.2; have := bx_12.1; have := bx_12.2; have : (0 : Int32).toInt = 0 := (by decide); have : (1 : Int32).toInt = 1 := (by decide); have : (60 : Int32).toInt = 60 := (by decide); have := by3_j4_1.1; have := by3_j4_1.2; have := by2_j4_1.1; have := by2_j4_1.2; omega) ls x_13 x_12 (lv_sub hl [0, 1, 2] rfl) (bx_13.w ⟨by decide, by decide⟩) (zB.of ⟨by have := bx_13.1; have := bx_13.2; have := bx_12.1; have := bx_12.2; have : (0 : Int32).toInt = 0 := (by decide); have : (1 : Int32).toInt = 1 := (by decide); have : (60 : Int32).toInt = 60 := (by decide); omega, by have := bx_13.1; have := bx_13.2; have := bx_12.1; have := bx_12.2; have : (0 : Int32).toInt = 0 := (by decide); have : (1 : Int32).toInt = 1 := (by decide); have : (60 : Int32).toInt = 60 := (by decide); omega⟩) (by have := bx_13.1; have := bx_13.2; have := bx_12.1; have := bx_12.2; have : (0 : Int32).toInt = 0 := (by decide); have : (1 : Int32).toInt = 1 := (by decide); have : (60 : Int32).toInt = 60 := (by decide); omega) (by rw [show x_13.toInt.toNat = y3_j4_1.toInt.toNat + 1 by have := bx_13.1; have := bx_13.2; have := bx_12.1; have := bx_12.2; have := by3_j4_1_4.1; have := by3_j4_1_4.2; have := bx_7_11.1; have := bx_7_11.2; have : (0 : Int32).toInt = 0 := (by decide); have : (1 : Int32).toInt = 1 := (by decide); have : (60 : Int32).toInt = 60 := (by decide); omega]; show x_12.toInt = ((zbn (zln9 co) y3_j4_1.toInt.toNat + (if (zln9 co).testBit y3_j4_1.toInt.toNat then 1 else 0) : Nat) : Int); have h5 := r1_j4_1; have h6 := zbt2 co (l := y3_j4_1.toInt.toNat) (by have := bx_13.1; have := bx_13.2; have := bx_12.1; have := bx_12.2; have := by3_j4_1_4.1; have := by3_j4_1_4.2; have := bx_7_11.1; have := bx_7_11.2; have : (0 : Int32).toInt = 0 := (by decide); have : (1 : Int32).toInt = 1 := (by decide); have : (60 : Int32).toInt = 60 := (by decide); omega); rw [zv_ofNat (by have := bx_13.1; have := bx_13.2; have := bx_12.1; have := bx_12.2; have := by3_j4_1_4.1; have := by3_j4_1_4.2; have := bx_7_11.1; have := bx_7_11.2; have : (0 : Int32).toInt = 0 := (by decide); have : (1 : Int32).toInt = 1 := (by decide); have : (60 : Int32).toInt = 60 := (by decide); omega)] at h6; rcases z_lcmp ex_7 with ⟨h8, h7⟩ | ⟨h8, h7⟩; { rw [eg_6, eg_5] at h7; rw [h6] at h7; by_cases h4 : (zln9 co).testBit y3_j4_1.toInt.toNat = true; { rw [if_pos h4]; have := bx_13.1; have := bx_13.2; have := bx_12.1; have := bx_12.2; have := by3_j4_1_4.1; have := by3_j4_1_4.2; have := bx_7_11.1; have := bx_7_11.2; have : (0 : Int32).toInt = 0 := (by decide); have : (1 : Int32).toInt = 1 := (by decide); have : (60 : Int32).toInt = 60 := (by decide); omega }; { rw [if_neg h4] at h7; exact absurd h7 (by decide) } }; { rw [eg_6, eg_5] at h7; rw [h6] at h7; by_cases h4 : (zln9 co).testBit y3_j4_1.toInt.toNat = true; { rw [if_pos h4] at h7; exact absurd rfl h7 }; { rw [if_neg h4]; have := bx_13.1; have := bx_13.2; have := bx_12.1; have := bx_12.2; have := by3_j4_1_4.1; have := by3_j4_1_4.2; have := bx_7_11.1; have := bx_7_11.2; have : (0 : Int32).toInt = 0 := (by decide); have : (1 : Int32).toInt = 1 := (by decide); have : (60 : Int32).toInt = 60 := (by decide); omega } }) rfl
  exact j_j4_1 _ ls 0 0 (lv_sub hl [0, 1, 2] rfl) (zB.of ⟨by decide, by decide⟩) (zB.of ⟨by decide, by decide⟩) (by have : (0 : Int32).toInt = 0 := (by decide); omega) (by rw [show (0 : Int32).toInt.toNat = 0 by decide]; exact (show (0 : Int32).toInt = 0 by decide)) rfl

set_option maxHeartbeats 4000000 in
set_option maxRecDepth 100000 in
theorem zx_X14_ran (l : Launch) (D : va_G) (k : Nat → ClassId) (Γ : Nat → Option Nat) (L : List Nat) (F : Nat → va_E) (sz : Nat) (th : Nat) (wh : Int32) (lt : Nat) (hs : Int32) (μ : zVm) (hth : Γ th = some 14) (klt : zfld F th 22 = .ref lt) (hlt : Γ lt = some 12) (khs : zfld F th 24 = .int hs) (bhs : zB 0 1 hs) (hr0 : (hs.toInt ≠ 0 → zVt F lt μ)) : Met l yX14_ran zwX14_ran ({ frames := 1, cells := 0, slots := 0, locals := 23 }) (va_Pc [.ref th, .int wh] (zP D k Γ L F sz)) (va_Qi (fun (r : Int32) (u : Nat → va_E) => ((hs.toInt ≠ 0 ∧ wh.toInt = 0 → r = vvl μ) ∧ (hs.toInt ≠ 0 ∧ wh.toInt = 1 → r.toInt = vst μ) ∧ (hs.toInt ≠ 0 ∧ wh.toInt = 2 → r.toInt = (vsc μ : Int)) ∧ (hs.toInt ≠ 0 ∧ wh.toInt = 3 → r.toInt = (vtc μ : Int)) ∧ (hs.toInt ≠ 0 ∧ wh.toInt = 4 → r.toInt = (zbn (zln9 (vcv μ)) 60 : Int)) ∧ (hs.toInt ≠ 0 ∧ wh.toInt = 5 → r.toInt = (vmx μ : Int)) ∧ (hs.toInt = 0 ∨ wh.toInt < 0 ∨ 5 < wh.toInt → r.toInt = -1)) ∧ True) (zQ D k Γ L F [1400, 1401, 1402]) (zA L sz)) 0 0 (zA L sz) := by
  refine Met.ofW (cc := cX14_ran) (maxL := 2) (ret := (some .int)) (by decide) rfl ?_
  intro p e s m args below meth c s₁ B hml hv
  obtain ⟨rfl, hsz, hP, hK, hLn, hE, hI⟩ := hv
  have hx := B.exec
  have hb := B.bytes
  have hr := B.returns
  have hg : ∀ w ∈ zG, w.before _ s = true := fun w h9 => atoms_spec (ws := zwX14_ran) B.pre w (List.mem_cons_of_mem _ h9)
  have hown : s.vm.findClass RX14 = some m.cls := findClass_of_methodNamed B.named
  have hlocks := B.notSynchronized
  subst hsz
  have Z : zC p m c cX14_ran 2 s _ zG RX14 D k L := ⟨⟨hx, hb, hml, hown, hg⟩, hK, hLn, hE⟩
  have h : zH D k Γ L s F s.heap [] := ⟨hP, hI, va_S.rf⟩
  have hl := lv_entry ([.ref th, .int wh]) (n := 2) (Nat.le_of_ble_eq_true rfl)
  rw [lg_entry_eq]
  generalize (lg_sl ([.ref th, .int wh]) ++ List.replicate (2 - (lg_sl ([.ref th, .int wh])).length) Slot.unset).toArray = ls at hl ⊢
  have hl : lv_has ls 2 [(0, .ref th), (1, .int wh)] := hl
  clear hP hK hLn hE hI
  generalize hargs : ([.ref th, .int wh] : List Value).toArray = args at *
  refine z_start (fun R Q hRf hRl hQ => ?_)
  have hRf : R.frames = 1 := hRf
  have hRl : R.locals = 23 := hRl
  have h9 := h
  have hI0 := h.2.1
  refine lv_aload_n hx hb dX14_ran_0 rfl (lv_at hl 0 rfl) ?_
  refine lv_iconst (v := 0) hx hb dX14_ran_1 (by decide) ?_
  refine zt_put (t := 14) (C := RX14) (T := TX14) (N := 40) (v := .int 0) Z h hth zin_14 tyX14 tyX14_ok nmX14 rfl 0 rfl ⟨by decide, rfl⟩ (zm_RX14 (List.mem_of_getElem? (i := 105) rfl)) (fun _ h9 => h9) rfl (zV.i (zB.of ⟨by decide, by decide⟩)) rfl rfl dX14_ran_2 (fun H locs F_1 h hfF_1 kF_1 => ?_)
  refine lv_aload_n hx hb dX14_ran_5 rfl (lv_at hl 0 rfl) ?_
  refine zt_getk (t := 14) (C := RX14) (T := TX14) (N := 40) Z h hth zin_14 rfl 24 (hfF_1.f hth 24 ⟨by decide, by decide⟩ khs) ⟨by decide, rfl, by decide⟩ (zm_RX14 (List.mem_of_getElem? (i := 124) rfl)) (fun _ h9 => h9) dX14_ran_6 ?_
  refine lv_if_ne (tgt := 18) hx hb dX14_ran_9 (by decide) (fun c_2 => ?_) (fun c_2 => ?_)
  · have c_2 := z_ne c_2
    have bhs_3 : zB 1 1 hs := zB.neLo c_2 bhs (zBc 0 0 (by decide)) (by decide)
    have hlv_ := hr0 (by have := (zB.all wh).1; have := (zB.all wh).2; have := bhs_3.1; have := bhs_3.2; have : (0 : Int32).toInt = 0 := (by decide); omega)
    refine lv_iload_n hx hb dX14_ran_18 rfl (lv_at hl 1 rfl) ?_
    by_cases c_4 : wh = 0
    · refine lv_tableIn (off := 37) (tgt := 56) hx hb dX14_ran_19 (by rw [c_4]; decide) (by rw [c_4]; decide) (by rw [c_4]; rfl) (by decide) ?_
      have bwh_4 : zB 0 0 wh := by rw [c_4]; exact zBc _ _ (by decide)
      refine lv_aload_n hx hb dX14_ran_56 rfl (lv_at hl 0 rfl) ?_
      refine lv_aload_n hx hb dX14_ran_57 rfl (lv_at hl 0 rfl) ?_
      refine zt_getk (t := 14) (C := RX14) (T := TX14) (N := 40) Z h hth zin_14 rfl 22 (hfF_1.f hth 22 ⟨by decide, by decide⟩ klt) ⟨by decide, rfl, by decide⟩ (zm_RX14 (List.mem_of_getElem? (i := 183) rfl)) (fun _ h9 => h9) dX14_ran_58 ?_
      refine zt_getiN (t := 12) (C := RX12) (T := TX12) (N := 10) Z h hlt zin_12 rfl 1 rfl ⟨by decide, rfl⟩ (zn_33 Z) (fun _ h9 => h9) dX14_ran_61 (fun x_6 kx_6 bx_6 => ?_)
      have hv_7 := (hlv_.fr hI0 (hfF_1 : zFr Γ [1400] F F_1) hlt (by decide))
      refine zk_Vi (As := [.int x_6]) (rest := []) (bytes := cX14_done) (maxL := 2) (ret := (some .int)) Z h (zx_X14_done l D k Γ L F_1 H.size th x_6 hth) (cwV 1 hg zv_RX14_333 rfl rfl rfl zd_X14_done ⟨z_leR hRf (by decide), z_leR hRl (by decide)⟩) hth (by decide) rfl rfl hl.1 rfl (Nat.le_of_ble_eq_true rfl) dX14_ran_64 ⟨Nat.zero_le _, Nat.zero_le _⟩ (fun r_8 F_9 H locs w_10 h hfF_9 => ?_)
      obtain ⟨q_11, -⟩ := w_10
      have br_8 := zB.all r_8
      subst hQ
      exact W.iret (v := r_8) hx hb hr (fun t ht hW => ⟨⟨r_8, F_9, rfl, ⟨⟨(fun _ => by rw [q_11]; exact z_vi kx_6 hv_7.2.2), (fun h9 => by exfalso; have := bwh_4.1; have := bwh_4.2; have := br_8.1; have := br_8.2; have := bhs_3.1; have := bhs_3.2; have := bx_6.1; have := bx_6.2; have : (0 : Int32).toInt = 0 := (by decide); omega), (fun h9 => by exfalso; have := bwh_4.1; have := bwh_4.2; have := br_8.1; have := br_8.2; have := bhs_3.1; have := bhs_3.2; have := bx_6.1; have := bx_6.2; have : (0 : Int32).toInt = 0 := (by decide); omega), (fun h9 => by exfalso; have := bwh_4.1; have := bwh_4.2; have := br_8.1; have := br_8.2; have := bhs_3.1; have := bhs_3.2; have := bx_6.1; have := bx_6.2; have : (0 : Int32).toInt = 0 := (by decide); omega), (fun h9 => by exfalso; have := bwh_4.1; have := bwh_4.2; have := br_8.1; have := br_8.2; have := bhs_3.1; have := bhs_3.2; have := bx_6.1; have := bx_6.2; have : (0 : Int32).toInt = 0 := (by decide); omega), (fun h9 => by exfalso; have := bwh_4.1; have := bwh_4.2; have := br_8.1; have := br_8.2; have := bhs_3.1; have := bhs_3.2; have := bx_6.1; have := bx_6.2; have : (0 : Int32).toInt = 0 := (by decide); omega), by intro h9; exfalso; have := bwh_4.1; have := bwh_4.2; have := br_8.1; have := br_8.2; have := bhs_3.1; have := bhs_3.2; have := bx_6.1; have := bx_6.2; have : (0 : Int32).toInt = 0 := (by decide); omega⟩, trivial⟩, by rw [ht]; exact h.1, h.2.1, ((hfF_1.w (by decide)).trans hfF_9 (by decide))⟩, h.2.2.F ht⟩) h.2.2.2.2 dX14_ran_67
    · by_cases c_12 : wh = 1
      · refine lv_tableIn (off := 49) (tgt := 68) hx hb dX14_ran_19 (by rw [c_12]; decide) (by rw [c_12]; decide) (by rw [c_12]; rfl) (by decide) ?_
        have bwh_12 : zB 1 1 wh := by rw [c_12]; exact zBc _ _ (by decide)
        refine lv_aload_n hx hb dX14_ran_68 rfl (lv_at hl 0 rfl) ?_
        refine lv_aload_n hx hb dX14_ran_69 rfl (lv_at hl 0 rfl) ?_
        refine zt_getk (t := 14) (C := RX14) (T := TX14) (N := 40) Z h hth zin_14 rfl 22 (hfF_1.f hth 22 ⟨by decide, by decide⟩ klt) ⟨by decide, rfl, by decide⟩ (zm_RX14 (List.mem_of_getElem? (i := 183) rfl)) (fun _ h9 => h9) dX14_ran_70 ?_
        refine zt_getiN (t := 12) (C := RX12) (T := TX12) (N := 10) Z h hlt zin_12 rfl 2 rfl ⟨by decide, rfl⟩ (zn_34 Z) (fun _ h9 => h9) dX14_ran_73 (fun x_14 kx_14 bx_14 => ?_)
        have hv_15 := (hlv_.fr hI0 (hfF_1 : zFr Γ [1400] F F_1) hlt (by decide))
        refine zk_Vi (As := [.int x_14]) (rest := []) (bytes := cX14_done) (maxL := 2) (ret := (some .int)) Z h (zx_X14_done l D k Γ L F_1 H.size th x_14 hth) (cwV 1 hg zv_RX14_333 rfl rfl rfl zd_X14_done ⟨z_leR hRf (by decide), z_leR hRl (by decide)⟩) hth (by decide) rfl rfl hl.1 rfl (Nat.le_of_ble_eq_true rfl) dX14_ran_76 ⟨Nat.zero_le _, Nat.zero_le _⟩ (fun r_16 F_17 H locs w_18 h hfF_17 => ?_)
        obtain ⟨q_19, -⟩ := w_18
        have br_16 := zB.all r_16
        subst hQ
        exact W.iret (v := r_16) hx hb hr (fun t ht hW => ⟨⟨r_16, F_17, rfl, ⟨⟨(fun h9 => by exfalso; have := bwh_12.1; have := bwh_12.2; have := br_16.1; have := br_16.2; have := bhs_3.1; have := bhs_3.2; have := bx_14.1; have := bx_14.2; have : (0 : Int32).toInt = 0 := (by decide); omega), (fun _ => by rw [q_19]; exact zFi.is hv_15.1.1 kx_14), (fun h9 => by exfalso; have := bwh_12.1; have := bwh_12.2; have := br_16.1; have := br_16.2; have := bhs_3.1; have := bhs_3.2; have := bx_14.1; have := bx_14.2; have : (0 : Int32).toInt = 0 := (by decide); omega), (fun h9 => by exfalso; have := bwh_12.1; have := bwh_12.2; have := br_16.1; have := br_16.2; have := bhs_3.1; have := bhs_3.2; have := bx_14.1; have := bx_14.2; have : (0 : Int32).toInt = 0 := (by decide); omega), (fun h9 => by exfalso; have := bwh_12.1; have := bwh_12.2; have := br_16.1; have := br_16.2; have := bhs_3.1; have := bhs_3.2; have := bx_14.1; have := bx_14.2; have : (0 : Int32).toInt = 0 := (by decide); omega), (fun h9 => by exfalso; have := bwh_12.1; have := bwh_12.2; have := br_16.1; have := br_16.2; have := bhs_3.1; have := bhs_3.2; have := bx_14.1; have := bx_14.2; have : (0 : Int32).toInt = 0 := (by decide); omega), by intro h9; exfalso; have := bwh_12.1; have := bwh_12.2; have := br_16.1; have := br_16.2; have := bhs_3.1; have := bhs_3.2; have := bx_14.1; have := bx_14.2; have : (0 : Int32).toInt = 0 := (by decide); omega⟩, trivial⟩, by rw [ht]; exact h.1, h.2.1, ((hfF_1.w (by decide)).trans hfF_17 (by decide))⟩, h.2.2.F ht⟩) h.2.2.2.2 dX14_ran_79
      · by_cases c_20 : wh = 2
        · refine lv_tableIn (off := 61) (tgt := 80) hx hb dX14_ran_19 (by rw [c_20]; decide) (by rw [c_20]; decide) (by rw [c_20]; rfl) (by decide) ?_
          have bwh_20 : zB 2 2 wh := by rw [c_20]; exact zBc _ _ (by decide)
          refine lv_aload_n hx hb dX14_ran_80 rfl (lv_at hl 0 rfl) ?_
          refine lv_aload_n hx hb dX14_ran_81 rfl (lv_at hl 0 rfl) ?_
          refine zt_getk (t := 14) (C := RX14) (T := TX14) (N := 40) Z h hth zin_14 rfl 22 (hfF_1.f hth 22 ⟨by decide, by decide⟩ klt) ⟨by decide, rfl, by decide⟩ (zm_RX14 (List.mem_of_getElem? (i := 183) rfl)) (fun _ h9 => h9) dX14_ran_82 ?_
          refine zt_getiN (t := 12) (C := RX12) (T := TX12) (N := 10) Z h hlt zin_12 rfl 3 rfl ⟨by decide, rfl⟩ (zn_35 Z) (fun _ h9 => h9) dX14_ran_85 (fun x_22 kx_22 bx_22 => ?_)
          have hv_23 := (hlv_.fr hI0 (hfF_1 : zFr Γ [1400] F F_1) hlt (by decide))
          refine zk_Vi (As := [.int x_22]) (rest := []) (bytes := cX14_done) (maxL := 2) (ret := (some .int)) Z h (zx_X14_done l D k Γ L F_1 H.size th x_22 hth) (cwV 1 hg zv_RX14_333 rfl rfl rfl zd_X14_done ⟨z_leR hRf (by decide), z_leR hRl (by decide)⟩) hth (by decide) rfl rfl hl.1 rfl (Nat.le_of_ble_eq_true rfl) dX14_ran_88 ⟨Nat.zero_le _, Nat.zero_le _⟩ (fun r_24 F_25 H locs w_26 h hfF_25 => ?_)
          obtain ⟨q_27, -⟩ := w_26
          have br_24 := zB.all r_24
          subst hQ
          exact W.iret (v := r_24) hx hb hr (fun t ht hW => ⟨⟨r_24, F_25, rfl, ⟨⟨(fun h9 => by exfalso; have := bwh_20.1; have := bwh_20.2; have := br_24.1; have := br_24.2; have := bhs_3.1; have := bhs_3.2; have := bx_22.1; have := bx_22.2; have : (0 : Int32).toInt = 0 := (by decide); omega), (fun h9 => by exfalso; have := bwh_20.1; have := bwh_20.2; have := br_24.1; have := br_24.2; have := bhs_3.1; have := bhs_3.2; have := bx_22.1; have := bx_22.2; have : (0 : Int32).toInt = 0 := (by decide); omega), (fun _ => by rw [q_27]; exact zFi.is hv_23.1.2.2.1 kx_22), (fun h9 => by exfalso; have := bwh_20.1; have := bwh_20.2; have := br_24.1; have := br_24.2; have := bhs_3.1; have := bhs_3.2; have := bx_22.1; have := bx_22.2; have : (0 : Int32).toInt = 0 := (by decide); omega), (fun h9 => by exfalso; have := bwh_20.1; have := bwh_20.2; have := br_24.1; have := br_24.2; have := bhs_3.1; have := bhs_3.2; have := bx_22.1; have := bx_22.2; have : (0 : Int32).toInt = 0 := (by decide); omega), (fun h9 => by exfalso; have := bwh_20.1; have := bwh_20.2; have := br_24.1; have := br_24.2; have := bhs_3.1; have := bhs_3.2; have := bx_22.1; have := bx_22.2; have : (0 : Int32).toInt = 0 := (by decide); omega), by intro h9; exfalso; have := bwh_20.1; have := bwh_20.2; have := br_24.1; have := br_24.2; have := bhs_3.1; have := bhs_3.2; have := bx_22.1; have := bx_22.2; have : (0 : Int32).toInt = 0 := (by decide); omega⟩, trivial⟩, by rw [ht]; exact h.1, h.2.1, ((hfF_1.w (by decide)).trans hfF_25 (by decide))⟩, h.2.2.F ht⟩) h.2.2.2.2 dX14_ran_91
        · by_cases c_28 : wh = 3
          · refine lv_tableIn (off := 73) (tgt := 92) hx hb dX14_ran_19 (by rw [c_28]; decide) (by rw [c_28]; decide) (by rw [c_28]; rfl) (by decide) ?_
            have bwh_28 : zB 3 3 wh := by rw [c_28]; exact zBc _ _ (by decide)
            refine lv_aload_n hx hb dX14_ran_92 rfl (lv_at hl 0 rfl) ?_
            refine lv_aload_n hx hb dX14_ran_93 rfl (lv_at hl 0 rfl) ?_
            refine zt_getk (t := 14) (C := RX14) (T := TX14) (N := 40) Z h hth zin_14 rfl 22 (hfF_1.f hth 22 ⟨by decide, by decide⟩ klt) ⟨by decide, rfl, by decide⟩ (zm_RX14 (List.mem_of_getElem? (i := 183) rfl)) (fun _ h9 => h9) dX14_ran_94 ?_
            refine zt_getiN (t := 12) (C := RX12) (T := TX12) (N := 10) Z h hlt zin_12 rfl 4 rfl ⟨by decide, rfl⟩ (zn_36 Z) (fun _ h9 => h9) dX14_ran_97 (fun x_30 kx_30 bx_30 => ?_)
            have hv_31 := (hlv_.fr hI0 (hfF_1 : zFr Γ [1400] F F_1) hlt (by decide))
            refine zk_Vi (As := [.int x_30]) (rest := []) (bytes := cX14_done) (maxL := 2) (ret := (some .int)) Z h (zx_X14_done l D k Γ L F_1 H.size th x_30 hth) (cwV 1 hg zv_RX14_333 rfl rfl rfl zd_X14_done ⟨z_leR hRf (by decide), z_leR hRl (by decide)⟩) hth (by decide) rfl rfl hl.1 rfl (Nat.le_of_ble_eq_true rfl) dX14_ran_100 ⟨Nat.zero_le _, Nat.zero_le _⟩ (fun r_32 F_33 H locs w_34 h hfF_33 => ?_)
            obtain ⟨q_35, -⟩ := w_34
            have br_32 := zB.all r_32
            subst hQ
            exact W.iret (v := r_32) hx hb hr (fun t ht hW => ⟨⟨r_32, F_33, rfl, ⟨⟨(fun h9 => by exfalso; have := bwh_28.1; have := bwh_28.2; have := br_32.1; have := br_32.2; have := bhs_3.1; have := bhs_3.2; have := bx_30.1; have := bx_30.2; have : (0 : Int32).toInt = 0 := (by decide); omega), (fun h9 => by exfalso; have := bwh_28.1; have := bwh_28.2; have := br_32.1; have := br_32.2; have := bhs_3.1; have := bhs_3.2; have := bx_30.1; have := bx_30.2; have : (0 : Int32).toInt = 0 := (by decide); omega), (fun h9 => by exfalso; have := bwh_28.1; have := bwh_28.2; have := br_32.1; have := br_32.2; have := bhs_3.1; have := bhs_3.2; have := bx_30.1; have := bx_30.2; have : (0 : Int32).toInt = 0 := (by decide); omega), (fun _ => by rw [q_35]; exact zFi.is hv_31.1.2.2.2.2.1 kx_30), (fun h9 => by exfalso; have := bwh_28.1; have := bwh_28.2; have := br_32.1; have := br_32.2; have := bhs_3.1; have := bhs_3.2; have := bx_30.1; have := bx_30.2; have : (0 : Int32).toInt = 0 := (by decide); omega), (fun h9 => by exfalso; have := bwh_28.1; have := bwh_28.2; have := br_32.1; have := br_32.2; have := bhs_3.1; have := bhs_3.2; have := bx_30.1; have := bx_30.2; have : (0 : Int32).toInt = 0 := (by decide); omega), by intro h9; exfalso; have := bwh_28.1; have := bwh_28.2; have := br_32.1; have := br_32.2; have := bhs_3.1; have := bhs_3.2; have := bx_30.1; have := bx_30.2; have : (0 : Int32).toInt = 0 := (by decide); omega⟩, trivial⟩, by rw [ht]; exact h.1, h.2.1, ((hfF_1.w (by decide)).trans hfF_33 (by decide))⟩, h.2.2.F ht⟩) h.2.2.2.2 dX14_ran_103
          · by_cases c_36 : wh = 4
            · refine lv_tableIn (off := 85) (tgt := 104) hx hb dX14_ran_19 (by rw [c_36]; decide) (by rw [c_36]; decide) (by rw [c_36]; rfl) (by decide) ?_
              have bwh_36 : zB 4 4 wh := by rw [c_36]; exact zBc _ _ (by decide)
              refine lv_aload_n hx hb dX14_ran_104 rfl (lv_at hl 0 rfl) ?_
              refine lv_aload_n hx hb dX14_ran_105 rfl (lv_at hl 0 rfl) ?_
              refine zt_getk (t := 14) (C := RX14) (T := TX14) (N := 40) Z h hth zin_14 rfl 22 (hfF_1.f hth 22 ⟨by decide, by decide⟩ klt) ⟨by decide, rfl, by decide⟩ (zm_RX14 (List.mem_of_getElem? (i := 183) rfl)) (fun _ h9 => h9) dX14_ran_106 ?_
              refine zt_getlN (t := 12) (C := RX12) (T := TX12) (N := 10) Z h hlt zin_12 rfl 6 rfl ⟨by decide, rfl⟩ (zn_38 Z) (fun _ h9 => h9) dX14_ran_109 (fun g_38 kg_38 => ?_)
              have hv_39 := (hlv_.fr hI0 (hfF_1 : zFr Γ [1400] F F_1) hlt (by decide))
              refine zk_Si (As := [.long g_38]) (rest := [.ref th]) (bytes := cX14_lines) (maxL := 4) (ret := (some .int)) Z h (zx_X14_lines l D k Γ L F_1 H.size g_38) (va_cwS 1 hg zv_RX14_414 rfl rfl rfl zd_X14_lines ⟨z_leR hRf (by decide), z_leR hRl (by decide)⟩) rfl hl.1 rfl (Nat.le_of_ble_eq_true rfl) dX14_ran_112 ⟨Nat.zero_le _, Nat.zero_le _⟩ (fun r_40 F_41 H locs w_42 h hfF_41 => ?_)
              obtain ⟨rfl, q_43, -⟩ := w_42
              have br_40 := zB.all r_40
              refine zk_Vi (As := [.int r_40]) (rest := []) (bytes := cX14_done) (maxL := 2) (ret := (some .int)) Z h (zx_X14_done l D k Γ L F_1 H.size th r_40 hth) (cwV 1 hg zv_RX14_333 rfl rfl rfl zd_X14_done ⟨z_leR hRf (by decide), z_leR hRl (by decide)⟩) hth (by decide) rfl rfl hl.1 rfl (Nat.le_of_ble_eq_true rfl) dX14_ran_115 ⟨Nat.zero_le _, Nat.zero_le _⟩ (fun r_44 F_45 H locs w_46 h hfF_45 => ?_)
              obtain ⟨q_47, -⟩ := w_46
              have br_44 := zB.all r_44
              subst hQ
              exact W.iret (v := r_44) hx hb hr (fun t ht hW => ⟨⟨r_44, F_45, rfl, ⟨⟨(fun h9 => by exfalso; have := bwh_36.1; have := bwh_36.2; have := br_44.1; have := br_44.2; have := bhs_3.1; have := bhs_3.2; have : (0 : Int32).toInt = 0 := (by decide); omega), (fun h9 => by exfalso; have := bwh_36.1; have := bwh_36.2; have := br_44.1; have := br_44.2; have := bhs_3.1; have := bhs_3.2; have : (0 : Int32).toInt = 0 := (by decide); omega), (fun h9 => by exfalso; have := bwh_36.1; have := bwh_36.2; have := br_44.1; have := br_44.2; have := bhs_3.1; have := bhs_3.2; have : (0 : Int32).toInt = 0 := (by decide); omega), (fun h9 => by exfalso; have := bwh_36.1; have := bwh_36.2; have := br_44.1; have := br_44.2; have := bhs_3.1; have := bhs_3.2; have : (0 : Int32).toInt = 0 := (by decide); omega), (fun _ => by rw [q_47, q_43, show g_38 = vcv μ from z_vl kg_38 hv_39.1.2.1]), (fun h9 => by exfalso; have := bwh_36.1; have := bwh_36.2; have := br_44.1; have := br_44.2; have := bhs_3.1; have := bhs_3.2; have : (0 : Int32).toInt = 0 := (by decide); omega), by intro h9; exfalso; have := bwh_36.1; have := bwh_36.2; have := br_44.1; have := br_44.2; have := bhs_3.1; have := bhs_3.2; have : (0 : Int32).toInt = 0 := (by decide); omega⟩, trivial⟩, by rw [ht]; exact h.1, h.2.1, ((hfF_1.w (by decide)).trans hfF_45 (by decide))⟩, h.2.2.F ht⟩) h.2.2.2.2 dX14_ran_118
            · by_cases c_48 : wh = 5
              · refine lv_tableIn (off := 100) (tgt := 119) hx hb dX14_ran_19 (by rw [c_48]; decide) (by rw [c_48]; decide) (by rw [c_48]; rfl) (by decide) ?_
                have bwh_48 : zB 5 5 wh := by rw [c_48]; exact zBc _ _ (by decide)
                refine lv_aload_n hx hb dX14_ran_119 rfl (lv_at hl 0 rfl) ?_
                refine lv_aload_n hx hb dX14_ran_120 rfl (lv_at hl 0 rfl) ?_
                refine zt_getk (t := 14) (C := RX14) (T := TX14) (N := 40) Z h hth zin_14 rfl 22 (hfF_1.f hth 22 ⟨by decide, by decide⟩ klt) ⟨by decide, rfl, by decide⟩ (zm_RX14 (List.mem_of_getElem? (i := 183) rfl)) (fun _ h9 => h9) dX14_ran_121 ?_
                refine zt_getiN (t := 12) (C := RX12) (T := TX12) (N := 10) Z h hlt zin_12 rfl 5 rfl ⟨by decide, rfl⟩ (zn_37 Z) (fun _ h9 => h9) dX14_ran_124 (fun x_50 kx_50 bx_50 => ?_)
                have hv_51 := (hlv_.fr hI0 (hfF_1 : zFr Γ [1400] F F_1) hlt (by decide))
                refine zk_Vi (As := [.int x_50]) (rest := []) (bytes := cX14_done) (maxL := 2) (ret := (some .int)) Z h (zx_X14_done l D k Γ L F_1 H.size th x_50 hth) (cwV 1 hg zv_RX14_333 rfl rfl rfl zd_X14_done ⟨z_leR hRf (by decide), z_leR hRl (by decide)⟩) hth (by decide) rfl rfl hl.1 rfl (Nat.le_of_ble_eq_true rfl) dX14_ran_127 ⟨Nat.zero_le _, Nat.zero_le _⟩ (fun r_52 F_53 H locs w_54 h hfF_53 => ?_)
                obtain ⟨q_55, -⟩ := w_54
                have br_52 := zB.all r_52
                subst hQ
                exact W.iret (v := r_52) hx hb hr (fun t ht hW => ⟨⟨r_52, F_53, rfl, ⟨⟨(fun h9 => by exfalso; have := bwh_48.1; have := bwh_48.2; have := br_52.1; have := br_52.2; have := bhs_3.1; have := bhs_3.2; have := bx_50.1; have := bx_50.2; have : (0 : Int32).toInt = 0 := (by decide); omega), (fun h9 => by exfalso; have := bwh_48.1; have := bwh_48.2; have := br_52.1; have := br_52.2; have := bhs_3.1; have := bhs_3.2; have := bx_50.1; have := bx_50.2; have : (0 : Int32).toInt = 0 := (by decide); omega), (fun h9 => by exfalso; have := bwh_48.1; have := bwh_48.2; have := br_52.1; have := br_52.2; have := bhs_3.1; have := bhs_3.2; have := bx_50.1; have := bx_50.2; have : (0 : Int32).toInt = 0 := (by decide); omega), (fun h9 => by exfalso; have := bwh_48.1; have := bwh_48.2; have := br_52.1; have := br_52.2; have := bhs_3.1; have := bhs_3.2; have := bx_50.1; have := bx_50.2; have : (0 : Int32).toInt = 0 := (by decide); omega), (fun h9 => by exfalso; have := bwh_48.1; have := bwh_48.2; have := br_52.1; have := br_52.2; have := bhs_3.1; have := bhs_3.2; have := bx_50.1; have := bx_50.2; have : (0 : Int32).toInt = 0 := (by decide); omega), (fun _ => by rw [q_55]; exact zFi.is hv_51.1.2.2.2.2.2.2.1 kx_50), by intro h9; exfalso; have := bwh_48.1; have := bwh_48.2; have := br_52.1; have := br_52.2; have := bhs_3.1; have := bhs_3.2; have := bx_50.1; have := bx_50.2; have : (0 : Int32).toInt = 0 := (by decide); omega⟩, trivial⟩, by rw [ht]; exact h.1, h.2.1, ((hfF_1.w (by decide)).trans hfF_53 (by decide))⟩, h.2.2.F ht⟩) h.2.2.2.2 dX14_ran_130
              · have nc_4 : wh.toInt ≠ 0 := z_nev c_4 (by decide)
                have nc_12 : wh.toInt ≠ 1 := z_nev c_12 (by decide)
                have nc_20 : wh.toInt ≠ 2 := z_nev c_20 (by decide)
                have nc_28 : wh.toInt ≠ 3 := z_nev c_28 (by decide)
                have nc_36 : wh.toInt ≠ 4 := z_nev c_36 (by decide)
                have nc_48 : wh.toInt ≠ 5 := z_nev c_48 (by decide)
                refine lv_tableOut (tgt := 131) hx hb dX14_ran_19 (by have := (zB.all wh).1; have := (zB.all wh).2; omega) (by decide) ?_
                refine lv_aload_n hx hb dX14_ran_131 rfl (lv_at hl 0 rfl) ?_
                refine lv_iconst (v := 2) hx hb dX14_ran_132 (by decide) ?_
                refine zk_Vi (As := [.int 2]) (rest := []) (bytes := cX14_refused) (maxL := 2) (ret := (some .int)) Z h (zc_X14_refused l D k Γ L F_1 H.size th 2 hth) (cwV 1 hg zv_RX14_307 rfl rfl rfl zd_X14_refused ⟨z_leR hRf (by decide), z_leR hRl (by decide)⟩) hth (by decide) rfl rfl hl.1 rfl (Nat.le_of_ble_eq_true rfl) dX14_ran_133 ⟨Nat.zero_le _, Nat.zero_le _⟩ (fun r_56 F_57 H locs w_58 h hfF_57 => ?_)
                obtain ⟨br_56, -⟩ := w_58
                subst hQ
                exact W.iret (v := r_56) hx hb hr (fun t ht hW => ⟨⟨r_56, F_57, rfl, ⟨⟨(fun h9 => by exfalso; have := (zB.all wh).1; have := (zB.all wh).2; have := br_56.1; have := br_56.2; have := bhs_3.1; have := bhs_3.2; have : (0 : Int32).toInt = 0 := (by decide); omega), (fun h9 => by exfalso; have := (zB.all wh).1; have := (zB.all wh).2; have := br_56.1; have := br_56.2; have := bhs_3.1; have := bhs_3.2; have : (0 : Int32).toInt = 0 := (by decide); omega), (fun h9 => by exfalso; have := (zB.all wh).1; have := (zB.all wh).2; have := br_56.1; have := br_56.2; have := bhs_3.1; have := bhs_3.2; have : (0 : Int32).toInt = 0 := (by decide); omega), (fun h9 => by exfalso; have := (zB.all wh).1; have := (zB.all wh).2; have := br_56.1; have := br_56.2; have := bhs_3.1; have := bhs_3.2; have : (0 : Int32).toInt = 0 := (by decide); omega), (fun h9 => by exfalso; have := (zB.all wh).1; have := (zB.all wh).2; have := br_56.1; have := br_56.2; have := bhs_3.1; have := bhs_3.2; have : (0 : Int32).toInt = 0 := (by decide); omega), (fun h9 => by exfalso; have := (zB.all wh).1; have := (zB.all wh).2; have := br_56.1; have := br_56.2; have := bhs_3.1; have := bhs_3.2; have : (0 : Int32).toInt = 0 := (by decide); omega), by intro h9; have := (zB.all wh).1; have := (zB.all wh).2; have := br_56.1; have := br_56.2; have := bhs_3.1; have := bhs_3.2; have : (0 : Int32).toInt = 0 := (by decide); omega⟩, trivial⟩, by rw [ht]; exact h.1, h.2.1, ((hfF_1.w (by decide)).trans hfF_57 (by decide))⟩, h.2.2.F ht⟩) h.2.2.2.2 dX14_ran_136
  · have c_2 := z_eq c_2
    have bhs_59 : zB 0 0 hs := zB.eqL (a := 0) (b := 0) c_2 (zBc 0 0 (by decide))
    refine lv_aload_n hx hb dX14_ran_12 rfl (lv_at hl 0 rfl) ?_
    refine lv_iconst (v := 5) hx hb dX14_ran_13 (by decide) ?_
    refine zk_Vi (As := [.int 5]) (rest := []) (bytes := cX14_refused) (maxL := 2) (ret := (some .int)) Z h (zc_X14_refused l D k Γ L F_1 H.size th 5 hth) (cwV 1 hg zv_RX14_307 rfl rfl rfl zd_X14_refused ⟨z_leR hRf (by decide), z_leR hRl (by decide)⟩) hth (by decide) rfl rfl hl.1 rfl (Nat.le_of_ble_eq_true rfl) dX14_ran_14 ⟨Nat.zero_le _, Nat.zero_le _⟩ (fun r_60 F_61 H locs w_62 h hfF_61 => ?_)
    obtain ⟨br_60, -⟩ := w_62
    subst hQ
    exact W.iret (v := r_60) hx hb hr (fun t ht hW => ⟨⟨r_60, F_61, rfl, ⟨⟨(fun h9 => by exfalso; have := (zB.all wh).1; have := (zB.all wh).2; have := br_60.1; have := br_60.2; have := bhs_59.1; have := bhs_59.2; have : (0 : Int32).toInt = 0 := (by decide); omega), (fun h9 => by exfalso; have := (zB.all wh).1; have := (zB.all wh).2; have := br_60.1; have := br_60.2; have := bhs_59.1; have := bhs_59.2; have : (0 : Int32).toInt = 0 := (by decide); omega), (fun h9 => by exfalso; have := (zB.all wh).1; have := (zB.all wh).2; have := br_60.1; have := br_60.2; have := bhs_59.1; have := bhs_59.2; have : (0 : Int32).toInt = 0 := (by decide); omega), (fun h9 => by exfalso; have := (zB.all wh).1; have := (zB.all wh).2; have := br_60.1; have := br_60.2; have := bhs_59.1; have := bhs_59.2; have : (0 : Int32).toInt = 0 := (by decide); omega), (fun h9 => by exfalso; have := (zB.all wh).1; have := (zB.all wh).2; have := br_60.1; have := br_60.2; have := bhs_59.1; have := bhs_59.2; have : (0 : Int32).toInt = 0 := (by decide); omega), (fun h9 => by exfalso; have := (zB.all wh).1; have := (zB.all wh).2; have := br_60.1; have := br_60.2; have := bhs_59.1; have := bhs_59.2; have : (0 : Int32).toInt = 0 := (by decide); omega), by intro h9; have := (zB.all wh).1; have := (zB.all wh).2; have := br_60.1; have := br_60.2; have := bhs_59.1; have := bhs_59.2; have : (0 : Int32).toInt = 0 := (by decide); omega⟩, trivial⟩, by rw [ht]; exact h.1, h.2.1, ((hfF_1.w (by decide)).trans hfF_61 (by decide))⟩, h.2.2.F ht⟩) h.2.2.2.2 dX14_ran_17

set_option maxHeartbeats 4000000 in
set_option maxRecDepth 100000 in
theorem zx_X14_said (l : Launch) (D : va_G) (k : Nat → ClassId) (Γ : Nat → Option Nat) (L : List Nat) (F : Nat → va_E) (sz : Nat) (th : Nat) (i : Int32) (lt : Nat) (hs : Int32) (μ : zVm) (hth : Γ th = some 14) (klt : zfld F th 22 = .ref lt) (hlt : Γ lt = some 12) (khs : zfld F th 24 = .int hs) (bhs : zB 0 1 hs) (hr0 : (hs.toInt ≠ 0 → zVt F lt μ)) : Met l yX14_said zwX14_said ({ frames := 1, cells := 0, slots := 0, locals := 40 }) (va_Pc [.ref th, .int i] (zP D k Γ L F sz)) (va_Qi (fun (r : Int32) (u : Nat → va_E) => (∃ (t9 : Int32), zfld u th 0 = .int t9 ∧ zB 0 1 t9 ∧ (0 = 0) ∧ (((t9.toInt = 1 ∧ (hs.toInt = 0 ∨ i.toInt < 0 ∨ (vsc μ : Int) ≤ i.toInt ∨ 60 ≤ i.toInt)) ∨ (t9.toInt = 0 ∧ (hs.toInt ≠ 0 ∧ 0 ≤ i.toInt ∧ i.toInt < (vsc μ : Int) ∧ i.toInt < 60) ∧ r = vsd μ i.toInt.toNat)))) ∧ True) (zQ D k Γ L F [1400]) (zA L sz)) 0 0 (zA L sz) := by
  refine Met.ofW (cc := cX14_said) (maxL := 2) (ret := (some .int)) (by decide) rfl ?_
  intro p e s m args below meth c s₁ B hml hv
  obtain ⟨rfl, hsz, hP, hK, hLn, hE, hI⟩ := hv
  have hx := B.exec
  have hb := B.bytes
  have hr := B.returns
  have hg : ∀ w ∈ zG, w.before _ s = true := fun w h9 => atoms_spec (ws := zwX14_said) B.pre w (List.mem_cons_of_mem _ h9)
  have hown : s.vm.findClass RX14 = some m.cls := findClass_of_methodNamed B.named
  have hlocks := B.notSynchronized
  subst hsz
  have Z : zC p m c cX14_said 2 s _ zG RX14 D k L := ⟨⟨hx, hb, hml, hown, hg⟩, hK, hLn, hE⟩
  have h : zH D k Γ L s F s.heap [] := ⟨hP, hI, va_S.rf⟩
  have hl := lv_entry ([.ref th, .int i]) (n := 2) (Nat.le_of_ble_eq_true rfl)
  rw [lg_entry_eq]
  generalize (lg_sl ([.ref th, .int i]) ++ List.replicate (2 - (lg_sl ([.ref th, .int i])).length) Slot.unset).toArray = ls at hl ⊢
  have hl : lv_has ls 2 [(0, .ref th), (1, .int i)] := hl
  clear hP hK hLn hE hI
  generalize hargs : ([.ref th, .int i] : List Value).toArray = args at *
  refine z_start (fun R Q hRf hRl hQ => ?_)
  have hRf : R.frames = 1 := hRf
  have hRl : R.locals = 40 := hRl
  have h9 := h
  have hI0 := h.2.1
  refine lv_aload_n hx hb dX14_said_0 rfl (lv_at hl 0 rfl) ?_
  refine lv_aload_n hx hb dX14_said_1 rfl (lv_at hl 0 rfl) ?_
  refine zt_getk (t := 14) (C := RX14) (T := TX14) (N := 40) Z h hth zin_14 rfl 24 khs ⟨by decide, rfl, by decide⟩ (zm_RX14 (List.mem_of_getElem? (i := 124) rfl)) (fun _ h9 => h9) dX14_said_2 ?_
  refine lv_if_eq (tgt := 28) hx hb dX14_said_5 (by decide) (fun c_1 => ?_) (fun c_1 => ?_)
  · have c_1 := z_eq c_1
    have bhs_2 : zB 0 0 hs := zB.eqL (a := 0) (b := 0) c_1 (zBc 0 0 (by decide))
    refine lv_iconst (v := 1) hx hb dX14_said_28 (by decide) ?_
    refine lv_goto (tgt := 33) hx hb dX14_said_29 (by decide) ?_
    refine zt_put (t := 14) (C := RX14) (T := TX14) (N := 40) (v := .int 1) Z h hth zin_14 tyX14 tyX14_ok nmX14 rfl 0 rfl ⟨by decide, rfl⟩ (zm_RX14 (List.mem_of_getElem? (i := 105) rfl)) (fun _ h9 => h9) rfl (zV.i (zB.of ⟨by decide, by decide⟩)) rfl rfl dX14_said_33 (fun H locs F_3 h hfF_3 kF_3 => ?_)
    refine lv_aload_n hx hb dX14_said_36 rfl (lv_at hl 0 rfl) ?_
    refine zt_getk (t := 14) (C := RX14) (T := TX14) (N := 40) Z h hth zin_14 rfl 0 kF_3 ⟨by decide, rfl, by decide⟩ (zm_RX14 (List.mem_of_getElem? (i := 105) rfl)) (fun _ h9 => h9) dX14_said_37 ?_
    refine lv_if_le (tgt := 47) hx hb dX14_said_40 (by decide) (fun h9 => absurd h9 (by decide)) (fun _ => ?_)
    refine lv_iconst (v := 0) hx hb dX14_said_43 (by decide) ?_
    refine lv_goto (tgt := 56) hx hb dX14_said_44 (by decide) ?_
    subst hQ
    exact W.iret (v := 0) hx hb hr (fun t ht hW => ⟨⟨0, F_3, rfl, ⟨⟨1, kF_3, (zB.of ⟨by decide, by decide⟩), (by have := (zB.all i).1; have := (zB.all i).2; have := bhs_2.1; have := bhs_2.2; have : (0 : Int32).toInt = 0 := (by decide); have : (1 : Int32).toInt = 1 := (by decide); omega), (Or.inl ⟨by have := (zB.all i).1; have := (zB.all i).2; have := bhs_2.1; have := bhs_2.2; have : (0 : Int32).toInt = 0 := (by decide); have : (1 : Int32).toInt = 1 := (by decide); omega, by have := (zB.all i).1; have := (zB.all i).2; have := bhs_2.1; have := bhs_2.2; have : (0 : Int32).toInt = 0 := (by decide); have : (1 : Int32).toInt = 1 := (by decide); omega⟩)⟩, trivial⟩, by rw [ht]; exact h.1, h.2.1, hfF_3⟩, h.2.2.F ht⟩) h.2.2.2.2 dX14_said_56
  · have c_1 := z_ne c_1
    have bhs_4 : zB 1 1 hs := zB.neLo c_1 bhs (zBc 0 0 (by decide)) (by decide)
    have hlv_ := hr0 (by have := (zB.all i).1; have := (zB.all i).2; have := bhs_4.1; have := bhs_4.2; have : (0 : Int32).toInt = 0 := (by decide); omega)
    refine lv_iload_n hx hb dX14_said_8 rfl (lv_at hl 1 rfl) ?_
    refine lv_if_lt (tgt := 28) hx hb dX14_said_9 (by decide) (fun c_5 => ?_) (fun c_5 => ?_)
    · have c_5 := z_lt c_5
      have bi_6 : zB (-2147483648) (-1) i := zB.ltL c_5 (zB.all i) (zBc 0 0 (by decide)) (by decide)
      refine lv_iconst (v := 1) hx hb dX14_said_28 (by decide) ?_
      refine lv_goto (tgt := 33) hx hb dX14_said_29 (by decide) ?_
      refine zt_put (t := 14) (C := RX14) (T := TX14) (N := 40) (v := .int 1) Z h hth zin_14 tyX14 tyX14_ok nmX14 rfl 0 rfl ⟨by decide, rfl⟩ (zm_RX14 (List.mem_of_getElem? (i := 105) rfl)) (fun _ h9 => h9) rfl (zV.i (zB.of ⟨by decide, by decide⟩)) rfl rfl dX14_said_33 (fun H locs F_7 h hfF_7 kF_7 => ?_)
      refine lv_aload_n hx hb dX14_said_36 rfl (lv_at hl 0 rfl) ?_
      refine zt_getk (t := 14) (C := RX14) (T := TX14) (N := 40) Z h hth zin_14 rfl 0 kF_7 ⟨by decide, rfl, by decide⟩ (zm_RX14 (List.mem_of_getElem? (i := 105) rfl)) (fun _ h9 => h9) dX14_said_37 ?_
      refine lv_if_le (tgt := 47) hx hb dX14_said_40 (by decide) (fun h9 => absurd h9 (by decide)) (fun _ => ?_)
      refine lv_iconst (v := 0) hx hb dX14_said_43 (by decide) ?_
      refine lv_goto (tgt := 56) hx hb dX14_said_44 (by decide) ?_
      subst hQ
      exact W.iret (v := 0) hx hb hr (fun t ht hW => ⟨⟨0, F_7, rfl, ⟨⟨1, kF_7, (zB.of ⟨by decide, by decide⟩), (by have := bi_6.1; have := bi_6.2; have := bhs_4.1; have := bhs_4.2; have : (0 : Int32).toInt = 0 := (by decide); have : (1 : Int32).toInt = 1 := (by decide); omega), (Or.inl ⟨by have := bi_6.1; have := bi_6.2; have := bhs_4.1; have := bhs_4.2; have : (0 : Int32).toInt = 0 := (by decide); have : (1 : Int32).toInt = 1 := (by decide); omega, by have := bi_6.1; have := bi_6.2; have := bhs_4.1; have := bhs_4.2; have : (0 : Int32).toInt = 0 := (by decide); have : (1 : Int32).toInt = 1 := (by decide); omega⟩)⟩, trivial⟩, by rw [ht]; exact h.1, h.2.1, hfF_7⟩, h.2.2.F ht⟩) h.2.2.2.2 dX14_said_56
    · have c_5 := z_nlt c_5
      have bi_8 : zB 0 2147483647 i := zB.leR c_5 (zBc 0 0 (by decide)) (zB.all i) (by decide)
      refine lv_iload_n hx hb dX14_said_12 rfl (lv_at hl 1 rfl) ?_
      refine lv_aload_n hx hb dX14_said_13 rfl (lv_at hl 0 rfl) ?_
      refine zt_getk (t := 14) (C := RX14) (T := TX14) (N := 40) Z h hth zin_14 rfl 22 klt ⟨by decide, rfl, by decide⟩ (zm_RX14 (List.mem_of_getElem? (i := 183) rfl)) (fun _ h9 => h9) dX14_said_14 ?_
      refine zt_getiN (t := 12) (C := RX12) (T := TX12) (N := 10) Z h hlt zin_12 rfl 3 rfl ⟨by decide, rfl⟩ (zn_35 Z) (fun _ h9 => h9) dX14_said_17 (fun x_9 kx_9 bx_9 => ?_)
      have tq_10 := zFi.is hlv_.1.2.2.1 kx_9
      refine lv_bipush (v := 60) hx hb dX14_said_20 (by decide) ?_
      refine va_mmin hx hb (by rw [hml]; exact hl.1.symm) hown (hg _ (zm_RX14 (List.mem_of_getElem? (i := 189) rfl))) (hg _ (zm_RX14 (List.mem_of_getElem? (i := 190) rfl))) (hg _ (zm_RX14 (List.mem_of_getElem? (i := 155) rfl))) (hg _ (zm_RX14 (List.mem_of_getElem? (i := 191) rfl))) (z_leR hRf (by decide)) (z_leR hRl (Nat.le_of_ble_eq_true rfl)) (Nat.zero_le _) (Nat.zero_le _) dX14_said_22 ?_
      refine zi_min (lo := 0) (hi := 60) bx_9 (zBc 60 60 (by decide)) (by decide) (fun x_11 bx_11 tx_11 => ?_)
      refine lv_icmp_lt (tgt := 32) hx hb dX14_said_25 (by decide) (fun c_12 => ?_) (fun c_12 => ?_)
      · have c_12 := z_lt c_12
        have bi_13 : zB 0 59 i := zB.ltL c_12 bi_8 bx_11 (by decide)
        have bx_11_14 : zB 1 60 x_11 := zB.ltR c_12 bi_8 bx_11 (by decide)
        refine lv_iconst (v := 0) hx hb dX14_said_32 (by decide) ?_
        refine zt_put (t := 14) (C := RX14) (T := TX14) (N := 40) (v := .int 0) Z h hth zin_14 tyX14 tyX14_ok nmX14 rfl 0 rfl ⟨by decide, rfl⟩ (zm_RX14 (List.mem_of_getElem? (i := 105) rfl)) (fun _ h9 => h9) rfl (zV.i (zB.of ⟨by decide, by decide⟩)) rfl rfl dX14_said_33 (fun H locs F_15 h hfF_15 kF_15 => ?_)
        refine lv_aload_n hx hb dX14_said_36 rfl (lv_at hl 0 rfl) ?_
        refine zt_getk (t := 14) (C := RX14) (T := TX14) (N := 40) Z h hth zin_14 rfl 0 kF_15 ⟨by decide, rfl, by decide⟩ (zm_RX14 (List.mem_of_getElem? (i := 105) rfl)) (fun _ h9 => h9) dX14_said_37 ?_
        refine lv_if_le (tgt := 47) hx hb dX14_said_40 (by decide) (fun _ => ?_) (fun h9 => absurd (by decide) h9)
        refine lv_aload_n hx hb dX14_said_47 rfl (lv_at hl 0 rfl) ?_
        refine zt_getk (t := 14) (C := RX14) (T := TX14) (N := 40) Z h hth zin_14 rfl 22 (hfF_15.f hth 22 ⟨by decide, by decide⟩ klt) ⟨by decide, rfl, by decide⟩ (zm_RX14 (List.mem_of_getElem? (i := 183) rfl)) (fun _ h9 => h9) dX14_said_48 ?_
        refine zt_getrN (t := 12) (C := RX12) (T := TX12) (N := 10) Z h hlt zin_12 rfl 7 rfl ⟨by decide, rfl⟩ (zn_40 Z) (fun _ h9 => h9) dX14_said_51 (fun a_16 ka_16 ha_16 => ?_)
        refine lv_iload_n hx hb dX14_said_54 rfl (lv_at hl 1 rfl) ?_
        have hv_17 := (hr0 (by have := bi_13.1; have := bi_13.2; have := bhs_4.1; have := bhs_4.2; have := bx_9.1; have := bx_9.2; have : (0 : Int32).toInt = 0 := (by decide); have : (60 : Int32).toInt = 60 := (by decide); omega)).fr hI0 (hfF_15 : zFr Γ [1400] F F_15) hlt (by decide)
        refine zt_ialde (t := 165) Z h ha_16 ⟨by decide, rfl⟩ bi_13 ⟨by decide, by decide⟩ dX14_said_55 (fun x_18 ex_18 bx_18 => ?_)
        subst hQ
        exact W.iret (v := x_18) hx hb hr (fun t ht hW => ⟨⟨x_18, F_15, rfl, ⟨⟨0, kF_15, (zB.of ⟨by decide, by decide⟩), (by have := bi_13.1; have := bi_13.2; have := bx_18.1; have := bx_18.2; have := bhs_4.1; have := bhs_4.2; have := bx_9.1; have := bx_9.2; have : (0 : Int32).toInt = 0 := (by decide); have : (60 : Int32).toInt = 60 := (by decide); omega), (Or.inr ⟨by have := bi_13.1; have := bi_13.2; have := bx_18.1; have := bx_18.2; have := bhs_4.1; have := bhs_4.2; have := bx_9.1; have := bx_9.2; have : (0 : Int32).toInt = 0 := (by decide); have : (60 : Int32).toInt = 60 := (by decide); omega, ⟨by have := bi_13.1; have := bi_13.2; have := bx_18.1; have := bx_18.2; have := bhs_4.1; have := bhs_4.2; have := bx_9.1; have := bx_9.2; have : (0 : Int32).toInt = 0 := (by decide); have : (60 : Int32).toInt = 60 := (by decide); omega, by have := bi_13.1; have := bi_13.2; have := bx_18.1; have := bx_18.2; have := bhs_4.1; have := bhs_4.2; have := bx_9.1; have := bx_9.2; have : (0 : Int32).toInt = 0 := (by decide); have : (60 : Int32).toInt = 60 := (by decide); omega, by have := bi_13.1; have := bi_13.2; have := bx_18.1; have := bx_18.2; have := bhs_4.1; have := bhs_4.2; have := bx_9.1; have := bx_9.2; have : (0 : Int32).toInt = 0 := (by decide); have : (60 : Int32).toInt = 60 := (by decide); omega, by have := bi_13.1; have := bi_13.2; have := bx_18.1; have := bx_18.2; have := bhs_4.1; have := bhs_4.2; have := bx_9.1; have := bx_9.2; have : (0 : Int32).toInt = 0 := (by decide); have : (60 : Int32).toInt = 60 := (by decide); omega⟩, by rw [← hv_17.1.2.2.2.1, zar_eq ka_16, show i.toInt.toNat = Int32.toNatClampNeg i by first | rfl | (rw [Int32.toNatClampNeg]; have := bi_13.1; have := bi_13.2; have := bx_18.1; have := bx_18.2; have := bhs_4.1; have := bhs_4.2; have := bx_9.1; have := bx_9.2; have : (0 : Int32).toInt = 0 := (by decide); have : (60 : Int32).toInt = 60 := (by decide); omega)]; exact ex_18.symm⟩)⟩, trivial⟩, by rw [ht]; exact h.1, h.2.1, hfF_15⟩, h.2.2.F ht⟩) h.2.2.2.2 dX14_said_56
      · have c_12 := z_nlt c_12
        refine lv_iconst (v := 1) hx hb dX14_said_28 (by decide) ?_
        refine lv_goto (tgt := 33) hx hb dX14_said_29 (by decide) ?_
        refine zt_put (t := 14) (C := RX14) (T := TX14) (N := 40) (v := .int 1) Z h hth zin_14 tyX14 tyX14_ok nmX14 rfl 0 rfl ⟨by decide, rfl⟩ (zm_RX14 (List.mem_of_getElem? (i := 105) rfl)) (fun _ h9 => h9) rfl (zV.i (zB.of ⟨by decide, by decide⟩)) rfl rfl dX14_said_33 (fun H locs F_19 h hfF_19 kF_19 => ?_)
        refine lv_aload_n hx hb dX14_said_36 rfl (lv_at hl 0 rfl) ?_
        refine zt_getk (t := 14) (C := RX14) (T := TX14) (N := 40) Z h hth zin_14 rfl 0 kF_19 ⟨by decide, rfl, by decide⟩ (zm_RX14 (List.mem_of_getElem? (i := 105) rfl)) (fun _ h9 => h9) dX14_said_37 ?_
        refine lv_if_le (tgt := 47) hx hb dX14_said_40 (by decide) (fun h9 => absurd h9 (by decide)) (fun _ => ?_)
        refine lv_iconst (v := 0) hx hb dX14_said_43 (by decide) ?_
        refine lv_goto (tgt := 56) hx hb dX14_said_44 (by decide) ?_
        subst hQ
        exact W.iret (v := 0) hx hb hr (fun t ht hW => ⟨⟨0, F_19, rfl, ⟨⟨1, kF_19, (zB.of ⟨by decide, by decide⟩), (by have := bi_8.1; have := bi_8.2; have := bhs_4.1; have := bhs_4.2; have := bx_9.1; have := bx_9.2; have : (0 : Int32).toInt = 0 := (by decide); have : (1 : Int32).toInt = 1 := (by decide); have : (60 : Int32).toInt = 60 := (by decide); omega), (Or.inl ⟨by have := bi_8.1; have := bi_8.2; have := bhs_4.1; have := bhs_4.2; have := bx_9.1; have := bx_9.2; have : (0 : Int32).toInt = 0 := (by decide); have : (1 : Int32).toInt = 1 := (by decide); have : (60 : Int32).toInt = 60 := (by decide); omega, by have := bi_8.1; have := bi_8.2; have := bhs_4.1; have := bhs_4.2; have := bx_9.1; have := bx_9.2; have : (0 : Int32).toInt = 0 := (by decide); have : (1 : Int32).toInt = 1 := (by decide); have : (60 : Int32).toInt = 60 := (by decide); omega⟩)⟩, trivial⟩, by rw [ht]; exact h.1, h.2.1, hfF_19⟩, h.2.2.F ht⟩) h.2.2.2.2 dX14_said_56

set_option maxHeartbeats 4000000 in
set_option maxRecDepth 100000 in
theorem zx_X14_trace (l : Launch) (D : va_G) (k : Nat → ClassId) (Γ : Nat → Option Nat) (L : List Nat) (F : Nat → va_E) (sz : Nat) (th : Nat) (i : Int32) (wh : Int32) (lt : Nat) (hs : Int32) (μ : zVm) (hth : Γ th = some 14) (klt : zfld F th 22 = .ref lt) (hlt : Γ lt = some 12) (khs : zfld F th 24 = .int hs) (bhs : zB 0 1 hs) (hr0 : (hs.toInt ≠ 0 → zVt F lt μ)) : Met l yX14_trace zwX14_trace ({ frames := 1, cells := 0, slots := 0, locals := 40 }) (va_Pc [.ref th, .int i, .int wh] (zP D k Γ L F sz)) (va_Qi (fun (r : Int32) (u : Nat → va_E) => (∃ (t9 : Int32), zfld u th 0 = .int t9 ∧ zB 0 1 t9 ∧ (0 = 0) ∧ (((t9.toInt = 1 ∧ (hs.toInt = 0 ∨ i.toInt < 0 ∨ (vtc μ : Int) ≤ i.toInt ∨ 400 ≤ i.toInt ∨ wh.toInt < 0 ∨ 3 < wh.toInt)) ∨ (t9.toInt = 0 ∧ (hs.toInt ≠ 0 ∧ 0 ≤ i.toInt ∧ i.toInt < (vtc μ : Int) ∧ i.toInt < 400 ∧ 0 ≤ wh.toInt ∧ wh.toInt ≤ 3) ∧ r = vtr μ (4 * i.toInt.toNat + wh.toInt.toNat))))) ∧ True) (zQ D k Γ L F [1400]) (zA L sz)) 0 0 (zA L sz) := by
  refine Met.ofW (cc := cX14_trace) (maxL := 3) (ret := (some .int)) (by decide) rfl ?_
  intro p e s m args below meth c s₁ B hml hv
  obtain ⟨rfl, hsz, hP, hK, hLn, hE, hI⟩ := hv
  have hx := B.exec
  have hb := B.bytes
  have hr := B.returns
  have hg : ∀ w ∈ zG, w.before _ s = true := fun w h9 => atoms_spec (ws := zwX14_trace) B.pre w (List.mem_cons_of_mem _ h9)
  have hown : s.vm.findClass RX14 = some m.cls := findClass_of_methodNamed B.named
  have hlocks := B.notSynchronized
  subst hsz
  have Z : zC p m c cX14_trace 3 s _ zG RX14 D k L := ⟨⟨hx, hb, hml, hown, hg⟩, hK, hLn, hE⟩
  have h : zH D k Γ L s F s.heap [] := ⟨hP, hI, va_S.rf⟩
  have hl := lv_entry ([.ref th, .int i, .int wh]) (n := 3) (Nat.le_of_ble_eq_true rfl)
  rw [lg_entry_eq]
  generalize (lg_sl ([.ref th, .int i, .int wh]) ++ List.replicate (3 - (lg_sl ([.ref th, .int i, .int wh])).length) Slot.unset).toArray = ls at hl ⊢
  have hl : lv_has ls 3 [(0, .ref th), (1, .int i), (2, .int wh)] := hl
  clear hP hK hLn hE hI
  generalize hargs : ([.ref th, .int i, .int wh] : List Value).toArray = args at *
  refine z_start (fun R Q hRf hRl hQ => ?_)
  have hRf : R.frames = 1 := hRf
  have hRl : R.locals = 40 := hRl
  have h9 := h
  have hI0 := h.2.1
  refine lv_aload_n hx hb dX14_trace_0 rfl (lv_at hl 0 rfl) ?_
  refine lv_aload_n hx hb dX14_trace_1 rfl (lv_at hl 0 rfl) ?_
  refine zt_getk (t := 14) (C := RX14) (T := TX14) (N := 40) Z h hth zin_14 rfl 24 khs ⟨by decide, rfl, by decide⟩ (zm_RX14 (List.mem_of_getElem? (i := 124) rfl)) (fun _ h9 => h9) dX14_trace_2 ?_
  refine lv_if_eq (tgt := 38) hx hb dX14_trace_5 (by decide) (fun c_1 => ?_) (fun c_1 => ?_)
  · have c_1 := z_eq c_1
    have bhs_2 : zB 0 0 hs := zB.eqL (a := 0) (b := 0) c_1 (zBc 0 0 (by decide))
    refine lv_iconst (v := 1) hx hb dX14_trace_38 (by decide) ?_
    refine lv_goto (tgt := 43) hx hb dX14_trace_39 (by decide) ?_
    refine zt_put (t := 14) (C := RX14) (T := TX14) (N := 40) (v := .int 1) Z h hth zin_14 tyX14 tyX14_ok nmX14 rfl 0 rfl ⟨by decide, rfl⟩ (zm_RX14 (List.mem_of_getElem? (i := 105) rfl)) (fun _ h9 => h9) rfl (zV.i (zB.of ⟨by decide, by decide⟩)) rfl rfl dX14_trace_43 (fun H locs F_3 h hfF_3 kF_3 => ?_)
    refine lv_aload_n hx hb dX14_trace_46 rfl (lv_at hl 0 rfl) ?_
    refine zt_getk (t := 14) (C := RX14) (T := TX14) (N := 40) Z h hth zin_14 rfl 0 kF_3 ⟨by decide, rfl, by decide⟩ (zm_RX14 (List.mem_of_getElem? (i := 105) rfl)) (fun _ h9 => h9) dX14_trace_47 ?_
    refine lv_if_le (tgt := 57) hx hb dX14_trace_50 (by decide) (fun h9 => absurd h9 (by decide)) (fun _ => ?_)
    refine lv_iconst (v := 0) hx hb dX14_trace_53 (by decide) ?_
    refine lv_goto (tgt := 70) hx hb dX14_trace_54 (by decide) ?_
    subst hQ
    exact W.iret (v := 0) hx hb hr (fun t ht hW => ⟨⟨0, F_3, rfl, ⟨⟨1, kF_3, (zB.of ⟨by decide, by decide⟩), (by have := (zB.all i).1; have := (zB.all i).2; have := (zB.all wh).1; have := (zB.all wh).2; have := bhs_2.1; have := bhs_2.2; have : (0 : Int32).toInt = 0 := (by decide); have : (1 : Int32).toInt = 1 := (by decide); omega), (Or.inl ⟨by have := (zB.all i).1; have := (zB.all i).2; have := (zB.all wh).1; have := (zB.all wh).2; have := bhs_2.1; have := bhs_2.2; have : (0 : Int32).toInt = 0 := (by decide); have : (1 : Int32).toInt = 1 := (by decide); omega, by have := (zB.all i).1; have := (zB.all i).2; have := (zB.all wh).1; have := (zB.all wh).2; have := bhs_2.1; have := bhs_2.2; have : (0 : Int32).toInt = 0 := (by decide); have : (1 : Int32).toInt = 1 := (by decide); omega⟩)⟩, trivial⟩, by rw [ht]; exact h.1, h.2.1, hfF_3⟩, h.2.2.F ht⟩) h.2.2.2.2 dX14_trace_70
  · have c_1 := z_ne c_1
    have bhs_4 : zB 1 1 hs := zB.neLo c_1 bhs (zBc 0 0 (by decide)) (by decide)
    have hlv_ := hr0 (by have := (zB.all i).1; have := (zB.all i).2; have := (zB.all wh).1; have := (zB.all wh).2; have := bhs_4.1; have := bhs_4.2; have : (0 : Int32).toInt = 0 := (by decide); omega)
    refine lv_iload_n hx hb dX14_trace_8 rfl (lv_at hl 1 rfl) ?_
    refine lv_if_lt (tgt := 38) hx hb dX14_trace_9 (by decide) (fun c_5 => ?_) (fun c_5 => ?_)
    · have c_5 := z_lt c_5
      have bi_6 : zB (-2147483648) (-1) i := zB.ltL c_5 (zB.all i) (zBc 0 0 (by decide)) (by decide)
      refine lv_iconst (v := 1) hx hb dX14_trace_38 (by decide) ?_
      refine lv_goto (tgt := 43) hx hb dX14_trace_39 (by decide) ?_
      refine zt_put (t := 14) (C := RX14) (T := TX14) (N := 40) (v := .int 1) Z h hth zin_14 tyX14 tyX14_ok nmX14 rfl 0 rfl ⟨by decide, rfl⟩ (zm_RX14 (List.mem_of_getElem? (i := 105) rfl)) (fun _ h9 => h9) rfl (zV.i (zB.of ⟨by decide, by decide⟩)) rfl rfl dX14_trace_43 (fun H locs F_7 h hfF_7 kF_7 => ?_)
      refine lv_aload_n hx hb dX14_trace_46 rfl (lv_at hl 0 rfl) ?_
      refine zt_getk (t := 14) (C := RX14) (T := TX14) (N := 40) Z h hth zin_14 rfl 0 kF_7 ⟨by decide, rfl, by decide⟩ (zm_RX14 (List.mem_of_getElem? (i := 105) rfl)) (fun _ h9 => h9) dX14_trace_47 ?_
      refine lv_if_le (tgt := 57) hx hb dX14_trace_50 (by decide) (fun h9 => absurd h9 (by decide)) (fun _ => ?_)
      refine lv_iconst (v := 0) hx hb dX14_trace_53 (by decide) ?_
      refine lv_goto (tgt := 70) hx hb dX14_trace_54 (by decide) ?_
      subst hQ
      exact W.iret (v := 0) hx hb hr (fun t ht hW => ⟨⟨0, F_7, rfl, ⟨⟨1, kF_7, (zB.of ⟨by decide, by decide⟩), (by have := bi_6.1; have := bi_6.2; have := (zB.all wh).1; have := (zB.all wh).2; have := bhs_4.1; have := bhs_4.2; have : (0 : Int32).toInt = 0 := (by decide); have : (1 : Int32).toInt = 1 := (by decide); omega), (Or.inl ⟨by have := bi_6.1; have := bi_6.2; have := (zB.all wh).1; have := (zB.all wh).2; have := bhs_4.1; have := bhs_4.2; have : (0 : Int32).toInt = 0 := (by decide); have : (1 : Int32).toInt = 1 := (by decide); omega, by have := bi_6.1; have := bi_6.2; have := (zB.all wh).1; have := (zB.all wh).2; have := bhs_4.1; have := bhs_4.2; have : (0 : Int32).toInt = 0 := (by decide); have : (1 : Int32).toInt = 1 := (by decide); omega⟩)⟩, trivial⟩, by rw [ht]; exact h.1, h.2.1, hfF_7⟩, h.2.2.F ht⟩) h.2.2.2.2 dX14_trace_70
    · have c_5 := z_nlt c_5
      have bi_8 : zB 0 2147483647 i := zB.leR c_5 (zBc 0 0 (by decide)) (zB.all i) (by decide)
      refine lv_iload_n hx hb dX14_trace_12 rfl (lv_at hl 1 rfl) ?_
      refine lv_aload_n hx hb dX14_trace_13 rfl (lv_at hl 0 rfl) ?_
      refine zt_getk (t := 14) (C := RX14) (T := TX14) (N := 40) Z h hth zin_14 rfl 22 klt ⟨by decide, rfl, by decide⟩ (zm_RX14 (List.mem_of_getElem? (i := 183) rfl)) (fun _ h9 => h9) dX14_trace_14 ?_
      refine zt_getiN (t := 12) (C := RX12) (T := TX12) (N := 10) Z h hlt zin_12 rfl 4 rfl ⟨by decide, rfl⟩ (zn_36 Z) (fun _ h9 => h9) dX14_trace_17 (fun x_9 kx_9 bx_9 => ?_)
      have tq_10 := zFi.is hlv_.1.2.2.2.2.1 kx_9
      refine lv_sipush (v := 400) hx hb dX14_trace_20 (by decide) ?_
      refine va_mmin hx hb (by rw [hml]; exact hl.1.symm) hown (hg _ (zm_RX14 (List.mem_of_getElem? (i := 189) rfl))) (hg _ (zm_RX14 (List.mem_of_getElem? (i := 190) rfl))) (hg _ (zm_RX14 (List.mem_of_getElem? (i := 155) rfl))) (hg _ (zm_RX14 (List.mem_of_getElem? (i := 191) rfl))) (z_leR hRf (by decide)) (z_leR hRl (Nat.le_of_ble_eq_true rfl)) (Nat.zero_le _) (Nat.zero_le _) dX14_trace_23 ?_
      refine zi_min (lo := 0) (hi := 400) bx_9 (zBc 400 400 (by decide)) (by decide) (fun x_11 bx_11 tx_11 => ?_)
      refine lv_icmp_ge (tgt := 38) hx hb dX14_trace_26 (by decide) (fun c_12 => ?_) (fun c_12 => ?_)
      · have c_12 := z_le c_12
        refine lv_iconst (v := 1) hx hb dX14_trace_38 (by decide) ?_
        refine lv_goto (tgt := 43) hx hb dX14_trace_39 (by decide) ?_
        refine zt_put (t := 14) (C := RX14) (T := TX14) (N := 40) (v := .int 1) Z h hth zin_14 tyX14 tyX14_ok nmX14 rfl 0 rfl ⟨by decide, rfl⟩ (zm_RX14 (List.mem_of_getElem? (i := 105) rfl)) (fun _ h9 => h9) rfl (zV.i (zB.of ⟨by decide, by decide⟩)) rfl rfl dX14_trace_43 (fun H locs F_13 h hfF_13 kF_13 => ?_)
        refine lv_aload_n hx hb dX14_trace_46 rfl (lv_at hl 0 rfl) ?_
        refine zt_getk (t := 14) (C := RX14) (T := TX14) (N := 40) Z h hth zin_14 rfl 0 kF_13 ⟨by decide, rfl, by decide⟩ (zm_RX14 (List.mem_of_getElem? (i := 105) rfl)) (fun _ h9 => h9) dX14_trace_47 ?_
        refine lv_if_le (tgt := 57) hx hb dX14_trace_50 (by decide) (fun h9 => absurd h9 (by decide)) (fun _ => ?_)
        refine lv_iconst (v := 0) hx hb dX14_trace_53 (by decide) ?_
        refine lv_goto (tgt := 70) hx hb dX14_trace_54 (by decide) ?_
        subst hQ
        exact W.iret (v := 0) hx hb hr (fun t ht hW => ⟨⟨0, F_13, rfl, ⟨⟨1, kF_13, (zB.of ⟨by decide, by decide⟩), (by have := bi_8.1; have := bi_8.2; have := (zB.all wh).1; have := (zB.all wh).2; have := bhs_4.1; have := bhs_4.2; have := bx_9.1; have := bx_9.2; have : (0 : Int32).toInt = 0 := (by decide); have : (1 : Int32).toInt = 1 := (by decide); have : (400 : Int32).toInt = 400 := (by decide); omega), (Or.inl ⟨by have := bi_8.1; have := bi_8.2; have := (zB.all wh).1; have := (zB.all wh).2; have := bhs_4.1; have := bhs_4.2; have := bx_9.1; have := bx_9.2; have : (0 : Int32).toInt = 0 := (by decide); have : (1 : Int32).toInt = 1 := (by decide); have : (400 : Int32).toInt = 400 := (by decide); omega, by have := bi_8.1; have := bi_8.2; have := (zB.all wh).1; have := (zB.all wh).2; have := bhs_4.1; have := bhs_4.2; have := bx_9.1; have := bx_9.2; have : (0 : Int32).toInt = 0 := (by decide); have : (1 : Int32).toInt = 1 := (by decide); have : (400 : Int32).toInt = 400 := (by decide); omega⟩)⟩, trivial⟩, by rw [ht]; exact h.1, h.2.1, hfF_13⟩, h.2.2.F ht⟩) h.2.2.2.2 dX14_trace_70
      · have c_12 := z_nle c_12
        have bi_14 : zB 0 399 i := zB.ltL c_12 bi_8 bx_11 (by decide)
        have bx_11_15 : zB 1 400 x_11 := zB.ltR c_12 bi_8 bx_11 (by decide)
        refine lv_iload_n hx hb dX14_trace_29 rfl (lv_at hl 2 rfl) ?_
        refine lv_iconst (v := 0) hx hb dX14_trace_30 (by decide) ?_
        refine lv_iconst (v := 3) hx hb dX14_trace_31 (by decide) ?_
        refine zk_Si (As := [.int wh, .int 0, .int 3]) (rest := [.ref th]) (bytes := cX14_in) (maxL := 3) (ret := (some .boolean)) Z h (zx_X14_in l D k Γ L F s.heap.size wh 0 3) (va_cwS 3 hg zv_RX14_407 rfl rfl rfl zd_X14_in ⟨z_leR hRf (by decide), z_leR hRl (by decide)⟩) rfl hl.1 rfl (Nat.le_of_ble_eq_true rfl) dX14_trace_32 ⟨Nat.zero_le _, Nat.zero_le _⟩ (fun r_16 F_17 H locs w_18 h hfF_17 => ?_)
        obtain ⟨rfl, br_16, q_19, -⟩ := w_18
        refine lv_if_ne (tgt := 42) hx hb dX14_trace_35 (by decide) (fun c_20 => ?_) (fun c_20 => ?_)
        · have c_20 := z_ne c_20
          have br_16_21 : zB 1 1 r_16 := zB.neLo c_20 br_16 (zBc 0 0 (by decide)) (by decide)
          refine lv_iconst (v := 0) hx hb dX14_trace_42 (by decide) ?_
          refine zt_put (t := 14) (C := RX14) (T := TX14) (N := 40) (v := .int 0) Z h hth zin_14 tyX14 tyX14_ok nmX14 rfl 0 rfl ⟨by decide, rfl⟩ (zm_RX14 (List.mem_of_getElem? (i := 105) rfl)) (fun _ h9 => h9) rfl (zV.i (zB.of ⟨by decide, by decide⟩)) rfl rfl dX14_trace_43 (fun H locs F_22 h hfF_22 kF_22 => ?_)
          refine lv_aload_n hx hb dX14_trace_46 rfl (lv_at hl 0 rfl) ?_
          refine zt_getk (t := 14) (C := RX14) (T := TX14) (N := 40) Z h hth zin_14 rfl 0 kF_22 ⟨by decide, rfl, by decide⟩ (zm_RX14 (List.mem_of_getElem? (i := 105) rfl)) (fun _ h9 => h9) dX14_trace_47 ?_
          refine lv_if_le (tgt := 57) hx hb dX14_trace_50 (by decide) (fun _ => ?_) (fun h9 => absurd (by decide) h9)
          have bwh9_ : zB 0 3 wh := ⟨by have := bi_14.1; have := bi_14.2; have := (zB.all wh).1; have := (zB.all wh).2; have := bhs_4.1; have := bhs_4.2; have := bx_9.1; have := bx_9.2; have : (0 : Int32).toInt = 0 := (by decide); have : (3 : Int32).toInt = 3 := (by decide); have : (400 : Int32).toInt = 400 := (by decide); omega, by have := bi_14.1; have := bi_14.2; have := (zB.all wh).1; have := (zB.all wh).2; have := bhs_4.1; have := bhs_4.2; have := bx_9.1; have := bx_9.2; have : (0 : Int32).toInt = 0 := (by decide); have : (3 : Int32).toInt = 3 := (by decide); have : (400 : Int32).toInt = 400 := (by decide); omega⟩
          refine lv_aload_n hx hb dX14_trace_57 rfl (lv_at hl 0 rfl) ?_
          refine zt_getk (t := 14) (C := RX14) (T := TX14) (N := 40) Z h hth zin_14 rfl 22 (hfF_22.f hth 22 ⟨by decide, by decide⟩ klt) ⟨by decide, rfl, by decide⟩ (zm_RX14 (List.mem_of_getElem? (i := 183) rfl)) (fun _ h9 => h9) dX14_trace_58 ?_
          refine zt_getrN (t := 12) (C := RX12) (T := TX12) (N := 10) Z h hlt zin_12 rfl 8 rfl ⟨by decide, rfl⟩ (zn_41 Z) (fun _ h9 => h9) dX14_trace_61 (fun a_23 ka_23 ha_23 => ?_)
          refine lv_iconst (v := 4) hx hb dX14_trace_64 (by decide) ?_
          refine lv_iload_n hx hb dX14_trace_65 rfl (lv_at hl 1 rfl) ?_
          refine lv_imul hx hb dX14_trace_66 ?_
          refine zi_mul ((zBc 4 4 (by decide)).w ⟨by decide, by decide⟩ : zB 0 4 _) bi_14 (by decide) (fun x_24 bx_24 tx_24 => ?_)
          have bx_24 : zB 0 1596 x_24 := bx_24
          have tm_25 := tx_24
          rw [show (4 : Int32).toInt = 4 by decide] at tm_25
          refine lv_iload_n hx hb dX14_trace_67 rfl (lv_at hl 2 rfl) ?_
          refine lv_iadd hx hb dX14_trace_68 ?_
          refine zi_add (lo := 0) (hi := 1599) bx_24 bwh9_ (by decide) (fun x_26 bx_26 tx_26 => ?_)
          have hv_27 := (hr0 (by have := bi_14.1; have := bi_14.2; have := bwh9_.1; have := bwh9_.2; have := bx_26.1; have := bx_26.2; have := bhs_4.1; have := bhs_4.2; have := bx_9.1; have := bx_9.2; have : (0 : Int32).toInt = 0 := (by decide); have : (3 : Int32).toInt = 3 := (by decide); have : (4 : Int32).toInt = 4 := (by decide); have : (400 : Int32).toInt = 400 := (by decide); omega)).fr hI0 (hfF_22 : zFr Γ [1400] F F_22) hlt (by decide)
          refine zt_ialde (t := 166) Z h ha_23 ⟨by decide, rfl⟩ bx_26 ⟨by decide, by decide⟩ dX14_trace_69 (fun x_28 ex_28 bx_28 => ?_)
          subst hQ
          exact W.iret (v := x_28) hx hb hr (fun t ht hW => ⟨⟨x_28, F_22, rfl, ⟨⟨0, kF_22, (zB.of ⟨by decide, by decide⟩), (by have := bi_14.1; have := bi_14.2; have := bwh9_.1; have := bwh9_.2; have := bx_28.1; have := bx_28.2; have := bhs_4.1; have := bhs_4.2; have := bx_9.1; have := bx_9.2; have : (0 : Int32).toInt = 0 := (by decide); have : (3 : Int32).toInt = 3 := (by decide); have : (4 : Int32).toInt = 4 := (by decide); have : (400 : Int32).toInt = 400 := (by decide); omega), (Or.inr ⟨by have := bi_14.1; have := bi_14.2; have := bwh9_.1; have := bwh9_.2; have := bx_28.1; have := bx_28.2; have := bhs_4.1; have := bhs_4.2; have := bx_9.1; have := bx_9.2; have : (0 : Int32).toInt = 0 := (by decide); have : (3 : Int32).toInt = 3 := (by decide); have : (4 : Int32).toInt = 4 := (by decide); have : (400 : Int32).toInt = 400 := (by decide); omega, ⟨by have := bi_14.1; have := bi_14.2; have := bwh9_.1; have := bwh9_.2; have := bx_28.1; have := bx_28.2; have := bhs_4.1; have := bhs_4.2; have := bx_9.1; have := bx_9.2; have : (0 : Int32).toInt = 0 := (by decide); have : (3 : Int32).toInt = 3 := (by decide); have : (4 : Int32).toInt = 4 := (by decide); have : (400 : Int32).toInt = 400 := (by decide); omega, by have := bi_14.1; have := bi_14.2; have := bwh9_.1; have := bwh9_.2; have := bx_28.1; have := bx_28.2; have := bhs_4.1; have := bhs_4.2; have := bx_9.1; have := bx_9.2; have : (0 : Int32).toInt = 0 := (by decide); have : (3 : Int32).toInt = 3 := (by decide); have : (4 : Int32).toInt = 4 := (by decide); have : (400 : Int32).toInt = 400 := (by decide); omega, by have := bi_14.1; have := bi_14.2; have := bwh9_.1; have := bwh9_.2; have := bx_28.1; have := bx_28.2; have := bhs_4.1; have := bhs_4.2; have := bx_9.1; have := bx_9.2; have : (0 : Int32).toInt = 0 := (by decide); have : (3 : Int32).toInt = 3 := (by decide); have : (4 : Int32).toInt = 4 := (by decide); have : (400 : Int32).toInt = 400 := (by decide); omega, by have := bi_14.1; have := bi_14.2; have := bwh9_.1; have := bwh9_.2; have := bx_28.1; have := bx_28.2; have := bhs_4.1; have := bhs_4.2; have := bx_9.1; have := bx_9.2; have : (0 : Int32).toInt = 0 := (by decide); have : (3 : Int32).toInt = 3 := (by decide); have : (4 : Int32).toInt = 4 := (by decide); have : (400 : Int32).toInt = 400 := (by decide); omega, by have := bi_14.1; have := bi_14.2; have := bwh9_.1; have := bwh9_.2; have := bx_28.1; have := bx_28.2; have := bhs_4.1; have := bhs_4.2; have := bx_9.1; have := bx_9.2; have : (0 : Int32).toInt = 0 := (by decide); have : (3 : Int32).toInt = 3 := (by decide); have : (4 : Int32).toInt = 4 := (by decide); have : (400 : Int32).toInt = 400 := (by decide); omega, by have := bi_14.1; have := bi_14.2; have := bwh9_.1; have := bwh9_.2; have := bx_28.1; have := bx_28.2; have := bhs_4.1; have := bhs_4.2; have := bx_9.1; have := bx_9.2; have : (0 : Int32).toInt = 0 := (by decide); have : (3 : Int32).toInt = 3 := (by decide); have : (4 : Int32).toInt = 4 := (by decide); have : (400 : Int32).toInt = 400 := (by decide); omega⟩, by rw [← hv_27.1.2.2.2.2.2.1, zar_eq ka_23, show 4 * i.toInt.toNat + wh.toInt.toNat = Int32.toNatClampNeg x_26 by first | rfl | (rw [Int32.toNatClampNeg]; have := bi_14.1; have := bi_14.2; have := bwh9_.1; have := bwh9_.2; have := bx_28.1; have := bx_28.2; have := bx_26.1; have := bx_26.2; have := bhs_4.1; have := bhs_4.2; have := bx_9.1; have := bx_9.2; have : (0 : Int32).toInt = 0 := (by decide); have : (3 : Int32).toInt = 3 := (by decide); have : (4 : Int32).toInt = 4 := (by decide); have : (400 : Int32).toInt = 400 := (by decide); omega)]; exact ex_28.symm⟩)⟩, trivial⟩, by rw [ht]; exact h.1, h.2.1, hfF_22⟩, h.2.2.F ht⟩) h.2.2.2.2 dX14_trace_70
        · have c_20 := z_eq c_20
          have br_16_29 : zB 0 0 r_16 := zB.eqL (a := 0) (b := 0) c_20 (zBc 0 0 (by decide))
          refine lv_iconst (v := 1) hx hb dX14_trace_38 (by decide) ?_
          refine lv_goto (tgt := 43) hx hb dX14_trace_39 (by decide) ?_
          refine zt_put (t := 14) (C := RX14) (T := TX14) (N := 40) (v := .int 1) Z h hth zin_14 tyX14 tyX14_ok nmX14 rfl 0 rfl ⟨by decide, rfl⟩ (zm_RX14 (List.mem_of_getElem? (i := 105) rfl)) (fun _ h9 => h9) rfl (zV.i (zB.of ⟨by decide, by decide⟩)) rfl rfl dX14_trace_43 (fun H locs F_30 h hfF_30 kF_30 => ?_)
          refine lv_aload_n hx hb dX14_trace_46 rfl (lv_at hl 0 rfl) ?_
          refine zt_getk (t := 14) (C := RX14) (T := TX14) (N := 40) Z h hth zin_14 rfl 0 kF_30 ⟨by decide, rfl, by decide⟩ (zm_RX14 (List.mem_of_getElem? (i := 105) rfl)) (fun _ h9 => h9) dX14_trace_47 ?_
          refine lv_if_le (tgt := 57) hx hb dX14_trace_50 (by decide) (fun h9 => absurd h9 (by decide)) (fun _ => ?_)
          refine lv_iconst (v := 0) hx hb dX14_trace_53 (by decide) ?_
          refine lv_goto (tgt := 70) hx hb dX14_trace_54 (by decide) ?_
          subst hQ
          exact W.iret (v := 0) hx hb hr (fun t ht hW => ⟨⟨0, F_30, rfl, ⟨⟨1, kF_30, (zB.of ⟨by decide, by decide⟩), (by have := bi_14.1; have := bi_14.2; have := (zB.all wh).1; have := (zB.all wh).2; have := bhs_4.1; have := bhs_4.2; have := bx_9.1; have := bx_9.2; have : (0 : Int32).toInt = 0 := (by decide); have : (1 : Int32).toInt = 1 := (by decide); have : (3 : Int32).toInt = 3 := (by decide); have : (400 : Int32).toInt = 400 := (by decide); omega), (Or.inl ⟨by have := bi_14.1; have := bi_14.2; have := (zB.all wh).1; have := (zB.all wh).2; have := bhs_4.1; have := bhs_4.2; have := bx_9.1; have := bx_9.2; have : (0 : Int32).toInt = 0 := (by decide); have : (1 : Int32).toInt = 1 := (by decide); have : (3 : Int32).toInt = 3 := (by decide); have : (400 : Int32).toInt = 400 := (by decide); omega, by have := bi_14.1; have := bi_14.2; have := (zB.all wh).1; have := (zB.all wh).2; have := bhs_4.1; have := bhs_4.2; have := bx_9.1; have := bx_9.2; have : (0 : Int32).toInt = 0 := (by decide); have : (1 : Int32).toInt = 1 := (by decide); have : (3 : Int32).toInt = 3 := (by decide); have : (400 : Int32).toInt = 400 := (by decide); omega⟩)⟩, trivial⟩, by rw [ht]; exact h.1, h.2.1, hfF_30⟩, h.2.2.F ht⟩) h.2.2.2.2 dX14_trace_70

set_option maxHeartbeats 4000000 in
set_option maxRecDepth 100000 in
theorem zx_X14_covered (l : Launch) (D : va_G) (k : Nat → ClassId) (Γ : Nat → Option Nat) (L : List Nat) (F : Nat → va_E) (sz : Nat) (th : Nat) (li : Int32) (lt : Nat) (hs : Int32) (μ : zVm) (pr : Nat) (is_ : Int32) (nl : Int32) (hth : Γ th = some 14) (klt : zfld F th 22 = .ref lt) (hlt : Γ lt = some 12) (khs : zfld F th 24 = .int hs) (bhs : zB 0 1 hs) (hr0 : (hs.toInt ≠ 0 → zVt F lt μ)) (kpr : zfld F th 4 = .ref pr) (hpr : Γ pr = some 11) (kis_ : zfld F th 7 = .int is_) (bis_ : zB 0 1 is_) (knl : zfld F pr 1 = .int nl) (bnl : zB 0 60 nl) : Met l yX14_covered zwX14_covered ({ frames := 1, cells := 0, slots := 0, locals := 21 }) (va_Pc [.ref th, .int li] (zP D k Γ L F sz)) (va_Qi (fun (r : Int32) (u : Nat → va_E) => ((hs.toInt ≠ 0 ∧ is_.toInt ≠ 0 ∧ 0 ≤ li.toInt ∧ li.toInt < nl.toInt → r = zcvb (zln9 (vcv μ)) li.toInt.toNat) ∧ (hs.toInt = 0 ∨ is_.toInt = 0 ∨ li.toInt < 0 ∨ nl.toInt ≤ li.toInt → r.toInt = -1)) ∧ True) (zQ D k Γ L F [1400]) (zA L sz)) 0 0 (zA L sz) := by
  refine Met.ofW (cc := cX14_covered) (maxL := 2) (ret := (some .int)) (by decide) rfl ?_
  intro p e s m args below meth c s₁ B hml hv
  obtain ⟨rfl, hsz, hP, hK, hLn, hE, hI⟩ := hv
  have hx := B.exec
  have hb := B.bytes
  have hr := B.returns
  have hg : ∀ w ∈ zG, w.before _ s = true := fun w h9 => atoms_spec (ws := zwX14_covered) B.pre w (List.mem_cons_of_mem _ h9)
  have hown : s.vm.findClass RX14 = some m.cls := findClass_of_methodNamed B.named
  have hlocks := B.notSynchronized
  subst hsz
  have Z : zC p m c cX14_covered 2 s _ zG RX14 D k L := ⟨⟨hx, hb, hml, hown, hg⟩, hK, hLn, hE⟩
  have h : zH D k Γ L s F s.heap [] := ⟨hP, hI, va_S.rf⟩
  have hl := lv_entry ([.ref th, .int li]) (n := 2) (Nat.le_of_ble_eq_true rfl)
  rw [lg_entry_eq]
  generalize (lg_sl ([.ref th, .int li]) ++ List.replicate (2 - (lg_sl ([.ref th, .int li])).length) Slot.unset).toArray = ls at hl ⊢
  have hl : lv_has ls 2 [(0, .ref th), (1, .int li)] := hl
  clear hP hK hLn hE hI
  generalize hargs : ([.ref th, .int li] : List Value).toArray = args at *
  refine z_start (fun R Q hRf hRl hQ => ?_)
  have hRf : R.frames = 1 := hRf
  have hRl : R.locals = 21 := hRl
  have h9 := h
  have hI0 := h.2.1
  refine lv_aload_n hx hb dX14_covered_0 rfl (lv_at hl 0 rfl) ?_
  refine lv_iconst (v := 0) hx hb dX14_covered_1 (by decide) ?_
  refine zt_put (t := 14) (C := RX14) (T := TX14) (N := 40) (v := .int 0) Z h hth zin_14 tyX14 tyX14_ok nmX14 rfl 0 rfl ⟨by decide, rfl⟩ (zm_RX14 (List.mem_of_getElem? (i := 105) rfl)) (fun _ h9 => h9) rfl (zV.i (zB.of ⟨by decide, by decide⟩)) rfl rfl dX14_covered_2 (fun H locs F_1 h hfF_1 kF_1 => ?_)
  refine lv_aload_n hx hb dX14_covered_5 rfl (lv_at hl 0 rfl) ?_
  refine zt_getk (t := 14) (C := RX14) (T := TX14) (N := 40) Z h hth zin_14 rfl 24 (hfF_1.f hth 24 ⟨by decide, by decide⟩ khs) ⟨by decide, rfl, by decide⟩ (zm_RX14 (List.mem_of_getElem? (i := 124) rfl)) (fun _ h9 => h9) dX14_covered_6 ?_
  refine lv_if_eq (tgt := 35) hx hb dX14_covered_9 (by decide) (fun c_2 => ?_) (fun c_2 => ?_)
  · have c_2 := z_eq c_2
    have bhs_3 : zB 0 0 hs := zB.eqL (a := 0) (b := 0) c_2 (zBc 0 0 (by decide))
    refine lv_iconst (v := (-1)) hx hb dX14_covered_35 (by decide) ?_
    subst hQ
    exact W.iret (v := (-1)) hx hb hr (fun t ht hW => ⟨⟨(-1), F_1, rfl, ⟨⟨fun h9 => by exfalso; have := (zB.all li).1; have := (zB.all li).2; have := bhs_3.1; have := bhs_3.2; have := bis_.1; have := bis_.2; have := bnl.1; have := bnl.2; have : ((-1) : Int32).toInt = (-1) := (by decide); have : (0 : Int32).toInt = 0 := (by decide); omega, fun _ => by have := (zB.all li).1; have := (zB.all li).2; have := bhs_3.1; have := bhs_3.2; have := bis_.1; have := bis_.2; have := bnl.1; have := bnl.2; have : ((-1) : Int32).toInt = (-1) := (by decide); have : (0 : Int32).toInt = 0 := (by decide); omega⟩, trivial⟩, by rw [ht]; exact h.1, h.2.1, hfF_1⟩, h.2.2.F ht⟩) h.2.2.2.2 dX14_covered_36
  · have c_2 := z_ne c_2
    have bhs_4 : zB 1 1 hs := zB.neLo c_2 bhs (zBc 0 0 (by decide)) (by decide)
    refine lv_aload_n hx hb dX14_covered_12 rfl (lv_at hl 0 rfl) ?_
    refine lv_iload_n hx hb dX14_covered_13 rfl (lv_at hl 1 rfl) ?_
    refine zk_Vi (As := [.int li]) (rest := []) (bytes := cX14_isLine) (maxL := 2) (ret := (some .boolean)) Z h (zc_X14_isLine l D k Γ L F_1 H.size th li pr is_ nl hth (hfF_1.f hth 4 ⟨by decide, by decide⟩ kpr) hpr (hfF_1.f hth 7 ⟨by decide, by decide⟩ kis_) bis_ (hfF_1.f hpr 1 ⟨by decide, by decide⟩ knl) bnl) (cwV 1 hg zv_RX14_341 rfl rfl rfl zd_X14_isLine ⟨z_leR hRf (by decide), z_leR hRl (by decide)⟩) hth (by decide) rfl rfl hl.1 rfl (Nat.le_of_ble_eq_true rfl) dX14_covered_14 ⟨Nat.zero_le _, Nat.zero_le _⟩ (fun r_5 F_6 H locs w_7 h hfF_6 => ?_)
    obtain ⟨rfl, br_5, q_8, q_9, q_10, -⟩ := w_7
    refine lv_if_eq (tgt := 35) hx hb dX14_covered_17 (by decide) (fun c_11 => ?_) (fun c_11 => ?_)
    · have q_12 := q_10 c_11
      have c_11 := z_eq c_11
      have br_5_13 : zB 0 0 r_5 := zB.eqL (a := 0) (b := 0) c_11 (zBc 0 0 (by decide))
      refine lv_iconst (v := (-1)) hx hb dX14_covered_35 (by decide) ?_
      subst hQ
      exact W.iret (v := (-1)) hx hb hr (fun t ht hW => ⟨⟨(-1), F_1, rfl, ⟨⟨fun h9 => by exfalso; have := (zB.all li).1; have := (zB.all li).2; have := bhs_4.1; have := bhs_4.2; have := bis_.1; have := bis_.2; have := bnl.1; have := bnl.2; have : ((-1) : Int32).toInt = (-1) := (by decide); have : (0 : Int32).toInt = 0 := (by decide); omega, fun _ => by have := (zB.all li).1; have := (zB.all li).2; have := bhs_4.1; have := bhs_4.2; have := bis_.1; have := bis_.2; have := bnl.1; have := bnl.2; have : ((-1) : Int32).toInt = (-1) := (by decide); have : (0 : Int32).toInt = 0 := (by decide); omega⟩, trivial⟩, by rw [ht]; exact h.1, h.2.1, hfF_1⟩, h.2.2.F ht⟩) h.2.2.2.2 dX14_covered_36
    · have bli_14 : zB 0 59 li := q_8 c_11
      have q_15 := q_9 c_11
      have c_11 := z_ne c_11
      have br_5_16 : zB 1 1 r_5 := zB.neLo c_11 br_5 (zBc 0 0 (by decide)) (by decide)
      refine lv_aload_n hx hb dX14_covered_20 rfl (lv_at hl 0 rfl) ?_
      refine zt_getk (t := 14) (C := RX14) (T := TX14) (N := 40) Z h hth zin_14 rfl 22 (hfF_1.f hth 22 ⟨by decide, by decide⟩ klt) ⟨by decide, rfl, by decide⟩ (zm_RX14 (List.mem_of_getElem? (i := 183) rfl)) (fun _ h9 => h9) dX14_covered_21 ?_
      refine zt_getlN (t := 12) (C := RX12) (T := TX12) (N := 10) Z h hlt zin_12 rfl 6 rfl ⟨by decide, rfl⟩ (zn_38 Z) (fun _ h9 => h9) dX14_covered_24 (fun g_17 kg_17 => ?_)
      refine lv_iload_n hx hb dX14_covered_27 rfl (lv_at hl 1 rfl) ?_
      have hv_18 := (hr0 (by have := bli_14.1; have := bli_14.2; have := bhs_4.1; have := bhs_4.2; have := bis_.1; have := bis_.2; have := bnl.1; have := bnl.2; have : (0 : Int32).toInt = 0 := (by decide); omega)).fr hI0 (hfF_1 : zFr Γ [1400] F F_1) hlt (by decide)
      refine lv_lshr hx hb dX14_covered_28 rfl ?_
      refine lv_topl (fun g_19 eg_19 => ?_)
      refine lv_lconst (v := 1) hx hb dX14_covered_29 (by decide) ?_
      refine lv_land hx hb dX14_covered_30 ?_
      refine lv_topl (fun g_20 eg_20 => ?_)
      refine lv_l2i hx hb dX14_covered_31 rfl ?_
      refine zi_any (fun x_21 bx_21 ex_21 => ?_)
      refine lv_goto (tgt := 36) hx hb dX14_covered_32 (by decide) ?_
      subst hQ
      exact W.iret (v := x_21) hx hb hr (fun t ht hW => ⟨⟨x_21, F_1, rfl, ⟨⟨fun h9 => by have h6 := zbt2 (vcv μ) (l := li.toInt.toNat) (by have := bli_14.1; have := bli_14.2; have := bx_21.1; have := bx_21.2; have := bhs_4.1; have := bhs_4.2; have := bis_.1; have := bis_.2; have := bnl.1; have := bnl.2; have : (0 : Int32).toInt = 0 := (by decide); omega); rw [zv_ofNat (by have := bli_14.1; have := bli_14.2; have := bx_21.1; have := bx_21.2; have := bhs_4.1; have := bhs_4.2; have := bis_.1; have := bis_.2; have := bnl.1; have := bnl.2; have : (0 : Int32).toInt = 0 := (by decide); omega)] at h6; rw [ex_21, eg_20, eg_19, show g_17 = vcv μ from z_vl kg_17 hv_18.1.2.1, h6]; unfold zcvb; split <;> rfl, fun h9 => by exfalso; have := bli_14.1; have := bli_14.2; have := bx_21.1; have := bx_21.2; have := bhs_4.1; have := bhs_4.2; have := bis_.1; have := bis_.2; have := bnl.1; have := bnl.2; have : (0 : Int32).toInt = 0 := (by decide); omega⟩, trivial⟩, by rw [ht]; exact h.1, h.2.1, hfF_1⟩, h.2.2.F ht⟩) h.2.2.2.2 dX14_covered_36

set_option maxHeartbeats 4000000 in
set_option maxRecDepth 100000 in
theorem zx_X14_place (l : Launch) (D : va_G) (k : Nat → ClassId) (Γ : Nat → Option Nat) (L : List Nat) (F : Nat → va_E) (sz : Nat) (th : Nat) (q : Int32) (lt : Nat) (hs : Int32) (μ : zVm) (hth : Γ th = some 14) (klt : zfld F th 22 = .ref lt) (hlt : Γ lt = some 12) (khs : zfld F th 24 = .int hs) (bhs : zB 0 1 hs) (hr0 : (hs.toInt ≠ 0 → zVt F lt μ)) : Met l yX14_place zwX14_place ({ frames := 1, cells := 0, slots := 0, locals := 22 }) (va_Pc [.ref th, .int q] (zP D k Γ L F sz)) (va_Qi (fun (r : Int32) (u : Nat → va_E) => ((hs.toInt ≠ 0 ∧ 0 ≤ q.toInt ∧ q.toInt < 8 → r = vpl μ q.toInt.toNat) ∧ (hs.toInt = 0 ∨ q.toInt < 0 ∨ 8 ≤ q.toInt → r.toInt = -1)) ∧ True) (zQ D k Γ L F [1400, 1401, 1402]) (zA L sz)) 0 0 (zA L sz) := by
  refine Met.ofW (cc := cX14_place) (maxL := 2) (ret := (some .int)) (by decide) rfl ?_
  intro p e s m args below meth c s₁ B hml hv
  obtain ⟨rfl, hsz, hP, hK, hLn, hE, hI⟩ := hv
  have hx := B.exec
  have hb := B.bytes
  have hr := B.returns
  have hg : ∀ w ∈ zG, w.before _ s = true := fun w h9 => atoms_spec (ws := zwX14_place) B.pre w (List.mem_cons_of_mem _ h9)
  have hown : s.vm.findClass RX14 = some m.cls := findClass_of_methodNamed B.named
  have hlocks := B.notSynchronized
  subst hsz
  have Z : zC p m c cX14_place 2 s _ zG RX14 D k L := ⟨⟨hx, hb, hml, hown, hg⟩, hK, hLn, hE⟩
  have h : zH D k Γ L s F s.heap [] := ⟨hP, hI, va_S.rf⟩
  have hl := lv_entry ([.ref th, .int q]) (n := 2) (Nat.le_of_ble_eq_true rfl)
  rw [lg_entry_eq]
  generalize (lg_sl ([.ref th, .int q]) ++ List.replicate (2 - (lg_sl ([.ref th, .int q])).length) Slot.unset).toArray = ls at hl ⊢
  have hl : lv_has ls 2 [(0, .ref th), (1, .int q)] := hl
  clear hP hK hLn hE hI
  generalize hargs : ([.ref th, .int q] : List Value).toArray = args at *
  refine z_start (fun R Q hRf hRl hQ => ?_)
  have hRf : R.frames = 1 := hRf
  have hRl : R.locals = 22 := hRl
  have h9 := h
  have hI0 := h.2.1
  refine lv_aload_n hx hb dX14_place_0 rfl (lv_at hl 0 rfl) ?_
  refine lv_iconst (v := 0) hx hb dX14_place_1 (by decide) ?_
  refine zt_put (t := 14) (C := RX14) (T := TX14) (N := 40) (v := .int 0) Z h hth zin_14 tyX14 tyX14_ok nmX14 rfl 0 rfl ⟨by decide, rfl⟩ (zm_RX14 (List.mem_of_getElem? (i := 105) rfl)) (fun _ h9 => h9) rfl (zV.i (zB.of ⟨by decide, by decide⟩)) rfl rfl dX14_place_2 (fun H locs F_1 h hfF_1 kF_1 => ?_)
  refine lv_aload_n hx hb dX14_place_5 rfl (lv_at hl 0 rfl) ?_
  refine zt_getk (t := 14) (C := RX14) (T := TX14) (N := 40) Z h hth zin_14 rfl 24 (hfF_1.f hth 24 ⟨by decide, by decide⟩ khs) ⟨by decide, rfl, by decide⟩ (zm_RX14 (List.mem_of_getElem? (i := 124) rfl)) (fun _ h9 => h9) dX14_place_6 ?_
  refine lv_if_ne (tgt := 18) hx hb dX14_place_9 (by decide) (fun c_2 => ?_) (fun c_2 => ?_)
  · have c_2 := z_ne c_2
    have bhs_3 : zB 1 1 hs := zB.neLo c_2 bhs (zBc 0 0 (by decide)) (by decide)
    refine lv_iload_n hx hb dX14_place_18 rfl (lv_at hl 1 rfl) ?_
    refine lv_iconst (v := 0) hx hb dX14_place_19 (by decide) ?_
    refine lv_bipush (v := 7) hx hb dX14_place_20 (by decide) ?_
    refine zk_Si (As := [.int q, .int 0, .int 7]) (rest := []) (bytes := cX14_in) (maxL := 3) (ret := (some .boolean)) Z h (zx_X14_in l D k Γ L F_1 H.size q 0 7) (va_cwS 3 hg zv_RX14_407 rfl rfl rfl zd_X14_in ⟨z_leR hRf (by decide), z_leR hRl (by decide)⟩) rfl hl.1 rfl (Nat.le_of_ble_eq_true rfl) dX14_place_22 ⟨Nat.zero_le _, Nat.zero_le _⟩ (fun r_4 F_5 H locs w_6 h hfF_5 => ?_)
    obtain ⟨rfl, br_4, q_7, -⟩ := w_6
    refine lv_if_eq (tgt := 44) hx hb dX14_place_25 (by decide) (fun c_8 => ?_) (fun c_8 => ?_)
    · have c_8 := z_eq c_8
      have br_4_9 : zB 0 0 r_4 := zB.eqL (a := 0) (b := 0) c_8 (zBc 0 0 (by decide))
      refine lv_aload_n hx hb dX14_place_44 rfl (lv_at hl 0 rfl) ?_
      refine lv_iconst (v := 2) hx hb dX14_place_45 (by decide) ?_
      refine zk_Vi (As := [.int 2]) (rest := []) (bytes := cX14_refused) (maxL := 2) (ret := (some .int)) Z h (zc_X14_refused l D k Γ L F_1 H.size th 2 hth) (cwV 1 hg zv_RX14_307 rfl rfl rfl zd_X14_refused ⟨z_leR hRf (by decide), z_leR hRl (by decide)⟩) hth (by decide) rfl rfl hl.1 rfl (Nat.le_of_ble_eq_true rfl) dX14_place_46 ⟨Nat.zero_le _, Nat.zero_le _⟩ (fun r_10 F_11 H locs w_12 h hfF_11 => ?_)
      obtain ⟨br_10, -⟩ := w_12
      subst hQ
      exact W.iret (v := r_10) hx hb hr (fun t ht hW => ⟨⟨r_10, F_11, rfl, ⟨⟨fun h9 => by exfalso; have := (zB.all q).1; have := (zB.all q).2; have := br_10.1; have := br_10.2; have := bhs_3.1; have := bhs_3.2; have : (0 : Int32).toInt = 0 := (by decide); have : (7 : Int32).toInt = 7 := (by decide); omega, fun _ => by have := (zB.all q).1; have := (zB.all q).2; have := br_10.1; have := br_10.2; have := bhs_3.1; have := bhs_3.2; have : (0 : Int32).toInt = 0 := (by decide); have : (7 : Int32).toInt = 7 := (by decide); omega⟩, trivial⟩, by rw [ht]; exact h.1, h.2.1, ((hfF_1.w (by decide)).trans hfF_11 (by decide))⟩, h.2.2.F ht⟩) h.2.2.2.2 dX14_place_49
    · have c_8 := z_ne c_8
      have br_4_13 : zB 1 1 r_4 := zB.neLo c_8 br_4 (zBc 0 0 (by decide)) (by decide)
      refine lv_aload_n hx hb dX14_place_28 rfl (lv_at hl 0 rfl) ?_
      refine lv_aload_n hx hb dX14_place_29 rfl (lv_at hl 0 rfl) ?_
      refine zt_getk (t := 14) (C := RX14) (T := TX14) (N := 40) Z h hth zin_14 rfl 22 (hfF_1.f hth 22 ⟨by decide, by decide⟩ klt) ⟨by decide, rfl, by decide⟩ (zm_RX14 (List.mem_of_getElem? (i := 183) rfl)) (fun _ h9 => h9) dX14_place_30 ?_
      refine zt_getrN (t := 12) (C := RX12) (T := TX12) (N := 10) Z h hlt zin_12 rfl 9 rfl ⟨by decide, rfl⟩ (zn_39 Z) (fun _ h9 => h9) dX14_place_33 (fun a_14 ka_14 ha_14 => ?_)
      refine lv_iload_n hx hb dX14_place_36 rfl (lv_at hl 1 rfl) ?_
      have hv_15 := (hr0 (by have := (zB.all q).1; have := (zB.all q).2; have := bhs_3.1; have := bhs_3.2; have : (0 : Int32).toInt = 0 := (by decide); have : (7 : Int32).toInt = 7 := (by decide); omega)).fr hI0 (hfF_1 : zFr Γ [1400] F F_1) hlt (by decide)
      have bq_16 : zB 0 63 q := ⟨by have := (zB.all q).1; have := (zB.all q).2; have := bhs_3.1; have := bhs_3.2; have : (0 : Int32).toInt = 0 := (by decide); have : (7 : Int32).toInt = 7 := (by decide); omega, by have := (zB.all q).1; have := (zB.all q).2; have := bhs_3.1; have := bhs_3.2; have : (0 : Int32).toInt = 0 := (by decide); have : (7 : Int32).toInt = 7 := (by decide); omega⟩
      refine zt_ialde (t := 167) Z h ha_14 ⟨by decide, rfl⟩ bq_16 ⟨by decide, by decide⟩ dX14_place_37 (fun x_17 ex_17 bx_17 => ?_)
      refine zk_Vi (As := [.int x_17]) (rest := []) (bytes := cX14_done) (maxL := 2) (ret := (some .int)) Z h (zx_X14_done l D k Γ L F_1 H.size th x_17 hth) (cwV 1 hg zv_RX14_333 rfl rfl rfl zd_X14_done ⟨z_leR hRf (by decide), z_leR hRl (by decide)⟩) hth (by decide) rfl rfl hl.1 rfl (Nat.le_of_ble_eq_true rfl) dX14_place_38 ⟨Nat.zero_le _, Nat.zero_le _⟩ (fun r_18 F_19 H locs w_20 h hfF_19 => ?_)
      obtain ⟨q_21, -⟩ := w_20
      have br_18 := zB.all r_18
      refine lv_goto (tgt := 49) hx hb dX14_place_41 (by decide) ?_
      subst hQ
      exact W.iret (v := r_18) hx hb hr (fun t ht hW => ⟨⟨r_18, F_19, rfl, ⟨⟨fun h9 => by rw [q_21, ← hv_15.1.2.2.2.2.2.2.2, zar_eq ka_14, show q.toInt.toNat = Int32.toNatClampNeg q from rfl]; exact ex_17.symm, fun h9 => by exfalso; have := bq_16.1; have := bq_16.2; have := br_18.1; have := br_18.2; have := bhs_3.1; have := bhs_3.2; have : (0 : Int32).toInt = 0 := (by decide); have : (7 : Int32).toInt = 7 := (by decide); omega⟩, trivial⟩, by rw [ht]; exact h.1, h.2.1, ((hfF_1.w (by decide)).trans hfF_19 (by decide))⟩, h.2.2.F ht⟩) h.2.2.2.2 dX14_place_49
  · have c_2 := z_eq c_2
    have bhs_22 : zB 0 0 hs := zB.eqL (a := 0) (b := 0) c_2 (zBc 0 0 (by decide))
    refine lv_aload_n hx hb dX14_place_12 rfl (lv_at hl 0 rfl) ?_
    refine lv_iconst (v := 5) hx hb dX14_place_13 (by decide) ?_
    refine zk_Vi (As := [.int 5]) (rest := []) (bytes := cX14_refused) (maxL := 2) (ret := (some .int)) Z h (zc_X14_refused l D k Γ L F_1 H.size th 5 hth) (cwV 1 hg zv_RX14_307 rfl rfl rfl zd_X14_refused ⟨z_leR hRf (by decide), z_leR hRl (by decide)⟩) hth (by decide) rfl rfl hl.1 rfl (Nat.le_of_ble_eq_true rfl) dX14_place_14 ⟨Nat.zero_le _, Nat.zero_le _⟩ (fun r_23 F_24 H locs w_25 h hfF_24 => ?_)
    obtain ⟨br_23, -⟩ := w_25
    subst hQ
    exact W.iret (v := r_23) hx hb hr (fun t ht hW => ⟨⟨r_23, F_24, rfl, ⟨⟨fun h9 => by exfalso; have := (zB.all q).1; have := (zB.all q).2; have := br_23.1; have := br_23.2; have := bhs_22.1; have := bhs_22.2; have : (0 : Int32).toInt = 0 := (by decide); omega, fun _ => by have := (zB.all q).1; have := (zB.all q).2; have := br_23.1; have := br_23.2; have := bhs_22.1; have := bhs_22.2; have : (0 : Int32).toInt = 0 := (by decide); omega⟩, trivial⟩, by rw [ht]; exact h.1, h.2.1, ((hfF_1.w (by decide)).trans hfF_24 (by decide))⟩, h.2.2.F ht⟩) h.2.2.2.2 dX14_place_17
