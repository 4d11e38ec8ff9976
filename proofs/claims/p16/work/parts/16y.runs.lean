set_option maxHeartbeats 4000000 in
set_option maxRecDepth 100000 in
theorem zm_X10_accept (l : Launch) (D : va_G) (k : Nat → ClassId) (Γ : Nat → Option Nat) (L : List Nat) (F : Nat → va_E) (sz : Nat) (th : Nat) (an : Int32) (hth : Γ th = some 10) : Met l yX10_accept zwX10_accept ({ frames := 0, cells := 0, slots := 0, locals := 0 }) (va_Pc [.ref th, .int an] (zP D k Γ L F sz)) (va_Qi (fun (r : Int32) (u : Nat → va_E) => r = an ∧ True) (zQ D k Γ L F [1013]) (zA L sz)) 0 0 (zA L sz) := by
  refine Met.ofW (cc := cX10_accept) (maxL := 2) (ret := (some .int)) (by decide) rfl ?_
  intro p e s m args below meth c s₁ B hml hv
  obtain ⟨rfl, hsz, hP, hK, hLn, hE, hI⟩ := hv
  have hx := B.exec
  have hb := B.bytes
  have hr := B.returns
  have hg : ∀ w ∈ zG, w.before _ s = true := fun w h9 => atoms_spec (ws := zwX10_accept) B.pre w (List.mem_cons_of_mem _ h9)
  have hown : s.vm.findClass RX10 = some m.cls := findClass_of_methodNamed B.named
  have hlocks := B.notSynchronized
  subst hsz
  have Z : zC p m c cX10_accept 2 s _ zG RX10 D k L := ⟨⟨hx, hb, hml, hown, hg⟩, hK, hLn, hE⟩
  have h : zH D k Γ L s F s.heap [] := ⟨hP, hI, va_S.rf⟩
  have hl := lv_entry ([.ref th, .int an]) (n := 2) (Nat.le_of_ble_eq_true rfl)
  rw [lg_entry_eq]
  generalize (lg_sl ([.ref th, .int an]) ++ List.replicate (2 - (lg_sl ([.ref th, .int an])).length) Slot.unset).toArray = ls at hl ⊢
  have hl : lv_has ls 2 [(0, .ref th), (1, .int an)] := hl
  clear hP hK hLn hE hI
  generalize hargs : ([.ref th, .int an] : List Value).toArray = args at *
  refine z_start (fun R Q hRf hRl hQ => ?_)
  have hRf : R.frames = 0 := hRf
  have hRl : R.locals = 0 := hRl
  have h9 := h
  refine lv_aload_n hx hb dX10_accept_0 rfl (lv_at hl 0 rfl) ?_
  refine lv_iconst (v := 0) hx hb dX10_accept_1 (by decide) ?_
  refine zt_put (t := 10) (C := RX10) (T := TX10) (N := 14) (v := .int 0) Z h hth zin_10 tyX10 tyX10_ok nmX10 rfl 13 rfl ⟨by decide, rfl⟩ (zm_RX10 (List.mem_of_getElem? (i := 25) rfl)) (fun _ h9 => h9) rfl (zV.i (zB.of ⟨by decide, by decide⟩)) rfl rfl dX10_accept_2 (fun H locs F_1 h hfF_1 kF_1 => ?_)
  refine lv_iload_n hx hb dX10_accept_5 rfl (lv_at hl 1 rfl) ?_
  subst hQ
  exact W.iret (v := an) hx hb hr (fun t ht hW => ⟨⟨an, F_1, rfl, ⟨rfl, trivial⟩, by rw [ht]; exact h.1, h.2.1, hfF_1⟩, h.2.2.F ht⟩) h.2.2.2.2 dX10_accept_6

set_option maxHeartbeats 4000000 in
set_option maxRecDepth 100000 in
theorem zm_X10_run (l : Launch) (D : va_G) (k : Nat → ClassId) (Γ : Nat → Option Nat) (L : List Nat) (F : Nat → va_E) (sz : Nat) (th : Nat) (f : Int32) (x : Int32) (y : Int32) (z : Int32) (fu : Int32) (pr : Nat) (fa : Nat → Nat) (pg : zPg) (co : Nat) (A : Nat → Nat × Int × Nat) (na : Nat) (mt : Nat) (nx_ : Int32) (X : List Nat) (hth : Γ th = some 10) (kpr : zfld F th 2 = .ref pr) (hpr : Γ pr = some 6) (p_vp : zVp Γ F pr fa pg) (kco : zfld F pr 1 = .ref co) (hco : Γ co = some 1) (p_vq : zVq Γ F co A na) (kmt : zfld F th 5 = .ref mt) (hmt : Γ mt = some 5) (knx_ : zfld F mt 14 = .int nx_) (bnx_ : zB (-2147483648) 2147483647 nx_) (hr0 : zMa Γ F mt X) (hr1 : ∀ q, q < na → (A q).1 ≤ 16 ∧ (13 ≤ (A q).1 → (A q).1 ≤ 15 → 0 ≤ (A q).2.1)) : Met l yX10_run zwX10_run ({ frames := 5, cells := 0, slots := 0, locals := 114 }) (va_Pc [.ref th, .int f, .int x, .int y, .int z, .int fu] (zP D k Γ L F sz)) (va_Qi (fun (r : Int32) (u : Nat → va_E) => ((0 ≤ f.toInt ∧ f.toInt < (pg.1.1 : Int) ∧ 1 ≤ fu.toInt ∧ fu.toInt ≤ 2000 → r.toInt = ven (v_run ((-1) : Int32).toInt fu.toInt pg A na 4000000 (v_enter pg f.toInt (v_cut (pg.1.2 f.toInt.toNat) x y z (v_new0 (zar F mt 7) (zar F mt 8) (zar F mt 9) (zng nx_)))))) ∧ (¬ (0 ≤ f.toInt ∧ f.toInt < (pg.1.1 : Int) ∧ 1 ≤ fu.toInt ∧ fu.toInt ≤ 2000) → r.toInt = -1)) ∧ (∀ a t, Γ a = some t → t ∈ zS5 → t ≠ 10 → a ∉ X → u a = F a) ∧ (0 ≤ f.toInt ∧ f.toInt < (pg.1.1 : Int) ∧ 1 ≤ fu.toInt ∧ fu.toInt ≤ 2000 → zVc u mt (v_run ((-1) : Int32).toInt fu.toInt pg A na 4000000 (v_enter pg f.toInt (v_cut (pg.1.2 f.toInt.toNat) x y z (v_new0 (zar F mt 7) (zar F mt 8) (zar F mt 9) (zng nx_)))))) ∧ (0 ≤ f.toInt ∧ f.toInt < (pg.1.1 : Int) ∧ 1 ≤ fu.toInt ∧ fu.toInt ≤ 2000 → zfld u th 8 = .int 1) ∧ (¬ (0 ≤ f.toInt ∧ f.toInt < (pg.1.1 : Int) ∧ 1 ≤ fu.toInt ∧ fu.toInt ≤ 2000) → zfld u th 8 = zfld F th 8 ∧ ∀ a t, Γ a = some t → t ∈ zS5 → t ≠ 10 → u a = F a) ∧ True) (zQ D k Γ L F [500, 501, 502, 503, 504, 505, 506, 510, 511, 512, 513, 514, 515, 518, 1008, 1013, 10800, 10900, 11000, 11100, 11200]) (zA L sz)) 0 0 (zA L sz) := by
  refine Met.ofW (cc := cX10_run) (maxL := 6) (ret := (some .int)) (by decide) rfl ?_
  intro p e s m args below meth c s₁ B hml hv
  obtain ⟨rfl, hsz, hP, hK, hLn, hE, hI⟩ := hv
  have hx := B.exec
  have hb := B.bytes
  have hr := B.returns
  have hg : ∀ w ∈ zG, w.before _ s = true := fun w h9 => atoms_spec (ws := zwX10_run) B.pre w (List.mem_cons_of_mem _ h9)
  have hown : s.vm.findClass RX10 = some m.cls := findClass_of_methodNamed B.named
  have hlocks := B.notSynchronized
  subst hsz
  have Z : zC p m c cX10_run 6 s _ zG RX10 D k L := ⟨⟨hx, hb, hml, hown, hg⟩, hK, hLn, hE⟩
  have h : zH D k Γ L s F s.heap [] := ⟨hP, hI, va_S.rf⟩
  have hl := lv_entry ([.ref th, .int f, .int x, .int y, .int z, .int fu]) (n := 6) (Nat.le_of_ble_eq_true rfl)
  rw [lg_entry_eq]
  generalize (lg_sl ([.ref th, .int f, .int x, .int y, .int z, .int fu]) ++ List.replicate (6 - (lg_sl ([.ref th, .int f, .int x, .int y, .int z, .int fu])).length) Slot.unset).toArray = ls at hl ⊢
  have hl : lv_has ls 6 [(0, .ref th), (1, .int f), (2, .int x), (3, .int y), (4, .int z), (5, .int fu)] := hl
  clear hP hK hLn hE hI
  generalize hargs : ([.ref th, .int f, .int x, .int y, .int z, .int fu] : List Value).toArray = args at *
  refine z_start (fun R Q hRf hRl hQ => ?_)
  have hRf : R.frames = 5 := hRf
  have hRl : R.locals = 114 := hRl
  have h9 := h
  obtain ⟨fc_, kfc_, tfc_⟩ := p_vp.2.1
  have hfc_ := p_vp.2.2.1
  have bfc_ : zB 0 10 fc_ := ⟨by omega, by omega⟩
  have hI0 := h.2.1
  refine lv_aload_n hx hb dX10_run_0 rfl (lv_at hl 0 rfl) ?_
  refine zt_getk (t := 10) (C := RX10) (T := TX10) (N := 14) Z h hth zin_10 rfl 2 kpr ⟨by decide, rfl, by decide⟩ (zm_RX10 (List.mem_of_getElem? (i := 21) rfl)) (fun _ h9 => h9) dX10_run_1 ?_
  refine lv_iload_n hx hb dX10_run_4 rfl (lv_at hl 1 rfl) ?_
  refine zk_Vi (As := [.int f]) (rest := []) (bytes := cX6_hasFunction) (maxL := 2) (ret := (some .boolean)) Z h (ze_X6_hasFunction l D k Γ L F s.heap.size pr f fc_ hpr kfc_ bfc_) (cwV 1 hg zv_RX10_98 rfl rfl rfl zd_X6_hasFunction ⟨z_leR hRf (by decide), z_leR hRl (by decide)⟩) hpr (by decide) rfl rfl hl.1 rfl (Nat.le_of_ble_eq_true rfl) dX10_run_5 ⟨Nat.zero_le _, Nat.zero_le _⟩ (fun r_1 F_2 H locs w_3 h hfF_2 => ?_)
  obtain ⟨rfl, br_1, q_4, q_5, -⟩ := w_3
  refine lv_if_ne (tgt := 17) hx hb dX10_run_8 (by decide) (fun c_6 => ?_) (fun c_6 => ?_)
  · have q_7 := q_4 c_6
    have c_6 := z_ne c_6
    have br_1_8 : zB 1 1 r_1 := zB.neLo c_6 br_1 (zBc 0 0 (by decide)) (by decide)
    refine lv_iload hx hb dX10_run_17 (lv_at hl 5 rfl) ?_
    refine lv_iconst (v := 1) hx hb dX10_run_19 (by decide) ?_
    refine lv_icmp_lt (tgt := 31) hx hb dX10_run_20 (by decide) (fun c_9 => ?_) (fun c_9 => ?_)
    · have c_9 := z_lt c_9
      have bfu_10 : zB (-2147483648) 0 fu := zB.ltL c_9 (zB.all fu) (zBc 1 1 (by decide)) (by decide)
      refine lv_aload_n hx hb dX10_run_31 rfl (lv_at hl 0 rfl) ?_
      refine lv_iconst (v := 2) hx hb dX10_run_32 (by decide) ?_
      refine zk_Vi (As := [.int 2]) (rest := []) (bytes := cX10_refuse) (maxL := 2) (ret := (some .int)) Z h (zc_X10_refuse l D k Γ L F H.size th 2 hth) (cwV 1 hg zv_RX10_68 rfl rfl rfl zd_X10_refuse ⟨z_leR hRf (by decide), z_leR hRl (by decide)⟩) hth (by decide) rfl rfl hl.1 rfl (Nat.le_of_ble_eq_true rfl) dX10_run_33 ⟨Nat.zero_le _, Nat.zero_le _⟩ (fun r_11 F_12 H locs w_13 h hfF_12 => ?_)
      obtain ⟨br_11, -⟩ := w_13
      subst hQ
      exact W.iret (v := r_11) hx hb hr (fun t ht hW => ⟨⟨r_11, F_12, rfl, ⟨⟨fun h9 => by exfalso; have := (zB.all f).1; have := (zB.all f).2; have := (zB.all x).1; have := (zB.all x).2; have := (zB.all y).1; have := (zB.all y).2; have := (zB.all z).1; have := (zB.all z).2; have := bfu_10.1; have := bfu_10.2; have := br_11.1; have := br_11.2; have := bnx_.1; have := bnx_.2; have := bfc_.1; have := bfc_.2; have : (0 : Int32).toInt = 0 := (by decide); have : (1 : Int32).toInt = 1 := (by decide); omega, fun _ => by have := (zB.all f).1; have := (zB.all f).2; have := (zB.all x).1; have := (zB.all x).2; have := (zB.all y).1; have := (zB.all y).2; have := (zB.all z).1; have := (zB.all z).2; have := bfu_10.1; have := bfu_10.2; have := br_11.1; have := br_11.2; have := bnx_.1; have := bnx_.2; have := bfc_.1; have := bfc_.2; have : (0 : Int32).toInt = 0 := (by decide); have : (1 : Int32).toInt = 1 := (by decide); omega⟩, (fun a t e h1 h2 h3 => zFr.whole hI0 h.2.1 ((hfF_12.w (by decide)) : zFr Γ [1008, 1013] F F_12) (by decide) a t e h1 h2), (fun h9 => by exfalso; have := (zB.all f).1; have := (zB.all f).2; have := (zB.all x).1; have := (zB.all x).2; have := (zB.all y).1; have := (zB.all y).2; have := (zB.all z).1; have := (zB.all z).2; have := bfu_10.1; have := bfu_10.2; have := br_11.1; have := br_11.2; have := bnx_.1; have := bnx_.2; have := bfc_.1; have := bfc_.2; have : (0 : Int32).toInt = 0 := (by decide); have : (1 : Int32).toInt = 1 := (by decide); omega), (fun h9 => by exfalso; have := (zB.all f).1; have := (zB.all f).2; have := (zB.all x).1; have := (zB.all x).2; have := (zB.all y).1; have := (zB.all y).2; have := (zB.all z).1; have := (zB.all z).2; have := bfu_10.1; have := bfu_10.2; have := br_11.1; have := br_11.2; have := bnx_.1; have := bnx_.2; have := bfc_.1; have := bfc_.2; have : (0 : Int32).toInt = 0 := (by decide); have : (1 : Int32).toInt = 1 := (by decide); omega), (fun _ => ⟨((hfF_12 : zFr Γ [1013] F F_12).1 th 10 hth).1 (by decide) 8 (by decide), fun a t e h1 h2 => zFr.whole hI0 h.2.1 (hfF_12 : zFr Γ [1013] F F_12) (by decide) a t e h1 h2⟩), trivial⟩, by rw [ht]; exact h.1, h.2.1, (hfF_12.w (by decide))⟩, h.2.2.F ht⟩) h.2.2.2.2 dX10_run_36
    · have c_9 := z_nlt c_9
      have bfu_14 : zB 1 2147483647 fu := zB.leR c_9 (zBc 1 1 (by decide)) (zB.all fu) (by decide)
      refine lv_iload hx hb dX10_run_23 (lv_at hl 5 rfl) ?_
      refine lv_sipush (v := 2000) hx hb dX10_run_25 (by decide) ?_
      refine lv_icmp_le (tgt := 37) hx hb dX10_run_28 (by decide) (fun c_15 => ?_) (fun c_15 => ?_)
      · have c_15 := z_le c_15
        have bfu_16 : zB 1 2000 fu := zB.leL c_15 bfu_14 (zBc 2000 2000 (by decide)) (by decide)
        refine lv_aload_n hx hb dX10_run_37 rfl (lv_at hl 0 rfl) ?_
        refine zt_getk (t := 10) (C := RX10) (T := TX10) (N := 14) Z h hth zin_10 rfl 5 kmt ⟨by decide, rfl, by decide⟩ (zm_RX10 (List.mem_of_getElem? (i := 46) rfl)) (fun _ h9 => h9) dX10_run_38 ?_
        refine lv_aload_n hx hb dX10_run_41 rfl (lv_at hl 0 rfl) ?_
        refine zt_getk (t := 10) (C := RX10) (T := TX10) (N := 14) Z h hth zin_10 rfl 2 kpr ⟨by decide, rfl, by decide⟩ (zm_RX10 (List.mem_of_getElem? (i := 21) rfl)) (fun _ h9 => h9) dX10_run_42 ?_
        refine lv_iload hx hb dX10_run_45 (lv_at hl 5 rfl) ?_
        refine lv_iconst (v := (-1)) hx hb dX10_run_47 (by decide) ?_
        refine zk_Vv (As := [.ref pr, .int fu, .int (-1)]) (rest := []) (bytes := cX5_start) (maxL := 4) (ret := none) Z h (zj_X5_start l D k Γ L F H.size mt pr fu (-1) nx_ X hmt hpr knx_ bnx_ hr0) (cwV 3 hg zv_RX10_163 rfl rfl rfl zd_X5_start ⟨z_leR hRf (by decide), z_leR hRl (by decide)⟩) hmt (by decide) rfl rfl hl.1 rfl (Nat.le_of_ble_eq_true rfl) dX10_run_48 ⟨Nat.zero_le _, Nat.zero_le _⟩ (fun F_17 H locs w_18 h hfF_17 => ?_)
        obtain ⟨q_19, kq_20, q_21, q_22, q_23, -⟩ := w_18
        refine lv_aload_n hx hb dX10_run_51 rfl (lv_at hl 0 rfl) ?_
        refine zt_getk (t := 10) (C := RX10) (T := TX10) (N := 14) Z h hth zin_10 rfl 5 (hfF_17.f hth 5 ⟨by decide, by decide⟩ kmt) ⟨by decide, rfl, by decide⟩ (zm_RX10 (List.mem_of_getElem? (i := 46) rfl)) (fun _ h9 => h9) dX10_run_52 ?_
        refine lv_iload_n hx hb dX10_run_55 rfl (lv_at hl 1 rfl) ?_
        refine lv_iload_n hx hb dX10_run_56 rfl (lv_at hl 2 rfl) ?_
        refine lv_iload_n hx hb dX10_run_57 rfl (lv_at hl 3 rfl) ?_
        refine lv_iload hx hb dX10_run_58 (lv_at hl 4 rfl) ?_
        have p_24 := (p_vp.fr hfF_17 hpr (by decide))
        have p_25 := (p_vq.fr hfF_17 hco (by decide))
        refine zk_Vv (As := [.int f, .int x, .int y, .int z]) (rest := []) (bytes := cX5_finish) (maxL := 8) (ret := none) Z h (zj_X5_finish l D k Γ L F_17 H.size mt f x y z (v_new0 (zar F mt 7) (zar F mt 8) (zar F mt 9) (zng nx_)) fa pg pr co A na fu (-1) X hmt q_19 kq_20 hpr p_24 (hfF_17.f hpr 1 ⟨by decide, by decide⟩ kco) hco p_25 q_21 (bfu_16.w ⟨by decide, by decide⟩) q_22 (zB.of ⟨by decide, by decide⟩) (by have := (zB.all f).1; have := (zB.all f).2; have := (zB.all x).1; have := (zB.all x).2; have := (zB.all y).1; have := (zB.all y).2; have := (zB.all z).1; have := (zB.all z).2; have := bfu_16.1; have := bfu_16.2; have := bnx_.1; have := bnx_.2; have := bfc_.1; have := bfc_.2; have : ((-1) : Int32).toInt = (-1) := (by decide); have : (0 : Int32).toInt = 0 := (by decide); have : (1 : Int32).toInt = 1 := (by decide); have : (2000 : Int32).toInt = 2000 := (by decide); omega) ⟨rfl, rfl, rfl⟩ rfl hr1 ⟨hr0.1, hr0.2.1, hr0.2.2.fr ((hfF_17 : zFr Γ [500, 501, 502, 503, 504, 505, 506, 510, 511, 512, 513, 515, 518] F F_17)) (by decide)⟩) (cwV 4 hg zv_RX10_167 rfl rfl rfl zd_X5_finish ⟨z_leR hRf (by decide), z_leR hRl (by decide)⟩) hmt (by decide) rfl rfl hl.1 rfl (Nat.le_of_ble_eq_true rfl) dX10_run_60 ⟨Nat.zero_le _, Nat.zero_le _⟩ (fun F_26 H locs w_27 h hfF_26 => ?_)
        obtain ⟨q_28, q_29, -⟩ := w_27
        have hIr_ := h.2.1
        refine lv_aload_n hx hb dX10_run_63 rfl (lv_at hl 0 rfl) ?_
        refine lv_iconst (v := 1) hx hb dX10_run_64 (by decide) ?_
        refine zt_put (t := 10) (C := RX10) (T := TX10) (N := 14) (v := .int 1) Z h hth zin_10 tyX10 tyX10_ok nmX10 rfl 8 rfl ⟨by decide, rfl⟩ (zm_RX10 (List.mem_of_getElem? (i := 49) rfl)) (fun _ h9 => h9) rfl (zV.i (zB.of ⟨by decide, by decide⟩)) rfl rfl dX10_run_65 (fun H locs F_30 h hfF_30 kF_30 => ?_)
        refine lv_aload_n hx hb dX10_run_68 rfl (lv_at hl 0 rfl) ?_
        refine lv_aload_n hx hb dX10_run_69 rfl (lv_at hl 0 rfl) ?_
        refine zt_getk (t := 10) (C := RX10) (T := TX10) (N := 14) Z h hth zin_10 rfl 5 (hfF_30.f hth 5 ⟨by decide, by decide⟩ (hfF_26.f hth 5 ⟨by decide, by decide⟩ (hfF_17.f hth 5 ⟨by decide, by decide⟩ kmt))) ⟨by decide, rfl, by decide⟩ (zm_RX10 (List.mem_of_getElem? (i := 46) rfl)) (fun _ h9 => h9) dX10_run_70 ?_
        refine zt_geti (t := 5) (C := RX5) (T := TX5) (N := 19) Z h hmt zin_5 rfl 0 rfl ⟨by decide, rfl⟩ (zm_RX10 (List.mem_of_getElem? (i := 50) rfl)) (fun _ h9 => h9) dX10_run_73 (fun x_31 kx_31 bx_31 => ?_)
        refine zk_Vi (As := [.int x_31]) (rest := []) (bytes := cX10_accept) (maxL := 2) (ret := (some .int)) Z h (zm_X10_accept l D k Γ L F_30 H.size th x_31 hth) (cwV 1 hg zv_RX10_76 rfl rfl rfl zd_X10_accept ⟨z_leR hRf (by decide), z_leR hRl (by decide)⟩) hth (by decide) rfl rfl hl.1 rfl (Nat.le_of_ble_eq_true rfl) dX10_run_76 ⟨Nat.zero_le _, Nat.zero_le _⟩ (fun r_32 F_33 H locs w_34 h hfF_33 => ?_)
        obtain ⟨q_35, -⟩ := w_34
        have br_32 := zB.all r_32
        subst hQ
        exact W.iret (v := r_32) hx hb hr (fun t ht hW => ⟨⟨r_32, F_33, rfl, ⟨⟨fun _ => (by have h7 := q_28.en; rw [q_35]; exact zFi.is (h7.fr (((hfF_30.w (by decide)).trans hfF_33 (by decide)) : zFr Γ [1008, 1013] F_26 F_33) hmt ⟨by decide, by decide⟩) (hfF_33.f hmt 0 ⟨by decide, by decide⟩ kx_31)), fun h9 => by exfalso; exact h9 ⟨by have := (zB.all f).1; have := (zB.all f).2; have := (zB.all x).1; have := (zB.all x).2; have := (zB.all y).1; have := (zB.all y).2; have := (zB.all z).1; have := (zB.all z).2; have := bfu_16.1; have := bfu_16.2; have := br_32.1; have := br_32.2; have := bfc_.1; have := bfc_.2; have := bx_31.1; have := bx_31.2; have := bnx_.1; have := bnx_.2; have : ((-1) : Int32).toInt = (-1) := (by decide); have : (0 : Int32).toInt = 0 := (by decide); have : (1 : Int32).toInt = 1 := (by decide); have : (2000 : Int32).toInt = 2000 := (by decide); omega, by have := (zB.all f).1; have := (zB.all f).2; have := (zB.all x).1; have := (zB.all x).2; have := (zB.all y).1; have := (zB.all y).2; have := (zB.all z).1; have := (zB.all z).2; have := bfu_16.1; have := bfu_16.2; have := br_32.1; have := br_32.2; have := bfc_.1; have := bfc_.2; have := bx_31.1; have := bx_31.2; have := bnx_.1; have := bnx_.2; have : ((-1) : Int32).toInt = (-1) := (by decide); have : (0 : Int32).toInt = 0 := (by decide); have : (1 : Int32).toInt = 1 := (by decide); have : (2000 : Int32).toInt = 2000 := (by decide); omega, by have := (zB.all f).1; have := (zB.all f).2; have := (zB.all x).1; have := (zB.all x).2; have := (zB.all y).1; have := (zB.all y).2; have := (zB.all z).1; have := (zB.all z).2; have := bfu_16.1; have := bfu_16.2; have := br_32.1; have := br_32.2; have := bfc_.1; have := bfc_.2; have := bx_31.1; have := bx_31.2; have := bnx_.1; have := bnx_.2; have : ((-1) : Int32).toInt = (-1) := (by decide); have : (0 : Int32).toInt = 0 := (by decide); have : (1 : Int32).toInt = 1 := (by decide); have : (2000 : Int32).toInt = 2000 := (by decide); omega, by have := (zB.all f).1; have := (zB.all f).2; have := (zB.all x).1; have := (zB.all x).2; have := (zB.all y).1; have := (zB.all y).2; have := (zB.all z).1; have := (zB.all z).2; have := bfu_16.1; have := bfu_16.2; have := br_32.1; have := br_32.2; have := bfc_.1; have := bfc_.2; have := bx_31.1; have := bx_31.2; have := bnx_.1; have := bnx_.2; have : ((-1) : Int32).toInt = (-1) := (by decide); have : (0 : Int32).toInt = 0 := (by decide); have : (1 : Int32).toInt = 1 := (by decide); have : (2000 : Int32).toInt = 2000 := (by decide); omega⟩⟩, (fun a t e h1 h2 h3 => (zFr.whole hIr_ h.2.1 (((hfF_30.w (by decide)).trans hfF_33 (by decide)) : zFr Γ [1008, 1013] F_26 F_33) (by decide) a t e h1 h2).trans ((q_29 a t e h1 h3).trans (q_23 a t e h1 h3))), (fun _ => q_28.fr hIr_ hmt (((hfF_30.w (by decide)).trans hfF_33 (by decide)) : zFr Γ [1008, 1013] F_26 F_33) (by decide)), (fun _ => (hfF_33.f hth 8 ⟨by decide, by decide⟩ kF_30)), (fun h9 => by exfalso; exact h9 ⟨by have := (zB.all f).1; have := (zB.all f).2; have := (zB.all x).1; have := (zB.all x).2; have := (zB.all y).1; have := (zB.all y).2; have := (zB.all z).1; have := (zB.all z).2; have := bfu_16.1; have := bfu_16.2; have := br_32.1; have := br_32.2; have := bfc_.1; have := bfc_.2; have := bx_31.1; have := bx_31.2; have := bnx_.1; have := bnx_.2; have : ((-1) : Int32).toInt = (-1) := (by decide); have : (0 : Int32).toInt = 0 := (by decide); have : (1 : Int32).toInt = 1 := (by decide); have : (2000 : Int32).toInt = 2000 := (by decide); omega, by have := (zB.all f).1; have := (zB.all f).2; have := (zB.all x).1; have := (zB.all x).2; have := (zB.all y).1; have := (zB.all y).2; have := (zB.all z).1; have := (zB.all z).2; have := bfu_16.1; have := bfu_16.2; have := br_32.1; have := br_32.2; have := bfc_.1; have := bfc_.2; have := bx_31.1; have := bx_31.2; have := bnx_.1; have := bnx_.2; have : ((-1) : Int32).toInt = (-1) := (by decide); have : (0 : Int32).toInt = 0 := (by decide); have : (1 : Int32).toInt = 1 := (by decide); have : (2000 : Int32).toInt = 2000 := (by decide); omega, by have := (zB.all f).1; have := (zB.all f).2; have := (zB.all x).1; have := (zB.all x).2; have := (zB.all y).1; have := (zB.all y).2; have := (zB.all z).1; have := (zB.all z).2; have := bfu_16.1; have := bfu_16.2; have := br_32.1; have := br_32.2; have := bfc_.1; have := bfc_.2; have := bx_31.1; have := bx_31.2; have := bnx_.1; have := bnx_.2; have : ((-1) : Int32).toInt = (-1) := (by decide); have : (0 : Int32).toInt = 0 := (by decide); have : (1 : Int32).toInt = 1 := (by decide); have : (2000 : Int32).toInt = 2000 := (by decide); omega, by have := (zB.all f).1; have := (zB.all f).2; have := (zB.all x).1; have := (zB.all x).2; have := (zB.all y).1; have := (zB.all y).2; have := (zB.all z).1; have := (zB.all z).2; have := bfu_16.1; have := bfu_16.2; have := br_32.1; have := br_32.2; have := bfc_.1; have := bfc_.2; have := bx_31.1; have := bx_31.2; have := bnx_.1; have := bnx_.2; have : ((-1) : Int32).toInt = (-1) := (by decide); have : (0 : Int32).toInt = 0 := (by decide); have : (1 : Int32).toInt = 1 := (by decide); have : (2000 : Int32).toInt = 2000 := (by decide); omega⟩), trivial⟩, by rw [ht]; exact h.1, h.2.1, ((((hfF_17.w (by decide)).trans hfF_26 (by decide)).trans hfF_30 (by decide)).trans hfF_33 (by decide))⟩, h.2.2.F ht⟩) h.2.2.2.2 dX10_run_79
      · have c_15 := z_nle c_15
        have bfu_36 : zB 2001 2147483647 fu := zB.ltR c_15 (zBc 2000 2000 (by decide)) bfu_14 (by decide)
        refine lv_aload_n hx hb dX10_run_31 rfl (lv_at hl 0 rfl) ?_
        refine lv_iconst (v := 2) hx hb dX10_run_32 (by decide) ?_
        refine zk_Vi (As := [.int 2]) (rest := []) (bytes := cX10_refuse) (maxL := 2) (ret := (some .int)) Z h (zc_X10_refuse l D k Γ L F H.size th 2 hth) (cwV 1 hg zv_RX10_68 rfl rfl rfl zd_X10_refuse ⟨z_leR hRf (by decide), z_leR hRl (by decide)⟩) hth (by decide) rfl rfl hl.1 rfl (Nat.le_of_ble_eq_true rfl) dX10_run_33 ⟨Nat.zero_le _, Nat.zero_le _⟩ (fun r_37 F_38 H locs w_39 h hfF_38 => ?_)
        obtain ⟨br_37, -⟩ := w_39
        subst hQ
        exact W.iret (v := r_37) hx hb hr (fun t ht hW => ⟨⟨r_37, F_38, rfl, ⟨⟨fun h9 => by exfalso; have := (zB.all f).1; have := (zB.all f).2; have := (zB.all x).1; have := (zB.all x).2; have := (zB.all y).1; have := (zB.all y).2; have := (zB.all z).1; have := (zB.all z).2; have := bfu_36.1; have := bfu_36.2; have := br_37.1; have := br_37.2; have := bnx_.1; have := bnx_.2; have := bfc_.1; have := bfc_.2; have : (0 : Int32).toInt = 0 := (by decide); have : (1 : Int32).toInt = 1 := (by decide); have : (2000 : Int32).toInt = 2000 := (by decide); omega, fun _ => by have := (zB.all f).1; have := (zB.all f).2; have := (zB.all x).1; have := (zB.all x).2; have := (zB.all y).1; have := (zB.all y).2; have := (zB.all z).1; have := (zB.all z).2; have := bfu_36.1; have := bfu_36.2; have := br_37.1; have := br_37.2; have := bnx_.1; have := bnx_.2; have := bfc_.1; have := bfc_.2; have : (0 : Int32).toInt = 0 := (by decide); have : (1 : Int32).toInt = 1 := (by decide); have : (2000 : Int32).toInt = 2000 := (by decide); omega⟩, (fun a t e h1 h2 h3 => zFr.whole hI0 h.2.1 ((hfF_38.w (by decide)) : zFr Γ [1008, 1013] F F_38) (by decide) a t e h1 h2), (fun h9 => by exfalso; have := (zB.all f).1; have := (zB.all f).2; have := (zB.all x).1; have := (zB.all x).2; have := (zB.all y).1; have := (zB.all y).2; have := (zB.all z).1; have := (zB.all z).2; have := bfu_36.1; have := bfu_36.2; have := br_37.1; have := br_37.2; have := bnx_.1; have := bnx_.2; have := bfc_.1; have := bfc_.2; have : (0 : Int32).toInt = 0 := (by decide); have : (1 : Int32).toInt = 1 := (by decide); have : (2000 : Int32).toInt = 2000 := (by decide); omega), (fun h9 => by exfalso; have := (zB.all f).1; have := (zB.all f).2; have := (zB.all x).1; have := (zB.all x).2; have := (zB.all y).1; have := (zB.all y).2; have := (zB.all z).1; have := (zB.all z).2; have := bfu_36.1; have := bfu_36.2; have := br_37.1; have := br_37.2; have := bnx_.1; have := bnx_.2; have := bfc_.1; have := bfc_.2; have : (0 : Int32).toInt = 0 := (by decide); have : (1 : Int32).toInt = 1 := (by decide); have : (2000 : Int32).toInt = 2000 := (by decide); omega), (fun _ => ⟨((hfF_38 : zFr Γ [1013] F F_38).1 th 10 hth).1 (by decide) 8 (by decide), fun a t e h1 h2 => zFr.whole hI0 h.2.1 (hfF_38 : zFr Γ [1013] F F_38) (by decide) a t e h1 h2⟩), trivial⟩, by rw [ht]; exact h.1, h.2.1, (hfF_38.w (by decide))⟩, h.2.2.F ht⟩) h.2.2.2.2 dX10_run_36
  · have q_40 := q_5 c_6
    have c_6 := z_eq c_6
    have br_1_41 : zB 0 0 r_1 := zB.eqL (a := 0) (b := 0) c_6 (zBc 0 0 (by decide))
    refine lv_aload_n hx hb dX10_run_11 rfl (lv_at hl 0 rfl) ?_
    refine lv_iconst (v := 1) hx hb dX10_run_12 (by decide) ?_
    refine zk_Vi (As := [.int 1]) (rest := []) (bytes := cX10_refuse) (maxL := 2) (ret := (some .int)) Z h (zc_X10_refuse l D k Γ L F H.size th 1 hth) (cwV 1 hg zv_RX10_68 rfl rfl rfl zd_X10_refuse ⟨z_leR hRf (by decide), z_leR hRl (by decide)⟩) hth (by decide) rfl rfl hl.1 rfl (Nat.le_of_ble_eq_true rfl) dX10_run_13 ⟨Nat.zero_le _, Nat.zero_le _⟩ (fun r_42 F_43 H locs w_44 h hfF_43 => ?_)
    obtain ⟨br_42, -⟩ := w_44
    subst hQ
    exact W.iret (v := r_42) hx hb hr (fun t ht hW => ⟨⟨r_42, F_43, rfl, ⟨⟨fun h9 => by exfalso; have := (zB.all f).1; have := (zB.all f).2; have := (zB.all x).1; have := (zB.all x).2; have := (zB.all y).1; have := (zB.all y).2; have := (zB.all z).1; have := (zB.all z).2; have := (zB.all fu).1; have := (zB.all fu).2; have := br_42.1; have := br_42.2; have := bnx_.1; have := bnx_.2; have := bfc_.1; have := bfc_.2; have : (0 : Int32).toInt = 0 := (by decide); omega, fun _ => by have := (zB.all f).1; have := (zB.all f).2; have := (zB.all x).1; have := (zB.all x).2; have := (zB.all y).1; have := (zB.all y).2; have := (zB.all z).1; have := (zB.all z).2; have := (zB.all fu).1; have := (zB.all fu).2; have := br_42.1; have := br_42.2; have := bnx_.1; have := bnx_.2; have := bfc_.1; have := bfc_.2; have : (0 : Int32).toInt = 0 := (by decide); omega⟩, (fun a t e h1 h2 h3 => zFr.whole hI0 h.2.1 ((hfF_43.w (by decide)) : zFr Γ [1008, 1013] F F_43) (by decide) a t e h1 h2), (fun h9 => by exfalso; have := (zB.all f).1; have := (zB.all f).2; have := (zB.all x).1; have := (zB.all x).2; have := (zB.all y).1; have := (zB.all y).2; have := (zB.all z).1; have := (zB.all z).2; have := (zB.all fu).1; have := (zB.all fu).2; have := br_42.1; have := br_42.2; have := bnx_.1; have := bnx_.2; have := bfc_.1; have := bfc_.2; have : (0 : Int32).toInt = 0 := (by decide); omega), (fun h9 => by exfalso; have := (zB.all f).1; have := (zB.all f).2; have := (zB.all x).1; have := (zB.all x).2; have := (zB.all y).1; have := (zB.all y).2; have := (zB.all z).1; have := (zB.all z).2; have := (zB.all fu).1; have := (zB.all fu).2; have := br_42.1; have := br_42.2; have := bnx_.1; have := bnx_.2; have := bfc_.1; have := bfc_.2; have : (0 : Int32).toInt = 0 := (by decide); omega), (fun _ => ⟨((hfF_43 : zFr Γ [1013] F F_43).1 th 10 hth).1 (by decide) 8 (by decide), fun a t e h1 h2 => zFr.whole hI0 h.2.1 (hfF_43 : zFr Γ [1013] F F_43) (by decide) a t e h1 h2⟩), trivial⟩, by rw [ht]; exact h.1, h.2.1, (hfF_43.w (by decide))⟩, h.2.2.F ht⟩) h.2.2.2.2 dX10_run_16

set_option maxHeartbeats 4000000 in
set_option maxRecDepth 100000 in
theorem zm_X10_wrong (l : Launch) (D : va_G) (k : Nat → ClassId) (Γ : Nat → Option Nat) (L : List Nat) (F : Nat → va_E) (sz : Nat) (th : Nat) (ru : Int32) (f : Int32) (x : Int32) (y : Int32) (z : Int32) (pr : Nat) (fa : Nat → Nat) (pg : zPg) (co : Nat) (A : Nat → Nat × Int × Nat) (na : Nat) (mt : Nat) (nx_ : Int32) (X : List Nat) (hth : Γ th = some 10) (kpr : zfld F th 2 = .ref pr) (hpr : Γ pr = some 6) (p_vp : zVp Γ F pr fa pg) (kco : zfld F pr 1 = .ref co) (hco : Γ co = some 1) (p_vq : zVq Γ F co A na) (kmt : zfld F th 7 = .ref mt) (hmt : Γ mt = some 5) (knx_ : zfld F mt 14 = .int nx_) (bnx_ : zB (-2147483648) 2147483647 nx_) (hr0 : zMa Γ F mt X) (hr1 : ∀ q, q < na → (A q).1 ≤ 16 ∧ (13 ≤ (A q).1 → (A q).1 ≤ 15 → 0 ≤ (A q).2.1)) : Met l yX10_wrong zwX10_wrong ({ frames := 5, cells := 0, slots := 0, locals := 114 }) (va_Pc [.ref th, .int ru, .int f, .int x, .int y, .int z] (zP D k Γ L F sz)) (va_Qi (fun (r : Int32) (u : Nat → va_E) => ((0 ≤ f.toInt ∧ f.toInt < (pg.1.1 : Int) ∧ 0 ≤ ru.toInt ∧ ru.toInt ≤ 3 → r = vvl (v_run ru.toInt (2000 : Int32).toInt pg A na 4000000 (v_enter pg f.toInt (v_cut (pg.1.2 f.toInt.toNat) x y z (v_new0 (zar F mt 7) (zar F mt 8) (zar F mt 9) (zng nx_)))))) ∧ (¬ (0 ≤ f.toInt ∧ f.toInt < (pg.1.1 : Int) ∧ 0 ≤ ru.toInt ∧ ru.toInt ≤ 3) → r.toInt = -1)) ∧ (∀ a t, Γ a = some t → t ∈ zS5 → t ≠ 10 → a ∉ X → u a = F a) ∧ (0 ≤ f.toInt ∧ f.toInt < (pg.1.1 : Int) ∧ 0 ≤ ru.toInt ∧ ru.toInt ≤ 3 → zVc u mt (v_run ru.toInt (2000 : Int32).toInt pg A na 4000000 (v_enter pg f.toInt (v_cut (pg.1.2 f.toInt.toNat) x y z (v_new0 (zar F mt 7) (zar F mt 8) (zar F mt 9) (zng nx_)))))) ∧ True) (zQ D k Γ L F [500, 501, 502, 503, 504, 505, 506, 510, 511, 512, 513, 514, 515, 518, 1013, 10800, 10900, 11000, 11100, 11200]) (zA L sz)) 0 0 (zA L sz) := by
  refine Met.ofW (cc := cX10_wrong) (maxL := 6) (ret := (some .int)) (by decide) rfl ?_
  intro p e s m args below meth c s₁ B hml hv
  obtain ⟨rfl, hsz, hP, hK, hLn, hE, hI⟩ := hv
  have hx := B.exec
  have hb := B.bytes
  have hr := B.returns
  have hg : ∀ w ∈ zG, w.before _ s = true := fun w h9 => atoms_spec (ws := zwX10_wrong) B.pre w (List.mem_cons_of_mem _ h9)
  have hown : s.vm.findClass RX10 = some m.cls := findClass_of_methodNamed B.named
  have hlocks := B.notSynchronized
  subst hsz
  have Z : zC p m c cX10_wrong 6 s _ zG RX10 D k L := ⟨⟨hx, hb, hml, hown, hg⟩, hK, hLn, hE⟩
  have h : zH D k Γ L s F s.heap [] := ⟨hP, hI, va_S.rf⟩
  have hl := lv_entry ([.ref th, .int ru, .int f, .int x, .int y, .int z]) (n := 6) (Nat.le_of_ble_eq_true rfl)
  rw [lg_entry_eq]
  generalize (lg_sl ([.ref th, .int ru, .int f, .int x, .int y, .int z]) ++ List.replicate (6 - (lg_sl ([.ref th, .int ru, .int f, .int x, .int y, .int z])).length) Slot.unset).toArray = ls at hl ⊢
  have hl : lv_has ls 6 [(0, .ref th), (1, .int ru), (2, .int f), (3, .int x), (4, .int y), (5, .int z)] := hl
  clear hP hK hLn hE hI
  generalize hargs : ([.ref th, .int ru, .int f, .int x, .int y, .int z] : List Value).toArray = args at *
  refine z_start (fun R Q hRf hRl hQ => ?_)
  have hRf : R.frames = 5 := hRf
  have hRl : R.locals = 114 := hRl
  have h9 := h
  obtain ⟨fc_, kfc_, tfc_⟩ := p_vp.2.1
  have hfc_ := p_vp.2.2.1
  have bfc_ : zB 0 10 fc_ := ⟨by omega, by omega⟩
  have hI0 := h.2.1
  refine lv_aload_n hx hb dX10_wrong_0 rfl (lv_at hl 0 rfl) ?_
  refine zt_getk (t := 10) (C := RX10) (T := TX10) (N := 14) Z h hth zin_10 rfl 2 kpr ⟨by decide, rfl, by decide⟩ (zm_RX10 (List.mem_of_getElem? (i := 21) rfl)) (fun _ h9 => h9) dX10_wrong_1 ?_
  refine lv_iload_n hx hb dX10_wrong_4 rfl (lv_at hl 2 rfl) ?_
  refine zk_Vi (As := [.int f]) (rest := []) (bytes := cX6_hasFunction) (maxL := 2) (ret := (some .boolean)) Z h (ze_X6_hasFunction l D k Γ L F s.heap.size pr f fc_ hpr kfc_ bfc_) (cwV 1 hg zv_RX10_98 rfl rfl rfl zd_X6_hasFunction ⟨z_leR hRf (by decide), z_leR hRl (by decide)⟩) hpr (by decide) rfl rfl hl.1 rfl (Nat.le_of_ble_eq_true rfl) dX10_wrong_5 ⟨Nat.zero_le _, Nat.zero_le _⟩ (fun r_1 F_2 H locs w_3 h hfF_2 => ?_)
  obtain ⟨rfl, br_1, q_4, q_5, -⟩ := w_3
  refine lv_if_ne (tgt := 17) hx hb dX10_wrong_8 (by decide) (fun c_6 => ?_) (fun c_6 => ?_)
  · have q_7 := q_4 c_6
    have c_6 := z_ne c_6
    have br_1_8 : zB 1 1 r_1 := zB.neLo c_6 br_1 (zBc 0 0 (by decide)) (by decide)
    refine lv_iload_n hx hb dX10_wrong_17 rfl (lv_at hl 1 rfl) ?_
    refine lv_if_lt (tgt := 26) hx hb dX10_wrong_18 (by decide) (fun c_9 => ?_) (fun c_9 => ?_)
    · have c_9 := z_lt c_9
      have bru_10 : zB (-2147483648) (-1) ru := zB.ltL c_9 (zB.all ru) (zBc 0 0 (by decide)) (by decide)
      refine lv_aload_n hx hb dX10_wrong_26 rfl (lv_at hl 0 rfl) ?_
      refine lv_iconst (v := 2) hx hb dX10_wrong_27 (by decide) ?_
      refine zk_Vi (As := [.int 2]) (rest := []) (bytes := cX10_refuse) (maxL := 2) (ret := (some .int)) Z h (zc_X10_refuse l D k Γ L F H.size th 2 hth) (cwV 1 hg zv_RX10_68 rfl rfl rfl zd_X10_refuse ⟨z_leR hRf (by decide), z_leR hRl (by decide)⟩) hth (by decide) rfl rfl hl.1 rfl (Nat.le_of_ble_eq_true rfl) dX10_wrong_28 ⟨Nat.zero_le _, Nat.zero_le _⟩ (fun r_11 F_12 H locs w_13 h hfF_12 => ?_)
      obtain ⟨br_11, -⟩ := w_13
      subst hQ
      exact W.iret (v := r_11) hx hb hr (fun t ht hW => ⟨⟨r_11, F_12, rfl, ⟨⟨fun h9 => by exfalso; have := bru_10.1; have := bru_10.2; have := (zB.all f).1; have := (zB.all f).2; have := (zB.all x).1; have := (zB.all x).2; have := (zB.all y).1; have := (zB.all y).2; have := (zB.all z).1; have := (zB.all z).2; have := br_11.1; have := br_11.2; have := bnx_.1; have := bnx_.2; have := bfc_.1; have := bfc_.2; have : (0 : Int32).toInt = 0 := (by decide); omega, fun _ => by have := bru_10.1; have := bru_10.2; have := (zB.all f).1; have := (zB.all f).2; have := (zB.all x).1; have := (zB.all x).2; have := (zB.all y).1; have := (zB.all y).2; have := (zB.all z).1; have := (zB.all z).2; have := br_11.1; have := br_11.2; have := bnx_.1; have := bnx_.2; have := bfc_.1; have := bfc_.2; have : (0 : Int32).toInt = 0 := (by decide); omega⟩, (fun a t e h1 h2 h3 => zFr.whole hI0 h.2.1 (hfF_12 : zFr Γ [1013] F F_12) (by decide) a t e h1 h2), (fun h9 => by exfalso; have := bru_10.1; have := bru_10.2; have := (zB.all f).1; have := (zB.all f).2; have := (zB.all x).1; have := (zB.all x).2; have := (zB.all y).1; have := (zB.all y).2; have := (zB.all z).1; have := (zB.all z).2; have := br_11.1; have := br_11.2; have := bnx_.1; have := bnx_.2; have := bfc_.1; have := bfc_.2; have : (0 : Int32).toInt = 0 := (by decide); omega), trivial⟩, by rw [ht]; exact h.1, h.2.1, (hfF_12.w (by decide))⟩, h.2.2.F ht⟩) h.2.2.2.2 dX10_wrong_31
    · have c_9 := z_nlt c_9
      have bru_14 : zB 0 2147483647 ru := zB.leR c_9 (zBc 0 0 (by decide)) (zB.all ru) (by decide)
      refine lv_iload_n hx hb dX10_wrong_21 rfl (lv_at hl 1 rfl) ?_
      refine lv_iconst (v := 4) hx hb dX10_wrong_22 (by decide) ?_
      refine lv_icmp_lt (tgt := 32) hx hb dX10_wrong_23 (by decide) (fun c_15 => ?_) (fun c_15 => ?_)
      · have c_15 := z_lt c_15
        have bru_16 : zB 0 3 ru := zB.ltL c_15 bru_14 (zBc 4 4 (by decide)) (by decide)
        refine lv_aload_n hx hb dX10_wrong_32 rfl (lv_at hl 0 rfl) ?_
        refine zt_getk (t := 10) (C := RX10) (T := TX10) (N := 14) Z h hth zin_10 rfl 7 kmt ⟨by decide, rfl, by decide⟩ (zm_RX10 (List.mem_of_getElem? (i := 70) rfl)) (fun _ h9 => h9) dX10_wrong_33 ?_
        refine lv_aload_n hx hb dX10_wrong_36 rfl (lv_at hl 0 rfl) ?_
        refine zt_getk (t := 10) (C := RX10) (T := TX10) (N := 14) Z h hth zin_10 rfl 2 kpr ⟨by decide, rfl, by decide⟩ (zm_RX10 (List.mem_of_getElem? (i := 21) rfl)) (fun _ h9 => h9) dX10_wrong_37 ?_
        refine lv_sipush (v := 2000) hx hb dX10_wrong_40 (by decide) ?_
        refine lv_iload_n hx hb dX10_wrong_43 rfl (lv_at hl 1 rfl) ?_
        refine zk_Vv (As := [.ref pr, .int 2000, .int ru]) (rest := []) (bytes := cX5_start) (maxL := 4) (ret := none) Z h (zj_X5_start l D k Γ L F H.size mt pr 2000 ru nx_ X hmt hpr knx_ bnx_ hr0) (cwV 3 hg zv_RX10_163 rfl rfl rfl zd_X5_start ⟨z_leR hRf (by decide), z_leR hRl (by decide)⟩) hmt (by decide) rfl rfl hl.1 rfl (Nat.le_of_ble_eq_true rfl) dX10_wrong_44 ⟨Nat.zero_le _, Nat.zero_le _⟩ (fun F_17 H locs w_18 h hfF_17 => ?_)
        obtain ⟨q_19, kq_20, q_21, q_22, q_23, -⟩ := w_18
        refine lv_aload_n hx hb dX10_wrong_47 rfl (lv_at hl 0 rfl) ?_
        refine zt_getk (t := 10) (C := RX10) (T := TX10) (N := 14) Z h hth zin_10 rfl 7 (hfF_17.f hth 7 ⟨by decide, by decide⟩ kmt) ⟨by decide, rfl, by decide⟩ (zm_RX10 (List.mem_of_getElem? (i := 70) rfl)) (fun _ h9 => h9) dX10_wrong_48 ?_
        refine lv_iload_n hx hb dX10_wrong_51 rfl (lv_at hl 2 rfl) ?_
        refine lv_iload_n hx hb dX10_wrong_52 rfl (lv_at hl 3 rfl) ?_
        refine lv_iload hx hb dX10_wrong_53 (lv_at hl 4 rfl) ?_
        refine lv_iload hx hb dX10_wrong_55 (lv_at hl 5 rfl) ?_
        have p_24 := (p_vp.fr hfF_17 hpr (by decide))
        have p_25 := (p_vq.fr hfF_17 hco (by decide))
        refine zk_Vv (As := [.int f, .int x, .int y, .int z]) (rest := []) (bytes := cX5_finish) (maxL := 8) (ret := none) Z h (zj_X5_finish l D k Γ L F_17 H.size mt f x y z (v_new0 (zar F mt 7) (zar F mt 8) (zar F mt 9) (zng nx_)) fa pg pr co A na 2000 ru X hmt q_19 kq_20 hpr p_24 (hfF_17.f hpr 1 ⟨by decide, by decide⟩ kco) hco p_25 q_21 (zB.of ⟨by decide, by decide⟩) q_22 (bru_16.w ⟨by decide, by decide⟩) (by have := bru_16.1; have := bru_16.2; have := (zB.all f).1; have := (zB.all f).2; have := (zB.all x).1; have := (zB.all x).2; have := (zB.all y).1; have := (zB.all y).2; have := (zB.all z).1; have := (zB.all z).2; have := bnx_.1; have := bnx_.2; have := bfc_.1; have := bfc_.2; have : (0 : Int32).toInt = 0 := (by decide); have : (4 : Int32).toInt = 4 := (by decide); have : (2000 : Int32).toInt = 2000 := (by decide); omega) ⟨rfl, rfl, rfl⟩ rfl hr1 ⟨hr0.1, hr0.2.1, hr0.2.2.fr ((hfF_17 : zFr Γ [500, 501, 502, 503, 504, 505, 506, 510, 511, 512, 513, 515, 518] F F_17)) (by decide)⟩) (cwV 4 hg zv_RX10_167 rfl rfl rfl zd_X5_finish ⟨z_leR hRf (by decide), z_leR hRl (by decide)⟩) hmt (by decide) rfl rfl hl.1 rfl (Nat.le_of_ble_eq_true rfl) dX10_wrong_57 ⟨Nat.zero_le _, Nat.zero_le _⟩ (fun F_26 H locs w_27 h hfF_26 => ?_)
        obtain ⟨q_28, q_29, -⟩ := w_27
        have hIr_ := h.2.1
        refine lv_aload_n hx hb dX10_wrong_60 rfl (lv_at hl 0 rfl) ?_
        refine lv_aload_n hx hb dX10_wrong_61 rfl (lv_at hl 0 rfl) ?_
        refine zt_getk (t := 10) (C := RX10) (T := TX10) (N := 14) Z h hth zin_10 rfl 7 (hfF_26.f hth 7 ⟨by decide, by decide⟩ (hfF_17.f hth 7 ⟨by decide, by decide⟩ kmt)) ⟨by decide, rfl, by decide⟩ (zm_RX10 (List.mem_of_getElem? (i := 70) rfl)) (fun _ h9 => h9) dX10_wrong_62 ?_
        refine zt_geti (t := 5) (C := RX5) (T := TX5) (N := 19) Z h hmt zin_5 rfl 1 rfl ⟨by decide, rfl⟩ (zm_RX10 (List.mem_of_getElem? (i := 52) rfl)) (fun _ h9 => h9) dX10_wrong_65 (fun x_30 kx_30 bx_30 => ?_)
        refine zk_Vi (As := [.int x_30]) (rest := []) (bytes := cX10_accept) (maxL := 2) (ret := (some .int)) Z h (zm_X10_accept l D k Γ L F_26 H.size th x_30 hth) (cwV 1 hg zv_RX10_76 rfl rfl rfl zd_X10_accept ⟨z_leR hRf (by decide), z_leR hRl (by decide)⟩) hth (by decide) rfl rfl hl.1 rfl (Nat.le_of_ble_eq_true rfl) dX10_wrong_68 ⟨Nat.zero_le _, Nat.zero_le _⟩ (fun r_31 F_32 H locs w_33 h hfF_32 => ?_)
        obtain ⟨q_34, -⟩ := w_33
        have br_31 := zB.all r_31
        subst hQ
        exact W.iret (v := r_31) hx hb hr (fun t ht hW => ⟨⟨r_31, F_32, rfl, ⟨⟨fun _ => (by have h7 := q_28.vl; have h6 := (hfF_32.f hmt 1 ⟨by decide, by decide⟩ kx_30); rw [q_34]; exact Value.int.inj (h6.symm.trans ((hfF_32 : zFr Γ [1013] F_26 F_32).f hmt 1 ⟨by decide, by decide⟩ h7))), fun h9 => by exfalso; exact h9 ⟨by have := bru_16.1; have := bru_16.2; have := (zB.all f).1; have := (zB.all f).2; have := (zB.all x).1; have := (zB.all x).2; have := (zB.all y).1; have := (zB.all y).2; have := (zB.all z).1; have := (zB.all z).2; have := br_31.1; have := br_31.2; have := bfc_.1; have := bfc_.2; have := bx_30.1; have := bx_30.2; have := bnx_.1; have := bnx_.2; have : (0 : Int32).toInt = 0 := (by decide); have : (4 : Int32).toInt = 4 := (by decide); have : (2000 : Int32).toInt = 2000 := (by decide); omega, by have := bru_16.1; have := bru_16.2; have := (zB.all f).1; have := (zB.all f).2; have := (zB.all x).1; have := (zB.all x).2; have := (zB.all y).1; have := (zB.all y).2; have := (zB.all z).1; have := (zB.all z).2; have := br_31.1; have := br_31.2; have := bfc_.1; have := bfc_.2; have := bx_30.1; have := bx_30.2; have := bnx_.1; have := bnx_.2; have : (0 : Int32).toInt = 0 := (by decide); have : (4 : Int32).toInt = 4 := (by decide); have : (2000 : Int32).toInt = 2000 := (by decide); omega, by have := bru_16.1; have := bru_16.2; have := (zB.all f).1; have := (zB.all f).2; have := (zB.all x).1; have := (zB.all x).2; have := (zB.all y).1; have := (zB.all y).2; have := (zB.all z).1; have := (zB.all z).2; have := br_31.1; have := br_31.2; have := bfc_.1; have := bfc_.2; have := bx_30.1; have := bx_30.2; have := bnx_.1; have := bnx_.2; have : (0 : Int32).toInt = 0 := (by decide); have : (4 : Int32).toInt = 4 := (by decide); have : (2000 : Int32).toInt = 2000 := (by decide); omega, by have := bru_16.1; have := bru_16.2; have := (zB.all f).1; have := (zB.all f).2; have := (zB.all x).1; have := (zB.all x).2; have := (zB.all y).1; have := (zB.all y).2; have := (zB.all z).1; have := (zB.all z).2; have := br_31.1; have := br_31.2; have := bfc_.1; have := bfc_.2; have := bx_30.1; have := bx_30.2; have := bnx_.1; have := bnx_.2; have : (0 : Int32).toInt = 0 := (by decide); have : (4 : Int32).toInt = 4 := (by decide); have : (2000 : Int32).toInt = 2000 := (by decide); omega⟩⟩, (fun a t e h1 h2 h3 => (zFr.whole hIr_ h.2.1 (hfF_32 : zFr Γ [1013] F_26 F_32) (by decide) a t e h1 h2).trans ((q_29 a t e h1 h3).trans (q_23 a t e h1 h3))), (fun _ => q_28.fr hIr_ hmt (hfF_32 : zFr Γ [1013] F_26 F_32) (by decide)), trivial⟩, by rw [ht]; exact h.1, h.2.1, (((hfF_17.w (by decide)).trans hfF_26 (by decide)).trans hfF_32 (by decide))⟩, h.2.2.F ht⟩) h.2.2.2.2 dX10_wrong_71
      · have c_15 := z_nlt c_15
        have bru_35 : zB 4 2147483647 ru := zB.leR c_15 (zBc 4 4 (by decide)) bru_14 (by decide)
        refine lv_aload_n hx hb dX10_wrong_26 rfl (lv_at hl 0 rfl) ?_
        refine lv_iconst (v := 2) hx hb dX10_wrong_27 (by decide) ?_
        refine zk_Vi (As := [.int 2]) (rest := []) (bytes := cX10_refuse) (maxL := 2) (ret := (some .int)) Z h (zc_X10_refuse l D k Γ L F H.size th 2 hth) (cwV 1 hg zv_RX10_68 rfl rfl rfl zd_X10_refuse ⟨z_leR hRf (by decide), z_leR hRl (by decide)⟩) hth (by decide) rfl rfl hl.1 rfl (Nat.le_of_ble_eq_true rfl) dX10_wrong_28 ⟨Nat.zero_le _, Nat.zero_le _⟩ (fun r_36 F_37 H locs w_38 h hfF_37 => ?_)
        obtain ⟨br_36, -⟩ := w_38
        subst hQ
        exact W.iret (v := r_36) hx hb hr (fun t ht hW => ⟨⟨r_36, F_37, rfl, ⟨⟨fun h9 => by exfalso; have := bru_35.1; have := bru_35.2; have := (zB.all f).1; have := (zB.all f).2; have := (zB.all x).1; have := (zB.all x).2; have := (zB.all y).1; have := (zB.all y).2; have := (zB.all z).1; have := (zB.all z).2; have := br_36.1; have := br_36.2; have := bnx_.1; have := bnx_.2; have := bfc_.1; have := bfc_.2; have : (0 : Int32).toInt = 0 := (by decide); have : (4 : Int32).toInt = 4 := (by decide); omega, fun _ => by have := bru_35.1; have := bru_35.2; have := (zB.all f).1; have := (zB.all f).2; have := (zB.all x).1; have := (zB.all x).2; have := (zB.all y).1; have := (zB.all y).2; have := (zB.all z).1; have := (zB.all z).2; have := br_36.1; have := br_36.2; have := bnx_.1; have := bnx_.2; have := bfc_.1; have := bfc_.2; have : (0 : Int32).toInt = 0 := (by decide); have : (4 : Int32).toInt = 4 := (by decide); omega⟩, (fun a t e h1 h2 h3 => zFr.whole hI0 h.2.1 (hfF_37 : zFr Γ [1013] F F_37) (by decide) a t e h1 h2), (fun h9 => by exfalso; have := bru_35.1; have := bru_35.2; have := (zB.all f).1; have := (zB.all f).2; have := (zB.all x).1; have := (zB.all x).2; have := (zB.all y).1; have := (zB.all y).2; have := (zB.all z).1; have := (zB.all z).2; have := br_36.1; have := br_36.2; have := bnx_.1; have := bnx_.2; have := bfc_.1; have := bfc_.2; have : (0 : Int32).toInt = 0 := (by decide); have : (4 : Int32).toInt = 4 := (by decide); omega), trivial⟩, by rw [ht]; exact h.1, h.2.1, (hfF_37.w (by decide))⟩, h.2.2.F ht⟩) h.2.2.2.2 dX10_wrong_31
  · have q_39 := q_5 c_6
    have c_6 := z_eq c_6
    have br_1_40 : zB 0 0 r_1 := zB.eqL (a := 0) (b := 0) c_6 (zBc 0 0 (by decide))
    refine lv_aload_n hx hb dX10_wrong_11 rfl (lv_at hl 0 rfl) ?_
    refine lv_iconst (v := 1) hx hb dX10_wrong_12 (by decide) ?_
    refine zk_Vi (As := [.int 1]) (rest := []) (bytes := cX10_refuse) (maxL := 2) (ret := (some .int)) Z h (zc_X10_refuse l D k Γ L F H.size th 1 hth) (cwV 1 hg zv_RX10_68 rfl rfl rfl zd_X10_refuse ⟨z_leR hRf (by decide), z_leR hRl (by decide)⟩) hth (by decide) rfl rfl hl.1 rfl (Nat.le_of_ble_eq_true rfl) dX10_wrong_13 ⟨Nat.zero_le _, Nat.zero_le _⟩ (fun r_41 F_42 H locs w_43 h hfF_42 => ?_)
    obtain ⟨br_41, -⟩ := w_43
    subst hQ
    exact W.iret (v := r_41) hx hb hr (fun t ht hW => ⟨⟨r_41, F_42, rfl, ⟨⟨fun h9 => by exfalso; have := (zB.all ru).1; have := (zB.all ru).2; have := (zB.all f).1; have := (zB.all f).2; have := (zB.all x).1; have := (zB.all x).2; have := (zB.all y).1; have := (zB.all y).2; have := (zB.all z).1; have := (zB.all z).2; have := br_41.1; have := br_41.2; have := bnx_.1; have := bnx_.2; have := bfc_.1; have := bfc_.2; have : (0 : Int32).toInt = 0 := (by decide); omega, fun _ => by have := (zB.all ru).1; have := (zB.all ru).2; have := (zB.all f).1; have := (zB.all f).2; have := (zB.all x).1; have := (zB.all x).2; have := (zB.all y).1; have := (zB.all y).2; have := (zB.all z).1; have := (zB.all z).2; have := br_41.1; have := br_41.2; have := bnx_.1; have := bnx_.2; have := bfc_.1; have := bfc_.2; have : (0 : Int32).toInt = 0 := (by decide); omega⟩, (fun a t e h1 h2 h3 => zFr.whole hI0 h.2.1 (hfF_42 : zFr Γ [1013] F F_42) (by decide) a t e h1 h2), (fun h9 => by exfalso; have := (zB.all ru).1; have := (zB.all ru).2; have := (zB.all f).1; have := (zB.all f).2; have := (zB.all x).1; have := (zB.all x).2; have := (zB.all y).1; have := (zB.all y).2; have := (zB.all z).1; have := (zB.all z).2; have := br_41.1; have := br_41.2; have := bnx_.1; have := bnx_.2; have := bfc_.1; have := bfc_.2; have : (0 : Int32).toInt = 0 := (by decide); omega), trivial⟩, by rw [ht]; exact h.1, h.2.1, (hfF_42.w (by decide))⟩, h.2.2.F ht⟩) h.2.2.2.2 dX10_wrong_16
