set_option maxHeartbeats 4000000 in
set_option maxRecDepth 100000 in
theorem zm_X10_unlike (l : Launch) (D : va_G) (k : Nat → ClassId) (Γ : Nat → Option Nat) (L : List Nat) (F : Nat → va_E) (sz : Nat) (th : Nat) (f : Int32) (x : Int32) (y : Int32) (z : Int32) (pr : Nat) (fa : Nat → Nat) (pg : zPg) (co : Nat) (A : Nat → Nat × Int × Nat) (na : Nat) (tm : Nat) (nt_ : Int32) (mt : Nat) (X2 : List Nat) (X : List Nat) (wU : Int → zVm) (hth : Γ th = some 10) (kpr : zfld F th 2 = .ref pr) (hpr : Γ pr = some 6) (p_vp : zVp Γ F pr fa pg) (kco : zfld F pr 1 = .ref co) (hco : Γ co = some 1) (p_vq : zVq Γ F co A na) (ktm : zfld F th 6 = .ref tm) (htm : Γ tm = some 5) (knt_ : zfld F tm 14 = .int nt_) (bnt_ : zB (-2147483648) 2147483647 nt_) (kmt : zfld F th 7 = .ref mt) (hmt : Γ mt = some 5) (hr0 : zMa Γ F tm X2) (hr1 : zMa Γ F mt X) (hr2 : ∀ a ∈ X2, a ∉ X) (hr3 : ∀ q, q < na → (A q).1 ≤ 16 ∧ (13 ≤ (A q).1 → (A q).1 ≤ 15 → 0 ≤ (A q).2.1)) (hr4 : (0 ≤ f.toInt ∧ f.toInt < (pg.1.1 : Int)) → ∀ (R : Int) (sd tr pl : Nat → Int32) (nx : Nat), zEq (wU R) (v_run R (2000 : Int32).toInt pg A na 4000000 (v_enter pg f.toInt (v_cut (pg.1.2 f.toInt.toNat) x y z (v_new0 sd tr pl nx))))) : Met l yX10_unlike zwX10_unlike ({ frames := 5, cells := 0, slots := 0, locals := 114 }) (va_Pc [.ref th, .int f, .int x, .int y, .int z] (zP D k Γ L F sz)) (va_Qi (fun (r : Int32) (u : Nat → va_E) => ((0 ≤ f.toInt ∧ f.toInt < (pg.1.1 : Int) → r.toInt = (zuns wU (wU ((-1) : Int32).toInt) 4 : Int)) ∧ (¬ (0 ≤ f.toInt ∧ f.toInt < (pg.1.1 : Int)) → r.toInt = -1)) ∧ (∀ a t, Γ a = some t → t ∈ zS5 → t ≠ 10 → a ∉ X2 → a ∉ X → u a = F a) ∧ True) (zQ D k Γ L F [500, 501, 502, 503, 504, 505, 506, 510, 511, 512, 513, 514, 515, 518, 1013, 10800, 10900, 11000, 11100, 11200]) (zA L sz)) 0 0 (zA L sz) := by
  refine Met.ofW (cc := cX10_unlike) (maxL := 7) (ret := (some .int)) (by decide) rfl ?_
  intro p e s m args below meth c s₁ B hml hv
  obtain ⟨rfl, hsz, hP, hK, hLn, hE, hI⟩ := hv
  have hx := B.exec
  have hb := B.bytes
  have hr := B.returns
  have hg : ∀ w ∈ zG, w.before _ s = true := fun w h9 => atoms_spec (ws := zwX10_unlike) B.pre w (List.mem_cons_of_mem _ h9)
  have hown : s.vm.findClass RX10 = some m.cls := findClass_of_methodNamed B.named
  have hlocks := B.notSynchronized
  subst hsz
  have Z : zC p m c cX10_unlike 7 s _ zG RX10 D k L := ⟨⟨hx, hb, hml, hown, hg⟩, hK, hLn, hE⟩
  have h : zH D k Γ L s F s.heap [] := ⟨hP, hI, va_S.rf⟩
  have hl := lv_entry ([.ref th, .int f, .int x, .int y, .int z]) (n := 7) (Nat.le_of_ble_eq_true rfl)
  rw [lg_entry_eq]
  generalize (lg_sl ([.ref th, .int f, .int x, .int y, .int z]) ++ List.replicate (7 - (lg_sl ([.ref th, .int f, .int x, .int y, .int z])).length) Slot.unset).toArray = ls at hl ⊢
  have hl : lv_has ls 7 [(0, .ref th), (1, .int f), (2, .int x), (3, .int y), (4, .int z)] := hl
  clear hP hK hLn hE hI
  generalize hargs : ([.ref th, .int f, .int x, .int y, .int z] : List Value).toArray = args at *
  refine z_start (fun R Q hRf hRl hQ => ?_)
  have hRf : R.frames = 5 := hRf
  have hRl : R.locals = 114 := hRl
  have h9 := h
  obtain ⟨fc_, kfc_, tfc_⟩ := p_vp.2.1
  have hfc_ := p_vp.2.2.1
  have bfc_ : zB 0 10 fc_ := ⟨by omega, by omega⟩
  have hI0 := h.2.1
  refine lv_aload_n hx hb dX10_unlike_0 rfl (lv_at hl 0 rfl) ?_
  refine zt_getk (t := 10) (C := RX10) (T := TX10) (N := 14) Z h hth zin_10 rfl 2 kpr ⟨by decide, rfl, by decide⟩ (zm_RX10 (List.mem_of_getElem? (i := 21) rfl)) (fun _ h9 => h9) dX10_unlike_1 ?_
  refine lv_iload_n hx hb dX10_unlike_4 rfl (lv_at hl 1 rfl) ?_
  refine zk_Vi (As := [.int f]) (rest := []) (bytes := cX6_hasFunction) (maxL := 2) (ret := (some .boolean)) Z h (ze_X6_hasFunction l D k Γ L F s.heap.size pr f fc_ hpr kfc_ bfc_) (cwV 1 hg zv_RX10_98 rfl rfl rfl zd_X6_hasFunction ⟨z_leR hRf (by decide), z_leR hRl (by decide)⟩) hpr (by decide) rfl rfl hl.1 rfl (Nat.le_of_ble_eq_true rfl) dX10_unlike_5 ⟨Nat.zero_le _, Nat.zero_le _⟩ (fun r_1 F_2 H locs w_3 h hfF_2 => ?_)
  obtain ⟨rfl, br_1, q_4, q_5, -⟩ := w_3
  refine lv_if_ne (tgt := 17) hx hb dX10_unlike_8 (by decide) (fun c_6 => ?_) (fun c_6 => ?_)
  · have q_7 := q_4 c_6
    have c_6 := z_ne c_6
    have br_1_8 : zB 1 1 r_1 := zB.neLo c_6 br_1 (zBc 0 0 (by decide)) (by decide)
    refine lv_aload_n hx hb dX10_unlike_17 rfl (lv_at hl 0 rfl) ?_
    refine zt_getk (t := 10) (C := RX10) (T := TX10) (N := 14) Z h hth zin_10 rfl 6 ktm ⟨by decide, rfl, by decide⟩ (zm_RX10 (List.mem_of_getElem? (i := 72) rfl)) (fun _ h9 => h9) dX10_unlike_18 ?_
    refine lv_aload_n hx hb dX10_unlike_21 rfl (lv_at hl 0 rfl) ?_
    refine zt_getk (t := 10) (C := RX10) (T := TX10) (N := 14) Z h hth zin_10 rfl 2 kpr ⟨by decide, rfl, by decide⟩ (zm_RX10 (List.mem_of_getElem? (i := 21) rfl)) (fun _ h9 => h9) dX10_unlike_22 ?_
    refine lv_sipush (v := 2000) hx hb dX10_unlike_25 (by decide) ?_
    refine lv_iconst (v := (-1)) hx hb dX10_unlike_28 (by decide) ?_
    refine zk_Vv (As := [.ref pr, .int 2000, .int (-1)]) (rest := []) (bytes := cX5_start) (maxL := 4) (ret := none) Z h (zj_X5_start l D k Γ L F H.size tm pr 2000 (-1) nt_ X2 htm hpr knt_ bnt_ hr0) (cwV 3 hg zv_RX10_163 rfl rfl rfl zd_X5_start ⟨z_leR hRf (by decide), z_leR hRl (by decide)⟩) htm (by decide) rfl rfl hl.1 rfl (Nat.le_of_ble_eq_true rfl) dX10_unlike_29 ⟨Nat.zero_le _, Nat.zero_le _⟩ (fun F_9 H locs w_10 h hfF_9 => ?_)
    obtain ⟨q_11, kq_12, q_13, q_14, q_15, -⟩ := w_10
    refine lv_aload_n hx hb dX10_unlike_32 rfl (lv_at hl 0 rfl) ?_
    refine zt_getk (t := 10) (C := RX10) (T := TX10) (N := 14) Z h hth zin_10 rfl 6 (hfF_9.f hth 6 ⟨by decide, by decide⟩ ktm) ⟨by decide, rfl, by decide⟩ (zm_RX10 (List.mem_of_getElem? (i := 72) rfl)) (fun _ h9 => h9) dX10_unlike_33 ?_
    refine lv_iload_n hx hb dX10_unlike_36 rfl (lv_at hl 1 rfl) ?_
    refine lv_iload_n hx hb dX10_unlike_37 rfl (lv_at hl 2 rfl) ?_
    refine lv_iload_n hx hb dX10_unlike_38 rfl (lv_at hl 3 rfl) ?_
    refine lv_iload hx hb dX10_unlike_39 (lv_at hl 4 rfl) ?_
    have p_16 := (p_vp.fr hfF_9 hpr (by decide))
    have p_17 := (p_vq.fr hfF_9 hco (by decide))
    refine zk_Vv (As := [.int f, .int x, .int y, .int z]) (rest := []) (bytes := cX5_finish) (maxL := 8) (ret := none) Z h (zj_X5_finish l D k Γ L F_9 H.size tm f x y z (v_new0 (zar F tm 7) (zar F tm 8) (zar F tm 9) (zng nt_)) fa pg pr co A na 2000 (-1) X2 htm q_11 kq_12 hpr p_16 (hfF_9.f hpr 1 ⟨by decide, by decide⟩ kco) hco p_17 q_13 (zB.of ⟨by decide, by decide⟩) q_14 (zB.of ⟨by decide, by decide⟩) (by have := (zB.all f).1; have := (zB.all f).2; have := (zB.all x).1; have := (zB.all x).2; have := (zB.all y).1; have := (zB.all y).2; have := (zB.all z).1; have := (zB.all z).2; have := bnt_.1; have := bnt_.2; have := bfc_.1; have := bfc_.2; have : ((-1) : Int32).toInt = (-1) := (by decide); have : (0 : Int32).toInt = 0 := (by decide); have : (2000 : Int32).toInt = 2000 := (by decide); omega) ⟨rfl, rfl, rfl⟩ rfl hr3 ⟨hr0.1, hr0.2.1, hr0.2.2.fr ((hfF_9 : zFr Γ [500, 501, 502, 503, 504, 505, 506, 510, 511, 512, 513, 515, 518] F F_9)) (by decide)⟩) (cwV 4 hg zv_RX10_167 rfl rfl rfl zd_X5_finish ⟨z_leR hRf (by decide), z_leR hRl (by decide)⟩) htm (by decide) rfl rfl hl.1 rfl (Nat.le_of_ble_eq_true rfl) dX10_unlike_41 ⟨Nat.zero_le _, Nat.zero_le _⟩ (fun F_18 H locs w_19 h hfF_18 => ?_)
    obtain ⟨q_20, q_21, -⟩ := w_19
    have hvT_ : zVc F_18 tm (v_run ((-1) : Int32).toInt (2000 : Int32).toInt pg A na 4000000 (v_enter pg f.toInt (v_cut (pg.1.2 f.toInt.toNat) x y z (v_new0 (zar F tm 7) (zar F tm 8) (zar F tm 9) (zng nt_))))) := q_20
    have hsT_ : ∀ a t, Γ a = some t → t ∈ zS5 → a ∉ X2 → a ∉ X → F_18 a = F a := fun a t e h1 h2 _ => (q_21 a t e h1 h2).trans (q_15 a t e h1 h2)
    refine lv_iconst (v := 0) hx hb dX10_unlike_44 (by decide) ?_
    refine lv_istore (lv' := [(5, .int 0), (0, .ref th), (1, .int f), (2, .int x), (3, .int y), (4, .int z)]) hx hb dX10_unlike_45 hl (by decide) rfl (fun ls hl => ?_)
    refine lv_iconst (v := 0) hx hb dX10_unlike_47 (by decide) ?_
    refine lv_istore (lv' := [(6, .int 0), (5, .int 0), (0, .ref th), (1, .int f), (2, .int x), (3, .int y), (4, .int z)]) hx hb dX10_unlike_48 hl (by decide) rfl (fun ls hl => ?_)
    have j_j50_22 : ∀ (n : Nat) (ls : Array Slot) (y6_j50_22 : Int32) (y5_j50_22 : Int32) (F_23 : Nat → va_E) (H : Heap) (locs : List Loc), lv_has ls 7 [(6, .int y6_j50_22), (5, .int y5_j50_22), (0, .ref th), (1, .int f), (2, .int x), (3, .int y), (4, .int z)] → zB 0 4 y6_j50_22 → zB 0 4 y5_j50_22 → zH D k Γ L s F_23 H locs → zFr Γ [500, 501, 502, 503, 504, 505, 506, 510, 511, 512, 513, 514, 515, 518, 10800, 10900, 11000, 11100, 11200] F_18 F_23 → (y5_j50_22.toInt ≤ y6_j50_22.toInt) → (y5_j50_22.toInt = ((zuns wU (wU ((-1) : Int32).toInt) y6_j50_22.toInt.toNat : Nat) : Int)) → (zVc F_23 tm (v_run ((-1) : Int32).toInt (2000 : Int32).toInt pg A na 4000000 (v_enter pg f.toInt (v_cut (pg.1.2 f.toInt.toNat) x y z (v_new0 (zar F tm 7) (zar F tm 8) (zar F tm 9) (zng nt_)))))) → ((∀ a t, Γ a = some t → t ∈ zS5 → a ∉ X2 → a ∉ X → F_23 a = F a)) → (2147483647 - y6_j50_22.toInt).toNat = n → W p l e R s m args below meth c H locs 0 0 Q (F0 m 50 ls []) := by
      intro n
      induction n using Nat.strongRecOn with
      | _ n ih_j50_22 =>
        intro ls y6_j50_22 y5_j50_22 F_23 H locs hl by6_j50_22 by5_j50_22 h hfF_23 r0_j50_22 r1_j50_22 r2_j50_22 r3_j50_22 hn_j50_22
        refine lv_iload hx hb dX10_unlike_50 (lv_at hl 0 rfl) ?_
        refine lv_iconst (v := 4) hx hb dX10_unlike_52 (by decide) ?_
        refine lv_icmp_ge (tgt := 107) hx hb dX10_unlike_53 (by decide) (fun c_24 => ?_) (fun c_24 => ?_)
        · have c_24 := z_le c_24
          have by6_j50_22_25 : zB 4 4 y6_j50_22 := zB.leR c_24 (zBc 4 4 (by decide)) by6_j50_22 (by decide)
          refine lv_aload_n hx hb dX10_unlike_107 rfl (lv_at hl 2 rfl) ?_
          have hI_26 := h.2.1
          refine lv_iload hx hb dX10_unlike_108 (lv_at hl 1 rfl) ?_
          refine zk_Vi (As := [.int y5_j50_22]) (rest := []) (bytes := cX10_accept) (maxL := 2) (ret := (some .int)) Z h (zm_X10_accept l D k Γ L F_23 H.size th y5_j50_22 hth) (cwV 1 hg zv_RX10_76 rfl rfl rfl zd_X10_accept ⟨z_leR hRf (by decide), z_leR hRl (by decide)⟩) hth (by decide) rfl rfl hl.1 rfl (Nat.le_of_ble_eq_true rfl) dX10_unlike_110 ⟨Nat.zero_le _, Nat.zero_le _⟩ (fun r_27 F_28 H locs w_29 h hfF_28 => ?_)
          obtain ⟨q_30, -⟩ := w_29
          have br_27 := zB.all r_27
          subst hQ
          exact W.iret (v := r_27) hx hb hr (fun t ht hW => ⟨⟨r_27, F_28, rfl, ⟨⟨fun _ => by rw [q_30, ← show y6_j50_22.toInt.toNat = 4 by have := by6_j50_22_25.1; have := by6_j50_22_25.2; have := by5_j50_22.1; have := by5_j50_22.2; have := (zB.all f).1; have := (zB.all f).2; have := (zB.all x).1; have := (zB.all x).2; have := (zB.all y).1; have := (zB.all y).2; have := (zB.all z).1; have := (zB.all z).2; have := br_27.1; have := br_27.2; have := bfc_.1; have := bfc_.2; have := bnt_.1; have := bnt_.2; have : (0 : Int32).toInt = 0 := (by decide); have : (4 : Int32).toInt = 4 := (by decide); omega]; exact r1_j50_22, fun h9 => by exfalso; exact h9 ⟨by have := by6_j50_22_25.1; have := by6_j50_22_25.2; have := by5_j50_22.1; have := by5_j50_22.2; have := (zB.all f).1; have := (zB.all f).2; have := (zB.all x).1; have := (zB.all x).2; have := (zB.all y).1; have := (zB.all y).2; have := (zB.all z).1; have := (zB.all z).2; have := br_27.1; have := br_27.2; have := bfc_.1; have := bfc_.2; have := bnt_.1; have := bnt_.2; have : (0 : Int32).toInt = 0 := (by decide); have : (4 : Int32).toInt = 4 := (by decide); omega, by have := by6_j50_22_25.1; have := by6_j50_22_25.2; have := by5_j50_22.1; have := by5_j50_22.2; have := (zB.all f).1; have := (zB.all f).2; have := (zB.all x).1; have := (zB.all x).2; have := (zB.all y).1; have := (zB.all y).2; have := (zB.all z).1; have := (zB.all z).2; have := br_27.1; have := br_27.2; have := bfc_.1; have := bfc_.2; have := bnt_.1; have := bnt_.2; have : (0 : Int32).toInt = 0 := (by decide); have : (4 : Int32).toInt = 4 := (by decide); omega⟩⟩, (fun a t e h1 h2 h3 h4 => (zFr.whole hI_26 h.2.1 (hfF_28 : zFr Γ [1013] F_23 F_28) (by decide) a t e h1 h2).trans (r3_j50_22 a t e h1 h3 h4)), trivial⟩, by rw [ht]; exact h.1, h.2.1, ((((hfF_9.w (by decide)).trans hfF_18 (by decide)).trans hfF_23 (by decide)).trans hfF_28 (by decide))⟩, h.2.2.F ht⟩) h.2.2.2.2 dX10_unlike_113
        · have c_24 := z_nle c_24
          have by6_j50_22_31 : zB 0 3 y6_j50_22 := zB.ltL c_24 by6_j50_22 (zBc 4 4 (by decide)) (by decide)
          refine lv_aload_n hx hb dX10_unlike_56 rfl (lv_at hl 2 rfl) ?_
          refine zt_getk (t := 10) (C := RX10) (T := TX10) (N := 14) Z h hth zin_10 rfl 7 (hfF_23.f hth 7 ⟨by decide, by decide⟩ (hfF_18.f hth 7 ⟨by decide, by decide⟩ (hfF_9.f hth 7 ⟨by decide, by decide⟩ kmt))) ⟨by decide, rfl, by decide⟩ (zm_RX10 (List.mem_of_getElem? (i := 70) rfl)) (fun _ h9 => h9) dX10_unlike_57 ?_
          refine lv_aload_n hx hb dX10_unlike_60 rfl (lv_at hl 2 rfl) ?_
          refine zt_getk (t := 10) (C := RX10) (T := TX10) (N := 14) Z h hth zin_10 rfl 2 (hfF_23.f hth 2 ⟨by decide, by decide⟩ (hfF_18.f hth 2 ⟨by decide, by decide⟩ (hfF_9.f hth 2 ⟨by decide, by decide⟩ kpr))) ⟨by decide, rfl, by decide⟩ (zm_RX10 (List.mem_of_getElem? (i := 21) rfl)) (fun _ h9 => h9) dX10_unlike_61 ?_
          refine lv_sipush (v := 2000) hx hb dX10_unlike_64 (by decide) ?_
          refine lv_iload hx hb dX10_unlike_67 (lv_at hl 0 rfl) ?_
          have hI_32 := h.2.1
          obtain ⟨x_33, kx_33, bx_33⟩ := z_learn (j := 14) (lo := (-2147483648)) (hi := 2147483647) h hmt (by decide) rfl
          refine zk_Vv (As := [.ref pr, .int 2000, .int y6_j50_22]) (rest := []) (bytes := cX5_start) (maxL := 4) (ret := none) Z h (zj_X5_start l D k Γ L F_23 H.size mt pr 2000 y6_j50_22 x_33 X hmt hpr kx_33 bx_33 ⟨hr1.1, hr1.2.1, hr1.2.2.fr (((((hfF_9.w (by decide)).trans hfF_18 (by decide)).trans hfF_23 (by decide)) : zFr Γ [500, 501, 502, 503, 504, 505, 506, 510, 511, 512, 513, 514, 515, 518, 10800, 10900, 11000, 11100, 11200] F F_23)) (by decide)⟩) (cwV 3 hg zv_RX10_163 rfl rfl rfl zd_X5_start ⟨z_leR hRf (by decide), z_leR hRl (by decide)⟩) hmt (by decide) rfl rfl hl.1 rfl (Nat.le_of_ble_eq_true rfl) dX10_unlike_69 ⟨Nat.zero_le _, Nat.zero_le _⟩ (fun F_34 H locs w_35 h hfF_34 => ?_)
          obtain ⟨q_36, kq_37, q_38, q_39, q_40, -⟩ := w_35
          have vt_41 : zVc F_34 tm (v_run ((-1) : Int32).toInt (2000 : Int32).toInt pg A na 4000000 (v_enter pg f.toInt (v_cut (pg.1.2 f.toInt.toNat) x y z (v_new0 (zar F tm 7) (zar F tm 8) (zar F tm 9) (zng nt_))))) := zVc.up r2_j50_22 hI_32 ⟨hr0.1, hr0.2.1, hr0.2.2.fr (((((hfF_9.w (by decide)).trans hfF_18 (by decide)).trans hfF_23 (by decide)) : zFr Γ [500, 501, 502, 503, 504, 505, 506, 510, 511, 512, 513, 514, 515, 518, 10800, 10900, 11000, 11100, 11200] F F_23)) (by decide)⟩ (zMa.st ⟨hr0.1, hr0.2.1, hr0.2.2.fr (((((hfF_9.w (by decide)).trans hfF_18 (by decide)).trans hfF_23 (by decide)) : zFr Γ [500, 501, 502, 503, 504, 505, 506, 510, 511, 512, 513, 514, 515, 518, 10800, 10900, 11000, 11100, 11200] F F_23)) (by decide)⟩ hr2 q_40)
          have st_42 : ∀ a t, Γ a = some t → t ∈ zS5 → a ∉ X2 → a ∉ X → F_34 a = F a := fun a t e h1 h2 h3 => (q_40 a t e h1 h3).trans (r3_j50_22 a t e h1 h2 h3)
          have hI_43 := h.2.1
          refine lv_aload_n hx hb dX10_unlike_72 rfl (lv_at hl 2 rfl) ?_
          refine zt_getk (t := 10) (C := RX10) (T := TX10) (N := 14) Z h hth zin_10 rfl 7 (hfF_34.f hth 7 ⟨by decide, by decide⟩ (hfF_23.f hth 7 ⟨by decide, by decide⟩ (hfF_18.f hth 7 ⟨by decide, by decide⟩ (hfF_9.f hth 7 ⟨by decide, by decide⟩ kmt)))) ⟨by decide, rfl, by decide⟩ (zm_RX10 (List.mem_of_getElem? (i := 70) rfl)) (fun _ h9 => h9) dX10_unlike_73 ?_
          refine lv_iload_n hx hb dX10_unlike_76 rfl (lv_at hl 3 rfl) ?_
          refine lv_iload_n hx hb dX10_unlike_77 rfl (lv_at hl 4 rfl) ?_
          refine lv_iload_n hx hb dX10_unlike_78 rfl (lv_at hl 5 rfl) ?_
          refine lv_iload hx hb dX10_unlike_79 (lv_at hl 6 rfl) ?_
          have p_44 := (((p_16.fr hfF_18 hpr (by decide)).fr hfF_23 hpr (by decide)).fr hfF_34 hpr (by decide))
          have p_45 := (((p_17.fr hfF_18 hco (by decide)).fr hfF_23 hco (by decide)).fr hfF_34 hco (by decide))
          refine zk_Vv (As := [.int f, .int x, .int y, .int z]) (rest := []) (bytes := cX5_finish) (maxL := 8) (ret := none) Z h (zj_X5_finish l D k Γ L F_34 H.size mt f x y z (v_new0 (zar F_23 mt 7) (zar F_23 mt 8) (zar F_23 mt 9) (zng x_33)) fa pg pr co A na 2000 y6_j50_22 X hmt q_36 kq_37 hpr p_44 (hfF_34.f hpr 1 ⟨by decide, by decide⟩ (hfF_23.f hpr 1 ⟨by decide, by decide⟩ (hfF_18.f hpr 1 ⟨by decide, by decide⟩ (hfF_9.f hpr 1 ⟨by decide, by decide⟩ kco)))) hco p_45 q_38 (zB.of ⟨by decide, by decide⟩) q_39 (by6_j50_22_31.w ⟨by decide, by decide⟩) (by have := by6_j50_22_31.1; have := by6_j50_22_31.2; have := by5_j50_22.1; have := by5_j50_22.2; have := (zB.all f).1; have := (zB.all f).2; have := (zB.all x).1; have := (zB.all x).2; have := (zB.all y).1; have := (zB.all y).2; have := (zB.all z).1; have := (zB.all z).2; have := bfc_.1; have := bfc_.2; have := bx_33.1; have := bx_33.2; have := bnt_.1; have := bnt_.2; have : (0 : Int32).toInt = 0 := (by decide); have : (4 : Int32).toInt = 4 := (by decide); have : (2000 : Int32).toInt = 2000 := (by decide); omega) ⟨rfl, rfl, rfl⟩ rfl hr3 ⟨hr1.1, hr1.2.1, hr1.2.2.fr ((((((hfF_9.w (by decide)).trans hfF_18 (by decide)).trans hfF_23 (by decide)).trans hfF_34 (by decide)) : zFr Γ [500, 501, 502, 503, 504, 505, 506, 510, 511, 512, 513, 514, 515, 518, 10800, 10900, 11000, 11100, 11200] F F_34)) (by decide)⟩) (cwV 4 hg zv_RX10_167 rfl rfl rfl zd_X5_finish ⟨z_leR hRf (by decide), z_leR hRl (by decide)⟩) hmt (by decide) rfl rfl hl.1 rfl (Nat.le_of_ble_eq_true rfl) dX10_unlike_81 ⟨Nat.zero_le _, Nat.zero_le _⟩ (fun F_46 H locs w_47 h hfF_46 => ?_)
          obtain ⟨q_48, q_49, -⟩ := w_47
          have vt_50 : zVc F_46 tm (v_run ((-1) : Int32).toInt (2000 : Int32).toInt pg A na 4000000 (v_enter pg f.toInt (v_cut (pg.1.2 f.toInt.toNat) x y z (v_new0 (zar F tm 7) (zar F tm 8) (zar F tm 9) (zng nt_))))) := zVc.up vt_41 hI_43 ⟨hr0.1, hr0.2.1, hr0.2.2.fr ((((((hfF_9.w (by decide)).trans hfF_18 (by decide)).trans hfF_23 (by decide)).trans hfF_34 (by decide)) : zFr Γ [500, 501, 502, 503, 504, 505, 506, 510, 511, 512, 513, 514, 515, 518, 10800, 10900, 11000, 11100, 11200] F F_34)) (by decide)⟩ (zMa.st ⟨hr0.1, hr0.2.1, hr0.2.2.fr ((((((hfF_9.w (by decide)).trans hfF_18 (by decide)).trans hfF_23 (by decide)).trans hfF_34 (by decide)) : zFr Γ [500, 501, 502, 503, 504, 505, 506, 510, 511, 512, 513, 514, 515, 518, 10800, 10900, 11000, 11100, 11200] F F_34)) (by decide)⟩ hr2 q_49)
          have st_51 : ∀ a t, Γ a = some t → t ∈ zS5 → a ∉ X2 → a ∉ X → F_46 a = F a := fun a t e h1 h2 h3 => (q_49 a t e h1 h3).trans (st_42 a t e h1 h2 h3)
          refine lv_aload_n hx hb dX10_unlike_84 rfl (lv_at hl 2 rfl) ?_
          refine zt_getk (t := 10) (C := RX10) (T := TX10) (N := 14) Z h hth zin_10 rfl 7 (hfF_46.f hth 7 ⟨by decide, by decide⟩ (hfF_34.f hth 7 ⟨by decide, by decide⟩ (hfF_23.f hth 7 ⟨by decide, by decide⟩ (hfF_18.f hth 7 ⟨by decide, by decide⟩ (hfF_9.f hth 7 ⟨by decide, by decide⟩ kmt))))) ⟨by decide, rfl, by decide⟩ (zm_RX10 (List.mem_of_getElem? (i := 70) rfl)) (fun _ h9 => h9) dX10_unlike_85 ?_
          refine lv_aload_n hx hb dX10_unlike_88 rfl (lv_at hl 2 rfl) ?_
          refine zt_getk (t := 10) (C := RX10) (T := TX10) (N := 14) Z h hth zin_10 rfl 6 (hfF_46.f hth 6 ⟨by decide, by decide⟩ (hfF_34.f hth 6 ⟨by decide, by decide⟩ (hfF_23.f hth 6 ⟨by decide, by decide⟩ (hfF_18.f hth 6 ⟨by decide, by decide⟩ (hfF_9.f hth 6 ⟨by decide, by decide⟩ ktm))))) ⟨by decide, rfl, by decide⟩ (zm_RX10 (List.mem_of_getElem? (i := 72) rfl)) (fun _ h9 => h9) dX10_unlike_89 ?_
          refine zk_Vi (As := [.ref tm]) (rest := []) (bytes := cX5_tellsLike) (maxL := 3) (ret := (some .boolean)) Z h (zm_X5_tellsLike l D k Γ L F_46 H.size mt tm (v_run y6_j50_22.toInt (2000 : Int32).toInt pg A na 4000000 (v_enter pg f.toInt (v_cut (pg.1.2 f.toInt.toNat) x y z (v_new0 (zar F_23 mt 7) (zar F_23 mt 8) (zar F_23 mt 9) (zng x_33))))) (v_run ((-1) : Int32).toInt (2000 : Int32).toInt pg A na 4000000 (v_enter pg f.toInt (v_cut (pg.1.2 f.toInt.toNat) x y z (v_new0 (zar F tm 7) (zar F tm 8) (zar F tm 9) (zng nt_))))) hmt htm q_48 vt_50) (cwV 1 hg zv_RX10_223 rfl rfl rfl zd_X5_tellsLike ⟨z_leR hRf (by decide), z_leR hRl (by decide)⟩) hmt (by decide) rfl rfl hl.1 rfl (Nat.le_of_ble_eq_true rfl) dX10_unlike_92 ⟨Nat.zero_le _, Nat.zero_le _⟩ (fun r_52 F_53 H locs w_54 h hfF_53 => ?_)
          obtain ⟨rfl, br_52, q_55, -⟩ := w_54
          refine lv_if_ne (tgt := 101) hx hb dX10_unlike_95 (by decide) (fun c_56 => ?_) (fun c_56 => ?_)
          · have c_56 := z_ne c_56
            have br_52_57 : zB 1 1 r_52 := zB.neLo c_56 br_52 (zBc 0 0 (by decide)) (by decide)
            obtain ⟨x_58, ex_58, bx_58, tx_58⟩ := z_inc (n := 1) (lo := 1) (hi := 4) by6_j50_22_31 (by decide)
            refine lv_iinc (v := x_58) (lv' := [(6, .int x_58), (5, .int y5_j50_22), (0, .ref th), (1, .int f), (2, .int x), (3, .int y), (4, .int z)]) hx hb dX10_unlike_101 hl (k := 0) rfl ex_58 (by decide) rfl (fun ls hl => ?_)
            refine lv_goto (tgt := 50) hx hb dX10_unlike_104 (by decide) ?_
            have hk_59 : v_like (wU ((y6_j50_22.toInt.toNat : Nat) : Int)) (wU ((-1) : Int32).toInt) := by
              rw [show ((y6_j50_22.toInt.toNat : Nat) : Int) = y6_j50_22.toInt by have := bx_58.1; have := bx_58.2; have := by5_j50_22.1; have := by5_j50_22.2; have := (zB.all f).1; have := (zB.all f).2; have := (zB.all x).1; have := (zB.all x).2; have := (zB.all y).1; have := (zB.all y).2; have := (zB.all z).1; have := (zB.all z).2; have := by6_j50_22_31.1; have := by6_j50_22_31.2; have := bfc_.1; have := bfc_.2; have := bnt_.1; have := bnt_.2; have : (0 : Int32).toInt = 0 := (by decide); have : (4 : Int32).toInt = 4 := (by decide); have : (2000 : Int32).toInt = 2000 := (by decide); omega]
              rcases q_55 with ⟨-, h7⟩ | ⟨h7, -⟩
              · exact (v_like.eq (hr4 ⟨by have := bx_58.1; have := bx_58.2; have := by5_j50_22.1; have := by5_j50_22.2; have := (zB.all f).1; have := (zB.all f).2; have := (zB.all x).1; have := (zB.all x).2; have := (zB.all y).1; have := (zB.all y).2; have := (zB.all z).1; have := (zB.all z).2; have := by6_j50_22_31.1; have := by6_j50_22_31.2; have := bfc_.1; have := bfc_.2; have := bnt_.1; have := bnt_.2; have : (0 : Int32).toInt = 0 := (by decide); have : (4 : Int32).toInt = 4 := (by decide); have : (2000 : Int32).toInt = 2000 := (by decide); omega, by have := bx_58.1; have := bx_58.2; have := by5_j50_22.1; have := by5_j50_22.2; have := (zB.all f).1; have := (zB.all f).2; have := (zB.all x).1; have := (zB.all x).2; have := (zB.all y).1; have := (zB.all y).2; have := (zB.all z).1; have := (zB.all z).2; have := by6_j50_22_31.1; have := by6_j50_22_31.2; have := bfc_.1; have := bfc_.2; have := bnt_.1; have := bnt_.2; have : (0 : Int32).toInt = 0 := (by decide); have : (4 : Int32).toInt = 4 := (by decide); have : (2000 : Int32).toInt = 2000 := (by decide); omega⟩ y6_j50_22.toInt (zar F_23 mt 7) (zar F_23 mt 8) (zar F_23 mt 9) (zng x_33)) (hr4 ⟨by have := bx_58.1; have := bx_58.2; have := by5_j50_22.1; have := by5_j50_22.2; have := (zB.all f).1; have := (zB.all f).2; have := (zB.all x).1; have := (zB.all x).2; have := (zB.all y).1; have := (zB.all y).2; have := (zB.all z).1; have := (zB.all z).2; have := by6_j50_22_31.1; have := by6_j50_22_31.2; have := bfc_.1; have := bfc_.2; have := bnt_.1; have := bnt_.2; have : (0 : Int32).toInt = 0 := (by decide); have : (4 : Int32).toInt = 4 := (by decide); have : (2000 : Int32).toInt = 2000 := (by decide); omega, by have := bx_58.1; have := bx_58.2; have := by5_j50_22.1; have := by5_j50_22.2; have := (zB.all f).1; have := (zB.all f).2; have := (zB.all x).1; have := (zB.all x).2; have := (zB.all y).1; have := (zB.all y).2; have := (zB.all z).1; have := (zB.all z).2; have := by6_j50_22_31.1; have := by6_j50_22_31.2; have := bfc_.1; have := bfc_.2; have := bnt_.1; have := bnt_.2; have : (0 : Int32).toInt = 0 := (by decide); have : (4 : Int32).toInt = 4 := (by decide); have : (2000 : Int32).toInt = 2000 := (by decide); omega⟩ ((-1) : Int32).toInt (zar F tm 7) (zar F tm 8) (zar F tm 9) (zng nt_))).mp h7
              · exfalso; have := bx_58.1; have := bx_58.2; have := by5_j50_22.1; have := by5_j50_22.2; have := (zB.all f).1; have := (zB.all f).2; have := (zB.all x).1; have := (zB.all x).2; have := (zB.all y).1; have := (zB.all y).2; have := (zB.all z).1; have := (zB.all z).2; have := by6_j50_22_31.1; have := by6_j50_22_31.2; have := bfc_.1; have := bfc_.2; have := bnt_.1; have := bnt_.2; have : (0 : Int32).toInt = 0 := (by decide); have : (4 : Int32).toInt = 4 := (by decide); have : (2000 : Int32).toInt = 2000 := (by decide); omega
            exact ih_j50_22 _ (by have := bx_58.1; have := bx_58.2; have := by5_j50_22.1; have := by5_j50_22.2; have := (zB.all f).1; have := (zB.all f).2; have := (zB.all x).1; have := (zB.all x).2; have := (zB.all y).1; have := (zB.all y).2; have := (zB.all z).1; have := (zB.all z).2; have := bfc_.1; have := bfc_.2; have := by6_j50_22_31.1; have := by6_j50_22_31.2; have := bnt_.1; have := bnt_.2; have : (0 : Int32).toInt = 0 := (by decide); have : (4 : Int32).toInt = 4 := (by decide); have : (2000 : Int32).toInt = 2000 := (by decide); have := by6_j50_22.1; have := by6_j50_22.2; have := by5_j50_22.1; have := by5_j50_22.2; omega) ls x_58 y5_j50_22 F_46 H locs (lv_sub hl [0, 1, 2, 3, 4, 5, 6] rfl) (bx_58.w ⟨by decide, by decide⟩) by5_j50_22 h ((hfF_23.trans hfF_34 (by decide)).trans hfF_46 (by decide)) (by have := bx_58.1; have := bx_58.2; have := by5_j50_22.1; have := by5_j50_22.2; have := (zB.all f).1; have := (zB.all f).2; have := (zB.all x).1; have := (zB.all x).2; have := (zB.all y).1; have := (zB.all y).2; have := (zB.all z).1; have := (zB.all z).2; have := bfc_.1; have := bfc_.2; have := by6_j50_22_31.1; have := by6_j50_22_31.2; have := bnt_.1; have := bnt_.2; have : (0 : Int32).toInt = 0 := (by decide); have : (4 : Int32).toInt = 4 := (by decide); have : (2000 : Int32).toInt = 2000 := (by decide); omega) (by rw [show x_58.toInt.toNat = y6_j50_22.toInt.toNat + 1 by have := bx_58.1; have := bx_58.2; have := by5_j50_22.1; have := by5_j50_22.2; have := (zB.all f).1; have := (zB.all f).2; have := (zB.all x).1; have := (zB.all x).2; have := (zB.all y).1; have := (zB.all y).2; have := (zB.all z).1; have := (zB.all z).2; have := by6_j50_22_31.1; have := by6_j50_22_31.2; have := bfc_.1; have := bfc_.2; have := bnt_.1; have := bnt_.2; have : (0 : Int32).toInt = 0 := (by decide); have : (4 : Int32).toInt = 4 := (by decide); have : (2000 : Int32).toInt = 2000 := (by decide); omega, zuns_y hk_59]; have h7 := r1_j50_22; have := bx_58.1; have := bx_58.2; have := by5_j50_22.1; have := by5_j50_22.2; have := (zB.all f).1; have := (zB.all f).2; have := (zB.all x).1; have := (zB.all x).2; have := (zB.all y).1; have := (zB.all y).2; have := (zB.all z).1; have := (zB.all z).2; have := by6_j50_22_31.1; have := by6_j50_22_31.2; have := bfc_.1; have := bfc_.2; have := bnt_.1; have := bnt_.2; have : (0 : Int32).toInt = 0 := (by decide); have : (4 : Int32).toInt = 4 := (by decide); have : (2000 : Int32).toInt = 2000 := (by decide); omega) vt_50 st_51 rfl
          · have c_56 := z_eq c_56
            have br_52_60 : zB 0 0 r_52 := zB.eqL (a := 0) (b := 0) c_56 (zBc 0 0 (by decide))
            obtain ⟨x_61, ex_61, bx_61, tx_61⟩ := z_inc (n := 1) (lo := 1) (hi := 5) by5_j50_22 (by decide)
            refine lv_iinc (v := x_61) (lv' := [(5, .int x_61), (6, .int y6_j50_22), (0, .ref th), (1, .int f), (2, .int x), (3, .int y), (4, .int z)]) hx hb dX10_unlike_98 hl (k := 1) rfl ex_61 (by decide) rfl (fun ls hl => ?_)
            obtain ⟨x_62, ex_62, bx_62, tx_62⟩ := z_inc (n := 1) (lo := 1) (hi := 4) by6_j50_22_31 (by decide)
            refine lv_iinc (v := x_62) (lv' := [(6, .int x_62), (5, .int x_61), (0, .ref th), (1, .int f), (2, .int x), (3, .int y), (4, .int z)]) hx hb dX10_unlike_101 hl (k := 1) rfl ex_62 (by decide) rfl (fun ls hl => ?_)
            refine lv_goto (tgt := 50) hx hb dX10_unlike_104 (by decide) ?_
            have hk_63 : ¬ v_like (wU ((y6_j50_22.toInt.toNat : Nat) : Int)) (wU ((-1) : Int32).toInt) := by
              rw [show ((y6_j50_22.toInt.toNat : Nat) : Int) = y6_j50_22.toInt by have := bx_62.1; have := bx_62.2; have := bx_61.1; have := bx_61.2; have := (zB.all f).1; have := (zB.all f).2; have := (zB.all x).1; have := (zB.all x).2; have := (zB.all y).1; have := (zB.all y).2; have := (zB.all z).1; have := (zB.all z).2; have := by6_j50_22_31.1; have := by6_j50_22_31.2; have := bfc_.1; have := bfc_.2; have := bnt_.1; have := bnt_.2; have : (0 : Int32).toInt = 0 := (by decide); have : (4 : Int32).toInt = 4 := (by decide); have : (2000 : Int32).toInt = 2000 := (by decide); omega]
              rcases q_55 with ⟨h7, -⟩ | ⟨-, h7⟩
              · exfalso; have := bx_62.1; have := bx_62.2; have := bx_61.1; have := bx_61.2; have := (zB.all f).1; have := (zB.all f).2; have := (zB.all x).1; have := (zB.all x).2; have := (zB.all y).1; have := (zB.all y).2; have := (zB.all z).1; have := (zB.all z).2; have := by6_j50_22_31.1; have := by6_j50_22_31.2; have := bfc_.1; have := bfc_.2; have := bnt_.1; have := bnt_.2; have : (0 : Int32).toInt = 0 := (by decide); have : (4 : Int32).toInt = 4 := (by decide); have : (2000 : Int32).toInt = 2000 := (by decide); omega
              · exact fun h6 => h7 ((v_like.eq (hr4 ⟨by have := bx_62.1; have := bx_62.2; have := bx_61.1; have := bx_61.2; have := (zB.all f).1; have := (zB.all f).2; have := (zB.all x).1; have := (zB.all x).2; have := (zB.all y).1; have := (zB.all y).2; have := (zB.all z).1; have := (zB.all z).2; have := by6_j50_22_31.1; have := by6_j50_22_31.2; have := bfc_.1; have := bfc_.2; have := bnt_.1; have := bnt_.2; have : (0 : Int32).toInt = 0 := (by decide); have : (4 : Int32).toInt = 4 := (by decide); have : (2000 : Int32).toInt = 2000 := (by decide); omega, by have := bx_62.1; have := bx_62.2; have := bx_61.1; have := bx_61.2; have := (zB.all f).1; have := (zB.all f).2; have := (zB.all x).1; have := (zB.all x).2; have := (zB.all y).1; have := (zB.all y).2; have := (zB.all z).1; have := (zB.all z).2; have := by6_j50_22_31.1; have := by6_j50_22_31.2; have := bfc_.1; have := bfc_.2; have := bnt_.1; have := bnt_.2; have : (0 : Int32).toInt = 0 := (by decide); have : (4 : Int32).toInt = 4 := (by decide); have : (2000 : Int32).toInt = 2000 := (by decide); omega⟩ y6_j50_22.toInt (zar F_23 mt 7) (zar F_23 mt 8) (zar F_23 mt 9) (zng x_33)) (hr4 ⟨by have := bx_62.1; have := bx_62.2; have := bx_61.1; have := bx_61.2; have := (zB.all f).1; have := (zB.all f).2; have := (zB.all x).1; have := (zB.all x).2; have := (zB.all y).1; have := (zB.all y).2; have := (zB.all z).1; have := (zB.all z).2; have := by6_j50_22_31.1; have := by6_j50_22_31.2; have := bfc_.1; have := bfc_.2; have := bnt_.1; have := bnt_.2; have : (0 : Int32).toInt = 0 := (by decide); have : (4 : Int32).toInt = 4 := (by decide); have : (2000 : Int32).toInt = 2000 := (by decide); omega, by have := bx_62.1; have := bx_62.2; have := bx_61.1; have := bx_61.2; have := (zB.all f).1; have := (zB.all f).2; have := (zB.all x).1; have := (zB.all x).2; have := (zB.all y).1; have := (zB.all y).2; have := (zB.all z).1; have := (zB.all z).2; have := by6_j50_22_31.1; have := by6_j50_22_31.2; have := bfc_.1; have := bfc_.2; have := bnt_.1; have := bnt_.2; have : (0 : Int32).toInt = 0 := (by decide); have : (4 : Int32).toInt = 4 := (by decide); have : (2000 : Int32).toInt = 2000 := (by decide); omega⟩ ((-1) : Int32).toInt (zar F tm 7) (zar F tm 8) (zar F tm 9) (zng nt_))).mpr h6)
            exact ih_j50_22 _ (by have := bx_62.1; have := bx_62.2; have := bx_61.1; have := bx_61.2; have := (zB.all f).1; have := (zB.all f).2; have := (zB.all x).1; have := (zB.all x).2; have := (zB.all y).1; have := (zB.all y).2; have := (zB.all z).1; have := (zB.all z).2; have := bfc_.1; have := bfc_.2; have := by6_j50_22_31.1; have := by6_j50_22_31.2; have := bnt_.1; have := bnt_.2; have : (0 : Int32).toInt = 0 := (by decide); have : (4 : Int32).toInt = 4 := (by decide); have : (2000 : Int32).toInt = 2000 := (by decide); have := by6_j50_22.1; have := by6_j50_22.2; have := by5_j50_22.1; have := by5_j50_22.2; omega) ls x_62 x_61 F_46 H locs (lv_sub hl [0, 1, 2, 3, 4, 5, 6] rfl) (bx_62.w ⟨by decide, by decide⟩) (zB.of ⟨by have := bx_62.1; have := bx_62.2; have := bx_61.1; have := bx_61.2; have := (zB.all f).1; have := (zB.all f).2; have := (zB.all x).1; have := (zB.all x).2; have := (zB.all y).1; have := (zB.all y).2; have := (zB.all z).1; have := (zB.all z).2; have := bfc_.1; have := bfc_.2; have := by6_j50_22_31.1; have := by6_j50_22_31.2; have := bnt_.1; have := bnt_.2; have : (0 : Int32).toInt = 0 := (by decide); have : (4 : Int32).toInt = 4 := (by decide); have : (2000 : Int32).toInt = 2000 := (by decide); omega, by have := bx_62.1; have := bx_62.2; have := bx_61.1; have := bx_61.2; have := (zB.all f).1; have := (zB.all f).2; have := (zB.all x).1; have := (zB.all x).2; have := (zB.all y).1; have := (zB.all y).2; have := (zB.all z).1; have := (zB.all z).2; have := bfc_.1; have := bfc_.2; have := by6_j50_22_31.1; have := by6_j50_22_31.2; have := bnt_.1; have := bnt_.2; have : (0 : Int32).toInt = 0 := (by decide); have : (4 : Int32).toInt = 4 := (by decide); have : (2000 : Int32).toInt = 2000 := (by decide); omega⟩) h ((hfF_23.trans hfF_34 (by decide)).trans hfF_46 (by decide)) (by have := bx_62.1; have := bx_62.2; have := bx_61.1; have := bx_61.2; have := (zB.all f).1; have := (zB.all f).2; have := (zB.all x).1; have := (zB.all x).2; have := (zB.all y).1; have := (zB.all y).2; have := (zB.all z).1; have := (zB.all z).2; have := bfc_.1; have := bfc_.2; have := by6_j50_22_31.1; have := by6_j50_22_31.2; have := bnt_.1; have := bnt_.2; have : (0 : Int32).toInt = 0 := (by decide); have : (4 : Int32).toInt = 4 := (by decide); have : (2000 : Int32).toInt = 2000 := (by decide); omega) (by rw [show x_62.toInt.toNat = y6_j50_22.toInt.toNat + 1 by have := bx_62.1; have := bx_62.2; have := bx_61.1; have := bx_61.2; have := (zB.all f).1; have := (zB.all f).2; have := (zB.all x).1; have := (zB.all x).2; have := (zB.all y).1; have := (zB.all y).2; have := (zB.all z).1; have := (zB.all z).2; have := by6_j50_22_31.1; have := by6_j50_22_31.2; have := bfc_.1; have := bfc_.2; have := bnt_.1; have := bnt_.2; have : (0 : Int32).toInt = 0 := (by decide); have : (4 : Int32).toInt = 4 := (by decide); have : (2000 : Int32).toInt = 2000 := (by decide); omega, zuns_n hk_63]; have h7 := r1_j50_22; have := bx_62.1; have := bx_62.2; have := bx_61.1; have := bx_61.2; have := (zB.all f).1; have := (zB.all f).2; have := (zB.all x).1; have := (zB.all x).2; have := (zB.all y).1; have := (zB.all y).2; have := (zB.all z).1; have := (zB.all z).2; have := by6_j50_22_31.1; have := by6_j50_22_31.2; have := bfc_.1; have := bfc_.2; have := bnt_.1; have := bnt_.2; have : (0 : Int32).toInt = 0 := (by decide); have : (4 : Int32).toInt = 4 := (by decide); have : (2000 : Int32).toInt = 2000 := (by decide); omega) vt_50 st_51 rfl
    exact j_j50_22 _ ls 0 0 F_18 H locs (lv_sub hl [0, 1, 2, 3, 4, 5, 6] rfl) (zB.of ⟨by decide, by decide⟩) (zB.of ⟨by decide, by decide⟩) h zFr.rf (by have := (zB.all f).1; have := (zB.all f).2; have := (zB.all x).1; have := (zB.all x).2; have := (zB.all y).1; have := (zB.all y).2; have := (zB.all z).1; have := (zB.all z).2; have := bfc_.1; have := bfc_.2; have := bnt_.1; have := bnt_.2; have : ((-1) : Int32).toInt = (-1) := (by decide); have : (0 : Int32).toInt = 0 := (by decide); have : (2000 : Int32).toInt = 2000 := (by decide); omega) (by rw [show (0 : Int32).toInt.toNat = 0 by decide]; exact (show (0 : Int32).toInt = 0 by decide)) hvT_ hsT_ rfl
  · have q_64 := q_5 c_6
    have c_6 := z_eq c_6
    have br_1_65 : zB 0 0 r_1 := zB.eqL (a := 0) (b := 0) c_6 (zBc 0 0 (by decide))
    refine lv_aload_n hx hb dX10_unlike_11 rfl (lv_at hl 0 rfl) ?_
    refine lv_iconst (v := 1) hx hb dX10_unlike_12 (by decide) ?_
    refine zk_Vi (As := [.int 1]) (rest := []) (bytes := cX10_refuse) (maxL := 2) (ret := (some .int)) Z h (zc_X10_refuse l D k Γ L F H.size th 1 hth) (cwV 1 hg zv_RX10_68 rfl rfl rfl zd_X10_refuse ⟨z_leR hRf (by decide), z_leR hRl (by decide)⟩) hth (by decide) rfl rfl hl.1 rfl (Nat.le_of_ble_eq_true rfl) dX10_unlike_13 ⟨Nat.zero_le _, Nat.zero_le _⟩ (fun r_66 F_67 H locs w_68 h hfF_67 => ?_)
    obtain ⟨br_66, -⟩ := w_68
    subst hQ
    exact W.iret (v := r_66) hx hb hr (fun t ht hW => ⟨⟨r_66, F_67, rfl, ⟨⟨fun h9 => by exfalso; have := (zB.all f).1; have := (zB.all f).2; have := (zB.all x).1; have := (zB.all x).2; have := (zB.all y).1; have := (zB.all y).2; have := (zB.all z).1; have := (zB.all z).2; have := br_66.1; have := br_66.2; have := bnt_.1; have := bnt_.2; have := bfc_.1; have := bfc_.2; have : (0 : Int32).toInt = 0 := (by decide); omega, fun _ => by have := (zB.all f).1; have := (zB.all f).2; have := (zB.all x).1; have := (zB.all x).2; have := (zB.all y).1; have := (zB.all y).2; have := (zB.all z).1; have := (zB.all z).2; have := br_66.1; have := br_66.2; have := bnt_.1; have := bnt_.2; have := bfc_.1; have := bfc_.2; have : (0 : Int32).toInt = 0 := (by decide); omega⟩, (fun a t e h1 h2 _ _ => zFr.whole hI0 h.2.1 (hfF_67 : zFr Γ [1013] F F_67) (by decide) a t e h1 h2), trivial⟩, by rw [ht]; exact h.1, h.2.1, (hfF_67.w (by decide))⟩, h.2.2.F ht⟩) h.2.2.2.2 dX10_unlike_16

set_option maxHeartbeats 4000000 in
set_option maxRecDepth 100000 in
theorem zm_X10_tell (l : Launch) (D : va_G) (k : Nat → ClassId) (Γ : Nat → Option Nat) (L : List Nat) (F : Nat → va_E) (sz : Nat) (th : Nat) (f : Int32) (x : Int32) (y : Int32) (z : Int32) (pr : Nat) (fa : Nat → Nat) (pg : zPg) (co : Nat) (A : Nat → Nat × Int × Nat) (na : Nat) (to : Nat) (sz_ : Int32) (mt : Nat) (nx_ : Int32) (X : List Nat) (hth : Γ th = some 10) (kpr : zfld F th 2 = .ref pr) (hpr : Γ pr = some 6) (p_vp : zVp Γ F pr fa pg) (kco : zfld F pr 1 = .ref co) (hco : Γ co = some 1) (p_vq : zVq Γ F co A na) (kto : zfld F th 10 = .ref to) (hto : Γ to = some 9) (ksz_ : zfld F to 4 = .int sz_) (bsz_ : zB 0 12 sz_) (kmt : zfld F th 7 = .ref mt) (hmt : Γ mt = some 5) (knx_ : zfld F mt 14 = .int nx_) (bnx_ : zB (-2147483648) 2147483647 nx_) (hr0 : zMa Γ F mt X) (hr1 : ∀ q, q < na → (A q).1 ≤ 16 ∧ (13 ≤ (A q).1 → (A q).1 ≤ 15 → 0 ≤ (A q).2.1)) : Met l yX10_tell zwX10_tell ({ frames := 5, cells := 0, slots := 0, locals := 114 }) (va_Pc [.ref th, .int f, .int x, .int y, .int z] (zP D k Γ L F sz)) (va_Qi (fun (r : Int32) (u : Nat → va_E) => (∃ (s9 : Int32), zfld u to 4 = .int s9 ∧ zB 0 12 s9 ∧ ((0 ≤ f.toInt ∧ f.toInt < (pg.1.1 : Int) ∧ sz_.toInt < 12 → r.toInt = sz_.toInt ∧ s9.toInt = sz_.toInt + 1) ∧ (f.toInt < 0 ∨ (pg.1.1 : Int) ≤ f.toInt ∨ 12 ≤ sz_.toInt → r.toInt = -1 ∧ s9.toInt = sz_.toInt))) ∧ (∀ a t, Γ a = some t → t ∈ zS5 → t ≠ 10 → a ∉ X → u a = F a) ∧ True) (zQ D k Γ L F [500, 501, 502, 503, 504, 505, 506, 510, 511, 512, 513, 514, 515, 518, 904, 1013, 10800, 10900, 11000, 11100, 11200, 11500]) (zA L sz)) 0 0 (zA L sz) := by
  refine Met.ofW (cc := cX10_tell) (maxL := 5) (ret := (some .int)) (by decide) rfl ?_
  intro p e s m args below meth c s₁ B hml hv
  obtain ⟨rfl, hsz, hP, hK, hLn, hE, hI⟩ := hv
  have hx := B.exec
  have hb := B.bytes
  have hr := B.returns
  have hg : ∀ w ∈ zG, w.before _ s = true := fun w h9 => atoms_spec (ws := zwX10_tell) B.pre w (List.mem_cons_of_mem _ h9)
  have hown : s.vm.findClass RX10 = some m.cls := findClass_of_methodNamed B.named
  have hlocks := B.notSynchronized
  subst hsz
  have Z : zC p m c cX10_tell 5 s _ zG RX10 D k L := ⟨⟨hx, hb, hml, hown, hg⟩, hK, hLn, hE⟩
  have h : zH D k Γ L s F s.heap [] := ⟨hP, hI, va_S.rf⟩
  have hl := lv_entry ([.ref th, .int f, .int x, .int y, .int z]) (n := 5) (Nat.le_of_ble_eq_true rfl)
  rw [lg_entry_eq]
  generalize (lg_sl ([.ref th, .int f, .int x, .int y, .int z]) ++ List.replicate (5 - (lg_sl ([.ref th, .int f, .int x, .int y, .int z])).length) Slot.unset).toArray = ls at hl ⊢
  have hl : lv_has ls 5 [(0, .ref th), (1, .int f), (2, .int x), (3, .int y), (4, .int z)] := hl
  clear hP hK hLn hE hI
  generalize hargs : ([.ref th, .int f, .int x, .int y, .int z] : List Value).toArray = args at *
  refine z_start (fun R Q hRf hRl hQ => ?_)
  have hRf : R.frames = 5 := hRf
  have hRl : R.locals = 114 := hRl
  have h9 := h
  obtain ⟨fc_, kfc_, tfc_⟩ := p_vp.2.1
  have hfc_ := p_vp.2.2.1
  have bfc_ : zB 0 10 fc_ := ⟨by omega, by omega⟩
  have hI0 := h.2.1
  refine lv_aload_n hx hb dX10_tell_0 rfl (lv_at hl 0 rfl) ?_
  refine zt_getk (t := 10) (C := RX10) (T := TX10) (N := 14) Z h hth zin_10 rfl 2 kpr ⟨by decide, rfl, by decide⟩ (zm_RX10 (List.mem_of_getElem? (i := 21) rfl)) (fun _ h9 => h9) dX10_tell_1 ?_
  refine lv_iload_n hx hb dX10_tell_4 rfl (lv_at hl 1 rfl) ?_
  refine zk_Vi (As := [.int f]) (rest := []) (bytes := cX6_hasFunction) (maxL := 2) (ret := (some .boolean)) Z h (ze_X6_hasFunction l D k Γ L F s.heap.size pr f fc_ hpr kfc_ bfc_) (cwV 1 hg zv_RX10_98 rfl rfl rfl zd_X6_hasFunction ⟨z_leR hRf (by decide), z_leR hRl (by decide)⟩) hpr (by decide) rfl rfl hl.1 rfl (Nat.le_of_ble_eq_true rfl) dX10_tell_5 ⟨Nat.zero_le _, Nat.zero_le _⟩ (fun r_1 F_2 H locs w_3 h hfF_2 => ?_)
  obtain ⟨rfl, br_1, q_4, q_5, -⟩ := w_3
  refine lv_if_ne (tgt := 17) hx hb dX10_tell_8 (by decide) (fun c_6 => ?_) (fun c_6 => ?_)
  · have q_7 := q_4 c_6
    have c_6 := z_ne c_6
    have br_1_8 : zB 1 1 r_1 := zB.neLo c_6 br_1 (zBc 0 0 (by decide)) (by decide)
    refine lv_aload_n hx hb dX10_tell_17 rfl (lv_at hl 0 rfl) ?_
    refine zt_getk (t := 10) (C := RX10) (T := TX10) (N := 14) Z h hth zin_10 rfl 10 kto ⟨by decide, rfl, by decide⟩ (zm_RX10 (List.mem_of_getElem? (i := 80) rfl)) (fun _ h9 => h9) dX10_tell_18 ?_
    refine zk_Vi (As := []) (rest := []) (bytes := cX9_isFull) (maxL := 1) (ret := (some .boolean)) Z h (ze_X9_isFull l D k Γ L F H.size to sz_ hto ksz_ bsz_) (cwV 0 hg zv_RX10_235 rfl rfl rfl zd_X9_isFull ⟨z_leR hRf (by decide), z_leR hRl (by decide)⟩) hto (by decide) rfl rfl hl.1 rfl (Nat.le_of_ble_eq_true rfl) dX10_tell_21 ⟨Nat.zero_le _, Nat.zero_le _⟩ (fun r_9 F_10 H locs w_11 h hfF_10 => ?_)
    obtain ⟨rfl, br_9, q_12, q_13, -⟩ := w_11
    refine lv_if_eq (tgt := 33) hx hb dX10_tell_24 (by decide) (fun c_14 => ?_) (fun c_14 => ?_)
    · have q_15 := q_13 c_14
      have c_14 := z_eq c_14
      have br_9_16 : zB 0 0 r_9 := zB.eqL (a := 0) (b := 0) c_14 (zBc 0 0 (by decide))
      refine lv_aload_n hx hb dX10_tell_33 rfl (lv_at hl 0 rfl) ?_
      refine zt_getk (t := 10) (C := RX10) (T := TX10) (N := 14) Z h hth zin_10 rfl 7 kmt ⟨by decide, rfl, by decide⟩ (zm_RX10 (List.mem_of_getElem? (i := 70) rfl)) (fun _ h9 => h9) dX10_tell_34 ?_
      refine lv_aload_n hx hb dX10_tell_37 rfl (lv_at hl 0 rfl) ?_
      refine zt_getk (t := 10) (C := RX10) (T := TX10) (N := 14) Z h hth zin_10 rfl 2 kpr ⟨by decide, rfl, by decide⟩ (zm_RX10 (List.mem_of_getElem? (i := 21) rfl)) (fun _ h9 => h9) dX10_tell_38 ?_
      refine lv_sipush (v := 2000) hx hb dX10_tell_41 (by decide) ?_
      refine lv_iconst (v := (-1)) hx hb dX10_tell_44 (by decide) ?_
      refine zk_Vv (As := [.ref pr, .int 2000, .int (-1)]) (rest := []) (bytes := cX5_start) (maxL := 4) (ret := none) Z h (zj_X5_start l D k Γ L F H.size mt pr 2000 (-1) nx_ X hmt hpr knx_ bnx_ hr0) (cwV 3 hg zv_RX10_163 rfl rfl rfl zd_X5_start ⟨z_leR hRf (by decide), z_leR hRl (by decide)⟩) hmt (by decide) rfl rfl hl.1 rfl (Nat.le_of_ble_eq_true rfl) dX10_tell_45 ⟨Nat.zero_le _, Nat.zero_le _⟩ (fun F_17 H locs w_18 h hfF_17 => ?_)
      obtain ⟨q_19, kq_20, q_21, q_22, q_23, -⟩ := w_18
      refine lv_aload_n hx hb dX10_tell_48 rfl (lv_at hl 0 rfl) ?_
      refine zt_getk (t := 10) (C := RX10) (T := TX10) (N := 14) Z h hth zin_10 rfl 7 (hfF_17.f hth 7 ⟨by decide, by decide⟩ kmt) ⟨by decide, rfl, by decide⟩ (zm_RX10 (List.mem_of_getElem? (i := 70) rfl)) (fun _ h9 => h9) dX10_tell_49 ?_
      refine lv_iload_n hx hb dX10_tell_52 rfl (lv_at hl 1 rfl) ?_
      refine lv_iload_n hx hb dX10_tell_53 rfl (lv_at hl 2 rfl) ?_
      refine lv_iload_n hx hb dX10_tell_54 rfl (lv_at hl 3 rfl) ?_
      refine lv_iload hx hb dX10_tell_55 (lv_at hl 4 rfl) ?_
      have p_24 := (p_vp.fr hfF_17 hpr (by decide))
      have p_25 := (p_vq.fr hfF_17 hco (by decide))
      refine zk_Vv (As := [.int f, .int x, .int y, .int z]) (rest := []) (bytes := cX5_finish) (maxL := 8) (ret := none) Z h (zj_X5_finish l D k Γ L F_17 H.size mt f x y z (v_new0 (zar F mt 7) (zar F mt 8) (zar F mt 9) (zng nx_)) fa pg pr co A na 2000 (-1) X hmt q_19 kq_20 hpr p_24 (hfF_17.f hpr 1 ⟨by decide, by decide⟩ kco) hco p_25 q_21 (zB.of ⟨by decide, by decide⟩) q_22 (zB.of ⟨by decide, by decide⟩) (by have := (zB.all f).1; have := (zB.all f).2; have := (zB.all x).1; have := (zB.all x).2; have := (zB.all y).1; have := (zB.all y).2; have := (zB.all z).1; have := (zB.all z).2; have := bsz_.1; have := bsz_.2; have := bnx_.1; have := bnx_.2; have := bfc_.1; have := bfc_.2; have : ((-1) : Int32).toInt = (-1) := (by decide); have : (0 : Int32).toInt = 0 := (by decide); have : (2000 : Int32).toInt = 2000 := (by decide); omega) ⟨rfl, rfl, rfl⟩ rfl hr1 ⟨hr0.1, hr0.2.1, hr0.2.2.fr ((hfF_17 : zFr Γ [500, 501, 502, 503, 504, 505, 506, 510, 511, 512, 513, 515, 518] F F_17)) (by decide)⟩) (cwV 4 hg zv_RX10_167 rfl rfl rfl zd_X5_finish ⟨z_leR hRf (by decide), z_leR hRl (by decide)⟩) hmt (by decide) rfl rfl hl.1 rfl (Nat.le_of_ble_eq_true rfl) dX10_tell_57 ⟨Nat.zero_le _, Nat.zero_le _⟩ (fun F_26 H locs w_27 h hfF_26 => ?_)
      obtain ⟨q_28, q_29, -⟩ := w_27
      have hsT_ : ∀ a t, Γ a = some t → t ∈ zS5 → a ∉ X → F_26 a = F a := fun a t e h1 h2 => (q_29 a t e h1 h2).trans (q_23 a t e h1 h2)
      have hIr_ := h.2.1
      refine lv_aload_n hx hb dX10_tell_60 rfl (lv_at hl 0 rfl) ?_
      refine lv_aload_n hx hb dX10_tell_61 rfl (lv_at hl 0 rfl) ?_
      refine zt_getk (t := 10) (C := RX10) (T := TX10) (N := 14) Z h hth zin_10 rfl 10 (hfF_26.f hth 10 ⟨by decide, by decide⟩ (hfF_17.f hth 10 ⟨by decide, by decide⟩ kto)) ⟨by decide, rfl, by decide⟩ (zm_RX10 (List.mem_of_getElem? (i := 80) rfl)) (fun _ h9 => h9) dX10_tell_62 ?_
      refine lv_aload_n hx hb dX10_tell_65 rfl (lv_at hl 0 rfl) ?_
      refine zt_getk (t := 10) (C := RX10) (T := TX10) (N := 14) Z h hth zin_10 rfl 7 (hfF_26.f hth 7 ⟨by decide, by decide⟩ (hfF_17.f hth 7 ⟨by decide, by decide⟩ kmt)) ⟨by decide, rfl, by decide⟩ (zm_RX10 (List.mem_of_getElem? (i := 70) rfl)) (fun _ h9 => h9) dX10_tell_66 ?_
      refine zt_getl (t := 5) (C := RX5) (T := TX5) (N := 19) Z h hmt zin_5 rfl 6 rfl ⟨by decide, rfl⟩ (zm_RX10 (List.mem_of_getElem? (i := 56) rfl)) (fun _ h9 => h9) dX10_tell_69 (fun g_30 kg_30 => ?_)
      refine zk_Vi (As := [.long g_30]) (rest := [.ref th]) (bytes := cX9_add) (maxL := 3) (ret := (some .int)) Z h (ze_X9_add l D k Γ L F_26 H.size to g_30 sz_ hto (hfF_26.f hto 4 ⟨by decide, by decide⟩ (hfF_17.f hto 4 ⟨by decide, by decide⟩ ksz_)) (zB.of ⟨by have := (zB.all f).1; have := (zB.all f).2; have := (zB.all x).1; have := (zB.all x).2; have := (zB.all y).1; have := (zB.all y).2; have := (zB.all z).1; have := (zB.all z).2; have := bsz_.1; have := bsz_.2; have := bfc_.1; have := bfc_.2; have := bnx_.1; have := bnx_.2; have : ((-1) : Int32).toInt = (-1) := (by decide); have : (0 : Int32).toInt = 0 := (by decide); have : (2000 : Int32).toInt = 2000 := (by decide); omega, by have := (zB.all f).1; have := (zB.all f).2; have := (zB.all x).1; have := (zB.all x).2; have := (zB.all y).1; have := (zB.all y).2; have := (zB.all z).1; have := (zB.all z).2; have := bsz_.1; have := bsz_.2; have := bfc_.1; have := bfc_.2; have := bnx_.1; have := bnx_.2; have : ((-1) : Int32).toInt = (-1) := (by decide); have : (0 : Int32).toInt = 0 := (by decide); have : (2000 : Int32).toInt = 2000 := (by decide); omega⟩)) (cwV 1 hg zv_RX10_239 rfl rfl rfl zd_X9_add ⟨z_leR hRf (by decide), z_leR hRl (by decide)⟩) hto (by decide) rfl rfl hl.1 rfl (Nat.le_of_ble_eq_true rfl) dX10_tell_72 ⟨Nat.zero_le _, Nat.zero_le _⟩ (fun r_31 F_32 H locs w_33 h hfF_32 => ?_)
      obtain ⟨⟨x_35, kx_35, bx_35, q_34⟩, -⟩ := w_33
      have br_31 := zB.all r_31
      refine zk_Vi (As := [.int r_31]) (rest := []) (bytes := cX10_accept) (maxL := 2) (ret := (some .int)) Z h (zc_X10_accept l D k Γ L F_32 H.size th r_31 hth) (cwV 1 hg zv_RX10_76 rfl rfl rfl zd_X10_accept ⟨z_leR hRf (by decide), z_leR hRl (by decide)⟩) hth (by decide) rfl rfl hl.1 rfl (Nat.le_of_ble_eq_true rfl) dX10_tell_75 ⟨Nat.zero_le _, Nat.zero_le _⟩ (fun r_36 F_37 H locs w_38 h hfF_37 => ?_)
      obtain ⟨q_39, -⟩ := w_38
      have br_36 := zB.all r_36
      subst hQ
      exact W.iret (v := r_36) hx hb hr (fun t ht hW => ⟨⟨r_36, F_37, rfl, ⟨⟨x_35, (hfF_37.f hto 4 ⟨by decide, by decide⟩ kx_35), bx_35, (by have := (zB.all f).1; have := (zB.all f).2; have := (zB.all x).1; have := (zB.all x).2; have := (zB.all y).1; have := (zB.all y).2; have := (zB.all z).1; have := (zB.all z).2; have := br_36.1; have := br_36.2; have := bx_35.1; have := bx_35.2; have := bfc_.1; have := bfc_.2; have := bsz_.1; have := bsz_.2; have := bnx_.1; have := bnx_.2; have : ((-1) : Int32).toInt = (-1) := (by decide); have : (0 : Int32).toInt = 0 := (by decide); have : (2000 : Int32).toInt = 2000 := (by decide); omega)⟩, (fun a t e h1 h2 h3 => (zFr.wholeC hIr_ h.2.1 (((hfF_32.w (by decide)).trans hfF_37 (by decide)) : zFr Γ [904, 1013, 11500] F_26 F_37) (by decide) a t e h1 h2).trans (hsT_ a t e h1 h3)), trivial⟩, by rw [ht]; exact h.1, h.2.1, ((((hfF_17.w (by decide)).trans hfF_26 (by decide)).trans hfF_32 (by decide)).trans hfF_37 (by decide))⟩, h.2.2.F ht⟩) h.2.2.2.2 dX10_tell_78
    · have q_40 := q_12 c_14
      have c_14 := z_ne c_14
      have br_9_41 : zB 1 1 r_9 := zB.neLo c_14 br_9 (zBc 0 0 (by decide)) (by decide)
      refine lv_aload_n hx hb dX10_tell_27 rfl (lv_at hl 0 rfl) ?_
      refine lv_iconst (v := 3) hx hb dX10_tell_28 (by decide) ?_
      refine zk_Vi (As := [.int 3]) (rest := []) (bytes := cX10_refuse) (maxL := 2) (ret := (some .int)) Z h (zc_X10_refuse l D k Γ L F H.size th 3 hth) (cwV 1 hg zv_RX10_68 rfl rfl rfl zd_X10_refuse ⟨z_leR hRf (by decide), z_leR hRl (by decide)⟩) hth (by decide) rfl rfl hl.1 rfl (Nat.le_of_ble_eq_true rfl) dX10_tell_29 ⟨Nat.zero_le _, Nat.zero_le _⟩ (fun r_42 F_43 H locs w_44 h hfF_43 => ?_)
      obtain ⟨br_42, -⟩ := w_44
      subst hQ
      exact W.iret (v := r_42) hx hb hr (fun t ht hW => ⟨⟨r_42, F_43, rfl, ⟨⟨sz_, (hfF_43.f hto 4 ⟨by decide, by decide⟩ ksz_), bsz_, (by have := (zB.all f).1; have := (zB.all f).2; have := (zB.all x).1; have := (zB.all x).2; have := (zB.all y).1; have := (zB.all y).2; have := (zB.all z).1; have := (zB.all z).2; have := br_42.1; have := br_42.2; have := bsz_.1; have := bsz_.2; have := bnx_.1; have := bnx_.2; have := bfc_.1; have := bfc_.2; have : (0 : Int32).toInt = 0 := (by decide); omega)⟩, (fun a t e h1 h2 _ => zFr.whole hI0 h.2.1 (hfF_43 : zFr Γ [1013] F F_43) (by decide) a t e h1 h2), trivial⟩, by rw [ht]; exact h.1, h.2.1, (hfF_43.w (by decide))⟩, h.2.2.F ht⟩) h.2.2.2.2 dX10_tell_32
  · have q_45 := q_5 c_6
    have c_6 := z_eq c_6
    have br_1_46 : zB 0 0 r_1 := zB.eqL (a := 0) (b := 0) c_6 (zBc 0 0 (by decide))
    refine lv_aload_n hx hb dX10_tell_11 rfl (lv_at hl 0 rfl) ?_
    refine lv_iconst (v := 1) hx hb dX10_tell_12 (by decide) ?_
    refine zk_Vi (As := [.int 1]) (rest := []) (bytes := cX10_refuse) (maxL := 2) (ret := (some .int)) Z h (zc_X10_refuse l D k Γ L F H.size th 1 hth) (cwV 1 hg zv_RX10_68 rfl rfl rfl zd_X10_refuse ⟨z_leR hRf (by decide), z_leR hRl (by decide)⟩) hth (by decide) rfl rfl hl.1 rfl (Nat.le_of_ble_eq_true rfl) dX10_tell_13 ⟨Nat.zero_le _, Nat.zero_le _⟩ (fun r_47 F_48 H locs w_49 h hfF_48 => ?_)
    obtain ⟨br_47, -⟩ := w_49
    subst hQ
    exact W.iret (v := r_47) hx hb hr (fun t ht hW => ⟨⟨r_47, F_48, rfl, ⟨⟨sz_, (hfF_48.f hto 4 ⟨by decide, by decide⟩ ksz_), bsz_, (by have := (zB.all f).1; have := (zB.all f).2; have := (zB.all x).1; have := (zB.all x).2; have := (zB.all y).1; have := (zB.all y).2; have := (zB.all z).1; have := (zB.all z).2; have := br_47.1; have := br_47.2; have := bsz_.1; have := bsz_.2; have := bnx_.1; have := bnx_.2; have := bfc_.1; have := bfc_.2; have : (0 : Int32).toInt = 0 := (by decide); omega)⟩, (fun a t e h1 h2 _ => zFr.whole hI0 h.2.1 (hfF_48 : zFr Γ [1013] F F_48) (by decide) a t e h1 h2), trivial⟩, by rw [ht]; exact h.1, h.2.1, (hfF_48.w (by decide))⟩, h.2.2.F ht⟩) h.2.2.2.2 dX10_tell_16

set_option maxHeartbeats 4000000 in
set_option maxRecDepth 100000 in
theorem zo_X10_run (l : Launch) (D : va_G) (k : Nat → ClassId) (Γ : Nat → Option Nat) (L : List Nat) (F : Nat → va_E) (sz : Nat) (th : Nat) (f : Int32) (x : Int32) (y : Int32) (z : Int32) (fu : Int32) (pn : Nat) (fc : Int32) (hth : Γ th = some 10) (kpn : zfld F th 2 = .ref pn) (hpn : Γ pn = some 6) (kfc : zfld F pn 4 = .int fc) (bfc : zB 0 10 fc) (hr0 : fc.toInt = 0) : Met l yX10_run zwX10_run ({ frames := 5, cells := 0, slots := 0, locals := 114 }) (va_Pc [.ref th, .int f, .int x, .int y, .int z, .int fu] (zP D k Γ L F sz)) (va_Qi (fun (r : Int32) (u : Nat → va_E) => r.toInt = -1 ∧ (∀ a t, Γ a = some t → t ∈ zS5 → t ≠ 10 → u a = F a) ∧ zfld u th 8 = zfld F th 8 ∧ True) (zQ D k Γ L F [500, 501, 502, 503, 504, 505, 506, 510, 511, 512, 513, 514, 515, 518, 1008, 1013, 10800, 10900, 11000, 11100, 11200]) (zA L sz)) 0 0 (zA L sz) := by
  refine Met.ofW (cc := cX10_run) (maxL := 6) (ret := (some .int)) (by decide) rfl ?_
  intro p e s m args below meth c s₁ B hml hv
  obtain ⟨rfl, hsz, hP, hK, hLn, hE, hI⟩ := hv
  have hx := B.exec
  have hb := B.bytes
  have hr := B.returns
  have hg : ∀ w ∈ zG, w.before _ s = true := fun w h9 => atoms_spec (ws := zwX10_run) B.pre w (List.mem_cons_of_mem _ h9)
  have hown : s.vm.findClass RX10 = some m.cls := findClass_of_methodNamed B.named
  have hlocks := B.notSynchronized
  subst hsz
  have Z : zC p m c cX10_run 6 s _ zG RX10 D k L := ⟨⟨hx, hb, hml, hown, hg⟩, hK, hLn, hE⟩
  have h : zH D k Γ L s F s.heap [] := ⟨hP, hI, va_S.rf⟩
  have hl := lv_entry ([.ref th, .int f, .int x, .int y, .int z, .int fu]) (n := 6) (Nat.le_of_ble_eq_true rfl)
  rw [lg_entry_eq]
  generalize (lg_sl ([.ref th, .int f, .int x, .int y, .int z, .int fu]) ++ List.replicate (6 - (lg_sl ([.ref th, .int f, .int x, .int y, .int z, .int fu])).length) Slot.unset).toArray = ls at hl ⊢
  have hl : lv_has ls 6 [(0, .ref th), (1, .int f), (2, .int x), (3, .int y), (4, .int z), (5, .int fu)] := hl
  clear hP hK hLn hE hI
  generalize hargs : ([.ref th, .int f, .int x, .int y, .int z, .int fu] : List Value).toArray = args at *
  refine z_start (fun R Q hRf hRl hQ => ?_)
  have hRf : R.frames = 5 := hRf
  have hRl : R.locals = 114 := hRl
  have h9 := h
  have hI0 := h.2.1
  refine lv_aload_n hx hb dX10_run_0 rfl (lv_at hl 0 rfl) ?_
  refine zt_getk (t := 10) (C := RX10) (T := TX10) (N := 14) Z h hth zin_10 rfl 2 kpn ⟨by decide, rfl, by decide⟩ (zm_RX10 (List.mem_of_getElem? (i := 21) rfl)) (fun _ h9 => h9) dX10_run_1 ?_
  refine lv_iload_n hx hb dX10_run_4 rfl (lv_at hl 1 rfl) ?_
  refine zk_Vi (As := [.int f]) (rest := []) (bytes := cX6_hasFunction) (maxL := 2) (ret := (some .boolean)) Z h (ze_X6_hasFunction l D k Γ L F s.heap.size pn f fc hpn kfc bfc) (cwV 1 hg zv_RX10_98 rfl rfl rfl zd_X6_hasFunction ⟨z_leR hRf (by decide), z_leR hRl (by decide)⟩) hpn (by decide) rfl rfl hl.1 rfl (Nat.le_of_ble_eq_true rfl) dX10_run_5 ⟨Nat.zero_le _, Nat.zero_le _⟩ (fun r_1 F_2 H locs w_3 h hfF_2 => ?_)
  obtain ⟨rfl, br_1, q_4, q_5, -⟩ := w_3
  refine lv_if_ne (tgt := 17) hx hb dX10_run_8 (by decide) (fun c_6 => ?_) (fun c_6 => ?_)
  · have q_7 := q_4 c_6
    have c_6 := z_ne c_6
    have br_1_8 : zB 1 1 r_1 := zB.neLo c_6 br_1 (zBc 0 0 (by decide)) (by decide)
    exfalso
    have := (zB.all f).1; have := (zB.all f).2; have := (zB.all x).1; have := (zB.all x).2; have := (zB.all y).1; have := (zB.all y).2; have := (zB.all z).1; have := (zB.all z).2; have := (zB.all fu).1; have := (zB.all fu).2; have := bfc.1; have := bfc.2; have : (0 : Int32).toInt = 0 := (by decide); omega
  · have q_9 := q_5 c_6
    have c_6 := z_eq c_6
    have br_1_10 : zB 0 0 r_1 := zB.eqL (a := 0) (b := 0) c_6 (zBc 0 0 (by decide))
    refine lv_aload_n hx hb dX10_run_11 rfl (lv_at hl 0 rfl) ?_
    refine lv_iconst (v := 1) hx hb dX10_run_12 (by decide) ?_
    refine zk_Vi (As := [.int 1]) (rest := []) (bytes := cX10_refuse) (maxL := 2) (ret := (some .int)) Z h (zc_X10_refuse l D k Γ L F H.size th 1 hth) (cwV 1 hg zv_RX10_68 rfl rfl rfl zd_X10_refuse ⟨z_leR hRf (by decide), z_leR hRl (by decide)⟩) hth (by decide) rfl rfl hl.1 rfl (Nat.le_of_ble_eq_true rfl) dX10_run_13 ⟨Nat.zero_le _, Nat.zero_le _⟩ (fun r_11 F_12 H locs w_13 h hfF_12 => ?_)
    obtain ⟨br_11, -⟩ := w_13
    subst hQ
    exact W.iret (v := r_11) hx hb hr (fun t ht hW => ⟨⟨r_11, F_12, rfl, ⟨(by have := (zB.all f).1; have := (zB.all f).2; have := (zB.all x).1; have := (zB.all x).2; have := (zB.all y).1; have := (zB.all y).2; have := (zB.all z).1; have := (zB.all z).2; have := (zB.all fu).1; have := (zB.all fu).2; have := br_11.1; have := br_11.2; have := bfc.1; have := bfc.2; have : (0 : Int32).toInt = 0 := (by decide); omega), (fun a t e h1 h2 => zFr.whole hI0 h.2.1 (hfF_12 : zFr Γ [1013] F F_12) (by decide) a t e h1 h2), (((hfF_12 : zFr Γ [1013] F F_12).1 th 10 hth).1 (by decide) 8 (by decide)), trivial⟩, by rw [ht]; exact h.1, h.2.1, (hfF_12.w (by decide))⟩, h.2.2.F ht⟩) h.2.2.2.2 dX10_run_16

set_option maxHeartbeats 4000000 in
set_option maxRecDepth 100000 in
theorem zo_X10_wrong (l : Launch) (D : va_G) (k : Nat → ClassId) (Γ : Nat → Option Nat) (L : List Nat) (F : Nat → va_E) (sz : Nat) (th : Nat) (ru : Int32) (f : Int32) (x : Int32) (y : Int32) (z : Int32) (pn : Nat) (fc : Int32) (hth : Γ th = some 10) (kpn : zfld F th 2 = .ref pn) (hpn : Γ pn = some 6) (kfc : zfld F pn 4 = .int fc) (bfc : zB 0 10 fc) (hr0 : fc.toInt = 0) : Met l yX10_wrong zwX10_wrong ({ frames := 5, cells := 0, slots := 0, locals := 114 }) (va_Pc [.ref th, .int ru, .int f, .int x, .int y, .int z] (zP D k Γ L F sz)) (va_Qi (fun (r : Int32) (u : Nat → va_E) => r.toInt = -1 ∧ (∀ a t, Γ a = some t → t ∈ zS5 → t ≠ 10 → u a = F a) ∧ True) (zQ D k Γ L F [500, 501, 502, 503, 504, 505, 506, 510, 511, 512, 513, 514, 515, 518, 1013, 10800, 10900, 11000, 11100, 11200]) (zA L sz)) 0 0 (zA L sz) := by
  refine Met.ofW (cc := cX10_wrong) (maxL := 6) (ret := (some .int)) (by decide) rfl ?_
  intro p e s m args below meth c s₁ B hml hv
  obtain ⟨rfl, hsz, hP, hK, hLn, hE, hI⟩ := hv
  have hx := B.exec
  have hb := B.bytes
  have hr := B.returns
  have hg : ∀ w ∈ zG, w.before _ s = true := fun w h9 => atoms_spec (ws := zwX10_wrong) B.pre w (List.mem_cons_of_mem _ h9)
  have hown : s.vm.findClass RX10 = some m.cls := findClass_of_methodNamed B.named
  have hlocks := B.notSynchronized
  subst hsz
  have Z : zC p m c cX10_wrong 6 s _ zG RX10 D k L := ⟨⟨hx, hb, hml, hown, hg⟩, hK, hLn, hE⟩
  have h : zH D k Γ L s F s.heap [] := ⟨hP, hI, va_S.rf⟩
  have hl := lv_entry ([.ref th, .int ru, .int f, .int x, .int y, .int z]) (n := 6) (Nat.le_of_ble_eq_true rfl)
  rw [lg_entry_eq]
  generalize (lg_sl ([.ref th, .int ru, .int f, .int x, .int y, .int z]) ++ List.replicate (6 - (lg_sl ([.ref th, .int ru, .int f, .int x, .int y, .int z])).length) Slot.unset).toArray = ls at hl ⊢
  have hl : lv_has ls 6 [(0, .ref th), (1, .int ru), (2, .int f), (3, .int x), (4, .int y), (5, .int z)] := hl
  clear hP hK hLn hE hI
  generalize hargs : ([.ref th, .int ru, .int f, .int x, .int y, .int z] : List Value).toArray = args at *
  refine z_start (fun R Q hRf hRl hQ => ?_)
  have hRf : R.frames = 5 := hRf
  have hRl : R.locals = 114 := hRl
  have h9 := h
  have hI0 := h.2.1
  refine lv_aload_n hx hb dX10_wrong_0 rfl (lv_at hl 0 rfl) ?_
  refine zt_getk (t := 10) (C := RX10) (T := TX10) (N := 14) Z h hth zin_10 rfl 2 kpn ⟨by decide, rfl, by decide⟩ (zm_RX10 (List.mem_of_getElem? (i := 21) rfl)) (fun _ h9 => h9) dX10_wrong_1 ?_
  refine lv_iload_n hx hb dX10_wrong_4 rfl (lv_at hl 2 rfl) ?_
  refine zk_Vi (As := [.int f]) (rest := []) (bytes := cX6_hasFunction) (maxL := 2) (ret := (some .boolean)) Z h (ze_X6_hasFunction l D k Γ L F s.heap.size pn f fc hpn kfc bfc) (cwV 1 hg zv_RX10_98 rfl rfl rfl zd_X6_hasFunction ⟨z_leR hRf (by decide), z_leR hRl (by decide)⟩) hpn (by decide) rfl rfl hl.1 rfl (Nat.le_of_ble_eq_true rfl) dX10_wrong_5 ⟨Nat.zero_le _, Nat.zero_le _⟩ (fun r_1 F_2 H locs w_3 h hfF_2 => ?_)
  obtain ⟨rfl, br_1, q_4, q_5, -⟩ := w_3
  refine lv_if_ne (tgt := 17) hx hb dX10_wrong_8 (by decide) (fun c_6 => ?_) (fun c_6 => ?_)
  · have q_7 := q_4 c_6
    have c_6 := z_ne c_6
    have br_1_8 : zB 1 1 r_1 := zB.neLo c_6 br_1 (zBc 0 0 (by decide)) (by decide)
    exfalso
    have := (zB.all ru).1; have := (zB.all ru).2; have := (zB.all f).1; have := (zB.all f).2; have := (zB.all x).1; have := (zB.all x).2; have := (zB.all y).1; have := (zB.all y).2; have := (zB.all z).1; have := (zB.all z).2; have := bfc.1; have := bfc.2; have : (0 : Int32).toInt = 0 := (by decide); omega
  · have q_9 := q_5 c_6
    have c_6 := z_eq c_6
    have br_1_10 : zB 0 0 r_1 := zB.eqL (a := 0) (b := 0) c_6 (zBc 0 0 (by decide))
    refine lv_aload_n hx hb dX10_wrong_11 rfl (lv_at hl 0 rfl) ?_
    refine lv_iconst (v := 1) hx hb dX10_wrong_12 (by decide) ?_
    refine zk_Vi (As := [.int 1]) (rest := []) (bytes := cX10_refuse) (maxL := 2) (ret := (some .int)) Z h (zc_X10_refuse l D k Γ L F H.size th 1 hth) (cwV 1 hg zv_RX10_68 rfl rfl rfl zd_X10_refuse ⟨z_leR hRf (by decide), z_leR hRl (by decide)⟩) hth (by decide) rfl rfl hl.1 rfl (Nat.le_of_ble_eq_true rfl) dX10_wrong_13 ⟨Nat.zero_le _, Nat.zero_le _⟩ (fun r_11 F_12 H locs w_13 h hfF_12 => ?_)
    obtain ⟨br_11, -⟩ := w_13
    subst hQ
    exact W.iret (v := r_11) hx hb hr (fun t ht hW => ⟨⟨r_11, F_12, rfl, ⟨(by have := (zB.all ru).1; have := (zB.all ru).2; have := (zB.all f).1; have := (zB.all f).2; have := (zB.all x).1; have := (zB.all x).2; have := (zB.all y).1; have := (zB.all y).2; have := (zB.all z).1; have := (zB.all z).2; have := br_11.1; have := br_11.2; have := bfc.1; have := bfc.2; have : (0 : Int32).toInt = 0 := (by decide); omega), (fun a t e h1 h2 => zFr.whole hI0 h.2.1 (hfF_12 : zFr Γ [1013] F F_12) (by decide) a t e h1 h2), trivial⟩, by rw [ht]; exact h.1, h.2.1, (hfF_12.w (by decide))⟩, h.2.2.F ht⟩) h.2.2.2.2 dX10_wrong_16

set_option maxHeartbeats 4000000 in
set_option maxRecDepth 100000 in
theorem zo_X10_unlike (l : Launch) (D : va_G) (k : Nat → ClassId) (Γ : Nat → Option Nat) (L : List Nat) (F : Nat → va_E) (sz : Nat) (th : Nat) (f : Int32) (x : Int32) (y : Int32) (z : Int32) (pn : Nat) (fc : Int32) (hth : Γ th = some 10) (kpn : zfld F th 2 = .ref pn) (hpn : Γ pn = some 6) (kfc : zfld F pn 4 = .int fc) (bfc : zB 0 10 fc) (hr0 : fc.toInt = 0) : Met l yX10_unlike zwX10_unlike ({ frames := 5, cells := 0, slots := 0, locals := 114 }) (va_Pc [.ref th, .int f, .int x, .int y, .int z] (zP D k Γ L F sz)) (va_Qi (fun (r : Int32) (u : Nat → va_E) => r.toInt = -1 ∧ (∀ a t, Γ a = some t → t ∈ zS5 → t ≠ 10 → u a = F a) ∧ True) (zQ D k Γ L F [500, 501, 502, 503, 504, 505, 506, 510, 511, 512, 513, 514, 515, 518, 1013, 10800, 10900, 11000, 11100, 11200]) (zA L sz)) 0 0 (zA L sz) := by
  refine Met.ofW (cc := cX10_unlike) (maxL := 7) (ret := (some .int)) (by decide) rfl ?_
  intro p e s m args below meth c s₁ B hml hv
  obtain ⟨rfl, hsz, hP, hK, hLn, hE, hI⟩ := hv
  have hx := B.exec
  have hb := B.bytes
  have hr := B.returns
  have hg : ∀ w ∈ zG, w.before _ s = true := fun w h9 => atoms_spec (ws := zwX10_unlike) B.pre w (List.mem_cons_of_mem _ h9)
  have hown : s.vm.findClass RX10 = some m.cls := findClass_of_methodNamed B.named
  have hlocks := B.notSynchronized
  subst hsz
  have Z : zC p m c cX10_unlike 7 s _ zG RX10 D k L := ⟨⟨hx, hb, hml, hown, hg⟩, hK, hLn, hE⟩
  have h : zH D k Γ L s F s.heap [] := ⟨hP, hI, va_S.rf⟩
  have hl := lv_entry ([.ref th, .int f, .int x, .int y, .int z]) (n := 7) (Nat.le_of_ble_eq_true rfl)
  rw [lg_entry_eq]
  generalize (lg_sl ([.ref th, .int f, .int x, .int y, .int z]) ++ List.replicate (7 - (lg_sl ([.ref th, .int f, .int x, .int y, .int z])).length) Slot.unset).toArray = ls at hl ⊢
  have hl : lv_has ls 7 [(0, .ref th), (1, .int f), (2, .int x), (3, .int y), (4, .int z)] := hl
  clear hP hK hLn hE hI
  generalize hargs : ([.ref th, .int f, .int x, .int y, .int z] : List Value).toArray = args at *
  refine z_start (fun R Q hRf hRl hQ => ?_)
  have hRf : R.frames = 5 := hRf
  have hRl : R.locals = 114 := hRl
  have h9 := h
  have hI0 := h.2.1
  refine lv_aload_n hx hb dX10_unlike_0 rfl (lv_at hl 0 rfl) ?_
  refine zt_getk (t := 10) (C := RX10) (T := TX10) (N := 14) Z h hth zin_10 rfl 2 kpn ⟨by decide, rfl, by decide⟩ (zm_RX10 (List.mem_of_getElem? (i := 21) rfl)) (fun _ h9 => h9) dX10_unlike_1 ?_
  refine lv_iload_n hx hb dX10_unlike_4 rfl (lv_at hl 1 rfl) ?_
  refine zk_Vi (As := [.int f]) (rest := []) (bytes := cX6_hasFunction) (maxL := 2) (ret := (some .boolean)) Z h (ze_X6_hasFunction l D k Γ L F s.heap.size pn f fc hpn kfc bfc) (cwV 1 hg zv_RX10_98 rfl rfl rfl zd_X6_hasFunction ⟨z_leR hRf (by decide), z_leR hRl (by decide)⟩) hpn (by decide) rfl rfl hl.1 rfl (Nat.le_of_ble_eq_true rfl) dX10_unlike_5 ⟨Nat.zero_le _, Nat.zero_le _⟩ (fun r_1 F_2 H locs w_3 h hfF_2 => ?_)
  obtain ⟨rfl, br_1, q_4, q_5, -⟩ := w_3
  refine lv_if_ne (tgt := 17) hx hb dX10_unlike_8 (by decide) (fun c_6 => ?_) (fun c_6 => ?_)
  · have q_7 := q_4 c_6
    have c_6 := z_ne c_6
    have br_1_8 : zB 1 1 r_1 := zB.neLo c_6 br_1 (zBc 0 0 (by decide)) (by decide)
    exfalso
    have := (zB.all f).1; have := (zB.all f).2; have := (zB.all x).1; have := (zB.all x).2; have := (zB.all y).1; have := (zB.all y).2; have := (zB.all z).1; have := (zB.all z).2; have := bfc.1; have := bfc.2; have : (0 : Int32).toInt = 0 := (by decide); omega
  · have q_9 := q_5 c_6
    have c_6 := z_eq c_6
    have br_1_10 : zB 0 0 r_1 := zB.eqL (a := 0) (b := 0) c_6 (zBc 0 0 (by decide))
    refine lv_aload_n hx hb dX10_unlike_11 rfl (lv_at hl 0 rfl) ?_
    refine lv_iconst (v := 1) hx hb dX10_unlike_12 (by decide) ?_
    refine zk_Vi (As := [.int 1]) (rest := []) (bytes := cX10_refuse) (maxL := 2) (ret := (some .int)) Z h (zc_X10_refuse l D k Γ L F H.size th 1 hth) (cwV 1 hg zv_RX10_68 rfl rfl rfl zd_X10_refuse ⟨z_leR hRf (by decide), z_leR hRl (by decide)⟩) hth (by decide) rfl rfl hl.1 rfl (Nat.le_of_ble_eq_true rfl) dX10_unlike_13 ⟨Nat.zero_le _, Nat.zero_le _⟩ (fun r_11 F_12 H locs w_13 h hfF_12 => ?_)
    obtain ⟨br_11, -⟩ := w_13
    subst hQ
    exact W.iret (v := r_11) hx hb hr (fun t ht hW => ⟨⟨r_11, F_12, rfl, ⟨(by have := (zB.all f).1; have := (zB.all f).2; have := (zB.all x).1; have := (zB.all x).2; have := (zB.all y).1; have := (zB.all y).2; have := (zB.all z).1; have := (zB.all z).2; have := br_11.1; have := br_11.2; have := bfc.1; have := bfc.2; have : (0 : Int32).toInt = 0 := (by decide); omega), (fun a t e h1 h2 => zFr.whole hI0 h.2.1 (hfF_12 : zFr Γ [1013] F F_12) (by decide) a t e h1 h2), trivial⟩, by rw [ht]; exact h.1, h.2.1, (hfF_12.w (by decide))⟩, h.2.2.F ht⟩) h.2.2.2.2 dX10_unlike_16

set_option maxHeartbeats 4000000 in
set_option maxRecDepth 100000 in
theorem zo_X10_tell (l : Launch) (D : va_G) (k : Nat → ClassId) (Γ : Nat → Option Nat) (L : List Nat) (F : Nat → va_E) (sz : Nat) (th : Nat) (f : Int32) (x : Int32) (y : Int32) (z : Int32) (pn : Nat) (fc : Int32) (to : Nat) (sz_ : Int32) (hth : Γ th = some 10) (kpn : zfld F th 2 = .ref pn) (hpn : Γ pn = some 6) (kfc : zfld F pn 4 = .int fc) (bfc : zB 0 10 fc) (kto : zfld F th 10 = .ref to) (hto : Γ to = some 9) (ksz_ : zfld F to 4 = .int sz_) (bsz_ : zB 0 12 sz_) (hr0 : fc.toInt = 0) : Met l yX10_tell zwX10_tell ({ frames := 5, cells := 0, slots := 0, locals := 114 }) (va_Pc [.ref th, .int f, .int x, .int y, .int z] (zP D k Γ L F sz)) (va_Qi (fun (r : Int32) (u : Nat → va_E) => (∃ (s9 : Int32), zfld u to 4 = .int s9 ∧ zB 0 12 s9 ∧ (s9.toInt = sz_.toInt)) ∧ r.toInt = -1 ∧ (∀ a t, Γ a = some t → t ∈ zS5 → t ≠ 10 → u a = F a) ∧ True) (zQ D k Γ L F [500, 501, 502, 503, 504, 505, 506, 510, 511, 512, 513, 514, 515, 518, 904, 1013, 10800, 10900, 11000, 11100, 11200, 11500]) (zA L sz)) 0 0 (zA L sz) := by
  refine Met.ofW (cc := cX10_tell) (maxL := 5) (ret := (some .int)) (by decide) rfl ?_
  intro p e s m args below meth c s₁ B hml hv
  obtain ⟨rfl, hsz, hP, hK, hLn, hE, hI⟩ := hv
  have hx := B.exec
  have hb := B.bytes
  have hr := B.returns
  have hg : ∀ w ∈ zG, w.before _ s = true := fun w h9 => atoms_spec (ws := zwX10_tell) B.pre w (List.mem_cons_of_mem _ h9)
  have hown : s.vm.findClass RX10 = some m.cls := findClass_of_methodNamed B.named
  have hlocks := B.notSynchronized
  subst hsz
  have Z : zC p m c cX10_tell 5 s _ zG RX10 D k L := ⟨⟨hx, hb, hml, hown, hg⟩, hK, hLn, hE⟩
  have h : zH D k Γ L s F s.heap [] := ⟨hP, hI, va_S.rf⟩
  have hl := lv_entry ([.ref th, .int f, .int x, .int y, .int z]) (n := 5) (Nat.le_of_ble_eq_true rfl)
  rw [lg_entry_eq]
  generalize (lg_sl ([.ref th, .int f, .int x, .int y, .int z]) ++ List.replicate (5 - (lg_sl ([.ref th, .int f, .int x, .int y, .int z])).length) Slot.unset).toArray = ls at hl ⊢
  have hl : lv_has ls 5 [(0, .ref th), (1, .int f), (2, .int x), (3, .int y), (4, .int z)] := hl
  clear hP hK hLn hE hI
  generalize hargs : ([.ref th, .int f, .int x, .int y, .int z] : List Value).toArray = args at *
  refine z_start (fun R Q hRf hRl hQ => ?_)
  have hRf : R.frames = 5 := hRf
  have hRl : R.locals = 114 := hRl
  have h9 := h
  have hI0 := h.2.1
  refine lv_aload_n hx hb dX10_tell_0 rfl (lv_at hl 0 rfl) ?_
  refine zt_getk (t := 10) (C := RX10) (T := TX10) (N := 14) Z h hth zin_10 rfl 2 kpn ⟨by decide, rfl, by decide⟩ (zm_RX10 (List.mem_of_getElem? (i := 21) rfl)) (fun _ h9 => h9) dX10_tell_1 ?_
  refine lv_iload_n hx hb dX10_tell_4 rfl (lv_at hl 1 rfl) ?_
  refine zk_Vi (As := [.int f]) (rest := []) (bytes := cX6_hasFunction) (maxL := 2) (ret := (some .boolean)) Z h (ze_X6_hasFunction l D k Γ L F s.heap.size pn f fc hpn kfc bfc) (cwV 1 hg zv_RX10_98 rfl rfl rfl zd_X6_hasFunction ⟨z_leR hRf (by decide), z_leR hRl (by decide)⟩) hpn (by decide) rfl rfl hl.1 rfl (Nat.le_of_ble_eq_true rfl) dX10_tell_5 ⟨Nat.zero_le _, Nat.zero_le _⟩ (fun r_1 F_2 H locs w_3 h hfF_2 => ?_)
  obtain ⟨rfl, br_1, q_4, q_5, -⟩ := w_3
  refine lv_if_ne (tgt := 17) hx hb dX10_tell_8 (by decide) (fun c_6 => ?_) (fun c_6 => ?_)
  · have q_7 := q_4 c_6
    have c_6 := z_ne c_6
    have br_1_8 : zB 1 1 r_1 := zB.neLo c_6 br_1 (zBc 0 0 (by decide)) (by decide)
    exfalso
    have := (zB.all f).1; have := (zB.all f).2; have := (zB.all x).1; have := (zB.all x).2; have := (zB.all y).1; have := (zB.all y).2; have := (zB.all z).1; have := (zB.all z).2; have := bfc.1; have := bfc.2; have := bsz_.1; have := bsz_.2; have : (0 : Int32).toInt = 0 := (by decide); omega
  · have q_9 := q_5 c_6
    have c_6 := z_eq c_6
    have br_1_10 : zB 0 0 r_1 := zB.eqL (a := 0) (b := 0) c_6 (zBc 0 0 (by decide))
    refine lv_aload_n hx hb dX10_tell_11 rfl (lv_at hl 0 rfl) ?_
    refine lv_iconst (v := 1) hx hb dX10_tell_12 (by decide) ?_
    refine zk_Vi (As := [.int 1]) (rest := []) (bytes := cX10_refuse) (maxL := 2) (ret := (some .int)) Z h (zc_X10_refuse l D k Γ L F H.size th 1 hth) (cwV 1 hg zv_RX10_68 rfl rfl rfl zd_X10_refuse ⟨z_leR hRf (by decide), z_leR hRl (by decide)⟩) hth (by decide) rfl rfl hl.1 rfl (Nat.le_of_ble_eq_true rfl) dX10_tell_13 ⟨Nat.zero_le _, Nat.zero_le _⟩ (fun r_11 F_12 H locs w_13 h hfF_12 => ?_)
    obtain ⟨br_11, -⟩ := w_13
    subst hQ
    exact W.iret (v := r_11) hx hb hr (fun t ht hW => ⟨⟨r_11, F_12, rfl, ⟨⟨sz_, (hfF_12.f hto 4 ⟨by decide, by decide⟩ ksz_), bsz_, (by have := (zB.all f).1; have := (zB.all f).2; have := (zB.all x).1; have := (zB.all x).2; have := (zB.all y).1; have := (zB.all y).2; have := (zB.all z).1; have := (zB.all z).2; have := br_11.1; have := br_11.2; have := bsz_.1; have := bsz_.2; have := bfc.1; have := bfc.2; have : (0 : Int32).toInt = 0 := (by decide); omega)⟩, (by have := (zB.all f).1; have := (zB.all f).2; have := (zB.all x).1; have := (zB.all x).2; have := (zB.all y).1; have := (zB.all y).2; have := (zB.all z).1; have := (zB.all z).2; have := br_11.1; have := br_11.2; have := bfc.1; have := bfc.2; have := bsz_.1; have := bsz_.2; have : (0 : Int32).toInt = 0 := (by decide); omega), (fun a t e h1 h2 => zFr.whole hI0 h.2.1 (hfF_12 : zFr Γ [1013] F F_12) (by decide) a t e h1 h2), trivial⟩, by rw [ht]; exact h.1, h.2.1, (hfF_12.w (by decide))⟩, h.2.2.F ht⟩) h.2.2.2.2 dX10_tell_16
