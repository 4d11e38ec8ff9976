set_option maxHeartbeats 4000000 in
set_option maxRecDepth 100000 in
theorem ze_X6_functionNamed (l : Launch) (D : va_G) (k : Nat → ClassId) (Γ : Nat → Option Nat) (L : List Nat) (F : Nat → va_E) (sz : Nat) (pr : Nat) (tk : Nat) (tq : Int32) (Bt : Nat → Int32) (nt : Nat) (Nt : Nat) (fa : Nat → Nat) (iq : Nat) (dq : zDat) (hpr : Γ pr = some 6) (htk : Γ tk = some 8) (ke_pr_0 : zfld F pr 0 = .ref tk) (p_tb : zTb Γ F tk Bt nt Nt) (hr0 : zC3 Γ F pr fa (zTo Bt nt) Nt (.inl (iq, dq))) (hr1 : 0 ≤ tq.toInt ∧ tq.toInt < Nt ∧ (zTo Bt nt).1 tq.toInt.toNat = 4) : Met l yX6_functionNamed zwX6_functionNamed ({ frames := 3, cells := 0, slots := 0, locals := 67 }) (va_Pc [.ref pr, .ref tk, .int tq] (zP D k Γ L F sz)) (va_Qi (fun (r : Int32) (u : Nat → va_E) => F = u ∧ zB (-1) 9 r ∧ r.toInt = zfi (zfind (zTo Bt nt).2.2 (znm dq) ((zTo Bt nt).2.2 tq.toInt.toNat) (zfc dq)) ∧ True) (zQ D k Γ L F []) (zA L sz)) 0 0 (zA L sz) := by
  refine Met.ofW (cc := cX6_functionNamed) (maxL := 4) (ret := (some .int)) (by decide) rfl ?_
  intro p e s m args below meth c s₁ B hml hv
  obtain ⟨rfl, hsz, hP, hK, hLn, hE, hI⟩ := hv
  have hx := B.exec
  have hb := B.bytes
  have hr := B.returns
  have hg : ∀ w ∈ zG, w.before _ s = true := fun w h9 => atoms_spec (ws := zwX6_functionNamed) B.pre w (List.mem_cons_of_mem _ h9)
  have hown : s.vm.findClass RX6 = some m.cls := findClass_of_methodNamed B.named
  have hlocks := B.notSynchronized
  subst hsz
  have Z : zC p m c cX6_functionNamed 4 s _ zG RX6 D k L := ⟨⟨hx, hb, hml, hown, hg⟩, hK, hLn, hE⟩
  have h : zH D k Γ L s F s.heap [] := ⟨hP, hI, va_S.rf⟩
  have hl := lv_entry ([.ref pr, .ref tk, .int tq]) (n := 4) (Nat.le_of_ble_eq_true rfl)
  rw [lg_entry_eq]
  generalize (lg_sl ([.ref pr, .ref tk, .int tq]) ++ List.replicate (4 - (lg_sl ([.ref pr, .ref tk, .int tq])).length) Slot.unset).toArray = ls at hl ⊢
  have hl : lv_has ls 4 [(0, .ref pr), (1, .ref tk), (2, .int tq)] := hl
  clear hP hK hLn hE hI
  generalize hargs : ([.ref pr, .ref tk, .int tq] : List Value).toArray = args at *
  refine z_start (fun R Q hRf hRl hQ => ?_)
  have hRf : R.frames = 3 := hRf
  have hRl : R.locals = 67 := hRl
  have h9 := h
  obtain ⟨⟨fc_, kfc_, tfc_⟩, hfc10, hall_⟩ := hr0.2 iq dq rfl
  have bfc_ : zB 0 10 fc_ := ⟨by omega, by omega⟩
  refine lv_iconst (v := 0) hx hb dX6_functionNamed_0 (by decide) ?_
  refine lv_istore_n (lv' := [(3, .int 0), (0, .ref pr), (1, .ref tk), (2, .int tq)]) hx hb dX6_functionNamed_1 rfl hl (by decide) rfl (fun ls hl => ?_)
  have j_j2_1 : ∀ (n : Nat) (ls : Array Slot) (y3_j2_1 : Int32) (H : Heap) (locs : List Loc), lv_has ls 4 [(3, .int y3_j2_1), (0, .ref pr), (1, .ref tk), (2, .int tq)] → zB 0 10 y3_j2_1 → zH D k Γ L s F H locs → (y3_j2_1.toInt ≤ fc_.toInt) → (zfind (zTo Bt nt).2.2 (znm dq) ((zTo Bt nt).2.2 tq.toInt.toNat) y3_j2_1.toInt.toNat = none) → (2147483647 - y3_j2_1.toInt).toNat = n → W p l e R s m args below meth c H locs 0 0 Q (F0 m 2 ls []) := by
    intro n
    induction n using Nat.strongRecOn with
    | _ n ih_j2_1 =>
      intro ls y3_j2_1 H locs hl by3_j2_1 h r0_j2_1 r1_j2_1 hn_j2_1
      refine lv_iload_n hx hb dX6_functionNamed_2 rfl (lv_at hl 0 rfl) ?_
      refine lv_aload_n hx hb dX6_functionNamed_3 rfl (lv_at hl 1 rfl) ?_
      refine zt_getk (t := 6) (C := RX6) (T := TX6) (N := 6) Z h hpr zin_6 rfl 4 kfc_ ⟨by decide, rfl, by decide⟩ (zm_RX6 (List.mem_of_getElem? (i := 6) rfl)) (fun _ h9 => h9) dX6_functionNamed_4 ?_
      refine lv_icmp_ge (tgt := 48) hx hb dX6_functionNamed_7 (by decide) (fun c_2 => ?_) (fun c_2 => ?_)
      · have c_2 := z_le c_2
        refine lv_iconst (v := (-1)) hx hb dX6_functionNamed_48 (by decide) ?_
        subst hQ
        exact W.iret (v := (-1)) hx hb hr (fun t ht hW => ⟨⟨(-1), F, rfl, ⟨rfl, (zB.of ⟨by decide, by decide⟩), (by rw [show zfc dq = y3_j2_1.toInt.toNat by have := by3_j2_1.1; have := by3_j2_1.2; have := (zB.all tq).1; have := (zB.all tq).2; have := bfc_.1; have := bfc_.2; have : ((-1) : Int32).toInt = (-1) := (by decide); omega, r1_j2_1]; decide), trivial⟩, by rw [ht]; exact h.1, h.2.1, zFr.rf⟩, h.2.2.F ht⟩) h.2.2.2.2 dX6_functionNamed_49
      · have c_2 := z_nle c_2
        have by3_j2_1_3 : zB 0 9 y3_j2_1 := zB.ltL c_2 by3_j2_1 bfc_ (by decide)
        have bfc__4 : zB 1 10 fc_ := zB.ltR c_2 by3_j2_1 bfc_ (by decide)
        refine lv_iload_n hx hb dX6_functionNamed_10 rfl (lv_at hl 0 rfl) ?_
        refine lv_aload_n hx hb dX6_functionNamed_11 rfl (lv_at hl 1 rfl) ?_
        refine zt_getr (t := 6) (C := RX6) (T := TX6) (N := 6) Z h hpr zin_6 rfl 2 rfl ⟨by decide, rfl⟩ (zm_RX6 (List.mem_of_getElem? (i := 11) rfl)) (fun _ h9 => h9) dX6_functionNamed_12 (fun a_5 ka_5 ha_5 => ?_)
        refine zt_alen (t := 104) Z h ha_5 ⟨by decide, rfl⟩ (by decide) (v := 10) rfl dX6_functionNamed_15 ?_
        refine lv_icmp_ge (tgt := 48) hx hb dX6_functionNamed_16 (by decide) (fun c_6 => ?_) (fun c_6 => ?_)
        · have c_6 := z_le c_6
          exact zB.noLe c_6 (zBc 10 10 (by decide)) by3_j2_1_3 (by decide)
        · have c_6 := z_nle c_6
          refine lv_aload_n hx hb dX6_functionNamed_19 rfl (lv_at hl 1 rfl) ?_
          refine zt_getk (t := 6) (C := RX6) (T := TX6) (N := 6) Z h hpr zin_6 rfl 0 ke_pr_0 ⟨by decide, rfl, by decide⟩ (zm_RX6 (List.mem_of_getElem? (i := 20) rfl)) (fun _ h9 => h9) dX6_functionNamed_20 ?_
          refine lv_aload_n hx hb dX6_functionNamed_23 rfl (lv_at hl 1 rfl) ?_
          refine zt_getk (t := 6) (C := RX6) (T := TX6) (N := 6) Z h hpr zin_6 rfl 2 ka_5 ⟨by decide, rfl, by decide⟩ (zm_RX6 (List.mem_of_getElem? (i := 11) rfl)) (fun _ h9 => h9) dX6_functionNamed_24 ?_
          refine lv_iload_n hx hb dX6_functionNamed_27 rfl (lv_at hl 0 rfl) ?_
          refine zt_aalde (t := 104) (t1 := 2) Z h ha_5 ⟨by decide, rfl⟩ (by decide) by3_j2_1_3 ⟨by decide, by decide⟩ dX6_functionNamed_28 (fun a_7 ea_7 ha_7 => ?_)
          have hb_ := zPS.at hr0.1 ka_5 ea_7 ⟨by have := by3_j2_1_3.1; have := by3_j2_1_3.2; have := (zB.all tq).1; have := (zB.all tq).2; have := bfc__4.1; have := bfc__4.2; have : (10 : Int32).toInt = 10 := (by decide); omega, by have := by3_j2_1_3.1; have := by3_j2_1_3.2; have := (zB.all tq).1; have := (zB.all tq).2; have := bfc__4.1; have := bfc__4.2; have : (10 : Int32).toInt = 10 := (by decide); omega⟩
          obtain ⟨⟨y_, ky_, ty_⟩, -, hK_, hN_⟩ := hall_ y3_j2_1.toInt.toNat (by have := by3_j2_1_3.1; have := by3_j2_1_3.2; have := (zB.all tq).1; have := (zB.all tq).2; have := bfc__4.1; have := bfc__4.2; have : (10 : Int32).toInt = 10 := (by decide); omega)
          rw [← hb_] at ky_
          have by_ := zB.all y_
          refine zt_getk (t := 2) (C := RX2) (T := TX2) (N := 9) Z h ha_7 zin_2 rfl 0 ky_ ⟨by decide, rfl, by decide⟩ (zm_RX6 (List.mem_of_getElem? (i := 21) rfl)) (fun _ h9 => h9) dX6_functionNamed_29 ?_
          refine lv_aload_n hx hb dX6_functionNamed_32 rfl (lv_at hl 2 rfl) ?_
          refine lv_iload_n hx hb dX6_functionNamed_33 rfl (lv_at hl 3 rfl) ?_
          refine zk_Vi (As := [.int y_, .ref tk, .int tq]) (rest := []) (bytes := cX8_isLike) (maxL := 5) (ret := (some .boolean)) Z h (ze_X8_isLike l D k Γ L F H.size tk y_ tk tq Bt nt Nt Bt nt Nt htk htk p_tb p_tb ⟨by have := by3_j2_1_3.1; have := by3_j2_1_3.2; have := (zB.all tq).1; have := (zB.all tq).2; have := by_.1; have := by_.2; have := bfc__4.1; have := bfc__4.2; have : (10 : Int32).toInt = 10 := (by decide); omega, by have := by3_j2_1_3.1; have := by3_j2_1_3.2; have := (zB.all tq).1; have := (zB.all tq).2; have := by_.1; have := by_.2; have := bfc__4.1; have := bfc__4.2; have : (10 : Int32).toInt = 10 := (by decide); omega, by rw [show y_.toInt.toNat = znm dq y3_j2_1.toInt.toNat by omega]; exact hK_⟩ hr1) (cwV 3 hg zv_RX6_64 rfl rfl rfl zd_X8_isLike ⟨z_leR hRf (by decide), z_leR hRl (by decide)⟩) htk (by decide) rfl rfl hl.1 rfl (Nat.le_of_ble_eq_true rfl) dX6_functionNamed_34 ⟨Nat.zero_le _, Nat.zero_le _⟩ (fun r_8 F_9 H locs w_10 h hfF_9 => ?_)
          obtain ⟨rfl, br_8, q_11, -⟩ := w_10
          refine lv_if_eq (tgt := 42) hx hb dX6_functionNamed_37 (by decide) (fun c_12 => ?_) (fun c_12 => ?_)
          · have c_12 := z_eq c_12
            have br_8_13 : zB 0 0 r_8 := zB.eqL (a := 0) (b := 0) c_12 (zBc 0 0 (by decide))
            obtain ⟨x_14, ex_14, bx_14, tx_14⟩ := z_inc (n := 1) (lo := 1) (hi := 10) by3_j2_1_3 (by decide)
            refine lv_iinc (v := x_14) (lv' := [(3, .int x_14), (0, .ref pr), (1, .ref tk), (2, .int tq)]) hx hb dX6_functionNamed_42 hl (k := 0) rfl ex_14 (by decide) rfl (fun ls hl => ?_)
            refine lv_goto (tgt := 2) hx hb dX6_functionNamed_45 (by decide) ?_
            exact ih_j2_1 _ (by have := bx_14.1; have := bx_14.2; have := (zB.all tq).1; have := (zB.all tq).2; have := bfc__4.1; have := bfc__4.2; have := by_.1; have := by_.2; have : (0 : Int32).toInt = 0 := (by decide); have : (10 : Int32).toInt = 10 := (by decide); have := by3_j2_1.1; have := by3_j2_1.2; omega) ls x_14 H locs (lv_sub hl [0, 1, 2, 3] rfl) (bx_14.w ⟨by decide, by decide⟩) h (by have := bx_14.1; have := bx_14.2; have := (zB.all tq).1; have := (zB.all tq).2; have := bfc__4.1; have := bfc__4.2; have := by_.1; have := by_.2; have : (0 : Int32).toInt = 0 := (by decide); have : (10 : Int32).toInt = 10 := (by decide); omega) (by rw [show x_14.toInt.toNat = y3_j2_1.toInt.toNat + 1 by have := bx_14.1; have := bx_14.2; have := (zB.all tq).1; have := (zB.all tq).2; have := by3_j2_1_3.1; have := by3_j2_1_3.2; have := bfc__4.1; have := bfc__4.2; have := by_.1; have := by_.2; have : (0 : Int32).toInt = 0 := (by decide); have : (10 : Int32).toInt = 10 := (by decide); omega, zfind_s r1_j2_1]; exact if_neg (by have h7 := q_11; have h8 : (zTo Bt nt).2.2 y_.toInt.toNat ≠ (zTo Bt nt).2.2 tq.toInt.toNat := (by rcases h7 with ⟨g1, g2⟩ | ⟨g1, g2⟩; exfalso; have := bx_14.1; have := bx_14.2; have := (zB.all tq).1; have := (zB.all tq).2; have := br_8_13.1; have := br_8_13.2; have := bfc__4.1; have := bfc__4.2; have := by_.1; have := by_.2; have : (0 : Int32).toInt = 0 := (by decide); have : (10 : Int32).toInt = 10 := (by decide); omega; exact g2); rw [show y_.toInt.toNat = znm dq y3_j2_1.toInt.toNat by omega] at h8; exact h8)) rfl
          · have c_12 := z_ne c_12
            have br_8_15 : zB 1 1 r_8 := zB.neLo c_12 br_8 (zBc 0 0 (by decide)) (by decide)
            refine lv_iload_n hx hb dX6_functionNamed_40 rfl (lv_at hl 0 rfl) ?_
            subst hQ
            exact W.iret (v := y3_j2_1) hx hb hr (fun t ht hW => ⟨⟨y3_j2_1, F, rfl, ⟨rfl, (by3_j2_1_3.w ⟨by decide, by decide⟩), (by rw [zfind_k (n := y3_j2_1.toInt.toNat + 1) (f := y3_j2_1.toInt.toNat) (by rw [zfind_s r1_j2_1]; exact if_pos (by have h7 := q_11; have h8 : (zTo Bt nt).2.2 y_.toInt.toNat = (zTo Bt nt).2.2 tq.toInt.toNat := (by rcases h7 with ⟨g1, g2⟩ | ⟨g1, g2⟩; exact g2; exfalso; have := by3_j2_1_3.1; have := by3_j2_1_3.2; have := (zB.all tq).1; have := (zB.all tq).2; have := br_8_15.1; have := br_8_15.2; have := bfc__4.1; have := bfc__4.2; have := by_.1; have := by_.2; have : (0 : Int32).toInt = 0 := (by decide); have : (10 : Int32).toInt = 10 := (by decide); omega); rw [show y_.toInt.toNat = znm dq y3_j2_1.toInt.toNat by omega] at h8; exact h8)) (zfc dq) (by have := by3_j2_1_3.1; have := by3_j2_1_3.2; have := (zB.all tq).1; have := (zB.all tq).2; have := bfc__4.1; have := bfc__4.2; have := by_.1; have := by_.2; have : (0 : Int32).toInt = 0 := (by decide); have : (10 : Int32).toInt = 10 := (by decide); omega)]; show y3_j2_1.toInt = ((y3_j2_1.toInt.toNat : Nat) : Int); have := by3_j2_1_3.1; have := by3_j2_1_3.2; have := (zB.all tq).1; have := (zB.all tq).2; have := bfc__4.1; have := bfc__4.2; have := by_.1; have := by_.2; have : (0 : Int32).toInt = 0 := (by decide); have : (10 : Int32).toInt = 10 := (by decide); omega), trivial⟩, by rw [ht]; exact h.1, h.2.1, zFr.rf⟩, h.2.2.F ht⟩) h.2.2.2.2 dX6_functionNamed_41
  exact j_j2_1 _ ls 0 s.heap [] (lv_sub hl [0, 1, 2, 3] rfl) (zB.of ⟨by decide, by decide⟩) h (by have := (zB.all tq).1; have := (zB.all tq).2; have := bfc_.1; have := bfc_.2; have : (0 : Int32).toInt = 0 := (by decide); omega) (by rw [show (0 : Int32).toInt.toNat = 0 by decide]; rfl) rfl

set_option maxHeartbeats 4000000 in
set_option maxRecDepth 100000 in
theorem ze_X2_begin (l : Launch) (D : va_G) (k : Nat → ClassId) (Γ : Nat → Option Nat) (L : List Nat) (F : Nat → va_E) (sz : Nat) (fu : Nat) (to : Int32) (li : Int32) (ac : Int32) (hfu : Γ fu = some 2) (bto : zB (-1) 601 to) : Met l yX2_begin zwX2_begin ({ frames := 0, cells := 0, slots := 0, locals := 0 }) (va_Pc [.ref fu, .int to, .int li, .int ac] (zP D k Γ L F sz)) (va_Qv (fun (u : Nat → va_E) => (∃ x, zfld u fu 7 = .int x ∧ zB 0 0 x) ∧ zOth Γ F u fu ∧ True) (zQ D k Γ L F [201, 203, 205, 206, 207]) (zA L sz)) 0 0 (zA L sz) := by
  refine Met.ofW (cc := cX2_begin) (maxL := 4) (ret := none) (by decide) rfl ?_
  intro p e s m args below meth c s₁ B hml hv
  obtain ⟨rfl, hsz, hP, hK, hLn, hE, hI⟩ := hv
  have hx := B.exec
  have hb := B.bytes
  have hr := B.returns
  have hg : ∀ w ∈ zG, w.before _ s = true := fun w h9 => atoms_spec (ws := zwX2_begin) B.pre w (List.mem_cons_of_mem _ h9)
  have hown : s.vm.findClass RX2 = some m.cls := findClass_of_methodNamed B.named
  have hlocks := B.notSynchronized
  subst hsz
  have Z : zC p m c cX2_begin 4 s _ zG RX2 D k L := ⟨⟨hx, hb, hml, hown, hg⟩, hK, hLn, hE⟩
  have h : zH D k Γ L s F s.heap [] := ⟨hP, hI, va_S.rf⟩
  have hl := lv_entry ([.ref fu, .int to, .int li, .int ac]) (n := 4) (Nat.le_of_ble_eq_true rfl)
  rw [lg_entry_eq]
  generalize (lg_sl ([.ref fu, .int to, .int li, .int ac]) ++ List.replicate (4 - (lg_sl ([.ref fu, .int to, .int li, .int ac])).length) Slot.unset).toArray = ls at hl ⊢
  have hl : lv_has ls 4 [(0, .ref fu), (1, .int to), (2, .int li), (3, .int ac)] := hl
  clear hP hK hLn hE hI
  generalize hargs : ([.ref fu, .int to, .int li, .int ac] : List Value).toArray = args at *
  refine z_start (fun R Q hRf hRl hQ => ?_)
  have hRf : R.frames = 0 := hRf
  have hRl : R.locals = 0 := hRl
  have h9 := h
  refine lv_aload_n hx hb dX2_begin_0 rfl (lv_at hl 0 rfl) ?_
  refine lv_iload_n hx hb dX2_begin_1 rfl (lv_at hl 1 rfl) ?_
  refine zt_pute (t := 2) (C := RX2) (T := TX2) (N := 9) (v := .int to) Z h hfu zin_2 tyX2 tyX2_ok nmX2 rfl 1 rfl ⟨by decide, rfl⟩ (zm_RX2 (List.mem_of_getElem? (i := 2) rfl)) (fun _ h9 => h9) rfl (zV.i bto) rfl rfl dX2_begin_2 (fun H locs F_1 h hfF_1 kF_1 oF_1 => ?_)
  refine lv_aload_n hx hb dX2_begin_5 rfl (lv_at hl 0 rfl) ?_
  refine lv_iload_n hx hb dX2_begin_6 rfl (lv_at hl 2 rfl) ?_
  refine zt_pute (t := 2) (C := RX2) (T := TX2) (N := 9) (v := .int li) Z h hfu zin_2 tyX2 tyX2_ok nmX2 rfl 3 rfl ⟨by decide, rfl⟩ (zm_RX2 (List.mem_of_getElem? (i := 3) rfl)) (fun _ h9 => h9) rfl (zV.i (zB.all li)) rfl rfl dX2_begin_7 (fun H locs F_2 h hfF_2 kF_2 oF_2 => ?_)
  refine lv_aload_n hx hb dX2_begin_10 rfl (lv_at hl 0 rfl) ?_
  refine lv_iload_n hx hb dX2_begin_11 rfl (lv_at hl 3 rfl) ?_
  refine zt_pute (t := 2) (C := RX2) (T := TX2) (N := 9) (v := .int ac) Z h hfu zin_2 tyX2 tyX2_ok nmX2 rfl 5 rfl ⟨by decide, rfl⟩ (zm_RX2 (List.mem_of_getElem? (i := 4) rfl)) (fun _ h9 => h9) rfl (zV.i (zB.all ac)) rfl rfl dX2_begin_12 (fun H locs F_3 h hfF_3 kF_3 oF_3 => ?_)
  refine lv_aload_n hx hb dX2_begin_15 rfl (lv_at hl 0 rfl) ?_
  refine lv_iconst (v := 0) hx hb dX2_begin_16 (by decide) ?_
  refine zt_pute (t := 2) (C := RX2) (T := TX2) (N := 9) (v := .int 0) Z h hfu zin_2 tyX2 tyX2_ok nmX2 rfl 6 rfl ⟨by decide, rfl⟩ (zm_RX2 (List.mem_of_getElem? (i := 5) rfl)) (fun _ h9 => h9) rfl (zV.i (zB.of ⟨by decide, by decide⟩)) rfl rfl dX2_begin_17 (fun H locs F_4 h hfF_4 kF_4 oF_4 => ?_)
  refine lv_aload_n hx hb dX2_begin_20 rfl (lv_at hl 0 rfl) ?_
  refine lv_iconst (v := 0) hx hb dX2_begin_21 (by decide) ?_
  refine zt_pute (t := 2) (C := RX2) (T := TX2) (N := 9) (v := .int 0) Z h hfu zin_2 tyX2 tyX2_ok nmX2 rfl 7 rfl ⟨by decide, rfl⟩ (zm_RX2 (List.mem_of_getElem? (i := 6) rfl)) (fun _ h9 => h9) rfl (zV.i (zB.of ⟨by decide, by decide⟩)) rfl rfl dX2_begin_22 (fun H locs F_5 h hfF_5 kF_5 oF_5 => ?_)
  have oth_6 : zOth Γ F F_5 fu := ((((((zOth.rf : zOth Γ F F fu).put oF_1).put oF_2).put oF_3).put oF_4).put oF_5)
  subst hQ
  exact W.vret hx hb hr (fun t ht hW => ⟨⟨F_5, rfl, ⟨⟨0, kF_5, (zB.of ⟨by decide, by decide⟩)⟩, oth_6, trivial⟩, by rw [ht]; exact h.1, h.2.1, (((((hfF_1.w (by decide)).trans hfF_2 (by decide)).trans hfF_3 (by decide)).trans hfF_4 (by decide)).trans hfF_5 (by decide))⟩, h.2.2.F ht⟩) h.2.2.2.2 dX2_begin_25

set_option maxHeartbeats 4000000 in
set_option maxRecDepth 100000 in
theorem ze_X2_hasPlace (l : Launch) (D : va_G) (k : Nat → ClassId) (Γ : Nat → Option Nat) (L : List Nat) (F : Nat → va_E) (sz : Nat) (fu : Nat) (q : Int32) (pc : Int32) (hfu : Γ fu = some 2) (kpc : zfld F fu 7 = .int pc) (bpc : zB 0 3 pc) : Met l yX2_hasPlace zwX2_hasPlace ({ frames := 0, cells := 0, slots := 0, locals := 0 }) (va_Pc [.ref fu, .int q] (zP D k Γ L F sz)) (va_Qi (fun (r : Int32) (u : Nat → va_E) => F = u ∧ zB 0 1 r ∧ ((r.toInt = 1 ∧ ∃ j : Nat, (j : Int) < pc.toInt ∧ (zar F fu 8 j).toInt = q.toInt) ∨ (r.toInt = 0 ∧ ∀ j : Nat, (j : Int) < pc.toInt → (zar F fu 8 j).toInt ≠ q.toInt)) ∧ True) (zQ D k Γ L F []) (zA L sz)) 0 0 (zA L sz) := by
  refine Met.ofW (cc := cX2_hasPlace) (maxL := 3) (ret := (some .boolean)) (by decide) rfl ?_
  intro p e s m args below meth c s₁ B hml hv
  obtain ⟨rfl, hsz, hP, hK, hLn, hE, hI⟩ := hv
  have hx := B.exec
  have hb := B.bytes
  have hr := B.returns
  have hg : ∀ w ∈ zG, w.before _ s = true := fun w h9 => atoms_spec (ws := zwX2_hasPlace) B.pre w (List.mem_cons_of_mem _ h9)
  have hown : s.vm.findClass RX2 = some m.cls := findClass_of_methodNamed B.named
  have hlocks := B.notSynchronized
  subst hsz
  have Z : zC p m c cX2_hasPlace 3 s _ zG RX2 D k L := ⟨⟨hx, hb, hml, hown, hg⟩, hK, hLn, hE⟩
  have h : zH D k Γ L s F s.heap [] := ⟨hP, hI, va_S.rf⟩
  have hl := lv_entry ([.ref fu, .int q]) (n := 3) (Nat.le_of_ble_eq_true rfl)
  rw [lg_entry_eq]
  generalize (lg_sl ([.ref fu, .int q]) ++ List.replicate (3 - (lg_sl ([.ref fu, .int q])).length) Slot.unset).toArray = ls at hl ⊢
  have hl : lv_has ls 3 [(0, .ref fu), (1, .int q)] := hl
  clear hP hK hLn hE hI
  generalize hargs : ([.ref fu, .int q] : List Value).toArray = args at *
  refine z_start (fun R Q hRf hRl hQ => ?_)
  have hRf : R.frames = 0 := hRf
  have hRl : R.locals = 0 := hRl
  have h9 := h
  refine lv_iconst (v := 0) hx hb dX2_hasPlace_0 (by decide) ?_
  refine lv_istore_n (lv' := [(2, .int 0), (0, .ref fu), (1, .int q)]) hx hb dX2_hasPlace_1 rfl hl (by decide) rfl (fun ls hl => ?_)
  have j_j2_1 : ∀ (n : Nat) (ls : Array Slot) (y2_j2_1 : Int32), lv_has ls 3 [(2, .int y2_j2_1), (0, .ref fu), (1, .int q)] → zB 0 3 y2_j2_1 → (y2_j2_1.toInt ≤ pc.toInt) → (∀ j : Nat, (j : Int) < y2_j2_1.toInt → (zar F fu 8 j).toInt ≠ q.toInt) → (2147483647 - y2_j2_1.toInt).toNat = n → W p l e R s m args below meth c s.heap [] 0 0 Q (F0 m 2 ls []) := by
    intro n
    induction n using Nat.strongRecOn with
    | _ n ih_j2_1 =>
      intro ls y2_j2_1 hl by2_j2_1 r0_j2_1 r1_j2_1 hn_j2_1
      refine lv_iload_n hx hb dX2_hasPlace_2 rfl (lv_at hl 0 rfl) ?_
      refine lv_aload_n hx hb dX2_hasPlace_3 rfl (lv_at hl 1 rfl) ?_
      refine zt_getk (t := 2) (C := RX2) (T := TX2) (N := 9) Z h hfu zin_2 rfl 7 kpc ⟨by decide, rfl, by decide⟩ (zm_RX2 (List.mem_of_getElem? (i := 6) rfl)) (fun _ h9 => h9) dX2_hasPlace_4 ?_
      refine lv_icmp_ge (tgt := 37) hx hb dX2_hasPlace_7 (by decide) (fun c_2 => ?_) (fun c_2 => ?_)
      · have c_2 := z_le c_2
        refine lv_iconst (v := 0) hx hb dX2_hasPlace_37 (by decide) ?_
        subst hQ
        exact W.zret (v := 0) hx hb hr (by decide) (fun t ht hW => ⟨⟨0, F, rfl, ⟨rfl, (zB.of ⟨by decide, by decide⟩), (Or.inr ⟨by decide, fun w9 hw9 => r1_j2_1 w9 (by have := by2_j2_1.1; have := by2_j2_1.2; have := (zB.all q).1; have := (zB.all q).2; have := bpc.1; have := bpc.2; have : (0 : Int32).toInt = 0 := (by decide); omega)⟩), trivial⟩, by rw [ht]; exact h.1, h.2.1, zFr.rf⟩, h.2.2.F ht⟩) h.2.2.2.2 dX2_hasPlace_38
      · have c_2 := z_nle c_2
        have by2_j2_1_3 : zB 0 2 y2_j2_1 := zB.ltL c_2 by2_j2_1 bpc (by decide)
        have bpc_4 : zB 1 3 pc := zB.ltR c_2 by2_j2_1 bpc (by decide)
        refine lv_iload_n hx hb dX2_hasPlace_10 rfl (lv_at hl 0 rfl) ?_
        refine lv_aload_n hx hb dX2_hasPlace_11 rfl (lv_at hl 1 rfl) ?_
        refine zt_getr (t := 2) (C := RX2) (T := TX2) (N := 9) Z h hfu zin_2 rfl 8 rfl ⟨by decide, rfl⟩ (zm_RX2 (List.mem_of_getElem? (i := 8) rfl)) (fun _ h9 => h9) dX2_hasPlace_12 (fun a_5 ka_5 ha_5 => ?_)
        refine zt_alen (t := 103) Z h ha_5 ⟨by decide, rfl⟩ (by decide) (v := 3) rfl dX2_hasPlace_15 ?_
        refine lv_icmp_ge (tgt := 37) hx hb dX2_hasPlace_16 (by decide) (fun c_6 => ?_) (fun c_6 => ?_)
        · have c_6 := z_le c_6
          exact zB.noLe c_6 (zBc 3 3 (by decide)) by2_j2_1_3 (by decide)
        · have c_6 := z_nle c_6
          refine lv_aload_n hx hb dX2_hasPlace_19 rfl (lv_at hl 1 rfl) ?_
          refine zt_getk (t := 2) (C := RX2) (T := TX2) (N := 9) Z h hfu zin_2 rfl 8 ka_5 ⟨by decide, rfl, by decide⟩ (zm_RX2 (List.mem_of_getElem? (i := 8) rfl)) (fun _ h9 => h9) dX2_hasPlace_20 ?_
          refine lv_iload_n hx hb dX2_hasPlace_23 rfl (lv_at hl 0 rfl) ?_
          refine zt_ialde (t := 103) Z h ha_5 ⟨by decide, rfl⟩ by2_j2_1_3 ⟨by decide, by decide⟩ dX2_hasPlace_24 (fun x_7 ex_7 bx_7 => ?_)
          refine lv_iload_n hx hb dX2_hasPlace_25 rfl (lv_at hl 2 rfl) ?_
          refine lv_icmp_ne (tgt := 31) hx hb dX2_hasPlace_26 (by decide) (fun c_8 => ?_) (fun c_8 => ?_)
          · have c_8 := z_ne c_8
            obtain ⟨x_9, ex_9, bx_9, tx_9⟩ := z_inc (n := 1) (lo := 1) (hi := 3) by2_j2_1_3 (by decide)
            refine lv_iinc (v := x_9) (lv' := [(2, .int x_9), (0, .ref fu), (1, .int q)]) hx hb dX2_hasPlace_31 hl (k := 0) rfl ex_9 (by decide) rfl (fun ls hl => ?_)
            refine lv_goto (tgt := 2) hx hb dX2_hasPlace_34 (by decide) ?_
            exact ih_j2_1 _ (by have := bx_9.1; have := bx_9.2; have := (zB.all q).1; have := (zB.all q).2; have := bpc_4.1; have := bpc_4.2; have : (3 : Int32).toInt = 3 := (by decide); have := by2_j2_1.1; have := by2_j2_1.2; omega) ls x_9 (lv_sub hl [0, 1, 2] rfl) (bx_9.w ⟨by decide, by decide⟩) (by have := bx_9.1; have := bx_9.2; have := (zB.all q).1; have := (zB.all q).2; have := bpc_4.1; have := bpc_4.2; have : (3 : Int32).toInt = 3 := (by decide); omega) (fun w9 hw9 => if h6 : (w9 : Int) < y2_j2_1.toInt then r1_j2_1 w9 h6 else (by rw [zar_eq ka_5, show w9 = Int32.toNatClampNeg y2_j2_1 by have := z_cl (x := y2_j2_1) (by have := bx_9.1; have := bx_9.2; have := (zB.all q).1; have := (zB.all q).2; have := by2_j2_1_3.1; have := by2_j2_1_3.2; have := bx_7.1; have := bx_7.2; have := bpc_4.1; have := bpc_4.2; have : (3 : Int32).toInt = 3 := (by decide); omega); omega, ex_7]; have := bx_9.1; have := bx_9.2; have := (zB.all q).1; have := (zB.all q).2; have := by2_j2_1_3.1; have := by2_j2_1_3.2; have := bx_7.1; have := bx_7.2; have := bpc_4.1; have := bpc_4.2; have : (3 : Int32).toInt = 3 := (by decide); omega)) rfl
          · have c_8 := z_eq c_8
            refine lv_iconst (v := 1) hx hb dX2_hasPlace_29 (by decide) ?_
            subst hQ
            exact W.zret (v := 1) hx hb hr (by decide) (fun t ht hW => ⟨⟨1, F, rfl, ⟨rfl, (zB.of ⟨by decide, by decide⟩), (Or.inl ⟨by decide, y2_j2_1.toInt.toNat, by have := by2_j2_1_3.1; have := by2_j2_1_3.2; have := (zB.all q).1; have := (zB.all q).2; have := bpc_4.1; have := bpc_4.2; have : (1 : Int32).toInt = 1 := (by decide); have : (3 : Int32).toInt = 3 := (by decide); omega, by rw [zar_eq ka_5, show y2_j2_1.toInt.toNat = Int32.toNatClampNeg y2_j2_1 from rfl, ex_7]; have := by2_j2_1_3.1; have := by2_j2_1_3.2; have := (zB.all q).1; have := (zB.all q).2; have := bx_7.1; have := bx_7.2; have := bpc_4.1; have := bpc_4.2; have : (1 : Int32).toInt = 1 := (by decide); have : (3 : Int32).toInt = 3 := (by decide); omega⟩), trivial⟩, by rw [ht]; exact h.1, h.2.1, zFr.rf⟩, h.2.2.F ht⟩) h.2.2.2.2 dX2_hasPlace_30
  exact j_j2_1 _ ls 0 (lv_sub hl [0, 1, 2] rfl) (zB.of ⟨by decide, by decide⟩) (by have := (zB.all q).1; have := (zB.all q).2; have := bpc.1; have := bpc.2; have : (0 : Int32).toInt = 0 := (by decide); omega) (fun q hq => by exfalso; have : (0 : Int32).toInt = 0 := (by decide); omega) rfl

set_option maxHeartbeats 4000000 in
set_option maxRecDepth 100000 in
theorem ze_X2_addPlace (l : Launch) (D : va_G) (k : Nat → ClassId) (Γ : Nat → Option Nat) (L : List Nat) (F : Nat → va_E) (sz : Nat) (fu : Nat) (q : Int32) (pc : Int32) (hfu : Γ fu = some 2) (kpc : zfld F fu 7 = .int pc) (bpc : zB 0 2 pc) : Met l yX2_addPlace zwX2_addPlace ({ frames := 0, cells := 0, slots := 0, locals := 0 }) (va_Pc [.ref fu, .int q] (zP D k Γ L F sz)) (va_Qv (fun (u : Nat → va_E) => (∃ (p9 : Int32), zfld u fu 7 = .int p9 ∧ zB 1 3 p9 ∧ (p9.toInt = pc.toInt + 1)) ∧ zar u fu 8 = upd (zar F fu 8) (Int32.toNatClampNeg pc) q ∧ zOth Γ F u fu ∧ True) (zQ D k Γ L F [207, 10300]) (zA L sz)) 0 0 (zA L sz) := by
  refine Met.ofW (cc := cX2_addPlace) (maxL := 2) (ret := none) (by decide) rfl ?_
  intro p e s m args below meth c s₁ B hml hv
  obtain ⟨rfl, hsz, hP, hK, hLn, hE, hI⟩ := hv
  have hx := B.exec
  have hb := B.bytes
  have hr := B.returns
  have hg : ∀ w ∈ zG, w.before _ s = true := fun w h9 => atoms_spec (ws := zwX2_addPlace) B.pre w (List.mem_cons_of_mem _ h9)
  have hown : s.vm.findClass RX2 = some m.cls := findClass_of_methodNamed B.named
  have hlocks := B.notSynchronized
  subst hsz
  have Z : zC p m c cX2_addPlace 2 s _ zG RX2 D k L := ⟨⟨hx, hb, hml, hown, hg⟩, hK, hLn, hE⟩
  have h : zH D k Γ L s F s.heap [] := ⟨hP, hI, va_S.rf⟩
  have hl := lv_entry ([.ref fu, .int q]) (n := 2) (Nat.le_of_ble_eq_true rfl)
  rw [lg_entry_eq]
  generalize (lg_sl ([.ref fu, .int q]) ++ List.replicate (2 - (lg_sl ([.ref fu, .int q])).length) Slot.unset).toArray = ls at hl ⊢
  have hl : lv_has ls 2 [(0, .ref fu), (1, .int q)] := hl
  clear hP hK hLn hE hI
  generalize hargs : ([.ref fu, .int q] : List Value).toArray = args at *
  refine z_start (fun R Q hRf hRl hQ => ?_)
  have hRf : R.frames = 0 := hRf
  have hRl : R.locals = 0 := hRl
  have h9 := h
  have ad_1 := z_ad (j := 8) (c := 103) h.2.1 hfu (by decide) rfl
  refine lv_aload_n hx hb dX2_addPlace_0 rfl (lv_at hl 0 rfl) ?_
  refine zt_getk (t := 2) (C := RX2) (T := TX2) (N := 9) Z h hfu zin_2 rfl 7 kpc ⟨by decide, rfl, by decide⟩ (zm_RX2 (List.mem_of_getElem? (i := 6) rfl)) (fun _ h9 => h9) dX2_addPlace_1 ?_
  refine lv_aload_n hx hb dX2_addPlace_4 rfl (lv_at hl 0 rfl) ?_
  refine zt_getr (t := 2) (C := RX2) (T := TX2) (N := 9) Z h hfu zin_2 rfl 8 rfl ⟨by decide, rfl⟩ (zm_RX2 (List.mem_of_getElem? (i := 8) rfl)) (fun _ h9 => h9) dX2_addPlace_5 (fun a_2 ka_2 ha_2 => ?_)
  refine zt_alen (t := 103) Z h ha_2 ⟨by decide, rfl⟩ (by decide) (v := 3) rfl dX2_addPlace_8 ?_
  refine lv_icmp_ge (tgt := 32) hx hb dX2_addPlace_9 (by decide) (fun c_3 => ?_) (fun c_3 => ?_)
  · have c_3 := z_le c_3
    exact zB.noLe c_3 (zBc 3 3 (by decide)) bpc (by decide)
  · have c_3 := z_nle c_3
    refine lv_aload_n hx hb dX2_addPlace_12 rfl (lv_at hl 0 rfl) ?_
    refine zt_getk (t := 2) (C := RX2) (T := TX2) (N := 9) Z h hfu zin_2 rfl 8 ka_2 ⟨by decide, rfl, by decide⟩ (zm_RX2 (List.mem_of_getElem? (i := 8) rfl)) (fun _ h9 => h9) dX2_addPlace_13 ?_
    refine lv_aload_n hx hb dX2_addPlace_16 rfl (lv_at hl 0 rfl) ?_
    refine zt_getk (t := 2) (C := RX2) (T := TX2) (N := 9) Z h hfu zin_2 rfl 7 kpc ⟨by decide, rfl, by decide⟩ (zm_RX2 (List.mem_of_getElem? (i := 6) rfl)) (fun _ h9 => h9) dX2_addPlace_17 ?_
    refine lv_iload_n hx hb dX2_addPlace_20 rfl (lv_at hl 1 rfl) ?_
    refine zt_iaste (t := 103) Z h ha_2 ⟨by decide, rfl⟩ bpc ⟨by decide, by decide⟩ (zB.all q) dX2_addPlace_21 (fun H locs F_4 h hfF_4 eF_4 gF_4 => ?_)
    have uF_4 := (zar_st ka_2 (hfF_4.f hfu 8 ⟨by decide, by decide⟩ ka_2) eF_4 gF_4).trans (congrArg (fun z => upd z (Int32.toNatClampNeg pc) q) (rfl : zar F fu 8 = (zar F fu 8)))
    refine lv_aload_n hx hb dX2_addPlace_22 rfl (lv_at hl 0 rfl) ?_
    refine lv_dup hx hb dX2_addPlace_23 rfl ?_
    refine zt_getk (t := 2) (C := RX2) (T := TX2) (N := 9) Z h hfu zin_2 rfl 7 (hfF_4.f hfu 7 ⟨by decide, by decide⟩ kpc) ⟨by decide, rfl, by decide⟩ (zm_RX2 (List.mem_of_getElem? (i := 6) rfl)) (fun _ h9 => h9) dX2_addPlace_24 ?_
    refine lv_iconst (v := 1) hx hb dX2_addPlace_27 (by decide) ?_
    refine lv_iadd hx hb dX2_addPlace_28 ?_
    refine zi_add (lo := 1) (hi := 3) bpc (zBc 1 1 (by decide)) (by decide) (fun x_5 bx_5 tx_5 => ?_)
    refine zt_pute (t := 2) (C := RX2) (T := TX2) (N := 9) (v := .int x_5) Z h hfu zin_2 tyX2 tyX2_ok nmX2 rfl 7 rfl ⟨by decide, rfl⟩ (zm_RX2 (List.mem_of_getElem? (i := 6) rfl)) (fun _ h9 => h9) rfl (zV.i (bx_5.w ⟨by decide, by decide⟩)) rfl rfl dX2_addPlace_29 (fun H locs F_6 h hfF_6 kF_6 oF_6 => ?_)
    have ad_7 := ad_1.fr hfF_4 hfu ⟨by decide, by decide⟩
    have ar_8 : zar F_6 fu 8 = (upd (zar F fu 8) (Int32.toNatClampNeg pc) q) := ((ad_7.ar hfF_6 hfu ⟨by decide, by decide⟩ ⟨by decide, by decide⟩).trans uF_4)
    have oth_9 : zOth Γ F F_6 fu := (((zOth.rf : zOth Γ F F fu).fr hfF_4 (by decide)).put oF_6)
    subst hQ
    exact W.vret hx hb hr (fun t ht hW => ⟨⟨F_6, rfl, ⟨⟨x_5, kF_6, bx_5, (by have := (zB.all q).1; have := (zB.all q).2; have := bx_5.1; have := bx_5.2; have := bpc.1; have := bpc.2; have : (1 : Int32).toInt = 1 := (by decide); have : (3 : Int32).toInt = 3 := (by decide); omega)⟩, ar_8, oth_9, trivial⟩, by rw [ht]; exact h.1, h.2.1, ((hfF_4.w (by decide)).trans hfF_6 (by decide))⟩, h.2.2.F ht⟩) h.2.2.2.2 dX2_addPlace_32

set_option maxHeartbeats 4000000 in
set_option maxRecDepth 100000 in
theorem ze_X7_readName (l : Launch) (D : va_G) (k : Nat → ClassId) (Γ : Nat → Option Nat) (L : List Nat) (F : Nat → va_E) (sz : Nat) (th : Nat) (fu : Nat) (pr : Nat) (tk : Nat) (co : Nat) (Bt : Nat → Int32) (nt : Nat) (Nt : Nat) (cc : Int32) (σ : zSg) (fa : Nat → Nat) (hth : Γ th = some 7) (hfu : Γ fu = some 2) (kpr : zfld F th 3 = .ref pr) (hpr : Γ pr = some 6) (ktk : zfld F th 4 = .ref tk) (htk : Γ tk = some 8) (kco : zfld F th 5 = .ref co) (hco : Γ co = some 1) (ke_pr_0 : zfld F pr 0 = .ref tk) (p_tb : zTb Γ F tk Bt nt Nt) (kcc : zfld F th 11 = .int cc) (bcc : zB 0 150 cc) (p_au : zC1 F th Nt (σ)) (hm_ : ∀ i d9, σ = .inl (i, d9) → 4 * cc.toInt + 5 ≤ zpo Bt nt i + (3)) (p_c3 : zC3 Γ F pr fa (zTo Bt nt) Nt σ) : Met l yX7_readName zwX7_readName ({ frames := 4, cells := 0, slots := 0, locals := 90 }) (va_Pc [.ref th, .ref fu] (zP D k Γ L F sz)) (va_Qv (fun (u : Nat → va_E) => (∃ σ9 : zSg, zC1 u th Nt σ9 ∧ zRc (zTo Bt nt) σ [(2, 0, 0, 0)] σ9 [] ∧ zsN σ σ9 ∧ zCc Γ F u th (zTo Bt nt) σ σ9 (1) ∧ zNm u fu (zTo Bt nt) Nt σ9) ∧ zOth Γ F u fu ∧ True) (zQ D k Γ L F [200, 701, 702, 706]) (zA L sz)) 0 0 (zA L sz) := by
  refine Met.ofW (cc := cX7_readName) (maxL := 2) (ret := none) (by decide) rfl ?_
  intro p e s m args below meth c s₁ B hml hv
  obtain ⟨rfl, hsz, hP, hK, hLn, hE, hI⟩ := hv
  have hx := B.exec
  have hb := B.bytes
  have hr := B.returns
  have hg : ∀ w ∈ zG, w.before _ s = true := fun w h9 => atoms_spec (ws := zwX7_readName) B.pre w (List.mem_cons_of_mem _ h9)
  have hown : s.vm.findClass RX7 = some m.cls := findClass_of_methodNamed B.named
  have hlocks := B.notSynchronized
  subst hsz
  have Z : zC p m c cX7_readName 2 s _ zG RX7 D k L := ⟨⟨hx, hb, hml, hown, hg⟩, hK, hLn, hE⟩
  have h : zH D k Γ L s F s.heap [] := ⟨hP, hI, va_S.rf⟩
  have hl := lv_entry ([.ref th, .ref fu]) (n := 2) (Nat.le_of_ble_eq_true rfl)
  rw [lg_entry_eq]
  generalize (lg_sl ([.ref th, .ref fu]) ++ List.replicate (2 - (lg_sl ([.ref th, .ref fu])).length) Slot.unset).toArray = ls at hl ⊢
  have hl : lv_has ls 2 [(0, .ref th), (1, .ref fu)] := hl
  clear hP hK hLn hE hI
  generalize hargs : ([.ref th, .ref fu] : List Value).toArray = args at *
  refine z_start (fun R Q hRf hRl hQ => ?_)
  have hRf : R.frames = 4 := hRf
  have hRl : R.locals = 90 := hRl
  have h9 := h
  have hLs_ := p_tb.2.2.2.1
  obtain ⟨sz_, ksz_, tsz_⟩ := p_tb.2.2.1
  have bsz_ : zB 1 601 sz_ := ⟨by have := hLs_.1; omega, by have := hLs_.2.1; omega⟩
  obtain ⟨⟨x_1, kx_1, nx_1⟩, ⟨x_2, kx_2, nx_2⟩, ox_1⟩ := id p_au
  have gx_1 := zC1.nx p_au hLs_.1 kx_1
  have bx_1 : zB 0 600 x_1 := ⟨by omega, by have := hLs_.2.1; omega⟩
  have bx_2 := zB.all x_2
  have ad_3 := z_ad (j := 7) (c := 106) h.2.1 hth (by decide) rfl
  have ad_4 := z_ad (j := 8) (c := 107) h.2.1 hth (by decide) rfl
  have cc0_ : zCc Γ F F th (zTo Bt nt) σ σ (3) := zCc.rf kcc bcc.1 ⟨ad_3, ad_4⟩ hm_
  have rc0_ : zRc (zTo Bt nt) σ [(2, 0, 0, 0)] σ [(2, 0, 0, 0)] := zRc.rf
  have ss0_ : zsN σ σ := zsN.rf
  refine lv_aload_n hx hb dX7_readName_0 rfl (lv_at hl 0 rfl) ?_
  refine zk_Vi (As := []) (rest := []) (bytes := cX7_kind) (maxL := 2) (ret := (some .int)) Z h (ze_X7_kind l D k Γ L F s.heap.size th tk Bt nt Nt σ hth ktk htk p_tb p_au) (cwV 0 hg zv_RX7_65 rfl rfl rfl zd_X7_kind ⟨z_leR hRf (by decide), z_leR hRl (by decide)⟩) hth (by decide) rfl rfl hl.1 rfl (Nat.le_of_ble_eq_true rfl) dX7_readName_1 ⟨Nat.zero_le _, Nat.zero_le _⟩ (fun r_5 F_6 H locs w_7 h hfF_6 => ?_)
  obtain ⟨rfl, q_8, -⟩ := w_7
  have br_5 := zB.all r_5
  refine lv_iconst (v := 4) hx hb dX7_readName_4 (by decide) ?_
  refine lv_icmp_eq (tgt := 16) hx hb dX7_readName_5 (by decide) (fun c_9 => ?_) (fun c_9 => ?_)
  · have c_9 := z_eq c_9
    have br_5_10 : zB 4 4 r_5 := zB.eqL (a := 0) (b := 0) c_9 (zBc 4 4 (by decide))
    obtain ⟨iq, dq, hinl⟩ := zinl hLs_ (σ := σ) ⟨by have := br_5_10.1; have := br_5_10.2; have := bcc.1; have := bcc.2; have := bsz_.1; have := bsz_.2; have := bx_1.1; have := bx_1.2; have := bx_2.1; have := bx_2.2; have : (4 : Int32).toInt = 4 := (by decide); omega, by have := br_5_10.1; have := br_5_10.2; have := bcc.1; have := bcc.2; have := bsz_.1; have := bsz_.2; have := bx_1.1; have := bx_1.2; have := bx_2.1; have := bx_2.2; have : (4 : Int32).toInt = 4 := (by decide); omega⟩
    have hq_ : x_1.toInt = (iq : Int) := by rw [nx_1, hinl]; rfl
    refine lv_aload_n hx hb dX7_readName_16 rfl (lv_at hl 0 rfl) ?_
    refine zt_getk (t := 7) (C := RX7) (T := TX7) (N := 12) Z h hth zin_7 rfl 3 kpr ⟨by decide, rfl, by decide⟩ (zm_RX7 (List.mem_of_getElem? (i := 2) rfl)) (fun _ h9 => h9) dX7_readName_17 ?_
    refine lv_aload_n hx hb dX7_readName_20 rfl (lv_at hl 0 rfl) ?_
    refine zt_getk (t := 7) (C := RX7) (T := TX7) (N := 12) Z h hth zin_7 rfl 4 ktk ⟨by decide, rfl, by decide⟩ (zm_RX7 (List.mem_of_getElem? (i := 4) rfl)) (fun _ h9 => h9) dX7_readName_21 ?_
    refine lv_aload_n hx hb dX7_readName_24 rfl (lv_at hl 0 rfl) ?_
    refine zt_getk (t := 7) (C := RX7) (T := TX7) (N := 12) Z h hth zin_7 rfl 6 kx_1 ⟨by decide, rfl, by decide⟩ (zm_RX7 (List.mem_of_getElem? (i := 9) rfl)) (fun _ h9 => h9) dX7_readName_25 ?_
    refine zk_Vi (As := [.ref tk, .int x_1]) (rest := []) (bytes := cX6_functionNamed) (maxL := 4) (ret := (some .int)) Z h (ze_X6_functionNamed l D k Γ L F H.size pr tk x_1 Bt nt Nt fa iq dq hpr htk ke_pr_0 p_tb (by rw [← hinl]; exact p_c3) ⟨by have := bx_1.1; have := bx_1.2; have := br_5_10.1; have := br_5_10.2; have := bcc.1; have := bcc.2; have := bsz_.1; have := bsz_.2; have := bx_2.1; have := bx_2.2; have : (4 : Int32).toInt = 4 := (by decide); omega, by have := bx_1.1; have := bx_1.2; have := br_5_10.1; have := br_5_10.2; have := bcc.1; have := bcc.2; have := bsz_.1; have := bsz_.2; have := bx_2.1; have := bx_2.2; have : (4 : Int32).toInt = 4 := (by decide); omega, by rw [nx_1, zkd_nx]; have := bx_1.1; have := bx_1.2; have := br_5_10.1; have := br_5_10.2; have := bcc.1; have := bcc.2; have := bsz_.1; have := bsz_.2; have := bx_2.1; have := bx_2.2; have : (4 : Int32).toInt = 4 := (by decide); omega⟩) (cwV 2 hg zv_RX7_128 rfl rfl rfl zd_X6_functionNamed ⟨z_leR hRf (by decide), z_leR hRl (by decide)⟩) hpr (by decide) rfl rfl hl.1 rfl (Nat.le_of_ble_eq_true rfl) dX7_readName_28 ⟨Nat.zero_le _, Nat.zero_le _⟩ (fun r_11 F_12 H locs w_13 h hfF_12 => ?_)
    obtain ⟨rfl, br_11, q_14, -⟩ := w_13
    refine lv_iconst (v := (-1)) hx hb dX7_readName_31 (by decide) ?_
    refine lv_icmp_eq (tgt := 43) hx hb dX7_readName_32 (by decide) (fun c_15 => ?_) (fun c_15 => ?_)
    · have c_15 := z_eq c_15
      have br_11_16 : zB (-1) (-1) r_11 := zB.eqL (a := 0) (b := 0) c_15 (zBc (-1) (-1) (by decide))
      refine lv_aload_n hx hb dX7_readName_43 rfl (lv_at hl 1 rfl) ?_
      refine lv_aload_n hx hb dX7_readName_44 rfl (lv_at hl 0 rfl) ?_
      refine zt_getk (t := 7) (C := RX7) (T := TX7) (N := 12) Z h hth zin_7 rfl 6 kx_1 ⟨by decide, rfl, by decide⟩ (zm_RX7 (List.mem_of_getElem? (i := 9) rfl)) (fun _ h9 => h9) dX7_readName_45 ?_
      refine zt_pute (t := 2) (C := RX2) (T := TX2) (N := 9) (v := .int x_1) Z h hfu zin_2 tyX2 tyX2_ok nmX2 rfl 0 rfl ⟨by decide, rfl⟩ (zm_RX7 (List.mem_of_getElem? (i := 51) rfl)) (fun _ h9 => h9) rfl (zV.i (bx_1.w ⟨by decide, by decide⟩)) rfl rfl dX7_readName_48 (fun H locs F_17 h hfF_17 kF_17 oF_17 => ?_)
      refine lv_aload_n hx hb dX7_readName_51 rfl (lv_at hl 0 rfl) ?_
      refine lv_dup hx hb dX7_readName_52 rfl ?_
      refine zt_getk (t := 7) (C := RX7) (T := TX7) (N := 12) Z h hth zin_7 rfl 6 (hfF_17.f hth 6 ⟨by decide, by decide⟩ kx_1) ⟨by decide, rfl, by decide⟩ (zm_RX7 (List.mem_of_getElem? (i := 9) rfl)) (fun _ h9 => h9) dX7_readName_53 ?_
      refine lv_iconst (v := 1) hx hb dX7_readName_56 (by decide) ?_
      refine lv_iadd hx hb dX7_readName_57 ?_
      refine zi_add (lo := 1) (hi := 601) bx_1 (zBc 1 1 (by decide)) (by decide) (fun x_18 bx_18 tx_18 => ?_)
      refine zt_put (t := 7) (C := RX7) (T := TX7) (N := 12) (v := .int x_18) Z h hth zin_7 tyX7 tyX7_ok nmX7 rfl 6 rfl ⟨by decide, rfl⟩ (zm_RX7 (List.mem_of_getElem? (i := 9) rfl)) (fun _ h9 => h9) rfl (zV.i (bx_18.w ⟨by decide, by decide⟩)) rfl rfl dX7_readName_58 (fun H locs F_19 h hfF_19 kF_19 => ?_)
      have c1_20 := (p_au.fr hfF_17 hth (by decide))
      have cc_21 := (cc0_.fr hfF_17 hth (by decide) (zTo_P Bt nt))
      have c1_22 : zC1 F_19 th Nt (zadv (zmap (fun i d9 => zaddn d9 i) σ)) := (zC1.adm (T := zTo Bt nt) c1_20 hfF_19 hth (by decide) (hfF_17.f hth 6 ⟨by decide, by decide⟩ kx_1) kF_19 (by have := bx_1.1; have := bx_1.2; have := br_5_10.1; have := br_5_10.2; have := bcc.1; have := bcc.2; have := bsz_.1; have := bsz_.2; have := bx_18.1; have := bx_18.2; have := bx_2.1; have := bx_2.2; have : ((-1) : Int32).toInt = (-1) := (by decide); have : (1 : Int32).toInt = 1 := (by decide); have : (4 : Int32).toInt = 4 := (by decide); omega) hLs_ ⟨by have := bx_1.1; have := bx_1.2; have := br_5_10.1; have := br_5_10.2; have := bcc.1; have := bcc.2; have := bsz_.1; have := bsz_.2; have := bx_18.1; have := bx_18.2; have := bx_2.1; have := bx_2.2; have : ((-1) : Int32).toInt = (-1) := (by decide); have : (1 : Int32).toInt = 1 := (by decide); have : (4 : Int32).toInt = 4 := (by decide); omega, by have := bx_1.1; have := bx_1.2; have := br_5_10.1; have := br_5_10.2; have := bcc.1; have := bcc.2; have := bsz_.1; have := bsz_.2; have := bx_18.1; have := bx_18.2; have := bx_2.1; have := bx_2.2; have : ((-1) : Int32).toInt = (-1) := (by decide); have : (1 : Int32).toInt = 1 := (by decide); have : (4 : Int32).toInt = 4 := (by decide); omega⟩)
      have rc_22 : zRc (zTo Bt nt) σ [(2, 0, 0, 0)] (zadv (zmap (fun i d9 => zaddn d9 i) σ)) [] := zRc.name0 (N := Nt) rc0_ (by have := br_5_10.1; have := br_5_10.2; have := bcc.1; have := bcc.2; have := bsz_.1; have := bsz_.2; have := bx_18.1; have := bx_18.2; have := bx_2.1; have := bx_2.2; have := bx_1.1; have := bx_1.2; have : ((-1) : Int32).toInt = (-1) := (by decide); have : (1 : Int32).toInt = 1 := (by decide); have : (4 : Int32).toInt = 4 := (by decide); omega) (fun i d9 e9 => by cases hinl.symm.trans e9; have h7 := q_14; rw [show x_1.toInt.toNat = iq by omega] at h7; cases h8 : zfind (zTo Bt nt).2.2 (znm dq) ((zTo Bt nt).2.2 iq) (zfc dq) with | none => rfl | some g => (exfalso; rw [h8] at h7; have h6 : zfi (some g) = (g : Int) := rfl; have := br_11_16.1; have := br_11_16.2; have := br_5_10.1; have := br_5_10.2; have := bcc.1; have := bcc.2; have := bsz_.1; have := bsz_.2; have := bx_18.1; have := bx_18.2; have := bx_2.1; have := bx_2.2; have := bx_1.1; have := bx_1.2; have : ((-1) : Int32).toInt = (-1) := (by decide); have : (1 : Int32).toInt = 1 := (by decide); have : (4 : Int32).toInt = 4 := (by decide); omega))
      have st_22 : zsN σ (zadv (zmap (fun i d9 => zaddn d9 i) σ)) := zsN.nm
      have ss_22 : zsN σ (zadv (zmap (fun i d9 => zaddn d9 i) σ)) := ss0_.trans st_22
      have cc_22 : zCc Γ F F_19 th (zTo Bt nt) σ (zadv (zmap (fun i d9 => zaddn d9 i) σ)) (1) := (zCc.adm2 (N := Nt) (f := fun i d9 => zaddn d9 i) (cc_21.fr hfF_19 hth (by decide) (zTo_P Bt nt)) (fun _ _ => rfl) (by have := bx_1.1; have := bx_1.2; have := br_5_10.1; have := br_5_10.2; have := bcc.1; have := bcc.2; have := bsz_.1; have := bsz_.2; have := bx_18.1; have := bx_18.2; have := bx_2.1; have := bx_2.2; have : ((-1) : Int32).toInt = (-1) := (by decide); have : (1 : Int32).toInt = 1 := (by decide); have : (4 : Int32).toInt = 4 := (by decide); omega) (by omega))
      generalize hσ_22 : zadv (zmap (fun i d9 => zaddn d9 i) σ) = σ_22 at c1_22 rc_22 st_22 ss_22 cc_22
      obtain ⟨⟨x_23, kx_23, nx_23⟩, ⟨x_24, kx_24, nx_24⟩, ox_23⟩ := id c1_22
      have gx_23 := zC1.nx c1_22 hLs_.1 kx_23
      have bx_23 : zB 0 600 x_23 := ⟨by omega, by have := hLs_.2.1; omega⟩
      have bx_24 := zB.all x_24
      have vx_23 := congrArg Int32.toInt (z_same kF_19 kx_23)
      have mo_22 := zsN.nx st_22 ox_1 ox_23
      have nm_25 : zNm F_19 fu (zTo Bt nt) Nt σ_22 := by rw [← hσ_22]; exact zNm.new (hfF_19.f hfu 0 ⟨by decide, by decide⟩ kF_17) nx_1 ox_1 (by have := br_5_10.1; have := br_5_10.2; have := bcc.1; have := bcc.2; have := bsz_.1; have := bsz_.2; have := bx_18.1; have := bx_18.2; have := bx_2.1; have := bx_2.2; have := bx_1.1; have := bx_1.2; have : ((-1) : Int32).toInt = (-1) := (by decide); have : (1 : Int32).toInt = 1 := (by decide); have : (4 : Int32).toInt = 4 := (by decide); omega)
      have oth_26 : zOth Γ F F_19 fu := (((zOth.rf : zOth Γ F F fu).put oF_17).fr hfF_19 (by decide))
      subst hQ
      exact W.vret hx hb hr (fun t ht hW => ⟨⟨F_19, rfl, ⟨⟨σ_22, c1_22, rc_22, ss_22, (cc_22.w (by have := br_5_10.1; have := br_5_10.2; have := bcc.1; have := bcc.2; have := bsz_.1; have := bsz_.2; have := bx_23.1; have := bx_23.2; have := bx_24.1; have := bx_24.2; have := bx_1.1; have := bx_1.2; have : ((-1) : Int32).toInt = (-1) := (by decide); have : (1 : Int32).toInt = 1 := (by decide); have : (4 : Int32).toInt = 4 := (by decide); omega)), nm_25⟩, oth_26, trivial⟩, by rw [ht]; exact h.1, h.2.1, ((hfF_17.w (by decide)).trans hfF_19 (by decide))⟩, h.2.2.F ht⟩) h.2.2.2.2 dX7_readName_61
    · have c_15 := z_ne c_15
      have br_11_27 : zB 0 9 r_11 := zB.neLo c_15 br_11 (zBc (-1) (-1) (by decide)) (by decide)
      refine lv_aload_n hx hb dX7_readName_35 rfl (lv_at hl 0 rfl) ?_
      refine lv_iconst (v := 2) hx hb dX7_readName_36 (by decide) ?_
      refine zk_Vv (As := [.int 2]) (rest := []) (bytes := cX7_fail) (maxL := 2) (ret := none) Z h (ze_X7_fail l D k Γ L F H.size th 2 tk Bt nt Nt σ hth ktk htk p_tb p_au (by have := br_5_10.1; have := br_5_10.2; have := bcc.1; have := bcc.2; have := bsz_.1; have := bsz_.2; have := bx_1.1; have := bx_1.2; have := bx_2.1; have := bx_2.2; have : ((-1) : Int32).toInt = (-1) := (by decide); have : (2 : Int32).toInt = 2 := (by decide); have : (4 : Int32).toInt = 4 := (by decide); omega)) (cwV 1 hg zv_RX7_79 rfl rfl rfl zd_X7_fail ⟨z_leR hRf (by decide), z_leR hRl (by decide)⟩) hth (by decide) rfl rfl hl.1 rfl (Nat.le_of_ble_eq_true rfl) dX7_readName_37 ⟨Nat.zero_le _, Nat.zero_le _⟩ (fun F_28 H locs w_29 h hfF_28 => ?_)
      obtain ⟨q_30, -⟩ := w_29
      have c1_31 : zC1 F_28 th Nt (zfl 2 σ) := (by have h9 := q_30; rw [show (2 : Int32).toInt = 2 by decide] at h9; exact h9)
      have rc_31 : zRc (zTo Bt nt) σ [(2, 0, 0, 0)] (zfl 2 σ) [] := zRc.name2 (N := Nt) rc0_ (by have := br_5_10.1; have := br_5_10.2; have := bcc.1; have := bcc.2; have := bsz_.1; have := bsz_.2; have : ((-1) : Int32).toInt = (-1) := (by decide); have : (4 : Int32).toInt = 4 := (by decide); omega) (fun i d9 e9 => by cases hinl.symm.trans e9; have h7 := q_14; rw [show x_1.toInt.toNat = iq by omega] at h7; intro h8; rw [h8] at h7; have h6 : zfi none = -1 := rfl; have := br_11_27.1; have := br_11_27.2; have := br_5_10.1; have := br_5_10.2; have := bcc.1; have := bcc.2; have := bsz_.1; have := bsz_.2; have : ((-1) : Int32).toInt = (-1) := (by decide); have : (4 : Int32).toInt = 4 := (by decide); omega)
      have st_31 : zss σ (zfl 2 σ) := zsm.fl.ss
      have ss_31 : zsN σ (zfl 2 σ) := ss0_.trans st_31.sN
      have cc_31 : zCc Γ F F_28 th (zTo Bt nt) σ (zfl 2 σ) (3) := (cc0_.mv hfF_28 hth (by decide) (zTo_P Bt nt) zsm.fl.cs)
      generalize hσ_31 : zfl 2 σ = σ_31 at c1_31 rc_31 st_31 ss_31 cc_31
      obtain ⟨⟨x_32, kx_32, nx_32⟩, ⟨x_33, kx_33, nx_33⟩, ox_32⟩ := id c1_31
      have gx_32 := zC1.nx c1_31 hLs_.1 kx_32
      have bx_32 : zB 0 600 x_32 := ⟨by omega, by have := hLs_.2.1; omega⟩
      have bx_33 := zB.all x_33
      have mo_31 := zss.nx st_31 ox_1 ox_32
      have nm_34 : zNm F_28 fu (zTo Bt nt) Nt σ_31 := by rw [← hσ_31]; exact zNm.fl
      have cc_35 : zCc Γ F F_28 th (zTo Bt nt) σ σ_31 (1) := zCc.bad cc_31 (by rw [← hσ_31]; exact zfl_bad _ _)
      refine lv_goto (tgt := 61) hx hb dX7_readName_40 (by decide) ?_
      have oth_36 : zOth Γ F F_28 fu := ((zOth.rf : zOth Γ F F fu).fr hfF_28 (by decide))
      subst hQ
      exact W.vret hx hb hr (fun t ht hW => ⟨⟨F_28, rfl, ⟨⟨σ_31, c1_31, rc_31, ss_31, (cc_35.w (by have := br_5_10.1; have := br_5_10.2; have := bcc.1; have := bcc.2; have := bsz_.1; have := bsz_.2; have := bx_32.1; have := bx_32.2; have := bx_33.1; have := bx_33.2; have : ((-1) : Int32).toInt = (-1) := (by decide); have : (4 : Int32).toInt = 4 := (by decide); omega)), nm_34⟩, oth_36, trivial⟩, by rw [ht]; exact h.1, h.2.1, (hfF_28.w (by decide))⟩, h.2.2.F ht⟩) h.2.2.2.2 dX7_readName_61
  · have c_9 := z_ne c_9
    refine lv_aload_n hx hb dX7_readName_8 rfl (lv_at hl 0 rfl) ?_
    refine lv_iconst (v := 1) hx hb dX7_readName_9 (by decide) ?_
    refine zk_Vv (As := [.int 1]) (rest := []) (bytes := cX7_fail) (maxL := 2) (ret := none) Z h (ze_X7_fail l D k Γ L F H.size th 1 tk Bt nt Nt σ hth ktk htk p_tb p_au (by have := br_5.1; have := br_5.2; have := bcc.1; have := bcc.2; have := bsz_.1; have := bsz_.2; have := bx_1.1; have := bx_1.2; have := bx_2.1; have := bx_2.2; have : (1 : Int32).toInt = 1 := (by decide); have : (4 : Int32).toInt = 4 := (by decide); omega)) (cwV 1 hg zv_RX7_79 rfl rfl rfl zd_X7_fail ⟨z_leR hRf (by decide), z_leR hRl (by decide)⟩) hth (by decide) rfl rfl hl.1 rfl (Nat.le_of_ble_eq_true rfl) dX7_readName_10 ⟨Nat.zero_le _, Nat.zero_le _⟩ (fun F_37 H locs w_38 h hfF_37 => ?_)
    obtain ⟨q_39, -⟩ := w_38
    have c1_40 : zC1 F_37 th Nt (zfl 1 σ) := (by have h9 := q_39; rw [show (1 : Int32).toInt = 1 by decide] at h9; exact h9)
    have rc_40 : zRc (zTo Bt nt) σ [(2, 0, 0, 0)] (zfl 1 σ) [] := zRc.name1 (N := Nt) rc0_ (by have := br_5.1; have := br_5.2; have := bcc.1; have := bcc.2; have := bsz_.1; have := bsz_.2; have : (4 : Int32).toInt = 4 := (by decide); omega)
    have st_40 : zss σ (zfl 1 σ) := zsm.fl.ss
    have ss_40 : zsN σ (zfl 1 σ) := ss0_.trans st_40.sN
    have cc_40 : zCc Γ F F_37 th (zTo Bt nt) σ (zfl 1 σ) (3) := (cc0_.mv hfF_37 hth (by decide) (zTo_P Bt nt) zsm.fl.cs)
    generalize hσ_40 : zfl 1 σ = σ_40 at c1_40 rc_40 st_40 ss_40 cc_40
    obtain ⟨⟨x_41, kx_41, nx_41⟩, ⟨x_42, kx_42, nx_42⟩, ox_41⟩ := id c1_40
    have gx_41 := zC1.nx c1_40 hLs_.1 kx_41
    have bx_41 : zB 0 600 x_41 := ⟨by omega, by have := hLs_.2.1; omega⟩
    have bx_42 := zB.all x_42
    have mo_40 := zss.nx st_40 ox_1 ox_41
    have nm_43 : zNm F_37 fu (zTo Bt nt) Nt σ_40 := by rw [← hσ_40]; exact zNm.fl
    have cc_44 : zCc Γ F F_37 th (zTo Bt nt) σ σ_40 (1) := zCc.bad cc_40 (by rw [← hσ_40]; exact zfl_bad _ _)
    refine lv_goto (tgt := 61) hx hb dX7_readName_13 (by decide) ?_
    have oth_45 : zOth Γ F F_37 fu := ((zOth.rf : zOth Γ F F fu).fr hfF_37 (by decide))
    subst hQ
    exact W.vret hx hb hr (fun t ht hW => ⟨⟨F_37, rfl, ⟨⟨σ_40, c1_40, rc_40, ss_40, (cc_44.w (by have := br_5.1; have := br_5.2; have := bcc.1; have := bcc.2; have := bsz_.1; have := bsz_.2; have := bx_41.1; have := bx_41.2; have := bx_42.1; have := bx_42.2; have : (4 : Int32).toInt = 4 := (by decide); omega)), nm_43⟩, oth_45, trivial⟩, by rw [ht]; exact h.1, h.2.1, (hfF_37.w (by decide))⟩, h.2.2.F ht⟩) h.2.2.2.2 dX7_readName_61

set_option maxHeartbeats 4000000 in
set_option maxRecDepth 100000 in
theorem ze_X7_readPlace (l : Launch) (D : va_G) (k : Nat → ClassId) (Γ : Nat → Option Nat) (L : List Nat) (F : Nat → va_E) (sz : Nat) (th : Nat) (fu : Nat) (pr : Nat) (tk : Nat) (co : Nat) (Bt : Nat → Int32) (nt : Nat) (Nt : Nat) (cc : Int32) (σ : zSg) (hth : Γ th = some 7) (hfu : Γ fu = some 2) (kpr : zfld F th 3 = .ref pr) (hpr : Γ pr = some 6) (ktk : zfld F th 4 = .ref tk) (htk : Γ tk = some 8) (kco : zfld F th 5 = .ref co) (hco : Γ co = some 1) (p_tb : zTb Γ F tk Bt nt Nt) (kcc : zfld F th 11 = .int cc) (bcc : zB 0 150 cc) (p_au : zC1 F th Nt (σ)) (hm_ : ∀ i d9, σ = .inl (i, d9) → 4 * cc.toInt + 5 ≤ zpo Bt nt i + (0)) (p_pl : zPl Γ F fu σ) : Met l yX7_readPlace zwX7_readPlace ({ frames := 2, cells := 0, slots := 0, locals := 61 }) (va_Pc [.ref th, .ref fu] (zP D k Γ L F sz)) (va_Qv (fun (u : Nat → va_E) => (∃ σ9 : zSg, zC1 u th Nt σ9 ∧ zRc (zTo Bt nt) σ [(4, 0, 0, 0)] σ9 [] ∧ zsP σ σ9 ∧ zCc Γ F u th (zTo Bt nt) σ σ9 (0) ∧ zPl Γ u fu σ9) ∧ zOth Γ F u fu ∧ True) (zQ D k Γ L F [207, 701, 702, 706, 10300]) (zA L sz)) 0 0 (zA L sz) := by
  refine Met.ofW (cc := cX7_readPlace) (maxL := 2) (ret := none) (by decide) rfl ?_
  intro p e s m args below meth c s₁ B hml hv
  obtain ⟨rfl, hsz, hP, hK, hLn, hE, hI⟩ := hv
  have hx := B.exec
  have hb := B.bytes
  have hr := B.returns
  have hg : ∀ w ∈ zG, w.before _ s = true := fun w h9 => atoms_spec (ws := zwX7_readPlace) B.pre w (List.mem_cons_of_mem _ h9)
  have hown : s.vm.findClass RX7 = some m.cls := findClass_of_methodNamed B.named
  have hlocks := B.notSynchronized
  subst hsz
  have Z : zC p m c cX7_readPlace 2 s _ zG RX7 D k L := ⟨⟨hx, hb, hml, hown, hg⟩, hK, hLn, hE⟩
  have h : zH D k Γ L s F s.heap [] := ⟨hP, hI, va_S.rf⟩
  have hl := lv_entry ([.ref th, .ref fu]) (n := 2) (Nat.le_of_ble_eq_true rfl)
  rw [lg_entry_eq]
  generalize (lg_sl ([.ref th, .ref fu]) ++ List.replicate (2 - (lg_sl ([.ref th, .ref fu])).length) Slot.unset).toArray = ls at hl ⊢
  have hl : lv_has ls 2 [(0, .ref th), (1, .ref fu)] := hl
  clear hP hK hLn hE hI
  generalize hargs : ([.ref th, .ref fu] : List Value).toArray = args at *
  refine z_start (fun R Q hRf hRl hQ => ?_)
  have hRf : R.frames = 2 := hRf
  have hRl : R.locals = 61 := hRl
  have h9 := h
  have hLs_ := p_tb.2.2.2.1
  obtain ⟨sz_, ksz_, tsz_⟩ := p_tb.2.2.1
  have bsz_ : zB 1 601 sz_ := ⟨by have := hLs_.1; omega, by have := hLs_.2.1; omega⟩
  obtain ⟨⟨x_1, kx_1, nx_1⟩, ⟨x_2, kx_2, nx_2⟩, ox_1⟩ := id p_au
  have gx_1 := zC1.nx p_au hLs_.1 kx_1
  have bx_1 : zB 0 600 x_1 := ⟨by omega, by have := hLs_.2.1; omega⟩
  have bx_2 := zB.all x_2
  have ad_3 := z_ad (j := 7) (c := 106) h.2.1 hth (by decide) rfl
  have ad_4 := z_ad (j := 8) (c := 107) h.2.1 hth (by decide) rfl
  have cc0_ : zCc Γ F F th (zTo Bt nt) σ σ (0) := zCc.rf kcc bcc.1 ⟨ad_3, ad_4⟩ hm_
  have rc0_ : zRc (zTo Bt nt) σ [(4, 0, 0, 0)] σ [(4, 0, 0, 0)] := zRc.rf
  have ss0_ : zsP σ σ := zsP.rf
  have ad_5 := z_ad (j := 8) (c := 103) h.2.1 hfu (by decide) rfl
  obtain ⟨x_6, kx_6, bx_6⟩ := z_learn (j := 7) (lo := 0) (hi := 3) h hfu (by decide) rfl
  have q_7 := zPl.k p_pl kx_6
  refine lv_aload_n hx hb dX7_readPlace_0 rfl (lv_at hl 0 rfl) ?_
  refine zk_Vi (As := []) (rest := []) (bytes := cX7_kind) (maxL := 2) (ret := (some .int)) Z h (ze_X7_kind l D k Γ L F s.heap.size th tk Bt nt Nt σ hth ktk htk p_tb p_au) (cwV 0 hg zv_RX7_65 rfl rfl rfl zd_X7_kind ⟨z_leR hRf (by decide), z_leR hRl (by decide)⟩) hth (by decide) rfl rfl hl.1 rfl (Nat.le_of_ble_eq_true rfl) dX7_readPlace_1 ⟨Nat.zero_le _, Nat.zero_le _⟩ (fun r_8 F_9 H locs w_10 h hfF_9 => ?_)
  obtain ⟨rfl, q_11, -⟩ := w_10
  have br_8 := zB.all r_8
  refine lv_iconst (v := 3) hx hb dX7_readPlace_4 (by decide) ?_
  refine lv_icmp_eq (tgt := 16) hx hb dX7_readPlace_5 (by decide) (fun c_12 => ?_) (fun c_12 => ?_)
  · have c_12 := z_eq c_12
    have br_8_13 : zB 3 3 r_8 := zB.eqL (a := 0) (b := 0) c_12 (zBc 3 3 (by decide))
    obtain ⟨iq, dq, hinl⟩ := zinl hLs_ (σ := σ) ⟨by have := br_8_13.1; have := br_8_13.2; have := bcc.1; have := bcc.2; have := bsz_.1; have := bsz_.2; have := bx_1.1; have := bx_1.2; have := bx_2.1; have := bx_2.2; have := bx_6.1; have := bx_6.2; have : (3 : Int32).toInt = 3 := (by decide); omega, by have := br_8_13.1; have := br_8_13.2; have := bcc.1; have := bcc.2; have := bsz_.1; have := bsz_.2; have := bx_1.1; have := bx_1.2; have := bx_2.1; have := bx_2.2; have := bx_6.1; have := bx_6.2; have : (3 : Int32).toInt = 3 := (by decide); omega⟩
    have hq_ : x_1.toInt = (iq : Int) := by rw [nx_1, hinl]; rfl
    have hpq_ := p_pl.2 iq dq hinl
    have hpc_ := q_7 iq dq hinl
    refine lv_aload_n hx hb dX7_readPlace_16 rfl (lv_at hl 1 rfl) ?_
    refine lv_aload_n hx hb dX7_readPlace_17 rfl (lv_at hl 0 rfl) ?_
    refine zt_getk (t := 7) (C := RX7) (T := TX7) (N := 12) Z h hth zin_7 rfl 4 ktk ⟨by decide, rfl, by decide⟩ (zm_RX7 (List.mem_of_getElem? (i := 4) rfl)) (fun _ h9 => h9) dX7_readPlace_18 ?_
    refine lv_aload_n hx hb dX7_readPlace_21 rfl (lv_at hl 0 rfl) ?_
    refine zt_getk (t := 7) (C := RX7) (T := TX7) (N := 12) Z h hth zin_7 rfl 6 kx_1 ⟨by decide, rfl, by decide⟩ (zm_RX7 (List.mem_of_getElem? (i := 9) rfl)) (fun _ h9 => h9) dX7_readPlace_22 ?_
    refine zk_Vi (As := [.int x_1]) (rest := [.ref fu]) (bytes := cX8_letterOf) (maxL := 2) (ret := (some .int)) Z h (ze_X8_letterOf l D k Γ L F H.size tk x_1 Bt nt Nt htk p_tb ⟨by have := bx_1.1; have := bx_1.2; have := br_8_13.1; have := br_8_13.2; have := bcc.1; have := bcc.2; have := bsz_.1; have := bsz_.2; have := bx_2.1; have := bx_2.2; have := bx_6.1; have := bx_6.2; have : (3 : Int32).toInt = 3 := (by decide); omega, by have := bx_1.1; have := bx_1.2; have := br_8_13.1; have := br_8_13.2; have := bcc.1; have := bcc.2; have := bsz_.1; have := bsz_.2; have := bx_2.1; have := bx_2.2; have := bx_6.1; have := bx_6.2; have : (3 : Int32).toInt = 3 := (by decide); omega, by rw [nx_1, zkd_nx]; have := bx_1.1; have := bx_1.2; have := br_8_13.1; have := br_8_13.2; have := bcc.1; have := bcc.2; have := bsz_.1; have := bsz_.2; have := bx_2.1; have := bx_2.2; have := bx_6.1; have := bx_6.2; have : (3 : Int32).toInt = 3 := (by decide); omega⟩) (cwV 1 hg zv_RX7_139 rfl rfl rfl zd_X8_letterOf ⟨z_leR hRf (by decide), z_leR hRl (by decide)⟩) htk (by decide) rfl rfl hl.1 rfl (Nat.le_of_ble_eq_true rfl) dX7_readPlace_25 ⟨Nat.zero_le _, Nat.zero_le _⟩ (fun r_14 F_15 H locs w_16 h hfF_15 => ?_)
    obtain ⟨rfl, br_14, q_17, -⟩ := w_16
    refine zk_Vi (As := [.int r_14]) (rest := []) (bytes := cX2_hasPlace) (maxL := 3) (ret := (some .boolean)) Z h (ze_X2_hasPlace l D k Γ L F H.size fu r_14 x_6 hfu kx_6 bx_6) (cwV 1 hg zv_RX7_142 rfl rfl rfl zd_X2_hasPlace ⟨z_leR hRf (by decide), z_leR hRl (by decide)⟩) hfu (by decide) rfl rfl hl.1 rfl (Nat.le_of_ble_eq_true rfl) dX7_readPlace_28 ⟨Nat.zero_le _, Nat.zero_le _⟩ (fun r_18 F_19 H locs w_20 h hfF_19 => ?_)
    obtain ⟨rfl, br_18, q_21, -⟩ := w_20
    refine lv_if_eq (tgt := 42) hx hb dX7_readPlace_31 (by decide) (fun c_22 => ?_) (fun c_22 => ?_)
    · have c_22 := z_eq c_22
      have br_18_23 : zB 0 0 r_18 := zB.eqL (a := 0) (b := 0) c_22 (zBc 0 0 (by decide))
      refine lv_aload_n hx hb dX7_readPlace_42 rfl (lv_at hl 1 rfl) ?_
      refine zt_getk (t := 2) (C := RX2) (T := TX2) (N := 9) Z h hfu zin_2 rfl 7 kx_6 ⟨by decide, rfl, by decide⟩ (zm_RX7 (List.mem_of_getElem? (i := 60) rfl)) (fun _ h9 => h9) dX7_readPlace_43 ?_
      refine lv_iconst (v := 3) hx hb dX7_readPlace_46 (by decide) ?_
      refine lv_icmp_lt (tgt := 58) hx hb dX7_readPlace_47 (by decide) (fun c_24 => ?_) (fun c_24 => ?_)
      · have c_24 := z_lt c_24
        have bx_6_25 : zB 0 2 x_6 := zB.ltL c_24 bx_6 (zBc 3 3 (by decide)) (by decide)
        refine lv_aload_n hx hb dX7_readPlace_58 rfl (lv_at hl 1 rfl) ?_
        refine lv_aload_n hx hb dX7_readPlace_59 rfl (lv_at hl 0 rfl) ?_
        refine zt_getk (t := 7) (C := RX7) (T := TX7) (N := 12) Z h hth zin_7 rfl 4 ktk ⟨by decide, rfl, by decide⟩ (zm_RX7 (List.mem_of_getElem? (i := 4) rfl)) (fun _ h9 => h9) dX7_readPlace_60 ?_
        refine lv_aload_n hx hb dX7_readPlace_63 rfl (lv_at hl 0 rfl) ?_
        refine zt_getk (t := 7) (C := RX7) (T := TX7) (N := 12) Z h hth zin_7 rfl 6 kx_1 ⟨by decide, rfl, by decide⟩ (zm_RX7 (List.mem_of_getElem? (i := 9) rfl)) (fun _ h9 => h9) dX7_readPlace_64 ?_
        refine zk_Vi (As := [.int x_1]) (rest := [.ref fu]) (bytes := cX8_letterOf) (maxL := 2) (ret := (some .int)) Z h (ze_X8_letterOf l D k Γ L F H.size tk x_1 Bt nt Nt htk p_tb ⟨by have := bx_1.1; have := bx_1.2; have := br_8_13.1; have := br_8_13.2; have := bcc.1; have := bcc.2; have := bsz_.1; have := bsz_.2; have := bx_2.1; have := bx_2.2; have := bx_6_25.1; have := bx_6_25.2; have : (0 : Int32).toInt = 0 := (by decide); have : (3 : Int32).toInt = 3 := (by decide); omega, by have := bx_1.1; have := bx_1.2; have := br_8_13.1; have := br_8_13.2; have := bcc.1; have := bcc.2; have := bsz_.1; have := bsz_.2; have := bx_2.1; have := bx_2.2; have := bx_6_25.1; have := bx_6_25.2; have : (0 : Int32).toInt = 0 := (by decide); have : (3 : Int32).toInt = 3 := (by decide); omega, by rw [nx_1, zkd_nx]; have := bx_1.1; have := bx_1.2; have := br_8_13.1; have := br_8_13.2; have := bcc.1; have := bcc.2; have := bsz_.1; have := bsz_.2; have := bx_2.1; have := bx_2.2; have := bx_6_25.1; have := bx_6_25.2; have : (0 : Int32).toInt = 0 := (by decide); have : (3 : Int32).toInt = 3 := (by decide); omega⟩) (cwV 1 hg zv_RX7_139 rfl rfl rfl zd_X8_letterOf ⟨z_leR hRf (by decide), z_leR hRl (by decide)⟩) htk (by decide) rfl rfl hl.1 rfl (Nat.le_of_ble_eq_true rfl) dX7_readPlace_67 ⟨Nat.zero_le _, Nat.zero_le _⟩ (fun r_26 F_27 H locs w_28 h hfF_27 => ?_)
        obtain ⟨rfl, br_26, q_29, -⟩ := w_28
        refine zk_Vv (As := [.int r_26]) (rest := []) (bytes := cX2_addPlace) (maxL := 2) (ret := none) Z h (ze_X2_addPlace l D k Γ L F H.size fu r_26 x_6 hfu kx_6 bx_6_25) (cwV 1 hg zv_RX7_149 rfl rfl rfl zd_X2_addPlace ⟨z_leR hRf (by decide), z_leR hRl (by decide)⟩) hfu (by decide) rfl rfl hl.1 rfl (Nat.le_of_ble_eq_true rfl) dX7_readPlace_70 ⟨Nat.zero_le _, Nat.zero_le _⟩ (fun F_30 H locs w_31 h hfF_30 => ?_)
        obtain ⟨⟨x_33, kx_33, bx_33, q_32⟩, q_34, q_35, -⟩ := w_31
        refine lv_aload_n hx hb dX7_readPlace_73 rfl (lv_at hl 0 rfl) ?_
        refine lv_dup hx hb dX7_readPlace_74 rfl ?_
        refine zt_getk (t := 7) (C := RX7) (T := TX7) (N := 12) Z h hth zin_7 rfl 6 (hfF_30.f hth 6 ⟨by decide, by decide⟩ kx_1) ⟨by decide, rfl, by decide⟩ (zm_RX7 (List.mem_of_getElem? (i := 9) rfl)) (fun _ h9 => h9) dX7_readPlace_75 ?_
        refine lv_iconst (v := 1) hx hb dX7_readPlace_78 (by decide) ?_
        refine lv_iadd hx hb dX7_readPlace_79 ?_
        refine zi_add (lo := 1) (hi := 601) bx_1 (zBc 1 1 (by decide)) (by decide) (fun x_36 bx_36 tx_36 => ?_)
        refine zt_put (t := 7) (C := RX7) (T := TX7) (N := 12) (v := .int x_36) Z h hth zin_7 tyX7 tyX7_ok nmX7 rfl 6 rfl ⟨by decide, rfl⟩ (zm_RX7 (List.mem_of_getElem? (i := 9) rfl)) (fun _ h9 => h9) rfl (zV.i (bx_36.w ⟨by decide, by decide⟩)) rfl rfl dX7_readPlace_80 (fun H locs F_37 h hfF_37 kF_37 => ?_)
        have ad_38 := ad_5.fr hfF_30 hfu ⟨by decide, by decide⟩
        have ar_39 : zar F_37 fu 8 = (upd (zar F fu 8) (Int32.toNatClampNeg x_6) r_26) := ((ad_38.ar hfF_37 hfu ⟨by decide, by decide⟩ ⟨by decide, by decide⟩).trans q_34)
        have c1_40 := (p_au.fr hfF_30 hth (by decide))
        have cc_41 := (cc0_.fr hfF_30 hth (by decide) (zTo_P Bt nt))
        have c1_42 : zC1 F_37 th Nt (zadv (zmap (fun i d9 => zaddp d9 ((zTo Bt nt).2.2 i - 1)) σ)) := (zC1.adm (T := zTo Bt nt) c1_40 hfF_37 hth (by decide) (hfF_30.f hth 6 ⟨by decide, by decide⟩ kx_1) kF_37 (by have := bx_1.1; have := bx_1.2; have := br_8_13.1; have := br_8_13.2; have := bcc.1; have := bcc.2; have := bsz_.1; have := bsz_.2; have := bx_36.1; have := bx_36.2; have := bx_2.1; have := bx_2.2; have := bx_33.1; have := bx_33.2; have : (0 : Int32).toInt = 0 := (by decide); have : (1 : Int32).toInt = 1 := (by decide); have : (3 : Int32).toInt = 3 := (by decide); omega) hLs_ ⟨by have := bx_1.1; have := bx_1.2; have := br_8_13.1; have := br_8_13.2; have := bcc.1; have := bcc.2; have := bsz_.1; have := bsz_.2; have := bx_36.1; have := bx_36.2; have := bx_2.1; have := bx_2.2; have := bx_33.1; have := bx_33.2; have : (0 : Int32).toInt = 0 := (by decide); have : (1 : Int32).toInt = 1 := (by decide); have : (3 : Int32).toInt = 3 := (by decide); omega, by have := bx_1.1; have := bx_1.2; have := br_8_13.1; have := br_8_13.2; have := bcc.1; have := bcc.2; have := bsz_.1; have := bsz_.2; have := bx_36.1; have := bx_36.2; have := bx_2.1; have := bx_2.2; have := bx_33.1; have := bx_33.2; have : (0 : Int32).toInt = 0 := (by decide); have : (1 : Int32).toInt = 1 := (by decide); have : (3 : Int32).toInt = 3 := (by decide); omega⟩)
        have rc_42 : zRc (zTo Bt nt) σ [(4, 0, 0, 0)] (zadv (zmap (fun i d9 => zaddp d9 ((zTo Bt nt).2.2 i - 1)) σ)) [] := zRc.place0 (N := Nt) rc0_ (by have := br_8_13.1; have := br_8_13.2; have := bcc.1; have := bcc.2; have := bsz_.1; have := bsz_.2; have := bx_36.1; have := bx_36.2; have := bx_2.1; have := bx_2.2; have := bx_33.1; have := bx_33.2; have : (0 : Int32).toInt = 0 := (by decide); have : (1 : Int32).toInt = 1 := (by decide); have : (3 : Int32).toInt = 3 := (by decide); omega) (fun i d9 e9 => by cases hinl.symm.trans e9; have h5 := q_17; rw [show x_1.toInt.toNat = iq by omega] at h5; refine ⟨?_, by have := br_18_23.1; have := br_18_23.2; have := br_14.1; have := br_14.2; have := bx_6_25.1; have := bx_6_25.2; have := br_8_13.1; have := br_8_13.2; have := bcc.1; have := bcc.2; have := bsz_.1; have := bsz_.2; have := bx_36.1; have := bx_36.2; have := bx_2.1; have := bx_2.2; have := bx_33.1; have := bx_33.2; have : (0 : Int32).toInt = 0 := (by decide); have : (1 : Int32).toInt = 1 := (by decide); have : (3 : Int32).toInt = 3 := (by decide); omega⟩; rcases q_21 with ⟨g1, g2⟩ | ⟨g1, g2⟩; exfalso; have := br_18_23.1; have := br_18_23.2; have := br_14.1; have := br_14.2; have := bx_6_25.1; have := bx_6_25.2; have := br_8_13.1; have := br_8_13.2; have := bcc.1; have := bcc.2; have := bsz_.1; have := bsz_.2; have := bx_36.1; have := bx_36.2; have := bx_2.1; have := bx_2.2; have := bx_33.1; have := bx_33.2; have : (0 : Int32).toInt = 0 := (by decide); have : (1 : Int32).toInt = 1 := (by decide); have : (3 : Int32).toInt = 3 := (by decide); omega; rintro ⟨q, g3, g4⟩; have h4 := g2 q (by omega); rw [hpq_.2 q g3] at h4; omega)
        have st_42 : zsP σ (zadv (zmap (fun i d9 => zaddp d9 ((zTo Bt nt).2.2 i - 1)) σ)) := zsP.pl (K := (zTo Bt nt).2.2)
        have ss_42 : zsP σ (zadv (zmap (fun i d9 => zaddp d9 ((zTo Bt nt).2.2 i - 1)) σ)) := ss0_.trans st_42
        have cc_42 : zCc Γ F F_37 th (zTo Bt nt) σ (zadv (zmap (fun i d9 => zaddp d9 ((zTo Bt nt).2.2 i - 1)) σ)) (0) := (cc_41.mv hfF_37 hth (by decide) (zTo_P Bt nt) (zadm_cs (f := fun i d9 => zaddp d9 ((zTo Bt nt).2.2 i - 1)) (fun _ _ => rfl)))
        generalize hσ_42 : zadv (zmap (fun i d9 => zaddp d9 ((zTo Bt nt).2.2 i - 1)) σ) = σ_42 at c1_42 rc_42 st_42 ss_42 cc_42
        obtain ⟨⟨x_43, kx_43, nx_43⟩, ⟨x_44, kx_44, nx_44⟩, ox_43⟩ := id c1_42
        have gx_43 := zC1.nx c1_42 hLs_.1 kx_43
        have bx_43 : zB 0 600 x_43 := ⟨by omega, by have := hLs_.2.1; omega⟩
        have bx_44 := zB.all x_44
        have vx_43 := congrArg Int32.toInt (z_same kF_37 kx_43)
        have mo_42 := zsP.nx st_42 ox_1 ox_43
        have ad_46 := ad_38.fr hfF_37 hfu ⟨by decide, by decide⟩
        have pl_45 : zPl Γ F_37 fu σ_42 := by rw [← hσ_42]; exact zPl.add (K := (zTo Bt nt).2.2) p_pl ad_46 kx_6 (by have := bx_33.1; have := bx_33.2; have := bx_6_25.1; have := bx_6_25.2; have := br_8_13.1; have := br_8_13.2; have := bcc.1; have := bcc.2; have := bsz_.1; have := bsz_.2; have := bx_43.1; have := bx_43.2; have := bx_44.1; have := bx_44.2; have : (0 : Int32).toInt = 0 := (by decide); have : (1 : Int32).toInt = 1 := (by decide); have : (3 : Int32).toInt = 3 := (by decide); omega) (hfF_37.f hfu 7 ⟨by decide, by decide⟩ kx_33) (by have := bx_33.1; have := bx_33.2; have := bx_6_25.1; have := bx_6_25.2; have := br_8_13.1; have := br_8_13.2; have := bcc.1; have := bcc.2; have := bsz_.1; have := bsz_.2; have := bx_43.1; have := bx_43.2; have := bx_44.1; have := bx_44.2; have : (0 : Int32).toInt = 0 := (by decide); have : (1 : Int32).toInt = 1 := (by decide); have : (3 : Int32).toInt = 3 := (by decide); omega) ar_39 (fun i d9 e9 => by cases hinl.symm.trans e9; have h5 := q_29; rw [show x_1.toInt.toNat = iq by omega] at h5; omega)
        have oth_47 : zOth Γ F F_37 fu := (((zOth.rf : zOth Γ F F fu).trans q_35).fr hfF_37 (by decide))
        subst hQ
        exact W.vret hx hb hr (fun t ht hW => ⟨⟨F_37, rfl, ⟨⟨σ_42, c1_42, rc_42, ss_42, (cc_42.w (by have := br_8_13.1; have := br_8_13.2; have := bcc.1; have := bcc.2; have := bsz_.1; have := bsz_.2; have := bx_43.1; have := bx_43.2; have := bx_44.1; have := bx_44.2; have := bx_33.1; have := bx_33.2; have : (0 : Int32).toInt = 0 := (by decide); have : (1 : Int32).toInt = 1 := (by decide); have : (3 : Int32).toInt = 3 := (by decide); omega)), pl_45⟩, oth_47, trivial⟩, by rw [ht]; exact h.1, h.2.1, ((hfF_30.w (by decide)).trans hfF_37 (by decide))⟩, h.2.2.F ht⟩) h.2.2.2.2 dX7_readPlace_83
      · have c_24 := z_nlt c_24
        have bx_6_48 : zB 3 3 x_6 := zB.leR c_24 (zBc 3 3 (by decide)) bx_6 (by decide)
        refine lv_aload_n hx hb dX7_readPlace_50 rfl (lv_at hl 0 rfl) ?_
        refine lv_iconst (v := 3) hx hb dX7_readPlace_51 (by decide) ?_
        refine zk_Vv (As := [.int 3]) (rest := []) (bytes := cX7_fail) (maxL := 2) (ret := none) Z h (ze_X7_fail l D k Γ L F H.size th 3 tk Bt nt Nt σ hth ktk htk p_tb p_au (by have := br_8_13.1; have := br_8_13.2; have := bcc.1; have := bcc.2; have := bsz_.1; have := bsz_.2; have := bx_1.1; have := bx_1.2; have := bx_2.1; have := bx_2.2; have := bx_6_48.1; have := bx_6_48.2; have : (0 : Int32).toInt = 0 := (by decide); have : (3 : Int32).toInt = 3 := (by decide); omega)) (cwV 1 hg zv_RX7_79 rfl rfl rfl zd_X7_fail ⟨z_leR hRf (by decide), z_leR hRl (by decide)⟩) hth (by decide) rfl rfl hl.1 rfl (Nat.le_of_ble_eq_true rfl) dX7_readPlace_52 ⟨Nat.zero_le _, Nat.zero_le _⟩ (fun F_49 H locs w_50 h hfF_49 => ?_)
        obtain ⟨q_51, -⟩ := w_50
        have c1_52 : zC1 F_49 th Nt (zfl 3 σ) := (by have h9 := q_51; rw [show (3 : Int32).toInt = 3 by decide] at h9; exact h9)
        have rc_52 : zRc (zTo Bt nt) σ [(4, 0, 0, 0)] (zfl 3 σ) [] := zRc.place3 (N := Nt) rc0_ (by have := br_8_13.1; have := br_8_13.2; have := bcc.1; have := bcc.2; have := bsz_.1; have := bsz_.2; have := bx_6_48.1; have := bx_6_48.2; have : (0 : Int32).toInt = 0 := (by decide); have : (3 : Int32).toInt = 3 := (by decide); omega) (fun i d9 e9 => by cases hinl.symm.trans e9; have h5 := q_17; rw [show x_1.toInt.toNat = iq by omega] at h5; refine ⟨?_, by have := br_18_23.1; have := br_18_23.2; have := br_14.1; have := br_14.2; have := bx_6_48.1; have := bx_6_48.2; have := br_8_13.1; have := br_8_13.2; have := bcc.1; have := bcc.2; have := bsz_.1; have := bsz_.2; have : (0 : Int32).toInt = 0 := (by decide); have : (3 : Int32).toInt = 3 := (by decide); omega⟩; rcases q_21 with ⟨g1, g2⟩ | ⟨g1, g2⟩; exfalso; have := br_18_23.1; have := br_18_23.2; have := br_14.1; have := br_14.2; have := bx_6_48.1; have := bx_6_48.2; have := br_8_13.1; have := br_8_13.2; have := bcc.1; have := bcc.2; have := bsz_.1; have := bsz_.2; have : (0 : Int32).toInt = 0 := (by decide); have : (3 : Int32).toInt = 3 := (by decide); omega; rintro ⟨q, g3, g4⟩; have h4 := g2 q (by omega); rw [hpq_.2 q g3] at h4; omega)
        have st_52 : zss σ (zfl 3 σ) := zsm.fl.ss
        have ss_52 : zsP σ (zfl 3 σ) := ss0_.trans st_52.sP
        have cc_52 : zCc Γ F F_49 th (zTo Bt nt) σ (zfl 3 σ) (0) := (cc0_.mv hfF_49 hth (by decide) (zTo_P Bt nt) zsm.fl.cs)
        generalize hσ_52 : zfl 3 σ = σ_52 at c1_52 rc_52 st_52 ss_52 cc_52
        obtain ⟨⟨x_53, kx_53, nx_53⟩, ⟨x_54, kx_54, nx_54⟩, ox_53⟩ := id c1_52
        have gx_53 := zC1.nx c1_52 hLs_.1 kx_53
        have bx_53 : zB 0 600 x_53 := ⟨by omega, by have := hLs_.2.1; omega⟩
        have bx_54 := zB.all x_54
        have mo_52 := zss.nx st_52 ox_1 ox_53
        have ad_56 := ad_5.fr hfF_49 hfu ⟨by decide, by decide⟩
        have pl_55 : zPl Γ F_49 fu σ_52 := by rw [← hσ_52]; exact zPl.fl ad_56
        refine lv_goto (tgt := 83) hx hb dX7_readPlace_55 (by decide) ?_
        have oth_57 : zOth Γ F F_49 fu := ((zOth.rf : zOth Γ F F fu).fr hfF_49 (by decide))
        subst hQ
        exact W.vret hx hb hr (fun t ht hW => ⟨⟨F_49, rfl, ⟨⟨σ_52, c1_52, rc_52, ss_52, (cc_52.w (by have := br_8_13.1; have := br_8_13.2; have := bcc.1; have := bcc.2; have := bsz_.1; have := bsz_.2; have := bx_53.1; have := bx_53.2; have := bx_54.1; have := bx_54.2; have := bx_6_48.1; have := bx_6_48.2; have : (0 : Int32).toInt = 0 := (by decide); have : (3 : Int32).toInt = 3 := (by decide); omega)), pl_55⟩, oth_57, trivial⟩, by rw [ht]; exact h.1, h.2.1, (hfF_49.w (by decide))⟩, h.2.2.F ht⟩) h.2.2.2.2 dX7_readPlace_83
    · have c_22 := z_ne c_22
      have br_18_58 : zB 1 1 r_18 := zB.neLo c_22 br_18 (zBc 0 0 (by decide)) (by decide)
      refine lv_aload_n hx hb dX7_readPlace_34 rfl (lv_at hl 0 rfl) ?_
      refine lv_iconst (v := 2) hx hb dX7_readPlace_35 (by decide) ?_
      refine zk_Vv (As := [.int 2]) (rest := []) (bytes := cX7_fail) (maxL := 2) (ret := none) Z h (ze_X7_fail l D k Γ L F H.size th 2 tk Bt nt Nt σ hth ktk htk p_tb p_au (by have := br_8_13.1; have := br_8_13.2; have := bcc.1; have := bcc.2; have := bsz_.1; have := bsz_.2; have := bx_1.1; have := bx_1.2; have := bx_2.1; have := bx_2.2; have := bx_6.1; have := bx_6.2; have : (0 : Int32).toInt = 0 := (by decide); have : (2 : Int32).toInt = 2 := (by decide); have : (3 : Int32).toInt = 3 := (by decide); omega)) (cwV 1 hg zv_RX7_79 rfl rfl rfl zd_X7_fail ⟨z_leR hRf (by decide), z_leR hRl (by decide)⟩) hth (by decide) rfl rfl hl.1 rfl (Nat.le_of_ble_eq_true rfl) dX7_readPlace_36 ⟨Nat.zero_le _, Nat.zero_le _⟩ (fun F_59 H locs w_60 h hfF_59 => ?_)
      obtain ⟨q_61, -⟩ := w_60
      have c1_62 : zC1 F_59 th Nt (zfl 2 σ) := (by have h9 := q_61; rw [show (2 : Int32).toInt = 2 by decide] at h9; exact h9)
      have rc_62 : zRc (zTo Bt nt) σ [(4, 0, 0, 0)] (zfl 2 σ) [] := zRc.place2 (N := Nt) rc0_ (by have := br_8_13.1; have := br_8_13.2; have := bcc.1; have := bcc.2; have := bsz_.1; have := bsz_.2; have := bx_6.1; have := bx_6.2; have : (0 : Int32).toInt = 0 := (by decide); have : (3 : Int32).toInt = 3 := (by decide); omega) (fun i d9 e9 => by cases hinl.symm.trans e9; have h5 := q_17; rw [show x_1.toInt.toNat = iq by omega] at h5; rcases q_21 with ⟨g1, q, g2, g3⟩ | ⟨g1, g2⟩; exact ⟨q, by omega, by rw [← hpq_.2 q (by omega)]; omega⟩; exfalso; have := br_18_58.1; have := br_18_58.2; have := br_14.1; have := br_14.2; have := bx_6.1; have := bx_6.2; have := br_8_13.1; have := br_8_13.2; have := bcc.1; have := bcc.2; have := bsz_.1; have := bsz_.2; have : (0 : Int32).toInt = 0 := (by decide); have : (3 : Int32).toInt = 3 := (by decide); omega)
      have st_62 : zss σ (zfl 2 σ) := zsm.fl.ss
      have ss_62 : zsP σ (zfl 2 σ) := ss0_.trans st_62.sP
      have cc_62 : zCc Γ F F_59 th (zTo Bt nt) σ (zfl 2 σ) (0) := (cc0_.mv hfF_59 hth (by decide) (zTo_P Bt nt) zsm.fl.cs)
      generalize hσ_62 : zfl 2 σ = σ_62 at c1_62 rc_62 st_62 ss_62 cc_62
      obtain ⟨⟨x_63, kx_63, nx_63⟩, ⟨x_64, kx_64, nx_64⟩, ox_63⟩ := id c1_62
      have gx_63 := zC1.nx c1_62 hLs_.1 kx_63
      have bx_63 : zB 0 600 x_63 := ⟨by omega, by have := hLs_.2.1; omega⟩
      have bx_64 := zB.all x_64
      have mo_62 := zss.nx st_62 ox_1 ox_63
      have ad_66 := ad_5.fr hfF_59 hfu ⟨by decide, by decide⟩
      have pl_65 : zPl Γ F_59 fu σ_62 := by rw [← hσ_62]; exact zPl.fl ad_66
      refine lv_goto (tgt := 83) hx hb dX7_readPlace_39 (by decide) ?_
      have oth_67 : zOth Γ F F_59 fu := ((zOth.rf : zOth Γ F F fu).fr hfF_59 (by decide))
      subst hQ
      exact W.vret hx hb hr (fun t ht hW => ⟨⟨F_59, rfl, ⟨⟨σ_62, c1_62, rc_62, ss_62, (cc_62.w (by have := br_8_13.1; have := br_8_13.2; have := bcc.1; have := bcc.2; have := bsz_.1; have := bsz_.2; have := bx_63.1; have := bx_63.2; have := bx_64.1; have := bx_64.2; have := bx_6.1; have := bx_6.2; have : (0 : Int32).toInt = 0 := (by decide); have : (3 : Int32).toInt = 3 := (by decide); omega)), pl_65⟩, oth_67, trivial⟩, by rw [ht]; exact h.1, h.2.1, (hfF_59.w (by decide))⟩, h.2.2.F ht⟩) h.2.2.2.2 dX7_readPlace_83
  · have c_12 := z_ne c_12
    refine lv_aload_n hx hb dX7_readPlace_8 rfl (lv_at hl 0 rfl) ?_
    refine lv_iconst (v := 1) hx hb dX7_readPlace_9 (by decide) ?_
    refine zk_Vv (As := [.int 1]) (rest := []) (bytes := cX7_fail) (maxL := 2) (ret := none) Z h (ze_X7_fail l D k Γ L F H.size th 1 tk Bt nt Nt σ hth ktk htk p_tb p_au (by have := br_8.1; have := br_8.2; have := bcc.1; have := bcc.2; have := bsz_.1; have := bsz_.2; have := bx_1.1; have := bx_1.2; have := bx_2.1; have := bx_2.2; have := bx_6.1; have := bx_6.2; have : (1 : Int32).toInt = 1 := (by decide); have : (3 : Int32).toInt = 3 := (by decide); omega)) (cwV 1 hg zv_RX7_79 rfl rfl rfl zd_X7_fail ⟨z_leR hRf (by decide), z_leR hRl (by decide)⟩) hth (by decide) rfl rfl hl.1 rfl (Nat.le_of_ble_eq_true rfl) dX7_readPlace_10 ⟨Nat.zero_le _, Nat.zero_le _⟩ (fun F_68 H locs w_69 h hfF_68 => ?_)
    obtain ⟨q_70, -⟩ := w_69
    have c1_71 : zC1 F_68 th Nt (zfl 1 σ) := (by have h9 := q_70; rw [show (1 : Int32).toInt = 1 by decide] at h9; exact h9)
    have rc_71 : zRc (zTo Bt nt) σ [(4, 0, 0, 0)] (zfl 1 σ) [] := zRc.place1 (N := Nt) rc0_ (by have := br_8.1; have := br_8.2; have := bcc.1; have := bcc.2; have := bsz_.1; have := bsz_.2; have := bx_6.1; have := bx_6.2; have : (3 : Int32).toInt = 3 := (by decide); omega)
    have st_71 : zss σ (zfl 1 σ) := zsm.fl.ss
    have ss_71 : zsP σ (zfl 1 σ) := ss0_.trans st_71.sP
    have cc_71 : zCc Γ F F_68 th (zTo Bt nt) σ (zfl 1 σ) (0) := (cc0_.mv hfF_68 hth (by decide) (zTo_P Bt nt) zsm.fl.cs)
    generalize hσ_71 : zfl 1 σ = σ_71 at c1_71 rc_71 st_71 ss_71 cc_71
    obtain ⟨⟨x_72, kx_72, nx_72⟩, ⟨x_73, kx_73, nx_73⟩, ox_72⟩ := id c1_71
    have gx_72 := zC1.nx c1_71 hLs_.1 kx_72
    have bx_72 : zB 0 600 x_72 := ⟨by omega, by have := hLs_.2.1; omega⟩
    have bx_73 := zB.all x_73
    have mo_71 := zss.nx st_71 ox_1 ox_72
    have ad_75 := ad_5.fr hfF_68 hfu ⟨by decide, by decide⟩
    have pl_74 : zPl Γ F_68 fu σ_71 := by rw [← hσ_71]; exact zPl.fl ad_75
    refine lv_goto (tgt := 83) hx hb dX7_readPlace_13 (by decide) ?_
    have oth_76 : zOth Γ F F_68 fu := ((zOth.rf : zOth Γ F F fu).fr hfF_68 (by decide))
    subst hQ
    exact W.vret hx hb hr (fun t ht hW => ⟨⟨F_68, rfl, ⟨⟨σ_71, c1_71, rc_71, ss_71, (cc_71.w (by have := br_8.1; have := br_8.2; have := bcc.1; have := bcc.2; have := bsz_.1; have := bsz_.2; have := bx_72.1; have := bx_72.2; have := bx_73.1; have := bx_73.2; have := bx_6.1; have := bx_6.2; have : (3 : Int32).toInt = 3 := (by decide); omega)), pl_74⟩, oth_76, trivial⟩, by rw [ht]; exact h.1, h.2.1, (hfF_68.w (by decide))⟩, h.2.2.F ht⟩) h.2.2.2.2 dX7_readPlace_83

set_option maxHeartbeats 4000000 in
set_option maxRecDepth 100000 in
theorem ze_X7_readPlaces (l : Launch) (D : va_G) (k : Nat → ClassId) (Γ : Nat → Option Nat) (L : List Nat) (F : Nat → va_E) (sz : Nat) (th : Nat) (fu : Nat) (pr : Nat) (tk : Nat) (co : Nat) (Bt : Nat → Int32) (nt : Nat) (Nt : Nat) (cc : Int32) (σ : zSg) (pz : Int32) (hth : Γ th = some 7) (hfu : Γ fu = some 2) (kpr : zfld F th 3 = .ref pr) (hpr : Γ pr = some 6) (ktk : zfld F th 4 = .ref tk) (htk : Γ tk = some 8) (kco : zfld F th 5 = .ref co) (hco : Γ co = some 1) (p_tb : zTb Γ F tk Bt nt Nt) (kcc : zfld F th 11 = .int cc) (bcc : zB 0 150 cc) (p_au : zC1 F th Nt (σ)) (hm_ : ∀ i d9, σ = .inl (i, d9) → 4 * cc.toInt + 5 ≤ zpo Bt nt i + (0)) (kpz : zfld F fu 7 = .int pz) (bpz : zB 0 0 pz) : Met l yX7_readPlaces zwX7_readPlaces ({ frames := 3, cells := 0, slots := 0, locals := 82 }) (va_Pc [.ref th, .ref fu] (zP D k Γ L F sz)) (va_Qv (fun (u : Nat → va_E) => (∃ σ9 : zSg, zC1 u th Nt σ9 ∧ zRc (zTo Bt nt) σ [(3, 0, 0, 0)] σ9 [] ∧ zsP σ σ9 ∧ zCc Γ F u th (zTo Bt nt) σ σ9 (0) ∧ zPl Γ u fu σ9) ∧ zOth Γ F u fu ∧ True) (zQ D k Γ L F [207, 701, 702, 706, 10300]) (zA L sz)) 0 0 (zA L sz) := by
  refine Met.ofW (cc := cX7_readPlaces) (maxL := 3) (ret := none) (by decide) rfl ?_
  intro p e s m args below meth c s₁ B hml hv
  obtain ⟨rfl, hsz, hP, hK, hLn, hE, hI⟩ := hv
  have hx := B.exec
  have hb := B.bytes
  have hr := B.returns
  have hg : ∀ w ∈ zG, w.before _ s = true := fun w h9 => atoms_spec (ws := zwX7_readPlaces) B.pre w (List.mem_cons_of_mem _ h9)
  have hown : s.vm.findClass RX7 = some m.cls := findClass_of_methodNamed B.named
  have hlocks := B.notSynchronized
  subst hsz
  have Z : zC p m c cX7_readPlaces 3 s _ zG RX7 D k L := ⟨⟨hx, hb, hml, hown, hg⟩, hK, hLn, hE⟩
  have h : zH D k Γ L s F s.heap [] := ⟨hP, hI, va_S.rf⟩
  have hl := lv_entry ([.ref th, .ref fu]) (n := 3) (Nat.le_of_ble_eq_true rfl)
  rw [lg_entry_eq]
  generalize (lg_sl ([.ref th, .ref fu]) ++ List.replicate (3 - (lg_sl ([.ref th, .ref fu])).length) Slot.unset).toArray = ls at hl ⊢
  have hl : lv_has ls 3 [(0, .ref th), (1, .ref fu)] := hl
  clear hP hK hLn hE hI
  generalize hargs : ([.ref th, .ref fu] : List Value).toArray = args at *
  refine z_start (fun R Q hRf hRl hQ => ?_)
  have hRf : R.frames = 3 := hRf
  have hRl : R.locals = 82 := hRl
  have h9 := h
  have hLs_ := p_tb.2.2.2.1
  obtain ⟨sz_, ksz_, tsz_⟩ := p_tb.2.2.1
  have bsz_ : zB 1 601 sz_ := ⟨by have := hLs_.1; omega, by have := hLs_.2.1; omega⟩
  obtain ⟨⟨x_1, kx_1, nx_1⟩, ⟨x_2, kx_2, nx_2⟩, ox_1⟩ := id p_au
  have gx_1 := zC1.nx p_au hLs_.1 kx_1
  have bx_1 : zB 0 600 x_1 := ⟨by omega, by have := hLs_.2.1; omega⟩
  have bx_2 := zB.all x_2
  have ad_3 := z_ad (j := 7) (c := 106) h.2.1 hth (by decide) rfl
  have ad_4 := z_ad (j := 8) (c := 107) h.2.1 hth (by decide) rfl
  have cc0_ : zCc Γ F F th (zTo Bt nt) σ σ (0) := zCc.rf kcc bcc.1 ⟨ad_3, ad_4⟩ hm_
  have rc0_ : zRc (zTo Bt nt) σ [(3, 0, 0, 0)] σ [(3, 0, 0, 0)] := zRc.rf
  have ss0_ : zsP σ σ := zsP.rf
  refine lv_aload_n hx hb dX7_readPlaces_0 rfl (lv_at hl 0 rfl) ?_
  refine zk_Vi (As := []) (rest := []) (bytes := cX7_kind) (maxL := 2) (ret := (some .int)) Z h (ze_X7_kind l D k Γ L F s.heap.size th tk Bt nt Nt σ hth ktk htk p_tb p_au) (cwV 0 hg zv_RX7_65 rfl rfl rfl zd_X7_kind ⟨z_leR hRf (by decide), z_leR hRl (by decide)⟩) hth (by decide) rfl rfl hl.1 rfl (Nat.le_of_ble_eq_true rfl) dX7_readPlaces_1 ⟨Nat.zero_le _, Nat.zero_le _⟩ (fun r_5 F_6 H locs w_7 h hfF_6 => ?_)
  obtain ⟨rfl, q_8, -⟩ := w_7
  have br_5 := zB.all r_5
  refine lv_bipush (v := 41) hx hb dX7_readPlaces_4 (by decide) ?_
  refine lv_icmp_ne (tgt := 10) hx hb dX7_readPlaces_6 (by decide) (fun c_9 => ?_) (fun c_9 => ?_)
  · have c_9 := z_ne c_9
    have c1_10 : zC1 F th Nt (zmap (fun _ d => zadd0 d) σ) := p_au.map
    have rc_10 : zRc (zTo Bt nt) σ [(3, 0, 0, 0)] (zmap (fun _ d => zadd0 d) σ) [(4, 0, 0, 0), (5, 0, 0, 0)] := zRc.places1 (N := Nt) rc0_ (by have := br_5.1; have := br_5.2; have := bcc.1; have := bcc.2; have := bpz.1; have := bpz.2; have := bsz_.1; have := bsz_.2; have := bx_1.1; have := bx_1.2; have := bx_2.1; have := bx_2.2; have : (41 : Int32).toInt = 41 := (by decide); omega)
    have st_10 : zsP σ (zmap (fun _ d => zadd0 d) σ) := zsP.z
    have ss_10 : zsP σ (zmap (fun _ d => zadd0 d) σ) := ss0_.trans st_10
    have cc_10 : zCc Γ F F th (zTo Bt nt) σ (zmap (fun _ d => zadd0 d) σ) (0) := (cc0_.mv (zFr.rf : zFr Γ [] F F) hth (by decide) (zTo_P Bt nt) (zmap_cs (f := fun _ d => zadd0 d) (fun _ _ => rfl)))
    generalize hσ_10 : zmap (fun _ d => zadd0 d) σ = σ_10 at c1_10 rc_10 st_10 ss_10 cc_10
    obtain ⟨⟨x_11, kx_11, nx_11⟩, ⟨x_12, kx_12, nx_12⟩, ox_11⟩ := id c1_10
    have gx_11 := zC1.nx c1_10 hLs_.1 kx_11
    have bx_11 : zB 0 600 x_11 := ⟨by omega, by have := hLs_.2.1; omega⟩
    have bx_12 := zB.all x_12
    have vx_11 := congrArg Int32.toInt (z_same kx_1 kx_11)
    have mo_10 := zsP.nx st_10 ox_1 ox_11
    have ad_14 := z_ad (j := 8) (c := 103) h.2.1 hfu (by decide) rfl
    have pl_13 : zPl Γ F fu σ_10 := by rw [← hσ_10]; exact zPl.z ad_14 kpz (by have := bpz.1; have := bpz.2; have := br_5.1; have := br_5.2; have := bcc.1; have := bcc.2; have := bsz_.1; have := bsz_.2; have := bx_11.1; have := bx_11.2; have := bx_12.1; have := bx_12.2; have : (41 : Int32).toInt = 41 := (by decide); omega)
    refine lv_aload_n hx hb dX7_readPlaces_10 rfl (lv_at hl 0 rfl) ?_
    refine lv_aload_n hx hb dX7_readPlaces_11 rfl (lv_at hl 1 rfl) ?_
    refine zk_Vv (As := [.ref fu]) (rest := []) (bytes := cX7_readPlace) (maxL := 2) (ret := none) Z h (ze_X7_readPlace l D k Γ L F H.size th fu pr tk co Bt nt Nt cc σ_10 hth hfu kpr hpr ktk htk kco hco p_tb kcc bcc c1_10 (zCc.m (cc_10.w (dep' := 0) (by have := bcc.1; have := bcc.2; have := br_5.1; have := br_5.2; have := bpz.1; have := bpz.2; have := bsz_.1; have := bsz_.2; have := bx_11.1; have := bx_11.2; have := bx_12.1; have := bx_12.2; have : (41 : Int32).toInt = 41 := (by decide); omega)) kcc) pl_13) (cwV 1 hg zv_RX7_135 rfl rfl rfl zd_X7_readPlace ⟨z_leR hRf (by decide), z_leR hRl (by decide)⟩) hth (by decide) rfl rfl hl.1 rfl (Nat.le_of_ble_eq_true rfl) dX7_readPlaces_12 ⟨Nat.zero_le _, Nat.zero_le _⟩ (fun F_15 H locs w_16 h hfF_15 => ?_)
    obtain ⟨⟨σ_18, c1_18, rn_18, st_18, cn_18, pl_18⟩, q_19, -⟩ := w_16
    have rc_18 : zRc (zTo Bt nt) σ [(3, 0, 0, 0)] σ_18 [(5, 0, 0, 0)] := zRc.calls rc_10 (rn_18.x (zSy_eq (by have := bcc.1; have := bcc.2; have := br_5.1; have := br_5.2; have := bsz_.1; have := bsz_.2; have := bpz.1; have := bpz.2; have : (41 : Int32).toInt = 41 := (by decide); omega) (by have := bcc.1; have := bcc.2; have := br_5.1; have := br_5.2; have := bsz_.1; have := bsz_.2; have := bpz.1; have := bpz.2; have : (41 : Int32).toInt = 41 := (by decide); omega) (by have := bcc.1; have := bcc.2; have := br_5.1; have := br_5.2; have := bsz_.1; have := bsz_.2; have := bpz.1; have := bpz.2; have : (41 : Int32).toInt = 41 := (by decide); omega)))
    have ss_18 : zsP σ σ_18 := ss_10.trans st_18
    have cc_18 : zCc Γ F F_15 th (zTo Bt nt) σ (σ_18) (0) := zCc.call cc_10 cn_18
    obtain ⟨⟨x_20, kx_20, nx_20⟩, ⟨x_21, kx_21, nx_21⟩, ox_20⟩ := id c1_18
    have gx_20 := zC1.nx c1_18 hLs_.1 kx_20
    have bx_20 : zB 0 600 x_20 := ⟨by omega, by have := hLs_.2.1; omega⟩
    have bx_21 := zB.all x_21
    have mo_18 := zsP.nx st_18 ox_11 ox_20
    refine lv_iconst (v := 0) hx hb dX7_readPlaces_15 (by decide) ?_
    refine lv_istore_n (lv' := [(2, .int 0), (0, .ref th), (1, .ref fu)]) hx hb dX7_readPlaces_16 rfl hl (by decide) rfl (fun ls hl => ?_)
    have j_j17_22 : ∀ (n : Nat) (ls : Array Slot) (y2_j17_22 : Int32) (σ_j17_22 : zSg) (F_23 : Nat → va_E) (H : Heap) (locs : List Loc), lv_has ls 3 [(2, .int y2_j17_22), (0, .ref th), (1, .ref fu)] → zB 0 601 y2_j17_22 → zH D k Γ L s F_23 H locs → zFr Γ [207, 701, 702, 706, 10300] F_15 F_23 → (y2_j17_22.toInt ≤ znx Nt σ_j17_22) → (zOth Γ F F_23 fu) → zC1 F_23 th Nt (σ_j17_22) → zRc (zTo Bt nt) σ [(3, 0, 0, 0)] σ_j17_22 [(5, 0, 0, 0)] → zsP σ σ_j17_22 → zCc Γ F F_23 th (zTo Bt nt) σ (σ_j17_22) (0) → zPl Γ F_23 fu σ_j17_22 → (2147483647 - y2_j17_22.toInt).toNat = n → W p l e R s m args below meth c H locs 0 0 Q (F0 m 17 ls []) := by
      intro n
      induction n using Nat.strongRecOn with
      | _ n ih_j17_22 =>
        intro ls y2_j17_22 σ_j17_22 F_23 H locs hl by2_j17_22 h hfF_23 r0_j17_22 r1_j17_22 c1_j17_22 rc_j17_22 ss_j17_22 cc_j17_22 pl_j17_22 hn_j17_22
        obtain ⟨⟨x_24, kx_24, nx_24⟩, ⟨x_25, kx_25, nx_25⟩, ox_24⟩ := id c1_j17_22
        have gx_24 := zC1.nx c1_j17_22 hLs_.1 kx_24
        have bx_24 : zB 0 600 x_24 := ⟨by omega, by have := hLs_.2.1; omega⟩
        have bx_25 := zB.all x_25
        refine lv_iload_n hx hb dX7_readPlaces_17 rfl (lv_at hl 0 rfl) ?_
        refine lv_aload_n hx hb dX7_readPlaces_18 rfl (lv_at hl 1 rfl) ?_
        refine zt_getk (t := 7) (C := RX7) (T := TX7) (N := 12) Z h hth zin_7 rfl 4 (hfF_23.f hth 4 ⟨by decide, by decide⟩ (hfF_15.f hth 4 ⟨by decide, by decide⟩ ktk)) ⟨by decide, rfl, by decide⟩ (zm_RX7 (List.mem_of_getElem? (i := 4) rfl)) (fun _ h9 => h9) dX7_readPlaces_19 ?_
        refine zt_getk (t := 8) (C := RX8) (T := TX8) (N := 6) Z h htk zin_8 rfl 5 (hfF_23.f htk 5 ⟨by decide, by decide⟩ (hfF_15.f htk 5 ⟨by decide, by decide⟩ ksz_)) ⟨by decide, rfl, by decide⟩ (zm_RX7 (List.mem_of_getElem? (i := 56) rfl)) (fun _ h9 => h9) dX7_readPlaces_22 ?_
        refine lv_icmp_ge (tgt := 58) hx hb dX7_readPlaces_25 (by decide) (fun c_26 => ?_) (fun c_26 => ?_)
        · have c_26 := z_le c_26
          have by2_j17_22_27 : zB 1 601 y2_j17_22 := zB.leR c_26 bsz_ by2_j17_22 (by decide)
          exfalso
          have := by2_j17_22_27.1; have := by2_j17_22_27.2; have := bx_24.1; have := bx_24.2; have := br_5.1; have := br_5.2; have := bcc.1; have := bcc.2; have := bsz_.1; have := bsz_.2; have := bx_25.1; have := bx_25.2; have := bpz.1; have := bpz.2; have : (41 : Int32).toInt = 41 := (by decide); omega
        · have c_26 := z_nle c_26
          have by2_j17_22_28 : zB 0 600 y2_j17_22 := zB.ltL c_26 by2_j17_22 bsz_ (by decide)
          refine lv_aload_n hx hb dX7_readPlaces_28 rfl (lv_at hl 1 rfl) ?_
          have p_29 := ((p_tb.fr hfF_15 htk (by decide)).fr hfF_23 htk (by decide))
          refine zk_Vi (As := []) (rest := []) (bytes := cX7_kind) (maxL := 2) (ret := (some .int)) Z h (ze_X7_kind l D k Γ L F_23 H.size th tk Bt nt Nt σ_j17_22 hth (hfF_23.f hth 4 ⟨by decide, by decide⟩ (hfF_15.f hth 4 ⟨by decide, by decide⟩ ktk)) htk p_29 c1_j17_22) (cwV 0 hg zv_RX7_65 rfl rfl rfl zd_X7_kind ⟨z_leR hRf (by decide), z_leR hRl (by decide)⟩) hth (by decide) rfl rfl hl.1 rfl (Nat.le_of_ble_eq_true rfl) dX7_readPlaces_29 ⟨Nat.zero_le _, Nat.zero_le _⟩ (fun r_30 F_31 H locs w_32 h hfF_31 => ?_)
          obtain ⟨rfl, q_33, -⟩ := w_32
          have br_30 := zB.all r_30
          refine lv_bipush (v := 44) hx hb dX7_readPlaces_32 (by decide) ?_
          refine lv_icmp_ne (tgt := 58) hx hb dX7_readPlaces_34 (by decide) (fun c_34 => ?_) (fun c_34 => ?_)
          · have c_34 := z_ne c_34
            have rc_35 : zRc (zTo Bt nt) σ [(3, 0, 0, 0)] σ_j17_22 [] := zRc.placeT0 (N := Nt) rc_j17_22 (by have := by2_j17_22_28.1; have := by2_j17_22_28.2; have := br_5.1; have := br_5.2; have := br_30.1; have := br_30.2; have := bcc.1; have := bcc.2; have := bsz_.1; have := bsz_.2; have := bx_24.1; have := bx_24.2; have := bx_25.1; have := bx_25.2; have := bpz.1; have := bpz.2; have : (41 : Int32).toInt = 41 := (by decide); have : (44 : Int32).toInt = 44 := (by decide); omega)
            have oth_36 : zOth Γ F F_23 fu := r1_j17_22
            subst hQ
            exact W.vret hx hb hr (fun t ht hW => ⟨⟨F_23, rfl, ⟨⟨σ_j17_22, c1_j17_22, rc_35, ss_j17_22, (cc_j17_22.w (by have := by2_j17_22_28.1; have := by2_j17_22_28.2; have := br_5.1; have := br_5.2; have := br_30.1; have := br_30.2; have := bcc.1; have := bcc.2; have := bsz_.1; have := bsz_.2; have := bx_24.1; have := bx_24.2; have := bx_25.1; have := bx_25.2; have := bpz.1; have := bpz.2; have : (41 : Int32).toInt = 41 := (by decide); have : (44 : Int32).toInt = 44 := (by decide); omega)), pl_j17_22⟩, oth_36, trivial⟩, by rw [ht]; exact h.1, h.2.1, (hfF_15.trans hfF_23 (by decide))⟩, h.2.2.F ht⟩) h.2.2.2.2 dX7_readPlaces_58
          · have c_34 := z_eq c_34
            have br_30_37 : zB 44 44 r_30 := zB.eqL (a := 0) (b := 0) c_34 (zBc 44 44 (by decide))
            refine lv_aload_n hx hb dX7_readPlaces_37 rfl (lv_at hl 1 rfl) ?_
            refine lv_dup hx hb dX7_readPlaces_38 rfl ?_
            refine zt_getk (t := 7) (C := RX7) (T := TX7) (N := 12) Z h hth zin_7 rfl 6 kx_24 ⟨by decide, rfl, by decide⟩ (zm_RX7 (List.mem_of_getElem? (i := 9) rfl)) (fun _ h9 => h9) dX7_readPlaces_39 ?_
            refine lv_iconst (v := 1) hx hb dX7_readPlaces_42 (by decide) ?_
            refine lv_iadd hx hb dX7_readPlaces_43 ?_
            refine zi_add (lo := 1) (hi := 601) bx_24 (zBc 1 1 (by decide)) (by decide) (fun x_38 bx_38 tx_38 => ?_)
            refine zt_put (t := 7) (C := RX7) (T := TX7) (N := 12) (v := .int x_38) Z h hth zin_7 tyX7 tyX7_ok nmX7 rfl 6 rfl ⟨by decide, rfl⟩ (zm_RX7 (List.mem_of_getElem? (i := 9) rfl)) (fun _ h9 => h9) rfl (zV.i (bx_38.w ⟨by decide, by decide⟩)) rfl rfl dX7_readPlaces_44 (fun H locs F_39 h hfF_39 kF_39 => ?_)
            have c1_40 : zC1 F_39 th Nt (zadv σ_j17_22) := (zC1.adv (T := zTo Bt nt) c1_j17_22 hfF_39 hth (by decide) kx_24 kF_39 (by have := by2_j17_22_28.1; have := by2_j17_22_28.2; have := bx_24.1; have := bx_24.2; have := br_5.1; have := br_5.2; have := br_30_37.1; have := br_30_37.2; have := bcc.1; have := bcc.2; have := bsz_.1; have := bsz_.2; have := bx_38.1; have := bx_38.2; have := bx_25.1; have := bx_25.2; have := bpz.1; have := bpz.2; have : (1 : Int32).toInt = 1 := (by decide); have : (41 : Int32).toInt = 41 := (by decide); have : (44 : Int32).toInt = 44 := (by decide); omega) hLs_ ⟨by have := by2_j17_22_28.1; have := by2_j17_22_28.2; have := bx_24.1; have := bx_24.2; have := br_5.1; have := br_5.2; have := br_30_37.1; have := br_30_37.2; have := bcc.1; have := bcc.2; have := bsz_.1; have := bsz_.2; have := bx_38.1; have := bx_38.2; have := bx_25.1; have := bx_25.2; have := bpz.1; have := bpz.2; have : (1 : Int32).toInt = 1 := (by decide); have : (41 : Int32).toInt = 41 := (by decide); have : (44 : Int32).toInt = 44 := (by decide); omega, by have := by2_j17_22_28.1; have := by2_j17_22_28.2; have := bx_24.1; have := bx_24.2; have := br_5.1; have := br_5.2; have := br_30_37.1; have := br_30_37.2; have := bcc.1; have := bcc.2; have := bsz_.1; have := bsz_.2; have := bx_38.1; have := bx_38.2; have := bx_25.1; have := bx_25.2; have := bpz.1; have := bpz.2; have : (1 : Int32).toInt = 1 := (by decide); have : (41 : Int32).toInt = 41 := (by decide); have : (44 : Int32).toInt = 44 := (by decide); omega⟩)
            have rc_40 : zRc (zTo Bt nt) σ [(3, 0, 0, 0)] (zadv σ_j17_22) [(4, 0, 0, 0), (5, 0, 0, 0)] := zRc.placeT1 (N := Nt) rc_j17_22 (by have := by2_j17_22_28.1; have := by2_j17_22_28.2; have := br_5.1; have := br_5.2; have := br_30_37.1; have := br_30_37.2; have := bcc.1; have := bcc.2; have := bsz_.1; have := bsz_.2; have := bx_38.1; have := bx_38.2; have := bx_25.1; have := bx_25.2; have := bpz.1; have := bpz.2; have : (1 : Int32).toInt = 1 := (by decide); have : (41 : Int32).toInt = 41 := (by decide); have : (44 : Int32).toInt = 44 := (by decide); omega)
            have st_40 : zss σ_j17_22 (zadv σ_j17_22) := zsm.adv.ss
            have ss_40 : zsP σ (zadv σ_j17_22) := ss_j17_22.trans st_40.sP
            have cc_40 : zCc Γ F F_39 th (zTo Bt nt) σ (zadv σ_j17_22) (0) := (cc_j17_22.mv hfF_39 hth (by decide) (zTo_P Bt nt) zsm.adv.cs)
            generalize hσ_40 : zadv σ_j17_22 = σ_40 at c1_40 rc_40 st_40 ss_40 cc_40
            obtain ⟨⟨x_41, kx_41, nx_41⟩, ⟨x_42, kx_42, nx_42⟩, ox_41⟩ := id c1_40
            have gx_41 := zC1.nx c1_40 hLs_.1 kx_41
            have bx_41 : zB 0 600 x_41 := ⟨by omega, by have := hLs_.2.1; omega⟩
            have bx_42 := zB.all x_42
            have vx_41 := congrArg Int32.toInt (z_same kF_39 kx_41)
            have mo_40 := zss.nx st_40 ox_24 ox_41
            refine lv_aload_n hx hb dX7_readPlaces_47 rfl (lv_at hl 1 rfl) ?_
            refine lv_aload_n hx hb dX7_readPlaces_48 rfl (lv_at hl 2 rfl) ?_
            have p_43 := (p_29.fr hfF_39 htk (by decide))
            have pl_44 := ((pl_j17_22.fr hfF_39 hfu (by decide)).ss st_40)
            refine zk_Vv (As := [.ref fu]) (rest := []) (bytes := cX7_readPlace) (maxL := 2) (ret := none) Z h (ze_X7_readPlace l D k Γ L F_39 H.size th fu pr tk co Bt nt Nt cc σ_40 hth hfu (hfF_39.f hth 3 ⟨by decide, by decide⟩ (hfF_23.f hth 3 ⟨by decide, by decide⟩ (hfF_15.f hth 3 ⟨by decide, by decide⟩ kpr))) hpr (hfF_39.f hth 4 ⟨by decide, by decide⟩ (hfF_23.f hth 4 ⟨by decide, by decide⟩ (hfF_15.f hth 4 ⟨by decide, by decide⟩ ktk))) htk (hfF_39.f hth 5 ⟨by decide, by decide⟩ (hfF_23.f hth 5 ⟨by decide, by decide⟩ (hfF_15.f hth 5 ⟨by decide, by decide⟩ kco))) hco p_43 (hfF_39.f hth 11 ⟨by decide, by decide⟩ (hfF_23.f hth 11 ⟨by decide, by decide⟩ (hfF_15.f hth 11 ⟨by decide, by decide⟩ kcc))) bcc c1_40 (zCc.m (cc_40.w (dep' := 0) (by have := by2_j17_22_28.1; have := by2_j17_22_28.2; have := bcc.1; have := bcc.2; have := br_5.1; have := br_5.2; have := br_30_37.1; have := br_30_37.2; have := bsz_.1; have := bsz_.2; have := bx_41.1; have := bx_41.2; have := bx_42.1; have := bx_42.2; have := bpz.1; have := bpz.2; have : (1 : Int32).toInt = 1 := (by decide); have : (41 : Int32).toInt = 41 := (by decide); have : (44 : Int32).toInt = 44 := (by decide); omega)) (hfF_39.f hth 11 ⟨by decide, by decide⟩ (hfF_23.f hth 11 ⟨by decide, by decide⟩ (hfF_15.f hth 11 ⟨by decide, by decide⟩ kcc)))) pl_44) (cwV 1 hg zv_RX7_135 rfl rfl rfl zd_X7_readPlace ⟨z_leR hRf (by decide), z_leR hRl (by decide)⟩) hth (by decide) rfl rfl hl.1 rfl (Nat.le_of_ble_eq_true rfl) dX7_readPlaces_49 ⟨Nat.zero_le _, Nat.zero_le _⟩ (fun F_45 H locs w_46 h hfF_45 => ?_)
            obtain ⟨⟨σ_48, c1_48, rn_48, st_48, cn_48, pl_48⟩, q_49, -⟩ := w_46
            have rc_48 : zRc (zTo Bt nt) σ [(3, 0, 0, 0)] σ_48 [(5, 0, 0, 0)] := zRc.calls rc_40 (rn_48.x (zSy_eq (by have := by2_j17_22_28.1; have := by2_j17_22_28.2; have := bcc.1; have := bcc.2; have := br_5.1; have := br_5.2; have := br_30_37.1; have := br_30_37.2; have := bsz_.1; have := bsz_.2; have := bpz.1; have := bpz.2; have : (1 : Int32).toInt = 1 := (by decide); have : (41 : Int32).toInt = 41 := (by decide); have : (44 : Int32).toInt = 44 := (by decide); omega) (by have := by2_j17_22_28.1; have := by2_j17_22_28.2; have := bcc.1; have := bcc.2; have := br_5.1; have := br_5.2; have := br_30_37.1; have := br_30_37.2; have := bsz_.1; have := bsz_.2; have := bpz.1; have := bpz.2; have : (1 : Int32).toInt = 1 := (by decide); have : (41 : Int32).toInt = 41 := (by decide); have : (44 : Int32).toInt = 44 := (by decide); omega) (by have := by2_j17_22_28.1; have := by2_j17_22_28.2; have := bcc.1; have := bcc.2; have := br_5.1; have := br_5.2; have := br_30_37.1; have := br_30_37.2; have := bsz_.1; have := bsz_.2; have := bpz.1; have := bpz.2; have : (1 : Int32).toInt = 1 := (by decide); have : (41 : Int32).toInt = 41 := (by decide); have : (44 : Int32).toInt = 44 := (by decide); omega)))
            have ss_48 : zsP σ σ_48 := ss_40.trans st_48
            have cc_48 : zCc Γ F F_45 th (zTo Bt nt) σ (σ_48) (0) := zCc.call cc_40 cn_48
            obtain ⟨⟨x_50, kx_50, nx_50⟩, ⟨x_51, kx_51, nx_51⟩, ox_50⟩ := id c1_48
            have gx_50 := zC1.nx c1_48 hLs_.1 kx_50
            have bx_50 : zB 0 600 x_50 := ⟨by omega, by have := hLs_.2.1; omega⟩
            have bx_51 := zB.all x_51
            have mo_48 := zsP.nx st_48 ox_41 ox_50
            obtain ⟨x_52, ex_52, bx_52, tx_52⟩ := z_inc (n := 1) (lo := 1) (hi := 601) by2_j17_22_28 (by decide)
            refine lv_iinc (v := x_52) (lv' := [(2, .int x_52), (0, .ref th), (1, .ref fu)]) hx hb dX7_readPlaces_52 hl (k := 0) rfl ex_52 (by decide) rfl (fun ls hl => ?_)
            refine lv_goto (tgt := 17) hx hb dX7_readPlaces_55 (by decide) ?_
            have oth_53 : zOth Γ F F_45 fu := ((r1_j17_22.fr hfF_39 (by decide)).trans q_49)
            exact ih_j17_22 _ (by have := bx_52.1; have := bx_52.2; have := br_5.1; have := br_5.2; have := br_30_37.1; have := br_30_37.2; have := bcc.1; have := bcc.2; have := bsz_.1; have := bsz_.2; have := bx_50.1; have := bx_50.2; have := bx_51.1; have := bx_51.2; have := bpz.1; have := bpz.2; have : (1 : Int32).toInt = 1 := (by decide); have : (41 : Int32).toInt = 41 := (by decide); have : (44 : Int32).toInt = 44 := (by decide); have := by2_j17_22.1; have := by2_j17_22.2; omega) ls x_52 σ_48 F_45 H locs (lv_sub hl [0, 1, 2] rfl) (bx_52.w ⟨by decide, by decide⟩) h ((hfF_23.trans hfF_39 (by decide)).trans hfF_45 (by decide)) (by have := bx_52.1; have := bx_52.2; have := br_5.1; have := br_5.2; have := br_30_37.1; have := br_30_37.2; have := bcc.1; have := bcc.2; have := bsz_.1; have := bsz_.2; have := bx_50.1; have := bx_50.2; have := bx_51.1; have := bx_51.2; have := bpz.1; have := bpz.2; have : (1 : Int32).toInt = 1 := (by decide); have : (41 : Int32).toInt = 41 := (by decide); have : (44 : Int32).toInt = 44 := (by decide); omega) oth_53 c1_48 rc_48 ss_48 (cc_48.w (by have := bx_52.1; have := bx_52.2; have := br_5.1; have := br_5.2; have := br_30_37.1; have := br_30_37.2; have := bcc.1; have := bcc.2; have := bsz_.1; have := bsz_.2; have := bx_50.1; have := bx_50.2; have := bx_51.1; have := bx_51.2; have := bpz.1; have := bpz.2; have : (1 : Int32).toInt = 1 := (by decide); have : (41 : Int32).toInt = 41 := (by decide); have : (44 : Int32).toInt = 44 := (by decide); omega)) pl_48 rfl
    have oth_54 : zOth Γ F F_15 fu := ((zOth.rf : zOth Γ F F fu).trans q_19)
    exact j_j17_22 _ ls 0 σ_18 F_15 H locs (lv_sub hl [0, 1, 2] rfl) (zB.of ⟨by decide, by decide⟩) h zFr.rf (by have := br_5.1; have := br_5.2; have := bcc.1; have := bcc.2; have := bsz_.1; have := bsz_.2; have := bx_20.1; have := bx_20.2; have := bx_21.1; have := bx_21.2; have := bpz.1; have := bpz.2; have : (0 : Int32).toInt = 0 := (by decide); have : (41 : Int32).toInt = 41 := (by decide); omega) oth_54 c1_18 rc_18 ss_18 (cc_18.w (by have := br_5.1; have := br_5.2; have := bcc.1; have := bcc.2; have := bsz_.1; have := bsz_.2; have := bx_20.1; have := bx_20.2; have := bx_21.1; have := bx_21.2; have := bpz.1; have := bpz.2; have : (0 : Int32).toInt = 0 := (by decide); have : (41 : Int32).toInt = 41 := (by decide); omega)) pl_18 rfl
  · have c_9 := z_eq c_9
    have br_5_55 : zB 41 41 r_5 := zB.eqL (a := 0) (b := 0) c_9 (zBc 41 41 (by decide))
    have c1_56 : zC1 F th Nt (zmap (fun _ d => zadd0 d) σ) := p_au.map
    have rc_56 : zRc (zTo Bt nt) σ [(3, 0, 0, 0)] (zmap (fun _ d => zadd0 d) σ) [] := zRc.places0 (N := Nt) rc0_ (by have := br_5_55.1; have := br_5_55.2; have := bcc.1; have := bcc.2; have := bpz.1; have := bpz.2; have := bsz_.1; have := bsz_.2; have := bx_1.1; have := bx_1.2; have := bx_2.1; have := bx_2.2; have : (41 : Int32).toInt = 41 := (by decide); omega)
    have st_56 : zsP σ (zmap (fun _ d => zadd0 d) σ) := zsP.z
    have ss_56 : zsP σ (zmap (fun _ d => zadd0 d) σ) := ss0_.trans st_56
    have cc_56 : zCc Γ F F th (zTo Bt nt) σ (zmap (fun _ d => zadd0 d) σ) (0) := (cc0_.mv (zFr.rf : zFr Γ [] F F) hth (by decide) (zTo_P Bt nt) (zmap_cs (f := fun _ d => zadd0 d) (fun _ _ => rfl)))
    generalize hσ_56 : zmap (fun _ d => zadd0 d) σ = σ_56 at c1_56 rc_56 st_56 ss_56 cc_56
    obtain ⟨⟨x_57, kx_57, nx_57⟩, ⟨x_58, kx_58, nx_58⟩, ox_57⟩ := id c1_56
    have gx_57 := zC1.nx c1_56 hLs_.1 kx_57
    have bx_57 : zB 0 600 x_57 := ⟨by omega, by have := hLs_.2.1; omega⟩
    have bx_58 := zB.all x_58
    have vx_57 := congrArg Int32.toInt (z_same kx_1 kx_57)
    have mo_56 := zsP.nx st_56 ox_1 ox_57
    have ad_60 := z_ad (j := 8) (c := 103) h.2.1 hfu (by decide) rfl
    have pl_59 : zPl Γ F fu σ_56 := by rw [← hσ_56]; exact zPl.z ad_60 kpz (by have := bpz.1; have := bpz.2; have := br_5_55.1; have := br_5_55.2; have := bcc.1; have := bcc.2; have := bsz_.1; have := bsz_.2; have := bx_57.1; have := bx_57.2; have := bx_58.1; have := bx_58.2; have : (41 : Int32).toInt = 41 := (by decide); omega)
    have oth_61 : zOth Γ F F fu := (zOth.rf : zOth Γ F F fu)
    subst hQ
    exact W.vret hx hb hr (fun t ht hW => ⟨⟨F, rfl, ⟨⟨σ_56, c1_56, rc_56, ss_56, (cc_56.w (by have := br_5_55.1; have := br_5_55.2; have := bcc.1; have := bcc.2; have := bpz.1; have := bpz.2; have := bsz_.1; have := bsz_.2; have := bx_57.1; have := bx_57.2; have := bx_58.1; have := bx_58.2; have : (41 : Int32).toInt = 41 := (by decide); omega)), pl_59⟩, oth_61, trivial⟩, by rw [ht]; exact h.1, h.2.1, zFr.rf⟩, h.2.2.F ht⟩) h.2.2.2.2 dX7_readPlaces_9
