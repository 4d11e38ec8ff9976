set_option maxHeartbeats 4000000 in
set_option maxRecDepth 100000 in
theorem ze_X6_functionNamed (l : Launch) (D : va_G) (k : Nat → ClassId) (Γ : Nat → Option Nat) (L : List Nat) (F : Nat → va_E) (sz : Nat) (pr : Nat) (tk : Nat) (tq : Int32) (Bt : Nat → Int32) (nt : Nat) (Nt : Nat) (fa : Nat → Nat) (iq : Nat) (dq : zDat) (hpr : Γ pr = some 6) (htk : Γ tk = some 8) (ke_pr_0 : zfld F pr 0 = .ref tk) (p_tb : zTb Γ F tk Bt nt Nt) (hr0 : zC3w Γ F pr fa (zTo Bt nt) Nt (.inl (iq, dq))) (hr1 : 0 ≤ tq.toInt ∧ tq.toInt < Nt ∧ (zTo Bt nt).1 tq.toInt.toNat = 4) : Met l yX6_functionNamed zwX6_functionNamed ({ frames := 3, cells := 0, slots := 0, locals := 67 }) (va_Pc [.ref pr, .ref tk, .int tq] (zP D k Γ L F sz)) (va_Qi (fun (r : Int32) (u : Nat → va_E) => F = u ∧ zB (-1) 9 r ∧ r.toInt = zfi (zfind (zTo Bt nt).2.2 (znm dq) ((zTo Bt nt).2.2 tq.toInt.toNat) (zfc dq)) ∧ True) (zQ D k Γ L F []) (zA L sz)) 0 0 (zA L sz) := by
  refine Met.ofW (cc := cX6_functionNamed) (maxL := 4) (ret := (some .int)) (by decide) rfl ?_
  intro p e s m args below meth c s₁ B hml hv
  obtain ⟨rfl, hsz, hP, hK, hLn, hE, hI⟩ := hv
  have hx := B.exec
  have hb := B.bytes
  have hr := B.returns
  have hg : ∀ w ∈ zG, w.before _ s = true := fun w h9 => atoms_spec (ws := zwX6_functionNamed) B.pre w (List.mem_cons_of_mem _ h9)
  have hown : s.vm.findClass RX6 = some m.cls := findClass_of_methodNamed B.named
  have hlocks := B.notSynchronized
  subst hsz
  have Z : zC p m c cX6_functionNamed 4 s _ zG RX6 D k L := ⟨⟨hx, hb, hml, hown, hg⟩, hK, hLn, hE⟩
  have h : zH D k Γ L s F s.heap [] := ⟨hP, hI, va_S.rf⟩
  have hl := lv_entry ([.ref pr, .ref tk, .int tq]) (n := 4) (Nat.le_of_ble_eq_true rfl)
  rw [lg_entry_eq]
  generalize (lg_sl ([.ref pr, .ref tk, .int tq]) ++ List.replicate (4 - (lg_sl ([.ref pr, .ref tk, .int tq])).length) Slot.unset).toArray = ls at hl ⊢
  have hl : lv_has ls 4 [(0, .ref pr), (1, .ref tk), (2, .int tq)] := hl
  clear hP hK hLn hE hI
  generalize hargs : ([.ref pr, .ref tk, .int tq] : List Value).toArray = args at *
  refine z_start (fun R Q hRf hRl hQ => ?_)
  have hRf : R.frames = 3 := hRf
  have hRl : R.locals = 67 := hRl
  have h9 := h
  obtain ⟨⟨fc_, kfc_, tfc_⟩, hfc10, hall_⟩ := hr0.2 iq dq rfl
  have bfc_ : zB 0 10 fc_ := ⟨by omega, by omega⟩
  refine lv_iconst (v := 0) hx hb dX6_functionNamed_0 (by decide) ?_
  refine lv_istore_n (lv' := [(3, .int 0), (0, .ref pr), (1, .ref tk), (2, .int tq)]) hx hb dX6_functionNamed_1 rfl hl (by decide) rfl (fun ls hl => ?_)
  have j_j2_1 : ∀ (n : Nat) (ls : Array Slot) (y3_j2_1 : Int32) (H : Heap) (locs : List Loc), lv_has ls 4 [(3, .int y3_j2_1), (0, .ref pr), (1, .ref tk), (2, .int tq)] → zB 0 10 y3_j2_1 → zH D k Γ L s F H locs → (y3_j2_1.toInt ≤ fc_.toInt) → (zfind (zTo Bt nt).2.2 (znm dq) ((zTo Bt nt).2.2 tq.toInt.toNat) y3_j2_1.toInt.toNat = none) → (2147483647 - y3_j2_1.toInt).toNat = n → W p l e R s m args below meth c H locs 0 0 Q (F0 m 2 ls []) := by
    intro n
    induction n using Nat.strongRecOn with
    | _ n ih_j2_1 =>
      intro ls y3_j2_1 H locs hl by3_j2_1 h r0_j2_1 r1_j2_1 hn_j2_1
      refine lv_iload_n hx hb dX6_functionNamed_2 rfl (lv_at hl 0 rfl) ?_
      refine lv_aload_n hx hb dX6_functionNamed_3 rfl (lv_at hl 1 rfl) ?_
      refine zt_getk (t := 6) (C := RX6) (T := TX6) (N := 6) Z h hpr zin_6 rfl 4 kfc_ ⟨by decide, rfl, by decide⟩ (zm_RX6 (List.mem_of_getElem? (i := 6) rfl)) (fun _ h9 => h9) dX6_functionNamed_4 ?_
      refine lv_icmp_ge (tgt := 48) hx hb dX6_functionNamed_7 (by decide) (fun c_2 => ?_) (fun c_2 => ?_)
      · have c_2 := z_le c_2
        refine lv_iconst (v := (-1)) hx hb dX6_functionNamed_48 (by decide) ?_
        subst hQ
        exact W.iret (v := (-1)) hx hb hr (fun t ht hW => ⟨⟨(-1), F, rfl, ⟨rfl, (zB.of ⟨by decide, by decide⟩), (by rw [show zfc dq = y3_j2_1.toInt.toNat by have := by3_j2_1.1; have := by3_j2_1.2; have := (zB.all tq).1; have := (zB.all tq).2; have := bfc_.1; have := bfc_.2; have : ((-1) : Int32).toInt = (-1) := (by decide); omega, r1_j2_1]; decide), trivial⟩, by rw [ht]; exact h.1, h.2.1, zFr.rf⟩, h.2.2.F ht⟩) h.2.2.2.2 dX6_functionNamed_49
      · have c_2 := z_nle c_2
        have by3_j2_1_3 : zB 0 9 y3_j2_1 := zB.ltL c_2 by3_j2_1 bfc_ (by decide)
        have bfc__4 : zB 1 10 fc_ := zB.ltR c_2 by3_j2_1 bfc_ (by decide)
        refine lv_iload_n hx hb dX6_functionNamed_10 rfl (lv_at hl 0 rfl) ?_
        refine lv_aload_n hx hb dX6_functionNamed_11 rfl (lv_at hl 1 rfl) ?_
        refine zt_getr (t := 6) (C := RX6) (T := TX6) (N := 6) Z h hpr zin_6 rfl 2 rfl ⟨by decide, rfl⟩ (zm_RX6 (List.mem_of_getElem? (i := 11) rfl)) (fun _ h9 => h9) dX6_functionNamed_12 (fun a_5 ka_5 ha_5 => ?_)
        refine zt_alen (t := 104) Z h ha_5 ⟨by decide, rfl⟩ (by decide) (v := 10) rfl dX6_functionNamed_15 ?_
        refine lv_icmp_ge (tgt := 48) hx hb dX6_functionNamed_16 (by decide) (fun c_6 => ?_) (fun c_6 => ?_)
        · have c_6 := z_le c_6
          exact zB.noLe c_6 (zBc 10 10 (by decide)) by3_j2_1_3 (by decide)
        · have c_6 := z_nle c_6
          refine lv_aload_n hx hb dX6_functionNamed_19 rfl (lv_at hl 1 rfl) ?_
          refine zt_getk (t := 6) (C := RX6) (T := TX6) (N := 6) Z h hpr zin_6 rfl 0 ke_pr_0 ⟨by decide, rfl, by decide⟩ (zm_RX6 (List.mem_of_getElem? (i := 20) rfl)) (fun _ h9 => h9) dX6_functionNamed_20 ?_
          refine lv_aload_n hx hb dX6_functionNamed_23 rfl (lv_at hl 1 rfl) ?_
          refine zt_getk (t := 6) (C := RX6) (T := TX6) (N := 6) Z h hpr zin_6 rfl 2 ka_5 ⟨by decide, rfl, by decide⟩ (zm_RX6 (List.mem_of_getElem? (i := 11) rfl)) (fun _ h9 => h9) dX6_functionNamed_24 ?_
          refine lv_iload_n hx hb dX6_functionNamed_27 rfl (lv_at hl 0 rfl) ?_
          refine zt_aalde (t := 104) (t1 := 2) Z h ha_5 ⟨by decide, rfl⟩ (by decide) by3_j2_1_3 ⟨by decide, by decide⟩ dX6_functionNamed_28 (fun a_7 ea_7 ha_7 => ?_)
          have hb_ := zPS.at hr0.1 ka_5 ea_7 ⟨by have := by3_j2_1_3.1; have := by3_j2_1_3.2; have := (zB.all tq).1; have := (zB.all tq).2; have := bfc__4.1; have := bfc__4.2; have : (10 : Int32).toInt = 10 := (by decide); omega, by have := by3_j2_1_3.1; have := by3_j2_1_3.2; have := (zB.all tq).1; have := (zB.all tq).2; have := bfc__4.1; have := bfc__4.2; have : (10 : Int32).toInt = 10 := (by decide); omega⟩
          obtain ⟨⟨y_, ky_, ty_⟩, -, ⟨hK_, hN_⟩, -⟩ := hall_ y3_j2_1.toInt.toNat (by have := by3_j2_1_3.1; have := by3_j2_1_3.2; have := (zB.all tq).1; have := (zB.all tq).2; have := bfc__4.1; have := bfc__4.2; have : (10 : Int32).toInt = 10 := (by decide); omega)
          rw [← hb_] at ky_
          have by_ := zB.all y_
          refine zt_getk (t := 2) (C := RX2) (T := TX2) (N := 9) Z h ha_7 zin_2 rfl 0 ky_ ⟨by decide, rfl, by decide⟩ (zm_RX6 (List.mem_of_getElem? (i := 21) rfl)) (fun _ h9 => h9) dX6_functionNamed_29 ?_
          refine lv_aload_n hx hb dX6_functionNamed_32 rfl (lv_at hl 2 rfl) ?_
          refine lv_iload_n hx hb dX6_functionNamed_33 rfl (lv_at hl 3 rfl) ?_
          refine zk_Vi (As := [.int y_, .ref tk, .int tq]) (rest := []) (bytes := cX8_isLike) (maxL := 5) (ret := (some .boolean)) Z h (ze_X8_isLike l D k Γ L F H.size tk y_ tk tq Bt nt Nt Bt nt Nt htk htk p_tb p_tb ⟨by have := by3_j2_1_3.1; have := by3_j2_1_3.2; have := (zB.all tq).1; have := (zB.all tq).2; have := by_.1; have := by_.2; have := bfc__4.1; have := bfc__4.2; have : (10 : Int32).toInt = 10 := (by decide); omega, by have := by3_j2_1_3.1; have := by3_j2_1_3.2; have := (zB.all tq).1; have := (zB.all tq).2; have := by_.1; have := by_.2; have := bfc__4.1; have := bfc__4.2; have : (10 : Int32).toInt = 10 := (by decide); omega, by rw [show y_.toInt.toNat = znm dq y3_j2_1.toInt.toNat by omega]; exact hK_⟩ hr1) (cwV 3 hg zv_RX6_64 rfl rfl rfl zd_X8_isLike ⟨z_leR hRf (by decide), z_leR hRl (by decide)⟩) htk (by decide) rfl rfl hl.1 rfl (Nat.le_of_ble_eq_true rfl) dX6_functionNamed_34 ⟨Nat.zero_le _, Nat.zero_le _⟩ (fun r_8 F_9 H locs w_10 h hfF_9 => ?_)
          obtain ⟨rfl, br_8, q_11, -⟩ := w_10
          refine lv_if_eq (tgt := 42) hx hb dX6_functionNamed_37 (by decide) (fun c_12 => ?_) (fun c_12 => ?_)
          · have c_12 := z_eq c_12
            have br_8_13 : zB 0 0 r_8 := zB.eqL (a := 0) (b := 0) c_12 (zBc 0 0 (by decide))
            obtain ⟨x_14, ex_14, bx_14, tx_14⟩ := z_inc (n := 1) (lo := 1) (hi := 10) by3_j2_1_3 (by decide)
            refine lv_iinc (v := x_14) (lv' := [(3, .int x_14), (0, .ref pr), (1, .ref tk), (2, .int tq)]) hx hb dX6_functionNamed_42 hl (k := 0) rfl ex_14 (by decide) rfl (fun ls hl => ?_)
            refine lv_goto (tgt := 2) hx hb dX6_functionNamed_45 (by decide) ?_
            exact ih_j2_1 _ (by have := bx_14.1; have := bx_14.2; have := (zB.all tq).1; have := (zB.all tq).2; have := bfc__4.1; have := bfc__4.2; have := by_.1; have := by_.2; have : (0 : Int32).toInt = 0 := (by decide); have : (10 : Int32).toInt = 10 := (by decide); have := by3_j2_1.1; have := by3_j2_1.2; omega) ls x_14 H locs (lv_sub hl [0, 1, 2, 3] rfl) (bx_14.w ⟨by decide, by decide⟩) h (by have := bx_14.1; have := bx_14.2; have := (zB.all tq).1; have := (zB.all tq).2; have := bfc__4.1; have := bfc__4.2; have := by_.1; have := by_.2; have : (0 : Int32).toInt = 0 := (by decide); have : (10 : Int32).toInt = 10 := (by decide); omega) (by rw [show x_14.toInt.toNat = y3_j2_1.toInt.toNat + 1 by have := bx_14.1; have := bx_14.2; have := (zB.all tq).1; have := (zB.all tq).2; have := by3_j2_1_3.1; have := by3_j2_1_3.2; have := bfc__4.1; have := bfc__4.2; have := by_.1; have := by_.2; have : (0 : Int32).toInt = 0 := (by decide); have : (10 : Int32).toInt = 10 := (by decide); omega, zfind_s r1_j2_1]; exact if_neg (by have h7 := q_11; have h8 : (zTo Bt nt).2.2 y_.toInt.toNat ≠ (zTo Bt nt).2.2 tq.toInt.toNat := (by rcases h7 with ⟨g1, g2⟩ | ⟨g1, g2⟩; exfalso; have := bx_14.1; have := bx_14.2; have := (zB.all tq).1; have := (zB.all tq).2; have := br_8_13.1; have := br_8_13.2; have := bfc__4.1; have := bfc__4.2; have := by_.1; have := by_.2; have : (0 : Int32).toInt = 0 := (by decide); have : (10 : Int32).toInt = 10 := (by decide); omega; exact g2); rw [show y_.toInt.toNat = znm dq y3_j2_1.toInt.toNat by omega] at h8; exact h8)) rfl
          · have c_12 := z_ne c_12
            have br_8_15 : zB 1 1 r_8 := zB.neLo c_12 br_8 (zBc 0 0 (by decide)) (by decide)
            refine lv_iload_n hx hb dX6_functionNamed_40 rfl (lv_at hl 0 rfl) ?_
            subst hQ
            exact W.iret (v := y3_j2_1) hx hb hr (fun t ht hW => ⟨⟨y3_j2_1, F, rfl, ⟨rfl, (by3_j2_1_3.w ⟨by decide, by decide⟩), (by rw [zfind_k (n := y3_j2_1.toInt.toNat + 1) (f := y3_j2_1.toInt.toNat) (by rw [zfind_s r1_j2_1]; exact if_pos (by have h7 := q_11; have h8 : (zTo Bt nt).2.2 y_.toInt.toNat = (zTo Bt nt).2.2 tq.toInt.toNat := (by rcases h7 with ⟨g1, g2⟩ | ⟨g1, g2⟩; exact g2; exfalso; have := by3_j2_1_3.1; have := by3_j2_1_3.2; have := (zB.all tq).1; have := (zB.all tq).2; have := br_8_15.1; have := br_8_15.2; have := bfc__4.1; have := bfc__4.2; have := by_.1; have := by_.2; have : (0 : Int32).toInt = 0 := (by decide); have : (10 : Int32).toInt = 10 := (by decide); omega); rw [show y_.toInt.toNat = znm dq y3_j2_1.toInt.toNat by omega] at h8; exact h8)) (zfc dq) (by have := by3_j2_1_3.1; have := by3_j2_1_3.2; have := (zB.all tq).1; have := (zB.all tq).2; have := bfc__4.1; have := bfc__4.2; have := by_.1; have := by_.2; have : (0 : Int32).toInt = 0 := (by decide); have : (10 : Int32).toInt = 10 := (by decide); omega)]; show y3_j2_1.toInt = ((y3_j2_1.toInt.toNat : Nat) : Int); have := by3_j2_1_3.1; have := by3_j2_1_3.2; have := (zB.all tq).1; have := (zB.all tq).2; have := bfc__4.1; have := bfc__4.2; have := by_.1; have := by_.2; have : (0 : Int32).toInt = 0 := (by decide); have : (10 : Int32).toInt = 10 := (by decide); omega), trivial⟩, by rw [ht]; exact h.1, h.2.1, zFr.rf⟩, h.2.2.F ht⟩) h.2.2.2.2 dX6_functionNamed_41
  exact j_j2_1 _ ls 0 s.heap [] (lv_sub hl [0, 1, 2, 3] rfl) (zB.of ⟨by decide, by decide⟩) h (by have := (zB.all tq).1; have := (zB.all tq).2; have := bfc_.1; have := bfc_.2; have : (0 : Int32).toInt = 0 := (by decide); omega) (by rw [show (0 : Int32).toInt.toNat = 0 by decide]; rfl) rfl

set_option maxHeartbeats 4000000 in
set_option maxRecDepth 100000 in
theorem ze_X2_begin (l : Launch) (D : va_G) (k : Nat → ClassId) (Γ : Nat → Option Nat) (L : List Nat) (F : Nat → va_E) (sz : Nat) (fu : Nat) (to : Int32) (li : Int32) (ac : Int32) (hfu : Γ fu = some 2) (bto : zB (-1) 601 to) (bli : zB 0 60 li) : Met l yX2_begin zwX2_begin ({ frames := 0, cells := 0, slots := 0, locals := 0 }) (va_Pc [.ref fu, .int to, .int li, .int ac] (zP D k Γ L F sz)) (va_Qv (fun (u : Nat → va_E) => (∃ x, zfld u fu 7 = .int x ∧ zB 0 0 x) ∧ (∃ (t9 : Int32) (l9 : Int32) (k9 : Int32), zfld u fu 1 = .int t9 ∧ zB (-1) 601 t9 ∧ zfld u fu 3 = .int l9 ∧ zB 0 60 l9 ∧ zfld u fu 6 = .int k9 ∧ zB 0 0 k9 ∧ (t9.toInt = to.toInt ∧ l9.toInt = li.toInt)) ∧ zOth Γ F u fu ∧ True) (zQ D k Γ L F [201, 203, 205, 206, 207]) (zA L sz)) 0 0 (zA L sz) := by
  refine Met.ofW (cc := cX2_begin) (maxL := 4) (ret := none) (by decide) rfl ?_
  intro p e s m args below meth c s₁ B hml hv
  obtain ⟨rfl, hsz, hP, hK, hLn, hE, hI⟩ := hv
  have hx := B.exec
  have hb := B.bytes
  have hr := B.returns
  have hg : ∀ w ∈ zG, w.before _ s = true := fun w h9 => atoms_spec (ws := zwX2_begin) B.pre w (List.mem_cons_of_mem _ h9)
  have hown : s.vm.findClass RX2 = some m.cls := findClass_of_methodNamed B.named
  have hlocks := B.notSynchronized
  subst hsz
  have Z : zC p m c cX2_begin 4 s _ zG RX2 D k L := ⟨⟨hx, hb, hml, hown, hg⟩, hK, hLn, hE⟩
  have h : zH D k Γ L s F s.heap [] := ⟨hP, hI, va_S.rf⟩
  have hl := lv_entry ([.ref fu, .int to, .int li, .int ac]) (n := 4) (Nat.le_of_ble_eq_true rfl)
  rw [lg_entry_eq]
  generalize (lg_sl ([.ref fu, .int to, .int li, .int ac]) ++ List.replicate (4 - (lg_sl ([.ref fu, .int to, .int li, .int ac])).length) Slot.unset).toArray = ls at hl ⊢
  have hl : lv_has ls 4 [(0, .ref fu), (1, .int to), (2, .int li), (3, .int ac)] := hl
  clear hP hK hLn hE hI
  generalize hargs : ([.ref fu, .int to, .int li, .int ac] : List Value).toArray = args at *
  refine z_start (fun R Q hRf hRl hQ => ?_)
  have hRf : R.frames = 0 := hRf
  have hRl : R.locals = 0 := hRl
  have h9 := h
  refine lv_aload_n hx hb dX2_begin_0 rfl (lv_at hl 0 rfl) ?_
  refine lv_iload_n hx hb dX2_begin_1 rfl (lv_at hl 1 rfl) ?_
  refine zt_pute (t := 2) (C := RX2) (T := TX2) (N := 9) (v := .int to) Z h hfu zin_2 tyX2 tyX2_ok nmX2 rfl 1 rfl ⟨by decide, rfl⟩ (zm_RX2 (List.mem_of_getElem? (i := 2) rfl)) (fun _ h9 => h9) rfl (zV.i bto) rfl rfl dX2_begin_2 (fun H locs F_1 h hfF_1 kF_1 oF_1 => ?_)
  refine lv_aload_n hx hb dX2_begin_5 rfl (lv_at hl 0 rfl) ?_
  refine lv_iload_n hx hb dX2_begin_6 rfl (lv_at hl 2 rfl) ?_
  refine zt_pute (t := 2) (C := RX2) (T := TX2) (N := 9) (v := .int li) Z h hfu zin_2 tyX2 tyX2_ok nmX2 rfl 3 rfl ⟨by decide, rfl⟩ (zm_RX2 (List.mem_of_getElem? (i := 3) rfl)) (fun _ h9 => h9) rfl (zV.i (bli.w ⟨by decide, by decide⟩)) rfl rfl dX2_begin_7 (fun H locs F_2 h hfF_2 kF_2 oF_2 => ?_)
  refine lv_aload_n hx hb dX2_begin_10 rfl (lv_at hl 0 rfl) ?_
  refine lv_iload_n hx hb dX2_begin_11 rfl (lv_at hl 3 rfl) ?_
  refine zt_pute (t := 2) (C := RX2) (T := TX2) (N := 9) (v := .int ac) Z h hfu zin_2 tyX2 tyX2_ok nmX2 rfl 5 rfl ⟨by decide, rfl⟩ (zm_RX2 (List.mem_of_getElem? (i := 4) rfl)) (fun _ h9 => h9) rfl (zV.i (zB.all ac)) rfl rfl dX2_begin_12 (fun H locs F_3 h hfF_3 kF_3 oF_3 => ?_)
  refine lv_aload_n hx hb dX2_begin_15 rfl (lv_at hl 0 rfl) ?_
  refine lv_iconst (v := 0) hx hb dX2_begin_16 (by decide) ?_
  refine zt_pute (t := 2) (C := RX2) (T := TX2) (N := 9) (v := .int 0) Z h hfu zin_2 tyX2 tyX2_ok nmX2 rfl 6 rfl ⟨by decide, rfl⟩ (zm_RX2 (List.mem_of_getElem? (i := 5) rfl)) (fun _ h9 => h9) rfl (zV.i (zB.of ⟨by decide, by decide⟩)) rfl rfl dX2_begin_17 (fun H locs F_4 h hfF_4 kF_4 oF_4 => ?_)
  refine lv_aload_n hx hb dX2_begin_20 rfl (lv_at hl 0 rfl) ?_
  refine lv_iconst (v := 0) hx hb dX2_begin_21 (by decide) ?_
  refine zt_pute (t := 2) (C := RX2) (T := TX2) (N := 9) (v := .int 0) Z h hfu zin_2 tyX2 tyX2_ok nmX2 rfl 7 rfl ⟨by decide, rfl⟩ (zm_RX2 (List.mem_of_getElem? (i := 6) rfl)) (fun _ h9 => h9) rfl (zV.i (zB.of ⟨by decide, by decide⟩)) rfl rfl dX2_begin_22 (fun H locs F_5 h hfF_5 kF_5 oF_5 => ?_)
  have oth_6 : zOth Γ F F_5 fu := ((((((zOth.rf : zOth Γ F F fu).put oF_1).put oF_2).put oF_3).put oF_4).put oF_5)
  subst hQ
  exact W.vret hx hb hr (fun t ht hW => ⟨⟨F_5, rfl, ⟨⟨0, kF_5, (zB.of ⟨by decide, by decide⟩)⟩, ⟨to, li, 0, (hfF_5.f hfu 1 ⟨by decide, by decide⟩ (hfF_4.f hfu 1 ⟨by decide, by decide⟩ (hfF_3.f hfu 1 ⟨by decide, by decide⟩ (hfF_2.f hfu 1 ⟨by decide, by decide⟩ kF_1)))), bto, (hfF_5.f hfu 3 ⟨by decide, by decide⟩ (hfF_4.f hfu 3 ⟨by decide, by decide⟩ (hfF_3.f hfu 3 ⟨by decide, by decide⟩ kF_2))), bli, (hfF_5.f hfu 6 ⟨by decide, by decide⟩ kF_4), (zB.of ⟨by decide, by decide⟩), (by have := bto.1; have := bto.2; have := bli.1; have := bli.2; have := (zB.all ac).1; have := (zB.all ac).2; have : (0 : Int32).toInt = 0 := (by decide); omega)⟩, oth_6, trivial⟩, by rw [ht]; exact h.1, h.2.1, (((((hfF_1.w (by decide)).trans hfF_2 (by decide)).trans hfF_3 (by decide)).trans hfF_4 (by decide)).trans hfF_5 (by decide))⟩, h.2.2.F ht⟩) h.2.2.2.2 dX2_begin_25

set_option maxHeartbeats 4000000 in
set_option maxRecDepth 100000 in
theorem ze_X2_hasPlace (l : Launch) (D : va_G) (k : Nat → ClassId) (Γ : Nat → Option Nat) (L : List Nat) (F : Nat → va_E) (sz : Nat) (fu : Nat) (q : Int32) (pc : Int32) (hfu : Γ fu = some 2) (kpc : zfld F fu 7 = .int pc) (bpc : zB 0 3 pc) : Met l yX2_hasPlace zwX2_hasPlace ({ frames := 0, cells := 0, slots := 0, locals := 0 }) (va_Pc [.ref fu, .int q] (zP D k Γ L F sz)) (va_Qi (fun (r : Int32) (u : Nat → va_E) => F = u ∧ zB 0 1 r ∧ ((r.toInt = 1 ∧ ∃ j : Nat, (j : Int) < pc.toInt ∧ (zar F fu 8 j).toInt = q.toInt) ∨ (r.toInt = 0 ∧ ∀ j : Nat, (j : Int) < pc.toInt → (zar F fu 8 j).toInt ≠ q.toInt)) ∧ True) (zQ D k Γ L F []) (zA L sz)) 0 0 (zA L sz) := by
  refine Met.ofW (cc := cX2_hasPlace) (maxL := 3) (ret := (some .boolean)) (by decide) rfl ?_
  intro p e s m args below meth c s₁ B hml hv
  obtain ⟨rfl, hsz, hP, hK, hLn, hE, hI⟩ := hv
  have hx := B.exec
  have hb := B.bytes
  have hr := B.returns
  have hg : ∀ w ∈ zG, w.before _ s = true := fun w h9 => atoms_spec (ws := zwX2_hasPlace) B.pre w (List.mem_cons_of_mem _ h9)
  have hown : s.vm.findClass RX2 = some m.cls := findClass_of_methodNamed B.named
  have hlocks := B.notSynchronized
  subst hsz
  have Z : zC p m c cX2_hasPlace 3 s _ zG RX2 D k L := ⟨⟨hx, hb, hml, hown, hg⟩, hK, hLn, hE⟩
  have h : zH D k Γ L s F s.heap [] := ⟨hP, hI, va_S.rf⟩
  have hl := lv_entry ([.ref fu, .int q]) (n := 3) (Nat.le_of_ble_eq_true rfl)
  rw [lg_entry_eq]
  generalize (lg_sl ([.ref fu, .int q]) ++ List.replicate (3 - (lg_sl ([.ref fu, .int q])).length) Slot.unset).toArray = ls at hl ⊢
  have hl : lv_has ls 3 [(0, .ref fu), (1, .int q)] := hl
  clear hP hK hLn hE hI
  generalize hargs : ([.ref fu, .int q] : List Value).toArray = args at *
  refine z_start (fun R Q hRf hRl hQ => ?_)
  have hRf : R.frames = 0 := hRf
  have hRl : R.locals = 0 := hRl
  have h9 := h
  refine lv_iconst (v := 0) hx hb dX2_hasPlace_0 (by decide) ?_
  refine lv_istore_n (lv' := [(2, .int 0), (0, .ref fu), (1, .int q)]) hx hb dX2_hasPlace_1 rfl hl (by decide) rfl (fun ls hl => ?_)
  have j_j2_1 : ∀ (n : Nat) (ls : Array Slot) (y2_j2_1 : Int32), lv_has ls 3 [(2, .int y2_j2_1), (0, .ref fu), (1, .int q)] → zB 0 3 y2_j2_1 → (y2_j2_1.toInt ≤ pc.toInt) → (∀ j : Nat, (j : Int) < y2_j2_1.toInt → (zar F fu 8 j).toInt ≠ q.toInt) → (2147483647 - y2_j2_1.toInt).toNat = n → W p l e R s m args below meth c s.heap [] 0 0 Q (F0 m 2 ls []) := by
    intro n
    induction n using Nat.strongRecOn with
    | _ n ih_j2_1 =>
      intro ls y2_j2_1 hl by2_j2_1 r0_j2_1 r1_j2_1 hn_j2_1
      refine lv_iload_n hx hb dX2_hasPlace_2 rfl (lv_at hl 0 rfl) ?_
      refine lv_aload_n hx hb dX2_hasPlace_3 rfl (lv_at hl 1 rfl) ?_
      refine zt_getk (t := 2) (C := RX2) (T := TX2) (N := 9) Z h hfu zin_2 rfl 7 kpc ⟨by decide, rfl, by decide⟩ (zm_RX2 (List.mem_of_getElem? (i := 6) rfl)) (fun _ h9 => h9) dX2_hasPlace_4 ?_
      refine lv_icmp_ge (tgt := 37) hx hb dX2_hasPlace_7 (by decide) (fun c_2 => ?_) (fun c_2 => ?_)
      · have c_2 := z_le c_2
        refine lv_iconst (v := 0) hx hb dX2_hasPlace_37 (by decide) ?_
        subst hQ
        exact W.zret (v := 0) hx hb hr (by decide) (fun t ht hW => ⟨⟨0, F, rfl, ⟨rfl, (zB.of ⟨by decide, by decide⟩), (Or.inr ⟨by decide, fun w9 hw9 => r1_j2_1 w9 (by have := by2_j2_1.1; have := by2_j2_1.2; have := (zB.all q).1; have := (zB.all q).2; have := bpc.1; have := bpc.2; have : (0 : Int32).toInt = 0 := (by decide); omega)⟩), trivial⟩, by rw [ht]; exact h.1, h.2.1, zFr.rf⟩, h.2.2.F ht⟩) h.2.2.2.2 dX2_hasPlace_38
      · have c_2 := z_nle c_2
        have by2_j2_1_3 : zB 0 2 y2_j2_1 := zB.ltL c_2 by2_j2_1 bpc (by decide)
        have bpc_4 : zB 1 3 pc := zB.ltR c_2 by2_j2_1 bpc (by decide)
        refine lv_iload_n hx hb dX2_hasPlace_10 rfl (lv_at hl 0 rfl) ?_
        refine lv_aload_n hx hb dX2_hasPlace_11 rfl (lv_at hl 1 rfl) ?_
        refine zt_getr (t := 2) (C := RX2) (T := TX2) (N := 9) Z h hfu zin_2 rfl 8 rfl ⟨by decide, rfl⟩ (zm_RX2 (List.mem_of_getElem? (i := 8) rfl)) (fun _ h9 => h9) dX2_hasPlace_12 (fun a_5 ka_5 ha_5 => ?_)
        refine zt_alen (t := 103) Z h ha_5 ⟨by decide, rfl⟩ (by decide) (v := 3) rfl dX2_hasPlace_15 ?_
        refine lv_icmp_ge (tgt := 37) hx hb dX2_hasPlace_16 (by decide) (fun c_6 => ?_) (fun c_6 => ?_)
        · have c_6 := z_le c_6
          exact zB.noLe c_6 (zBc 3 3 (by decide)) by2_j2_1_3 (by decide)
        · have c_6 := z_nle c_6
          refine lv_aload_n hx hb dX2_hasPlace_19 rfl (lv_at hl 1 rfl) ?_
          refine zt_getk (t := 2) (C := RX2) (T := TX2) (N := 9) Z h hfu zin_2 rfl 8 ka_5 ⟨by decide, rfl, by decide⟩ (zm_RX2 (List.mem_of_getElem? (i := 8) rfl)) (fun _ h9 => h9) dX2_hasPlace_20 ?_
          refine lv_iload_n hx hb dX2_hasPlace_23 rfl (lv_at hl 0 rfl) ?_
          refine zt_ialde (t := 103) Z h ha_5 ⟨by decide, rfl⟩ by2_j2_1_3 ⟨by decide, by decide⟩ dX2_hasPlace_24 (fun x_7 ex_7 bx_7 => ?_)
          refine lv_iload_n hx hb dX2_hasPlace_25 rfl (lv_at hl 2 rfl) ?_
          refine lv_icmp_ne (tgt := 31) hx hb dX2_hasPlace_26 (by decide) (fun c_8 => ?_) (fun c_8 => ?_)
          · have c_8 := z_ne c_8
            obtain ⟨x_9, ex_9, bx_9, tx_9⟩ := z_inc (n := 1) (lo := 1) (hi := 3) by2_j2_1_3 (by decide)
            refine lv_iinc (v := x_9) (lv' := [(2, .int x_9), (0, .ref fu), (1, .int q)]) hx hb dX2_hasPlace_31 hl (k := 0) rfl ex_9 (by decide) rfl (fun ls hl => ?_)
            refine lv_goto (tgt := 2) hx hb dX2_hasPlace_34 (by decide) ?_
            exact ih_j2_1 _ (by have := bx_9.1; have := bx_9.2; have := (zB.all q).1; have := (zB.all q).2; have := bpc_4.1; have := bpc_4.2; have : (3 : Int32).toInt = 3 := (by decide); have := by2_j2_1.1; have := by2_j2_1.2; omega) ls x_9 (lv_sub hl [0, 1, 2] rfl) (bx_9.w ⟨by decide, by decide⟩) (by have := bx_9.1; have := bx_9.2; have := (zB.all q).1; have := (zB.all q).2; have := bpc_4.1; have := bpc_4.2; have : (3 : Int32).toInt = 3 := (by decide); omega) (fun w9 hw9 => if h6 : (w9 : Int) < y2_j2_1.toInt then r1_j2_1 w9 h6 else (by rw [zar_eq ka_5, show w9 = Int32.toNatClampNeg y2_j2_1 by have := z_cl (x := y2_j2_1) (by have := bx_9.1; have := bx_9.2; have := (zB.all q).1; have := (zB.all q).2; have := by2_j2_1_3.1; have := by2_j2_1_3.2; have := bx_7.1; have := bx_7.2; have := bpc_4.1; have := bpc_4.2; have : (3 : Int32).toInt = 3 := (by decide); omega); omega, ex_7]; have := bx_9.1; have := bx_9.2; have := (zB.all q).1; have := (zB.all q).2; have := by2_j2_1_3.1; have := by2_j2_1_3.2; have := bx_7.1; have := bx_7.2; have := bpc_4.1; have := bpc_4.2; have : (3 : Int32).toInt = 3 := (by decide); omega)) rfl
          · have c_8 := z_eq c_8
            refine lv_iconst (v := 1) hx hb dX2_hasPlace_29 (by decide) ?_
            subst hQ
            exact W.zret (v := 1) hx hb hr (by decide) (fun t ht hW => ⟨⟨1, F, rfl, ⟨rfl, (zB.of ⟨by decide, by decide⟩), (Or.inl ⟨by decide, y2_j2_1.toInt.toNat, by have := by2_j2_1_3.1; have := by2_j2_1_3.2; have := (zB.all q).1; have := (zB.all q).2; have := bpc_4.1; have := bpc_4.2; have : (1 : Int32).toInt = 1 := (by decide); have : (3 : Int32).toInt = 3 := (by decide); omega, by rw [zar_eq ka_5, show y2_j2_1.toInt.toNat = Int32.toNatClampNeg y2_j2_1 from rfl, ex_7]; have := by2_j2_1_3.1; have := by2_j2_1_3.2; have := (zB.all q).1; have := (zB.all q).2; have := bx_7.1; have := bx_7.2; have := bpc_4.1; have := bpc_4.2; have : (1 : Int32).toInt = 1 := (by decide); have : (3 : Int32).toInt = 3 := (by decide); omega⟩), trivial⟩, by rw [ht]; exact h.1, h.2.1, zFr.rf⟩, h.2.2.F ht⟩) h.2.2.2.2 dX2_hasPlace_30
  exact j_j2_1 _ ls 0 (lv_sub hl [0, 1, 2] rfl) (zB.of ⟨by decide, by decide⟩) (by have := (zB.all q).1; have := (zB.all q).2; have := bpc.1; have := bpc.2; have : (0 : Int32).toInt = 0 := (by decide); omega) (fun q hq => by exfalso; have : (0 : Int32).toInt = 0 := (by decide); omega) rfl

set_option maxHeartbeats 4000000 in
set_option maxRecDepth 100000 in
theorem ze_X2_addPlace (l : Launch) (D : va_G) (k : Nat → ClassId) (Γ : Nat → Option Nat) (L : List Nat) (F : Nat → va_E) (sz : Nat) (fu : Nat) (q : Int32) (pc : Int32) (hfu : Γ fu = some 2) (kpc : zfld F fu 7 = .int pc) (bpc : zB 0 2 pc) : Met l yX2_addPlace zwX2_addPlace ({ frames := 0, cells := 0, slots := 0, locals := 0 }) (va_Pc [.ref fu, .int q] (zP D k Γ L F sz)) (va_Qv (fun (u : Nat → va_E) => (∃ (p9 : Int32), zfld u fu 7 = .int p9 ∧ zB 1 3 p9 ∧ (p9.toInt = pc.toInt + 1)) ∧ zar u fu 8 = upd (zar F fu 8) (Int32.toNatClampNeg pc) q ∧ zOth Γ F u fu ∧ True) (zQ D k Γ L F [207, 10300]) (zA L sz)) 0 0 (zA L sz) := by
  refine Met.ofW (cc := cX2_addPlace) (maxL := 2) (ret := none) (by decide) rfl ?_
  intro p e s m args below meth c s₁ B hml hv
  obtain ⟨rfl, hsz, hP, hK, hLn, hE, hI⟩ := hv
  have hx := B.exec
  have hb := B.bytes
  have hr := B.returns
  have hg : ∀ w ∈ zG, w.before _ s = true := fun w h9 => atoms_spec (ws := zwX2_addPlace) B.pre w (List.mem_cons_of_mem _ h9)
  have hown : s.vm.findClass RX2 = some m.cls := findClass_of_methodNamed B.named
  have hlocks := B.notSynchronized
  subst hsz
  have Z : zC p m c cX2_addPlace 2 s _ zG RX2 D k L := ⟨⟨hx, hb, hml, hown, hg⟩, hK, hLn, hE⟩
  have h : zH D k Γ L s F s.heap [] := ⟨hP, hI, va_S.rf⟩
  have hl := lv_entry ([.ref fu, .int q]) (n := 2) (Nat.le_of_ble_eq_true rfl)
  rw [lg_entry_eq]
  generalize (lg_sl ([.ref fu, .int q]) ++ List.replicate (2 - (lg_sl ([.ref fu, .int q])).length) Slot.unset).toArray = ls at hl ⊢
  have hl : lv_has ls 2 [(0, .ref fu), (1, .int q)] := hl
  clear hP hK hLn hE hI
  generalize hargs : ([.ref fu, .int q] : List Value).toArray = args at *
  refine z_start (fun R Q hRf hRl hQ => ?_)
  have hRf : R.frames = 0 := hRf
  have hRl : R.locals = 0 := hRl
  have h9 := h
  have ad_1 := z_ad (j := 8) (c := 103) h.2.1 hfu (by decide) rfl
  refine lv_aload_n hx hb dX2_addPlace_0 rfl (lv_at hl 0 rfl) ?_
  refine zt_getk (t := 2) (C := RX2) (T := TX2) (N := 9) Z h hfu zin_2 rfl 7 kpc ⟨by decide, rfl, by decide⟩ (zm_RX2 (List.mem_of_getElem? (i := 6) rfl)) (fun _ h9 => h9) dX2_addPlace_1 ?_
  refine lv_aload_n hx hb dX2_addPlace_4 rfl (lv_at hl 0 rfl) ?_
  refine zt_getr (t := 2) (C := RX2) (T := TX2) (N := 9) Z h hfu zin_2 rfl 8 rfl ⟨by decide, rfl⟩ (zm_RX2 (List.mem_of_getElem? (i := 8) rfl)) (fun _ h9 => h9) dX2_addPlace_5 (fun a_2 ka_2 ha_2 => ?_)
  refine zt_alen (t := 103) Z h ha_2 ⟨by decide, rfl⟩ (by decide) (v := 3) rfl dX2_addPlace_8 ?_
  refine lv_icmp_ge (tgt := 32) hx hb dX2_addPlace_9 (by decide) (fun c_3 => ?_) (fun c_3 => ?_)
  · have c_3 := z_le c_3
    exact zB.noLe c_3 (zBc 3 3 (by decide)) bpc (by decide)
  · have c_3 := z_nle c_3
    refine lv_aload_n hx hb dX2_addPlace_12 rfl (lv_at hl 0 rfl) ?_
    refine zt_getk (t := 2) (C := RX2) (T := TX2) (N := 9) Z h hfu zin_2 rfl 8 ka_2 ⟨by decide, rfl, by decide⟩ (zm_RX2 (List.mem_of_getElem? (i := 8) rfl)) (fun _ h9 => h9) dX2_addPlace_13 ?_
    refine lv_aload_n hx hb dX2_addPlace_16 rfl (lv_at hl 0 rfl) ?_
    refine zt_getk (t := 2) (C := RX2) (T := TX2) (N := 9) Z h hfu zin_2 rfl 7 kpc ⟨by decide, rfl, by decide⟩ (zm_RX2 (List.mem_of_getElem? (i := 6) rfl)) (fun _ h9 => h9) dX2_addPlace_17 ?_
    refine lv_iload_n hx hb dX2_addPlace_20 rfl (lv_at hl 1 rfl) ?_
    refine zt_iaste (t := 103) Z h ha_2 ⟨by decide, rfl⟩ bpc ⟨by decide, by decide⟩ (zB.all q) dX2_addPlace_21 (fun H locs F_4 h hfF_4 eF_4 gF_4 => ?_)
    have uF_4 := (zar_st ka_2 (hfF_4.f hfu 8 ⟨by decide, by decide⟩ ka_2) eF_4 gF_4).trans (congrArg (fun z => upd z (Int32.toNatClampNeg pc) q) (rfl : zar F fu 8 = (zar F fu 8)))
    refine lv_aload_n hx hb dX2_addPlace_22 rfl (lv_at hl 0 rfl) ?_
    refine lv_dup hx hb dX2_addPlace_23 rfl ?_
    refine zt_getk (t := 2) (C := RX2) (T := TX2) (N := 9) Z h hfu zin_2 rfl 7 (hfF_4.f hfu 7 ⟨by decide, by decide⟩ kpc) ⟨by decide, rfl, by decide⟩ (zm_RX2 (List.mem_of_getElem? (i := 6) rfl)) (fun _ h9 => h9) dX2_addPlace_24 ?_
    refine lv_iconst (v := 1) hx hb dX2_addPlace_27 (by decide) ?_
    refine lv_iadd hx hb dX2_addPlace_28 ?_
    refine zi_add (lo := 1) (hi := 3) bpc (zBc 1 1 (by decide)) (by decide) (fun x_5 bx_5 tx_5 => ?_)
    refine zt_pute (t := 2) (C := RX2) (T := TX2) (N := 9) (v := .int x_5) Z h hfu zin_2 tyX2 tyX2_ok nmX2 rfl 7 rfl ⟨by decide, rfl⟩ (zm_RX2 (List.mem_of_getElem? (i := 6) rfl)) (fun _ h9 => h9) rfl (zV.i (bx_5.w ⟨by decide, by decide⟩)) rfl rfl dX2_addPlace_29 (fun H locs F_6 h hfF_6 kF_6 oF_6 => ?_)
    have ad_7 := ad_1.fr hfF_4 hfu ⟨by decide, by decide⟩
    have ar_8 : zar F_6 fu 8 = (upd (zar F fu 8) (Int32.toNatClampNeg pc) q) := ((ad_7.ar hfF_6 hfu ⟨by decide, by decide⟩ ⟨by decide, by decide⟩).trans uF_4)
    have oth_9 : zOth Γ F F_6 fu := (((zOth.rf : zOth Γ F F fu).fr hfF_4 (by decide)).put oF_6)
    subst hQ
    exact W.vret hx hb hr (fun t ht hW => ⟨⟨F_6, rfl, ⟨⟨x_5, kF_6, bx_5, (by have := (zB.all q).1; have := (zB.all q).2; have := bx_5.1; have := bx_5.2; have := bpc.1; have := bpc.2; have : (1 : Int32).toInt = 1 := (by decide); have : (3 : Int32).toInt = 3 := (by decide); omega)⟩, ar_8, oth_9, trivial⟩, by rw [ht]; exact h.1, h.2.1, ((hfF_4.w (by decide)).trans hfF_6 (by decide))⟩, h.2.2.F ht⟩) h.2.2.2.2 dX2_addPlace_32

set_option maxHeartbeats 4000000 in
set_option maxRecDepth 100000 in
theorem ze_X7_readName (l : Launch) (D : va_G) (k : Nat → ClassId) (Γ : Nat → Option Nat) (L : List Nat) (F : Nat → va_E) (sz : Nat) (th : Nat) (fu : Nat) (pr : Nat) (tk : Nat) (co : Nat) (Bt : Nat → Int32) (nt : Nat) (Nt : Nat) (cc : Int32) (σ : zSg) (fa : Nat → Nat) (hth : Γ th = some 7) (hfu : Γ fu = some 2) (kpr : zfld F th 3 = .ref pr) (hpr : Γ pr = some 6) (ktk : zfld F th 4 = .ref tk) (htk : Γ tk = some 8) (kco : zfld F th 5 = .ref co) (hco : Γ co = some 1) (ke_pr_0 : zfld F pr 0 = .ref tk) (p_tb : zTb Γ F tk Bt nt Nt) (kcc : zfld F th 11 = .int cc) (bcc : zB 0 150 cc) (p_au : zC1 F th Nt (σ)) (hm_ : ∀ i d9, σ = .inl (i, d9) → 4 * cc.toInt + 5 ≤ zpo Bt nt i + (3)) (p_c3 : zC3 Γ F pr fa (zTo Bt nt) Nt σ) : Met l yX7_readName zwX7_readName ({ frames := 4, cells := 0, slots := 0, locals := 90 }) (va_Pc [.ref th, .ref fu] (zP D k Γ L F sz)) (va_Qv (fun (u : Nat → va_E) => (∃ σ9 : zSg, zC1 u th Nt σ9 ∧ zRc (zTo Bt nt) σ [(2, 0, 0, 0)] σ9 [] ∧ zsN σ σ9 ∧ zCc Γ F u th (zTo Bt nt) σ σ9 (1) ∧ zNm u fu (zTo Bt nt) Nt σ9) ∧ zOth Γ F u fu ∧ True) (zQ D k Γ L F [200, 701, 702, 706]) (zA L sz)) 0 0 (zA L sz) := by
  refine Met.ofW (cc := cX7_readName) (maxL := 2) (ret := none) (by decide) rfl ?_
  intro p e s m args below meth c s₁ B hml hv
  obtain ⟨rfl, hsz, hP, hK, hLn, hE, hI⟩ := hv
  have hx := B.exec
  have hb := B.bytes
  have hr := B.returns
  have hg : ∀ w ∈ zG, w.before _ s = true := fun w h9 => atoms_spec (ws := zwX7_readName) B.pre w (List.mem_cons_of_mem _ h9)
  have hown : s.vm.findClass RX7 = some m.cls := findClass_of_methodNamed B.named
  have hlocks := B.notSynchronized
  subst hsz
  have Z : zC p m c cX7_readName 2 s _ zG RX7 D k L := ⟨⟨hx, hb, hml, hown, hg⟩, hK, hLn, hE⟩
  have h : zH D k Γ L s F s.heap [] := ⟨hP, hI, va_S.rf⟩
  have hl := lv_entry ([.ref th, .ref fu]) (n := 2) (Nat.le_of_ble_eq_true rfl)
  rw [lg_entry_eq]
  generalize (lg_sl ([.ref th, .ref fu]) ++ List.replicate (2 - (lg_sl ([.ref th, .ref fu])).length) Slot.unset).toArray = ls at hl ⊢
  have hl : lv_has ls 2 [(0, .ref th), (1, .ref fu)] := hl
  clear hP hK hLn hE hI
  generalize hargs : ([.ref th, .ref fu] : List Value).toArray = args at *
  refine z_start (fun R Q hRf hRl hQ => ?_)
  have hRf : R.frames = 4 := hRf
  have hRl : R.locals = 90 := hRl
  have h9 := h
  have hLs_ := p_tb.2.2.2.1
  obtain ⟨sz_, ksz_, tsz_⟩ := p_tb.2.2.1
  have bsz_ : zB 1 601 sz_ := ⟨by have := hLs_.1; omega, by have := hLs_.2.1; omega⟩
  obtain ⟨⟨x_1, kx_1, nx_1⟩, ⟨x_2, kx_2, nx_2⟩, ox_1⟩ := id p_au
  have gx_1 := zC1.nx p_au hLs_.1 kx_1
  have bx_1 : zB 0 600 x_1 := ⟨by omega, by have := hLs_.2.1; omega⟩
  have bx_2 := zB.all x_2
  have ad_3 := z_ad (j := 7) (c := 106) h.2.1 hth (by decide) rfl
  have ad_4 := z_ad (j := 8) (c := 107) h.2.1 hth (by decide) rfl
  have ad_5 := z_ad (j := 10) (c := 161) h.2.1 hth (by decide) rfl
  have cc0_ : zCc Γ F F th (zTo Bt nt) σ σ (3) := zCc.rf kcc bcc.1 ⟨ad_3, ad_4, ad_5⟩ hm_
  have rc0_ : zRc (zTo Bt nt) σ [(2, 0, 0, 0)] σ [(2, 0, 0, 0)] := zRc.rf
  have ss0_ : zsN σ σ := zsN.rf
  refine lv_aload_n hx hb dX7_readName_0 rfl (lv_at hl 0 rfl) ?_
  refine zk_Vi (As := []) (rest := []) (bytes := cX7_kind) (maxL := 2) (ret := (some .int)) Z h (ze_X7_kind l D k Γ L F s.heap.size th tk Bt nt Nt σ hth ktk htk p_tb p_au) (cwV 0 hg zv_RX7_65 rfl rfl rfl zd_X7_kind ⟨z_leR hRf (by decide), z_leR hRl (by decide)⟩) hth (by decide) rfl rfl hl.1 rfl (Nat.le_of_ble_eq_true rfl) dX7_readName_1 ⟨Nat.zero_le _, Nat.zero_le _⟩ (fun r_6 F_7 H locs w_8 h hfF_7 => ?_)
  obtain ⟨rfl, q_9, -⟩ := w_8
  have br_6 := zB.all r_6
  refine lv_iconst (v := 4) hx hb dX7_readName_4 (by decide) ?_
  refine lv_icmp_eq (tgt := 16) hx hb dX7_readName_5 (by decide) (fun c_10 => ?_) (fun c_10 => ?_)
  · have c_10 := z_eq c_10
    have br_6_11 : zB 4 4 r_6 := zB.eqL (a := 0) (b := 0) c_10 (zBc 4 4 (by decide))
    obtain ⟨iq, dq, hinl⟩ := zinl hLs_ (σ := σ) ⟨by have := br_6_11.1; have := br_6_11.2; have := bcc.1; have := bcc.2; have := bsz_.1; have := bsz_.2; have := bx_1.1; have := bx_1.2; have := bx_2.1; have := bx_2.2; have : (4 : Int32).toInt = 4 := (by decide); omega, by have := br_6_11.1; have := br_6_11.2; have := bcc.1; have := bcc.2; have := bsz_.1; have := bsz_.2; have := bx_1.1; have := bx_1.2; have := bx_2.1; have := bx_2.2; have : (4 : Int32).toInt = 4 := (by decide); omega⟩
    have hq_ : x_1.toInt = (iq : Int) := by rw [nx_1, hinl]; rfl
    refine lv_aload_n hx hb dX7_readName_16 rfl (lv_at hl 0 rfl) ?_
    refine zt_getk (t := 7) (C := RX7) (T := TX7) (N := 12) Z h hth zin_7 rfl 3 kpr ⟨by decide, rfl, by decide⟩ (zm_RX7 (List.mem_of_getElem? (i := 2) rfl)) (fun _ h9 => h9) dX7_readName_17 ?_
    refine lv_aload_n hx hb dX7_readName_20 rfl (lv_at hl 0 rfl) ?_
    refine zt_getk (t := 7) (C := RX7) (T := TX7) (N := 12) Z h hth zin_7 rfl 4 ktk ⟨by decide, rfl, by decide⟩ (zm_RX7 (List.mem_of_getElem? (i := 4) rfl)) (fun _ h9 => h9) dX7_readName_21 ?_
    refine lv_aload_n hx hb dX7_readName_24 rfl (lv_at hl 0 rfl) ?_
    refine zt_getk (t := 7) (C := RX7) (T := TX7) (N := 12) Z h hth zin_7 rfl 6 kx_1 ⟨by decide, rfl, by decide⟩ (zm_RX7 (List.mem_of_getElem? (i := 9) rfl)) (fun _ h9 => h9) dX7_readName_25 ?_
    refine zk_Vi (As := [.ref tk, .int x_1]) (rest := []) (bytes := cX6_functionNamed) (maxL := 4) (ret := (some .int)) Z h (ze_X6_functionNamed l D k Γ L F H.size pr tk x_1 Bt nt Nt fa iq dq hpr htk ke_pr_0 p_tb (by rw [← hinl]; exact p_c3.1) ⟨by have := bx_1.1; have := bx_1.2; have := br_6_11.1; have := br_6_11.2; have := bcc.1; have := bcc.2; have := bsz_.1; have := bsz_.2; have := bx_2.1; have := bx_2.2; have : (4 : Int32).toInt = 4 := (by decide); omega, by have := bx_1.1; have := bx_1.2; have := br_6_11.1; have := br_6_11.2; have := bcc.1; have := bcc.2; have := bsz_.1; have := bsz_.2; have := bx_2.1; have := bx_2.2; have : (4 : Int32).toInt = 4 := (by decide); omega, by rw [nx_1, zkd_nx]; have := bx_1.1; have := bx_1.2; have := br_6_11.1; have := br_6_11.2; have := bcc.1; have := bcc.2; have := bsz_.1; have := bsz_.2; have := bx_2.1; have := bx_2.2; have : (4 : Int32).toInt = 4 := (by decide); omega⟩) (cwV 2 hg zv_RX7_128 rfl rfl rfl zd_X6_functionNamed ⟨z_leR hRf (by decide), z_leR hRl (by decide)⟩) hpr (by decide) rfl rfl hl.1 rfl (Nat.le_of_ble_eq_true rfl) dX7_readName_28 ⟨Nat.zero_le _, Nat.zero_le _⟩ (fun r_12 F_13 H locs w_14 h hfF_13 => ?_)
    obtain ⟨rfl, br_12, q_15, -⟩ := w_14
    refine lv_iconst (v := (-1)) hx hb dX7_readName_31 (by decide) ?_
    refine lv_icmp_eq (tgt := 43) hx hb dX7_readName_32 (by decide) (fun c_16 => ?_) (fun c_16 => ?_)
    · have c_16 := z_eq c_16
      have br_12_17 : zB (-1) (-1) r_12 := zB.eqL (a := 0) (b := 0) c_16 (zBc (-1) (-1) (by decide))
      refine lv_aload_n hx hb dX7_readName_43 rfl (lv_at hl 1 rfl) ?_
      refine lv_aload_n hx hb dX7_readName_44 rfl (lv_at hl 0 rfl) ?_
      refine zt_getk (t := 7) (C := RX7) (T := TX7) (N := 12) Z h hth zin_7 rfl 6 kx_1 ⟨by decide, rfl, by decide⟩ (zm_RX7 (List.mem_of_getElem? (i := 9) rfl)) (fun _ h9 => h9) dX7_readName_45 ?_
      refine zt_pute (t := 2) (C := RX2) (T := TX2) (N := 9) (v := .int x_1) Z h hfu zin_2 tyX2 tyX2_ok nmX2 rfl 0 rfl ⟨by decide, rfl⟩ (zm_RX7 (List.mem_of_getElem? (i := 51) rfl)) (fun _ h9 => h9) rfl (zV.i (bx_1.w ⟨by decide, by decide⟩)) rfl rfl dX7_readName_48 (fun H locs F_18 h hfF_18 kF_18 oF_18 => ?_)
      refine lv_aload_n hx hb dX7_readName_51 rfl (lv_at hl 0 rfl) ?_
      refine lv_dup hx hb dX7_readName_52 rfl ?_
      refine zt_getk (t := 7) (C := RX7) (T := TX7) (N := 12) Z h hth zin_7 rfl 6 (hfF_18.f hth 6 ⟨by decide, by decide⟩ kx_1) ⟨by decide, rfl, by decide⟩ (zm_RX7 (List.mem_of_getElem? (i := 9) rfl)) (fun _ h9 => h9) dX7_readName_53 ?_
      refine lv_iconst (v := 1) hx hb dX7_readName_56 (by decide) ?_
      refine lv_iadd hx hb dX7_readName_57 ?_
      refine zi_add (lo := 1) (hi := 601) bx_1 (zBc 1 1 (by decide)) (by decide) (fun x_19 bx_19 tx_19 => ?_)
      refine zt_put (t := 7) (C := RX7) (T := TX7) (N := 12) (v := .int x_19) Z h hth zin_7 tyX7 tyX7_ok nmX7 rfl 6 rfl ⟨by decide, rfl⟩ (zm_RX7 (List.mem_of_getElem? (i := 9) rfl)) (fun _ h9 => h9) rfl (zV.i (bx_19.w ⟨by decide, by decide⟩)) rfl rfl dX7_readName_58 (fun H locs F_20 h hfF_20 kF_20 => ?_)
      have c1_21 := (p_au.fr hfF_18 hth (by decide))
      have cc_22 := (cc0_.fr hfF_18 hth (by decide) (zTo_P Bt nt))
      have c1_23 : zC1 F_20 th Nt (zadv (zmap (fun i d9 => zaddn d9 i) σ)) := (zC1.adm (T := zTo Bt nt) c1_21 hfF_20 hth (by decide) (hfF_18.f hth 6 ⟨by decide, by decide⟩ kx_1) kF_20 (by have := bx_1.1; have := bx_1.2; have := br_6_11.1; have := br_6_11.2; have := bcc.1; have := bcc.2; have := bsz_.1; have := bsz_.2; have := bx_19.1; have := bx_19.2; have := bx_2.1; have := bx_2.2; have : ((-1) : Int32).toInt = (-1) := (by decide); have : (1 : Int32).toInt = 1 := (by decide); have : (4 : Int32).toInt = 4 := (by decide); omega) hLs_ ⟨by have := bx_1.1; have := bx_1.2; have := br_6_11.1; have := br_6_11.2; have := bcc.1; have := bcc.2; have := bsz_.1; have := bsz_.2; have := bx_19.1; have := bx_19.2; have := bx_2.1; have := bx_2.2; have : ((-1) : Int32).toInt = (-1) := (by decide); have : (1 : Int32).toInt = 1 := (by decide); have : (4 : Int32).toInt = 4 := (by decide); omega, by have := bx_1.1; have := bx_1.2; have := br_6_11.1; have := br_6_11.2; have := bcc.1; have := bcc.2; have := bsz_.1; have := bsz_.2; have := bx_19.1; have := bx_19.2; have := bx_2.1; have := bx_2.2; have : ((-1) : Int32).toInt = (-1) := (by decide); have : (1 : Int32).toInt = 1 := (by decide); have : (4 : Int32).toInt = 4 := (by decide); omega⟩)
      have rc_23 : zRc (zTo Bt nt) σ [(2, 0, 0, 0)] (zadv (zmap (fun i d9 => zaddn d9 i) σ)) [] := zRc.name0 (N := Nt) rc0_ (by have := br_6_11.1; have := br_6_11.2; have := bcc.1; have := bcc.2; have := bsz_.1; have := bsz_.2; have := bx_19.1; have := bx_19.2; have := bx_2.1; have := bx_2.2; have := bx_1.1; have := bx_1.2; have : ((-1) : Int32).toInt = (-1) := (by decide); have : (1 : Int32).toInt = 1 := (by decide); have : (4 : Int32).toInt = 4 := (by decide); omega) (fun i d9 e9 => by cases hinl.symm.trans e9; have h7 := q_15; rw [show x_1.toInt.toNat = iq by omega] at h7; cases h8 : zfind (zTo Bt nt).2.2 (znm dq) ((zTo Bt nt).2.2 iq) (zfc dq) with | none => rfl | some g => (exfalso; rw [h8] at h7; have h6 : zfi (some g) = (g : Int) := rfl; have := br_12_17.1; have := br_12_17.2; have := br_6_11.1; have := br_6_11.2; have := bcc.1; have := bcc.2; have := bsz_.1; have := bsz_.2; have := bx_19.1; have := bx_19.2; have := bx_2.1; have := bx_2.2; have := bx_1.1; have := bx_1.2; have : ((-1) : Int32).toInt = (-1) := (by decide); have : (1 : Int32).toInt = 1 := (by decide); have : (4 : Int32).toInt = 4 := (by decide); omega))
      have st_23 : zsN σ (zadv (zmap (fun i d9 => zaddn d9 i) σ)) := zsN.nm
      have ss_23 : zsN σ (zadv (zmap (fun i d9 => zaddn d9 i) σ)) := ss0_.trans st_23
      have cc_23 : zCc Γ F F_20 th (zTo Bt nt) σ (zadv (zmap (fun i d9 => zaddn d9 i) σ)) (1) := (zCc.adm2 (N := Nt) (f := fun i d9 => zaddn d9 i) (cc_22.fr hfF_20 hth (by decide) (zTo_P Bt nt)) (fun _ _ => rfl) (by have := bx_1.1; have := bx_1.2; have := br_6_11.1; have := br_6_11.2; have := bcc.1; have := bcc.2; have := bsz_.1; have := bsz_.2; have := bx_19.1; have := bx_19.2; have := bx_2.1; have := bx_2.2; have : ((-1) : Int32).toInt = (-1) := (by decide); have : (1 : Int32).toInt = 1 := (by decide); have : (4 : Int32).toInt = 4 := (by decide); omega) (by omega))
      generalize hσ_23 : zadv (zmap (fun i d9 => zaddn d9 i) σ) = σ_23 at c1_23 rc_23 st_23 ss_23 cc_23
      obtain ⟨⟨x_24, kx_24, nx_24⟩, ⟨x_25, kx_25, nx_25⟩, ox_24⟩ := id c1_23
      have gx_24 := zC1.nx c1_23 hLs_.1 kx_24
      have bx_24 : zB 0 600 x_24 := ⟨by omega, by have := hLs_.2.1; omega⟩
      have bx_25 := zB.all x_25
      have vx_24 := congrArg Int32.toInt (z_same kF_20 kx_24)
      have mo_23 := zsN.nx st_23 ox_1 ox_24
      have nm_26 : zNm F_20 fu (zTo Bt nt) Nt σ_23 := by rw [← hσ_23]; exact zNm.new (hfF_20.f hfu 0 ⟨by decide, by decide⟩ kF_18) nx_1 ox_1 (by have := br_6_11.1; have := br_6_11.2; have := bcc.1; have := bcc.2; have := bsz_.1; have := bsz_.2; have := bx_19.1; have := bx_19.2; have := bx_2.1; have := bx_2.2; have := bx_1.1; have := bx_1.2; have : ((-1) : Int32).toInt = (-1) := (by decide); have : (1 : Int32).toInt = 1 := (by decide); have : (4 : Int32).toInt = 4 := (by decide); omega)
      have oth_27 : zOth Γ F F_20 fu := (((zOth.rf : zOth Γ F F fu).put oF_18).fr hfF_20 (by decide))
      subst hQ
      exact W.vret hx hb hr (fun t ht hW => ⟨⟨F_20, rfl, ⟨⟨σ_23, c1_23, rc_23, ss_23, (cc_23.w (by have := br_6_11.1; have := br_6_11.2; have := bcc.1; have := bcc.2; have := bsz_.1; have := bsz_.2; have := bx_24.1; have := bx_24.2; have := bx_25.1; have := bx_25.2; have := bx_1.1; have := bx_1.2; have : ((-1) : Int32).toInt = (-1) := (by decide); have : (1 : Int32).toInt = 1 := (by decide); have : (4 : Int32).toInt = 4 := (by decide); omega)), nm_26⟩, oth_27, trivial⟩, by rw [ht]; exact h.1, h.2.1, ((hfF_18.w (by decide)).trans hfF_20 (by decide))⟩, h.2.2.F ht⟩) h.2.2.2.2 dX7_readName_61
    · have c_16 := z_ne c_16
      have br_12_28 : zB 0 9 r_12 := zB.neLo c_16 br_12 (zBc (-1) (-1) (by decide)) (by decide)
      refine lv_aload_n hx hb dX7_readName_35 rfl (lv_at hl 0 rfl) ?_
      refine lv_iconst (v := 2) hx hb dX7_readName_36 (by decide) ?_
      refine zk_Vv (As := [.int 2]) (rest := []) (bytes := cX7_fail) (maxL := 2) (ret := none) Z h (ze_X7_fail l D k Γ L F H.size th 2 tk Bt nt Nt σ hth ktk htk p_tb p_au (by have := br_6_11.1; have := br_6_11.2; have := bcc.1; have := bcc.2; have := bsz_.1; have := bsz_.2; have := bx_1.1; have := bx_1.2; have := bx_2.1; have := bx_2.2; have : ((-1) : Int32).toInt = (-1) := (by decide); have : (2 : Int32).toInt = 2 := (by decide); have : (4 : Int32).toInt = 4 := (by decide); omega)) (cwV 1 hg zv_RX7_79 rfl rfl rfl zd_X7_fail ⟨z_leR hRf (by decide), z_leR hRl (by decide)⟩) hth (by decide) rfl rfl hl.1 rfl (Nat.le_of_ble_eq_true rfl) dX7_readName_37 ⟨Nat.zero_le _, Nat.zero_le _⟩ (fun F_29 H locs w_30 h hfF_29 => ?_)
      obtain ⟨q_31, -⟩ := w_30
      have c1_32 : zC1 F_29 th Nt (zfl 2 σ) := (by have h9 := q_31; rw [show (2 : Int32).toInt = 2 by decide] at h9; exact h9)
      have rc_32 : zRc (zTo Bt nt) σ [(2, 0, 0, 0)] (zfl 2 σ) [] := zRc.name2 (N := Nt) rc0_ (by have := br_6_11.1; have := br_6_11.2; have := bcc.1; have := bcc.2; have := bsz_.1; have := bsz_.2; have : ((-1) : Int32).toInt = (-1) := (by decide); have : (4 : Int32).toInt = 4 := (by decide); omega) (fun i d9 e9 => by cases hinl.symm.trans e9; have h7 := q_15; rw [show x_1.toInt.toNat = iq by omega] at h7; intro h8; rw [h8] at h7; have h6 : zfi none = -1 := rfl; have := br_12_28.1; have := br_12_28.2; have := br_6_11.1; have := br_6_11.2; have := bcc.1; have := bcc.2; have := bsz_.1; have := bsz_.2; have : ((-1) : Int32).toInt = (-1) := (by decide); have : (4 : Int32).toInt = 4 := (by decide); omega)
      have st_32 : zss σ (zfl 2 σ) := zsm.fl.ss
      have ss_32 : zsN σ (zfl 2 σ) := ss0_.trans st_32.sN
      have cc_32 : zCc Γ F F_29 th (zTo Bt nt) σ (zfl 2 σ) (3) := (cc0_.mv hfF_29 hth (by decide) (zTo_P Bt nt) zsm.fl.cs)
      generalize hσ_32 : zfl 2 σ = σ_32 at c1_32 rc_32 st_32 ss_32 cc_32
      obtain ⟨⟨x_33, kx_33, nx_33⟩, ⟨x_34, kx_34, nx_34⟩, ox_33⟩ := id c1_32
      have gx_33 := zC1.nx c1_32 hLs_.1 kx_33
      have bx_33 : zB 0 600 x_33 := ⟨by omega, by have := hLs_.2.1; omega⟩
      have bx_34 := zB.all x_34
      have mo_32 := zss.nx st_32 ox_1 ox_33
      have nm_35 : zNm F_29 fu (zTo Bt nt) Nt σ_32 := by rw [← hσ_32]; exact zNm.fl
      have cc_36 : zCc Γ F F_29 th (zTo Bt nt) σ σ_32 (1) := zCc.bad cc_32 (by rw [← hσ_32]; exact zfl_bad _ _)
      refine lv_goto (tgt := 61) hx hb dX7_readName_40 (by decide) ?_
      have oth_37 : zOth Γ F F_29 fu := ((zOth.rf : zOth Γ F F fu).fr hfF_29 (by decide))
      subst hQ
      exact W.vret hx hb hr (fun t ht hW => ⟨⟨F_29, rfl, ⟨⟨σ_32, c1_32, rc_32, ss_32, (cc_36.w (by have := br_6_11.1; have := br_6_11.2; have := bcc.1; have := bcc.2; have := bsz_.1; have := bsz_.2; have := bx_33.1; have := bx_33.2; have := bx_34.1; have := bx_34.2; have : ((-1) : Int32).toInt = (-1) := (by decide); have : (4 : Int32).toInt = 4 := (by decide); omega)), nm_35⟩, oth_37, trivial⟩, by rw [ht]; exact h.1, h.2.1, (hfF_29.w (by decide))⟩, h.2.2.F ht⟩) h.2.2.2.2 dX7_readName_61
  · have c_10 := z_ne c_10
    refine lv_aload_n hx hb dX7_readName_8 rfl (lv_at hl 0 rfl) ?_
    refine lv_iconst (v := 1) hx hb dX7_readName_9 (by decide) ?_
    refine zk_Vv (As := [.int 1]) (rest := []) (bytes := cX7_fail) (maxL := 2) (ret := none) Z h (ze_X7_fail l D k Γ L F H.size th 1 tk Bt nt Nt σ hth ktk htk p_tb p_au (by have := br_6.1; have := br_6.2; have := bcc.1; have := bcc.2; have := bsz_.1; have := bsz_.2; have := bx_1.1; have := bx_1.2; have := bx_2.1; have := bx_2.2; have : (1 : Int32).toInt = 1 := (by decide); have : (4 : Int32).toInt = 4 := (by decide); omega)) (cwV 1 hg zv_RX7_79 rfl rfl rfl zd_X7_fail ⟨z_leR hRf (by decide), z_leR hRl (by decide)⟩) hth (by decide) rfl rfl hl.1 rfl (Nat.le_of_ble_eq_true rfl) dX7_readName_10 ⟨Nat.zero_le _, Nat.zero_le _⟩ (fun F_38 H locs w_39 h hfF_38 => ?_)
    obtain ⟨q_40, -⟩ := w_39
    have c1_41 : zC1 F_38 th Nt (zfl 1 σ) := (by have h9 := q_40; rw [show (1 : Int32).toInt = 1 by decide] at h9; exact h9)
    have rc_41 : zRc (zTo Bt nt) σ [(2, 0, 0, 0)] (zfl 1 σ) [] := zRc.name1 (N := Nt) rc0_ (by have := br_6.1; have := br_6.2; have := bcc.1; have := bcc.2; have := bsz_.1; have := bsz_.2; have : (4 : Int32).toInt = 4 := (by decide); omega)
    have st_41 : zss σ (zfl 1 σ) := zsm.fl.ss
    have ss_41 : zsN σ (zfl 1 σ) := ss0_.trans st_41.sN
    have cc_41 : zCc Γ F F_38 th (zTo Bt nt) σ (zfl 1 σ) (3) := (cc0_.mv hfF_38 hth (by decide) (zTo_P Bt nt) zsm.fl.cs)
    generalize hσ_41 : zfl 1 σ = σ_41 at c1_41 rc_41 st_41 ss_41 cc_41
    obtain ⟨⟨x_42, kx_42, nx_42⟩, ⟨x_43, kx_43, nx_43⟩, ox_42⟩ := id c1_41
    have gx_42 := zC1.nx c1_41 hLs_.1 kx_42
    have bx_42 : zB 0 600 x_42 := ⟨by omega, by have := hLs_.2.1; omega⟩
    have bx_43 := zB.all x_43
    have mo_41 := zss.nx st_41 ox_1 ox_42
    have nm_44 : zNm F_38 fu (zTo Bt nt) Nt σ_41 := by rw [← hσ_41]; exact zNm.fl
    have cc_45 : zCc Γ F F_38 th (zTo Bt nt) σ σ_41 (1) := zCc.bad cc_41 (by rw [← hσ_41]; exact zfl_bad _ _)
    refine lv_goto (tgt := 61) hx hb dX7_readName_13 (by decide) ?_
    have oth_46 : zOth Γ F F_38 fu := ((zOth.rf : zOth Γ F F fu).fr hfF_38 (by decide))
    subst hQ
    exact W.vret hx hb hr (fun t ht hW => ⟨⟨F_38, rfl, ⟨⟨σ_41, c1_41, rc_41, ss_41, (cc_45.w (by have := br_6.1; have := br_6.2; have := bcc.1; have := bcc.2; have := bsz_.1; have := bsz_.2; have := bx_42.1; have := bx_42.2; have := bx_43.1; have := bx_43.2; have : (4 : Int32).toInt = 4 := (by decide); omega)), nm_44⟩, oth_46, trivial⟩, by rw [ht]; exact h.1, h.2.1, (hfF_38.w (by decide))⟩, h.2.2.F ht⟩) h.2.2.2.2 dX7_readName_61

set_option maxHeartbeats 4000000 in
set_option maxRecDepth 100000 in
theorem ze_X7_readPlace (l : Launch) (D : va_G) (k : Nat → ClassId) (Γ : Nat → Option Nat) (L : List Nat) (F : Nat → va_E) (sz : Nat) (th : Nat) (fu : Nat) (pr : Nat) (tk : Nat) (co : Nat) (Bt : Nat → Int32) (nt : Nat) (Nt : Nat) (cc : Int32) (σ : zSg) (hth : Γ th = some 7) (hfu : Γ fu = some 2) (kpr : zfld F th 3 = .ref pr) (hpr : Γ pr = some 6) (ktk : zfld F th 4 = .ref tk) (htk : Γ tk = some 8) (kco : zfld F th 5 = .ref co) (hco : Γ co = some 1) (p_tb : zTb Γ F tk Bt nt Nt) (kcc : zfld F th 11 = .int cc) (bcc : zB 0 150 cc) (p_au : zC1 F th Nt (σ)) (hm_ : ∀ i d9, σ = .inl (i, d9) → 4 * cc.toInt + 5 ≤ zpo Bt nt i + (0)) (p_pl : zPl Γ F fu σ) : Met l yX7_readPlace zwX7_readPlace ({ frames := 2, cells := 0, slots := 0, locals := 61 }) (va_Pc [.ref th, .ref fu] (zP D k Γ L F sz)) (va_Qv (fun (u : Nat → va_E) => (∃ σ9 : zSg, zC1 u th Nt σ9 ∧ zRc (zTo Bt nt) σ [(4, 0, 0, 0)] σ9 [] ∧ zsP σ σ9 ∧ zCc Γ F u th (zTo Bt nt) σ σ9 (0) ∧ zPl Γ u fu σ9) ∧ zOth Γ F u fu ∧ True) (zQ D k Γ L F [207, 701, 702, 706, 10300]) (zA L sz)) 0 0 (zA L sz) := by
  refine Met.ofW (cc := cX7_readPlace) (maxL := 2) (ret := none) (by decide) rfl ?_
  intro p e s m args below meth c s₁ B hml hv
  obtain ⟨rfl, hsz, hP, hK, hLn, hE, hI⟩ := hv
  have hx := B.exec
  have hb := B.bytes
  have hr := B.returns
  have hg : ∀ w ∈ zG, w.before _ s = true := fun w h9 => atoms_spec (ws := zwX7_readPlace) B.pre w (List.mem_cons_of_mem _ h9)
  have hown : s.vm.findClass RX7 = some m.cls := findClass_of_methodNamed B.named
  have hlocks := B.notSynchronized
  subst hsz
  have Z : zC p m c cX7_readPlace 2 s _ zG RX7 D k L := ⟨⟨hx, hb, hml, hown, hg⟩, hK, hLn, hE⟩
  have h : zH D k Γ L s F s.heap [] := ⟨hP, hI, va_S.rf⟩
  have hl := lv_entry ([.ref th, .ref fu]) (n := 2) (Nat.le_of_ble_eq_true rfl)
  rw [lg_entry_eq]
  generalize (lg_sl ([.ref th, .ref fu]) ++ List.replicate (2 - (lg_sl ([.ref th, .ref fu])).length) Slot.unset).toArray = ls at hl ⊢
  have hl : lv_has ls 2 [(0, .ref th), (1, .ref fu)] := hl
  clear hP hK hLn hE hI
  generalize hargs : ([.ref th, .ref fu] : List Value).toArray = args at *
  refine z_start (fun R Q hRf hRl hQ => ?_)
  have hRf : R.frames = 2 := hRf
  have hRl : R.locals = 61 := hRl
  have h9 := h
  have hLs_ := p_tb.2.2.2.1
  obtain ⟨sz_, ksz_, tsz_⟩ := p_tb.2.2.1
  have bsz_ : zB 1 601 sz_ := ⟨by have := hLs_.1; omega, by have := hLs_.2.1; omega⟩
  obtain ⟨⟨x_1, kx_1, nx_1⟩, ⟨x_2, kx_2, nx_2⟩, ox_1⟩ := id p_au
  have gx_1 := zC1.nx p_au hLs_.1 kx_1
  have bx_1 : zB 0 600 x_1 := ⟨by omega, by have := hLs_.2.1; omega⟩
  have bx_2 := zB.all x_2
  have ad_3 := z_ad (j := 7) (c := 106) h.2.1 hth (by decide) rfl
  have ad_4 := z_ad (j := 8) (c := 107) h.2.1 hth (by decide) rfl
  have ad_5 := z_ad (j := 10) (c := 161) h.2.1 hth (by decide) rfl
  have cc0_ : zCc Γ F F th (zTo Bt nt) σ σ (0) := zCc.rf kcc bcc.1 ⟨ad_3, ad_4, ad_5⟩ hm_
  have rc0_ : zRc (zTo Bt nt) σ [(4, 0, 0, 0)] σ [(4, 0, 0, 0)] := zRc.rf
  have ss0_ : zsP σ σ := zsP.rf
  have ad_6 := z_ad (j := 8) (c := 103) h.2.1 hfu (by decide) rfl
  obtain ⟨x_7, kx_7, bx_7⟩ := z_learn (j := 7) (lo := 0) (hi := 3) h hfu (by decide) rfl
  have q_8 := zPl.k p_pl kx_7
  refine lv_aload_n hx hb dX7_readPlace_0 rfl (lv_at hl 0 rfl) ?_
  refine zk_Vi (As := []) (rest := []) (bytes := cX7_kind) (maxL := 2) (ret := (some .int)) Z h (ze_X7_kind l D k Γ L F s.heap.size th tk Bt nt Nt σ hth ktk htk p_tb p_au) (cwV 0 hg zv_RX7_65 rfl rfl rfl zd_X7_kind ⟨z_leR hRf (by decide), z_leR hRl (by decide)⟩) hth (by decide) rfl rfl hl.1 rfl (Nat.le_of_ble_eq_true rfl) dX7_readPlace_1 ⟨Nat.zero_le _, Nat.zero_le _⟩ (fun r_9 F_10 H locs w_11 h hfF_10 => ?_)
  obtain ⟨rfl, q_12, -⟩ := w_11
  have br_9 := zB.all r_9
  refine lv_iconst (v := 3) hx hb dX7_readPlace_4 (by decide) ?_
  refine lv_icmp_eq (tgt := 16) hx hb dX7_readPlace_5 (by decide) (fun c_13 => ?_) (fun c_13 => ?_)
  · have c_13 := z_eq c_13
    have br_9_14 : zB 3 3 r_9 := zB.eqL (a := 0) (b := 0) c_13 (zBc 3 3 (by decide))
    obtain ⟨iq, dq, hinl⟩ := zinl hLs_ (σ := σ) ⟨by have := br_9_14.1; have := br_9_14.2; have := bcc.1; have := bcc.2; have := bsz_.1; have := bsz_.2; have := bx_1.1; have := bx_1.2; have := bx_2.1; have := bx_2.2; have := bx_7.1; have := bx_7.2; have : (3 : Int32).toInt = 3 := (by decide); omega, by have := br_9_14.1; have := br_9_14.2; have := bcc.1; have := bcc.2; have := bsz_.1; have := bsz_.2; have := bx_1.1; have := bx_1.2; have := bx_2.1; have := bx_2.2; have := bx_7.1; have := bx_7.2; have : (3 : Int32).toInt = 3 := (by decide); omega⟩
    have hq_ : x_1.toInt = (iq : Int) := by rw [nx_1, hinl]; rfl
    have hpq_ := p_pl.2 iq dq hinl
    have hpc_ := q_8 iq dq hinl
    refine lv_aload_n hx hb dX7_readPlace_16 rfl (lv_at hl 1 rfl) ?_
    refine lv_aload_n hx hb dX7_readPlace_17 rfl (lv_at hl 0 rfl) ?_
    refine zt_getk (t := 7) (C := RX7) (T := TX7) (N := 12) Z h hth zin_7 rfl 4 ktk ⟨by decide, rfl, by decide⟩ (zm_RX7 (List.mem_of_getElem? (i := 4) rfl)) (fun _ h9 => h9) dX7_readPlace_18 ?_
    refine lv_aload_n hx hb dX7_readPlace_21 rfl (lv_at hl 0 rfl) ?_
    refine zt_getk (t := 7) (C := RX7) (T := TX7) (N := 12) Z h hth zin_7 rfl 6 kx_1 ⟨by decide, rfl, by decide⟩ (zm_RX7 (List.mem_of_getElem? (i := 9) rfl)) (fun _ h9 => h9) dX7_readPlace_22 ?_
    refine zk_Vi (As := [.int x_1]) (rest := [.ref fu]) (bytes := cX8_letterOf) (maxL := 2) (ret := (some .int)) Z h (ze_X8_letterOf l D k Γ L F H.size tk x_1 Bt nt Nt htk p_tb ⟨by have := bx_1.1; have := bx_1.2; have := br_9_14.1; have := br_9_14.2; have := bcc.1; have := bcc.2; have := bsz_.1; have := bsz_.2; have := bx_2.1; have := bx_2.2; have := bx_7.1; have := bx_7.2; have : (3 : Int32).toInt = 3 := (by decide); omega, by have := bx_1.1; have := bx_1.2; have := br_9_14.1; have := br_9_14.2; have := bcc.1; have := bcc.2; have := bsz_.1; have := bsz_.2; have := bx_2.1; have := bx_2.2; have := bx_7.1; have := bx_7.2; have : (3 : Int32).toInt = 3 := (by decide); omega, by rw [nx_1, zkd_nx]; have := bx_1.1; have := bx_1.2; have := br_9_14.1; have := br_9_14.2; have := bcc.1; have := bcc.2; have := bsz_.1; have := bsz_.2; have := bx_2.1; have := bx_2.2; have := bx_7.1; have := bx_7.2; have : (3 : Int32).toInt = 3 := (by decide); omega⟩) (cwV 1 hg zv_RX7_139 rfl rfl rfl zd_X8_letterOf ⟨z_leR hRf (by decide), z_leR hRl (by decide)⟩) htk (by decide) rfl rfl hl.1 rfl (Nat.le_of_ble_eq_true rfl) dX7_readPlace_25 ⟨Nat.zero_le _, Nat.zero_le _⟩ (fun r_15 F_16 H locs w_17 h hfF_16 => ?_)
    obtain ⟨rfl, br_15, q_18, -⟩ := w_17
    refine zk_Vi (As := [.int r_15]) (rest := []) (bytes := cX2_hasPlace) (maxL := 3) (ret := (some .boolean)) Z h (ze_X2_hasPlace l D k Γ L F H.size fu r_15 x_7 hfu kx_7 bx_7) (cwV 1 hg zv_RX7_142 rfl rfl rfl zd_X2_hasPlace ⟨z_leR hRf (by decide), z_leR hRl (by decide)⟩) hfu (by decide) rfl rfl hl.1 rfl (Nat.le_of_ble_eq_true rfl) dX7_readPlace_28 ⟨Nat.zero_le _, Nat.zero_le _⟩ (fun r_19 F_20 H locs w_21 h hfF_20 => ?_)
    obtain ⟨rfl, br_19, q_22, -⟩ := w_21
    refine lv_if_eq (tgt := 42) hx hb dX7_readPlace_31 (by decide) (fun c_23 => ?_) (fun c_23 => ?_)
    · have c_23 := z_eq c_23
      have br_19_24 : zB 0 0 r_19 := zB.eqL (a := 0) (b := 0) c_23 (zBc 0 0 (by decide))
      refine lv_aload_n hx hb dX7_readPlace_42 rfl (lv_at hl 1 rfl) ?_
      refine zt_getk (t := 2) (C := RX2) (T := TX2) (N := 9) Z h hfu zin_2 rfl 7 kx_7 ⟨by decide, rfl, by decide⟩ (zm_RX7 (List.mem_of_getElem? (i := 60) rfl)) (fun _ h9 => h9) dX7_readPlace_43 ?_
      refine lv_iconst (v := 3) hx hb dX7_readPlace_46 (by decide) ?_
      refine lv_icmp_lt (tgt := 58) hx hb dX7_readPlace_47 (by decide) (fun c_25 => ?_) (fun c_25 => ?_)
      · have c_25 := z_lt c_25
        have bx_7_26 : zB 0 2 x_7 := zB.ltL c_25 bx_7 (zBc 3 3 (by decide)) (by decide)
        refine lv_aload_n hx hb dX7_readPlace_58 rfl (lv_at hl 1 rfl) ?_
        refine lv_aload_n hx hb dX7_readPlace_59 rfl (lv_at hl 0 rfl) ?_
        refine zt_getk (t := 7) (C := RX7) (T := TX7) (N := 12) Z h hth zin_7 rfl 4 ktk ⟨by decide, rfl, by decide⟩ (zm_RX7 (List.mem_of_getElem? (i := 4) rfl)) (fun _ h9 => h9) dX7_readPlace_60 ?_
        refine lv_aload_n hx hb dX7_readPlace_63 rfl (lv_at hl 0 rfl) ?_
        refine zt_getk (t := 7) (C := RX7) (T := TX7) (N := 12) Z h hth zin_7 rfl 6 kx_1 ⟨by decide, rfl, by decide⟩ (zm_RX7 (List.mem_of_getElem? (i := 9) rfl)) (fun _ h9 => h9) dX7_readPlace_64 ?_
        refine zk_Vi (As := [.int x_1]) (rest := [.ref fu]) (bytes := cX8_letterOf) (maxL := 2) (ret := (some .int)) Z h (ze_X8_letterOf l D k Γ L F H.size tk x_1 Bt nt Nt htk p_tb ⟨by have := bx_1.1; have := bx_1.2; have := br_9_14.1; have := br_9_14.2; have := bcc.1; have := bcc.2; have := bsz_.1; have := bsz_.2; have := bx_2.1; have := bx_2.2; have := bx_7_26.1; have := bx_7_26.2; have : (0 : Int32).toInt = 0 := (by decide); have : (3 : Int32).toInt = 3 := (by decide); omega, by have := bx_1.1; have := bx_1.2; have := br_9_14.1; have := br_9_14.2; have := bcc.1; have := bcc.2; have := bsz_.1; have := bsz_.2; have := bx_2.1; have := bx_2.2; have := bx_7_26.1; have := bx_7_26.2; have : (0 : Int32).toInt = 0 := (by decide); have : (3 : Int32).toInt = 3 := (by decide); omega, by rw [nx_1, zkd_nx]; have := bx_1.1; have := bx_1.2; have := br_9_14.1; have := br_9_14.2; have := bcc.1; have := bcc.2; have := bsz_.1; have := bsz_.2; have := bx_2.1; have := bx_2.2; have := bx_7_26.1; have := bx_7_26.2; have : (0 : Int32).toInt = 0 := (by decide); have : (3 : Int32).toInt = 3 := (by decide); omega⟩) (cwV 1 hg zv_RX7_139 rfl rfl rfl zd_X8_letterOf ⟨z_leR hRf (by decide), z_leR hRl (by decide)⟩) htk (by decide) rfl rfl hl.1 rfl (Nat.le_of_ble_eq_true rfl) dX7_readPlace_67 ⟨Nat.zero_le _, Nat.zero_le _⟩ (fun r_27 F_28 H locs w_29 h hfF_28 => ?_)
        obtain ⟨rfl, br_27, q_30, -⟩ := w_29
        refine zk_Vv (As := [.int r_27]) (rest := []) (bytes := cX2_addPlace) (maxL := 2) (ret := none) Z h (ze_X2_addPlace l D k Γ L F H.size fu r_27 x_7 hfu kx_7 bx_7_26) (cwV 1 hg zv_RX7_149 rfl rfl rfl zd_X2_addPlace ⟨z_leR hRf (by decide), z_leR hRl (by decide)⟩) hfu (by decide) rfl rfl hl.1 rfl (Nat.le_of_ble_eq_true rfl) dX7_readPlace_70 ⟨Nat.zero_le _, Nat.zero_le _⟩ (fun F_31 H locs w_32 h hfF_31 => ?_)
        obtain ⟨⟨x_34, kx_34, bx_34, q_33⟩, q_35, q_36, -⟩ := w_32
        refine lv_aload_n hx hb dX7_readPlace_73 rfl (lv_at hl 0 rfl) ?_
        refine lv_dup hx hb dX7_readPlace_74 rfl ?_
        refine zt_getk (t := 7) (C := RX7) (T := TX7) (N := 12) Z h hth zin_7 rfl 6 (hfF_31.f hth 6 ⟨by decide, by decide⟩ kx_1) ⟨by decide, rfl, by decide⟩ (zm_RX7 (List.mem_of_getElem? (i := 9) rfl)) (fun _ h9 => h9) dX7_readPlace_75 ?_
        refine lv_iconst (v := 1) hx hb dX7_readPlace_78 (by decide) ?_
        refine lv_iadd hx hb dX7_readPlace_79 ?_
        refine zi_add (lo := 1) (hi := 601) bx_1 (zBc 1 1 (by decide)) (by decide) (fun x_37 bx_37 tx_37 => ?_)
        refine zt_put (t := 7) (C := RX7) (T := TX7) (N := 12) (v := .int x_37) Z h hth zin_7 tyX7 tyX7_ok nmX7 rfl 6 rfl ⟨by decide, rfl⟩ (zm_RX7 (List.mem_of_getElem? (i := 9) rfl)) (fun _ h9 => h9) rfl (zV.i (bx_37.w ⟨by decide, by decide⟩)) rfl rfl dX7_readPlace_80 (fun H locs F_38 h hfF_38 kF_38 => ?_)
        have ad_39 := ad_6.fr hfF_31 hfu ⟨by decide, by decide⟩
        have ar_40 : zar F_38 fu 8 = (upd (zar F fu 8) (Int32.toNatClampNeg x_7) r_27) := ((ad_39.ar hfF_38 hfu ⟨by decide, by decide⟩ ⟨by decide, by decide⟩).trans q_35)
        have c1_41 := (p_au.fr hfF_31 hth (by decide))
        have cc_42 := (cc0_.fr hfF_31 hth (by decide) (zTo_P Bt nt))
        have c1_43 : zC1 F_38 th Nt (zadv (zmap (fun i d9 => zaddp d9 ((zTo Bt nt).2.2 i - 1)) σ)) := (zC1.adm (T := zTo Bt nt) c1_41 hfF_38 hth (by decide) (hfF_31.f hth 6 ⟨by decide, by decide⟩ kx_1) kF_38 (by have := bx_1.1; have := bx_1.2; have := br_9_14.1; have := br_9_14.2; have := bcc.1; have := bcc.2; have := bsz_.1; have := bsz_.2; have := bx_37.1; have := bx_37.2; have := bx_2.1; have := bx_2.2; have := bx_34.1; have := bx_34.2; have : (0 : Int32).toInt = 0 := (by decide); have : (1 : Int32).toInt = 1 := (by decide); have : (3 : Int32).toInt = 3 := (by decide); omega) hLs_ ⟨by have := bx_1.1; have := bx_1.2; have := br_9_14.1; have := br_9_14.2; have := bcc.1; have := bcc.2; have := bsz_.1; have := bsz_.2; have := bx_37.1; have := bx_37.2; have := bx_2.1; have := bx_2.2; have := bx_34.1; have := bx_34.2; have : (0 : Int32).toInt = 0 := (by decide); have : (1 : Int32).toInt = 1 := (by decide); have : (3 : Int32).toInt = 3 := (by decide); omega, by have := bx_1.1; have := bx_1.2; have := br_9_14.1; have := br_9_14.2; have := bcc.1; have := bcc.2; have := bsz_.1; have := bsz_.2; have := bx_37.1; have := bx_37.2; have := bx_2.1; have := bx_2.2; have := bx_34.1; have := bx_34.2; have : (0 : Int32).toInt = 0 := (by decide); have : (1 : Int32).toInt = 1 := (by decide); have : (3 : Int32).toInt = 3 := (by decide); omega⟩)
        have rc_43 : zRc (zTo Bt nt) σ [(4, 0, 0, 0)] (zadv (zmap (fun i d9 => zaddp d9 ((zTo Bt nt).2.2 i - 1)) σ)) [] := zRc.place0 (N := Nt) rc0_ (by have := br_9_14.1; have := br_9_14.2; have := bcc.1; have := bcc.2; have := bsz_.1; have := bsz_.2; have := bx_37.1; have := bx_37.2; have := bx_2.1; have := bx_2.2; have := bx_34.1; have := bx_34.2; have : (0 : Int32).toInt = 0 := (by decide); have : (1 : Int32).toInt = 1 := (by decide); have : (3 : Int32).toInt = 3 := (by decide); omega) (fun i d9 e9 => by cases hinl.symm.trans e9; have h5 := q_18; rw [show x_1.toInt.toNat = iq by omega] at h5; refine ⟨?_, by have := br_19_24.1; have := br_19_24.2; have := br_15.1; have := br_15.2; have := bx_7_26.1; have := bx_7_26.2; have := br_9_14.1; have := br_9_14.2; have := bcc.1; have := bcc.2; have := bsz_.1; have := bsz_.2; have := bx_37.1; have := bx_37.2; have := bx_2.1; have := bx_2.2; have := bx_34.1; have := bx_34.2; have : (0 : Int32).toInt = 0 := (by decide); have : (1 : Int32).toInt = 1 := (by decide); have : (3 : Int32).toInt = 3 := (by decide); omega⟩; rcases q_22 with ⟨g1, g2⟩ | ⟨g1, g2⟩; exfalso; have := br_19_24.1; have := br_19_24.2; have := br_15.1; have := br_15.2; have := bx_7_26.1; have := bx_7_26.2; have := br_9_14.1; have := br_9_14.2; have := bcc.1; have := bcc.2; have := bsz_.1; have := bsz_.2; have := bx_37.1; have := bx_37.2; have := bx_2.1; have := bx_2.2; have := bx_34.1; have := bx_34.2; have : (0 : Int32).toInt = 0 := (by decide); have : (1 : Int32).toInt = 1 := (by decide); have : (3 : Int32).toInt = 3 := (by decide); omega; rintro ⟨q, g3, g4⟩; have h4 := g2 q (by omega); rw [hpq_.2 q g3] at h4; omega)
        have st_43 : zsP σ (zadv (zmap (fun i d9 => zaddp d9 ((zTo Bt nt).2.2 i - 1)) σ)) := zsP.pl (K := (zTo Bt nt).2.2)
        have ss_43 : zsP σ (zadv (zmap (fun i d9 => zaddp d9 ((zTo Bt nt).2.2 i - 1)) σ)) := ss0_.trans st_43
        have cc_43 : zCc Γ F F_38 th (zTo Bt nt) σ (zadv (zmap (fun i d9 => zaddp d9 ((zTo Bt nt).2.2 i - 1)) σ)) (0) := (cc_42.mv hfF_38 hth (by decide) (zTo_P Bt nt) (zadm_cs (f := fun i d9 => zaddp d9 ((zTo Bt nt).2.2 i - 1)) (fun _ _ => rfl)))
        generalize hσ_43 : zadv (zmap (fun i d9 => zaddp d9 ((zTo Bt nt).2.2 i - 1)) σ) = σ_43 at c1_43 rc_43 st_43 ss_43 cc_43
        obtain ⟨⟨x_44, kx_44, nx_44⟩, ⟨x_45, kx_45, nx_45⟩, ox_44⟩ := id c1_43
        have gx_44 := zC1.nx c1_43 hLs_.1 kx_44
        have bx_44 : zB 0 600 x_44 := ⟨by omega, by have := hLs_.2.1; omega⟩
        have bx_45 := zB.all x_45
        have vx_44 := congrArg Int32.toInt (z_same kF_38 kx_44)
        have mo_43 := zsP.nx st_43 ox_1 ox_44
        have ad_47 := ad_39.fr hfF_38 hfu ⟨by decide, by decide⟩
        have pl_46 : zPl Γ F_38 fu σ_43 := by rw [← hσ_43]; exact zPl.add (K := (zTo Bt nt).2.2) p_pl ad_47 kx_7 (by have := bx_34.1; have := bx_34.2; have := bx_7_26.1; have := bx_7_26.2; have := br_9_14.1; have := br_9_14.2; have := bcc.1; have := bcc.2; have := bsz_.1; have := bsz_.2; have := bx_44.1; have := bx_44.2; have := bx_45.1; have := bx_45.2; have : (0 : Int32).toInt = 0 := (by decide); have : (1 : Int32).toInt = 1 := (by decide); have : (3 : Int32).toInt = 3 := (by decide); omega) (hfF_38.f hfu 7 ⟨by decide, by decide⟩ kx_34) (by have := bx_34.1; have := bx_34.2; have := bx_7_26.1; have := bx_7_26.2; have := br_9_14.1; have := br_9_14.2; have := bcc.1; have := bcc.2; have := bsz_.1; have := bsz_.2; have := bx_44.1; have := bx_44.2; have := bx_45.1; have := bx_45.2; have : (0 : Int32).toInt = 0 := (by decide); have : (1 : Int32).toInt = 1 := (by decide); have : (3 : Int32).toInt = 3 := (by decide); omega) ar_40 (fun i d9 e9 => by cases hinl.symm.trans e9; have h5 := q_30; rw [show x_1.toInt.toNat = iq by omega] at h5; omega)
        have oth_48 : zOth Γ F F_38 fu := (((zOth.rf : zOth Γ F F fu).trans q_36).fr hfF_38 (by decide))
        subst hQ
        exact W.vret hx hb hr (fun t ht hW => ⟨⟨F_38, rfl, ⟨⟨σ_43, c1_43, rc_43, ss_43, (cc_43.w (by have := br_9_14.1; have := br_9_14.2; have := bcc.1; have := bcc.2; have := bsz_.1; have := bsz_.2; have := bx_44.1; have := bx_44.2; have := bx_45.1; have := bx_45.2; have := bx_34.1; have := bx_34.2; have : (0 : Int32).toInt = 0 := (by decide); have : (1 : Int32).toInt = 1 := (by decide); have : (3 : Int32).toInt = 3 := (by decide); omega)), pl_46⟩, oth_48, trivial⟩, by rw [ht]; exact h.1, h.2.1, ((hfF_31.w (by decide)).trans hfF_38 (by decide))⟩, h.2.2.F ht⟩) h.2.2.2.2 dX7_readPlace_83
      · have c_25 := z_nlt c_25
        have bx_7_49 : zB 3 3 x_7 := zB.leR c_25 (zBc 3 3 (by decide)) bx_7 (by decide)
        refine lv_aload_n hx hb dX7_readPlace_50 rfl (lv_at hl 0 rfl) ?_
        refine lv_iconst (v := 3) hx hb dX7_readPlace_51 (by decide) ?_
        refine zk_Vv (As := [.int 3]) (rest := []) (bytes := cX7_fail) (maxL := 2) (ret := none) Z h (ze_X7_fail l D k Γ L F H.size th 3 tk Bt nt Nt σ hth ktk htk p_tb p_au (by have := br_9_14.1; have := br_9_14.2; have := bcc.1; have := bcc.2; have := bsz_.1; have := bsz_.2; have := bx_1.1; have := bx_1.2; have := bx_2.1; have := bx_2.2; have := bx_7_49.1; have := bx_7_49.2; have : (0 : Int32).toInt = 0 := (by decide); have : (3 : Int32).toInt = 3 := (by decide); omega)) (cwV 1 hg zv_RX7_79 rfl rfl rfl zd_X7_fail ⟨z_leR hRf (by decide), z_leR hRl (by decide)⟩) hth (by decide) rfl rfl hl.1 rfl (Nat.le_of_ble_eq_true rfl) dX7_readPlace_52 ⟨Nat.zero_le _, Nat.zero_le _⟩ (fun F_50 H locs w_51 h hfF_50 => ?_)
        obtain ⟨q_52, -⟩ := w_51
        have c1_53 : zC1 F_50 th Nt (zfl 3 σ) := (by have h9 := q_52; rw [show (3 : Int32).toInt = 3 by decide] at h9; exact h9)
        have rc_53 : zRc (zTo Bt nt) σ [(4, 0, 0, 0)] (zfl 3 σ) [] := zRc.place3 (N := Nt) rc0_ (by have := br_9_14.1; have := br_9_14.2; have := bcc.1; have := bcc.2; have := bsz_.1; have := bsz_.2; have := bx_7_49.1; have := bx_7_49.2; have : (0 : Int32).toInt = 0 := (by decide); have : (3 : Int32).toInt = 3 := (by decide); omega) (fun i d9 e9 => by cases hinl.symm.trans e9; have h5 := q_18; rw [show x_1.toInt.toNat = iq by omega] at h5; refine ⟨?_, by have := br_19_24.1; have := br_19_24.2; have := br_15.1; have := br_15.2; have := bx_7_49.1; have := bx_7_49.2; have := br_9_14.1; have := br_9_14.2; have := bcc.1; have := bcc.2; have := bsz_.1; have := bsz_.2; have : (0 : Int32).toInt = 0 := (by decide); have : (3 : Int32).toInt = 3 := (by decide); omega⟩; rcases q_22 with ⟨g1, g2⟩ | ⟨g1, g2⟩; exfalso; have := br_19_24.1; have := br_19_24.2; have := br_15.1; have := br_15.2; have := bx_7_49.1; have := bx_7_49.2; have := br_9_14.1; have := br_9_14.2; have := bcc.1; have := bcc.2; have := bsz_.1; have := bsz_.2; have : (0 : Int32).toInt = 0 := (by decide); have : (3 : Int32).toInt = 3 := (by decide); omega; rintro ⟨q, g3, g4⟩; have h4 := g2 q (by omega); rw [hpq_.2 q g3] at h4; omega)
        have st_53 : zss σ (zfl 3 σ) := zsm.fl.ss
        have ss_53 : zsP σ (zfl 3 σ) := ss0_.trans st_53.sP
        have cc_53 : zCc Γ F F_50 th (zTo Bt nt) σ (zfl 3 σ) (0) := (cc0_.mv hfF_50 hth (by decide) (zTo_P Bt nt) zsm.fl.cs)
        generalize hσ_53 : zfl 3 σ = σ_53 at c1_53 rc_53 st_53 ss_53 cc_53
        obtain ⟨⟨x_54, kx_54, nx_54⟩, ⟨x_55, kx_55, nx_55⟩, ox_54⟩ := id c1_53
        have gx_54 := zC1.nx c1_53 hLs_.1 kx_54
        have bx_54 : zB 0 600 x_54 := ⟨by omega, by have := hLs_.2.1; omega⟩
        have bx_55 := zB.all x_55
        have mo_53 := zss.nx st_53 ox_1 ox_54
        have ad_57 := ad_6.fr hfF_50 hfu ⟨by decide, by decide⟩
        have pl_56 : zPl Γ F_50 fu σ_53 := by rw [← hσ_53]; exact zPl.fl ad_57
        refine lv_goto (tgt := 83) hx hb dX7_readPlace_55 (by decide) ?_
        have oth_58 : zOth Γ F F_50 fu := ((zOth.rf : zOth Γ F F fu).fr hfF_50 (by decide))
        subst hQ
        exact W.vret hx hb hr (fun t ht hW => ⟨⟨F_50, rfl, ⟨⟨σ_53, c1_53, rc_53, ss_53, (cc_53.w (by have := br_9_14.1; have := br_9_14.2; have := bcc.1; have := bcc.2; have := bsz_.1; have := bsz_.2; have := bx_54.1; have := bx_54.2; have := bx_55.1; have := bx_55.2; have := bx_7_49.1; have := bx_7_49.2; have : (0 : Int32).toInt = 0 := (by decide); have : (3 : Int32).toInt = 3 := (by decide); omega)), pl_56⟩, oth_58, trivial⟩, by rw [ht]; exact h.1, h.2.1, (hfF_50.w (by decide))⟩, h.2.2.F ht⟩) h.2.2.2.2 dX7_readPlace_83
    · have c_23 := z_ne c_23
      have br_19_59 : zB 1 1 r_19 := zB.neLo c_23 br_19 (zBc 0 0 (by decide)) (by decide)
      refine lv_aload_n hx hb dX7_readPlace_34 rfl (lv_at hl 0 rfl) ?_
      refine lv_iconst (v := 2) hx hb dX7_readPlace_35 (by decide) ?_
      refine zk_Vv (As := [.int 2]) (rest := []) (bytes := cX7_fail) (maxL := 2) (ret := none) Z h (ze_X7_fail l D k Γ L F H.size th 2 tk Bt nt Nt σ hth ktk htk p_tb p_au (by have := br_9_14.1; have := br_9_14.2; have := bcc.1; have := bcc.2; have := bsz_.1; have := bsz_.2; have := bx_1.1; have := bx_1.2; have := bx_2.1; have := bx_2.2; have := bx_7.1; have := bx_7.2; have : (0 : Int32).toInt = 0 := (by decide); have : (2 : Int32).toInt = 2 := (by decide); have : (3 : Int32).toInt = 3 := (by decide); omega)) (cwV 1 hg zv_RX7_79 rfl rfl rfl zd_X7_fail ⟨z_leR hRf (by decide), z_leR hRl (by decide)⟩) hth (by decide) rfl rfl hl.1 rfl (Nat.le_of_ble_eq_true rfl) dX7_readPlace_36 ⟨Nat.zero_le _, Nat.zero_le _⟩ (fun F_60 H locs w_61 h hfF_60 => ?_)
      obtain ⟨q_62, -⟩ := w_61
      have c1_63 : zC1 F_60 th Nt (zfl 2 σ) := (by have h9 := q_62; rw [show (2 : Int32).toInt = 2 by decide] at h9; exact h9)
      have rc_63 : zRc (zTo Bt nt) σ [(4, 0, 0, 0)] (zfl 2 σ) [] := zRc.place2 (N := Nt) rc0_ (by have := br_9_14.1; have := br_9_14.2; have := bcc.1; have := bcc.2; have := bsz_.1; have := bsz_.2; have := bx_7.1; have := bx_7.2; have : (0 : Int32).toInt = 0 := (by decide); have : (3 : Int32).toInt = 3 := (by decide); omega) (fun i d9 e9 => by cases hinl.symm.trans e9; have h5 := q_18; rw [show x_1.toInt.toNat = iq by omega] at h5; rcases q_22 with ⟨g1, q, g2, g3⟩ | ⟨g1, g2⟩; exact ⟨q, by omega, by rw [← hpq_.2 q (by omega)]; omega⟩; exfalso; have := br_19_59.1; have := br_19_59.2; have := br_15.1; have := br_15.2; have := bx_7.1; have := bx_7.2; have := br_9_14.1; have := br_9_14.2; have := bcc.1; have := bcc.2; have := bsz_.1; have := bsz_.2; have : (0 : Int32).toInt = 0 := (by decide); have : (3 : Int32).toInt = 3 := (by decide); omega)
      have st_63 : zss σ (zfl 2 σ) := zsm.fl.ss
      have ss_63 : zsP σ (zfl 2 σ) := ss0_.trans st_63.sP
      have cc_63 : zCc Γ F F_60 th (zTo Bt nt) σ (zfl 2 σ) (0) := (cc0_.mv hfF_60 hth (by decide) (zTo_P Bt nt) zsm.fl.cs)
      generalize hσ_63 : zfl 2 σ = σ_63 at c1_63 rc_63 st_63 ss_63 cc_63
      obtain ⟨⟨x_64, kx_64, nx_64⟩, ⟨x_65, kx_65, nx_65⟩, ox_64⟩ := id c1_63
      have gx_64 := zC1.nx c1_63 hLs_.1 kx_64
      have bx_64 : zB 0 600 x_64 := ⟨by omega, by have := hLs_.2.1; omega⟩
      have bx_65 := zB.all x_65
      have mo_63 := zss.nx st_63 ox_1 ox_64
      have ad_67 := ad_6.fr hfF_60 hfu ⟨by decide, by decide⟩
      have pl_66 : zPl Γ F_60 fu σ_63 := by rw [← hσ_63]; exact zPl.fl ad_67
      refine lv_goto (tgt := 83) hx hb dX7_readPlace_39 (by decide) ?_
      have oth_68 : zOth Γ F F_60 fu := ((zOth.rf : zOth Γ F F fu).fr hfF_60 (by decide))
      subst hQ
      exact W.vret hx hb hr (fun t ht hW => ⟨⟨F_60, rfl, ⟨⟨σ_63, c1_63, rc_63, ss_63, (cc_63.w (by have := br_9_14.1; have := br_9_14.2; have := bcc.1; have := bcc.2; have := bsz_.1; have := bsz_.2; have := bx_64.1; have := bx_64.2; have := bx_65.1; have := bx_65.2; have := bx_7.1; have := bx_7.2; have : (0 : Int32).toInt = 0 := (by decide); have : (3 : Int32).toInt = 3 := (by decide); omega)), pl_66⟩, oth_68, trivial⟩, by rw [ht]; exact h.1, h.2.1, (hfF_60.w (by decide))⟩, h.2.2.F ht⟩) h.2.2.2.2 dX7_readPlace_83
  · have c_13 := z_ne c_13
    refine lv_aload_n hx hb dX7_readPlace_8 rfl (lv_at hl 0 rfl) ?_
    refine lv_iconst (v := 1) hx hb dX7_readPlace_9 (by decide) ?_
    refine zk_Vv (As := [.int 1]) (rest := []) (bytes := cX7_fail) (maxL := 2) (ret := none) Z h (ze_X7_fail l D k Γ L F H.size th 1 tk Bt nt Nt σ hth ktk htk p_tb p_au (by have := br_9.1; have := br_9.2; have := bcc.1; have := bcc.2; have := bsz_.1; have := bsz_.2; have := bx_1.1; have := bx_1.2; have := bx_2.1; have := bx_2.2; have := bx_7.1; have := bx_7.2; have : (1 : Int32).toInt = 1 := (by decide); have : (3 : Int32).toInt = 3 := (by decide); omega)) (cwV 1 hg zv_RX7_79 rfl rfl rfl zd_X7_fail ⟨z_leR hRf (by decide), z_leR hRl (by decide)⟩) hth (by decide) rfl rfl hl.1 rfl (Nat.le_of_ble_eq_true rfl) dX7_readPlace_10 ⟨Nat.zero_le _, Nat.zero_le _⟩ (fun F_69 H locs w_70 h hfF_69 => ?_)
    obtain ⟨q_71, -⟩ := w_70
    have c1_72 : zC1 F_69 th Nt (zfl 1 σ) := (by have h9 := q_71; rw [show (1 : Int32).toInt = 1 by decide] at h9; exact h9)
    have rc_72 : zRc (zTo Bt nt) σ [(4, 0, 0, 0)] (zfl 1 σ) [] := zRc.place1 (N := Nt) rc0_ (by have := br_9.1; have := br_9.2; have := bcc.1; have := bcc.2; have := bsz_.1; have := bsz_.2; have := bx_7.1; have := bx_7.2; have : (3 : Int32).toInt = 3 := (by decide); omega)
    have st_72 : zss σ (zfl 1 σ) := zsm.fl.ss
    have ss_72 : zsP σ (zfl 1 σ) := ss0_.trans st_72.sP
    have cc_72 : zCc Γ F F_69 th (zTo Bt nt) σ (zfl 1 σ) (0) := (cc0_.mv hfF_69 hth (by decide) (zTo_P Bt nt) zsm.fl.cs)
    generalize hσ_72 : zfl 1 σ = σ_72 at c1_72 rc_72 st_72 ss_72 cc_72
    obtain ⟨⟨x_73, kx_73, nx_73⟩, ⟨x_74, kx_74, nx_74⟩, ox_73⟩ := id c1_72
    have gx_73 := zC1.nx c1_72 hLs_.1 kx_73
    have bx_73 : zB 0 600 x_73 := ⟨by omega, by have := hLs_.2.1; omega⟩
    have bx_74 := zB.all x_74
    have mo_72 := zss.nx st_72 ox_1 ox_73
    have ad_76 := ad_6.fr hfF_69 hfu ⟨by decide, by decide⟩
    have pl_75 : zPl Γ F_69 fu σ_72 := by rw [← hσ_72]; exact zPl.fl ad_76
    refine lv_goto (tgt := 83) hx hb dX7_readPlace_13 (by decide) ?_
    have oth_77 : zOth Γ F F_69 fu := ((zOth.rf : zOth Γ F F fu).fr hfF_69 (by decide))
    subst hQ
    exact W.vret hx hb hr (fun t ht hW => ⟨⟨F_69, rfl, ⟨⟨σ_72, c1_72, rc_72, ss_72, (cc_72.w (by have := br_9.1; have := br_9.2; have := bcc.1; have := bcc.2; have := bsz_.1; have := bsz_.2; have := bx_73.1; have := bx_73.2; have := bx_74.1; have := bx_74.2; have := bx_7.1; have := bx_7.2; have : (3 : Int32).toInt = 3 := (by decide); omega)), pl_75⟩, oth_77, trivial⟩, by rw [ht]; exact h.1, h.2.1, (hfF_69.w (by decide))⟩, h.2.2.F ht⟩) h.2.2.2.2 dX7_readPlace_83

set_option maxHeartbeats 4000000 in
set_option maxRecDepth 100000 in
theorem ze_X7_readPlaces (l : Launch) (D : va_G) (k : Nat → ClassId) (Γ : Nat → Option Nat) (L : List Nat) (F : Nat → va_E) (sz : Nat) (th : Nat) (fu : Nat) (pr : Nat) (tk : Nat) (co : Nat) (Bt : Nat → Int32) (nt : Nat) (Nt : Nat) (cc : Int32) (σ : zSg) (pz : Int32) (hth : Γ th = some 7) (hfu : Γ fu = some 2) (kpr : zfld F th 3 = .ref pr) (hpr : Γ pr = some 6) (ktk : zfld F th 4 = .ref tk) (htk : Γ tk = some 8) (kco : zfld F th 5 = .ref co) (hco : Γ co = some 1) (p_tb : zTb Γ F tk Bt nt Nt) (kcc : zfld F th 11 = .int cc) (bcc : zB 0 150 cc) (p_au : zC1 F th Nt (σ)) (hm_ : ∀ i d9, σ = .inl (i, d9) → 4 * cc.toInt + 5 ≤ zpo Bt nt i + (0)) (kpz : zfld F fu 7 = .int pz) (bpz : zB 0 0 pz) : Met l yX7_readPlaces zwX7_readPlaces ({ frames := 3, cells := 0, slots := 0, locals := 82 }) (va_Pc [.ref th, .ref fu] (zP D k Γ L F sz)) (va_Qv (fun (u : Nat → va_E) => (∃ σ9 : zSg, zC1 u th Nt σ9 ∧ zRc (zTo Bt nt) σ [(3, 0, 0, 0)] σ9 [] ∧ zsP σ σ9 ∧ zCc Γ F u th (zTo Bt nt) σ σ9 (0) ∧ zPl Γ u fu σ9) ∧ zOth Γ F u fu ∧ True) (zQ D k Γ L F [207, 701, 702, 706, 10300]) (zA L sz)) 0 0 (zA L sz) := by
  refine Met.ofW (cc := cX7_readPlaces) (maxL := 3) (ret := none) (by decide) rfl ?_
  intro p e s m args below meth c s₁ B hml hv
  obtain ⟨rfl, hsz, hP, hK, hLn, hE, hI⟩ := hv
  have hx := B.exec
  have hb := B.bytes
  have hr := B.returns
  have hg : ∀ w ∈ zG, w.before _ s = true := fun w h9 => atoms_spec (ws := zwX7_readPlaces) B.pre w (List.mem_cons_of_mem _ h9)
  have hown : s.vm.findClass RX7 = some m.cls := findClass_of_methodNamed B.named
  have hlocks := B.notSynchronized
  subst hsz
  have Z : zC p m c cX7_readPlaces 3 s _ zG RX7 D k L := ⟨⟨hx, hb, hml, hown, hg⟩, hK, hLn, hE⟩
  have h : zH D k Γ L s F s.heap [] := ⟨hP, hI, va_S.rf⟩
  have hl := lv_entry ([.ref th, .ref fu]) (n := 3) (Nat.le_of_ble_eq_true rfl)
  rw [lg_entry_eq]
  generalize (lg_sl ([.ref th, .ref fu]) ++ List.replicate (3 - (lg_sl ([.ref th, .ref fu])).length) Slot.unset).toArray = ls at hl ⊢
  have hl : lv_has ls 3 [(0, .ref th), (1, .ref fu)] := hl
  clear hP hK hLn hE hI
  generalize hargs : ([.ref th, .ref fu] : List Value).toArray = args at *
  refine z_start (fun R Q hRf hRl hQ => ?_)
  have hRf : R.frames = 3 := hRf
  have hRl : R.locals = 82 := hRl
  have h9 := h
  have hLs_ := p_tb.2.2.2.1
  obtain ⟨sz_, ksz_, tsz_⟩ := p_tb.2.2.1
  have bsz_ : zB 1 601 sz_ := ⟨by have := hLs_.1; omega, by have := hLs_.2.1; omega⟩
  obtain ⟨⟨x_1, kx_1, nx_1⟩, ⟨x_2, kx_2, nx_2⟩, ox_1⟩ := id p_au
  have gx_1 := zC1.nx p_au hLs_.1 kx_1
  have bx_1 : zB 0 600 x_1 := ⟨by omega, by have := hLs_.2.1; omega⟩
  have bx_2 := zB.all x_2
  have ad_3 := z_ad (j := 7) (c := 106) h.2.1 hth (by decide) rfl
  have ad_4 := z_ad (j := 8) (c := 107) h.2.1 hth (by decide) rfl
  have ad_5 := z_ad (j := 10) (c := 161) h.2.1 hth (by decide) rfl
  have cc0_ : zCc Γ F F th (zTo Bt nt) σ σ (0) := zCc.rf kcc bcc.1 ⟨ad_3, ad_4, ad_5⟩ hm_
  have rc0_ : zRc (zTo Bt nt) σ [(3, 0, 0, 0)] σ [(3, 0, 0, 0)] := zRc.rf
  have ss0_ : zsP σ σ := zsP.rf
  refine lv_aload_n hx hb dX7_readPlaces_0 rfl (lv_at hl 0 rfl) ?_
  refine zk_Vi (As := []) (rest := []) (bytes := cX7_kind) (maxL := 2) (ret := (some .int)) Z h (ze_X7_kind l D k Γ L F s.heap.size th tk Bt nt Nt σ hth ktk htk p_tb p_au) (cwV 0 hg zv_RX7_65 rfl rfl rfl zd_X7_kind ⟨z_leR hRf (by decide), z_leR hRl (by decide)⟩) hth (by decide) rfl rfl hl.1 rfl (Nat.le_of_ble_eq_true rfl) dX7_readPlaces_1 ⟨Nat.zero_le _, Nat.zero_le _⟩ (fun r_6 F_7 H locs w_8 h hfF_7 => ?_)
  obtain ⟨rfl, q_9, -⟩ := w_8
  have br_6 := zB.all r_6
  refine lv_bipush (v := 41) hx hb dX7_readPlaces_4 (by decide) ?_
  refine lv_icmp_ne (tgt := 10) hx hb dX7_readPlaces_6 (by decide) (fun c_10 => ?_) (fun c_10 => ?_)
  · have c_10 := z_ne c_10
    have c1_11 : zC1 F th Nt (zmap (fun _ d => zadd0 d) σ) := p_au.map
    have rc_11 : zRc (zTo Bt nt) σ [(3, 0, 0, 0)] (zmap (fun _ d => zadd0 d) σ) [(4, 0, 0, 0), (5, 0, 0, 0)] := zRc.places1 (N := Nt) rc0_ (by have := br_6.1; have := br_6.2; have := bcc.1; have := bcc.2; have := bpz.1; have := bpz.2; have := bsz_.1; have := bsz_.2; have := bx_1.1; have := bx_1.2; have := bx_2.1; have := bx_2.2; have : (41 : Int32).toInt = 41 := (by decide); omega)
    have st_11 : zsP σ (zmap (fun _ d => zadd0 d) σ) := zsP.z
    have ss_11 : zsP σ (zmap (fun _ d => zadd0 d) σ) := ss0_.trans st_11
    have cc_11 : zCc Γ F F th (zTo Bt nt) σ (zmap (fun _ d => zadd0 d) σ) (0) := (cc0_.mv (zFr.rf : zFr Γ [] F F) hth (by decide) (zTo_P Bt nt) (zmap_cs (f := fun _ d => zadd0 d) (fun _ _ => rfl)))
    generalize hσ_11 : zmap (fun _ d => zadd0 d) σ = σ_11 at c1_11 rc_11 st_11 ss_11 cc_11
    obtain ⟨⟨x_12, kx_12, nx_12⟩, ⟨x_13, kx_13, nx_13⟩, ox_12⟩ := id c1_11
    have gx_12 := zC1.nx c1_11 hLs_.1 kx_12
    have bx_12 : zB 0 600 x_12 := ⟨by omega, by have := hLs_.2.1; omega⟩
    have bx_13 := zB.all x_13
    have vx_12 := congrArg Int32.toInt (z_same kx_1 kx_12)
    have mo_11 := zsP.nx st_11 ox_1 ox_12
    have ad_15 := z_ad (j := 8) (c := 103) h.2.1 hfu (by decide) rfl
    have pl_14 : zPl Γ F fu σ_11 := by rw [← hσ_11]; exact zPl.z ad_15 kpz (by have := bpz.1; have := bpz.2; have := br_6.1; have := br_6.2; have := bcc.1; have := bcc.2; have := bsz_.1; have := bsz_.2; have := bx_12.1; have := bx_12.2; have := bx_13.1; have := bx_13.2; have : (41 : Int32).toInt = 41 := (by decide); omega)
    refine lv_aload_n hx hb dX7_readPlaces_10 rfl (lv_at hl 0 rfl) ?_
    refine lv_aload_n hx hb dX7_readPlaces_11 rfl (lv_at hl 1 rfl) ?_
    refine zk_Vv (As := [.ref fu]) (rest := []) (bytes := cX7_readPlace) (maxL := 2) (ret := none) Z h (ze_X7_readPlace l D k Γ L F H.size th fu pr tk co Bt nt Nt cc σ_11 hth hfu kpr hpr ktk htk kco hco p_tb kcc bcc c1_11 (zCc.m (cc_11.w (dep' := 0) (by have := bcc.1; have := bcc.2; have := br_6.1; have := br_6.2; have := bpz.1; have := bpz.2; have := bsz_.1; have := bsz_.2; have := bx_12.1; have := bx_12.2; have := bx_13.1; have := bx_13.2; have : (41 : Int32).toInt = 41 := (by decide); omega)) kcc) pl_14) (cwV 1 hg zv_RX7_135 rfl rfl rfl zd_X7_readPlace ⟨z_leR hRf (by decide), z_leR hRl (by decide)⟩) hth (by decide) rfl rfl hl.1 rfl (Nat.le_of_ble_eq_true rfl) dX7_readPlaces_12 ⟨Nat.zero_le _, Nat.zero_le _⟩ (fun F_16 H locs w_17 h hfF_16 => ?_)
    obtain ⟨⟨σ_19, c1_19, rn_19, st_19, cn_19, pl_19⟩, q_20, -⟩ := w_17
    have rc_19 : zRc (zTo Bt nt) σ [(3, 0, 0, 0)] σ_19 [(5, 0, 0, 0)] := zRc.calls rc_11 (rn_19.x (zSy_eq (by have := bcc.1; have := bcc.2; have := br_6.1; have := br_6.2; have := bsz_.1; have := bsz_.2; have := bpz.1; have := bpz.2; have : (41 : Int32).toInt = 41 := (by decide); omega) (by have := bcc.1; have := bcc.2; have := br_6.1; have := br_6.2; have := bsz_.1; have := bsz_.2; have := bpz.1; have := bpz.2; have : (41 : Int32).toInt = 41 := (by decide); omega) (by have := bcc.1; have := bcc.2; have := br_6.1; have := br_6.2; have := bsz_.1; have := bsz_.2; have := bpz.1; have := bpz.2; have : (41 : Int32).toInt = 41 := (by decide); omega)))
    have ss_19 : zsP σ σ_19 := ss_11.trans st_19
    have cc_19 : zCc Γ F F_16 th (zTo Bt nt) σ (σ_19) (0) := zCc.call cc_11 cn_19
    obtain ⟨⟨x_21, kx_21, nx_21⟩, ⟨x_22, kx_22, nx_22⟩, ox_21⟩ := id c1_19
    have gx_21 := zC1.nx c1_19 hLs_.1 kx_21
    have bx_21 : zB 0 600 x_21 := ⟨by omega, by have := hLs_.2.1; omega⟩
    have bx_22 := zB.all x_22
    have mo_19 := zsP.nx st_19 ox_12 ox_21
    refine lv_iconst (v := 0) hx hb dX7_readPlaces_15 (by decide) ?_
    refine lv_istore_n (lv' := [(2, .int 0), (0, .ref th), (1, .ref fu)]) hx hb dX7_readPlaces_16 rfl hl (by decide) rfl (fun ls hl => ?_)
    have j_j17_23 : ∀ (n : Nat) (ls : Array Slot) (y2_j17_23 : Int32) (σ_j17_23 : zSg) (F_24 : Nat → va_E) (H : Heap) (locs : List Loc), lv_has ls 3 [(2, .int y2_j17_23), (0, .ref th), (1, .ref fu)] → zB 0 601 y2_j17_23 → zH D k Γ L s F_24 H locs → zFr Γ [207, 701, 702, 706, 10300] F_16 F_24 → (y2_j17_23.toInt ≤ znx Nt σ_j17_23) → (zOth Γ F F_24 fu) → zC1 F_24 th Nt (σ_j17_23) → zRc (zTo Bt nt) σ [(3, 0, 0, 0)] σ_j17_23 [(5, 0, 0, 0)] → zsP σ σ_j17_23 → zCc Γ F F_24 th (zTo Bt nt) σ (σ_j17_23) (0) → zPl Γ F_24 fu σ_j17_23 → (2147483647 - y2_j17_23.toInt).toNat = n → W p l e R s m args below meth c H locs 0 0 Q (F0 m 17 ls []) := by
      intro n
      induction n using Nat.strongRecOn with
      | _ n ih_j17_23 =>
        intro ls y2_j17_23 σ_j17_23 F_24 H locs hl by2_j17_23 h hfF_24 r0_j17_23 r1_j17_23 c1_j17_23 rc_j17_23 ss_j17_23 cc_j17_23 pl_j17_23 hn_j17_23
        obtain ⟨⟨x_25, kx_25, nx_25⟩, ⟨x_26, kx_26, nx_26⟩, ox_25⟩ := id c1_j17_23
        have gx_25 := zC1.nx c1_j17_23 hLs_.1 kx_25
        have bx_25 : zB 0 600 x_25 := ⟨by omega, by have := hLs_.2.1; omega⟩
        have bx_26 := zB.all x_26
        refine lv_iload_n hx hb dX7_readPlaces_17 rfl (lv_at hl 0 rfl) ?_
        refine lv_aload_n hx hb dX7_readPlaces_18 rfl (lv_at hl 1 rfl) ?_
        refine zt_getk (t := 7) (C := RX7) (T := TX7) (N := 12) Z h hth zin_7 rfl 4 (hfF_24.f hth 4 ⟨by decide, by decide⟩ (hfF_16.f hth 4 ⟨by decide, by decide⟩ ktk)) ⟨by decide, rfl, by decide⟩ (zm_RX7 (List.mem_of_getElem? (i := 4) rfl)) (fun _ h9 => h9) dX7_readPlaces_19 ?_
        refine zt_getk (t := 8) (C := RX8) (T := TX8) (N := 6) Z h htk zin_8 rfl 5 (hfF_24.f htk 5 ⟨by decide, by decide⟩ (hfF_16.f htk 5 ⟨by decide, by decide⟩ ksz_)) ⟨by decide, rfl, by decide⟩ (zm_RX7 (List.mem_of_getElem? (i := 56) rfl)) (fun _ h9 => h9) dX7_readPlaces_22 ?_
        refine lv_icmp_ge (tgt := 58) hx hb dX7_readPlaces_25 (by decide) (fun c_27 => ?_) (fun c_27 => ?_)
        · have c_27 := z_le c_27
          have by2_j17_23_28 : zB 1 601 y2_j17_23 := zB.leR c_27 bsz_ by2_j17_23 (by decide)
          exfalso
          have := by2_j17_23_28.1; have := by2_j17_23_28.2; have := bx_25.1; have := bx_25.2; have := br_6.1; have := br_6.2; have := bcc.1; have := bcc.2; have := bsz_.1; have := bsz_.2; have := bx_26.1; have := bx_26.2; have := bpz.1; have := bpz.2; have : (41 : Int32).toInt = 41 := (by decide); omega
        · have c_27 := z_nle c_27
          have by2_j17_23_29 : zB 0 600 y2_j17_23 := zB.ltL c_27 by2_j17_23 bsz_ (by decide)
          refine lv_aload_n hx hb dX7_readPlaces_28 rfl (lv_at hl 1 rfl) ?_
          have p_30 := ((p_tb.fr hfF_16 htk (by decide)).fr hfF_24 htk (by decide))
          refine zk_Vi (As := []) (rest := []) (bytes := cX7_kind) (maxL := 2) (ret := (some .int)) Z h (ze_X7_kind l D k Γ L F_24 H.size th tk Bt nt Nt σ_j17_23 hth (hfF_24.f hth 4 ⟨by decide, by decide⟩ (hfF_16.f hth 4 ⟨by decide, by decide⟩ ktk)) htk p_30 c1_j17_23) (cwV 0 hg zv_RX7_65 rfl rfl rfl zd_X7_kind ⟨z_leR hRf (by decide), z_leR hRl (by decide)⟩) hth (by decide) rfl rfl hl.1 rfl (Nat.le_of_ble_eq_true rfl) dX7_readPlaces_29 ⟨Nat.zero_le _, Nat.zero_le _⟩ (fun r_31 F_32 H locs w_33 h hfF_32 => ?_)
          obtain ⟨rfl, q_34, -⟩ := w_33
          have br_31 := zB.all r_31
          refine lv_bipush (v := 44) hx hb dX7_readPlaces_32 (by decide) ?_
          refine lv_icmp_ne (tgt := 58) hx hb dX7_readPlaces_34 (by decide) (fun c_35 => ?_) (fun c_35 => ?_)
          · have c_35 := z_ne c_35
            have rc_36 : zRc (zTo Bt nt) σ [(3, 0, 0, 0)] σ_j17_23 [] := zRc.placeT0 (N := Nt) rc_j17_23 (by have := by2_j17_23_29.1; have := by2_j17_23_29.2; have := br_6.1; have := br_6.2; have := br_31.1; have := br_31.2; have := bcc.1; have := bcc.2; have := bsz_.1; have := bsz_.2; have := bx_25.1; have := bx_25.2; have := bx_26.1; have := bx_26.2; have := bpz.1; have := bpz.2; have : (41 : Int32).toInt = 41 := (by decide); have : (44 : Int32).toInt = 44 := (by decide); omega)
            have oth_37 : zOth Γ F F_24 fu := r1_j17_23
            subst hQ
            exact W.vret hx hb hr (fun t ht hW => ⟨⟨F_24, rfl, ⟨⟨σ_j17_23, c1_j17_23, rc_36, ss_j17_23, (cc_j17_23.w (by have := by2_j17_23_29.1; have := by2_j17_23_29.2; have := br_6.1; have := br_6.2; have := br_31.1; have := br_31.2; have := bcc.1; have := bcc.2; have := bsz_.1; have := bsz_.2; have := bx_25.1; have := bx_25.2; have := bx_26.1; have := bx_26.2; have := bpz.1; have := bpz.2; have : (41 : Int32).toInt = 41 := (by decide); have : (44 : Int32).toInt = 44 := (by decide); omega)), pl_j17_23⟩, oth_37, trivial⟩, by rw [ht]; exact h.1, h.2.1, (hfF_16.trans hfF_24 (by decide))⟩, h.2.2.F ht⟩) h.2.2.2.2 dX7_readPlaces_58
          · have c_35 := z_eq c_35
            have br_31_38 : zB 44 44 r_31 := zB.eqL (a := 0) (b := 0) c_35 (zBc 44 44 (by decide))
            refine lv_aload_n hx hb dX7_readPlaces_37 rfl (lv_at hl 1 rfl) ?_
            refine lv_dup hx hb dX7_readPlaces_38 rfl ?_
            refine zt_getk (t := 7) (C := RX7) (T := TX7) (N := 12) Z h hth zin_7 rfl 6 kx_25 ⟨by decide, rfl, by decide⟩ (zm_RX7 (List.mem_of_getElem? (i := 9) rfl)) (fun _ h9 => h9) dX7_readPlaces_39 ?_
            refine lv_iconst (v := 1) hx hb dX7_readPlaces_42 (by decide) ?_
            refine lv_iadd hx hb dX7_readPlaces_43 ?_
            refine zi_add (lo := 1) (hi := 601) bx_25 (zBc 1 1 (by decide)) (by decide) (fun x_39 bx_39 tx_39 => ?_)
            refine zt_put (t := 7) (C := RX7) (T := TX7) (N := 12) (v := .int x_39) Z h hth zin_7 tyX7 tyX7_ok nmX7 rfl 6 rfl ⟨by decide, rfl⟩ (zm_RX7 (List.mem_of_getElem? (i := 9) rfl)) (fun _ h9 => h9) rfl (zV.i (bx_39.w ⟨by decide, by decide⟩)) rfl rfl dX7_readPlaces_44 (fun H locs F_40 h hfF_40 kF_40 => ?_)
            have c1_41 : zC1 F_40 th Nt (zadv σ_j17_23) := (zC1.adv (T := zTo Bt nt) c1_j17_23 hfF_40 hth (by decide) kx_25 kF_40 (by have := by2_j17_23_29.1; have := by2_j17_23_29.2; have := bx_25.1; have := bx_25.2; have := br_6.1; have := br_6.2; have := br_31_38.1; have := br_31_38.2; have := bcc.1; have := bcc.2; have := bsz_.1; have := bsz_.2; have := bx_39.1; have := bx_39.2; have := bx_26.1; have := bx_26.2; have := bpz.1; have := bpz.2; have : (1 : Int32).toInt = 1 := (by decide); have : (41 : Int32).toInt = 41 := (by decide); have : (44 : Int32).toInt = 44 := (by decide); omega) hLs_ ⟨by have := by2_j17_23_29.1; have := by2_j17_23_29.2; have := bx_25.1; have := bx_25.2; have := br_6.1; have := br_6.2; have := br_31_38.1; have := br_31_38.2; have := bcc.1; have := bcc.2; have := bsz_.1; have := bsz_.2; have := bx_39.1; have := bx_39.2; have := bx_26.1; have := bx_26.2; have := bpz.1; have := bpz.2; have : (1 : Int32).toInt = 1 := (by decide); have : (41 : Int32).toInt = 41 := (by decide); have : (44 : Int32).toInt = 44 := (by decide); omega, by have := by2_j17_23_29.1; have := by2_j17_23_29.2; have := bx_25.1; have := bx_25.2; have := br_6.1; have := br_6.2; have := br_31_38.1; have := br_31_38.2; have := bcc.1; have := bcc.2; have := bsz_.1; have := bsz_.2; have := bx_39.1; have := bx_39.2; have := bx_26.1; have := bx_26.2; have := bpz.1; have := bpz.2; have : (1 : Int32).toInt = 1 := (by decide); have : (41 : Int32).toInt = 41 := (by decide); have : (44 : Int32).toInt = 44 := (by decide); omega⟩)
            have rc_41 : zRc (zTo Bt nt) σ [(3, 0, 0, 0)] (zadv σ_j17_23) [(4, 0, 0, 0), (5, 0, 0, 0)] := zRc.placeT1 (N := Nt) rc_j17_23 (by have := by2_j17_23_29.1; have := by2_j17_23_29.2; have := br_6.1; have := br_6.2; have := br_31_38.1; have := br_31_38.2; have := bcc.1; have := bcc.2; have := bsz_.1; have := bsz_.2; have := bx_39.1; have := bx_39.2; have := bx_26.1; have := bx_26.2; have := bpz.1; have := bpz.2; have : (1 : Int32).toInt = 1 := (by decide); have : (41 : Int32).toInt = 41 := (by decide); have : (44 : Int32).toInt = 44 := (by decide); omega)
            have st_41 : zss σ_j17_23 (zadv σ_j17_23) := zsm.adv.ss
            have ss_41 : zsP σ (zadv σ_j17_23) := ss_j17_23.trans st_41.sP
            have cc_41 : zCc Γ F F_40 th (zTo Bt nt) σ (zadv σ_j17_23) (0) := (cc_j17_23.mv hfF_40 hth (by decide) (zTo_P Bt nt) zsm.adv.cs)
            generalize hσ_41 : zadv σ_j17_23 = σ_41 at c1_41 rc_41 st_41 ss_41 cc_41
            obtain ⟨⟨x_42, kx_42, nx_42⟩, ⟨x_43, kx_43, nx_43⟩, ox_42⟩ := id c1_41
            have gx_42 := zC1.nx c1_41 hLs_.1 kx_42
            have bx_42 : zB 0 600 x_42 := ⟨by omega, by have := hLs_.2.1; omega⟩
            have bx_43 := zB.all x_43
            have vx_42 := congrArg Int32.toInt (z_same kF_40 kx_42)
            have mo_41 := zss.nx st_41 ox_25 ox_42
            refine lv_aload_n hx hb dX7_readPlaces_47 rfl (lv_at hl 1 rfl) ?_
            refine lv_aload_n hx hb dX7_readPlaces_48 rfl (lv_at hl 2 rfl) ?_
            have p_44 := (p_30.fr hfF_40 htk (by decide))
            have pl_45 := ((pl_j17_23.fr hfF_40 hfu (by decide)).ss st_41)
            refine zk_Vv (As := [.ref fu]) (rest := []) (bytes := cX7_readPlace) (maxL := 2) (ret := none) Z h (ze_X7_readPlace l D k Γ L F_40 H.size th fu pr tk co Bt nt Nt cc σ_41 hth hfu (hfF_40.f hth 3 ⟨by decide, by decide⟩ (hfF_24.f hth 3 ⟨by decide, by decide⟩ (hfF_16.f hth 3 ⟨by decide, by decide⟩ kpr))) hpr (hfF_40.f hth 4 ⟨by decide, by decide⟩ (hfF_24.f hth 4 ⟨by decide, by decide⟩ (hfF_16.f hth 4 ⟨by decide, by decide⟩ ktk))) htk (hfF_40.f hth 5 ⟨by decide, by decide⟩ (hfF_24.f hth 5 ⟨by decide, by decide⟩ (hfF_16.f hth 5 ⟨by decide, by decide⟩ kco))) hco p_44 (hfF_40.f hth 11 ⟨by decide, by decide⟩ (hfF_24.f hth 11 ⟨by decide, by decide⟩ (hfF_16.f hth 11 ⟨by decide, by decide⟩ kcc))) bcc c1_41 (zCc.m (cc_41.w (dep' := 0) (by have := by2_j17_23_29.1; have := by2_j17_23_29.2; have := bcc.1; have := bcc.2; have := br_6.1; have := br_6.2; have := br_31_38.1; have := br_31_38.2; have := bsz_.1; have := bsz_.2; have := bx_42.1; have := bx_42.2; have := bx_43.1; have := bx_43.2; have := bpz.1; have := bpz.2; have : (1 : Int32).toInt = 1 := (by decide); have : (41 : Int32).toInt = 41 := (by decide); have : (44 : Int32).toInt = 44 := (by decide); omega)) (hfF_40.f hth 11 ⟨by decide, by decide⟩ (hfF_24.f hth 11 ⟨by decide, by decide⟩ (hfF_16.f hth 11 ⟨by decide, by decide⟩ kcc)))) pl_45) (cwV 1 hg zv_RX7_135 rfl rfl rfl zd_X7_readPlace ⟨z_leR hRf (by decide), z_leR hRl (by decide)⟩) hth (by decide) rfl rfl hl.1 rfl (Nat.le_of_ble_eq_true rfl) dX7_readPlaces_49 ⟨Nat.zero_le _, Nat.zero_le _⟩ (fun F_46 H locs w_47 h hfF_46 => ?_)
            obtain ⟨⟨σ_49, c1_49, rn_49, st_49, cn_49, pl_49⟩, q_50, -⟩ := w_47
            have rc_49 : zRc (zTo Bt nt) σ [(3, 0, 0, 0)] σ_49 [(5, 0, 0, 0)] := zRc.calls rc_41 (rn_49.x (zSy_eq (by have := by2_j17_23_29.1; have := by2_j17_23_29.2; have := bcc.1; have := bcc.2; have := br_6.1; have := br_6.2; have := br_31_38.1; have := br_31_38.2; have := bsz_.1; have := bsz_.2; have := bpz.1; have := bpz.2; have : (1 : Int32).toInt = 1 := (by decide); have : (41 : Int32).toInt = 41 := (by decide); have : (44 : Int32).toInt = 44 := (by decide); omega) (by have := by2_j17_23_29.1; have := by2_j17_23_29.2; have := bcc.1; have := bcc.2; have := br_6.1; have := br_6.2; have := br_31_38.1; have := br_31_38.2; have := bsz_.1; have := bsz_.2; have := bpz.1; have := bpz.2; have : (1 : Int32).toInt = 1 := (by decide); have : (41 : Int32).toInt = 41 := (by decide); have : (44 : Int32).toInt = 44 := (by decide); omega) (by have := by2_j17_23_29.1; have := by2_j17_23_29.2; have := bcc.1; have := bcc.2; have := br_6.1; have := br_6.2; have := br_31_38.1; have := br_31_38.2; have := bsz_.1; have := bsz_.2; have := bpz.1; have := bpz.2; have : (1 : Int32).toInt = 1 := (by decide); have : (41 : Int32).toInt = 41 := (by decide); have : (44 : Int32).toInt = 44 := (by decide); omega)))
            have ss_49 : zsP σ σ_49 := ss_41.trans st_49
            have cc_49 : zCc Γ F F_46 th (zTo Bt nt) σ (σ_49) (0) := zCc.call cc_41 cn_49
            obtain ⟨⟨x_51, kx_51, nx_51⟩, ⟨x_52, kx_52, nx_52⟩, ox_51⟩ := id c1_49
            have gx_51 := zC1.nx c1_49 hLs_.1 kx_51
            have bx_51 : zB 0 600 x_51 := ⟨by omega, by have := hLs_.2.1; omega⟩
            have bx_52 := zB.all x_52
            have mo_49 := zsP.nx st_49 ox_42 ox_51
            obtain ⟨x_53, ex_53, bx_53, tx_53⟩ := z_inc (n := 1) (lo := 1) (hi := 601) by2_j17_23_29 (by decide)
            refine lv_iinc (v := x_53) (lv' := [(2, .int x_53), (0, .ref th), (1, .ref fu)]) hx hb dX7_readPlaces_52 hl (k := 0) rfl ex_53 (by decide) rfl (fun ls hl => ?_)
            refine lv_goto (tgt := 17) hx hb dX7_readPlaces_55 (by decide) ?_
            have oth_54 : zOth Γ F F_46 fu := ((r1_j17_23.fr hfF_40 (by decide)).trans q_50)
            exact ih_j17_23 _ (by have := bx_53.1; have := bx_53.2; have := br_6.1; have := br_6.2; have := br_31_38.1; have := br_31_38.2; have := bcc.1; have := bcc.2; have := bsz_.1; have := bsz_.2; have := bx_51.1; have := bx_51.2; have := bx_52.1; have := bx_52.2; have := bpz.1; have := bpz.2; have : (1 : Int32).toInt = 1 := (by decide); have : (41 : Int32).toInt = 41 := (by decide); have : (44 : Int32).toInt = 44 := (by decide); have := by2_j17_23.1; have := by2_j17_23.2; omega) ls x_53 σ_49 F_46 H locs (lv_sub hl [0, 1, 2] rfl) (bx_53.w ⟨by decide, by decide⟩) h ((hfF_24.trans hfF_40 (by decide)).trans hfF_46 (by decide)) (by have := bx_53.1; have := bx_53.2; have := br_6.1; have := br_6.2; have := br_31_38.1; have := br_31_38.2; have := bcc.1; have := bcc.2; have := bsz_.1; have := bsz_.2; have := bx_51.1; have := bx_51.2; have := bx_52.1; have := bx_52.2; have := bpz.1; have := bpz.2; have : (1 : Int32).toInt = 1 := (by decide); have : (41 : Int32).toInt = 41 := (by decide); have : (44 : Int32).toInt = 44 := (by decide); omega) oth_54 c1_49 rc_49 ss_49 (cc_49.w (by have := bx_53.1; have := bx_53.2; have := br_6.1; have := br_6.2; have := br_31_38.1; have := br_31_38.2; have := bcc.1; have := bcc.2; have := bsz_.1; have := bsz_.2; have := bx_51.1; have := bx_51.2; have := bx_52.1; have := bx_52.2; have := bpz.1; have := bpz.2; have : (1 : Int32).toInt = 1 := (by decide); have : (41 : Int32).toInt = 41 := (by decide); have : (44 : Int32).toInt = 44 := (by decide); omega)) pl_49 rfl
    have oth_55 : zOth Γ F F_16 fu := ((zOth.rf : zOth Γ F F fu).trans q_20)
    exact j_j17_23 _ ls 0 σ_19 F_16 H locs (lv_sub hl [0, 1, 2] rfl) (zB.of ⟨by decide, by decide⟩) h zFr.rf (by have := br_6.1; have := br_6.2; have := bcc.1; have := bcc.2; have := bsz_.1; have := bsz_.2; have := bx_21.1; have := bx_21.2; have := bx_22.1; have := bx_22.2; have := bpz.1; have := bpz.2; have : (0 : Int32).toInt = 0 := (by decide); have : (41 : Int32).toInt = 41 := (by decide); omega) oth_55 c1_19 rc_19 ss_19 (cc_19.w (by have := br_6.1; have := br_6.2; have := bcc.1; have := bcc.2; have := bsz_.1; have := bsz_.2; have := bx_21.1; have := bx_21.2; have := bx_22.1; have := bx_22.2; have := bpz.1; have := bpz.2; have : (0 : Int32).toInt = 0 := (by decide); have : (41 : Int32).toInt = 41 := (by decide); omega)) pl_19 rfl
  · have c_10 := z_eq c_10
    have br_6_56 : zB 41 41 r_6 := zB.eqL (a := 0) (b := 0) c_10 (zBc 41 41 (by decide))
    have c1_57 : zC1 F th Nt (zmap (fun _ d => zadd0 d) σ) := p_au.map
    have rc_57 : zRc (zTo Bt nt) σ [(3, 0, 0, 0)] (zmap (fun _ d => zadd0 d) σ) [] := zRc.places0 (N := Nt) rc0_ (by have := br_6_56.1; have := br_6_56.2; have := bcc.1; have := bcc.2; have := bpz.1; have := bpz.2; have := bsz_.1; have := bsz_.2; have := bx_1.1; have := bx_1.2; have := bx_2.1; have := bx_2.2; have : (41 : Int32).toInt = 41 := (by decide); omega)
    have st_57 : zsP σ (zmap (fun _ d => zadd0 d) σ) := zsP.z
    have ss_57 : zsP σ (zmap (fun _ d => zadd0 d) σ) := ss0_.trans st_57
    have cc_57 : zCc Γ F F th (zTo Bt nt) σ (zmap (fun _ d => zadd0 d) σ) (0) := (cc0_.mv (zFr.rf : zFr Γ [] F F) hth (by decide) (zTo_P Bt nt) (zmap_cs (f := fun _ d => zadd0 d) (fun _ _ => rfl)))
    generalize hσ_57 : zmap (fun _ d => zadd0 d) σ = σ_57 at c1_57 rc_57 st_57 ss_57 cc_57
    obtain ⟨⟨x_58, kx_58, nx_58⟩, ⟨x_59, kx_59, nx_59⟩, ox_58⟩ := id c1_57
    have gx_58 := zC1.nx c1_57 hLs_.1 kx_58
    have bx_58 : zB 0 600 x_58 := ⟨by omega, by have := hLs_.2.1; omega⟩
    have bx_59 := zB.all x_59
    have vx_58 := congrArg Int32.toInt (z_same kx_1 kx_58)
    have mo_57 := zsP.nx st_57 ox_1 ox_58
    have ad_61 := z_ad (j := 8) (c := 103) h.2.1 hfu (by decide) rfl
    have pl_60 : zPl Γ F fu σ_57 := by rw [← hσ_57]; exact zPl.z ad_61 kpz (by have := bpz.1; have := bpz.2; have := br_6_56.1; have := br_6_56.2; have := bcc.1; have := bcc.2; have := bsz_.1; have := bsz_.2; have := bx_58.1; have := bx_58.2; have := bx_59.1; have := bx_59.2; have : (41 : Int32).toInt = 41 := (by decide); omega)
    have oth_62 : zOth Γ F F fu := (zOth.rf : zOth Γ F F fu)
    subst hQ
    exact W.vret hx hb hr (fun t ht hW => ⟨⟨F, rfl, ⟨⟨σ_57, c1_57, rc_57, ss_57, (cc_57.w (by have := br_6_56.1; have := br_6_56.2; have := bcc.1; have := bcc.2; have := bpz.1; have := bpz.2; have := bsz_.1; have := bsz_.2; have := bx_58.1; have := bx_58.2; have := bx_59.1; have := bx_59.2; have : (41 : Int32).toInt = 41 := (by decide); omega)), pl_60⟩, oth_62, trivial⟩, by rw [ht]; exact h.1, h.2.1, zFr.rf⟩, h.2.2.F ht⟩) h.2.2.2.2 dX7_readPlaces_9
