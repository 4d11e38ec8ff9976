set_option maxHeartbeats 4000000 in
set_option maxRecDepth 100000 in
theorem ze_X6_functionNamed (l : Launch) (D : va_G) (k : Nat → ClassId) (Γ : Nat → Option Nat) (L : List Nat) (F : Nat → va_E) (sz : Nat) (pr : Nat) (tk : Nat) (tq : Int32) (Bt : Nat → Int32) (nt : Nat) (Nt : Nat) (fa : Nat → Nat) (iq : Nat) (dq : zDat) (hpr : Γ pr = some 6) (htk : Γ tk = some 8) (ke_pr_0 : zfld F pr 0 = .ref tk) (p_tb : zTb Γ F tk Bt nt Nt) (hr0 : zC3w Γ F pr fa (zTo Bt nt) Nt (.inl (iq, dq))) (hr1 : 0 ≤ tq.toInt ∧ tq.toInt < Nt ∧ (zTo Bt nt).1 tq.toInt.toNat = 4) : Met l yX6_functionNamed zwX6_functionNamed ({ frames := 3, cells := 0, slots := 0, locals := 67 }) (va_Pc [.ref pr, .ref tk, .int tq] (zP D k Γ L F sz)) (va_Qi (fun (r : Int32) (u : Nat → va_E) => F = u ∧ zB (-1) 9 r ∧ r.toInt = zfi (zfind (zTo Bt nt).2.2 (znm dq) ((zTo Bt nt).2.2 tq.toInt.toNat) (zfc dq)) ∧ True) (zQ D k Γ L F []) (zA L sz)) 0 0 (zA L sz) := by
  refine Met.ofW (cc := cX6_functionNamed) (maxL := 4) (ret := (some .int)) (by decide) rfl ?_
  intro p e s m args below meth c s₁ B hml hv
  obtain ⟨rfl, hsz, hP, hK, hLn, hE, hI⟩ := hv
  have hx := B.exec
  have hb := B.bytes
  have hr := B.returns
  have hg : ∀ w ∈ zG, w.before _ s = true := fun w h9 => atoms_spec (ws := zwX6_functionNamed) B.pre w (List.mem_cons_of_mem _ h9)
  have hown : s.vm.findClass RX6 = some m.cls := findClass_of_methodNamed B.named
  have hlocks := B.notSynchronized
  subst hsz
  have Z : zC p m c cX6_functionNamed 4 s _ zG RX6 D k L := ⟨⟨hx, hb, hml, hown, hg⟩, hK, hLn, hE⟩
  have h : zH D k Γ L s F s.heap [] := ⟨hP, hI, va_S.rf⟩
  have hl := lv_entry ([.ref pr, .ref tk, .int tq]) (n := 4) (Nat.le_of_ble_eq_true rfl)
  rw [lg_entry_eq]
  generalize (lg_sl ([.ref pr, .ref tk, .int tq]) ++ List.replicate (4 - (lg_sl ([.ref pr, .ref tk, .int tq])).length) Slot.unset).toArray = ls at hl ⊢
  have hl : lv_has ls 4 [(0, .ref pr), (1, .ref tk), (2, .int tq)] := hl
  clear hP hK hLn hE hI
  generalize hargs : ([.ref pr, .ref tk, .int tq] : List Value).toArray = args at *
  refine z_start (fun R Q hRf hRl hQ => ?_)
  have hRf : R.frames = 3 := hRf
  have hRl : R.locals = 67 := hRl
  have h9 := h
  obtain ⟨⟨fc_, kfc_, tfc_⟩, hfc10, hall_⟩ := hr0.2 iq dq rfl
  have bfc_ : zB 0 10 fc_ := ⟨by omega, by omega⟩
  refine lv_iconst (v := 0) hx hb dX6_functionNamed_0 (by decide) ?_
  refine lv_istore_n (lv' := [(3, .int 0), (0, .ref pr), (1, .ref tk), (2, .int tq)]) hx hb dX6_functionNamed_1 rfl hl (by decide) rfl (fun ls hl => ?_)
  have j_j2_1 : ∀ (n : Nat) (ls : Array Slot) (y3_j2_1 : Int32) (H : Heap) (locs : List Loc), lv_has ls 4 [(3, .int y3_j2_1), (0, .ref pr), (1, .ref tk), (2, .int tq)] → zB 0 10 y3_j2_1 → zH D k Γ L s F H locs → (y3_j2_1.toInt ≤ fc_.toInt) → (zfind (zTo Bt nt).2.2 (znm dq) ((zTo Bt nt).2.2 tq.toInt.toNat) y3_j2_1.toInt.toNat = none) → (2147483647 - y3_j2_1.toInt).toNat = n → W p l e R s m args below meth c H locs 0 0 Q (F0 m 2 ls []) := by
    intro n
    induction n using Nat.strongRecOn with
    | _ n ih_j2_1 =>
      intro ls y3_j2_1 H locs hl by3_j2_1 h r0_j2_1 r1_j2_1 hn_j2_1
      refine lv_iload_n hx hb dX6_functionNamed_2 rfl (lv_at hl 0 rfl) ?_
      refine lv_aload_n hx hb dX6_functionNamed_3 rfl (lv_at hl 1 rfl) ?_
      refine zt_getk (t := 6) (C := RX6) (T := TX6) (N := 6) Z h hpr zin_6 rfl 4 kfc_ ⟨by decide, rfl, by decide⟩ (zm_RX6 (List.mem_of_getElem? (i := 6) rfl)) (fun _ h9 => h9) dX6_functionNamed_4 ?_
      refine lv_icmp_ge (tgt := 48) hx hb dX6_functionNamed_7 (by decide) (fun c_2 => ?_) (fun c_2 => ?_)
      · have c_2 := z_le c_2
        refine lv_iconst (v := (-1)) hx hb dX6_functionNamed_48 (by decide) ?_
        subst hQ
        exact W.iret (v := (-1)) hx hb hr (fun t ht hW => ⟨⟨(-1), F, rfl, ⟨rfl, (zB.of ⟨by decide, by decide⟩), (by rw [show zfc dq = y3_j2_1.toInt.toNat by have := by3_j2_1.1; have := by3_j2_1.2; have := (zB.all tq).1; have := (zB.all tq).2; have := bfc_.1; have := bfc_.2; have : ((-1) : Int32).toInt = (-1) := (by decide); omega, r1_j2_1]; decide), trivial⟩, by rw [ht]; exact h.1, h.2.1, zFr.rf⟩, h.2.2.F ht⟩) h.2.2.2.2 dX6_functionNamed_49
      · have c_2 := z_nle c_2
        have by3_j2_1_3 : zB 0 9 y3_j2_1 := zB.ltL c_2 by3_j2_1 bfc_ (by decide)
        have bfc__4 : zB 1 10 fc_ := zB.ltR c_2 by3_j2_1 bfc_ (by decide)
        refine lv_iload_n hx hb dX6_functionNamed_10 rfl (lv_at hl 0 rfl) ?_
        refine lv_aload_n hx hb dX6_functionNamed_11 rfl (lv_at hl 1 rfl) ?_
        refine zt_getr (t := 6) (C := RX6) (T := TX6) (N := 6) Z h hpr zin_6 rfl 2 rfl ⟨by decide, rfl⟩ (zm_RX6 (List.mem_of_getElem? (i := 11) rfl)) (fun _ h9 => h9) dX6_functionNamed_12 (fun a_5 ka_5 ha_5 => ?_)
        refine zt_alen (t := 104) Z h ha_5 ⟨by decide, rfl⟩ (by decide) (v := 10) rfl dX6_functionNamed_15 ?_
        refine lv_icmp_ge (tgt := 48) hx hb dX6_functionNamed_16 (by decide) (fun c_6 => ?_) (fun c_6 => ?_)
        · have c_6 := z_le c_6
          exact zB.noLe c_6 (zBc 10 10 (by decide)) by3_j2_1_3 (by decide)
        · have c_6 := z_nle c_6
          refine lv_aload_n hx hb dX6_functionNamed_19 rfl (lv_at hl 1 rfl) ?_
          refine zt_getk (t := 6) (C := RX6) (T := TX6) (N := 6) Z h hpr zin_6 rfl 0 ke_pr_0 ⟨by decide, rfl, by decide⟩ (zm_RX6 (List.mem_of_getElem? (i := 20) rfl)) (fun _ h9 => h9) dX6_functionNamed_20 ?_
          refine lv_aload_n hx hb dX6_functionNamed_23 rfl (lv_at hl 1 rfl) ?_
          refine zt_getk (t := 6) (C := RX6) (T := TX6) (N := 6) Z h hpr zin_6 rfl 2 ka_5 ⟨by decide, rfl, by decide⟩ (zm_RX6 (List.mem_of_getElem? (i := 11) rfl)) (fun _ h9 => h9) dX6_functionNamed_24 ?_
          refine lv_iload_n hx hb dX6_functionNamed_27 rfl (lv_at hl 0 rfl) ?_
          refine zt_aalde (t := 104) (t1 := 2) Z h ha_5 ⟨by decide, rfl⟩ (by decide) by3_j2_1_3 ⟨by decide, by decide⟩ dX6_functionNamed_28 (fun a_7 ea_7 ha_7 => ?_)
          have hb_ := zPS.at hr0.1 ka_5 ea_7 ⟨by have := by3_j2_1_3.1; have := by3_j2_1_3.2; have := (zB.all tq).1; have := (zB.all tq).2; have := bfc__4.1; have := bfc__4.2; have : (10 : Int32).toInt = 10 := (by decide); omega, by have := by3_j2_1_3.1; have := by3_j2_1_3.2; have := (zB.all tq).1; have := (zB.all tq).2; have := bfc__4.1; have := bfc__4.2; have : (10 : Int32).toInt = 10 := (by decide); omega⟩
          obtain ⟨⟨y_, ky_, ty_⟩, -, ⟨hK_, hN_⟩, -⟩ := hall_ y3_j2_1.toInt.toNat (by have := by3_j2_1_3.1; have := by3_j2_1_3.2; have := (zB.all tq).1; have := (zB.all tq).2; have := bfc__4.1; have := bfc__4.2; have : (10 : Int32).toInt = 10 := (by decide); omega)
          rw [← hb_] at ky_
          have by_ := zB.all y_
          refine zt_getk (t := 2) (C := RX2) (T := TX2) (N := 9) Z h ha_7 zin_2 rfl 0 ky_ ⟨by decide, rfl, by decide⟩ (zm_RX6 (List.mem_of_getElem? (i := 21) rfl)) (fun _ h9 => h9) dX6_functionNamed_29 ?_
          refine lv_aload_n hx hb dX6_functionNamed_32 rfl (lv_at hl 2 rfl) ?_
          refine lv_iload_n hx hb dX6_functionNamed_33 rfl (lv_at hl 3 rfl) ?_
          refine zk_Vi (As := [.int y_, .ref tk, .int tq]) (rest := []) (bytes := cX8_isLike) (maxL := 5) (ret := (some .boolean)) Z h (ze_X8_isLike l D k Γ L F H.size tk y_ tk tq Bt nt Nt Bt nt Nt htk htk p_tb p_tb ⟨by have := by3_j2_1_3.1; have := by3_j2_1_3.2; have := (zB.all tq).1; have := (zB.all tq).2; have := by_.1; have := by_.2; have := bfc__4.1; have := bfc__4.2; have : (10 : Int32).toInt = 10 := (by decide); omega, by have := by3_j2_1_3.1; have := by3_j2_1_3.2; have := (zB.all tq).1; have := (zB.all tq).2; have := by_.1; have := by_.2; have := bfc__4.1; have := bfc__4.2; have : (10 : Int32).toInt = 10 := (by decide); omega, by rw [show y_.toInt.toNat = znm dq y3_j2_1.toInt.toNat by omega]; exact hK_⟩ hr1) (cwV 3 hg zv_RX6_64 rfl rfl rfl zd_X8_isLike ⟨z_leR hRf (by decide), z_leR hRl (by decide)⟩) htk (by decide) rfl rfl hl.1 rfl (Nat.le_of_ble_eq_true rfl) dX6_functionNamed_34 ⟨Nat.zero_le _, Nat.zero_le _⟩ (fun r_8 F_9 H locs w_10 h hfF_9 => ?_)
          obtain ⟨rfl, br_8, q_11, -⟩ := w_10
          refine lv_if_eq (tgt := 42) hx hb dX6_functionNamed_37 (by decide) (fun c_12 => ?_) (fun c_12 => ?_)
          · have c_12 := z_eq c_12
            have br_8_13 : zB 0 0 r_8 := zB.eqL (a := 0) (b := 0) c_12 (zBc 0 0 (by decide))
            obtain ⟨x_14, ex_14, bx_14, tx_14⟩ := z_inc (n := 1) (lo := 1) (hi := 10) by3_j2_1_3 (by decide)
            refine lv_iinc (v := x_14) (lv' := [(3, .int x_14), (0, .ref pr), (1, .ref tk), (2, .int tq)]) hx hb dX6_functionNamed_42 hl (k := 0) rfl ex_14 (by decide) rfl (fun ls hl => ?_)
            refine lv_goto (tgt := 2) hx hb dX6_functionNamed_45 (by decide) ?_
            exact ih_j2_1 _ (by have := bx_14.1; have := bx_14.2; have := (zB.all tq).1; have := (zB.all tq).2; have := bfc__4.1; have := bfc__4.2; have := by_.1; have := by_.2; have : (0 : Int32).toInt = 0 := (by decide); have : (10 : Int32).toInt = 10 := (by decide); have := by3_j2_1.1; have := by3_j2_1.2; omega) ls x_14 H locs (lv_sub hl [0, 1, 2, 3] rfl) (bx_14.w ⟨by decide, by decide⟩) h (by have := bx_14.1; have := bx_14.2; have := (zB.all tq).1; have := (zB.all tq).2; have := bfc__4.1; have := bfc__4.2; have := by_.1; have := by_.2; have : (0 : Int32).toInt = 0 := (by decide); have : (10 : Int32).toInt = 10 := (by decide); omega) (by rw [show x_14.toInt.toNat = y3_j2_1.toInt.toNat + 1 by have := bx_14.1; have := bx_14.2; have := (zB.all tq).1; have := (zB.all tq).2; have := by3_j2_1_3.1; have := by3_j2_1_3.2; have := bfc__4.1; have := bfc__4.2; have := by_.1; have := by_.2; have : (0 : Int32).toInt = 0 := (by decide); have : (10 : Int32).toInt = 10 := (by decide); omega, zfind_s r1_j2_1]; exact if_neg (by have h7 := q_11; have h8 : (zTo Bt nt).2.2 y_.toInt.toNat ≠ (zTo Bt nt).2.2 tq.toInt.toNat := (by rcases h7 with ⟨g1, g2⟩ | ⟨g1, g2⟩; exfalso; have := bx_14.1; have := bx_14.2; have := (zB.all tq).1; have := (zB.all tq).2; have := br_8_13.1; have := br_8_13.2; have := bfc__4.1; have := bfc__4.2; have := by_.1; have := by_.2; have : (0 : Int32).toInt = 0 := (by decide); have : (10 : Int32).toInt = 10 := (by decide); omega; exact g2); rw [show y_.toInt.toNat = znm dq y3_j2_1.toInt.toNat by omega] at h8; exact h8)) rfl
          · have c_12 := z_ne c_12
            have br_8_15 : zB 1 1 r_8 := zB.neLo c_12 br_8 (zBc 0 0 (by decide)) (by decide)
            refine lv_iload_n hx hb dX6_functionNamed_40 rfl (lv_at hl 0 rfl) ?_
            subst hQ
            exact W.iret (v := y3_j2_1) hx hb hr (fun t ht hW => ⟨⟨y3_j2_1, F, rfl, ⟨rfl, (by3_j2_1_3.w ⟨by decide, by decide⟩), (by rw [zfind_k (n := y3_j2_1.toInt.toNat + 1) (f := y3_j2_1.toInt.toNat) (by rw [zfind_s r1_j2_1]; exact if_pos (by have h7 := q_11; have h8 : (zTo Bt nt).2.2 y_.toInt.toNat = (zTo Bt nt).2.2 tq.toInt.toNat := (by rcases h7 with ⟨g1, g2⟩ | ⟨g1, g2⟩; exact g2; exfalso; have := by3_j2_1_3.1; have := by3_j2_1_3.2; have := (zB.all tq).1; have := (zB.all tq).2; have := br_8_15.1; have := br_8_15.2; have := bfc__4.1; have := bfc__4.2; have := by_.1; have := by_.2; have : (0 : Int32).toInt = 0 := (by decide); have : (10 : Int32).toInt = 10 := (by decide); omega); rw [show y_.toInt.toNat = znm dq y3_j2_1.toInt.toNat by omega] at h8; exact h8)) (zfc dq) (by have := by3_j2_1_3.1; have := by3_j2_1_3.2; have := (zB.all tq).1; have := (zB.all tq).2; have := bfc__4.1; have := bfc__4.2; have := by_.1; have := by_.2; have : (0 : Int32).toInt = 0 := (by decide); have : (10 : Int32).toInt = 10 := (by decide); omega)]; show y3_j2_1.toInt = ((y3_j2_1.toInt.toNat : Nat) : Int); have := by3_j2_1_3.1; have := by3_j2_1_3.2; have := (zB.all tq).1; have := (zB.all tq).2; have := bfc__4.1; have := bfc__4.2; have := by_.1; have := by_.2; have : (0 : Int32).toInt = 0 := (by decide); have : (10 : Int32).toInt = 10 := (by decide); omega), trivial⟩, by rw [ht]; exact h.1, h.2.1, zFr.rf⟩, h.2.2.F ht⟩) h.2.2.2.2 dX6_functionNamed_41
  exact j_j2_1 _ ls 0 s.heap [] (lv_sub hl [0, 1, 2, 3] rfl) (zB.of ⟨by decide, by decide⟩) h (by have := (zB.all tq).1; have := (zB.all tq).2; have := bfc_.1; have := bfc_.2; have : (0 : Int32).toInt = 0 := (by decide); omega) (by rw [show (0 : Int32).toInt.toNat = 0 by decide]; rfl) rfl

set_option maxHeartbeats 4000000 in
set_option maxRecDepth 100000 in
theorem ze_X2_begin (l : Launch) (D : va_G) (k : Nat → ClassId) (Γ : Nat → Option Nat) (L : List Nat) (F : Nat → va_E) (sz : Nat) (fu : Nat) (to : Int32) (li : Int32) (ac : Int32) (hfu : Γ fu = some 2) (bto : zB (-1) 601 to) (bli : zB 0 60 li) : Met l yX2_begin zwX2_begin ({ frames := 0, cells := 0, slots := 0, locals := 0 }) (va_Pc [.ref fu, .int to, .int li, .int ac] (zP D k Γ L F sz)) (va_Qv (fun (u : Nat → va_E) => (∃ x, zfld u fu 7 = .int x ∧ zB 0 0 x) ∧ (∃ (t9 : Int32) (l9 : Int32) (k9 : Int32) (a9 : Int32), zfld u fu 1 = .int t9 ∧ zB (-1) 601 t9 ∧ zfld u fu 3 = .int l9 ∧ zB 0 60 l9 ∧ zfld u fu 6 = .int k9 ∧ zB 0 0 k9 ∧ zfld u fu 5 = .int a9 ∧ zB (-2147483648) 2147483647 a9 ∧ (t9.toInt = to.toInt ∧ l9.toInt = li.toInt ∧ a9.toInt = ac.toInt)) ∧ zOth Γ F u fu ∧ True) (zQ D k Γ L F [201, 203, 205, 206, 207]) (zA L sz)) 0 0 (zA L sz) := by
  refine Met.ofW (cc := cX2_begin) (maxL := 4) (ret := none) (by decide) rfl ?_
  intro p e s m args below meth c s₁ B hml hv
  obtain ⟨rfl, hsz, hP, hK, hLn, hE, hI⟩ := hv
  have hx := B.exec
  have hb := B.bytes
  have hr := B.returns
  have hg : ∀ w ∈ zG, w.before _ s = true := fun w h9 => atoms_spec (ws := zwX2_begin) B.pre w (List.mem_cons_of_mem _ h9)
  have hown : s.vm.findClass RX2 = some m.cls := findClass_of_methodNamed B.named
  have hlocks := B.notSynchronized
  subst hsz
  have Z : zC p m c cX2_begin 4 s _ zG RX2 D k L := ⟨⟨hx, hb, hml, hown, hg⟩, hK, hLn, hE⟩
  have h : zH D k Γ L s F s.heap [] := ⟨hP, hI, va_S.rf⟩
  have hl := lv_entry ([.ref fu, .int to, .int li, .int ac]) (n := 4) (Nat.le_of_ble_eq_true rfl)
  rw [lg_entry_eq]
  generalize (lg_sl ([.ref fu, .int to, .int li, .int ac]) ++ List.replicate (4 - (lg_sl ([.ref fu, .int to, .int li, .int ac])).length) Slot.unset).toArray = ls at hl ⊢
  have hl : lv_has ls 4 [(0, .ref fu), (1, .int to), (2, .int li), (3, .int ac)] := hl
  clear hP hK hLn hE hI
  generalize hargs : ([.ref fu, .int to, .int li, .int ac] : List Value).toArray = args at *
  refine z_start (fun R Q hRf hRl hQ => ?_)
  have hRf : R.frames = 0 := hRf
  have hRl : R.locals = 0 := hRl
  have h9 := h
  refine lv_aload_n hx hb dX2_begin_0 rfl (lv_at hl 0 rfl) ?_
  refine lv_iload_n hx hb dX2_begin_1 rfl (lv_at hl 1 rfl) ?_
  refine zt_pute (t := 2) (C := RX2) (T := TX2) (N := 9) (v := .int to) Z h hfu zin_2 tyX2 tyX2_ok nmX2 rfl 1 rfl ⟨by decide, rfl⟩ (zm_RX2 (List.mem_of_getElem? (i := 2) rfl)) (fun _ h9 => h9) rfl (zV.i bto) rfl rfl dX2_begin_2 (fun H locs F_1 h hfF_1 kF_1 oF_1 => ?_)
  refine lv_aload_n hx hb dX2_begin_5 rfl (lv_at hl 0 rfl) ?_
  refine lv_iload_n hx hb dX2_begin_6 rfl (lv_at hl 2 rfl) ?_
  refine zt_pute (t := 2) (C := RX2) (T := TX2) (N := 9) (v := .int li) Z h hfu zin_2 tyX2 tyX2_ok nmX2 rfl 3 rfl ⟨by decide, rfl⟩ (zm_RX2 (List.mem_of_getElem? (i := 3) rfl)) (fun _ h9 => h9) rfl (zV.i (bli.w ⟨by decide, by decide⟩)) rfl rfl dX2_begin_7 (fun H locs F_2 h hfF_2 kF_2 oF_2 => ?_)
  refine lv_aload_n hx hb dX2_begin_10 rfl (lv_at hl 0 rfl) ?_
  refine lv_iload_n hx hb dX2_begin_11 rfl (lv_at hl 3 rfl) ?_
  refine zt_pute (t := 2) (C := RX2) (T := TX2) (N := 9) (v := .int ac) Z h hfu zin_2 tyX2 tyX2_ok nmX2 rfl 5 rfl ⟨by decide, rfl⟩ (zm_RX2 (List.mem_of_getElem? (i := 4) rfl)) (fun _ h9 => h9) rfl (zV.i (zB.all ac)) rfl rfl dX2_begin_12 (fun H locs F_3 h hfF_3 kF_3 oF_3 => ?_)
  refine lv_aload_n hx hb dX2_begin_15 rfl (lv_at hl 0 rfl) ?_
  refine lv_iconst (v := 0) hx hb dX2_begin_16 (by decide) ?_
  refine zt_pute (t := 2) (C := RX2) (T := TX2) (N := 9) (v := .int 0) Z h hfu zin_2 tyX2 tyX2_ok nmX2 rfl 6 rfl ⟨by decide, rfl⟩ (zm_RX2 (List.mem_of_getElem? (i := 5) rfl)) (fun _ h9 => h9) rfl (zV.i (zB.of ⟨by decide, by decide⟩)) rfl rfl dX2_begin_17 (fun H locs F_4 h hfF_4 kF_4 oF_4 => ?_)
  refine lv_aload_n hx hb dX2_begin_20 rfl (lv_at hl 0 rfl) ?_
  refine lv_iconst (v := 0) hx hb dX2_begin_21 (by decide) ?_
  refine zt_pute (t := 2) (C := RX2) (T := TX2) (N := 9) (v := .int 0) Z h hfu zin_2 tyX2 tyX2_ok nmX2 rfl 7 rfl ⟨by decide, rfl⟩ (zm_RX2 (List.mem_of_getElem? (i := 6) rfl)) (fun _ h9 => h9) rfl (zV.i (zB.of ⟨by decide, by decide⟩)) rfl rfl dX2_begin_22 (fun H locs F_5 h hfF_5 kF_5 oF_5 => ?_)
  have oth_6 : zOth Γ F F_5 fu := ((((((zOth.rf : zOth Γ F F fu).put oF_1).put oF_2).put oF_3).put oF_4).put oF_5)
  subst hQ
  exact W.vret hx hb hr (fun t ht hW => ⟨⟨F_5, rfl, ⟨⟨0, kF_5, (zB.of ⟨by decide, by decide⟩)⟩, ⟨to, li, 0, ac, (hfF_5.f hfu 1 ⟨by decide, by decide⟩ (hfF_4.f hfu 1 ⟨by decide, by decide⟩ (hfF_3.f hfu 1 ⟨by decide, by decide⟩ (hfF_2.f hfu 1 ⟨by decide, by decide⟩ kF_1)))), bto, (hfF_5.f hfu 3 ⟨by decide, by decide⟩ (hfF_4.f hfu 3 ⟨by decide, by decide⟩ (hfF_3.f hfu 3 ⟨by decide, by decide⟩ kF_2))), bli, (hfF_5.f hfu 6 ⟨by decide, by decide⟩ kF_4), (zB.of ⟨by decide, by decide⟩), (hfF_5.f hfu 5 ⟨by decide, by decide⟩ (hfF_4.f hfu 5 ⟨by decide, by decide⟩ kF_3)), (zB.all ac), (by have := bto.1; have := bto.2; have := bli.1; have := bli.2; have := (zB.all ac).1; have := (zB.all ac).2; have : (0 : Int32).toInt = 0 := (by decide); omega)⟩, oth_6, trivial⟩, by rw [ht]; exact h.1, h.2.1, (((((hfF_1.w (by decide)).trans hfF_2 (by decide)).trans hfF_3 (by decide)).trans hfF_4 (by decide)).trans hfF_5 (by decide))⟩, h.2.2.F ht⟩) h.2.2.2.2 dX2_begin_25

set_option maxHeartbeats 4000000 in
set_option maxRecDepth 100000 in
theorem ze_X2_hasPlace (l : Launch) (D : va_G) (k : Nat → ClassId) (Γ : Nat → Option Nat) (L : List Nat) (F : Nat → va_E) (sz : Nat) (fu : Nat) (q : Int32) (pc : Int32) (hfu : Γ fu = some 2) (kpc : zfld F fu 7 = .int pc) (bpc : zB 0 3 pc) : Met l yX2_hasPlace zwX2_hasPlace ({ frames := 0, cells := 0, slots := 0, locals := 0 }) (va_Pc [.ref fu, .int q] (zP D k Γ L F sz)) (va_Qi (fun (r : Int32) (u : Nat → va_E) => F = u ∧ zB 0 1 r ∧ ((r.toInt = 1 ∧ ∃ j : Nat, (j : Int) < pc.toInt ∧ (zar F fu 8 j).toInt = q.toInt) ∨ (r.toInt = 0 ∧ ∀ j : Nat, (j : Int) < pc.toInt → (zar F fu 8 j).toInt ≠ q.toInt)) ∧ True) (zQ D k Γ L F []) (zA L sz)) 0 0 (zA L sz) := by
  refine Met.ofW (cc := cX2_hasPlace) (maxL := 3) (ret := (some .boolean)) (by decide) rfl ?_
  intro p e s m args below meth c s₁ B hml hv
  obtain ⟨rfl, hsz, hP, hK, hLn, hE, hI⟩ := hv
  have hx := B.exec
  have hb := B.bytes
  have hr := B.returns
  have hg : ∀ w ∈ zG, w.before _ s = true := fun w h9 => atoms_spec (ws := zwX2_hasPlace) B.pre w (List.mem_cons_of_mem _ h9)
  have hown : s.vm.findClass RX2 = some m.cls := findClass_of_methodNamed B.named
  have hlocks := B.notSynchronized
  subst hsz
  have Z : zC p m c cX2_hasPlace 3 s _ zG RX2 D k L := ⟨⟨hx, hb, hml, hown, hg⟩, hK, hLn, hE⟩
  have h : zH D k Γ L s F s.heap [] := ⟨hP, hI, va_S.rf⟩
  have hl := lv_entry ([.ref fu, .int q]) (n := 3) (Nat.le_of_ble_eq_true rfl)
  rw [lg_entry_eq]
  generalize (lg_sl ([.ref fu, .int q]) ++ List.replicate (3 - (lg_sl ([.ref fu, .int q])).length) Slot.unset).toArray = ls at hl ⊢
  have hl : lv_has ls 3 [(0, .ref fu), (1, .int q)] := hl
  clear hP hK hLn hE hI
  generalize hargs : ([.ref fu, .int q] : List Value).toArray = args at *
  refine z_start (fun R Q hRf hRl hQ => ?_)
  have hRf : R.frames = 0 := hRf
  have hRl : R.locals = 0 := hRl
  have h9 := h
  refine lv_iconst (v := 0) hx hb dX2_hasPlace_0 (by decide) ?_
  refine lv_istore_n (lv' := [(2, .int 0), (0, .ref fu), (1, .int q)]) hx hb dX2_hasPlace_1 rfl hl (by decide) rfl (fun ls hl => ?_)
  have j_j2_1 : ∀ (n : Nat) (ls : Array Slot) (y2_j2_1 : Int32), lv_has ls 3 [(2, .int y2_j2_1), (0, .ref fu), (1, .int q)] → zB 0 3 y2_j2_1 → (y2_j2_1.toInt ≤ pc.toInt) → (∀ j : Nat, (j : Int) < y2_j2_1.toInt → (zar F fu 8 j).toInt ≠ q.toInt) → (2147483647 - y2_j2_1.toInt).toNat = n → W p l e R s m args below meth c s.heap [] 0 0 Q (F0 m 2 ls []) := by
    intro n
    induction n using Nat.strongRecOn with
    | _ n ih_j2_1 =>
      intro ls y2_j2_1 hl by2_j2_1 r0_j2_1 r1_j2_1 hn_j2_1
      refine lv_iload_n hx hb dX2_hasPlace_2 rfl (lv_at hl 0 rfl) ?_
      refine lv_aload_n hx hb dX2_hasPlace_3 rfl (lv_at hl 1 rfl) ?_
      refine zt_getk (t := 2) (C := RX2) (T := TX2) (N := 9) Z h hfu zin_2 rfl 7 kpc ⟨by decide, rfl, by decide⟩ (zm_RX2 (List.mem_of_getElem? (i := 6) rfl)) (fun _ h9 => h9) dX2_hasPlace_4 ?_
      refine lv_icmp_ge (tgt := 37) hx hb dX2_hasPlace_7 (by decide) (fun c_2 => ?_) (fun c_2 => ?_)
      · have c_2 := z_le c_2
        refine lv_iconst (v := 0) hx hb dX2_hasPlace_37 (by decide) ?_
        subst hQ
        exact W.zret (v := 0) hx hb hr (by decide) (fun t ht hW => ⟨⟨0, F, rfl, ⟨rfl, (zB.of ⟨by decide, by decide⟩), (Or.inr ⟨by decide, fun w9 hw9 => r1_j2_1 w9 (by have := by2_j2_1.1; have := by2_j2_1.2; have := (zB.all q).1; have := (zB.all q).2; have := bpc.1; have := bpc.2; have : (0 : Int32).toInt = 0 := (by decide); omega)⟩), trivial⟩, by rw [ht]; exact h.1, h.2.1, zFr.rf⟩, h.2.2.F ht⟩) h.2.2.2.2 dX2_hasPlace_38
      · have c_2 := z_nle c_2
        have by2_j2_1_3 : zB 0 2 y2_j2_1 := zB.ltL c_2 by2_j2_1 bpc (by decide)
        have bpc_4 : zB 1 3 pc := zB.ltR c_2 by2_j2_1 bpc (by decide)
        refine lv_iload_n hx hb dX2_hasPlace_10 rfl (lv_at hl 0 rfl) ?_
        refine lv_aload_n hx hb dX2_hasPlace_11 rfl (lv_at hl 1 rfl) ?_
        refine zt_getr (t := 2) (C := RX2) (T := TX2) (N := 9) Z h hfu zin_2 rfl 8 rfl ⟨by decide, rfl⟩ (zm_RX2 (List.mem_of_getElem? (i := 8) rfl)) (fun _ h9 => h9) dX2_hasPlace_12 (fun a_5 ka_5 ha_5 => ?_)
        refine zt_alen (t := 103) Z h ha_5 ⟨by decide, rfl⟩ (by decide) (v := 3) rfl dX2_hasPlace_15 ?_
        refine lv_icmp_ge (tgt := 37) hx hb dX2_hasPlace_16 (by decide) (fun c_6 => ?_) (fun c_6 => ?_)
        · have c_6 := z_le c_6
          exact zB.noLe c_6 (zBc 3 3 (by decide)) by2_j2_1_3 (by decide)
        · have c_6 := z_nle c_6
          refine lv_aload_n hx hb dX2_hasPlace_19 rfl (lv_at hl 1 rfl) ?_
          refine zt_getk (t := 2) (C := RX2) (T := TX2) (N := 9) Z h hfu zin_2 rfl 8 ka_5 ⟨by decide, rfl, by decide⟩ (zm_RX2 (List.mem_of_getElem? (i := 8) rfl)) (fun _ h9 => h9) dX2_hasPlace_20 ?_
          refine lv_iload_n hx hb dX2_hasPlace_23 rfl (lv_at hl 0 rfl) ?_
          refine zt_ialde (t := 103) Z h ha_5 ⟨by decide, rfl⟩ by2_j2_1_3 ⟨by decide, by decide⟩ dX2_hasPlace_24 (fun x_7 ex_7 bx_7 => ?_)
          refine lv_iload_n hx hb dX2_hasPlace_25 rfl (lv_at hl 2 rfl) ?_
          refine lv_icmp_ne (tgt := 31) hx hb dX2_hasPlace_26 (by decide) (fun c_8 => ?_) (fun c_8 => ?_)
          · have c_8 := z_ne c_8
            obtain ⟨x_9, ex_9, bx_9, tx_9⟩ := z_inc (n := 1) (lo := 1) (hi := 3) by2_j2_1_3 (by decide)
            refine lv_iinc (v := x_9) (lv' := [(2, .int x_9), (0, .ref fu), (1, .int q)]) hx hb dX2_hasPlace_31 hl (k := 0) rfl ex_9 (by decide) rfl (fun ls hl => ?_)
            refine lv_goto (tgt := 2) hx hb dX2_hasPlace_34 (by decide) ?_
            exact ih_j2_1 _ (by have := bx_9.1; have := bx_9.2; have := (zB.all q).1; have := (zB.all q).2; have := bpc_4.1; have := bpc_4.2; have : (3 : Int32).toInt = 3 := (by decide); have := by2_j2_1.1; have := by2_j2_1.2; omega) ls x_9 (lv_sub hl [0, 1, 2] rfl) (bx_9.w ⟨by decide, by decide⟩) (by have := bx_9.1; have := bx_9.2; have := (zB.all q).1; have := (zB.all q).2; have := bpc_4.1; have := bpc_4.2; have : (3 : Int32).toInt = 3 := (by decide); omega) (fun w9 hw9 => if h6 : (w9 : Int) < y2_j2_1.toInt then r1_j2_1 w9 h6 else (by rw [zar_eq ka_5, show w9 = Int32.toNatClampNeg y2_j2_1 by have := z_cl (x := y2_j2_1) (by have := bx_9.1; have := bx_9.2; have := (zB.all q).1; have := (zB.all q).2; have := by2_j2_1_3.1; have := by2_j2_1_3.2; have := bx_7.1; have := bx_7.2; have := bpc_4.1; have := bpc_4.2; have : (3 : Int32).toInt = 3 := (by decide); omega); omega, ex_7]; have := bx_9.1; have := bx_9.2; have := (zB.all q).1; have := (zB.all q).2; have := by2_j2_1_3.1; have := by2_j2_1_3.2; have := bx_7.1; have := bx_7.2; have := bpc_4.1; have := bpc_4.2; have : (3 : Int32).toInt = 3 := (by decide); omega)) rfl
          · have c_8 := z_eq c_8
            refine lv_iconst (v := 1) hx hb dX2_hasPlace_29 (by decide) ?_
            subst hQ
            exact W.zret (v := 1) hx hb hr (by decide) (fun t ht hW => ⟨⟨1, F, rfl, ⟨rfl, (zB.of ⟨by decide, by decide⟩), (Or.inl ⟨by decide, y2_j2_1.toInt.toNat, by have := by2_j2_1_3.1; have := by2_j2_1_3.2; have := (zB.all q).1; have := (zB.all q).2; have := bpc_4.1; have := bpc_4.2; have : (1 : Int32).toInt = 1 := (by decide); have : (3 : Int32).toInt = 3 := (by decide); omega, by rw [zar_eq ka_5, show y2_j2_1.toInt.toNat = Int32.toNatClampNeg y2_j2_1 from rfl, ex_7]; have := by2_j2_1_3.1; have := by2_j2_1_3.2; have := (zB.all q).1; have := (zB.all q).2; have := bx_7.1; have := bx_7.2; have := bpc_4.1; have := bpc_4.2; have : (1 : Int32).toInt = 1 := (by decide); have : (3 : Int32).toInt = 3 := (by decide); omega⟩), trivial⟩, by rw [ht]; exact h.1, h.2.1, zFr.rf⟩, h.2.2.F ht⟩) h.2.2.2.2 dX2_hasPlace_30
  exact j_j2_1 _ ls 0 (lv_sub hl [0, 1, 2] rfl) (zB.of ⟨by decide, by decide⟩) (by have := (zB.all q).1; have := (zB.all q).2; have := bpc.1; have := bpc.2; have : (0 : Int32).toInt = 0 := (by decide); omega) (fun q hq => by exfalso; have : (0 : Int32).toInt = 0 := (by decide); omega) rfl

set_option maxHeartbeats 4000000 in
set_option maxRecDepth 100000 in
theorem ze_X2_addPlace (l : Launch) (D : va_G) (k : Nat → ClassId) (Γ : Nat → Option Nat) (L : List Nat) (F : Nat → va_E) (sz : Nat) (fu : Nat) (q : Int32) (pc : Int32) (pla : Nat) (hfu : Γ fu = some 2) (kpc : zfld F fu 7 = .int pc) (bpc : zB 0 2 pc) (kpla : zfld F fu 8 = .ref pla) (hpla : Γ pla = some 103) : Met l yX2_addPlace zwX2_addPlace ({ frames := 0, cells := 0, slots := 0, locals := 0 }) (va_Pc [.ref fu, .int q] (zP D k Γ L F sz)) (va_Qv (fun (u : Nat → va_E) => (∃ (p9 : Int32), zfld u fu 7 = .int p9 ∧ zB 1 3 p9 ∧ (p9.toInt = pc.toInt + 1)) ∧ zar u fu 8 = upd (zar F fu 8) (Int32.toNatClampNeg pc) q ∧ zOth Γ F u fu ∧ zOtA Γ F u pla ∧ True) (zQ D k Γ L F [207, 10300]) (zA L sz)) 0 0 (zA L sz) := by
  refine Met.ofW (cc := cX2_addPlace) (maxL := 2) (ret := none) (by decide) rfl ?_
  intro p e s m args below meth c s₁ B hml hv
  obtain ⟨rfl, hsz, hP, hK, hLn, hE, hI⟩ := hv
  have hx := B.exec
  have hb := B.bytes
  have hr := B.returns
  have hg : ∀ w ∈ zG, w.before _ s = true := fun w h9 => atoms_spec (ws := zwX2_addPlace) B.pre w (List.mem_cons_of_mem _ h9)
  have hown : s.vm.findClass RX2 = some m.cls := findClass_of_methodNamed B.named
  have hlocks := B.notSynchronized
  subst hsz
  have Z : zC p m c cX2_addPlace 2 s _ zG RX2 D k L := ⟨⟨hx, hb, hml, hown, hg⟩, hK, hLn, hE⟩
  have h : zH D k Γ L s F s.heap [] := ⟨hP, hI, va_S.rf⟩
  have hl := lv_entry ([.ref fu, .int q]) (n := 2) (Nat.le_of_ble_eq_true rfl)
  rw [lg_entry_eq]
  generalize (lg_sl ([.ref fu, .int q]) ++ List.replicate (2 - (lg_sl ([.ref fu, .int q])).length) Slot.unset).toArray = ls at hl ⊢
  have hl : lv_has ls 2 [(0, .ref fu), (1, .int q)] := hl
  clear hP hK hLn hE hI
  generalize hargs : ([.ref fu, .int q] : List Value).toArray = args at *
  refine z_start (fun R Q hRf hRl hQ => ?_)
  have hRf : R.frames = 0 := hRf
  have hRl : R.locals = 0 := hRl
  have h9 := h
  have ad_1 := z_ad (j := 8) (c := 103) h.2.1 hfu (by decide) rfl
  refine lv_aload_n hx hb dX2_addPlace_0 rfl (lv_at hl 0 rfl) ?_
  refine zt_getk (t := 2) (C := RX2) (T := TX2) (N := 9) Z h hfu zin_2 rfl 7 kpc ⟨by decide, rfl, by decide⟩ (zm_RX2 (List.mem_of_getElem? (i := 6) rfl)) (fun _ h9 => h9) dX2_addPlace_1 ?_
  refine lv_aload_n hx hb dX2_addPlace_4 rfl (lv_at hl 0 rfl) ?_
  refine zt_getk (t := 2) (C := RX2) (T := TX2) (N := 9) Z h hfu zin_2 rfl 8 kpla ⟨by decide, rfl, by decide⟩ (zm_RX2 (List.mem_of_getElem? (i := 8) rfl)) (fun _ h9 => h9) dX2_addPlace_5 ?_
  refine zt_alen (t := 103) Z h hpla ⟨by decide, rfl⟩ (by decide) (v := 3) rfl dX2_addPlace_8 ?_
  refine lv_icmp_ge (tgt := 32) hx hb dX2_addPlace_9 (by decide) (fun c_2 => ?_) (fun c_2 => ?_)
  · have c_2 := z_le c_2
    exact zB.noLe c_2 (zBc 3 3 (by decide)) bpc (by decide)
  · have c_2 := z_nle c_2
    refine lv_aload_n hx hb dX2_addPlace_12 rfl (lv_at hl 0 rfl) ?_
    refine zt_getk (t := 2) (C := RX2) (T := TX2) (N := 9) Z h hfu zin_2 rfl 8 kpla ⟨by decide, rfl, by decide⟩ (zm_RX2 (List.mem_of_getElem? (i := 8) rfl)) (fun _ h9 => h9) dX2_addPlace_13 ?_
    refine lv_aload_n hx hb dX2_addPlace_16 rfl (lv_at hl 0 rfl) ?_
    refine zt_getk (t := 2) (C := RX2) (T := TX2) (N := 9) Z h hfu zin_2 rfl 7 kpc ⟨by decide, rfl, by decide⟩ (zm_RX2 (List.mem_of_getElem? (i := 6) rfl)) (fun _ h9 => h9) dX2_addPlace_17 ?_
    refine lv_iload_n hx hb dX2_addPlace_20 rfl (lv_at hl 1 rfl) ?_
    refine zt_iaste (t := 103) Z h hpla ⟨by decide, rfl⟩ bpc ⟨by decide, by decide⟩ (zB.all q) dX2_addPlace_21 (fun H locs F_3 h hfF_3 eF_3 gF_3 => ?_)
    have uF_3 := (zar_st kpla (hfF_3.f hfu 8 ⟨by decide, by decide⟩ kpla) eF_3 gF_3).trans (congrArg (fun z => upd z (Int32.toNatClampNeg pc) q) (rfl : zar F fu 8 = (zar F fu 8)))
    refine lv_aload_n hx hb dX2_addPlace_22 rfl (lv_at hl 0 rfl) ?_
    refine lv_dup hx hb dX2_addPlace_23 rfl ?_
    refine zt_getk (t := 2) (C := RX2) (T := TX2) (N := 9) Z h hfu zin_2 rfl 7 (hfF_3.f hfu 7 ⟨by decide, by decide⟩ kpc) ⟨by decide, rfl, by decide⟩ (zm_RX2 (List.mem_of_getElem? (i := 6) rfl)) (fun _ h9 => h9) dX2_addPlace_24 ?_
    refine lv_iconst (v := 1) hx hb dX2_addPlace_27 (by decide) ?_
    refine lv_iadd hx hb dX2_addPlace_28 ?_
    refine zi_add (lo := 1) (hi := 3) bpc (zBc 1 1 (by decide)) (by decide) (fun x_4 bx_4 tx_4 => ?_)
    refine zt_pute (t := 2) (C := RX2) (T := TX2) (N := 9) (v := .int x_4) Z h hfu zin_2 tyX2 tyX2_ok nmX2 rfl 7 rfl ⟨by decide, rfl⟩ (zm_RX2 (List.mem_of_getElem? (i := 6) rfl)) (fun _ h9 => h9) rfl (zV.i (bx_4.w ⟨by decide, by decide⟩)) rfl rfl dX2_addPlace_29 (fun H locs F_5 h hfF_5 kF_5 oF_5 => ?_)
    have ad_6 := ad_1.fr hfF_3 hfu ⟨by decide, by decide⟩
    have ar_7 : zar F_5 fu 8 = (upd (zar F fu 8) (Int32.toNatClampNeg pc) q) := ((ad_6.ar hfF_5 hfu ⟨by decide, by decide⟩ ⟨by decide, by decide⟩).trans uF_3)
    have oth_8 : zOth Γ F F_5 fu := (((zOth.rf : zOth Γ F F fu).fr hfF_3 (by decide)).put oF_5)
    have ota_9 : zOtA Γ F F_5 pla := (((zOtA.rf : zOtA Γ F F pla).put gF_3).fr hfF_5 (by decide))
    subst hQ
    exact W.vret hx hb hr (fun t ht hW => ⟨⟨F_5, rfl, ⟨⟨x_4, kF_5, bx_4, (by have := (zB.all q).1; have := (zB.all q).2; have := bx_4.1; have := bx_4.2; have := bpc.1; have := bpc.2; have : (1 : Int32).toInt = 1 := (by decide); have : (3 : Int32).toInt = 3 := (by decide); omega)⟩, ar_7, oth_8, ota_9, trivial⟩, by rw [ht]; exact h.1, h.2.1, ((hfF_3.w (by decide)).trans hfF_5 (by decide))⟩, h.2.2.F ht⟩) h.2.2.2.2 dX2_addPlace_32

set_option maxHeartbeats 4000000 in
set_option maxRecDepth 100000 in
theorem ze_X7_readName (l : Launch) (D : va_G) (k : Nat → ClassId) (Γ : Nat → Option Nat) (L : List Nat) (F : Nat → va_E) (sz : Nat) (th : Nat) (fu : Nat) (pr : Nat) (tk : Nat) (co : Nat) (Bt : Nat → Int32) (nt : Nat) (Nt : Nat) (cc : Int32) (σ : zSg) (fa : Nat → Nat) (hth : Γ th = some 7) (hfu : Γ fu = some 2) (kpr : zfld F th 3 = .ref pr) (hpr : Γ pr = some 6) (ktk : zfld F th 4 = .ref tk) (htk : Γ tk = some 8) (kco : zfld F th 5 = .ref co) (hco : Γ co = some 1) (ke_pr_0 : zfld F pr 0 = .ref tk) (p_tb : zTb Γ F tk Bt nt Nt) (kcc : zfld F th 11 = .int cc) (bcc : zB 0 150 cc) (p_au : zC1 F th Nt (σ)) (hm_ : ∀ i d9, σ = .inl (i, d9) → 4 * cc.toInt + 5 ≤ zpo Bt nt i + (3)) (p_c3 : zC3 Γ F pr fa (zTo Bt nt) Nt σ) : Met l yX7_readName zwX7_readName ({ frames := 4, cells := 0, slots := 0, locals := 90 }) (va_Pc [.ref th, .ref fu] (zP D k Γ L F sz)) (va_Qv (fun (u : Nat → va_E) => (∃ σ9 : zSg, zC1 u th Nt σ9 ∧ zRc (zTo Bt nt) σ [(2, 0, 0, 0)] σ9 [] ∧ zsN σ σ9 ∧ zCc Γ F u th (zTo Bt nt) σ σ9 (1) ∧ zNm u fu (zTo Bt nt) Nt σ9) ∧ zOth Γ F u fu ∧ True) (zQ D k Γ L F [200, 701, 702, 706]) (zA L sz)) 0 0 (zA L sz) := by
  refine Met.ofW (cc := cX7_readName) (maxL := 2) (ret := none) (by decide) rfl ?_
  intro p e s m args below meth c s₁ B hml hv
  obtain ⟨rfl, hsz, hP, hK, hLn, hE, hI⟩ := hv
  have hx := B.exec
  have hb := B.bytes
  have hr := B.returns
  have hg : ∀ w ∈ zG, w.before _ s = true := fun w h9 => atoms_spec (ws := zwX7_readName) B.pre w (List.mem_cons_of_mem _ h9)
  have hown : s.vm.findClass RX7 = some m.cls := findClass_of_methodNamed B.named
  have hlocks := B.notSynchronized
  subst hsz
  have Z : zC p m c cX7_readName 2 s _ zG RX7 D k L := ⟨⟨hx, hb, hml, hown, hg⟩, hK, hLn, hE⟩
  have h : zH D k Γ L s F s.heap [] := ⟨hP, hI, va_S.rf⟩
  have hl := lv_entry ([.ref th, .ref fu]) (n := 2) (Nat.le_of_ble_eq_true rfl)
  rw [lg_entry_eq]
  generalize (lg_sl ([.ref th, .ref fu]) ++ List.replicate (2 - (lg_sl ([.ref th, .ref fu])).length) Slot.unset).toArray = ls at hl ⊢
  have hl : lv_has ls 2 [(0, .ref th), (1, .ref fu)] := hl
  clear hP hK hLn hE hI
  generalize hargs : ([.ref th, .ref fu] : List Value).toArray = args at *
  refine z_start (fun R Q hRf hRl hQ => ?_)
  have hRf : R.frames = 4 := hRf
  have hRl : R.locals = 90 := hRl
  have h9 := h
  have hLs_ := p_tb.2.2.2.1
  obtain ⟨sz_, ksz_, tsz_⟩ := p_tb.2.2.1
  have bsz_ : zB 1 601 sz_ := ⟨by have := hLs_.1; omega, by have := hLs_.2.1; omega⟩
  obtain ⟨⟨x_1, kx_1, nx_1⟩, ⟨x_2, kx_2, nx_2⟩, ox_1⟩ := id p_au
  have gx_1 := zC1.nx p_au hLs_.1 kx_1
  have bx_1 : zB 0 600 x_1 := ⟨by omega, by have := hLs_.2.1; omega⟩
  have bx_2 := zB.all x_2
  have ad_3 := z_ad (j := 7) (c := 106) h.2.1 hth (by decide) rfl
  have ad_4 := z_ad (j := 8) (c := 107) h.2.1 hth (by decide) rfl
  have ad_5 := z_ad (j := 10) (c := 161) h.2.1 hth (by decide) rfl
  have ad_6 := z_ad (j := 9) (c := 160) h.2.1 hth (by decide) rfl
  have cc0_ : zCc Γ F F th (zTo Bt nt) σ σ (3) := zCc.rf kcc bcc.1 ⟨ad_3, ad_4, ad_5, ad_6⟩ hm_
  have rc0_ : zRc (zTo Bt nt) σ [(2, 0, 0, 0)] σ [(2, 0, 0, 0)] := zRc.rf
  have ss0_ : zsN σ σ := zsN.rf
  refine lv_aload_n hx hb dX7_readName_0 rfl (lv_at hl 0 rfl) ?_
  refine zk_Vi (As := []) (rest := []) (bytes := cX7_kind) (maxL := 2) (ret := (some .int)) Z h (ze_X7_kind l D k Γ L F s.heap.size th tk Bt nt Nt σ hth ktk htk p_tb p_au) (cwV 0 hg zv_RX7_65 rfl rfl rfl zd_X7_kind ⟨z_leR hRf (by decide), z_leR hRl (by decide)⟩) hth (by decide) rfl rfl hl.1 rfl (Nat.le_of_ble_eq_true rfl) dX7_readName_1 ⟨Nat.zero_le _, Nat.zero_le _⟩ (fun r_7 F_8 H locs w_9 h hfF_8 => ?_)
  obtain ⟨rfl, q_10, -⟩ := w_9
  have br_7 := zB.all r_7
  refine lv_iconst (v := 4) hx hb dX7_readName_4 (by decide) ?_
  refine lv_icmp_eq (tgt := 16) hx hb dX7_readName_5 (by decide) (fun c_11 => ?_) (fun c_11 => ?_)
  · have c_11 := z_eq c_11
    have br_7_12 : zB 4 4 r_7 := zB.eqL (a := 0) (b := 0) c_11 (zBc 4 4 (by decide))
    obtain ⟨iq, dq, hinl⟩ := zinl hLs_ (σ := σ) ⟨by have := br_7_12.1; have := br_7_12.2; have := bcc.1; have := bcc.2; have := bsz_.1; have := bsz_.2; have := bx_1.1; have := bx_1.2; have := bx_2.1; have := bx_2.2; have : (4 : Int32).toInt = 4 := (by decide); omega, by have := br_7_12.1; have := br_7_12.2; have := bcc.1; have := bcc.2; have := bsz_.1; have := bsz_.2; have := bx_1.1; have := bx_1.2; have := bx_2.1; have := bx_2.2; have : (4 : Int32).toInt = 4 := (by decide); omega⟩
    have hq_ : x_1.toInt = (iq : Int) := by rw [nx_1, hinl]; rfl
    refine lv_aload_n hx hb dX7_readName_16 rfl (lv_at hl 0 rfl) ?_
    refine zt_getk (t := 7) (C := RX7) (T := TX7) (N := 12) Z h hth zin_7 rfl 3 kpr ⟨by decide, rfl, by decide⟩ (zm_RX7 (List.mem_of_getElem? (i := 2) rfl)) (fun _ h9 => h9) dX7_readName_17 ?_
    refine lv_aload_n hx hb dX7_readName_20 rfl (lv_at hl 0 rfl) ?_
    refine zt_getk (t := 7) (C := RX7) (T := TX7) (N := 12) Z h hth zin_7 rfl 4 ktk ⟨by decide, rfl, by decide⟩ (zm_RX7 (List.mem_of_getElem? (i := 4) rfl)) (fun _ h9 => h9) dX7_readName_21 ?_
    refine lv_aload_n hx hb dX7_readName_24 rfl (lv_at hl 0 rfl) ?_
    refine zt_getk (t := 7) (C := RX7) (T := TX7) (N := 12) Z h hth zin_7 rfl 6 kx_1 ⟨by decide, rfl, by decide⟩ (zm_RX7 (List.mem_of_getElem? (i := 9) rfl)) (fun _ h9 => h9) dX7_readName_25 ?_
    refine zk_Vi (As := [.ref tk, .int x_1]) (rest := []) (bytes := cX6_functionNamed) (maxL := 4) (ret := (some .int)) Z h (ze_X6_functionNamed l D k Γ L F H.size pr tk x_1 Bt nt Nt fa iq dq hpr htk ke_pr_0 p_tb (by rw [← hinl]; exact p_c3.1) ⟨by have := bx_1.1; have := bx_1.2; have := br_7_12.1; have := br_7_12.2; have := bcc.1; have := bcc.2; have := bsz_.1; have := bsz_.2; have := bx_2.1; have := bx_2.2; have : (4 : Int32).toInt = 4 := (by decide); omega, by have := bx_1.1; have := bx_1.2; have := br_7_12.1; have := br_7_12.2; have := bcc.1; have := bcc.2; have := bsz_.1; have := bsz_.2; have := bx_2.1; have := bx_2.2; have : (4 : Int32).toInt = 4 := (by decide); omega, by rw [nx_1, zkd_nx]; have := bx_1.1; have := bx_1.2; have := br_7_12.1; have := br_7_12.2; have := bcc.1; have := bcc.2; have := bsz_.1; have := bsz_.2; have := bx_2.1; have := bx_2.2; have : (4 : Int32).toInt = 4 := (by decide); omega⟩) (cwV 2 hg zv_RX7_128 rfl rfl rfl zd_X6_functionNamed ⟨z_leR hRf (by decide), z_leR hRl (by decide)⟩) hpr (by decide) rfl rfl hl.1 rfl (Nat.le_of_ble_eq_true rfl) dX7_readName_28 ⟨Nat.zero_le _, Nat.zero_le _⟩ (fun r_13 F_14 H locs w_15 h hfF_14 => ?_)
    obtain ⟨rfl, br_13, q_16, -⟩ := w_15
    refine lv_iconst (v := (-1)) hx hb dX7_readName_31 (by decide) ?_
    refine lv_icmp_eq (tgt := 43) hx hb dX7_readName_32 (by decide) (fun c_17 => ?_) (fun c_17 => ?_)
    · have c_17 := z_eq c_17
      have br_13_18 : zB (-1) (-1) r_13 := zB.eqL (a := 0) (b := 0) c_17 (zBc (-1) (-1) (by decide))
      refine lv_aload_n hx hb dX7_readName_43 rfl (lv_at hl 1 rfl) ?_
      refine lv_aload_n hx hb dX7_readName_44 rfl (lv_at hl 0 rfl) ?_
      refine zt_getk (t := 7) (C := RX7) (T := TX7) (N := 12) Z h hth zin_7 rfl 6 kx_1 ⟨by decide, rfl, by decide⟩ (zm_RX7 (List.mem_of_getElem? (i := 9) rfl)) (fun _ h9 => h9) dX7_readName_45 ?_
      refine zt_pute (t := 2) (C := RX2) (T := TX2) (N := 9) (v := .int x_1) Z h hfu zin_2 tyX2 tyX2_ok nmX2 rfl 0 rfl ⟨by decide, rfl⟩ (zm_RX7 (List.mem_of_getElem? (i := 51) rfl)) (fun _ h9 => h9) rfl (zV.i (bx_1.w ⟨by decide, by decide⟩)) rfl rfl dX7_readName_48 (fun H locs F_19 h hfF_19 kF_19 oF_19 => ?_)
      refine lv_aload_n hx hb dX7_readName_51 rfl (lv_at hl 0 rfl) ?_
      refine lv_dup hx hb dX7_readName_52 rfl ?_
      refine zt_getk (t := 7) (C := RX7) (T := TX7) (N := 12) Z h hth zin_7 rfl 6 (hfF_19.f hth 6 ⟨by decide, by decide⟩ kx_1) ⟨by decide, rfl, by decide⟩ (zm_RX7 (List.mem_of_getElem? (i := 9) rfl)) (fun _ h9 => h9) dX7_readName_53 ?_
      refine lv_iconst (v := 1) hx hb dX7_readName_56 (by decide) ?_
      refine lv_iadd hx hb dX7_readName_57 ?_
      refine zi_add (lo := 1) (hi := 601) bx_1 (zBc 1 1 (by decide)) (by decide) (fun x_20 bx_20 tx_20 => ?_)
      refine zt_put (t := 7) (C := RX7) (T := TX7) (N := 12) (v := .int x_20) Z h hth zin_7 tyX7 tyX7_ok nmX7 rfl 6 rfl ⟨by decide, rfl⟩ (zm_RX7 (List.mem_of_getElem? (i := 9) rfl)) (fun _ h9 => h9) rfl (zV.i (bx_20.w ⟨by decide, by decide⟩)) rfl rfl dX7_readName_58 (fun H locs F_21 h hfF_21 kF_21 => ?_)
      have c1_22 := (p_au.fr hfF_19 hth (by decide))
      have cc_23 := (cc0_.fr hfF_19 hth (by decide) (zTo_P Bt nt))
      have c1_24 : zC1 F_21 th Nt (zadv (zmap (fun i d9 => zaddn d9 i) σ)) := (zC1.adm (T := zTo Bt nt) c1_22 hfF_21 hth (by decide) (hfF_19.f hth 6 ⟨by decide, by decide⟩ kx_1) kF_21 (by have := bx_1.1; have := bx_1.2; have := br_7_12.1; have := br_7_12.2; have := bcc.1; have := bcc.2; have := bsz_.1; have := bsz_.2; have := bx_20.1; have := bx_20.2; have := bx_2.1; have := bx_2.2; have : ((-1) : Int32).toInt = (-1) := (by decide); have : (1 : Int32).toInt = 1 := (by decide); have : (4 : Int32).toInt = 4 := (by decide); omega) hLs_ ⟨by have := bx_1.1; have := bx_1.2; have := br_7_12.1; have := br_7_12.2; have := bcc.1; have := bcc.2; have := bsz_.1; have := bsz_.2; have := bx_20.1; have := bx_20.2; have := bx_2.1; have := bx_2.2; have : ((-1) : Int32).toInt = (-1) := (by decide); have : (1 : Int32).toInt = 1 := (by decide); have : (4 : Int32).toInt = 4 := (by decide); omega, by have := bx_1.1; have := bx_1.2; have := br_7_12.1; have := br_7_12.2; have := bcc.1; have := bcc.2; have := bsz_.1; have := bsz_.2; have := bx_20.1; have := bx_20.2; have := bx_2.1; have := bx_2.2; have : ((-1) : Int32).toInt = (-1) := (by decide); have : (1 : Int32).toInt = 1 := (by decide); have : (4 : Int32).toInt = 4 := (by decide); omega⟩)
      have rc_24 : zRc (zTo Bt nt) σ [(2, 0, 0, 0)] (zadv (zmap (fun i d9 => zaddn d9 i) σ)) [] := zRc.name0 (N := Nt) rc0_ (by have := br_7_12.1; have := br_7_12.2; have := bcc.1; have := bcc.2; have := bsz_.1; have := bsz_.2; have := bx_20.1; have := bx_20.2; have := bx_2.1; have := bx_2.2; have := bx_1.1; have := bx_1.2; have : ((-1) : Int32).toInt = (-1) := (by decide); have : (1 : Int32).toInt = 1 := (by decide); have : (4 : Int32).toInt = 4 := (by decide); omega) (fun i d9 e9 => by cases hinl.symm.trans e9; have h7 := q_16; rw [show x_1.toInt.toNat = iq by omega] at h7; cases h8 : zfind (zTo Bt nt).2.2 (znm dq) ((zTo Bt nt).2.2 iq) (zfc dq) with | none => rfl | some g => (exfalso; rw [h8] at h7; have h6 : zfi (some g) = (g : Int) := rfl; have := br_13_18.1; have := br_13_18.2; have := br_7_12.1; have := br_7_12.2; have := bcc.1; have := bcc.2; have := bsz_.1; have := bsz_.2; have := bx_20.1; have := bx_20.2; have := bx_2.1; have := bx_2.2; have := bx_1.1; have := bx_1.2; have : ((-1) : Int32).toInt = (-1) := (by decide); have : (1 : Int32).toInt = 1 := (by decide); have : (4 : Int32).toInt = 4 := (by decide); omega))
      have st_24 : zsN σ (zadv (zmap (fun i d9 => zaddn d9 i) σ)) := zsN.nm
      have ss_24 : zsN σ (zadv (zmap (fun i d9 => zaddn d9 i) σ)) := ss0_.trans st_24
      have cc_24 : zCc Γ F F_21 th (zTo Bt nt) σ (zadv (zmap (fun i d9 => zaddn d9 i) σ)) (1) := (zCc.adm2 (N := Nt) (f := fun i d9 => zaddn d9 i) (cc_23.fr hfF_21 hth (by decide) (zTo_P Bt nt)) (fun _ _ => ⟨rfl, zNc.eq rfl rfl⟩) (by have := bx_1.1; have := bx_1.2; have := br_7_12.1; have := br_7_12.2; have := bcc.1; have := bcc.2; have := bsz_.1; have := bsz_.2; have := bx_20.1; have := bx_20.2; have := bx_2.1; have := bx_2.2; have : ((-1) : Int32).toInt = (-1) := (by decide); have : (1 : Int32).toInt = 1 := (by decide); have : (4 : Int32).toInt = 4 := (by decide); omega) (by omega))
      generalize hσ_24 : zadv (zmap (fun i d9 => zaddn d9 i) σ) = σ_24 at c1_24 rc_24 st_24 ss_24 cc_24
      obtain ⟨⟨x_25, kx_25, nx_25⟩, ⟨x_26, kx_26, nx_26⟩, ox_25⟩ := id c1_24
      have gx_25 := zC1.nx c1_24 hLs_.1 kx_25
      have bx_25 : zB 0 600 x_25 := ⟨by omega, by have := hLs_.2.1; omega⟩
      have bx_26 := zB.all x_26
      have vx_25 := congrArg Int32.toInt (z_same kF_21 kx_25)
      have mo_24 := zsN.nx st_24 ox_1 ox_25
      have nm_27 : zNm F_21 fu (zTo Bt nt) Nt σ_24 := by rw [← hσ_24]; exact zNm.new (hfF_21.f hfu 0 ⟨by decide, by decide⟩ kF_19) nx_1 ox_1 (by have := br_7_12.1; have := br_7_12.2; have := bcc.1; have := bcc.2; have := bsz_.1; have := bsz_.2; have := bx_20.1; have := bx_20.2; have := bx_2.1; have := bx_2.2; have := bx_1.1; have := bx_1.2; have : ((-1) : Int32).toInt = (-1) := (by decide); have : (1 : Int32).toInt = 1 := (by decide); have : (4 : Int32).toInt = 4 := (by decide); omega)
      have oth_28 : zOth Γ F F_21 fu := (((zOth.rf : zOth Γ F F fu).put oF_19).fr hfF_21 (by decide))
      subst hQ
      exact W.vret hx hb hr (fun t ht hW => ⟨⟨F_21, rfl, ⟨⟨σ_24, c1_24, rc_24, ss_24, (cc_24.w (by have := br_7_12.1; have := br_7_12.2; have := bcc.1; have := bcc.2; have := bsz_.1; have := bsz_.2; have := bx_25.1; have := bx_25.2; have := bx_26.1; have := bx_26.2; have := bx_1.1; have := bx_1.2; have : ((-1) : Int32).toInt = (-1) := (by decide); have : (1 : Int32).toInt = 1 := (by decide); have : (4 : Int32).toInt = 4 := (by decide); omega)), nm_27⟩, oth_28, trivial⟩, by rw [ht]; exact h.1, h.2.1, ((hfF_19.w (by decide)).trans hfF_21 (by decide))⟩, h.2.2.F ht⟩) h.2.2.2.2 dX7_readName_61
    · have c_17 := z_ne c_17
      have br_13_29 : zB 0 9 r_13 := zB.neLo c_17 br_13 (zBc (-1) (-1) (by decide)) (by decide)
      refine lv_aload_n hx hb dX7_readName_35 rfl (lv_at hl 0 rfl) ?_
      refine lv_iconst (v := 2) hx hb dX7_readName_36 (by decide) ?_
      refine zk_Vv (As := [.int 2]) (rest := []) (bytes := cX7_fail) (maxL := 2) (ret := none) Z h (ze_X7_fail l D k Γ L F H.size th 2 tk Bt nt Nt σ hth ktk htk p_tb p_au (by have := br_7_12.1; have := br_7_12.2; have := bcc.1; have := bcc.2; have := bsz_.1; have := bsz_.2; have := bx_1.1; have := bx_1.2; have := bx_2.1; have := bx_2.2; have : ((-1) : Int32).toInt = (-1) := (by decide); have : (2 : Int32).toInt = 2 := (by decide); have : (4 : Int32).toInt = 4 := (by decide); omega)) (cwV 1 hg zv_RX7_79 rfl rfl rfl zd_X7_fail ⟨z_leR hRf (by decide), z_leR hRl (by decide)⟩) hth (by decide) rfl rfl hl.1 rfl (Nat.le_of_ble_eq_true rfl) dX7_readName_37 ⟨Nat.zero_le _, Nat.zero_le _⟩ (fun F_30 H locs w_31 h hfF_30 => ?_)
      obtain ⟨q_32, -⟩ := w_31
      have c1_33 : zC1 F_30 th Nt (zfl 2 σ) := (by have h9 := q_32; rw [show (2 : Int32).toInt = 2 by decide] at h9; exact h9)
      have rc_33 : zRc (zTo Bt nt) σ [(2, 0, 0, 0)] (zfl 2 σ) [] := zRc.name2 (N := Nt) rc0_ (by have := br_7_12.1; have := br_7_12.2; have := bcc.1; have := bcc.2; have := bsz_.1; have := bsz_.2; have : ((-1) : Int32).toInt = (-1) := (by decide); have : (4 : Int32).toInt = 4 := (by decide); omega) (fun i d9 e9 => by cases hinl.symm.trans e9; have h7 := q_16; rw [show x_1.toInt.toNat = iq by omega] at h7; intro h8; rw [h8] at h7; have h6 : zfi none = -1 := rfl; have := br_13_29.1; have := br_13_29.2; have := br_7_12.1; have := br_7_12.2; have := bcc.1; have := bcc.2; have := bsz_.1; have := bsz_.2; have : ((-1) : Int32).toInt = (-1) := (by decide); have : (4 : Int32).toInt = 4 := (by decide); omega)
      have st_33 : zsm σ (zfl 2 σ) := zsm.fl
      have ss_33 : zsN σ (zfl 2 σ) := ss0_.trans st_33.ss.sN
      have cc_33 : zCc Γ F F_30 th (zTo Bt nt) σ (zfl 2 σ) (3) := (cc0_.mv hfF_30 hth (by decide) (zTo_P Bt nt) zsm.fl.cs)
      generalize hσ_33 : zfl 2 σ = σ_33 at c1_33 rc_33 st_33 ss_33 cc_33
      obtain ⟨⟨x_34, kx_34, nx_34⟩, ⟨x_35, kx_35, nx_35⟩, ox_34⟩ := id c1_33
      have gx_34 := zC1.nx c1_33 hLs_.1 kx_34
      have bx_34 : zB 0 600 x_34 := ⟨by omega, by have := hLs_.2.1; omega⟩
      have bx_35 := zB.all x_35
      have mo_33 := zsm.nx st_33 ox_1 ox_34
      have nm_36 : zNm F_30 fu (zTo Bt nt) Nt σ_33 := by rw [← hσ_33]; exact zNm.fl
      have cc_37 : zCc Γ F F_30 th (zTo Bt nt) σ σ_33 (1) := zCc.bad cc_33 (by rw [← hσ_33]; exact zfl_bad _ _)
      refine lv_goto (tgt := 61) hx hb dX7_readName_40 (by decide) ?_
      have oth_38 : zOth Γ F F_30 fu := ((zOth.rf : zOth Γ F F fu).fr hfF_30 (by decide))
      subst hQ
      exact W.vret hx hb hr (fun t ht hW => ⟨⟨F_30, rfl, ⟨⟨σ_33, c1_33, rc_33, ss_33, (cc_37.w (by have := br_7_12.1; have := br_7_12.2; have := bcc.1; have := bcc.2; have := bsz_.1; have := bsz_.2; have := bx_34.1; have := bx_34.2; have := bx_35.1; have := bx_35.2; have : ((-1) : Int32).toInt = (-1) := (by decide); have : (4 : Int32).toInt = 4 := (by decide); omega)), nm_36⟩, oth_38, trivial⟩, by rw [ht]; exact h.1, h.2.1, (hfF_30.w (by decide))⟩, h.2.2.F ht⟩) h.2.2.2.2 dX7_readName_61
  · have c_11 := z_ne c_11
    refine lv_aload_n hx hb dX7_readName_8 rfl (lv_at hl 0 rfl) ?_
    refine lv_iconst (v := 1) hx hb dX7_readName_9 (by decide) ?_
    refine zk_Vv (As := [.int 1]) (rest := []) (bytes := cX7_fail) (maxL := 2) (ret := none) Z h (ze_X7_fail l D k Γ L F H.size th 1 tk Bt nt Nt σ hth ktk htk p_tb p_au (by have := br_7.1; have := br_7.2; have := bcc.1; have := bcc.2; have := bsz_.1; have := bsz_.2; have := bx_1.1; have := bx_1.2; have := bx_2.1; have := bx_2.2; have : (1 : Int32).toInt = 1 := (by decide); have : (4 : Int32).toInt = 4 := (by decide); omega)) (cwV 1 hg zv_RX7_79 rfl rfl rfl zd_X7_fail ⟨z_leR hRf (by decide), z_leR hRl (by decide)⟩) hth (by decide) rfl rfl hl.1 rfl (Nat.le_of_ble_eq_true rfl) dX7_readName_10 ⟨Nat.zero_le _, Nat.zero_le _⟩ (fun F_39 H locs w_40 h hfF_39 => ?_)
    obtain ⟨q_41, -⟩ := w_40
    have c1_42 : zC1 F_39 th Nt (zfl 1 σ) := (by have h9 := q_41; rw [show (1 : Int32).toInt = 1 by decide] at h9; exact h9)
    have rc_42 : zRc (zTo Bt nt) σ [(2, 0, 0, 0)] (zfl 1 σ) [] := zRc.name1 (N := Nt) rc0_ (by have := br_7.1; have := br_7.2; have := bcc.1; have := bcc.2; have := bsz_.1; have := bsz_.2; have : (4 : Int32).toInt = 4 := (by decide); omega)
    have st_42 : zsm σ (zfl 1 σ) := zsm.fl
    have ss_42 : zsN σ (zfl 1 σ) := ss0_.trans st_42.ss.sN
    have cc_42 : zCc Γ F F_39 th (zTo Bt nt) σ (zfl 1 σ) (3) := (cc0_.mv hfF_39 hth (by decide) (zTo_P Bt nt) zsm.fl.cs)
    generalize hσ_42 : zfl 1 σ = σ_42 at c1_42 rc_42 st_42 ss_42 cc_42
    obtain ⟨⟨x_43, kx_43, nx_43⟩, ⟨x_44, kx_44, nx_44⟩, ox_43⟩ := id c1_42
    have gx_43 := zC1.nx c1_42 hLs_.1 kx_43
    have bx_43 : zB 0 600 x_43 := ⟨by omega, by have := hLs_.2.1; omega⟩
    have bx_44 := zB.all x_44
    have mo_42 := zsm.nx st_42 ox_1 ox_43
    have nm_45 : zNm F_39 fu (zTo Bt nt) Nt σ_42 := by rw [← hσ_42]; exact zNm.fl
    have cc_46 : zCc Γ F F_39 th (zTo Bt nt) σ σ_42 (1) := zCc.bad cc_42 (by rw [← hσ_42]; exact zfl_bad _ _)
    refine lv_goto (tgt := 61) hx hb dX7_readName_13 (by decide) ?_
    have oth_47 : zOth Γ F F_39 fu := ((zOth.rf : zOth Γ F F fu).fr hfF_39 (by decide))
    subst hQ
    exact W.vret hx hb hr (fun t ht hW => ⟨⟨F_39, rfl, ⟨⟨σ_42, c1_42, rc_42, ss_42, (cc_46.w (by have := br_7.1; have := br_7.2; have := bcc.1; have := bcc.2; have := bsz_.1; have := bsz_.2; have := bx_43.1; have := bx_43.2; have := bx_44.1; have := bx_44.2; have : (4 : Int32).toInt = 4 := (by decide); omega)), nm_45⟩, oth_47, trivial⟩, by rw [ht]; exact h.1, h.2.1, (hfF_39.w (by decide))⟩, h.2.2.F ht⟩) h.2.2.2.2 dX7_readName_61

set_option maxHeartbeats 4000000 in
set_option maxRecDepth 100000 in
theorem ze_X7_readPlace (l : Launch) (D : va_G) (k : Nat → ClassId) (Γ : Nat → Option Nat) (L : List Nat) (F : Nat → va_E) (sz : Nat) (th : Nat) (fu : Nat) (pr : Nat) (tk : Nat) (co : Nat) (Bt : Nat → Int32) (nt : Nat) (Nt : Nat) (cc : Int32) (σ : zSg) (pla : Nat) (hth : Γ th = some 7) (hfu : Γ fu = some 2) (kpr : zfld F th 3 = .ref pr) (hpr : Γ pr = some 6) (ktk : zfld F th 4 = .ref tk) (htk : Γ tk = some 8) (kco : zfld F th 5 = .ref co) (hco : Γ co = some 1) (p_tb : zTb Γ F tk Bt nt Nt) (kcc : zfld F th 11 = .int cc) (bcc : zB 0 150 cc) (p_au : zC1 F th Nt (σ)) (hm_ : ∀ i d9, σ = .inl (i, d9) → 4 * cc.toInt + 5 ≤ zpo Bt nt i + (0)) (kpla : zfld F fu 8 = .ref pla) (hpla : Γ pla = some 103) (p_pl : zPl Γ F fu σ) : Met l yX7_readPlace zwX7_readPlace ({ frames := 2, cells := 0, slots := 0, locals := 61 }) (va_Pc [.ref th, .ref fu] (zP D k Γ L F sz)) (va_Qv (fun (u : Nat → va_E) => (∃ σ9 : zSg, zC1 u th Nt σ9 ∧ zRc (zTo Bt nt) σ [(4, 0, 0, 0)] σ9 [] ∧ zsP σ σ9 ∧ zCc Γ F u th (zTo Bt nt) σ σ9 (0) ∧ zPl Γ u fu σ9) ∧ zOth Γ F u fu ∧ zOtA Γ F u pla ∧ True) (zQ D k Γ L F [207, 701, 702, 706, 10300]) (zA L sz)) 0 0 (zA L sz) := by
  refine Met.ofW (cc := cX7_readPlace) (maxL := 2) (ret := none) (by decide) rfl ?_
  intro p e s m args below meth c s₁ B hml hv
  obtain ⟨rfl, hsz, hP, hK, hLn, hE, hI⟩ := hv
  have hx := B.exec
  have hb := B.bytes
  have hr := B.returns
  have hg : ∀ w ∈ zG, w.before _ s = true := fun w h9 => atoms_spec (ws := zwX7_readPlace) B.pre w (List.mem_cons_of_mem _ h9)
  have hown : s.vm.findClass RX7 = some m.cls := findClass_of_methodNamed B.named
  have hlocks := B.notSynchronized
  subst hsz
  have Z : zC p m c cX7_readPlace 2 s _ zG RX7 D k L := ⟨⟨hx, hb, hml, hown, hg⟩, hK, hLn, hE⟩
  have h : zH D k Γ L s F s.heap [] := ⟨hP, hI, va_S.rf⟩
  have hl := lv_entry ([.ref th, .ref fu]) (n := 2) (Nat.le_of_ble_eq_true rfl)
  rw [lg_entry_eq]
  generalize (lg_sl ([.ref th, .ref fu]) ++ List.replicate (2 - (lg_sl ([.ref th, .ref fu])).length) Slot.unset).toArray = ls at hl ⊢
  have hl : lv_has ls 2 [(0, .ref th), (1, .ref fu)] := hl
  clear hP hK hLn hE hI
  generalize hargs : ([.ref th, .ref fu] : List Value).toArray = args at *
  refine z_start (fun R Q hRf hRl hQ => ?_)
  have hRf : R.frames = 2 := hRf
  have hRl : R.locals = 61 := hRl
  have h9 := h
  have hLs_ := p_tb.2.2.2.1
  obtain ⟨sz_, ksz_, tsz_⟩ := p_tb.2.2.1
  have bsz_ : zB 1 601 sz_ := ⟨by have := hLs_.1; omega, by have := hLs_.2.1; omega⟩
  obtain ⟨⟨x_1, kx_1, nx_1⟩, ⟨x_2, kx_2, nx_2⟩, ox_1⟩ := id p_au
  have gx_1 := zC1.nx p_au hLs_.1 kx_1
  have bx_1 : zB 0 600 x_1 := ⟨by omega, by have := hLs_.2.1; omega⟩
  have bx_2 := zB.all x_2
  have ad_3 := z_ad (j := 7) (c := 106) h.2.1 hth (by decide) rfl
  have ad_4 := z_ad (j := 8) (c := 107) h.2.1 hth (by decide) rfl
  have ad_5 := z_ad (j := 10) (c := 161) h.2.1 hth (by decide) rfl
  have ad_6 := z_ad (j := 9) (c := 160) h.2.1 hth (by decide) rfl
  have cc0_ : zCc Γ F F th (zTo Bt nt) σ σ (0) := zCc.rf kcc bcc.1 ⟨ad_3, ad_4, ad_5, ad_6⟩ hm_
  have rc0_ : zRc (zTo Bt nt) σ [(4, 0, 0, 0)] σ [(4, 0, 0, 0)] := zRc.rf
  have ss0_ : zsP σ σ := zsP.rf
  have ad_7 := z_ad (j := 8) (c := 103) h.2.1 hfu (by decide) rfl
  obtain ⟨x_8, kx_8, bx_8⟩ := z_learn (j := 7) (lo := 0) (hi := 3) h hfu (by decide) rfl
  have q_9 := zPl.k p_pl kx_8
  refine lv_aload_n hx hb dX7_readPlace_0 rfl (lv_at hl 0 rfl) ?_
  refine zk_Vi (As := []) (rest := []) (bytes := cX7_kind) (maxL := 2) (ret := (some .int)) Z h (ze_X7_kind l D k Γ L F s.heap.size th tk Bt nt Nt σ hth ktk htk p_tb p_au) (cwV 0 hg zv_RX7_65 rfl rfl rfl zd_X7_kind ⟨z_leR hRf (by decide), z_leR hRl (by decide)⟩) hth (by decide) rfl rfl hl.1 rfl (Nat.le_of_ble_eq_true rfl) dX7_readPlace_1 ⟨Nat.zero_le _, Nat.zero_le _⟩ (fun r_10 F_11 H locs w_12 h hfF_11 => ?_)
  obtain ⟨rfl, q_13, -⟩ := w_12
  have br_10 := zB.all r_10
  refine lv_iconst (v := 3) hx hb dX7_readPlace_4 (by decide) ?_
  refine lv_icmp_eq (tgt := 16) hx hb dX7_readPlace_5 (by decide) (fun c_14 => ?_) (fun c_14 => ?_)
  · have c_14 := z_eq c_14
    have br_10_15 : zB 3 3 r_10 := zB.eqL (a := 0) (b := 0) c_14 (zBc 3 3 (by decide))
    obtain ⟨iq, dq, hinl⟩ := zinl hLs_ (σ := σ) ⟨by have := br_10_15.1; have := br_10_15.2; have := bcc.1; have := bcc.2; have := bsz_.1; have := bsz_.2; have := bx_1.1; have := bx_1.2; have := bx_2.1; have := bx_2.2; have := bx_8.1; have := bx_8.2; have : (3 : Int32).toInt = 3 := (by decide); omega, by have := br_10_15.1; have := br_10_15.2; have := bcc.1; have := bcc.2; have := bsz_.1; have := bsz_.2; have := bx_1.1; have := bx_1.2; have := bx_2.1; have := bx_2.2; have := bx_8.1; have := bx_8.2; have : (3 : Int32).toInt = 3 := (by decide); omega⟩
    have hq_ : x_1.toInt = (iq : Int) := by rw [nx_1, hinl]; rfl
    have hpq_ := p_pl.2 iq dq hinl
    have hpc_ := q_9 iq dq hinl
    refine lv_aload_n hx hb dX7_readPlace_16 rfl (lv_at hl 1 rfl) ?_
    refine lv_aload_n hx hb dX7_readPlace_17 rfl (lv_at hl 0 rfl) ?_
    refine zt_getk (t := 7) (C := RX7) (T := TX7) (N := 12) Z h hth zin_7 rfl 4 ktk ⟨by decide, rfl, by decide⟩ (zm_RX7 (List.mem_of_getElem? (i := 4) rfl)) (fun _ h9 => h9) dX7_readPlace_18 ?_
    refine lv_aload_n hx hb dX7_readPlace_21 rfl (lv_at hl 0 rfl) ?_
    refine zt_getk (t := 7) (C := RX7) (T := TX7) (N := 12) Z h hth zin_7 rfl 6 kx_1 ⟨by decide, rfl, by decide⟩ (zm_RX7 (List.mem_of_getElem? (i := 9) rfl)) (fun _ h9 => h9) dX7_readPlace_22 ?_
    refine zk_Vi (As := [.int x_1]) (rest := [.ref fu]) (bytes := cX8_letterOf) (maxL := 2) (ret := (some .int)) Z h (ze_X8_letterOf l D k Γ L F H.size tk x_1 Bt nt Nt htk p_tb ⟨by have := bx_1.1; have := bx_1.2; have := br_10_15.1; have := br_10_15.2; have := bcc.1; have := bcc.2; have := bsz_.1; have := bsz_.2; have := bx_2.1; have := bx_2.2; have := bx_8.1; have := bx_8.2; have : (3 : Int32).toInt = 3 := (by decide); omega, by have := bx_1.1; have := bx_1.2; have := br_10_15.1; have := br_10_15.2; have := bcc.1; have := bcc.2; have := bsz_.1; have := bsz_.2; have := bx_2.1; have := bx_2.2; have := bx_8.1; have := bx_8.2; have : (3 : Int32).toInt = 3 := (by decide); omega, by rw [nx_1, zkd_nx]; have := bx_1.1; have := bx_1.2; have := br_10_15.1; have := br_10_15.2; have := bcc.1; have := bcc.2; have := bsz_.1; have := bsz_.2; have := bx_2.1; have := bx_2.2; have := bx_8.1; have := bx_8.2; have : (3 : Int32).toInt = 3 := (by decide); omega⟩) (cwV 1 hg zv_RX7_139 rfl rfl rfl zd_X8_letterOf ⟨z_leR hRf (by decide), z_leR hRl (by decide)⟩) htk (by decide) rfl rfl hl.1 rfl (Nat.le_of_ble_eq_true rfl) dX7_readPlace_25 ⟨Nat.zero_le _, Nat.zero_le _⟩ (fun r_16 F_17 H locs w_18 h hfF_17 => ?_)
    obtain ⟨rfl, br_16, q_19, -⟩ := w_18
    refine zk_Vi (As := [.int r_16]) (rest := []) (bytes := cX2_hasPlace) (maxL := 3) (ret := (some .boolean)) Z h (ze_X2_hasPlace l D k Γ L F H.size fu r_16 x_8 hfu kx_8 bx_8) (cwV 1 hg zv_RX7_142 rfl rfl rfl zd_X2_hasPlace ⟨z_leR hRf (by decide), z_leR hRl (by decide)⟩) hfu (by decide) rfl rfl hl.1 rfl (Nat.le_of_ble_eq_true rfl) dX7_readPlace_28 ⟨Nat.zero_le _, Nat.zero_le _⟩ (fun r_20 F_21 H locs w_22 h hfF_21 => ?_)
    obtain ⟨rfl, br_20, q_23, -⟩ := w_22
    refine lv_if_eq (tgt := 42) hx hb dX7_readPlace_31 (by decide) (fun c_24 => ?_) (fun c_24 => ?_)
    · have c_24 := z_eq c_24
      have br_20_25 : zB 0 0 r_20 := zB.eqL (a := 0) (b := 0) c_24 (zBc 0 0 (by decide))
      refine lv_aload_n hx hb dX7_readPlace_42 rfl (lv_at hl 1 rfl) ?_
      refine zt_getk (t := 2) (C := RX2) (T := TX2) (N := 9) Z h hfu zin_2 rfl 7 kx_8 ⟨by decide, rfl, by decide⟩ (zm_RX7 (List.mem_of_getElem? (i := 60) rfl)) (fun _ h9 => h9) dX7_readPlace_43 ?_
      refine lv_iconst (v := 3) hx hb dX7_readPlace_46 (by decide) ?_
      refine lv_icmp_lt (tgt := 58) hx hb dX7_readPlace_47 (by decide) (fun c_26 => ?_) (fun c_26 => ?_)
      · have c_26 := z_lt c_26
        have bx_8_27 : zB 0 2 x_8 := zB.ltL c_26 bx_8 (zBc 3 3 (by decide)) (by decide)
        refine lv_aload_n hx hb dX7_readPlace_58 rfl (lv_at hl 1 rfl) ?_
        refine lv_aload_n hx hb dX7_readPlace_59 rfl (lv_at hl 0 rfl) ?_
        refine zt_getk (t := 7) (C := RX7) (T := TX7) (N := 12) Z h hth zin_7 rfl 4 ktk ⟨by decide, rfl, by decide⟩ (zm_RX7 (List.mem_of_getElem? (i := 4) rfl)) (fun _ h9 => h9) dX7_readPlace_60 ?_
        refine lv_aload_n hx hb dX7_readPlace_63 rfl (lv_at hl 0 rfl) ?_
        refine zt_getk (t := 7) (C := RX7) (T := TX7) (N := 12) Z h hth zin_7 rfl 6 kx_1 ⟨by decide, rfl, by decide⟩ (zm_RX7 (List.mem_of_getElem? (i := 9) rfl)) (fun _ h9 => h9) dX7_readPlace_64 ?_
        refine zk_Vi (As := [.int x_1]) (rest := [.ref fu]) (bytes := cX8_letterOf) (maxL := 2) (ret := (some .int)) Z h (ze_X8_letterOf l D k Γ L F H.size tk x_1 Bt nt Nt htk p_tb ⟨by have := bx_1.1; have := bx_1.2; have := br_10_15.1; have := br_10_15.2; have := bcc.1; have := bcc.2; have := bsz_.1; have := bsz_.2; have := bx_2.1; have := bx_2.2; have := bx_8_27.1; have := bx_8_27.2; have : (0 : Int32).toInt = 0 := (by decide); have : (3 : Int32).toInt = 3 := (by decide); omega, by have := bx_1.1; have := bx_1.2; have := br_10_15.1; have := br_10_15.2; have := bcc.1; have := bcc.2; have := bsz_.1; have := bsz_.2; have := bx_2.1; have := bx_2.2; have := bx_8_27.1; have := bx_8_27.2; have : (0 : Int32).toInt = 0 := (by decide); have : (3 : Int32).toInt = 3 := (by decide); omega, by rw [nx_1, zkd_nx]; have := bx_1.1; have := bx_1.2; have := br_10_15.1; have := br_10_15.2; have := bcc.1; have := bcc.2; have := bsz_.1; have := bsz_.2; have := bx_2.1; have := bx_2.2; have := bx_8_27.1; have := bx_8_27.2; have : (0 : Int32).toInt = 0 := (by decide); have : (3 : Int32).toInt = 3 := (by decide); omega⟩) (cwV 1 hg zv_RX7_139 rfl rfl rfl zd_X8_letterOf ⟨z_leR hRf (by decide), z_leR hRl (by decide)⟩) htk (by decide) rfl rfl hl.1 rfl (Nat.le_of_ble_eq_true rfl) dX7_readPlace_67 ⟨Nat.zero_le _, Nat.zero_le _⟩ (fun r_28 F_29 H locs w_30 h hfF_29 => ?_)
        obtain ⟨rfl, br_28, q_31, -⟩ := w_30
        refine zk_Vv (As := [.int r_28]) (rest := []) (bytes := cX2_addPlace) (maxL := 2) (ret := none) Z h (ze_X2_addPlace l D k Γ L F H.size fu r_28 x_8 pla hfu kx_8 bx_8_27 kpla hpla) (cwV 1 hg zv_RX7_149 rfl rfl rfl zd_X2_addPlace ⟨z_leR hRf (by decide), z_leR hRl (by decide)⟩) hfu (by decide) rfl rfl hl.1 rfl (Nat.le_of_ble_eq_true rfl) dX7_readPlace_70 ⟨Nat.zero_le _, Nat.zero_le _⟩ (fun F_32 H locs w_33 h hfF_32 => ?_)
        obtain ⟨⟨x_35, kx_35, bx_35, q_34⟩, q_36, q_37, q_38, -⟩ := w_33
        refine lv_aload_n hx hb dX7_readPlace_73 rfl (lv_at hl 0 rfl) ?_
        refine lv_dup hx hb dX7_readPlace_74 rfl ?_
        refine zt_getk (t := 7) (C := RX7) (T := TX7) (N := 12) Z h hth zin_7 rfl 6 (hfF_32.f hth 6 ⟨by decide, by decide⟩ kx_1) ⟨by decide, rfl, by decide⟩ (zm_RX7 (List.mem_of_getElem? (i := 9) rfl)) (fun _ h9 => h9) dX7_readPlace_75 ?_
        refine lv_iconst (v := 1) hx hb dX7_readPlace_78 (by decide) ?_
        refine lv_iadd hx hb dX7_readPlace_79 ?_
        refine zi_add (lo := 1) (hi := 601) bx_1 (zBc 1 1 (by decide)) (by decide) (fun x_39 bx_39 tx_39 => ?_)
        refine zt_put (t := 7) (C := RX7) (T := TX7) (N := 12) (v := .int x_39) Z h hth zin_7 tyX7 tyX7_ok nmX7 rfl 6 rfl ⟨by decide, rfl⟩ (zm_RX7 (List.mem_of_getElem? (i := 9) rfl)) (fun _ h9 => h9) rfl (zV.i (bx_39.w ⟨by decide, by decide⟩)) rfl rfl dX7_readPlace_80 (fun H locs F_40 h hfF_40 kF_40 => ?_)
        have ad_41 := ad_7.fr hfF_32 hfu ⟨by decide, by decide⟩
        have ar_42 : zar F_40 fu 8 = (upd (zar F fu 8) (Int32.toNatClampNeg x_8) r_28) := ((ad_41.ar hfF_40 hfu ⟨by decide, by decide⟩ ⟨by decide, by decide⟩).trans q_36)
        have c1_43 := (p_au.fr hfF_32 hth (by decide))
        have cc_44 := (cc0_.fr hfF_32 hth (by decide) (zTo_P Bt nt))
        have c1_45 : zC1 F_40 th Nt (zadv (zmap (fun i d9 => zaddp d9 ((zTo Bt nt).2.2 i - 1)) σ)) := (zC1.adm (T := zTo Bt nt) c1_43 hfF_40 hth (by decide) (hfF_32.f hth 6 ⟨by decide, by decide⟩ kx_1) kF_40 (by have := bx_1.1; have := bx_1.2; have := br_10_15.1; have := br_10_15.2; have := bcc.1; have := bcc.2; have := bsz_.1; have := bsz_.2; have := bx_39.1; have := bx_39.2; have := bx_2.1; have := bx_2.2; have := bx_35.1; have := bx_35.2; have : (0 : Int32).toInt = 0 := (by decide); have : (1 : Int32).toInt = 1 := (by decide); have : (3 : Int32).toInt = 3 := (by decide); omega) hLs_ ⟨by have := bx_1.1; have := bx_1.2; have := br_10_15.1; have := br_10_15.2; have := bcc.1; have := bcc.2; have := bsz_.1; have := bsz_.2; have := bx_39.1; have := bx_39.2; have := bx_2.1; have := bx_2.2; have := bx_35.1; have := bx_35.2; have : (0 : Int32).toInt = 0 := (by decide); have : (1 : Int32).toInt = 1 := (by decide); have : (3 : Int32).toInt = 3 := (by decide); omega, by have := bx_1.1; have := bx_1.2; have := br_10_15.1; have := br_10_15.2; have := bcc.1; have := bcc.2; have := bsz_.1; have := bsz_.2; have := bx_39.1; have := bx_39.2; have := bx_2.1; have := bx_2.2; have := bx_35.1; have := bx_35.2; have : (0 : Int32).toInt = 0 := (by decide); have : (1 : Int32).toInt = 1 := (by decide); have : (3 : Int32).toInt = 3 := (by decide); omega⟩)
        have rc_45 : zRc (zTo Bt nt) σ [(4, 0, 0, 0)] (zadv (zmap (fun i d9 => zaddp d9 ((zTo Bt nt).2.2 i - 1)) σ)) [] := zRc.place0 (N := Nt) rc0_ (by have := br_10_15.1; have := br_10_15.2; have := bcc.1; have := bcc.2; have := bsz_.1; have := bsz_.2; have := bx_39.1; have := bx_39.2; have := bx_2.1; have := bx_2.2; have := bx_35.1; have := bx_35.2; have : (0 : Int32).toInt = 0 := (by decide); have : (1 : Int32).toInt = 1 := (by decide); have : (3 : Int32).toInt = 3 := (by decide); omega) (fun i d9 e9 => by cases hinl.symm.trans e9; have h5 := q_19; rw [show x_1.toInt.toNat = iq by omega] at h5; refine ⟨?_, by have := br_20_25.1; have := br_20_25.2; have := br_16.1; have := br_16.2; have := bx_8_27.1; have := bx_8_27.2; have := br_10_15.1; have := br_10_15.2; have := bcc.1; have := bcc.2; have := bsz_.1; have := bsz_.2; have := bx_39.1; have := bx_39.2; have := bx_2.1; have := bx_2.2; have := bx_35.1; have := bx_35.2; have : (0 : Int32).toInt = 0 := (by decide); have : (1 : Int32).toInt = 1 := (by decide); have : (3 : Int32).toInt = 3 := (by decide); omega⟩; rcases q_23 with ⟨g1, g2⟩ | ⟨g1, g2⟩; exfalso; have := br_20_25.1; have := br_20_25.2; have := br_16.1; have := br_16.2; have := bx_8_27.1; have := bx_8_27.2; have := br_10_15.1; have := br_10_15.2; have := bcc.1; have := bcc.2; have := bsz_.1; have := bsz_.2; have := bx_39.1; have := bx_39.2; have := bx_2.1; have := bx_2.2; have := bx_35.1; have := bx_35.2; have : (0 : Int32).toInt = 0 := (by decide); have : (1 : Int32).toInt = 1 := (by decide); have : (3 : Int32).toInt = 3 := (by decide); omega; rintro ⟨q, g3, g4⟩; have h4 := g2 q (by omega); rw [hpq_.2 q g3] at h4; omega)
        have st_45 : zsP σ (zadv (zmap (fun i d9 => zaddp d9 ((zTo Bt nt).2.2 i - 1)) σ)) := zsP.pl (K := (zTo Bt nt).2.2)
        have ss_45 : zsP σ (zadv (zmap (fun i d9 => zaddp d9 ((zTo Bt nt).2.2 i - 1)) σ)) := ss0_.trans st_45
        have cc_45 : zCc Γ F F_40 th (zTo Bt nt) σ (zadv (zmap (fun i d9 => zaddp d9 ((zTo Bt nt).2.2 i - 1)) σ)) (0) := (cc_44.mv hfF_40 hth (by decide) (zTo_P Bt nt) (zadm_cs (f := fun i d9 => zaddp d9 ((zTo Bt nt).2.2 i - 1)) (fun _ _ => ⟨rfl, zNc.eq rfl rfl⟩)))
        generalize hσ_45 : zadv (zmap (fun i d9 => zaddp d9 ((zTo Bt nt).2.2 i - 1)) σ) = σ_45 at c1_45 rc_45 st_45 ss_45 cc_45
        obtain ⟨⟨x_46, kx_46, nx_46⟩, ⟨x_47, kx_47, nx_47⟩, ox_46⟩ := id c1_45
        have gx_46 := zC1.nx c1_45 hLs_.1 kx_46
        have bx_46 : zB 0 600 x_46 := ⟨by omega, by have := hLs_.2.1; omega⟩
        have bx_47 := zB.all x_47
        have vx_46 := congrArg Int32.toInt (z_same kF_40 kx_46)
        have mo_45 := zsP.nx st_45 ox_1 ox_46
        have ad_49 := ad_41.fr hfF_40 hfu ⟨by decide, by decide⟩
        have pl_48 : zPl Γ F_40 fu σ_45 := by rw [← hσ_45]; exact zPl.add (K := (zTo Bt nt).2.2) p_pl ad_49 kx_8 (by have := bx_35.1; have := bx_35.2; have := bx_8_27.1; have := bx_8_27.2; have := br_10_15.1; have := br_10_15.2; have := bcc.1; have := bcc.2; have := bsz_.1; have := bsz_.2; have := bx_46.1; have := bx_46.2; have := bx_47.1; have := bx_47.2; have : (0 : Int32).toInt = 0 := (by decide); have : (1 : Int32).toInt = 1 := (by decide); have : (3 : Int32).toInt = 3 := (by decide); omega) (hfF_40.f hfu 7 ⟨by decide, by decide⟩ kx_35) (by have := bx_35.1; have := bx_35.2; have := bx_8_27.1; have := bx_8_27.2; have := br_10_15.1; have := br_10_15.2; have := bcc.1; have := bcc.2; have := bsz_.1; have := bsz_.2; have := bx_46.1; have := bx_46.2; have := bx_47.1; have := bx_47.2; have : (0 : Int32).toInt = 0 := (by decide); have : (1 : Int32).toInt = 1 := (by decide); have : (3 : Int32).toInt = 3 := (by decide); omega) ar_42 (fun i d9 e9 => by cases hinl.symm.trans e9; have h5 := q_31; rw [show x_1.toInt.toNat = iq by omega] at h5; omega)
        have oth_50 : zOth Γ F F_40 fu := (((zOth.rf : zOth Γ F F fu).trans q_37).fr hfF_40 (by decide))
        have ota_51 : zOtA Γ F F_40 pla := (((zOtA.rf : zOtA Γ F F pla).trans q_38).fr hfF_40 (by decide))
        subst hQ
        exact W.vret hx hb hr (fun t ht hW => ⟨⟨F_40, rfl, ⟨⟨σ_45, c1_45, rc_45, ss_45, (cc_45.w (by have := br_10_15.1; have := br_10_15.2; have := bcc.1; have := bcc.2; have := bsz_.1; have := bsz_.2; have := bx_46.1; have := bx_46.2; have := bx_47.1; have := bx_47.2; have := bx_35.1; have := bx_35.2; have : (0 : Int32).toInt = 0 := (by decide); have : (1 : Int32).toInt = 1 := (by decide); have : (3 : Int32).toInt = 3 := (by decide); omega)), pl_48⟩, oth_50, ota_51, trivial⟩, by rw [ht]; exact h.1, h.2.1, ((hfF_32.w (by decide)).trans hfF_40 (by decide))⟩, h.2.2.F ht⟩) h.2.2.2.2 dX7_readPlace_83
      · have c_26 := z_nlt c_26
        have bx_8_52 : zB 3 3 x_8 := zB.leR c_26 (zBc 3 3 (by decide)) bx_8 (by decide)
        refine lv_aload_n hx hb dX7_readPlace_50 rfl (lv_at hl 0 rfl) ?_
        refine lv_iconst (v := 3) hx hb dX7_readPlace_51 (by decide) ?_
        refine zk_Vv (As := [.int 3]) (rest := []) (bytes := cX7_fail) (maxL := 2) (ret := none) Z h (ze_X7_fail l D k Γ L F H.size th 3 tk Bt nt Nt σ hth ktk htk p_tb p_au (by have := br_10_15.1; have := br_10_15.2; have := bcc.1; have := bcc.2; have := bsz_.1; have := bsz_.2; have := bx_1.1; have := bx_1.2; have := bx_2.1; have := bx_2.2; have := bx_8_52.1; have := bx_8_52.2; have : (0 : Int32).toInt = 0 := (by decide); have : (3 : Int32).toInt = 3 := (by decide); omega)) (cwV 1 hg zv_RX7_79 rfl rfl rfl zd_X7_fail ⟨z_leR hRf (by decide), z_leR hRl (by decide)⟩) hth (by decide) rfl rfl hl.1 rfl (Nat.le_of_ble_eq_true rfl) dX7_readPlace_52 ⟨Nat.zero_le _, Nat.zero_le _⟩ (fun F_53 H locs w_54 h hfF_53 => ?_)
        obtain ⟨q_55, -⟩ := w_54
        have c1_56 : zC1 F_53 th Nt (zfl 3 σ) := (by have h9 := q_55; rw [show (3 : Int32).toInt = 3 by decide] at h9; exact h9)
        have rc_56 : zRc (zTo Bt nt) σ [(4, 0, 0, 0)] (zfl 3 σ) [] := zRc.place3 (N := Nt) rc0_ (by have := br_10_15.1; have := br_10_15.2; have := bcc.1; have := bcc.2; have := bsz_.1; have := bsz_.2; have := bx_8_52.1; have := bx_8_52.2; have : (0 : Int32).toInt = 0 := (by decide); have : (3 : Int32).toInt = 3 := (by decide); omega) (fun i d9 e9 => by cases hinl.symm.trans e9; have h5 := q_19; rw [show x_1.toInt.toNat = iq by omega] at h5; refine ⟨?_, by have := br_20_25.1; have := br_20_25.2; have := br_16.1; have := br_16.2; have := bx_8_52.1; have := bx_8_52.2; have := br_10_15.1; have := br_10_15.2; have := bcc.1; have := bcc.2; have := bsz_.1; have := bsz_.2; have : (0 : Int32).toInt = 0 := (by decide); have : (3 : Int32).toInt = 3 := (by decide); omega⟩; rcases q_23 with ⟨g1, g2⟩ | ⟨g1, g2⟩; exfalso; have := br_20_25.1; have := br_20_25.2; have := br_16.1; have := br_16.2; have := bx_8_52.1; have := bx_8_52.2; have := br_10_15.1; have := br_10_15.2; have := bcc.1; have := bcc.2; have := bsz_.1; have := bsz_.2; have : (0 : Int32).toInt = 0 := (by decide); have : (3 : Int32).toInt = 3 := (by decide); omega; rintro ⟨q, g3, g4⟩; have h4 := g2 q (by omega); rw [hpq_.2 q g3] at h4; omega)
        have st_56 : zsm σ (zfl 3 σ) := zsm.fl
        have ss_56 : zsP σ (zfl 3 σ) := ss0_.trans st_56.ss.sP
        have cc_56 : zCc Γ F F_53 th (zTo Bt nt) σ (zfl 3 σ) (0) := (cc0_.mv hfF_53 hth (by decide) (zTo_P Bt nt) zsm.fl.cs)
        generalize hσ_56 : zfl 3 σ = σ_56 at c1_56 rc_56 st_56 ss_56 cc_56
        obtain ⟨⟨x_57, kx_57, nx_57⟩, ⟨x_58, kx_58, nx_58⟩, ox_57⟩ := id c1_56
        have gx_57 := zC1.nx c1_56 hLs_.1 kx_57
        have bx_57 : zB 0 600 x_57 := ⟨by omega, by have := hLs_.2.1; omega⟩
        have bx_58 := zB.all x_58
        have mo_56 := zsm.nx st_56 ox_1 ox_57
        have ad_60 := ad_7.fr hfF_53 hfu ⟨by decide, by decide⟩
        have pl_59 : zPl Γ F_53 fu σ_56 := by rw [← hσ_56]; exact zPl.fl ad_60
        refine lv_goto (tgt := 83) hx hb dX7_readPlace_55 (by decide) ?_
        have oth_61 : zOth Γ F F_53 fu := ((zOth.rf : zOth Γ F F fu).fr hfF_53 (by decide))
        have ota_62 : zOtA Γ F F_53 pla := ((zOtA.rf : zOtA Γ F F pla).fr hfF_53 (by decide))
        subst hQ
        exact W.vret hx hb hr (fun t ht hW => ⟨⟨F_53, rfl, ⟨⟨σ_56, c1_56, rc_56, ss_56, (cc_56.w (by have := br_10_15.1; have := br_10_15.2; have := bcc.1; have := bcc.2; have := bsz_.1; have := bsz_.2; have := bx_57.1; have := bx_57.2; have := bx_58.1; have := bx_58.2; have := bx_8_52.1; have := bx_8_52.2; have : (0 : Int32).toInt = 0 := (by decide); have : (3 : Int32).toInt = 3 := (by decide); omega)), pl_59⟩, oth_61, ota_62, trivial⟩, by rw [ht]; exact h.1, h.2.1, (hfF_53.w (by decide))⟩, h.2.2.F ht⟩) h.2.2.2.2 dX7_readPlace_83
    · have c_24 := z_ne c_24
      have br_20_63 : zB 1 1 r_20 := zB.neLo c_24 br_20 (zBc 0 0 (by decide)) (by decide)
      refine lv_aload_n hx hb dX7_readPlace_34 rfl (lv_at hl 0 rfl) ?_
      refine lv_iconst (v := 2) hx hb dX7_readPlace_35 (by decide) ?_
      refine zk_Vv (As := [.int 2]) (rest := []) (bytes := cX7_fail) (maxL := 2) (ret := none) Z h (ze_X7_fail l D k Γ L F H.size th 2 tk Bt nt Nt σ hth ktk htk p_tb p_au (by have := br_10_15.1; have := br_10_15.2; have := bcc.1; have := bcc.2; have := bsz_.1; have := bsz_.2; have := bx_1.1; have := bx_1.2; have := bx_2.1; have := bx_2.2; have := bx_8.1; have := bx_8.2; have : (0 : Int32).toInt = 0 := (by decide); have : (2 : Int32).toInt = 2 := (by decide); have : (3 : Int32).toInt = 3 := (by decide); omega)) (cwV 1 hg zv_RX7_79 rfl rfl rfl zd_X7_fail ⟨z_leR hRf (by decide), z_leR hRl (by decide)⟩) hth (by decide) rfl rfl hl.1 rfl (Nat.le_of_ble_eq_true rfl) dX7_readPlace_36 ⟨Nat.zero_le _, Nat.zero_le _⟩ (fun F_64 H locs w_65 h hfF_64 => ?_)
      obtain ⟨q_66, -⟩ := w_65
      have c1_67 : zC1 F_64 th Nt (zfl 2 σ) := (by have h9 := q_66; rw [show (2 : Int32).toInt = 2 by decide] at h9; exact h9)
      have rc_67 : zRc (zTo Bt nt) σ [(4, 0, 0, 0)] (zfl 2 σ) [] := zRc.place2 (N := Nt) rc0_ (by have := br_10_15.1; have := br_10_15.2; have := bcc.1; have := bcc.2; have := bsz_.1; have := bsz_.2; have := bx_8.1; have := bx_8.2; have : (0 : Int32).toInt = 0 := (by decide); have : (3 : Int32).toInt = 3 := (by decide); omega) (fun i d9 e9 => by cases hinl.symm.trans e9; have h5 := q_19; rw [show x_1.toInt.toNat = iq by omega] at h5; rcases q_23 with ⟨g1, q, g2, g3⟩ | ⟨g1, g2⟩; exact ⟨q, by omega, by rw [← hpq_.2 q (by omega)]; omega⟩; exfalso; have := br_20_63.1; have := br_20_63.2; have := br_16.1; have := br_16.2; have := bx_8.1; have := bx_8.2; have := br_10_15.1; have := br_10_15.2; have := bcc.1; have := bcc.2; have := bsz_.1; have := bsz_.2; have : (0 : Int32).toInt = 0 := (by decide); have : (3 : Int32).toInt = 3 := (by decide); omega)
      have st_67 : zsm σ (zfl 2 σ) := zsm.fl
      have ss_67 : zsP σ (zfl 2 σ) := ss0_.trans st_67.ss.sP
      have cc_67 : zCc Γ F F_64 th (zTo Bt nt) σ (zfl 2 σ) (0) := (cc0_.mv hfF_64 hth (by decide) (zTo_P Bt nt) zsm.fl.cs)
      generalize hσ_67 : zfl 2 σ = σ_67 at c1_67 rc_67 st_67 ss_67 cc_67
      obtain ⟨⟨x_68, kx_68, nx_68⟩, ⟨x_69, kx_69, nx_69⟩, ox_68⟩ := id c1_67
      have gx_68 := zC1.nx c1_67 hLs_.1 kx_68
      have bx_68 : zB 0 600 x_68 := ⟨by omega, by have := hLs_.2.1; omega⟩
      have bx_69 := zB.all x_69
      have mo_67 := zsm.nx st_67 ox_1 ox_68
      have ad_71 := ad_7.fr hfF_64 hfu ⟨by decide, by decide⟩
      have pl_70 : zPl Γ F_64 fu σ_67 := by rw [← hσ_67]; exact zPl.fl ad_71
      refine lv_goto (tgt := 83) hx hb dX7_readPlace_39 (by decide) ?_
      have oth_72 : zOth Γ F F_64 fu := ((zOth.rf : zOth Γ F F fu).fr hfF_64 (by decide))
      have ota_73 : zOtA Γ F F_64 pla := ((zOtA.rf : zOtA Γ F F pla).fr hfF_64 (by decide))
      subst hQ
      exact W.vret hx hb hr (fun t ht hW => ⟨⟨F_64, rfl, ⟨⟨σ_67, c1_67, rc_67, ss_67, (cc_67.w (by have := br_10_15.1; have := br_10_15.2; have := bcc.1; have := bcc.2; have := bsz_.1; have := bsz_.2; have := bx_68.1; have := bx_68.2; have := bx_69.1; have := bx_69.2; have := bx_8.1; have := bx_8.2; have : (0 : Int32).toInt = 0 := (by decide); have : (3 : Int32).toInt = 3 := (by decide); omega)), pl_70⟩, oth_72, ota_73, trivial⟩, by rw [ht]; exact h.1, h.2.1, (hfF_64.w (by decide))⟩, h.2.2.F ht⟩) h.2.2.2.2 dX7_readPlace_83
  · have c_14 := z_ne c_14
    refine lv_aload_n hx hb dX7_readPlace_8 rfl (lv_at hl 0 rfl) ?_
    refine lv_iconst (v := 1) hx hb dX7_readPlace_9 (by decide) ?_
    refine zk_Vv (As := [.int 1]) (rest := []) (bytes := cX7_fail) (maxL := 2) (ret := none) Z h (ze_X7_fail l D k Γ L F H.size th 1 tk Bt nt Nt σ hth ktk htk p_tb p_au (by have := br_10.1; have := br_10.2; have := bcc.1; have := bcc.2; have := bsz_.1; have := bsz_.2; have := bx_1.1; have := bx_1.2; have := bx_2.1; have := bx_2.2; have := bx_8.1; have := bx_8.2; have : (1 : Int32).toInt = 1 := (by decide); have : (3 : Int32).toInt = 3 := (by decide); omega)) (cwV 1 hg zv_RX7_79 rfl rfl rfl zd_X7_fail ⟨z_leR hRf (by decide), z_leR hRl (by decide)⟩) hth (by decide) rfl rfl hl.1 rfl (Nat.le_of_ble_eq_true rfl) dX7_readPlace_10 ⟨Nat.zero_le _, Nat.zero_le _⟩ (fun F_74 H locs w_75 h hfF_74 => ?_)
    obtain ⟨q_76, -⟩ := w_75
    have c1_77 : zC1 F_74 th Nt (zfl 1 σ) := (by have h9 := q_76; rw [show (1 : Int32).toInt = 1 by decide] at h9; exact h9)
    have rc_77 : zRc (zTo Bt nt) σ [(4, 0, 0, 0)] (zfl 1 σ) [] := zRc.place1 (N := Nt) rc0_ (by have := br_10.1; have := br_10.2; have := bcc.1; have := bcc.2; have := bsz_.1; have := bsz_.2; have := bx_8.1; have := bx_8.2; have : (3 : Int32).toInt = 3 := (by decide); omega)
    have st_77 : zsm σ (zfl 1 σ) := zsm.fl
    have ss_77 : zsP σ (zfl 1 σ) := ss0_.trans st_77.ss.sP
    have cc_77 : zCc Γ F F_74 th (zTo Bt nt) σ (zfl 1 σ) (0) := (cc0_.mv hfF_74 hth (by decide) (zTo_P Bt nt) zsm.fl.cs)
    generalize hσ_77 : zfl 1 σ = σ_77 at c1_77 rc_77 st_77 ss_77 cc_77
    obtain ⟨⟨x_78, kx_78, nx_78⟩, ⟨x_79, kx_79, nx_79⟩, ox_78⟩ := id c1_77
    have gx_78 := zC1.nx c1_77 hLs_.1 kx_78
    have bx_78 : zB 0 600 x_78 := ⟨by omega, by have := hLs_.2.1; omega⟩
    have bx_79 := zB.all x_79
    have mo_77 := zsm.nx st_77 ox_1 ox_78
    have ad_81 := ad_7.fr hfF_74 hfu ⟨by decide, by decide⟩
    have pl_80 : zPl Γ F_74 fu σ_77 := by rw [← hσ_77]; exact zPl.fl ad_81
    refine lv_goto (tgt := 83) hx hb dX7_readPlace_13 (by decide) ?_
    have oth_82 : zOth Γ F F_74 fu := ((zOth.rf : zOth Γ F F fu).fr hfF_74 (by decide))
    have ota_83 : zOtA Γ F F_74 pla := ((zOtA.rf : zOtA Γ F F pla).fr hfF_74 (by decide))
    subst hQ
    exact W.vret hx hb hr (fun t ht hW => ⟨⟨F_74, rfl, ⟨⟨σ_77, c1_77, rc_77, ss_77, (cc_77.w (by have := br_10.1; have := br_10.2; have := bcc.1; have := bcc.2; have := bsz_.1; have := bsz_.2; have := bx_78.1; have := bx_78.2; have := bx_79.1; have := bx_79.2; have := bx_8.1; have := bx_8.2; have : (3 : Int32).toInt = 3 := (by decide); omega)), pl_80⟩, oth_82, ota_83, trivial⟩, by rw [ht]; exact h.1, h.2.1, (hfF_74.w (by decide))⟩, h.2.2.F ht⟩) h.2.2.2.2 dX7_readPlace_83

set_option maxHeartbeats 4000000 in
set_option maxRecDepth 100000 in
theorem ze_X7_readPlaces (l : Launch) (D : va_G) (k : Nat → ClassId) (Γ : Nat → Option Nat) (L : List Nat) (F : Nat → va_E) (sz : Nat) (th : Nat) (fu : Nat) (pr : Nat) (tk : Nat) (co : Nat) (Bt : Nat → Int32) (nt : Nat) (Nt : Nat) (cc : Int32) (σ : zSg) (pla : Nat) (pz : Int32) (hth : Γ th = some 7) (hfu : Γ fu = some 2) (kpr : zfld F th 3 = .ref pr) (hpr : Γ pr = some 6) (ktk : zfld F th 4 = .ref tk) (htk : Γ tk = some 8) (kco : zfld F th 5 = .ref co) (hco : Γ co = some 1) (p_tb : zTb Γ F tk Bt nt Nt) (kcc : zfld F th 11 = .int cc) (bcc : zB 0 150 cc) (p_au : zC1 F th Nt (σ)) (hm_ : ∀ i d9, σ = .inl (i, d9) → 4 * cc.toInt + 5 ≤ zpo Bt nt i + (0)) (kpla : zfld F fu 8 = .ref pla) (hpla : Γ pla = some 103) (kpz : zfld F fu 7 = .int pz) (bpz : zB 0 0 pz) : Met l yX7_readPlaces zwX7_readPlaces ({ frames := 3, cells := 0, slots := 0, locals := 82 }) (va_Pc [.ref th, .ref fu] (zP D k Γ L F sz)) (va_Qv (fun (u : Nat → va_E) => (∃ σ9 : zSg, zC1 u th Nt σ9 ∧ zRc (zTo Bt nt) σ [(3, 0, 0, 0)] σ9 [] ∧ zsP σ σ9 ∧ zCc Γ F u th (zTo Bt nt) σ σ9 (0) ∧ zPl Γ u fu σ9) ∧ zOth Γ F u fu ∧ zOtA Γ F u pla ∧ True) (zQ D k Γ L F [207, 701, 702, 706, 10300]) (zA L sz)) 0 0 (zA L sz) := by
  refine Met.ofW (cc := cX7_readPlaces) (maxL := 3) (ret := none) (by decide) rfl ?_
  intro p e s m args below meth c s₁ B hml hv
  obtain ⟨rfl, hsz, hP, hK, hLn, hE, hI⟩ := hv
  have hx := B.exec
  have hb := B.bytes
  have hr := B.returns
  have hg : ∀ w ∈ zG, w.before _ s = true := fun w h9 => atoms_spec (ws := zwX7_readPlaces) B.pre w (List.mem_cons_of_mem _ h9)
  have hown : s.vm.findClass RX7 = some m.cls := findClass_of_methodNamed B.named
  have hlocks := B.notSynchronized
  subst hsz
  have Z : zC p m c cX7_readPlaces 3 s _ zG RX7 D k L := ⟨⟨hx, hb, hml, hown, hg⟩, hK, hLn, hE⟩
  have h : zH D k Γ L s F s.heap [] := ⟨hP, hI, va_S.rf⟩
  have hl := lv_entry ([.ref th, .ref fu]) (n := 3) (Nat.le_of_ble_eq_true rfl)
  rw [lg_entry_eq]
  generalize (lg_sl ([.ref th, .ref fu]) ++ List.replicate (3 - (lg_sl ([.ref th, .ref fu])).length) Slot.unset).toArray = ls at hl ⊢
  have hl : lv_has ls 3 [(0, .ref th), (1, .ref fu)] := hl
  clear hP hK hLn hE hI
  generalize hargs : ([.ref th, .ref fu] : List Value).toArray = args at *
  refine z_start (fun R Q hRf hRl hQ => ?_)
  have hRf : R.frames = 3 := hRf
  have hRl : R.locals = 82 := hRl
  have h9 := h
  have hLs_ := p_tb.2.2.2.1
  obtain ⟨sz_, ksz_, tsz_⟩ := p_tb.2.2.1
  have bsz_ : zB 1 601 sz_ := ⟨by have := hLs_.1; omega, by have := hLs_.2.1; omega⟩
  obtain ⟨⟨x_1, kx_1, nx_1⟩, ⟨x_2, kx_2, nx_2⟩, ox_1⟩ := id p_au
  have gx_1 := zC1.nx p_au hLs_.1 kx_1
  have bx_1 : zB 0 600 x_1 := ⟨by omega, by have := hLs_.2.1; omega⟩
  have bx_2 := zB.all x_2
  have ad_3 := z_ad (j := 7) (c := 106) h.2.1 hth (by decide) rfl
  have ad_4 := z_ad (j := 8) (c := 107) h.2.1 hth (by decide) rfl
  have ad_5 := z_ad (j := 10) (c := 161) h.2.1 hth (by decide) rfl
  have ad_6 := z_ad (j := 9) (c := 160) h.2.1 hth (by decide) rfl
  have cc0_ : zCc Γ F F th (zTo Bt nt) σ σ (0) := zCc.rf kcc bcc.1 ⟨ad_3, ad_4, ad_5, ad_6⟩ hm_
  have rc0_ : zRc (zTo Bt nt) σ [(3, 0, 0, 0)] σ [(3, 0, 0, 0)] := zRc.rf
  have ss0_ : zsP σ σ := zsP.rf
  refine lv_aload_n hx hb dX7_readPlaces_0 rfl (lv_at hl 0 rfl) ?_
  refine zk_Vi (As := []) (rest := []) (bytes := cX7_kind) (maxL := 2) (ret := (some .int)) Z h (ze_X7_kind l D k Γ L F s.heap.size th tk Bt nt Nt σ hth ktk htk p_tb p_au) (cwV 0 hg zv_RX7_65 rfl rfl rfl zd_X7_kind ⟨z_leR hRf (by decide), z_leR hRl (by decide)⟩) hth (by decide) rfl rfl hl.1 rfl (Nat.le_of_ble_eq_true rfl) dX7_readPlaces_1 ⟨Nat.zero_le _, Nat.zero_le _⟩ (fun r_7 F_8 H locs w_9 h hfF_8 => ?_)
  obtain ⟨rfl, q_10, -⟩ := w_9
  have br_7 := zB.all r_7
  refine lv_bipush (v := 41) hx hb dX7_readPlaces_4 (by decide) ?_
  refine lv_icmp_ne (tgt := 10) hx hb dX7_readPlaces_6 (by decide) (fun c_11 => ?_) (fun c_11 => ?_)
  · have c_11 := z_ne c_11
    have c1_12 : zC1 F th Nt (zmap (fun _ d => zadd0 d) σ) := p_au.map
    have rc_12 : zRc (zTo Bt nt) σ [(3, 0, 0, 0)] (zmap (fun _ d => zadd0 d) σ) [(4, 0, 0, 0), (5, 0, 0, 0)] := zRc.places1 (N := Nt) rc0_ (by have := br_7.1; have := br_7.2; have := bcc.1; have := bcc.2; have := bpz.1; have := bpz.2; have := bsz_.1; have := bsz_.2; have := bx_1.1; have := bx_1.2; have := bx_2.1; have := bx_2.2; have : (41 : Int32).toInt = 41 := (by decide); omega)
    have st_12 : zsP σ (zmap (fun _ d => zadd0 d) σ) := zsP.z
    have ss_12 : zsP σ (zmap (fun _ d => zadd0 d) σ) := ss0_.trans st_12
    have cc_12 : zCc Γ F F th (zTo Bt nt) σ (zmap (fun _ d => zadd0 d) σ) (0) := (cc0_.mv (zFr.rf : zFr Γ [] F F) hth (by decide) (zTo_P Bt nt) (zmap_cs (f := fun _ d => zadd0 d) (fun _ _ => ⟨rfl, zNc.eq rfl rfl⟩)))
    generalize hσ_12 : zmap (fun _ d => zadd0 d) σ = σ_12 at c1_12 rc_12 st_12 ss_12 cc_12
    obtain ⟨⟨x_13, kx_13, nx_13⟩, ⟨x_14, kx_14, nx_14⟩, ox_13⟩ := id c1_12
    have gx_13 := zC1.nx c1_12 hLs_.1 kx_13
    have bx_13 : zB 0 600 x_13 := ⟨by omega, by have := hLs_.2.1; omega⟩
    have bx_14 := zB.all x_14
    have vx_13 := congrArg Int32.toInt (z_same kx_1 kx_13)
    have mo_12 := zsP.nx st_12 ox_1 ox_13
    have ad_16 := z_ad (j := 8) (c := 103) h.2.1 hfu (by decide) rfl
    have pl_15 : zPl Γ F fu σ_12 := by rw [← hσ_12]; exact zPl.z ad_16 kpz (by have := bpz.1; have := bpz.2; have := br_7.1; have := br_7.2; have := bcc.1; have := bcc.2; have := bsz_.1; have := bsz_.2; have := bx_13.1; have := bx_13.2; have := bx_14.1; have := bx_14.2; have : (41 : Int32).toInt = 41 := (by decide); omega)
    refine lv_aload_n hx hb dX7_readPlaces_10 rfl (lv_at hl 0 rfl) ?_
    refine lv_aload_n hx hb dX7_readPlaces_11 rfl (lv_at hl 1 rfl) ?_
    refine zk_Vv (As := [.ref fu]) (rest := []) (bytes := cX7_readPlace) (maxL := 2) (ret := none) Z h (ze_X7_readPlace l D k Γ L F H.size th fu pr tk co Bt nt Nt cc σ_12 pla hth hfu kpr hpr ktk htk kco hco p_tb kcc bcc c1_12 (zCc.m (cc_12.w (dep' := 0) (by have := bcc.1; have := bcc.2; have := br_7.1; have := br_7.2; have := bpz.1; have := bpz.2; have := bsz_.1; have := bsz_.2; have := bx_13.1; have := bx_13.2; have := bx_14.1; have := bx_14.2; have : (41 : Int32).toInt = 41 := (by decide); omega)) kcc) kpla hpla pl_15) (cwV 1 hg zv_RX7_135 rfl rfl rfl zd_X7_readPlace ⟨z_leR hRf (by decide), z_leR hRl (by decide)⟩) hth (by decide) rfl rfl hl.1 rfl (Nat.le_of_ble_eq_true rfl) dX7_readPlaces_12 ⟨Nat.zero_le _, Nat.zero_le _⟩ (fun F_17 H locs w_18 h hfF_17 => ?_)
    obtain ⟨⟨σ_20, c1_20, rn_20, st_20, cn_20, pl_20⟩, q_21, q_22, -⟩ := w_18
    have rc_20 : zRc (zTo Bt nt) σ [(3, 0, 0, 0)] σ_20 [(5, 0, 0, 0)] := zRc.calls rc_12 (rn_20.x (zSy_eq (by have := bcc.1; have := bcc.2; have := br_7.1; have := br_7.2; have := bsz_.1; have := bsz_.2; have := bpz.1; have := bpz.2; have : (41 : Int32).toInt = 41 := (by decide); omega) (by have := bcc.1; have := bcc.2; have := br_7.1; have := br_7.2; have := bsz_.1; have := bsz_.2; have := bpz.1; have := bpz.2; have : (41 : Int32).toInt = 41 := (by decide); omega) (by have := bcc.1; have := bcc.2; have := br_7.1; have := br_7.2; have := bsz_.1; have := bsz_.2; have := bpz.1; have := bpz.2; have : (41 : Int32).toInt = 41 := (by decide); omega)))
    have ss_20 : zsP σ σ_20 := ss_12.trans st_20
    have cc_20 : zCc Γ F F_17 th (zTo Bt nt) σ (σ_20) (0) := zCc.call cc_12 cn_20
    obtain ⟨⟨x_23, kx_23, nx_23⟩, ⟨x_24, kx_24, nx_24⟩, ox_23⟩ := id c1_20
    have gx_23 := zC1.nx c1_20 hLs_.1 kx_23
    have bx_23 : zB 0 600 x_23 := ⟨by omega, by have := hLs_.2.1; omega⟩
    have bx_24 := zB.all x_24
    have mo_20 := zsP.nx st_20 ox_13 ox_23
    refine lv_iconst (v := 0) hx hb dX7_readPlaces_15 (by decide) ?_
    refine lv_istore_n (lv' := [(2, .int 0), (0, .ref th), (1, .ref fu)]) hx hb dX7_readPlaces_16 rfl hl (by decide) rfl (fun ls hl => ?_)
    have j_j17_25 : ∀ (n : Nat) (ls : Array Slot) (y2_j17_25 : Int32) (σ_j17_25 : zSg) (F_26 : Nat → va_E) (H : Heap) (locs : List Loc), lv_has ls 3 [(2, .int y2_j17_25), (0, .ref th), (1, .ref fu)] → zB 0 601 y2_j17_25 → zH D k Γ L s F_26 H locs → zFr Γ [207, 701, 702, 706, 10300] F_17 F_26 → (y2_j17_25.toInt ≤ znx Nt σ_j17_25) → (zOth Γ F F_26 fu) → (zOtA Γ F F_26 pla) → zC1 F_26 th Nt (σ_j17_25) → zRc (zTo Bt nt) σ [(3, 0, 0, 0)] σ_j17_25 [(5, 0, 0, 0)] → zsP σ σ_j17_25 → zCc Γ F F_26 th (zTo Bt nt) σ (σ_j17_25) (0) → zPl Γ F_26 fu σ_j17_25 → (2147483647 - y2_j17_25.toInt).toNat = n → W p l e R s m args below meth c H locs 0 0 Q (F0 m 17 ls []) := by
      intro n
      induction n using Nat.strongRecOn with
      | _ n ih_j17_25 =>
        intro ls y2_j17_25 σ_j17_25 F_26 H locs hl by2_j17_25 h hfF_26 r0_j17_25 r1_j17_25 r2_j17_25 c1_j17_25 rc_j17_25 ss_j17_25 cc_j17_25 pl_j17_25 hn_j17_25
        obtain ⟨⟨x_27, kx_27, nx_27⟩, ⟨x_28, kx_28, nx_28⟩, ox_27⟩ := id c1_j17_25
        have gx_27 := zC1.nx c1_j17_25 hLs_.1 kx_27
        have bx_27 : zB 0 600 x_27 := ⟨by omega, by have := hLs_.2.1; omega⟩
        have bx_28 := zB.all x_28
        refine lv_iload_n hx hb dX7_readPlaces_17 rfl (lv_at hl 0 rfl) ?_
        refine lv_aload_n hx hb dX7_readPlaces_18 rfl (lv_at hl 1 rfl) ?_
        refine zt_getk (t := 7) (C := RX7) (T := TX7) (N := 12) Z h hth zin_7 rfl 4 (hfF_26.f hth 4 ⟨by decide, by decide⟩ (hfF_17.f hth 4 ⟨by decide, by decide⟩ ktk)) ⟨by decide, rfl, by decide⟩ (zm_RX7 (List.mem_of_getElem? (i := 4) rfl)) (fun _ h9 => h9) dX7_readPlaces_19 ?_
        refine zt_getk (t := 8) (C := RX8) (T := TX8) (N := 6) Z h htk zin_8 rfl 5 (hfF_26.f htk 5 ⟨by decide, by decide⟩ (hfF_17.f htk 5 ⟨by decide, by decide⟩ ksz_)) ⟨by decide, rfl, by decide⟩ (zm_RX7 (List.mem_of_getElem? (i := 56) rfl)) (fun _ h9 => h9) dX7_readPlaces_22 ?_
        refine lv_icmp_ge (tgt := 58) hx hb dX7_readPlaces_25 (by decide) (fun c_29 => ?_) (fun c_29 => ?_)
        · have c_29 := z_le c_29
          have by2_j17_25_30 : zB 1 601 y2_j17_25 := zB.leR c_29 bsz_ by2_j17_25 (by decide)
          exfalso
          have := by2_j17_25_30.1; have := by2_j17_25_30.2; have := bx_27.1; have := bx_27.2; have := br_7.1; have := br_7.2; have := bcc.1; have := bcc.2; have := bsz_.1; have := bsz_.2; have := bx_28.1; have := bx_28.2; have := bpz.1; have := bpz.2; have : (41 : Int32).toInt = 41 := (by decide); omega
        · have c_29 := z_nle c_29
          have by2_j17_25_31 : zB 0 600 y2_j17_25 := zB.ltL c_29 by2_j17_25 bsz_ (by decide)
          refine lv_aload_n hx hb dX7_readPlaces_28 rfl (lv_at hl 1 rfl) ?_
          have p_32 := ((p_tb.fr hfF_17 htk (by decide)).fr hfF_26 htk (by decide))
          refine zk_Vi (As := []) (rest := []) (bytes := cX7_kind) (maxL := 2) (ret := (some .int)) Z h (ze_X7_kind l D k Γ L F_26 H.size th tk Bt nt Nt σ_j17_25 hth (hfF_26.f hth 4 ⟨by decide, by decide⟩ (hfF_17.f hth 4 ⟨by decide, by decide⟩ ktk)) htk p_32 c1_j17_25) (cwV 0 hg zv_RX7_65 rfl rfl rfl zd_X7_kind ⟨z_leR hRf (by decide), z_leR hRl (by decide)⟩) hth (by decide) rfl rfl hl.1 rfl (Nat.le_of_ble_eq_true rfl) dX7_readPlaces_29 ⟨Nat.zero_le _, Nat.zero_le _⟩ (fun r_33 F_34 H locs w_35 h hfF_34 => ?_)
          obtain ⟨rfl, q_36, -⟩ := w_35
          have br_33 := zB.all r_33
          refine lv_bipush (v := 44) hx hb dX7_readPlaces_32 (by decide) ?_
          refine lv_icmp_ne (tgt := 58) hx hb dX7_readPlaces_34 (by decide) (fun c_37 => ?_) (fun c_37 => ?_)
          · have c_37 := z_ne c_37
            have rc_38 : zRc (zTo Bt nt) σ [(3, 0, 0, 0)] σ_j17_25 [] := zRc.placeT0 (N := Nt) rc_j17_25 (by have := by2_j17_25_31.1; have := by2_j17_25_31.2; have := br_7.1; have := br_7.2; have := br_33.1; have := br_33.2; have := bcc.1; have := bcc.2; have := bsz_.1; have := bsz_.2; have := bx_27.1; have := bx_27.2; have := bx_28.1; have := bx_28.2; have := bpz.1; have := bpz.2; have : (41 : Int32).toInt = 41 := (by decide); have : (44 : Int32).toInt = 44 := (by decide); omega)
            have oth_39 : zOth Γ F F_26 fu := r1_j17_25
            have ota_40 : zOtA Γ F F_26 pla := r2_j17_25
            subst hQ
            exact W.vret hx hb hr (fun t ht hW => ⟨⟨F_26, rfl, ⟨⟨σ_j17_25, c1_j17_25, rc_38, ss_j17_25, (cc_j17_25.w (by have := by2_j17_25_31.1; have := by2_j17_25_31.2; have := br_7.1; have := br_7.2; have := br_33.1; have := br_33.2; have := bcc.1; have := bcc.2; have := bsz_.1; have := bsz_.2; have := bx_27.1; have := bx_27.2; have := bx_28.1; have := bx_28.2; have := bpz.1; have := bpz.2; have : (41 : Int32).toInt = 41 := (by decide); have : (44 : Int32).toInt = 44 := (by decide); omega)), pl_j17_25⟩, oth_39, ota_40, trivial⟩, by rw [ht]; exact h.1, h.2.1, (hfF_17.trans hfF_26 (by decide))⟩, h.2.2.F ht⟩) h.2.2.2.2 dX7_readPlaces_58
          · have c_37 := z_eq c_37
            have br_33_41 : zB 44 44 r_33 := zB.eqL (a := 0) (b := 0) c_37 (zBc 44 44 (by decide))
            refine lv_aload_n hx hb dX7_readPlaces_37 rfl (lv_at hl 1 rfl) ?_
            refine lv_dup hx hb dX7_readPlaces_38 rfl ?_
            refine zt_getk (t := 7) (C := RX7) (T := TX7) (N := 12) Z h hth zin_7 rfl 6 kx_27 ⟨by decide, rfl, by decide⟩ (zm_RX7 (List.mem_of_getElem? (i := 9) rfl)) (fun _ h9 => h9) dX7_readPlaces_39 ?_
            refine lv_iconst (v := 1) hx hb dX7_readPlaces_42 (by decide) ?_
            refine lv_iadd hx hb dX7_readPlaces_43 ?_
            refine zi_add (lo := 1) (hi := 601) bx_27 (zBc 1 1 (by decide)) (by decide) (fun x_42 bx_42 tx_42 => ?_)
            refine zt_put (t := 7) (C := RX7) (T := TX7) (N := 12) (v := .int x_42) Z h hth zin_7 tyX7 tyX7_ok nmX7 rfl 6 rfl ⟨by decide, rfl⟩ (zm_RX7 (List.mem_of_getElem? (i := 9) rfl)) (fun _ h9 => h9) rfl (zV.i (bx_42.w ⟨by decide, by decide⟩)) rfl rfl dX7_readPlaces_44 (fun H locs F_43 h hfF_43 kF_43 => ?_)
            have c1_44 : zC1 F_43 th Nt (zadv σ_j17_25) := (zC1.adv (T := zTo Bt nt) c1_j17_25 hfF_43 hth (by decide) kx_27 kF_43 (by have := by2_j17_25_31.1; have := by2_j17_25_31.2; have := bx_27.1; have := bx_27.2; have := br_7.1; have := br_7.2; have := br_33_41.1; have := br_33_41.2; have := bcc.1; have := bcc.2; have := bsz_.1; have := bsz_.2; have := bx_42.1; have := bx_42.2; have := bx_28.1; have := bx_28.2; have := bpz.1; have := bpz.2; have : (1 : Int32).toInt = 1 := (by decide); have : (41 : Int32).toInt = 41 := (by decide); have : (44 : Int32).toInt = 44 := (by decide); omega) hLs_ ⟨by have := by2_j17_25_31.1; have := by2_j17_25_31.2; have := bx_27.1; have := bx_27.2; have := br_7.1; have := br_7.2; have := br_33_41.1; have := br_33_41.2; have := bcc.1; have := bcc.2; have := bsz_.1; have := bsz_.2; have := bx_42.1; have := bx_42.2; have := bx_28.1; have := bx_28.2; have := bpz.1; have := bpz.2; have : (1 : Int32).toInt = 1 := (by decide); have : (41 : Int32).toInt = 41 := (by decide); have : (44 : Int32).toInt = 44 := (by decide); omega, by have := by2_j17_25_31.1; have := by2_j17_25_31.2; have := bx_27.1; have := bx_27.2; have := br_7.1; have := br_7.2; have := br_33_41.1; have := br_33_41.2; have := bcc.1; have := bcc.2; have := bsz_.1; have := bsz_.2; have := bx_42.1; have := bx_42.2; have := bx_28.1; have := bx_28.2; have := bpz.1; have := bpz.2; have : (1 : Int32).toInt = 1 := (by decide); have : (41 : Int32).toInt = 41 := (by decide); have : (44 : Int32).toInt = 44 := (by decide); omega⟩)
            have rc_44 : zRc (zTo Bt nt) σ [(3, 0, 0, 0)] (zadv σ_j17_25) [(4, 0, 0, 0), (5, 0, 0, 0)] := zRc.placeT1 (N := Nt) rc_j17_25 (by have := by2_j17_25_31.1; have := by2_j17_25_31.2; have := br_7.1; have := br_7.2; have := br_33_41.1; have := br_33_41.2; have := bcc.1; have := bcc.2; have := bsz_.1; have := bsz_.2; have := bx_42.1; have := bx_42.2; have := bx_28.1; have := bx_28.2; have := bpz.1; have := bpz.2; have : (1 : Int32).toInt = 1 := (by decide); have : (41 : Int32).toInt = 41 := (by decide); have : (44 : Int32).toInt = 44 := (by decide); omega)
            have st_44 : zsm σ_j17_25 (zadv σ_j17_25) := zsm.adv
            have ss_44 : zsP σ (zadv σ_j17_25) := ss_j17_25.trans st_44.ss.sP
            have cc_44 : zCc Γ F F_43 th (zTo Bt nt) σ (zadv σ_j17_25) (0) := (cc_j17_25.mv hfF_43 hth (by decide) (zTo_P Bt nt) zsm.adv.cs)
            generalize hσ_44 : zadv σ_j17_25 = σ_44 at c1_44 rc_44 st_44 ss_44 cc_44
            obtain ⟨⟨x_45, kx_45, nx_45⟩, ⟨x_46, kx_46, nx_46⟩, ox_45⟩ := id c1_44
            have gx_45 := zC1.nx c1_44 hLs_.1 kx_45
            have bx_45 : zB 0 600 x_45 := ⟨by omega, by have := hLs_.2.1; omega⟩
            have bx_46 := zB.all x_46
            have vx_45 := congrArg Int32.toInt (z_same kF_43 kx_45)
            have mo_44 := zsm.nx st_44 ox_27 ox_45
            refine lv_aload_n hx hb dX7_readPlaces_47 rfl (lv_at hl 1 rfl) ?_
            refine lv_aload_n hx hb dX7_readPlaces_48 rfl (lv_at hl 2 rfl) ?_
            have p_47 := (p_32.fr hfF_43 htk (by decide))
            have pl_48 := ((pl_j17_25.fr hfF_43 hfu (by decide)).sm st_44)
            refine zk_Vv (As := [.ref fu]) (rest := []) (bytes := cX7_readPlace) (maxL := 2) (ret := none) Z h (ze_X7_readPlace l D k Γ L F_43 H.size th fu pr tk co Bt nt Nt cc σ_44 pla hth hfu (hfF_43.f hth 3 ⟨by decide, by decide⟩ (hfF_26.f hth 3 ⟨by decide, by decide⟩ (hfF_17.f hth 3 ⟨by decide, by decide⟩ kpr))) hpr (hfF_43.f hth 4 ⟨by decide, by decide⟩ (hfF_26.f hth 4 ⟨by decide, by decide⟩ (hfF_17.f hth 4 ⟨by decide, by decide⟩ ktk))) htk (hfF_43.f hth 5 ⟨by decide, by decide⟩ (hfF_26.f hth 5 ⟨by decide, by decide⟩ (hfF_17.f hth 5 ⟨by decide, by decide⟩ kco))) hco p_47 (hfF_43.f hth 11 ⟨by decide, by decide⟩ (hfF_26.f hth 11 ⟨by decide, by decide⟩ (hfF_17.f hth 11 ⟨by decide, by decide⟩ kcc))) bcc c1_44 (zCc.m (cc_44.w (dep' := 0) (by have := by2_j17_25_31.1; have := by2_j17_25_31.2; have := bcc.1; have := bcc.2; have := br_7.1; have := br_7.2; have := br_33_41.1; have := br_33_41.2; have := bsz_.1; have := bsz_.2; have := bx_45.1; have := bx_45.2; have := bx_46.1; have := bx_46.2; have := bpz.1; have := bpz.2; have : (1 : Int32).toInt = 1 := (by decide); have : (41 : Int32).toInt = 41 := (by decide); have : (44 : Int32).toInt = 44 := (by decide); omega)) (hfF_43.f hth 11 ⟨by decide, by decide⟩ (hfF_26.f hth 11 ⟨by decide, by decide⟩ (hfF_17.f hth 11 ⟨by decide, by decide⟩ kcc)))) (hfF_43.f hfu 8 ⟨by decide, by decide⟩ (hfF_26.f hfu 8 ⟨by decide, by decide⟩ (hfF_17.f hfu 8 ⟨by decide, by decide⟩ kpla))) hpla pl_48) (cwV 1 hg zv_RX7_135 rfl rfl rfl zd_X7_readPlace ⟨z_leR hRf (by decide), z_leR hRl (by decide)⟩) hth (by decide) rfl rfl hl.1 rfl (Nat.le_of_ble_eq_true rfl) dX7_readPlaces_49 ⟨Nat.zero_le _, Nat.zero_le _⟩ (fun F_49 H locs w_50 h hfF_49 => ?_)
            obtain ⟨⟨σ_52, c1_52, rn_52, st_52, cn_52, pl_52⟩, q_53, q_54, -⟩ := w_50
            have rc_52 : zRc (zTo Bt nt) σ [(3, 0, 0, 0)] σ_52 [(5, 0, 0, 0)] := zRc.calls rc_44 (rn_52.x (zSy_eq (by have := by2_j17_25_31.1; have := by2_j17_25_31.2; have := bcc.1; have := bcc.2; have := br_7.1; have := br_7.2; have := br_33_41.1; have := br_33_41.2; have := bsz_.1; have := bsz_.2; have := bpz.1; have := bpz.2; have : (1 : Int32).toInt = 1 := (by decide); have : (41 : Int32).toInt = 41 := (by decide); have : (44 : Int32).toInt = 44 := (by decide); omega) (by have := by2_j17_25_31.1; have := by2_j17_25_31.2; have := bcc.1; have := bcc.2; have := br_7.1; have := br_7.2; have := br_33_41.1; have := br_33_41.2; have := bsz_.1; have := bsz_.2; have := bpz.1; have := bpz.2; have : (1 : Int32).toInt = 1 := (by decide); have : (41 : Int32).toInt = 41 := (by decide); have : (44 : Int32).toInt = 44 := (by decide); omega) (by have := by2_j17_25_31.1; have := by2_j17_25_31.2; have := bcc.1; have := bcc.2; have := br_7.1; have := br_7.2; have := br_33_41.1; have := br_33_41.2; have := bsz_.1; have := bsz_.2; have := bpz.1; have := bpz.2; have : (1 : Int32).toInt = 1 := (by decide); have : (41 : Int32).toInt = 41 := (by decide); have : (44 : Int32).toInt = 44 := (by decide); omega)))
            have ss_52 : zsP σ σ_52 := ss_44.trans st_52
            have cc_52 : zCc Γ F F_49 th (zTo Bt nt) σ (σ_52) (0) := zCc.call cc_44 cn_52
            obtain ⟨⟨x_55, kx_55, nx_55⟩, ⟨x_56, kx_56, nx_56⟩, ox_55⟩ := id c1_52
            have gx_55 := zC1.nx c1_52 hLs_.1 kx_55
            have bx_55 : zB 0 600 x_55 := ⟨by omega, by have := hLs_.2.1; omega⟩
            have bx_56 := zB.all x_56
            have mo_52 := zsP.nx st_52 ox_45 ox_55
            obtain ⟨x_57, ex_57, bx_57, tx_57⟩ := z_inc (n := 1) (lo := 1) (hi := 601) by2_j17_25_31 (by decide)
            refine lv_iinc (v := x_57) (lv' := [(2, .int x_57), (0, .ref th), (1, .ref fu)]) hx hb dX7_readPlaces_52 hl (k := 0) rfl ex_57 (by decide) rfl (fun ls hl => ?_)
            refine lv_goto (tgt := 17) hx hb dX7_readPlaces_55 (by decide) ?_
            have oth_58 : zOth Γ F F_49 fu := ((r1_j17_25.fr hfF_43 (by decide)).trans q_53)
            have ota_59 : zOtA Γ F F_49 pla := ((r2_j17_25.fr hfF_43 (by decide)).trans q_54)
            exact ih_j17_25 _ (by have := bx_57.1; have := bx_57.2; have := br_7.1; have := br_7.2; have := br_33_41.1; have := br_33_41.2; have := bcc.1; have := bcc.2; have := bsz_.1; have := bsz_.2; have := bx_55.1; have := bx_55.2; have := bx_56.1; have := bx_56.2; have := bpz.1; have := bpz.2; have : (1 : Int32).toInt = 1 := (by decide); have : (41 : Int32).toInt = 41 := (by decide); have : (44 : Int32).toInt = 44 := (by decide); have := by2_j17_25.1; have := by2_j17_25.2; omega) ls x_57 σ_52 F_49 H locs (lv_sub hl [0, 1, 2] rfl) (bx_57.w ⟨by decide, by decide⟩) h ((hfF_26.trans hfF_43 (by decide)).trans hfF_49 (by decide)) (by have := bx_57.1; have := bx_57.2; have := br_7.1; have := br_7.2; have := br_33_41.1; have := br_33_41.2; have := bcc.1; have := bcc.2; have := bsz_.1; have := bsz_.2; have := bx_55.1; have := bx_55.2; have := bx_56.1; have := bx_56.2; have := bpz.1; have := bpz.2; have : (1 : Int32).toInt = 1 := (by decide); have : (41 : Int32).toInt = 41 := (by decide); have : (44 : Int32).toInt = 44 := (by decide); omega) oth_58 ota_59 c1_52 rc_52 ss_52 (cc_52.w (by have := bx_57.1; have := bx_57.2; have := br_7.1; have := br_7.2; have := br_33_41.1; have := br_33_41.2; have := bcc.1; have := bcc.2; have := bsz_.1; have := bsz_.2; have := bx_55.1; have := bx_55.2; have := bx_56.1; have := bx_56.2; have := bpz.1; have := bpz.2; have : (1 : Int32).toInt = 1 := (by decide); have : (41 : Int32).toInt = 41 := (by decide); have : (44 : Int32).toInt = 44 := (by decide); omega)) pl_52 rfl
    have oth_60 : zOth Γ F F_17 fu := ((zOth.rf : zOth Γ F F fu).trans q_21)
    have ota_61 : zOtA Γ F F_17 pla := ((zOtA.rf : zOtA Γ F F pla).trans q_22)
    exact j_j17_25 _ ls 0 σ_20 F_17 H locs (lv_sub hl [0, 1, 2] rfl) (zB.of ⟨by decide, by decide⟩) h zFr.rf (by have := br_7.1; have := br_7.2; have := bcc.1; have := bcc.2; have := bsz_.1; have := bsz_.2; have := bx_23.1; have := bx_23.2; have := bx_24.1; have := bx_24.2; have := bpz.1; have := bpz.2; have : (0 : Int32).toInt = 0 := (by decide); have : (41 : Int32).toInt = 41 := (by decide); omega) oth_60 ota_61 c1_20 rc_20 ss_20 (cc_20.w (by have := br_7.1; have := br_7.2; have := bcc.1; have := bcc.2; have := bsz_.1; have := bsz_.2; have := bx_23.1; have := bx_23.2; have := bx_24.1; have := bx_24.2; have := bpz.1; have := bpz.2; have : (0 : Int32).toInt = 0 := (by decide); have : (41 : Int32).toInt = 41 := (by decide); omega)) pl_20 rfl
  · have c_11 := z_eq c_11
    have br_7_62 : zB 41 41 r_7 := zB.eqL (a := 0) (b := 0) c_11 (zBc 41 41 (by decide))
    have c1_63 : zC1 F th Nt (zmap (fun _ d => zadd0 d) σ) := p_au.map
    have rc_63 : zRc (zTo Bt nt) σ [(3, 0, 0, 0)] (zmap (fun _ d => zadd0 d) σ) [] := zRc.places0 (N := Nt) rc0_ (by have := br_7_62.1; have := br_7_62.2; have := bcc.1; have := bcc.2; have := bpz.1; have := bpz.2; have := bsz_.1; have := bsz_.2; have := bx_1.1; have := bx_1.2; have := bx_2.1; have := bx_2.2; have : (41 : Int32).toInt = 41 := (by decide); omega)
    have st_63 : zsP σ (zmap (fun _ d => zadd0 d) σ) := zsP.z
    have ss_63 : zsP σ (zmap (fun _ d => zadd0 d) σ) := ss0_.trans st_63
    have cc_63 : zCc Γ F F th (zTo Bt nt) σ (zmap (fun _ d => zadd0 d) σ) (0) := (cc0_.mv (zFr.rf : zFr Γ [] F F) hth (by decide) (zTo_P Bt nt) (zmap_cs (f := fun _ d => zadd0 d) (fun _ _ => ⟨rfl, zNc.eq rfl rfl⟩)))
    generalize hσ_63 : zmap (fun _ d => zadd0 d) σ = σ_63 at c1_63 rc_63 st_63 ss_63 cc_63
    obtain ⟨⟨x_64, kx_64, nx_64⟩, ⟨x_65, kx_65, nx_65⟩, ox_64⟩ := id c1_63
    have gx_64 := zC1.nx c1_63 hLs_.1 kx_64
    have bx_64 : zB 0 600 x_64 := ⟨by omega, by have := hLs_.2.1; omega⟩
    have bx_65 := zB.all x_65
    have vx_64 := congrArg Int32.toInt (z_same kx_1 kx_64)
    have mo_63 := zsP.nx st_63 ox_1 ox_64
    have ad_67 := z_ad (j := 8) (c := 103) h.2.1 hfu (by decide) rfl
    have pl_66 : zPl Γ F fu σ_63 := by rw [← hσ_63]; exact zPl.z ad_67 kpz (by have := bpz.1; have := bpz.2; have := br_7_62.1; have := br_7_62.2; have := bcc.1; have := bcc.2; have := bsz_.1; have := bsz_.2; have := bx_64.1; have := bx_64.2; have := bx_65.1; have := bx_65.2; have : (41 : Int32).toInt = 41 := (by decide); omega)
    have oth_68 : zOth Γ F F fu := (zOth.rf : zOth Γ F F fu)
    have ota_69 : zOtA Γ F F pla := (zOtA.rf : zOtA Γ F F pla)
    subst hQ
    exact W.vret hx hb hr (fun t ht hW => ⟨⟨F, rfl, ⟨⟨σ_63, c1_63, rc_63, ss_63, (cc_63.w (by have := br_7_62.1; have := br_7_62.2; have := bcc.1; have := bcc.2; have := bpz.1; have := bpz.2; have := bsz_.1; have := bsz_.2; have := bx_64.1; have := bx_64.2; have := bx_65.1; have := bx_65.2; have : (41 : Int32).toInt = 41 := (by decide); omega)), pl_66⟩, oth_68, ota_69, trivial⟩, by rw [ht]; exact h.1, h.2.1, zFr.rf⟩, h.2.2.F ht⟩) h.2.2.2.2 dX7_readPlaces_9
