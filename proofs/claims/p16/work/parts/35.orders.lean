set_option maxHeartbeats 4000000 in
set_option maxRecDepth 100000 in
theorem zc_X14_bitsE (l : Launch) (D : va_G) (k : Nat → ClassId) (Γ : Nat → Option Nat) (L : List Nat) (F : Nat → va_E) (sz : Nat) (v_ : Int32) : Met l yX14_bits zwX14_bits ({ frames := 0, cells := 0, slots := 0, locals := 0 }) (va_Pc [.int v_] (zP D k Γ L F sz)) (va_Qi (fun (r : Int32) (u : Nat → va_E) => F = u ∧ r = zbt v_ 0 ∧ True) (zQ D k Γ L F []) (zA L sz)) 0 0 (zA L sz) := by
  refine Met.ofW (cc := cX14_bits) (maxL := 3) (ret := (some .int)) (by decide) rfl ?_
  intro p e s m args below meth c s₁ B hml hv
  obtain ⟨rfl, hsz, hP, hK, hLn, hE, hI⟩ := hv
  have hx := B.exec
  have hb := B.bytes
  have hr := B.returns
  have hg : ∀ w ∈ zG, w.before _ s = true := fun w h9 => atoms_spec (ws := zwX14_bits) B.pre w (List.mem_cons_of_mem _ h9)
  have hown : s.vm.findClass RX14 = some m.cls := findClass_of_methodNamed B.named
  have hlocks := B.notSynchronized
  subst hsz
  have Z : zC p m c cX14_bits 3 s _ zG RX14 D k L := ⟨⟨hx, hb, hml, hown, hg⟩, hK, hLn, hE⟩
  have h : zH D k Γ L s F s.heap [] := ⟨hP, hI, va_S.rf⟩
  have hl := lv_entry ([.int v_]) (n := 3) (Nat.le_of_ble_eq_true rfl)
  rw [lg_entry_eq]
  generalize (lg_sl ([.int v_]) ++ List.replicate (3 - (lg_sl ([.int v_])).length) Slot.unset).toArray = ls at hl ⊢
  have hl : lv_has ls 3 [(0, .int v_)] := hl
  clear hP hK hLn hE hI
  generalize hargs : ([.int v_] : List Value).toArray = args at *
  refine z_start (fun R Q hRf hRl hQ => ?_)
  have hRf : R.frames = 0 := hRf
  have hRl : R.locals = 0 := hRl
  have h9 := h
  refine lv_iconst (v := 0) hx hb dX14_bits_0 (by decide) ?_
  refine lv_istore_n (lv' := [(1, .int 0), (0, .int v_)]) hx hb dX14_bits_1 rfl hl (by decide) rfl (fun ls hl => ?_)
  refine lv_iload_n hx hb dX14_bits_2 rfl (lv_at hl 1 rfl) ?_
  refine lv_istore_n (lv' := [(2, .int v_), (1, .int 0), (0, .int v_)]) hx hb dX14_bits_3 rfl hl (by decide) rfl (fun ls hl => ?_)
  have j_j4_1 : ∀ (n : Nat) (ls : Array Slot) (y2_j4_1 : Int32) (y1_j4_1 : Int32), lv_has ls 3 [(2, .int y2_j4_1), (1, .int y1_j4_1)] → zB (-2147483648) 2147483647 y2_j4_1 → zB (-2147483648) 2147483647 y1_j4_1 → (zbt y2_j4_1 y1_j4_1 = zbt v_ 0) → y2_j4_1.toBitVec.toNat = n → W p l e R s m args below meth c s.heap [] 0 0 Q (F0 m 4 ls []) := by
    intro n
    induction n using Nat.strongRecOn with
    | _ n ih_j4_1 =>
      intro ls y2_j4_1 y1_j4_1 hl by2_j4_1 by1_j4_1 r0_j4_1 hn_j4_1
      refine lv_iload_n hx hb dX14_bits_4 rfl (lv_at hl 0 rfl) ?_
      refine lv_if_eq (tgt := 20) hx hb dX14_bits_5 (by decide) (fun c_2 => ?_) (fun c_2 => ?_)
      · have c_2 := z_eq c_2
        have by2_j4_1_3 : zB 0 0 y2_j4_1 := zB.eqL (a := 0) (b := 0) c_2 (zBc 0 0 (by decide))
        refine lv_iload_n hx hb dX14_bits_20 rfl (lv_at hl 1 rfl) ?_
        subst hQ
        exact W.iret (v := y1_j4_1) hx hb hr (fun t ht hW => ⟨⟨y1_j4_1, F, rfl, ⟨rfl, ((zbt_z (by assumption)).symm.trans r0_j4_1), trivial⟩, by rw [ht]; exact h.1, h.2.1, zFr.rf⟩, h.2.2.F ht⟩) h.2.2.2.2 dX14_bits_21
      · have c_2 := z_ne c_2
        obtain ⟨x_4, ex_4⟩ : ∃ z : Int32, y1_j4_1 + Int32.ofInt 1 = z := ⟨_, rfl⟩
        have bx_4 := zB.all x_4
        refine lv_iinc (v := x_4) (lv' := [(1, .int x_4), (2, .int y2_j4_1)]) hx hb dX14_bits_8 hl (k := 1) rfl ex_4 (by decide) rfl (fun ls hl => ?_)
        refine lv_iload_n hx hb dX14_bits_11 rfl (lv_at hl 1 rfl) ?_
        refine lv_iload_n hx hb dX14_bits_12 rfl (lv_at hl 1 rfl) ?_
        refine lv_iconst (v := 1) hx hb dX14_bits_13 (by decide) ?_
        refine lv_isub hx hb dX14_bits_14 ?_
        refine zi_any (fun x_5 bx_5 ex_5 => ?_)
        refine lv_iand hx hb dX14_bits_15 ?_
        refine zi_any (fun x_6 bx_6 ex_6 => ?_)
        refine lv_istore_n (lv' := [(2, .int x_6), (1, .int x_4)]) hx hb dX14_bits_16 rfl hl (by decide) rfl (fun ls hl => ?_)
        refine lv_goto (tgt := 4) hx hb dX14_bits_17 (by decide) ?_
        exact ih_j4_1 _ (by have := bx_6.1; have := bx_6.2; have := bx_4.1; have := bx_4.2; have : (0 : Int32).toInt = 0 := (by decide); have : (1 : Int32).toInt = 1 := (by decide); have := by2_j4_1.1; have := by2_j4_1.2; have := by1_j4_1.1; have := by1_j4_1.2; exact Nat.lt_of_lt_of_eq (z_bitm (by assumption) (by assumption) (by assumption)) (by assumption)) ls x_6 x_4 (lv_sub hl [0, 1] rfl) bx_6 bx_4 ((zbt_step (by assumption) (by assumption) (by assumption) (by assumption)).trans r0_j4_1) rfl
  exact j_j4_1 _ ls v_ 0 (lv_sub hl [0, 1] rfl) (zB.all v_) (zB.of ⟨by decide, by decide⟩) rfl rfl

set_option maxHeartbeats 4000000 in
set_option maxRecDepth 100000 in
theorem zc_X14_costs (l : Launch) (D : va_G) (k : Nat → ClassId) (Γ : Nat → Option Nat) (L : List Nat) (F : Nat → va_E) (sz : Nat) (th : Nat) (f_ : Int32) (to : Int32) (pr : Nat) (hth : Γ th = some 14) (bf_ : zB 0 9 f_) (kpr : zfld F th 4 = .ref pr) (hpr : Γ pr = some 11) : Met l yX14_costs zwX14_costs ({ frames := 1, cells := 0, slots := 0, locals := 22 }) (va_Pc [.ref th, .int f_, .int to] (zP D k Γ L F sz)) (va_Qi (fun (r : Int32) (u : Nat → va_E) => F = u ∧ r = zcost (zar F pr 9 (Int32.toNatClampNeg f_)) f_ to ∧ True) (zQ D k Γ L F []) (zA L sz)) 0 0 (zA L sz) := by
  refine Met.ofW (cc := cX14_costs) (maxL := 3) (ret := (some .int)) (by decide) rfl ?_
  intro p e s m args below meth c s₁ B hml hv
  obtain ⟨rfl, hsz, hP, hK, hLn, hE, hI⟩ := hv
  have hx := B.exec
  have hb := B.bytes
  have hr := B.returns
  have hg : ∀ w ∈ zG, w.before _ s = true := fun w h9 => atoms_spec (ws := zwX14_costs) B.pre w (List.mem_cons_of_mem _ h9)
  have hown : s.vm.findClass RX14 = some m.cls := findClass_of_methodNamed B.named
  have hlocks := B.notSynchronized
  subst hsz
  have Z : zC p m c cX14_costs 3 s _ zG RX14 D k L := ⟨⟨hx, hb, hml, hown, hg⟩, hK, hLn, hE⟩
  have h : zH D k Γ L s F s.heap [] := ⟨hP, hI, va_S.rf⟩
  have hl := lv_entry ([.ref th, .int f_, .int to]) (n := 3) (Nat.le_of_ble_eq_true rfl)
  rw [lg_entry_eq]
  generalize (lg_sl ([.ref th, .int f_, .int to]) ++ List.replicate (3 - (lg_sl ([.ref th, .int f_, .int to])).length) Slot.unset).toArray = ls at hl ⊢
  have hl : lv_has ls 3 [(0, .ref th), (1, .int f_), (2, .int to)] := hl
  clear hP hK hLn hE hI
  generalize hargs : ([.ref th, .int f_, .int to] : List Value).toArray = args at *
  refine z_start (fun R Q hRf hRl hQ => ?_)
  have hRf : R.frames = 1 := hRf
  have hRl : R.locals = 22 := hRl
  have h9 := h
  refine lv_aload_n hx hb dX14_costs_0 rfl (lv_at hl 0 rfl) ?_
  refine zt_getk (t := 14) (C := RX14) (T := TX14) (N := 40) Z h hth zin_14 rfl 4 kpr ⟨by decide, rfl, by decide⟩ (zm_RX14 (List.mem_of_getElem? (i := 119) rfl)) (fun _ h9 => h9) dX14_costs_1 ?_
  refine zt_getrN (t := 11) (C := RX11) (T := TX11) (N := 30) Z h hpr zin_11 rfl 9 rfl ⟨by decide, rfl⟩ (zn_31 Z) (fun _ h9 => h9) dX14_costs_4 (fun a_1 ka_1 ha_1 => ?_)
  refine lv_iload_n hx hb dX14_costs_7 rfl (lv_at hl 1 rfl) ?_
  refine zt_ialde (t := 129) Z h ha_1 ⟨by decide, rfl⟩ bf_ ⟨by decide, by decide⟩ dX14_costs_8 (fun x_2 ex_2 bx_2 => ?_)
  refine lv_iload_n hx hb dX14_costs_9 rfl (lv_at hl 2 rfl) ?_
  refine lv_iconst (v := (-1)) hx hb dX14_costs_10 (by decide) ?_
  refine lv_ixor hx hb dX14_costs_11 ?_
  refine zi_any (fun x_3 bx_3 ex_3 => ?_)
  refine lv_iand hx hb dX14_costs_12 ?_
  refine zi_any (fun x_4 bx_4 ex_4 => ?_)
  refine lv_iconst (v := 1) hx hb dX14_costs_13 (by decide) ?_
  refine lv_iload_n hx hb dX14_costs_14 rfl (lv_at hl 1 rfl) ?_
  refine lv_ishl hx hb dX14_costs_15 ?_
  refine zi_any (fun x_5 bx_5 ex_5 => ?_)
  refine lv_iconst (v := (-1)) hx hb dX14_costs_16 (by decide) ?_
  refine lv_ixor hx hb dX14_costs_17 ?_
  refine zi_any (fun x_6 bx_6 ex_6 => ?_)
  refine lv_iand hx hb dX14_costs_18 ?_
  refine zi_any (fun x_7 bx_7 ex_7 => ?_)
  refine zk_Si (As := [.int x_7]) (rest := []) (bytes := cX14_bits) (maxL := 3) (ret := (some .int)) Z h (zc_X14_bitsE l D k Γ L F s.heap.size x_7) (va_cwS 1 hg zv_RX14_419 rfl rfl rfl zd_X14_bits ⟨z_leR hRf (by decide), z_leR hRl (by decide)⟩) rfl hl.1 rfl (Nat.le_of_ble_eq_true rfl) dX14_costs_19 ⟨Nat.zero_le _, Nat.zero_le _⟩ (fun r_8 F_9 H locs w_10 h hfF_9 => ?_)
  obtain ⟨rfl, q_11, -⟩ := w_10
  have br_8 := zB.all r_8
  subst hQ
  exact W.iret (v := r_8) hx hb hr (fun t ht hW => ⟨⟨r_8, F, rfl, ⟨rfl, (by rw [q_11, ex_7, ex_6, ex_5, ex_4, ex_3, zar_eq ka_1, ex_2]; rfl), trivial⟩, by rw [ht]; exact h.1, h.2.1, zFr.rf⟩, h.2.2.F ht⟩) h.2.2.2.2 dX14_costs_22

set_option maxHeartbeats 4000000 in
set_option maxRecDepth 100000 in
theorem zc_X14_orders (l : Launch) (D : va_G) (k : Nat → ClassId) (Γ : Nat → Option Nat) (L : List Nat) (F : Nat → va_E) (sz : Nat) (th : Nat) (pr : Nat) (nf : Int32) (lb : Nat) (hth : Γ th = some 14) (kpr : zfld F th 4 = .ref pr) (hpr : Γ pr = some 11) (knf : zfld F pr 0 = .int nf) (bnf : zB 0 10 nf) (klb : zfld F th 31 = .ref lb) (hlb : Γ lb = some 153) (hr0 : zCm (zar F pr 9) nf) : Met l yX14_orders zwX14_orders ({ frames := 2, cells := 0, slots := 0, locals := 44 }) (va_Pc [.ref th] (zP D k Γ L F sz)) (va_Qv (fun (u : Nat → va_E) => zTl (zar F pr 9) (zel u lb) nf (-1) ∧ True) (zQ D k Γ L F [15300]) (zA L sz)) 0 0 (zA L sz) := by
  refine Met.ofW (cc := cX14_orders) (maxL := 6) (ret := none) (by decide) rfl ?_
  intro p e s m args below meth c s₁ B hml hv
  obtain ⟨rfl, hsz, hP, hK, hLn, hE, hI⟩ := hv
  have hx := B.exec
  have hb := B.bytes
  have hr := B.returns
  have hg : ∀ w ∈ zG, w.before _ s = true := fun w h9 => atoms_spec (ws := zwX14_orders) B.pre w (List.mem_cons_of_mem _ h9)
  have hown : s.vm.findClass RX14 = some m.cls := findClass_of_methodNamed B.named
  have hlocks := B.notSynchronized
  subst hsz
  have Z : zC p m c cX14_orders 6 s _ zG RX14 D k L := ⟨⟨hx, hb, hml, hown, hg⟩, hK, hLn, hE⟩
  have h : zH D k Γ L s F s.heap [] := ⟨hP, hI, va_S.rf⟩
  have hl := lv_entry ([.ref th]) (n := 6) (Nat.le_of_ble_eq_true rfl)
  rw [lg_entry_eq]
  generalize (lg_sl ([.ref th]) ++ List.replicate (6 - (lg_sl ([.ref th])).length) Slot.unset).toArray = ls at hl ⊢
  have hl : lv_has ls 6 [(0, .ref th)] := hl
  clear hP hK hLn hE hI
  generalize hargs : ([.ref th] : List Value).toArray = args at *
  refine z_start (fun R Q hRf hRl hQ => ?_)
  have hRf : R.frames = 2 := hRf
  have hRl : R.locals = 44 := hRl
  have h9 := h
  refine lv_iconst (v := 1) hx hb dX14_orders_0 (by decide) ?_
  refine lv_aload_n hx hb dX14_orders_1 rfl (lv_at hl 0 rfl) ?_
  refine zt_getk (t := 14) (C := RX14) (T := TX14) (N := 40) Z h hth zin_14 rfl 4 kpr ⟨by decide, rfl, by decide⟩ (zm_RX14 (List.mem_of_getElem? (i := 119) rfl)) (fun _ h9 => h9) dX14_orders_2 ?_
  refine zt_getkN (t := 11) (C := RX11) (T := TX11) (N := 30) Z h hpr zin_11 rfl 0 knf ⟨by decide, rfl, by decide⟩ (zn_2 Z) (fun _ h9 => h9) dX14_orders_5 ?_
  refine lv_ishl hx hb dX14_orders_8 ?_
  refine zi_any (fun x_1 bx_1 ex_1 => ?_)
  refine lv_iconst (v := 1) hx hb dX14_orders_9 (by decide) ?_
  refine lv_isub hx hb dX14_orders_10 ?_
  refine zi_any (fun x_2 bx_2 ex_2 => ?_)
  have hal : x_2 = zaLf nf := by rw [ex_2, ex_1]; rfl
  have bal : zB 0 1023 x_2 := by rw [hal]; exact zaLf_b bnf
  refine lv_istore_n (lv' := [(1, .int x_2), (0, .ref th)]) hx hb dX14_orders_11 rfl hl (by decide) rfl (fun ls hl => ?_)
  refine lv_aload_n hx hb dX14_orders_12 rfl (lv_at hl 1 rfl) ?_
  refine zt_getk (t := 14) (C := RX14) (T := TX14) (N := 40) Z h hth zin_14 rfl 31 klb ⟨by decide, rfl, by decide⟩ (zm_RX14 (List.mem_of_getElem? (i := 202) rfl)) (fun _ h9 => h9) dX14_orders_13 ?_
  refine lv_iload_n hx hb dX14_orders_16 rfl (lv_at hl 0 rfl) ?_
  refine lv_iconst (v := 0) hx hb dX14_orders_17 (by decide) ?_
  refine zt_iaste (t := 153) Z h hlb ⟨by decide, rfl⟩ bal ⟨by decide, by decide⟩ (zB.of ⟨by decide, by decide⟩) dX14_orders_18 (fun H locs F_3 h hfF_3 eF_3 gF_3 => ?_)
  refine lv_iload_n hx hb dX14_orders_19 rfl (lv_at hl 0 rfl) ?_
  refine lv_iconst (v := 1) hx hb dX14_orders_20 (by decide) ?_
  refine lv_isub hx hb dX14_orders_21 ?_
  refine zi_sub (lo := (-1)) (hi := 1022) bal (zBc 1 1 (by decide)) (by decide) (fun x_4 bx_4 tx_4 => ?_)
  refine lv_istore_n (lv' := [(2, .int x_4), (1, .int x_2), (0, .ref th)]) hx hb dX14_orders_22 rfl hl (by decide) rfl (fun ls hl => ?_)
  have j_j23_5 : ∀ (n : Nat) (ls : Array Slot) (y2_j23_5 : Int32) (F_6 : Nat → va_E) (H : Heap) (locs : List Loc), lv_has ls 6 [(2, .int y2_j23_5), (0, .ref th)] → zB (-1) 1022 y2_j23_5 → zH D k Γ L s F_6 H locs → zFr Γ [15300] F_3 F_6 → (y2_j23_5.toInt < x_2.toInt) → (zTl (zar F pr 9) (zel F_6 lb) nf y2_j23_5) → (y2_j23_5.toInt + 1).toNat = n → W p l e R s m args below meth c H locs 0 0 Q (F0 m 23 ls []) := by
    intro n
    induction n using Nat.strongRecOn with
    | _ n ih_j23_5 =>
      intro ls y2_j23_5 F_6 H locs hl by2_j23_5 h hfF_6 r0_j23_5 r1_j23_5 hn_j23_5
      refine lv_iload_n hx hb dX14_orders_23 rfl (lv_at hl 0 rfl) ?_
      refine lv_if_lt (tgt := 114) hx hb dX14_orders_24 (by decide) (fun c_7 => ?_) (fun c_7 => ?_)
      · have c_7 := z_lt c_7
        have by2_j23_5_8 : zB (-1) (-1) y2_j23_5 := zB.ltL c_7 by2_j23_5 (zBc 0 0 (by decide)) (by decide)
        subst hQ
        exact W.vret hx hb hr (fun t ht hW => ⟨⟨F_6, rfl, ⟨(r1_j23_5.w (by have := by2_j23_5_8.1; have := by2_j23_5_8.2; have := bnf.1; have := bnf.2; have : (0 : Int32).toInt = 0 := (by decide); have : (1 : Int32).toInt = 1 := (by decide); have : (-1 : Int32).toInt = -1 := (by decide); omega)), trivial⟩, by rw [ht]; exact h.1, h.2.1, (hfF_3.trans hfF_6 (by decide))⟩, h.2.2.F ht⟩) h.2.2.2.2 dX14_orders_114
      · have c_7 := z_nlt c_7
        have by2_j23_5_9 : zB 0 1022 y2_j23_5 := zB.leR c_7 (zBc 0 0 (by decide)) by2_j23_5 (by decide)
        refine lv_iconst (v := (-1)) hx hb dX14_orders_27 (by decide) ?_
        refine lv_istore_n (lv' := [(3, .int (-1)), (2, .int y2_j23_5), (0, .ref th)]) hx hb dX14_orders_28 rfl hl (by decide) rfl (fun ls hl => ?_)
        refine lv_iconst (v := 0) hx hb dX14_orders_29 (by decide) ?_
        refine lv_istore (lv' := [(4, .int 0), (3, .int (-1)), (2, .int y2_j23_5), (0, .ref th)]) hx hb dX14_orders_30 hl (by decide) rfl (fun ls hl => ?_)
        have j_j32_10 : ∀ (n : Nat) (ls : Array Slot) (y4_j32_10 : Int32) (y3_j32_10 : Int32) (H : Heap) (locs : List Loc), lv_has ls 6 [(4, .int y4_j32_10), (3, .int y3_j32_10), (2, .int y2_j23_5), (0, .ref th)] → zB 0 10 y4_j32_10 → zB (-2147483648) 2147483647 y3_j32_10 → zH D k Γ L s F_6 H locs → (y4_j32_10.toInt ≤ nf.toInt) → (zIM (zar F pr 9) (zel F_6 lb) y2_j23_5 y4_j32_10 y3_j32_10) → (2147483647 - y4_j32_10.toInt).toNat = n → W p l e R s m args below meth c H locs 0 0 Q (F0 m 32 ls []) := by
          intro n
          induction n using Nat.strongRecOn with
          | _ n ih_j32_10 =>
            intro ls y4_j32_10 y3_j32_10 H locs hl by4_j32_10 by3_j32_10 h r0_j32_10 r1_j32_10 hn_j32_10
            refine lv_iload hx hb dX14_orders_32 (lv_at hl 0 rfl) ?_
            refine lv_aload_n hx hb dX14_orders_34 rfl (lv_at hl 3 rfl) ?_
            refine zt_getk (t := 14) (C := RX14) (T := TX14) (N := 40) Z h hth zin_14 rfl 4 (hfF_6.f hth 4 ⟨by decide, by decide⟩ (hfF_3.f hth 4 ⟨by decide, by decide⟩ kpr)) ⟨by decide, rfl, by decide⟩ (zm_RX14 (List.mem_of_getElem? (i := 119) rfl)) (fun _ h9 => h9) dX14_orders_35 ?_
            refine zt_getkN (t := 11) (C := RX11) (T := TX11) (N := 30) Z h hpr zin_11 rfl 0 (hfF_6.f hpr 0 ⟨by decide, by decide⟩ (hfF_3.f hpr 0 ⟨by decide, by decide⟩ knf)) ⟨by decide, rfl, by decide⟩ (zn_2 Z) (fun _ h9 => h9) dX14_orders_38 ?_
            refine lv_icmp_ge (tgt := 101) hx hb dX14_orders_41 (by decide) (fun c_11 => ?_) (fun c_11 => ?_)
            · have c_11 := z_le c_11
              have q_12 := zIM.end (nf := nf) r1_j32_10 (zB.of ⟨by have := by4_j32_10.1; have := by4_j32_10.2; have := by3_j32_10.1; have := by3_j32_10.2; have := by2_j23_5_9.1; have := by2_j23_5_9.2; have := bal.1; have := bal.2; have := bnf.1; have := bnf.2; have : (0 : Int32).toInt = 0 := (by decide); have : (1 : Int32).toInt = 1 := (by decide); omega, by have := by4_j32_10.1; have := by4_j32_10.2; have := by3_j32_10.1; have := by3_j32_10.2; have := by2_j23_5_9.1; have := by2_j23_5_9.2; have := bal.1; have := bal.2; have := bnf.1; have := bnf.2; have : (0 : Int32).toInt = 0 := (by decide); have : (1 : Int32).toInt = 1 := (by decide); omega⟩) bnf (by rw [← hal]; have := by4_j32_10.1; have := by4_j32_10.2; have := by3_j32_10.1; have := by3_j32_10.2; have := by2_j23_5_9.1; have := by2_j23_5_9.2; have := bal.1; have := bal.2; have := bnf.1; have := bnf.2; have : (0 : Int32).toInt = 0 := (by decide); have : (1 : Int32).toInt = 1 := (by decide); omega) (by have := by4_j32_10.1; have := by4_j32_10.2; have := by3_j32_10.1; have := by3_j32_10.2; have := by2_j23_5_9.1; have := by2_j23_5_9.2; have := bal.1; have := bal.2; have := bnf.1; have := bnf.2; have : (0 : Int32).toInt = 0 := (by decide); have : (1 : Int32).toInt = 1 := (by decide); omega)
              refine lv_aload_n hx hb dX14_orders_101 rfl (lv_at hl 3 rfl) ?_
              refine zt_getk (t := 14) (C := RX14) (T := TX14) (N := 40) Z h hth zin_14 rfl 31 (hfF_6.f hth 31 ⟨by decide, by decide⟩ (hfF_3.f hth 31 ⟨by decide, by decide⟩ klb)) ⟨by decide, rfl, by decide⟩ (zm_RX14 (List.mem_of_getElem? (i := 202) rfl)) (fun _ h9 => h9) dX14_orders_102 ?_
              refine lv_iload_n hx hb dX14_orders_105 rfl (lv_at hl 2 rfl) ?_
              refine lv_iload_n hx hb dX14_orders_106 rfl (lv_at hl 1 rfl) ?_
              refine zt_iaste (t := 153) Z h hlb ⟨by decide, rfl⟩ by2_j23_5_9 ⟨by decide, by decide⟩ by3_j32_10 dX14_orders_107 (fun H locs F_13 h hfF_13 eF_13 gF_13 => ?_)
              obtain ⟨x_14, ex_14, bx_14, tx_14⟩ := z_inc (n := (-1)) (lo := (-1)) (hi := 1021) by2_j23_5_9 (by decide)
              refine lv_iinc (v := x_14) (lv' := [(2, .int x_14), (4, .int y4_j32_10), (3, .int y3_j32_10), (0, .ref th)]) hx hb dX14_orders_108 hl (k := 2) rfl ex_14 (by decide) rfl (fun ls hl => ?_)
              refine lv_goto (tgt := 23) hx hb dX14_orders_111 (by decide) ?_
              exact ih_j23_5 _ (by have := bx_14.1; have := bx_14.2; have := by4_j32_10.1; have := by4_j32_10.2; have := by3_j32_10.1; have := by3_j32_10.2; have := bnf.1; have := bnf.2; have : (0 : Int32).toInt = 0 := (by decide); have : (1 : Int32).toInt = 1 := (by decide); have := by2_j23_5.1; have := by2_j23_5.2; omega) ls x_14 F_13 H locs (lv_sub hl [0, 3] rfl) (bx_14.w ⟨by decide, by decide⟩) h (hfF_6.trans hfF_13 (by decide)) (by have := bx_14.1; have := bx_14.2; have := by4_j32_10.1; have := by4_j32_10.2; have := by3_j32_10.1; have := by3_j32_10.2; have := bal.1; have := bal.2; have := bnf.1; have := bnf.2; have : (0 : Int32).toInt = 0 := (by decide); have : (1 : Int32).toInt = 1 := (by decide); omega) (zTl.put r1_j23_5 (zel_st eF_13 gF_13) bnf (by have := bx_14.1; have := bx_14.2; have := by4_j32_10.1; have := by4_j32_10.2; have := by3_j32_10.1; have := by3_j32_10.2; have := by2_j23_5_9.1; have := by2_j23_5_9.2; have := bal.1; have := bal.2; have := bnf.1; have := bnf.2; have : (0 : Int32).toInt = 0 := (by decide); have : (1 : Int32).toInt = 1 := (by decide); omega) (by rw [← hal]; have := bx_14.1; have := bx_14.2; have := by4_j32_10.1; have := by4_j32_10.2; have := by3_j32_10.1; have := by3_j32_10.2; have := by2_j23_5_9.1; have := by2_j23_5_9.2; have := bal.1; have := bal.2; have := bnf.1; have := bnf.2; have : (0 : Int32).toInt = 0 := (by decide); have : (1 : Int32).toInt = 1 := (by decide); omega) (by have := bx_14.1; have := bx_14.2; have := by4_j32_10.1; have := by4_j32_10.2; have := by3_j32_10.1; have := by3_j32_10.2; have := by2_j23_5_9.1; have := by2_j23_5_9.2; have := bal.1; have := bal.2; have := bnf.1; have := bnf.2; have : (0 : Int32).toInt = 0 := (by decide); have : (1 : Int32).toInt = 1 := (by decide); omega) q_12.1 q_12.2) rfl
            · have c_11 := z_nle c_11
              have by4_j32_10_15 : zB 0 9 y4_j32_10 := zB.ltL c_11 by4_j32_10 bnf (by decide)
              have bnf_16 : zB 1 10 nf := zB.ltR c_11 by4_j32_10 bnf (by decide)
              refine lv_iload_n hx hb dX14_orders_44 rfl (lv_at hl 2 rfl) ?_
              refine lv_iload hx hb dX14_orders_45 (lv_at hl 0 rfl) ?_
              refine lv_ishr hx hb dX14_orders_47 ?_
              refine zi_any (fun x_17 bx_17 ex_17 => ?_)
              refine lv_iconst (v := 1) hx hb dX14_orders_48 (by decide) ?_
              refine lv_iand hx hb dX14_orders_49 ?_
              refine zi_and ((zBc 1 1 (by decide)).w ⟨by decide, by decide⟩ : zB 0 1 _) (fun x_18 bx_18 ex_18 => ?_)
              refine lv_iconst (v := 1) hx hb dX14_orders_50 (by decide) ?_
              refine lv_icmp_ne (tgt := 57) hx hb dX14_orders_51 (by decide) (fun c_19 => ?_) (fun c_19 => ?_)
              · have c_19 := z_ne c_19
                have bx_18_20 : zB 0 0 x_18 := zB.neHi c_19 bx_18 (zBc 1 1 (by decide)) (by decide)
                have q_21 : ¬ zbit y2_j23_5 y4_j32_10 := by unfold zbit; rw [← ex_17, ← ex_18]; intro h9; exact absurd (congrArg Int32.toInt h9) (by have := by4_j32_10_15.1; have := by4_j32_10_15.2; have := by3_j32_10.1; have := by3_j32_10.2; have := by2_j23_5_9.1; have := by2_j23_5_9.2; have := bx_18_20.1; have := bx_18_20.2; have := bnf_16.1; have := bnf_16.2; have : (0 : Int32).toInt = 0 := (by decide); have : (1 : Int32).toInt = 1 := (by decide); have : (1 : Int32).toInt = 1 := (by decide); omega)
                refine lv_aload_n hx hb dX14_orders_57 rfl (lv_at hl 3 rfl) ?_
                refine lv_iload hx hb dX14_orders_58 (lv_at hl 0 rfl) ?_
                refine lv_iload_n hx hb dX14_orders_60 rfl (lv_at hl 2 rfl) ?_
                refine zk_Vi (As := [.int y4_j32_10, .int y2_j23_5]) (rest := []) (bytes := cX14_costs) (maxL := 3) (ret := (some .int)) Z h (zc_X14_costs l D k Γ L F_6 H.size th y4_j32_10 y2_j23_5 pr hth by4_j32_10_15 (hfF_6.f hth 4 ⟨by decide, by decide⟩ (hfF_3.f hth 4 ⟨by decide, by decide⟩ kpr)) hpr) (cwV 2 hg zv_RX14_422 rfl rfl rfl zd_X14_costs ⟨z_leR hRf (by decide), z_leR hRl (by decide)⟩) hth (by decide) rfl rfl hl.1 rfl (Nat.le_of_ble_eq_true rfl) dX14_orders_61 ⟨Nat.zero_le _, Nat.zero_le _⟩ (fun r_22 F_23 H locs w_24 h hfF_23 => ?_)
                obtain ⟨rfl, q_25, -⟩ := w_24
                have br_22 := zB.all r_22
                refine lv_aload_n hx hb dX14_orders_64 rfl (lv_at hl 3 rfl) ?_
                refine zt_getk (t := 14) (C := RX14) (T := TX14) (N := 40) Z h hth zin_14 rfl 31 (hfF_6.f hth 31 ⟨by decide, by decide⟩ (hfF_3.f hth 31 ⟨by decide, by decide⟩ klb)) ⟨by decide, rfl, by decide⟩ (zm_RX14 (List.mem_of_getElem? (i := 202) rfl)) (fun _ h9 => h9) dX14_orders_65 ?_
                refine lv_iload_n hx hb dX14_orders_68 rfl (lv_at hl 2 rfl) ?_
                refine lv_iconst (v := 1) hx hb dX14_orders_69 (by decide) ?_
                refine lv_iload hx hb dX14_orders_70 (lv_at hl 0 rfl) ?_
                refine lv_ishl hx hb dX14_orders_72 ?_
                refine zi_any (fun x_26 bx_26 ex_26 => ?_)
                refine lv_ior hx hb dX14_orders_73 ?_
                refine zi_any (fun x_27 bx_27 ex_27 => ?_)
                have hon : x_27 = zon y2_j23_5 y4_j32_10 := by rw [ex_27, ex_26]; rfl
                have bon : zB 0 1023 x_27 := by rw [hon]; exact (zon_b (by2_j23_5_9.w ⟨by decide, by decide⟩) by4_j32_10_15).1
                refine zt_ialde (t := 153) Z h hlb ⟨by decide, rfl⟩ bon ⟨by decide, by decide⟩ dX14_orders_74 (fun x_28 ex_28 bx_28 => ?_)
                refine lv_iadd hx hb dX14_orders_75 ?_
                refine zi_any (fun x_29 bx_29 ex_29 => ?_)
                have sa_31 := (z_SA h9.2.1 hpr).fr hfF_3 (by decide)
                have ar_32 : zar F_6 pr 9 = (zar F pr 9) := ((sa_31.ar hfF_6 9 (by decide)).trans (((z_SA h9.2.1 hpr).ar hfF_3 9 (by decide)).trans rfl))
                have q_30 : zco (zar F pr 9) (zel F_6 lb) y2_j23_5 y4_j32_10 = x_29 := by unfold zco; rw [← hon, ex_28, ex_29, q_25, ar_32]
                have q_33 : 0 ≤ x_29.toInt := by have h9 := (zTl.co r1_j23_5 hr0 bnf (f := y4_j32_10) (Int.le_refl _) (by have := by4_j32_10_15.1; have := by4_j32_10_15.2; have := by3_j32_10.1; have := by3_j32_10.2; have := by2_j23_5_9.1; have := by2_j23_5_9.2; have := bx_29.1; have := bx_29.2; have := bal.1; have := bal.2; have := bnf_16.1; have := bnf_16.2; have : (0 : Int32).toInt = 0 := (by decide); have : (1 : Int32).toInt = 1 := (by decide); omega) (by rw [← hal]; have := by4_j32_10_15.1; have := by4_j32_10_15.2; have := by3_j32_10.1; have := by3_j32_10.2; have := by2_j23_5_9.1; have := by2_j23_5_9.2; have := bx_29.1; have := bx_29.2; have := bal.1; have := bal.2; have := bnf_16.1; have := bnf_16.2; have : (0 : Int32).toInt = 0 := (by decide); have : (1 : Int32).toInt = 1 := (by decide); omega) (by have := by4_j32_10_15.1; have := by4_j32_10_15.2; have := by3_j32_10.1; have := by3_j32_10.2; have := by2_j23_5_9.1; have := by2_j23_5_9.2; have := bx_29.1; have := bx_29.2; have := bal.1; have := bal.2; have := bnf_16.1; have := bnf_16.2; have : (0 : Int32).toInt = 0 := (by decide); have : (1 : Int32).toInt = 1 := (by decide); omega) (by have := by4_j32_10_15.1; have := by4_j32_10_15.2; have := by3_j32_10.1; have := by3_j32_10.2; have := by2_j23_5_9.1; have := by2_j23_5_9.2; have := bx_29.1; have := bx_29.2; have := bal.1; have := bal.2; have := bnf_16.1; have := bnf_16.2; have : (0 : Int32).toInt = 0 := (by decide); have : (1 : Int32).toInt = 1 := (by decide); omega) q_21).1; rw [q_30] at h9; exact h9
                refine lv_istore (lv' := [(5, .int x_29), (4, .int y4_j32_10), (3, .int y3_j32_10), (2, .int y2_j23_5), (0, .ref th)]) hx hb dX14_orders_76 hl (by decide) rfl (fun ls hl => ?_)
                refine lv_iload_n hx hb dX14_orders_78 rfl (lv_at hl 2 rfl) ?_
                refine lv_iconst (v := (-1)) hx hb dX14_orders_79 (by decide) ?_
                refine lv_icmp_ne (tgt := 88) hx hb dX14_orders_80 (by decide) (fun c_34 => ?_) (fun c_34 => ?_)
                · have c_34 := z_ne c_34
                  refine lv_iload_n hx hb dX14_orders_88 rfl (lv_at hl 2 rfl) ?_
                  refine lv_iload hx hb dX14_orders_89 (lv_at hl 0 rfl) ?_
                  refine va_mmin hx hb (by rw [hml]; exact hl.1.symm) hown (hg _ (zm_RX14 (List.mem_of_getElem? (i := 189) rfl))) (hg _ (zm_RX14 (List.mem_of_getElem? (i := 190) rfl))) (hg _ (zm_RX14 (List.mem_of_getElem? (i := 155) rfl))) (hg _ (zm_RX14 (List.mem_of_getElem? (i := 191) rfl))) (z_leR hRf (by decide)) (z_leR hRl (Nat.le_of_ble_eq_true rfl)) (Nat.zero_le _) (Nat.zero_le _) dX14_orders_91 ?_
                  refine zi_min (lo := (-2147483648)) (hi := 2147483647) by3_j32_10 bx_29 (by decide) (fun x_35 bx_35 tx_35 => ?_)
                  refine lv_istore_n (lv' := [(3, .int x_35), (5, .int x_29), (4, .int y4_j32_10), (2, .int y2_j23_5), (0, .ref th)]) hx hb dX14_orders_94 rfl hl (by decide) rfl (fun ls hl => ?_)
                  obtain ⟨x_36, ex_36, bx_36, tx_36⟩ := z_inc (n := 1) (lo := 1) (hi := 10) by4_j32_10_15 (by decide)
                  refine lv_iinc (v := x_36) (lv' := [(4, .int x_36), (3, .int x_35), (5, .int x_29), (2, .int y2_j23_5), (0, .ref th)]) hx hb dX14_orders_95 hl (k := 2) rfl ex_36 (by decide) rfl (fun ls hl => ?_)
                  refine lv_goto (tgt := 32) hx hb dX14_orders_98 (by decide) ?_
                  exact ih_j32_10 _ (by have := bx_36.1; have := bx_36.2; have := bx_35.1; have := bx_35.2; have := bx_29.1; have := bx_29.2; have := by2_j23_5_9.1; have := by2_j23_5_9.2; have := bnf_16.1; have := bnf_16.2; have : ((-1) : Int32).toInt = (-1) := (by decide); have : (0 : Int32).toInt = 0 := (by decide); have : (1 : Int32).toInt = 1 := (by decide); have := by4_j32_10.1; have := by4_j32_10.2; have := by3_j32_10.1; have := by3_j32_10.2; omega) ls x_36 x_35 H locs (lv_sub hl [0, 1, 3, 4] rfl) (bx_36.w ⟨by decide, by decide⟩) bx_35 h (by have := bx_36.1; have := bx_36.2; have := bx_35.1; have := bx_35.2; have := bx_29.1; have := bx_29.2; have := by2_j23_5_9.1; have := by2_j23_5_9.2; have := bnf_16.1; have := bnf_16.2; have : ((-1) : Int32).toInt = (-1) := (by decide); have : (0 : Int32).toInt = 0 := (by decide); have : (1 : Int32).toInt = 1 := (by decide); omega) (zIM.add r1_j32_10 (by have := bx_36.1; have := bx_36.2; have := bx_35.1; have := bx_35.2; have := bx_29.1; have := bx_29.2; have := by2_j23_5_9.1; have := by2_j23_5_9.2; have := by4_j32_10_15.1; have := by4_j32_10_15.2; have := bnf_16.1; have := bnf_16.2; have : ((-1) : Int32).toInt = (-1) := (by decide); have : (0 : Int32).toInt = 0 := (by decide); have : (1 : Int32).toInt = 1 := (by decide); omega) q_21 q_30 q_33 (Or.inr ⟨by have := bx_36.1; have := bx_36.2; have := bx_35.1; have := bx_35.2; have := bx_29.1; have := bx_29.2; have := by2_j23_5_9.1; have := by2_j23_5_9.2; have := by3_j32_10.1; have := by3_j32_10.2; have := bnf_16.1; have := bnf_16.2; have : ((-1) : Int32).toInt = (-1) := (by decide); have : (0 : Int32).toInt = 0 := (by decide); have : (1 : Int32).toInt = 1 := (by decide); omega, by have := tx_35; omega, by have := tx_35; omega, by have := tx_35; omega⟩) (by have := bx_36.1; have := bx_36.2; have := bx_35.1; have := bx_35.2; have := bx_29.1; have := bx_29.2; have := by2_j23_5_9.1; have := by2_j23_5_9.2; have := by4_j32_10_15.1; have := by4_j32_10_15.2; have := bnf_16.1; have := bnf_16.2; have : ((-1) : Int32).toInt = (-1) := (by decide); have : (0 : Int32).toInt = 0 := (by decide); have : (1 : Int32).toInt = 1 := (by decide); omega)) rfl
                · have c_34 := z_eq c_34
                  have by3_j32_10_37 : zB (-1) (-1) y3_j32_10 := zB.eqL (a := 0) (b := 0) c_34 (zBc (-1) (-1) (by decide))
                  refine lv_iload hx hb dX14_orders_83 (lv_at hl 0 rfl) ?_
                  refine lv_goto (tgt := 94) hx hb dX14_orders_85 (by decide) ?_
                  refine lv_istore_n (lv' := [(3, .int x_29), (5, .int x_29), (4, .int y4_j32_10), (2, .int y2_j23_5), (0, .ref th)]) hx hb dX14_orders_94 rfl hl (by decide) rfl (fun ls hl => ?_)
                  obtain ⟨x_38, ex_38, bx_38, tx_38⟩ := z_inc (n := 1) (lo := 1) (hi := 10) by4_j32_10_15 (by decide)
                  refine lv_iinc (v := x_38) (lv' := [(4, .int x_38), (3, .int x_29), (5, .int x_29), (2, .int y2_j23_5), (0, .ref th)]) hx hb dX14_orders_95 hl (k := 2) rfl ex_38 (by decide) rfl (fun ls hl => ?_)
                  refine lv_goto (tgt := 32) hx hb dX14_orders_98 (by decide) ?_
                  exact ih_j32_10 _ (by have := bx_38.1; have := bx_38.2; have := bx_29.1; have := bx_29.2; have := by2_j23_5_9.1; have := by2_j23_5_9.2; have := bnf_16.1; have := bnf_16.2; have : ((-1) : Int32).toInt = (-1) := (by decide); have : (0 : Int32).toInt = 0 := (by decide); have : (1 : Int32).toInt = 1 := (by decide); have := by4_j32_10.1; have := by4_j32_10.2; have := by3_j32_10.1; have := by3_j32_10.2; omega) ls x_38 x_29 H locs (lv_sub hl [0, 1, 3, 4] rfl) (bx_38.w ⟨by decide, by decide⟩) bx_29 h (by have := bx_38.1; have := bx_38.2; have := bx_29.1; have := bx_29.2; have := by2_j23_5_9.1; have := by2_j23_5_9.2; have := bnf_16.1; have := bnf_16.2; have : ((-1) : Int32).toInt = (-1) := (by decide); have : (0 : Int32).toInt = 0 := (by decide); have : (1 : Int32).toInt = 1 := (by decide); omega) (zIM.add r1_j32_10 (by have := bx_38.1; have := bx_38.2; have := bx_29.1; have := bx_29.2; have := by2_j23_5_9.1; have := by2_j23_5_9.2; have := by4_j32_10_15.1; have := by4_j32_10_15.2; have := bnf_16.1; have := bnf_16.2; have : ((-1) : Int32).toInt = (-1) := (by decide); have : (0 : Int32).toInt = 0 := (by decide); have : (1 : Int32).toInt = 1 := (by decide); omega) q_21 q_30 q_33 (Or.inl ⟨by have := bx_38.1; have := bx_38.2; have := bx_29.1; have := bx_29.2; have := by2_j23_5_9.1; have := by2_j23_5_9.2; have := by3_j32_10_37.1; have := by3_j32_10_37.2; have := bnf_16.1; have := bnf_16.2; have : ((-1) : Int32).toInt = (-1) := (by decide); have : (0 : Int32).toInt = 0 := (by decide); have : (1 : Int32).toInt = 1 := (by decide); omega, rfl⟩) (by have := bx_38.1; have := bx_38.2; have := bx_29.1; have := bx_29.2; have := by2_j23_5_9.1; have := by2_j23_5_9.2; have := by4_j32_10_15.1; have := by4_j32_10_15.2; have := bnf_16.1; have := bnf_16.2; have : ((-1) : Int32).toInt = (-1) := (by decide); have : (0 : Int32).toInt = 0 := (by decide); have : (1 : Int32).toInt = 1 := (by decide); omega)) rfl
              · have c_19 := z_eq c_19
                have bx_18_39 : zB 1 1 x_18 := zB.eqL (a := 0) (b := 0) c_19 (zBc 1 1 (by decide))
                have q_40 : zbit y2_j23_5 y4_j32_10 := by unfold zbit; rw [← ex_17, ← ex_18]; exact Int32.toInt_inj.mp (by have := by4_j32_10_15.1; have := by4_j32_10_15.2; have := by3_j32_10.1; have := by3_j32_10.2; have := by2_j23_5_9.1; have := by2_j23_5_9.2; have := bx_18_39.1; have := bx_18_39.2; have := bnf_16.1; have := bnf_16.2; have : (0 : Int32).toInt = 0 := (by decide); have : (1 : Int32).toInt = 1 := (by decide); have : (1 : Int32).toInt = 1 := (by decide); omega)
                refine lv_goto (tgt := 95) hx hb dX14_orders_54 (by decide) ?_
                obtain ⟨x_41, ex_41, bx_41, tx_41⟩ := z_inc (n := 1) (lo := 1) (hi := 10) by4_j32_10_15 (by decide)
                refine lv_iinc (v := x_41) (lv' := [(4, .int x_41), (3, .int y3_j32_10), (2, .int y2_j23_5), (0, .ref th)]) hx hb dX14_orders_95 hl (k := 0) rfl ex_41 (by decide) rfl (fun ls hl => ?_)
                refine lv_goto (tgt := 32) hx hb dX14_orders_98 (by decide) ?_
                exact ih_j32_10 _ (by have := bx_41.1; have := bx_41.2; have := by3_j32_10.1; have := by3_j32_10.2; have := by2_j23_5_9.1; have := by2_j23_5_9.2; have := bnf_16.1; have := bnf_16.2; have : (0 : Int32).toInt = 0 := (by decide); have : (1 : Int32).toInt = 1 := (by decide); have := by4_j32_10.1; have := by4_j32_10.2; have := by3_j32_10.1; have := by3_j32_10.2; omega) ls x_41 y3_j32_10 H locs (lv_sub hl [0, 1, 2, 3] rfl) (bx_41.w ⟨by decide, by decide⟩) by3_j32_10 h (by have := bx_41.1; have := bx_41.2; have := by3_j32_10.1; have := by3_j32_10.2; have := by2_j23_5_9.1; have := by2_j23_5_9.2; have := bnf_16.1; have := bnf_16.2; have : (0 : Int32).toInt = 0 := (by decide); have : (1 : Int32).toInt = 1 := (by decide); omega) (zIM.skip r1_j32_10 q_40 (by have := bx_41.1; have := bx_41.2; have := by3_j32_10.1; have := by3_j32_10.2; have := by2_j23_5_9.1; have := by2_j23_5_9.2; have := by4_j32_10_15.1; have := by4_j32_10_15.2; have := bnf_16.1; have := bnf_16.2; have : (0 : Int32).toInt = 0 := (by decide); have : (1 : Int32).toInt = 1 := (by decide); omega)) rfl
        exact j_j32_10 _ ls 0 (-1) H locs (lv_sub hl [0, 1, 2, 3] rfl) (zB.of ⟨by decide, by decide⟩) (zB.of ⟨by decide, by decide⟩) h (by have := by2_j23_5_9.1; have := by2_j23_5_9.2; have := bnf.1; have := bnf.2; have : ((-1) : Int32).toInt = (-1) := (by decide); have : (0 : Int32).toInt = 0 := (by decide); have : (1 : Int32).toInt = 1 := (by decide); omega) zIM.z rfl
  exact j_j23_5 _ ls x_4 F_3 H locs (lv_sub hl [0, 2] rfl) bx_4 h zFr.rf (by have := bx_4.1; have := bx_4.2; have := bal.1; have := bal.2; have := bnf.1; have := bnf.2; have : (1 : Int32).toInt = 1 := (by decide); omega) (zTl.st (by rw [show zel F_3 lb = upd (zel F lb) (Int32.toNatClampNeg x_2) 0 from (zel_st eF_3 gF_3), ← hal, z_upe]; decide) (by rw [← hal]; have := bx_4.1; have := bx_4.2; have := bal.1; have := bal.2; have := bnf.1; have := bnf.2; have : (1 : Int32).toInt = 1 := (by decide); omega)) rfl

set_option maxHeartbeats 4000000 in
set_option maxRecDepth 100000 in
theorem zc_X14_order (l : Launch) (D : va_G) (k : Nat → ClassId) (Γ : Nat → Option Nat) (L : List Nat) (F : Nat → va_E) (sz : Nat) (th : Nat) (pr : Nat) (lb : Nat) (is_ : Int32) (nf : Int32) (hth : Γ th = some 14) (kpr : zfld F th 4 = .ref pr) (hpr : Γ pr = some 11) (klb : zfld F th 31 = .ref lb) (hlb : Γ lb = some 153) (kis_ : zfld F th 7 = .int is_) (bis_ : zB 0 1 is_) (knf : zfld F pr 0 = .int nf) (bnf : zB 0 10 nf) (hr0 : (is_.toInt ≠ 0 → zCm (zar F pr 9) nf)) : Met l yX14_order zwX14_order ({ frames := 3, cells := 0, slots := 0, locals := 69 }) (va_Pc [.ref th] (zP D k Γ L F sz)) (va_Qi (fun (r : Int32) (u : Nat → va_E) => ((is_.toInt ≠ 0 → ∃ le, zTl (zar F pr 9) le nf (-1) ∧ r = le 0) ∧ (is_.toInt = 0 → r.toInt = -2)) ∧ True) (zQ D k Γ L F [1400, 15300]) (zA L sz)) 0 0 (zA L sz) := by
  refine Met.ofW (cc := cX14_order) (maxL := 1) (ret := (some .int)) (by decide) rfl ?_
  intro p e s m args below meth c s₁ B hml hv
  obtain ⟨rfl, hsz, hP, hK, hLn, hE, hI⟩ := hv
  have hx := B.exec
  have hb := B.bytes
  have hr := B.returns
  have hg : ∀ w ∈ zG, w.before _ s = true := fun w h9 => atoms_spec (ws := zwX14_order) B.pre w (List.mem_cons_of_mem _ h9)
  have hown : s.vm.findClass RX14 = some m.cls := findClass_of_methodNamed B.named
  have hlocks := B.notSynchronized
  subst hsz
  have Z : zC p m c cX14_order 1 s _ zG RX14 D k L := ⟨⟨hx, hb, hml, hown, hg⟩, hK, hLn, hE⟩
  have h : zH D k Γ L s F s.heap [] := ⟨hP, hI, va_S.rf⟩
  have hl := lv_entry ([.ref th]) (n := 1) (Nat.le_of_ble_eq_true rfl)
  rw [lg_entry_eq]
  generalize (lg_sl ([.ref th]) ++ List.replicate (1 - (lg_sl ([.ref th])).length) Slot.unset).toArray = ls at hl ⊢
  have hl : lv_has ls 1 [(0, .ref th)] := hl
  clear hP hK hLn hE hI
  generalize hargs : ([.ref th] : List Value).toArray = args at *
  refine z_start (fun R Q hRf hRl hQ => ?_)
  have hRf : R.frames = 3 := hRf
  have hRl : R.locals = 69 := hRl
  have h9 := h
  refine lv_aload_n hx hb dX14_order_0 rfl (lv_at hl 0 rfl) ?_
  refine lv_iconst (v := 0) hx hb dX14_order_1 (by decide) ?_
  refine zt_put (t := 14) (C := RX14) (T := TX14) (N := 40) (v := .int 0) Z h hth zin_14 tyX14 tyX14_ok nmX14 rfl 0 rfl ⟨by decide, rfl⟩ (zm_RX14 (List.mem_of_getElem? (i := 105) rfl)) (fun _ h9 => h9) rfl (zV.i (zB.of ⟨by decide, by decide⟩)) rfl rfl dX14_order_2 (fun H locs F_1 h hfF_1 kF_1 => ?_)
  refine lv_aload_n hx hb dX14_order_5 rfl (lv_at hl 0 rfl) ?_
  refine zt_getk (t := 14) (C := RX14) (T := TX14) (N := 40) Z h hth zin_14 rfl 7 (hfF_1.f hth 7 ⟨by decide, by decide⟩ kis_) ⟨by decide, rfl, by decide⟩ (zm_RX14 (List.mem_of_getElem? (i := 120) rfl)) (fun _ h9 => h9) dX14_order_6 ?_
  refine lv_if_ne (tgt := 15) hx hb dX14_order_9 (by decide) (fun c_2 => ?_) (fun c_2 => ?_)
  · have c_2 := z_ne c_2
    have bis__3 : zB 1 1 is_ := zB.neLo c_2 bis_ (zBc 0 0 (by decide)) (by decide)
    refine lv_aload_n hx hb dX14_order_15 rfl (lv_at hl 0 rfl) ?_
    have ar_4 : zar F_1 pr 9 = (zar F pr 9) := (((z_SA h9.2.1 hpr).ar hfF_1 9 (by decide)).trans rfl)
    refine zk_Vv (As := []) (rest := []) (bytes := cX14_orders) (maxL := 6) (ret := none) Z h (zc_X14_orders l D k Γ L F_1 H.size th pr nf lb hth (hfF_1.f hth 4 ⟨by decide, by decide⟩ kpr) hpr (hfF_1.f hpr 0 ⟨by decide, by decide⟩ knf) bnf (hfF_1.f hth 31 ⟨by decide, by decide⟩ klb) hlb (by rw [ar_4]; exact hr0 (by have := bis__3.1; have := bis__3.2; have := bnf.1; have := bnf.2; have : (0 : Int32).toInt = 0 := (by decide); omega))) (cwV 0 hg zv_RX14_425 rfl rfl rfl zd_X14_orders ⟨z_leR hRf (by decide), z_leR hRl (by decide)⟩) hth (by decide) rfl rfl hl.1 rfl (Nat.le_of_ble_eq_true rfl) dX14_order_16 ⟨Nat.zero_le _, Nat.zero_le _⟩ (fun F_5 H locs w_6 h hfF_5 => ?_)
    obtain ⟨q_7, -⟩ := w_6
    refine lv_aload_n hx hb dX14_order_19 rfl (lv_at hl 0 rfl) ?_
    refine zt_getk (t := 14) (C := RX14) (T := TX14) (N := 40) Z h hth zin_14 rfl 31 (hfF_5.f hth 31 ⟨by decide, by decide⟩ (hfF_1.f hth 31 ⟨by decide, by decide⟩ klb)) ⟨by decide, rfl, by decide⟩ (zm_RX14 (List.mem_of_getElem? (i := 202) rfl)) (fun _ h9 => h9) dX14_order_20 ?_
    refine lv_iconst (v := 0) hx hb dX14_order_23 (by decide) ?_
    refine zt_ialde (t := 153) Z h hlb ⟨by decide, rfl⟩ (zBc 0 0 (by decide)) ⟨by decide, by decide⟩ dX14_order_24 (fun x_8 ex_8 bx_8 => ?_)
    subst hQ
    exact W.iret (v := x_8) hx hb hr (fun t ht hW => ⟨⟨x_8, F_5, rfl, ⟨⟨fun _ => ⟨zel F_5 lb, by rw [← ar_4]; exact q_7, by rw [show (0 : Nat) = Int32.toNatClampNeg 0 by decide]; exact ex_8.symm⟩, fun h9 => by exfalso; have := bx_8.1; have := bx_8.2; have := bis__3.1; have := bis__3.2; have := bnf.1; have := bnf.2; have : (0 : Int32).toInt = 0 := (by decide); omega⟩, trivial⟩, by rw [ht]; exact h.1, h.2.1, ((hfF_1.w (by decide)).trans hfF_5 (by decide))⟩, h.2.2.F ht⟩) h.2.2.2.2 dX14_order_25
  · have c_2 := z_eq c_2
    have bis__9 : zB 0 0 is_ := zB.eqL (a := 0) (b := 0) c_2 (zBc 0 0 (by decide))
    refine lv_bipush (v := (-2)) hx hb dX14_order_12 (by decide) ?_
    subst hQ
    exact W.iret (v := (-2)) hx hb hr (fun t ht hW => ⟨⟨(-2), F_1, rfl, ⟨⟨fun h9 => by exfalso; have := bis__9.1; have := bis__9.2; have := bnf.1; have := bnf.2; have : ((-2) : Int32).toInt = (-2) := (by decide); have : (0 : Int32).toInt = 0 := (by decide); omega, fun _ => by have := bis__9.1; have := bis__9.2; have := bnf.1; have := bnf.2; have : ((-2) : Int32).toInt = (-2) := (by decide); have : (0 : Int32).toInt = 0 := (by decide); omega⟩, trivial⟩, by rw [ht]; exact h.1, h.2.1, (hfF_1.w (by decide))⟩, h.2.2.F ht⟩) h.2.2.2.2 dX14_order_14

set_option maxHeartbeats 4000000 in
set_option maxRecDepth 100000 in
theorem zc_X14_chapter (l : Launch) (D : va_G) (k : Nat → ClassId) (Γ : Nat → Option Nat) (L : List Nat) (F : Nat → va_E) (sz : Nat) (th : Nat) (i : Int32) (pr : Nat) (lb : Nat) (is_ : Int32) (nf : Int32) (hth : Γ th = some 14) (kpr : zfld F th 4 = .ref pr) (hpr : Γ pr = some 11) (klb : zfld F th 31 = .ref lb) (hlb : Γ lb = some 153) (kis_ : zfld F th 7 = .int is_) (bis_ : zB 0 1 is_) (knf : zfld F pr 0 = .int nf) (bnf : zB 0 10 nf) (hr0 : (is_.toInt ≠ 0 → zCm (zar F pr 9) nf)) : Met l yX14_chapter zwX14_chapter ({ frames := 3, cells := 0, slots := 0, locals := 69 }) (va_Pc [.ref th, .int i] (zP D k Γ L F sz)) (va_Qi (fun (r : Int32) (u : Nat → va_E) => ((is_.toInt ≠ 0 ∧ 0 ≤ i.toInt ∧ i.toInt < nf.toInt → ∃ le, zTl (zar F pr 9) le nf (-1) ∧ zCh (zar F pr 9) le nf i.toInt.toNat r) ∧ (is_.toInt = 0 ∨ i.toInt < 0 ∨ nf.toInt ≤ i.toInt → r.toInt = -1)) ∧ True) (zQ D k Γ L F [1400, 15300]) (zA L sz)) 0 0 (zA L sz) := by
  refine Met.ofW (cc := cX14_chapter) (maxL := 5) (ret := (some .int)) (by decide) rfl ?_
  intro p e s m args below meth c s₁ B hml hv
  obtain ⟨rfl, hsz, hP, hK, hLn, hE, hI⟩ := hv
  have hx := B.exec
  have hb := B.bytes
  have hr := B.returns
  have hg : ∀ w ∈ zG, w.before _ s = true := fun w h9 => atoms_spec (ws := zwX14_chapter) B.pre w (List.mem_cons_of_mem _ h9)
  have hown : s.vm.findClass RX14 = some m.cls := findClass_of_methodNamed B.named
  have hlocks := B.notSynchronized
  subst hsz
  have Z : zC p m c cX14_chapter 5 s _ zG RX14 D k L := ⟨⟨hx, hb, hml, hown, hg⟩, hK, hLn, hE⟩
  have h : zH D k Γ L s F s.heap [] := ⟨hP, hI, va_S.rf⟩
  have hl := lv_entry ([.ref th, .int i]) (n := 5) (Nat.le_of_ble_eq_true rfl)
  rw [lg_entry_eq]
  generalize (lg_sl ([.ref th, .int i]) ++ List.replicate (5 - (lg_sl ([.ref th, .int i])).length) Slot.unset).toArray = ls at hl ⊢
  have hl : lv_has ls 5 [(0, .ref th), (1, .int i)] := hl
  clear hP hK hLn hE hI
  generalize hargs : ([.ref th, .int i] : List Value).toArray = args at *
  refine z_start (fun R Q hRf hRl hQ => ?_)
  have hRf : R.frames = 3 := hRf
  have hRl : R.locals = 69 := hRl
  have h9 := h
  refine lv_aload_n hx hb dX14_chapter_0 rfl (lv_at hl 0 rfl) ?_
  refine lv_iconst (v := 0) hx hb dX14_chapter_1 (by decide) ?_
  refine zt_put (t := 14) (C := RX14) (T := TX14) (N := 40) (v := .int 0) Z h hth zin_14 tyX14 tyX14_ok nmX14 rfl 0 rfl ⟨by decide, rfl⟩ (zm_RX14 (List.mem_of_getElem? (i := 105) rfl)) (fun _ h9 => h9) rfl (zV.i (zB.of ⟨by decide, by decide⟩)) rfl rfl dX14_chapter_2 (fun H locs F_1 h hfF_1 kF_1 => ?_)
  refine lv_aload_n hx hb dX14_chapter_5 rfl (lv_at hl 0 rfl) ?_
  refine zt_getk (t := 14) (C := RX14) (T := TX14) (N := 40) Z h hth zin_14 rfl 7 (hfF_1.f hth 7 ⟨by decide, by decide⟩ kis_) ⟨by decide, rfl, by decide⟩ (zm_RX14 (List.mem_of_getElem? (i := 120) rfl)) (fun _ h9 => h9) dX14_chapter_6 ?_
  refine lv_if_eq (tgt := 27) hx hb dX14_chapter_9 (by decide) (fun c_2 => ?_) (fun c_2 => ?_)
  · have c_2 := z_eq c_2
    have bis__3 : zB 0 0 is_ := zB.eqL (a := 0) (b := 0) c_2 (zBc 0 0 (by decide))
    refine lv_iconst (v := (-1)) hx hb dX14_chapter_27 (by decide) ?_
    subst hQ
    exact W.iret (v := (-1)) hx hb hr (fun t ht hW => ⟨⟨(-1), F_1, rfl, ⟨⟨fun h9 => by exfalso; have := (zB.all i).1; have := (zB.all i).2; have := bis__3.1; have := bis__3.2; have := bnf.1; have := bnf.2; have : ((-1) : Int32).toInt = (-1) := (by decide); have : (0 : Int32).toInt = 0 := (by decide); omega, fun _ => by have := (zB.all i).1; have := (zB.all i).2; have := bis__3.1; have := bis__3.2; have := bnf.1; have := bnf.2; have : ((-1) : Int32).toInt = (-1) := (by decide); have : (0 : Int32).toInt = 0 := (by decide); omega⟩, trivial⟩, by rw [ht]; exact h.1, h.2.1, (hfF_1.w (by decide))⟩, h.2.2.F ht⟩) h.2.2.2.2 dX14_chapter_28
  · have c_2 := z_ne c_2
    have bis__4 : zB 1 1 is_ := zB.neLo c_2 bis_ (zBc 0 0 (by decide)) (by decide)
    refine lv_iload_n hx hb dX14_chapter_12 rfl (lv_at hl 1 rfl) ?_
    refine lv_if_lt (tgt := 27) hx hb dX14_chapter_13 (by decide) (fun c_5 => ?_) (fun c_5 => ?_)
    · have c_5 := z_lt c_5
      have bi_6 : zB (-2147483648) (-1) i := zB.ltL c_5 (zB.all i) (zBc 0 0 (by decide)) (by decide)
      refine lv_iconst (v := (-1)) hx hb dX14_chapter_27 (by decide) ?_
      subst hQ
      exact W.iret (v := (-1)) hx hb hr (fun t ht hW => ⟨⟨(-1), F_1, rfl, ⟨⟨fun h9 => by exfalso; have := bi_6.1; have := bi_6.2; have := bis__4.1; have := bis__4.2; have := bnf.1; have := bnf.2; have : ((-1) : Int32).toInt = (-1) := (by decide); have : (0 : Int32).toInt = 0 := (by decide); omega, fun _ => by have := bi_6.1; have := bi_6.2; have := bis__4.1; have := bis__4.2; have := bnf.1; have := bnf.2; have : ((-1) : Int32).toInt = (-1) := (by decide); have : (0 : Int32).toInt = 0 := (by decide); omega⟩, trivial⟩, by rw [ht]; exact h.1, h.2.1, (hfF_1.w (by decide))⟩, h.2.2.F ht⟩) h.2.2.2.2 dX14_chapter_28
    · have c_5 := z_nlt c_5
      have bi_7 : zB 0 2147483647 i := zB.leR c_5 (zBc 0 0 (by decide)) (zB.all i) (by decide)
      refine lv_iload_n hx hb dX14_chapter_16 rfl (lv_at hl 1 rfl) ?_
      refine lv_aload_n hx hb dX14_chapter_17 rfl (lv_at hl 0 rfl) ?_
      refine zt_getk (t := 14) (C := RX14) (T := TX14) (N := 40) Z h hth zin_14 rfl 4 (hfF_1.f hth 4 ⟨by decide, by decide⟩ kpr) ⟨by decide, rfl, by decide⟩ (zm_RX14 (List.mem_of_getElem? (i := 119) rfl)) (fun _ h9 => h9) dX14_chapter_18 ?_
      refine zt_getkN (t := 11) (C := RX11) (T := TX11) (N := 30) Z h hpr zin_11 rfl 0 (hfF_1.f hpr 0 ⟨by decide, by decide⟩ knf) ⟨by decide, rfl, by decide⟩ (zn_2 Z) (fun _ h9 => h9) dX14_chapter_21 ?_
      refine lv_icmp_lt (tgt := 29) hx hb dX14_chapter_24 (by decide) (fun c_8 => ?_) (fun c_8 => ?_)
      · have c_8 := z_lt c_8
        have bi_9 : zB 0 9 i := zB.ltL c_8 bi_7 bnf (by decide)
        have bnf_10 : zB 1 10 nf := zB.ltR c_8 bi_7 bnf (by decide)
        refine lv_aload_n hx hb dX14_chapter_29 rfl (lv_at hl 0 rfl) ?_
        have ar_11 : zar F_1 pr 9 = (zar F pr 9) := (((z_SA h9.2.1 hpr).ar hfF_1 9 (by decide)).trans rfl)
        refine zk_Vv (As := []) (rest := []) (bytes := cX14_orders) (maxL := 6) (ret := none) Z h (zc_X14_orders l D k Γ L F_1 H.size th pr nf lb hth (hfF_1.f hth 4 ⟨by decide, by decide⟩ kpr) hpr (hfF_1.f hpr 0 ⟨by decide, by decide⟩ knf) (bnf_10.w ⟨by decide, by decide⟩) (hfF_1.f hth 31 ⟨by decide, by decide⟩ klb) hlb (by rw [ar_11]; exact hr0 (by have := bi_9.1; have := bi_9.2; have := bis__4.1; have := bis__4.2; have := bnf_10.1; have := bnf_10.2; have : (0 : Int32).toInt = 0 := (by decide); omega))) (cwV 0 hg zv_RX14_425 rfl rfl rfl zd_X14_orders ⟨z_leR hRf (by decide), z_leR hRl (by decide)⟩) hth (by decide) rfl rfl hl.1 rfl (Nat.le_of_ble_eq_true rfl) dX14_chapter_30 ⟨Nat.zero_le _, Nat.zero_le _⟩ (fun F_12 H locs w_13 h hfF_12 => ?_)
        obtain ⟨q_14, -⟩ := w_13
        refine lv_iconst (v := 0) hx hb dX14_chapter_33 (by decide) ?_
        refine lv_istore_n (lv' := [(2, .int 0), (0, .ref th), (1, .int i)]) hx hb dX14_chapter_34 rfl hl (by decide) rfl (fun ls hl => ?_)
        refine lv_iconst (v := (-1)) hx hb dX14_chapter_35 (by decide) ?_
        refine lv_istore_n (lv' := [(3, .int (-1)), (2, .int 0), (0, .ref th), (1, .int i)]) hx hb dX14_chapter_36 rfl hl (by decide) rfl (fun ls hl => ?_)
        refine lv_iconst (v := 0) hx hb dX14_chapter_37 (by decide) ?_
        refine lv_istore (lv' := [(4, .int 0), (3, .int (-1)), (2, .int 0), (0, .ref th), (1, .int i)]) hx hb dX14_chapter_38 hl (by decide) rfl (fun ls hl => ?_)
        have j_j40_15 : ∀ (n : Nat) (ls : Array Slot) (y4_j40_15 : Int32) (y3_j40_15 : Int32) (y2_j40_15 : Int32) (H : Heap) (locs : List Loc), lv_has ls 5 [(4, .int y4_j40_15), (3, .int y3_j40_15), (2, .int y2_j40_15), (0, .ref th), (1, .int i)] → zB 0 10 y4_j40_15 → zB (-1) 9 y3_j40_15 → zB 0 1023 y2_j40_15 → zH D k Γ L s F_12 H locs → (y4_j40_15.toInt ≤ i.toInt + 1) → (((zpop (Int32.toNatClampNeg y2_j40_15) : Nat) : Int) = y4_j40_15.toInt) → (y2_j40_15.toInt ≤ (zaLf nf).toInt) → (zCs (zar F_1 pr 9) (zel F_12 lb) nf y4_j40_15.toInt.toNat y2_j40_15) → ((y4_j40_15.toInt ≠ 0 → zCh (zar F_1 pr 9) (zel F_12 lb) nf (y4_j40_15.toInt - 1).toNat y3_j40_15)) → (2147483647 - y4_j40_15.toInt).toNat = n → W p l e R s m args below meth c H locs 0 0 Q (F0 m 40 ls []) := by
          intro n
          induction n using Nat.strongRecOn with
          | _ n ih_j40_15 =>
            intro ls y4_j40_15 y3_j40_15 y2_j40_15 H locs hl by4_j40_15 by3_j40_15 by2_j40_15 h r0_j40_15 r1_j40_15 r2_j40_15 r3_j40_15 r4_j40_15 hn_j40_15
            refine lv_iload hx hb dX14_chapter_40 (lv_at hl 0 rfl) ?_
            refine lv_iload_n hx hb dX14_chapter_42 rfl (lv_at hl 4 rfl) ?_
            refine lv_icmp_gt (tgt := 101) hx hb dX14_chapter_43 (by decide) (fun c_16 => ?_) (fun c_16 => ?_)
            · have c_16 := z_lt c_16
              have by4_j40_15_17 : zB 1 10 y4_j40_15 := zB.ltR c_16 bi_9 by4_j40_15 (by decide)
              refine lv_iload_n hx hb dX14_chapter_101 rfl (lv_at hl 1 rfl) ?_
              subst hQ
              exact W.iret (v := y3_j40_15) hx hb hr (fun t ht hW => ⟨⟨y3_j40_15, F_12, rfl, ⟨⟨fun _ => ⟨zel F_12 lb, by rw [← ar_11]; exact q_14, by rw [← ar_11, show i.toInt.toNat = (y4_j40_15.toInt - 1).toNat by have := by4_j40_15_17.1; have := by4_j40_15_17.2; have := by3_j40_15.1; have := by3_j40_15.2; have := by2_j40_15.1; have := by2_j40_15.2; have := bi_9.1; have := bi_9.2; have := bis__4.1; have := bis__4.2; have := bnf_10.1; have := bnf_10.2; have : (0 : Int32).toInt = 0 := (by decide); omega]; exact r4_j40_15 (by have := by4_j40_15_17.1; have := by4_j40_15_17.2; have := by3_j40_15.1; have := by3_j40_15.2; have := by2_j40_15.1; have := by2_j40_15.2; have := bi_9.1; have := bi_9.2; have := bis__4.1; have := bis__4.2; have := bnf_10.1; have := bnf_10.2; have : (0 : Int32).toInt = 0 := (by decide); omega)⟩, fun h9 => by exfalso; have := by4_j40_15_17.1; have := by4_j40_15_17.2; have := by3_j40_15.1; have := by3_j40_15.2; have := by2_j40_15.1; have := by2_j40_15.2; have := bi_9.1; have := bi_9.2; have := bis__4.1; have := bis__4.2; have := bnf_10.1; have := bnf_10.2; have : (0 : Int32).toInt = 0 := (by decide); omega⟩, trivial⟩, by rw [ht]; exact h.1, h.2.1, ((hfF_1.w (by decide)).trans hfF_12 (by decide))⟩, h.2.2.F ht⟩) h.2.2.2.2 dX14_chapter_102
            · have c_16 := z_nlt c_16
              have by4_j40_15_18 : zB 0 9 y4_j40_15 := zB.leL c_16 by4_j40_15 bi_9 (by decide)
              refine lv_iconst (v := 0) hx hb dX14_chapter_46 (by decide) ?_
              refine lv_istore_n (lv' := [(3, .int 0), (4, .int y4_j40_15), (2, .int y2_j40_15), (0, .ref th), (1, .int i)]) hx hb dX14_chapter_47 rfl hl (by decide) rfl (fun ls hl => ?_)
              have j_j48_19 : ∀ (n : Nat) (ls : Array Slot) (y3_j48_19 : Int32) (H : Heap) (locs : List Loc), lv_has ls 5 [(3, .int y3_j48_19), (4, .int y4_j40_15), (2, .int y2_j40_15), (0, .ref th), (1, .int i)] → zB 0 9 y3_j48_19 → zH D k Γ L s F_12 H locs → (∃ g : Int32, y3_j48_19.toInt ≤ g.toInt ∧ g.toInt < nf.toInt ∧ ¬ zbit y2_j40_15 g ∧ zco (zar F_1 pr 9) (zel F_12 lb) y2_j40_15 g = zel F_12 lb (Int32.toNatClampNeg y2_j40_15)) → (∀ g : Int32, 0 ≤ g.toInt → g.toInt < y3_j48_19.toInt → ¬ zbit y2_j40_15 g → zco (zar F_1 pr 9) (zel F_12 lb) y2_j40_15 g ≠ zel F_12 lb (Int32.toNatClampNeg y2_j40_15)) → (2147483647 - y3_j48_19.toInt).toNat = n → W p l e R s m args below meth c H locs 0 0 Q (F0 m 48 ls []) := by
                intro n
                induction n using Nat.strongRecOn with
                | _ n ih_j48_19 =>
                  intro ls y3_j48_19 H locs hl by3_j48_19 h r0_j48_19 r1_j48_19 hn_j48_19
                  obtain ⟨g9, hg1, hg2, hg3, hg4⟩ := r0_j48_19
                  refine lv_iload_n hx hb dX14_chapter_48 rfl (lv_at hl 2 rfl) ?_
                  refine lv_iload_n hx hb dX14_chapter_49 rfl (lv_at hl 0 rfl) ?_
                  refine lv_ishr hx hb dX14_chapter_50 ?_
                  refine zi_any (fun x_20 bx_20 ex_20 => ?_)
                  refine lv_iconst (v := 1) hx hb dX14_chapter_51 (by decide) ?_
                  refine lv_iand hx hb dX14_chapter_52 ?_
                  refine zi_and ((zBc 1 1 (by decide)).w ⟨by decide, by decide⟩ : zB 0 1 _) (fun x_21 bx_21 ex_21 => ?_)
                  refine lv_iconst (v := 1) hx hb dX14_chapter_53 (by decide) ?_
                  refine lv_icmp_eq (tgt := 83) hx hb dX14_chapter_54 (by decide) (fun c_22 => ?_) (fun c_22 => ?_)
                  · have c_22 := z_eq c_22
                    have bx_21_23 : zB 1 1 x_21 := zB.eqL (a := 0) (b := 0) c_22 (zBc 1 1 (by decide))
                    have q_24 : zbit y2_j40_15 y3_j48_19 := by unfold zbit; rw [← ex_20, ← ex_21]; exact Int32.toInt_inj.mp (by have := by3_j48_19.1; have := by3_j48_19.2; have := by4_j40_15_18.1; have := by4_j40_15_18.2; have := by2_j40_15.1; have := by2_j40_15.2; have := bi_9.1; have := bi_9.2; have := bx_21_23.1; have := bx_21_23.2; have := bis__4.1; have := bis__4.2; have := bnf_10.1; have := bnf_10.2; have : (0 : Int32).toInt = 0 := (by decide); have : (1 : Int32).toInt = 1 := (by decide); have : (1 : Int32).toInt = 1 := (by decide); omega)
                    have hne : y3_j48_19.toInt ≠ g9.toInt := fun h9 => hg3 (by rw [← Int32.toInt_inj.mp h9]; exact q_24)
                    obtain ⟨x_25, ex_25, bx_25, tx_25⟩ := z_inc (n := 1) (lo := 1) (hi := 10) by3_j48_19 (by decide)
                    refine lv_iinc (v := x_25) (lv' := [(3, .int x_25), (4, .int y4_j40_15), (2, .int y2_j40_15), (0, .ref th), (1, .int i)]) hx hb dX14_chapter_83 hl (k := 0) rfl ex_25 (by decide) rfl (fun ls hl => ?_)
                    refine lv_goto (tgt := 48) hx hb dX14_chapter_86 (by decide) ?_
                    exact ih_j48_19 _ (by have := bx_25.1; have := bx_25.2; have := by4_j40_15_18.1; have := by4_j40_15_18.2; have := by2_j40_15.1; have := by2_j40_15.2; have := bi_9.1; have := bi_9.2; have := bis__4.1; have := bis__4.2; have := bnf_10.1; have := bnf_10.2; have : (0 : Int32).toInt = 0 := (by decide); have : (1 : Int32).toInt = 1 := (by decide); have := by3_j48_19.1; have := by3_j48_19.2; omega) ls x_25 H locs (lv_sub hl [0, 1, 2, 3, 4] rfl) (zB.of ⟨by have := bx_25.1; have := bx_25.2; have := by4_j40_15_18.1; have := by4_j40_15_18.2; have := by2_j40_15.1; have := by2_j40_15.2; have := bi_9.1; have := bi_9.2; have := bis__4.1; have := bis__4.2; have := bnf_10.1; have := bnf_10.2; have : (0 : Int32).toInt = 0 := (by decide); have : (1 : Int32).toInt = 1 := (by decide); omega, by have := bx_25.1; have := bx_25.2; have := by4_j40_15_18.1; have := by4_j40_15_18.2; have := by2_j40_15.1; have := by2_j40_15.2; have := bi_9.1; have := bi_9.2; have := bis__4.1; have := bis__4.2; have := bnf_10.1; have := bnf_10.2; have : (0 : Int32).toInt = 0 := (by decide); have : (1 : Int32).toInt = 1 := (by decide); omega⟩) h ⟨g9, by have := bx_25.1; have := bx_25.2; have := by4_j40_15_18.1; have := by4_j40_15_18.2; have := by2_j40_15.1; have := by2_j40_15.2; have := bi_9.1; have := bi_9.2; have := bis__4.1; have := bis__4.2; have := bnf_10.1; have := bnf_10.2; have : (0 : Int32).toInt = 0 := (by decide); have : (1 : Int32).toInt = 1 := (by decide); omega, hg2, hg3, hg4⟩ (fun g h1 h2 h3 => if h5 : g.toInt = y3_j48_19.toInt then absurd (by rw [Int32.toInt_inj.mp h5]; exact q_24) h3 else r1_j48_19 g h1 (by have := bx_25.1; have := bx_25.2; have := by4_j40_15_18.1; have := by4_j40_15_18.2; have := by2_j40_15.1; have := by2_j40_15.2; have := bi_9.1; have := bi_9.2; have := by3_j48_19.1; have := by3_j48_19.2; have := bis__4.1; have := bis__4.2; have := bnf_10.1; have := bnf_10.2; have : (0 : Int32).toInt = 0 := (by decide); have : (1 : Int32).toInt = 1 := (by decide); omega) h3) rfl
                  · have c_22 := z_ne c_22
                    have bx_21_26 : zB 0 0 x_21 := zB.neHi c_22 bx_21 (zBc 1 1 (by decide)) (by decide)
                    have q_27 : ¬ zbit y2_j40_15 y3_j48_19 := by unfold zbit; rw [← ex_20, ← ex_21]; intro h9; exact absurd (congrArg Int32.toInt h9) (by have := by3_j48_19.1; have := by3_j48_19.2; have := by4_j40_15_18.1; have := by4_j40_15_18.2; have := by2_j40_15.1; have := by2_j40_15.2; have := bi_9.1; have := bi_9.2; have := bx_21_26.1; have := bx_21_26.2; have := bis__4.1; have := bis__4.2; have := bnf_10.1; have := bnf_10.2; have : (0 : Int32).toInt = 0 := (by decide); have : (1 : Int32).toInt = 1 := (by decide); have : (1 : Int32).toInt = 1 := (by decide); omega)
                    refine lv_aload_n hx hb dX14_chapter_57 rfl (lv_at hl 3 rfl) ?_
                    refine lv_iload_n hx hb dX14_chapter_58 rfl (lv_at hl 0 rfl) ?_
                    refine lv_iload_n hx hb dX14_chapter_59 rfl (lv_at hl 2 rfl) ?_
                    refine zk_Vi (As := [.int y3_j48_19, .int y2_j40_15]) (rest := []) (bytes := cX14_costs) (maxL := 3) (ret := (some .int)) Z h (zc_X14_costs l D k Γ L F_12 H.size th y3_j48_19 y2_j40_15 pr hth by3_j48_19 (hfF_12.f hth 4 ⟨by decide, by decide⟩ (hfF_1.f hth 4 ⟨by decide, by decide⟩ kpr)) hpr) (cwV 2 hg zv_RX14_422 rfl rfl rfl zd_X14_costs ⟨z_leR hRf (by decide), z_leR hRl (by decide)⟩) hth (by decide) rfl rfl hl.1 rfl (Nat.le_of_ble_eq_true rfl) dX14_chapter_60 ⟨Nat.zero_le _, Nat.zero_le _⟩ (fun r_28 F_29 H locs w_30 h hfF_29 => ?_)
                    obtain ⟨rfl, q_31, -⟩ := w_30
                    have br_28 := zB.all r_28
                    refine lv_aload_n hx hb dX14_chapter_63 rfl (lv_at hl 3 rfl) ?_
                    refine zt_getk (t := 14) (C := RX14) (T := TX14) (N := 40) Z h hth zin_14 rfl 31 (hfF_12.f hth 31 ⟨by decide, by decide⟩ (hfF_1.f hth 31 ⟨by decide, by decide⟩ klb)) ⟨by decide, rfl, by decide⟩ (zm_RX14 (List.mem_of_getElem? (i := 202) rfl)) (fun _ h9 => h9) dX14_chapter_64 ?_
                    refine lv_iload_n hx hb dX14_chapter_67 rfl (lv_at hl 2 rfl) ?_
                    refine lv_iconst (v := 1) hx hb dX14_chapter_68 (by decide) ?_
                    refine lv_iload_n hx hb dX14_chapter_69 rfl (lv_at hl 0 rfl) ?_
                    refine lv_ishl hx hb dX14_chapter_70 ?_
                    refine zi_any (fun x_32 bx_32 ex_32 => ?_)
                    refine lv_ior hx hb dX14_chapter_71 ?_
                    refine zi_any (fun x_33 bx_33 ex_33 => ?_)
                    have hon : x_33 = zon y2_j40_15 y3_j48_19 := by rw [ex_33, ex_32]; rfl
                    have bon : zB 0 1023 x_33 := by rw [hon]; exact (zon_b by2_j40_15 by3_j48_19).1
                    refine zt_ialde (t := 153) Z h hlb ⟨by decide, rfl⟩ bon ⟨by decide, by decide⟩ dX14_chapter_72 (fun x_34 ex_34 bx_34 => ?_)
                    refine lv_iadd hx hb dX14_chapter_73 ?_
                    refine zi_any (fun x_35 bx_35 ex_35 => ?_)
                    have sa_37 := (z_SA h9.2.1 hpr).fr hfF_1 (by decide)
                    have q_36 : zco (zar F_1 pr 9) (zel F_12 lb) y2_j40_15 y3_j48_19 = x_35 := by unfold zco; rw [← hon, ex_34, ex_35, q_31, (sa_37.ar hfF_12 9 (by decide))]
                    refine lv_aload_n hx hb dX14_chapter_74 rfl (lv_at hl 3 rfl) ?_
                    refine zt_getk (t := 14) (C := RX14) (T := TX14) (N := 40) Z h hth zin_14 rfl 31 (hfF_12.f hth 31 ⟨by decide, by decide⟩ (hfF_1.f hth 31 ⟨by decide, by decide⟩ klb)) ⟨by decide, rfl, by decide⟩ (zm_RX14 (List.mem_of_getElem? (i := 202) rfl)) (fun _ h9 => h9) dX14_chapter_75 ?_
                    refine lv_iload_n hx hb dX14_chapter_78 rfl (lv_at hl 2 rfl) ?_
                    refine zt_ialde (t := 153) Z h hlb ⟨by decide, rfl⟩ by2_j40_15 ⟨by decide, by decide⟩ dX14_chapter_79 (fun x_38 ex_38 bx_38 => ?_)
                    refine lv_icmp_eq (tgt := 89) hx hb dX14_chapter_80 (by decide) (fun c_39 => ?_) (fun c_39 => ?_)
                    · have c_39 := z_eq c_39
                      have fst_40 : zFst (zar F_1 pr 9) (zel F_12 lb) nf y2_j40_15 y3_j48_19 := zFst.of (q_14.2 y2_j40_15 (by have := by3_j48_19.1; have := by3_j48_19.2; have := by4_j40_15_18.1; have := by4_j40_15_18.2; have := by2_j40_15.1; have := by2_j40_15.2; have := bi_9.1; have := bi_9.2; have := bnf_10.1; have := bnf_10.2; have := bx_35.1; have := bx_35.2; have := bx_38.1; have := bx_38.2; have := bis__4.1; have := bis__4.2; have : (0 : Int32).toInt = 0 := (by decide); have : (1 : Int32).toInt = 1 := (by decide); have : (-1 : Int32).toInt = -1 := (by decide); omega) (by have := by3_j48_19.1; have := by3_j48_19.2; have := by4_j40_15_18.1; have := by4_j40_15_18.2; have := by2_j40_15.1; have := by2_j40_15.2; have := bi_9.1; have := bi_9.2; have := bnf_10.1; have := bnf_10.2; have := bx_35.1; have := bx_35.2; have := bx_38.1; have := bx_38.2; have := bis__4.1; have := bis__4.2; have : (0 : Int32).toInt = 0 := (by decide); have : (1 : Int32).toInt = 1 := (by decide); omega) (zaLf_lt by2_j40_15 (bnf_10.w ⟨by decide, by decide⟩) r2_j40_15 (by have := r1_j40_15; have := by3_j48_19.1; have := by3_j48_19.2; have := by4_j40_15_18.1; have := by4_j40_15_18.2; have := by2_j40_15.1; have := by2_j40_15.2; have := bi_9.1; have := bi_9.2; have := bnf_10.1; have := bnf_10.2; have := bx_35.1; have := bx_35.2; have := bx_38.1; have := bx_38.2; have := bis__4.1; have := bis__4.2; have : (0 : Int32).toInt = 0 := (by decide); have : (1 : Int32).toInt = 1 := (by decide); omega))) ⟨by have := by3_j48_19.1; have := by3_j48_19.2; have := by4_j40_15_18.1; have := by4_j40_15_18.2; have := by2_j40_15.1; have := by2_j40_15.2; have := bi_9.1; have := bi_9.2; have := bnf_10.1; have := bnf_10.2; have := bx_35.1; have := bx_35.2; have := bx_38.1; have := bx_38.2; have := bis__4.1; have := bis__4.2; have : (0 : Int32).toInt = 0 := (by decide); have : (1 : Int32).toInt = 1 := (by decide); omega, by have := by3_j48_19.1; have := by3_j48_19.2; have := by4_j40_15_18.1; have := by4_j40_15_18.2; have := by2_j40_15.1; have := by2_j40_15.2; have := bi_9.1; have := bi_9.2; have := bnf_10.1; have := bnf_10.2; have := bx_35.1; have := bx_35.2; have := bx_38.1; have := bx_38.2; have := bis__4.1; have := bis__4.2; have : (0 : Int32).toInt = 0 := (by decide); have : (1 : Int32).toInt = 1 := (by decide); omega⟩ q_27 (q_36.trans (Eq.trans (Int32.toInt_inj.mp (by have := by3_j48_19.1; have := by3_j48_19.2; have := by4_j40_15_18.1; have := by4_j40_15_18.2; have := by2_j40_15.1; have := by2_j40_15.2; have := bi_9.1; have := bi_9.2; have := bnf_10.1; have := bnf_10.2; have := bx_35.1; have := bx_35.2; have := bx_38.1; have := bx_38.2; have := bis__4.1; have := bis__4.2; have : (0 : Int32).toInt = 0 := (by decide); have : (1 : Int32).toInt = 1 := (by decide); omega)) (Eq.symm ex_38))) r1_j48_19
                      refine lv_iload_n hx hb dX14_chapter_89 rfl (lv_at hl 2 rfl) ?_
                      refine lv_iconst (v := 1) hx hb dX14_chapter_90 (by decide) ?_
                      refine lv_iload_n hx hb dX14_chapter_91 rfl (lv_at hl 0 rfl) ?_
                      refine lv_ishl hx hb dX14_chapter_92 ?_
                      refine zi_any (fun x_41 bx_41 ex_41 => ?_)
                      refine lv_ior hx hb dX14_chapter_93 ?_
                      refine zi_any (fun x_42 bx_42 ex_42 => ?_)
                      have hon2 : x_42 = zon y2_j40_15 y3_j48_19 := by rw [ex_42, ex_41]; rfl
                      have bon2 : zB 0 1023 x_42 := by rw [hon2]; exact (zon_b by2_j40_15 by3_j48_19).1
                      have hpc2 := (zon_u by2_j40_15 by3_j48_19 q_27).2
                      rw [← hon2] at hpc2
                      have hle2 := zon_l by2_j40_15 by3_j48_19 (bnf_10.w ⟨by decide, by decide⟩) (by have := by3_j48_19.1; have := by3_j48_19.2; have := by4_j40_15_18.1; have := by4_j40_15_18.2; have := by2_j40_15.1; have := by2_j40_15.2; have := bi_9.1; have := bi_9.2; have := bon2.1; have := bon2.2; have := bnf_10.1; have := bnf_10.2; have := bis__4.1; have := bis__4.2; have : (0 : Int32).toInt = 0 := (by decide); have : (1 : Int32).toInt = 1 := (by decide); omega) r2_j40_15
                      rw [← hon2] at hle2
                      refine lv_istore_n (lv' := [(2, .int x_42), (3, .int y3_j48_19), (4, .int y4_j40_15), (0, .ref th), (1, .int i)]) hx hb dX14_chapter_94 rfl hl (by decide) rfl (fun ls hl => ?_)
                      obtain ⟨x_43, ex_43, bx_43, tx_43⟩ := z_inc (n := 1) (lo := 1) (hi := 10) by4_j40_15_18 (by decide)
                      refine lv_iinc (v := x_43) (lv' := [(4, .int x_43), (2, .int x_42), (3, .int y3_j48_19), (0, .ref th), (1, .int i)]) hx hb dX14_chapter_95 hl (k := 2) rfl ex_43 (by decide) rfl (fun ls hl => ?_)
                      refine lv_goto (tgt := 40) hx hb dX14_chapter_98 (by decide) ?_
                      exact ih_j40_15 _ (by have := bx_43.1; have := bx_43.2; have := bon2.1; have := bon2.2; have := by3_j48_19.1; have := by3_j48_19.2; have := bi_9.1; have := bi_9.2; have := bis__4.1; have := bis__4.2; have := bnf_10.1; have := bnf_10.2; have : (0 : Int32).toInt = 0 := (by decide); have : (1 : Int32).toInt = 1 := (by decide); have := by4_j40_15.1; have := by4_j40_15.2; have := by3_j40_15.1; have := by3_j40_15.2; have := by2_j40_15.1; have := by2_j40_15.2; omega) ls x_43 y3_j48_19 x_42 H locs (lv_sub hl [0, 2, 1, 3, 4] rfl) (bx_43.w ⟨by decide, by decide⟩) (by3_j48_19.w ⟨by decide, by decide⟩) bon2 h (by have := bx_43.1; have := bx_43.2; have := bon2.1; have := bon2.2; have := by3_j48_19.1; have := by3_j48_19.2; have := bi_9.1; have := bi_9.2; have := bis__4.1; have := bis__4.2; have := bnf_10.1; have := bnf_10.2; have : (0 : Int32).toInt = 0 := (by decide); have : (1 : Int32).toInt = 1 := (by decide); omega) (by have := r1_j40_15; have := bx_43.1; have := bx_43.2; have := bon2.1; have := bon2.2; have := by3_j48_19.1; have := by3_j48_19.2; have := bi_9.1; have := bi_9.2; have := bis__4.1; have := bis__4.2; have := bnf_10.1; have := bnf_10.2; have : (0 : Int32).toInt = 0 := (by decide); have : (1 : Int32).toInt = 1 := (by decide); omega) hle2 (by rw [show x_43.toInt.toNat = y4_j40_15.toInt.toNat + 1 by have := bx_43.1; have := bx_43.2; have := bon2.1; have := bon2.2; have := by3_j48_19.1; have := by3_j48_19.2; have := bi_9.1; have := bi_9.2; have := by4_j40_15_18.1; have := by4_j40_15_18.2; have := bis__4.1; have := bis__4.2; have := bnf_10.1; have := bnf_10.2; have : (0 : Int32).toInt = 0 := (by decide); have : (1 : Int32).toInt = 1 := (by decide); omega]; exact ⟨_, _, r3_j40_15, fst_40, hon2⟩) (fun _ => by rw [show (x_43.toInt - 1).toNat = y4_j40_15.toInt.toNat by have := bx_43.1; have := bx_43.2; have := bon2.1; have := bon2.2; have := by3_j48_19.1; have := by3_j48_19.2; have := bi_9.1; have := bi_9.2; have := by4_j40_15_18.1; have := by4_j40_15_18.2; have := bis__4.1; have := bis__4.2; have := bnf_10.1; have := bnf_10.2; have : (0 : Int32).toInt = 0 := (by decide); have : (1 : Int32).toInt = 1 := (by decide); omega]; exact ⟨_, r3_j40_15, fst_40⟩) rfl
                    · have c_39 := z_ne c_39
                      have hne : y3_j48_19.toInt ≠ g9.toInt := fun h9 => absurd (congrArg Int32.toInt ((show x_35 = zco (zar F_1 pr 9) (zel F_12 lb) y2_j40_15 g9 by rw [← Int32.toInt_inj.mp h9]; exact (q_36).symm).trans (hg4.trans ex_38))) (by have := by3_j48_19.1; have := by3_j48_19.2; have := by4_j40_15_18.1; have := by4_j40_15_18.2; have := by2_j40_15.1; have := by2_j40_15.2; have := bi_9.1; have := bi_9.2; have := bx_35.1; have := bx_35.2; have := bx_38.1; have := bx_38.2; have := bis__4.1; have := bis__4.2; have := bnf_10.1; have := bnf_10.2; have : (0 : Int32).toInt = 0 := (by decide); have : (1 : Int32).toInt = 1 := (by decide); omega)
                      obtain ⟨x_44, ex_44, bx_44, tx_44⟩ := z_inc (n := 1) (lo := 1) (hi := 10) by3_j48_19 (by decide)
                      refine lv_iinc (v := x_44) (lv' := [(3, .int x_44), (4, .int y4_j40_15), (2, .int y2_j40_15), (0, .ref th), (1, .int i)]) hx hb dX14_chapter_83 hl (k := 0) rfl ex_44 (by decide) rfl (fun ls hl => ?_)
                      refine lv_goto (tgt := 48) hx hb dX14_chapter_86 (by decide) ?_
                      exact ih_j48_19 _ (by have := bx_44.1; have := bx_44.2; have := by4_j40_15_18.1; have := by4_j40_15_18.2; have := by2_j40_15.1; have := by2_j40_15.2; have := bi_9.1; have := bi_9.2; have := bis__4.1; have := bis__4.2; have := bnf_10.1; have := bnf_10.2; have : (0 : Int32).toInt = 0 := (by decide); have : (1 : Int32).toInt = 1 := (by decide); have := by3_j48_19.1; have := by3_j48_19.2; omega) ls x_44 H locs (lv_sub hl [0, 1, 2, 3, 4] rfl) (zB.of ⟨by have := bx_44.1; have := bx_44.2; have := by4_j40_15_18.1; have := by4_j40_15_18.2; have := by2_j40_15.1; have := by2_j40_15.2; have := bi_9.1; have := bi_9.2; have := bis__4.1; have := bis__4.2; have := bnf_10.1; have := bnf_10.2; have : (0 : Int32).toInt = 0 := (by decide); have : (1 : Int32).toInt = 1 := (by decide); omega, by have := bx_44.1; have := bx_44.2; have := by4_j40_15_18.1; have := by4_j40_15_18.2; have := by2_j40_15.1; have := by2_j40_15.2; have := bi_9.1; have := bi_9.2; have := bis__4.1; have := bis__4.2; have := bnf_10.1; have := bnf_10.2; have : (0 : Int32).toInt = 0 := (by decide); have : (1 : Int32).toInt = 1 := (by decide); omega⟩) h ⟨g9, by have := bx_44.1; have := bx_44.2; have := by4_j40_15_18.1; have := by4_j40_15_18.2; have := by2_j40_15.1; have := by2_j40_15.2; have := bi_9.1; have := bi_9.2; have := bis__4.1; have := bis__4.2; have := bnf_10.1; have := bnf_10.2; have : (0 : Int32).toInt = 0 := (by decide); have : (1 : Int32).toInt = 1 := (by decide); omega, hg2, hg3, hg4⟩ (fun g h1 h2 h3 => if h5 : g.toInt = y3_j48_19.toInt then (by rw [Int32.toInt_inj.mp h5, q_36, ex_38]; intro h8; exact absurd (congrArg Int32.toInt h8) (by have := bx_44.1; have := bx_44.2; have := by4_j40_15_18.1; have := by4_j40_15_18.2; have := by2_j40_15.1; have := by2_j40_15.2; have := bi_9.1; have := bi_9.2; have := bx_35.1; have := bx_35.2; have := bx_38.1; have := bx_38.2; have := bis__4.1; have := bis__4.2; have := bnf_10.1; have := bnf_10.2; have : (0 : Int32).toInt = 0 := (by decide); have : (1 : Int32).toInt = 1 := (by decide); omega)) else r1_j48_19 g h1 (by have := bx_44.1; have := bx_44.2; have := by4_j40_15_18.1; have := by4_j40_15_18.2; have := by2_j40_15.1; have := by2_j40_15.2; have := bi_9.1; have := bi_9.2; have := by3_j48_19.1; have := by3_j48_19.2; have := bis__4.1; have := bis__4.2; have := bnf_10.1; have := bnf_10.2; have : (0 : Int32).toInt = 0 := (by decide); have : (1 : Int32).toInt = 1 := (by decide); omega) h3) rfl
              exact j_j48_19 _ ls 0 H locs (lv_sub hl [0, 1, 2, 3, 4] rfl) (zB.of ⟨by decide, by decide⟩) h (by obtain ⟨f9, h1, h2, h3, h4⟩ := (q_14.2 y2_j40_15 (by have := by4_j40_15_18.1; have := by4_j40_15_18.2; have := by2_j40_15.1; have := by2_j40_15.2; have := bi_9.1; have := bi_9.2; have := bnf_10.1; have := bnf_10.2; have := bis__4.1; have := bis__4.2; have : (0 : Int32).toInt = 0 := (by decide); have : (-1 : Int32).toInt = -1 := (by decide); omega) (by have := by4_j40_15_18.1; have := by4_j40_15_18.2; have := by2_j40_15.1; have := by2_j40_15.2; have := bi_9.1; have := bi_9.2; have := bnf_10.1; have := bnf_10.2; have := bis__4.1; have := bis__4.2; have : (0 : Int32).toInt = 0 := (by decide); omega) (zaLf_lt by2_j40_15 (bnf_10.w ⟨by decide, by decide⟩) r2_j40_15 (by have := r1_j40_15; have := by4_j40_15_18.1; have := by4_j40_15_18.2; have := by2_j40_15.1; have := by2_j40_15.2; have := bi_9.1; have := bi_9.2; have := bnf_10.1; have := bnf_10.2; have := bis__4.1; have := bis__4.2; have : (0 : Int32).toInt = 0 := (by decide); omega))).1; exact ⟨f9, (by have : (0 : Int32).toInt = 0 := (by decide); omega), h2, h3, h4⟩) (fun g h1 h2 _ => by exfalso; have : (0 : Int32).toInt = 0 := (by decide); omega) rfl
        exact j_j40_15 _ ls 0 (-1) 0 H locs (lv_sub hl [0, 1, 2, 3, 4] rfl) (zB.of ⟨by decide, by decide⟩) (zB.of ⟨by decide, by decide⟩) (zB.of ⟨by decide, by decide⟩) h (by have := bi_9.1; have := bi_9.2; have := bis__4.1; have := bis__4.2; have := bnf_10.1; have := bnf_10.2; have : ((-1) : Int32).toInt = (-1) := (by decide); have : (0 : Int32).toInt = 0 := (by decide); omega) (by decide) (by have := (zaLf_b (bnf_10.w ⟨by decide, by decide⟩)).1; have : (0 : Int32).toInt = 0 := (by decide); omega) (by rw [show (0 : Int32).toInt.toNat = 0 by decide]; rfl) (fun h9 => absurd (show (0 : Int32).toInt = 0 by decide) h9) rfl
      · have c_8 := z_nlt c_8
        refine lv_iconst (v := (-1)) hx hb dX14_chapter_27 (by decide) ?_
        subst hQ
        exact W.iret (v := (-1)) hx hb hr (fun t ht hW => ⟨⟨(-1), F_1, rfl, ⟨⟨fun h9 => by exfalso; have := bi_7.1; have := bi_7.2; have := bis__4.1; have := bis__4.2; have := bnf.1; have := bnf.2; have : ((-1) : Int32).toInt = (-1) := (by decide); have : (0 : Int32).toInt = 0 := (by decide); omega, fun _ => by have := bi_7.1; have := bi_7.2; have := bis__4.1; have := bis__4.2; have := bnf.1; have := bnf.2; have : ((-1) : Int32).toInt = (-1) := (by decide); have : (0 : Int32).toInt = 0 := (by decide); omega⟩, trivial⟩, by rw [ht]; exact h.1, h.2.1, (hfF_1.w (by decide))⟩, h.2.2.F ht⟩) h.2.2.2.2 dX14_chapter_28
