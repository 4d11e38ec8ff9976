set_option maxHeartbeats 4000000 in
set_option maxRecDepth 100000 in
theorem ze_X6_functionNamed2 (l : Launch) (D : va_G) (k : Nat → ClassId) (Γ : Nat → Option Nat) (L : List Nat) (F : Nat → va_E) (sz : Nat) (pr : Nat) (ot : Nat) (tq : Int32) (tk : Nat) (Bt : Nat → Int32) (nt : Nat) (Nt : Nat) (Bo : Nat → Int32) (no_ : Nat) (No : Nat) (fc : Int32) (fa : Nat → Nat) (nw : Nat → Int) (hpr : Γ pr = some 6) (hot : Γ ot = some 8) (ktk : zfld F pr 0 = .ref tk) (htk : Γ tk = some 8) (p_tb : zTb Γ F tk Bt nt Nt) (p_tbo : zTb Γ F ot Bo no_ No) (kfc : zfld F pr 4 = .int fc) (bfc : zB 0 10 fc) (hr0 : zPS Γ F pr fa) (hr1 : zNa F fa Bt nt Nt fc.toInt nw) (hr2 : 0 ≤ tq.toInt ∧ tq.toInt < No ∧ (zTo Bo no_).1 tq.toInt.toNat = 4) : Met l yX6_functionNamed zwX6_functionNamed ({ frames := 3, cells := 0, slots := 0, locals := 67 }) (va_Pc [.ref pr, .ref ot, .int tq] (zP D k Γ L F sz)) (va_Qi (fun (r : Int32) (u : Nat → va_E) => F = u ∧ zB (-1) 9 r ∧ ((r.toInt = -1 ∧ ∀ f : Nat, (f : Int) < fc.toInt → nw f ≠ (zTo Bo no_).2.2 tq.toInt.toNat) ∨ (0 ≤ r.toInt ∧ r.toInt < fc.toInt ∧ nw r.toInt.toNat = (zTo Bo no_).2.2 tq.toInt.toNat ∧ ∀ f : Nat, (f : Int) < r.toInt → nw f ≠ (zTo Bo no_).2.2 tq.toInt.toNat)) ∧ True) (zQ D k Γ L F []) (zA L sz)) 0 0 (zA L sz) := by
  refine Met.ofW (cc := cX6_functionNamed) (maxL := 4) (ret := (some .int)) (by decide) rfl ?_
  intro p e s m args below meth c s₁ B hml hv
  obtain ⟨rfl, hsz, hP, hK, hLn, hE, hI⟩ := hv
  have hx := B.exec
  have hb := B.bytes
  have hr := B.returns
  have hg : ∀ w ∈ zG, w.before _ s = true := fun w h9 => atoms_spec (ws := zwX6_functionNamed) B.pre w (List.mem_cons_of_mem _ h9)
  have hown : s.vm.findClass RX6 = some m.cls := findClass_of_methodNamed B.named
  have hlocks := B.notSynchronized
  subst hsz
  have Z : zC p m c cX6_functionNamed 4 s _ zG RX6 D k L := ⟨⟨hx, hb, hml, hown, hg⟩, hK, hLn, hE⟩
  have h : zH D k Γ L s F s.heap [] := ⟨hP, hI, va_S.rf⟩
  have hl := lv_entry ([.ref pr, .ref ot, .int tq]) (n := 4) (Nat.le_of_ble_eq_true rfl)
  rw [lg_entry_eq]
  generalize (lg_sl ([.ref pr, .ref ot, .int tq]) ++ List.replicate (4 - (lg_sl ([.ref pr, .ref ot, .int tq])).length) Slot.unset).toArray = ls at hl ⊢
  have hl : lv_has ls 4 [(0, .ref pr), (1, .ref ot), (2, .int tq)] := hl
  clear hP hK hLn hE hI
  generalize hargs : ([.ref pr, .ref ot, .int tq] : List Value).toArray = args at *
  refine z_start (fun R Q hRf hRl hQ => ?_)
  have hRf : R.frames = 3 := hRf
  have hRl : R.locals = 67 := hRl
  have h9 := h
  refine lv_iconst (v := 0) hx hb dX6_functionNamed_0 (by decide) ?_
  refine lv_istore_n (lv' := [(3, .int 0), (0, .ref pr), (1, .ref ot), (2, .int tq)]) hx hb dX6_functionNamed_1 rfl hl (by decide) rfl (fun ls hl => ?_)
  have j_j2_1 : ∀ (n : Nat) (ls : Array Slot) (y3_j2_1 : Int32) (H : Heap) (locs : List Loc), lv_has ls 4 [(3, .int y3_j2_1), (0, .ref pr), (1, .ref ot), (2, .int tq)] → zB 0 10 y3_j2_1 → zH D k Γ L s F H locs → (y3_j2_1.toInt ≤ fc.toInt) → (∀ f : Nat, (f : Int) < y3_j2_1.toInt → nw f ≠ (zTo Bo no_).2.2 tq.toInt.toNat) → (2147483647 - y3_j2_1.toInt).toNat = n → W p l e R s m args below meth c H locs 0 0 Q (F0 m 2 ls []) := by
    intro n
    induction n using Nat.strongRecOn with
    | _ n ih_j2_1 =>
      intro ls y3_j2_1 H locs hl by3_j2_1 h r0_j2_1 r1_j2_1 hn_j2_1
      refine lv_iload_n hx hb dX6_functionNamed_2 rfl (lv_at hl 0 rfl) ?_
      refine lv_aload_n hx hb dX6_functionNamed_3 rfl (lv_at hl 1 rfl) ?_
      refine zt_getk (t := 6) (C := RX6) (T := TX6) (N := 6) Z h hpr zin_6 rfl 4 kfc ⟨by decide, rfl, by decide⟩ (zm_RX6 (List.mem_of_getElem? (i := 6) rfl)) (fun _ h9 => h9) dX6_functionNamed_4 ?_
      refine lv_icmp_ge (tgt := 48) hx hb dX6_functionNamed_7 (by decide) (fun c_2 => ?_) (fun c_2 => ?_)
      · have c_2 := z_le c_2
        refine lv_iconst (v := (-1)) hx hb dX6_functionNamed_48 (by decide) ?_
        subst hQ
        exact W.iret (v := (-1)) hx hb hr (fun t ht hW => ⟨⟨(-1), F, rfl, ⟨rfl, (zB.of ⟨by decide, by decide⟩), (Or.inl ⟨by decide, fun f h9 => r1_j2_1 f (by have := by3_j2_1.1; have := by3_j2_1.2; have := (zB.all tq).1; have := (zB.all tq).2; have := bfc.1; have := bfc.2; have : ((-1) : Int32).toInt = (-1) := (by decide); omega)⟩), trivial⟩, by rw [ht]; exact h.1, h.2.1, zFr.rf⟩, h.2.2.F ht⟩) h.2.2.2.2 dX6_functionNamed_49
      · have c_2 := z_nle c_2
        have by3_j2_1_3 : zB 0 9 y3_j2_1 := zB.ltL c_2 by3_j2_1 bfc (by decide)
        have bfc_4 : zB 1 10 fc := zB.ltR c_2 by3_j2_1 bfc (by decide)
        refine lv_iload_n hx hb dX6_functionNamed_10 rfl (lv_at hl 0 rfl) ?_
        refine lv_aload_n hx hb dX6_functionNamed_11 rfl (lv_at hl 1 rfl) ?_
        refine zt_getr (t := 6) (C := RX6) (T := TX6) (N := 6) Z h hpr zin_6 rfl 2 rfl ⟨by decide, rfl⟩ (zm_RX6 (List.mem_of_getElem? (i := 11) rfl)) (fun _ h9 => h9) dX6_functionNamed_12 (fun a_5 ka_5 ha_5 => ?_)
        refine zt_alen (t := 104) Z h ha_5 ⟨by decide, rfl⟩ (by decide) (v := 10) rfl dX6_functionNamed_15 ?_
        refine lv_icmp_ge (tgt := 48) hx hb dX6_functionNamed_16 (by decide) (fun c_6 => ?_) (fun c_6 => ?_)
        · have c_6 := z_le c_6
          exact zB.noLe c_6 (zBc 10 10 (by decide)) by3_j2_1_3 (by decide)
        · have c_6 := z_nle c_6
          refine lv_aload_n hx hb dX6_functionNamed_19 rfl (lv_at hl 1 rfl) ?_
          refine zt_getk (t := 6) (C := RX6) (T := TX6) (N := 6) Z h hpr zin_6 rfl 0 ktk ⟨by decide, rfl, by decide⟩ (zm_RX6 (List.mem_of_getElem? (i := 20) rfl)) (fun _ h9 => h9) dX6_functionNamed_20 ?_
          refine lv_aload_n hx hb dX6_functionNamed_23 rfl (lv_at hl 1 rfl) ?_
          refine zt_getk (t := 6) (C := RX6) (T := TX6) (N := 6) Z h hpr zin_6 rfl 2 ka_5 ⟨by decide, rfl, by decide⟩ (zm_RX6 (List.mem_of_getElem? (i := 11) rfl)) (fun _ h9 => h9) dX6_functionNamed_24 ?_
          refine lv_iload_n hx hb dX6_functionNamed_27 rfl (lv_at hl 0 rfl) ?_
          refine zt_aalde (t := 104) (t1 := 2) Z h ha_5 ⟨by decide, rfl⟩ (by decide) by3_j2_1_3 ⟨by decide, by decide⟩ dX6_functionNamed_28 (fun a_7 ea_7 ha_7 => ?_)
          have hb_ := zPS.at hr0 ka_5 ea_7 ⟨by have := by3_j2_1_3.1; have := by3_j2_1_3.2; have := (zB.all tq).1; have := (zB.all tq).2; have := bfc_4.1; have := bfc_4.2; have : (10 : Int32).toInt = 10 := (by decide); omega, by have := by3_j2_1_3.1; have := by3_j2_1_3.2; have := (zB.all tq).1; have := (zB.all tq).2; have := bfc_4.1; have := bfc_4.2; have : (10 : Int32).toInt = 10 := (by decide); omega⟩
          obtain ⟨y_, ky_, hy_, hK_, hW_⟩ := hr1 y3_j2_1.toInt.toNat (by have := by3_j2_1_3.1; have := by3_j2_1_3.2; have := (zB.all tq).1; have := (zB.all tq).2; have := bfc_4.1; have := bfc_4.2; have : (10 : Int32).toInt = 10 := (by decide); omega)
          rw [← hb_] at ky_
          have by_ := zB.all y_
          refine zt_getk (t := 2) (C := RX2) (T := TX2) (N := 9) Z h ha_7 zin_2 rfl 0 ky_ ⟨by decide, rfl, by decide⟩ (zm_RX6 (List.mem_of_getElem? (i := 21) rfl)) (fun _ h9 => h9) dX6_functionNamed_29 ?_
          refine lv_aload_n hx hb dX6_functionNamed_32 rfl (lv_at hl 2 rfl) ?_
          refine lv_iload_n hx hb dX6_functionNamed_33 rfl (lv_at hl 3 rfl) ?_
          refine zk_Vi (As := [.int y_, .ref ot, .int tq]) (rest := []) (bytes := cX8_isLike) (maxL := 5) (ret := (some .boolean)) Z h (ze_X8_isLike l D k Γ L F H.size tk y_ ot tq Bt nt Nt Bo no_ No htk hot p_tb p_tbo ⟨hy_.1, hy_.2, hK_⟩ hr2) (cwV 3 hg zv_RX6_64 rfl rfl rfl zd_X8_isLike ⟨z_leR hRf (by decide), z_leR hRl (by decide)⟩) htk (by decide) rfl rfl hl.1 rfl (Nat.le_of_ble_eq_true rfl) dX6_functionNamed_34 ⟨Nat.zero_le _, Nat.zero_le _⟩ (fun r_8 F_9 H locs w_10 h hfF_9 => ?_)
          obtain ⟨rfl, br_8, q_11, -⟩ := w_10
          refine lv_if_eq (tgt := 42) hx hb dX6_functionNamed_37 (by decide) (fun c_12 => ?_) (fun c_12 => ?_)
          · have c_12 := z_eq c_12
            have br_8_13 : zB 0 0 r_8 := zB.eqL (a := 0) (b := 0) c_12 (zBc 0 0 (by decide))
            obtain ⟨x_14, ex_14, bx_14, tx_14⟩ := z_inc (n := 1) (lo := 1) (hi := 10) by3_j2_1_3 (by decide)
            refine lv_iinc (v := x_14) (lv' := [(3, .int x_14), (0, .ref pr), (1, .ref ot), (2, .int tq)]) hx hb dX6_functionNamed_42 hl (k := 0) rfl ex_14 (by decide) rfl (fun ls hl => ?_)
            refine lv_goto (tgt := 2) hx hb dX6_functionNamed_45 (by decide) ?_
            exact ih_j2_1 _ (by have := bx_14.1; have := bx_14.2; have := (zB.all tq).1; have := (zB.all tq).2; have := bfc_4.1; have := bfc_4.2; have := by_.1; have := by_.2; have : (0 : Int32).toInt = 0 := (by decide); have : (10 : Int32).toInt = 10 := (by decide); have := by3_j2_1.1; have := by3_j2_1.2; omega) ls x_14 H locs (lv_sub hl [0, 1, 2, 3] rfl) (bx_14.w ⟨by decide, by decide⟩) h (by have := bx_14.1; have := bx_14.2; have := (zB.all tq).1; have := (zB.all tq).2; have := bfc_4.1; have := bfc_4.2; have := by_.1; have := by_.2; have : (0 : Int32).toInt = 0 := (by decide); have : (10 : Int32).toInt = 10 := (by decide); omega) (fun f h9 => if h6 : (f : Int) < y3_j2_1.toInt then r1_j2_1 f h6 else (by rw [show f = y3_j2_1.toInt.toNat by have := bx_14.1; have := bx_14.2; have := (zB.all tq).1; have := (zB.all tq).2; have := by3_j2_1_3.1; have := by3_j2_1_3.2; have := bfc_4.1; have := bfc_4.2; have := by_.1; have := by_.2; have : (0 : Int32).toInt = 0 := (by decide); have : (10 : Int32).toInt = 10 := (by decide); omega]; rcases q_11 with ⟨g1, g2⟩ | ⟨g1, g2⟩; exfalso; have := bx_14.1; have := bx_14.2; have := (zB.all tq).1; have := (zB.all tq).2; have := br_8_13.1; have := br_8_13.2; have := bfc_4.1; have := bfc_4.2; have := by_.1; have := by_.2; have : (0 : Int32).toInt = 0 := (by decide); have : (10 : Int32).toInt = 10 := (by decide); omega; exact fun h8 => g2 (hW_.trans h8))) rfl
          · have c_12 := z_ne c_12
            have br_8_15 : zB 1 1 r_8 := zB.neLo c_12 br_8 (zBc 0 0 (by decide)) (by decide)
            refine lv_iload_n hx hb dX6_functionNamed_40 rfl (lv_at hl 0 rfl) ?_
            subst hQ
            exact W.iret (v := y3_j2_1) hx hb hr (fun t ht hW => ⟨⟨y3_j2_1, F, rfl, ⟨rfl, (by3_j2_1_3.w ⟨by decide, by decide⟩), (Or.inr ⟨by have := by3_j2_1_3.1; have := by3_j2_1_3.2; have := (zB.all tq).1; have := (zB.all tq).2; have := bfc_4.1; have := bfc_4.2; have := by_.1; have := by_.2; have : (0 : Int32).toInt = 0 := (by decide); have : (10 : Int32).toInt = 10 := (by decide); omega, by have := by3_j2_1_3.1; have := by3_j2_1_3.2; have := (zB.all tq).1; have := (zB.all tq).2; have := bfc_4.1; have := bfc_4.2; have := by_.1; have := by_.2; have : (0 : Int32).toInt = 0 := (by decide); have : (10 : Int32).toInt = 10 := (by decide); omega, by rcases q_11 with ⟨g1, g2⟩ | ⟨g1, g2⟩; exact hW_.symm.trans g2; exfalso; have := by3_j2_1_3.1; have := by3_j2_1_3.2; have := (zB.all tq).1; have := (zB.all tq).2; have := br_8_15.1; have := br_8_15.2; have := bfc_4.1; have := bfc_4.2; have := by_.1; have := by_.2; have : (0 : Int32).toInt = 0 := (by decide); have : (10 : Int32).toInt = 10 := (by decide); omega, r1_j2_1⟩), trivial⟩, by rw [ht]; exact h.1, h.2.1, zFr.rf⟩, h.2.2.F ht⟩) h.2.2.2.2 dX6_functionNamed_41
  exact j_j2_1 _ ls 0 s.heap [] (lv_sub hl [0, 1, 2, 3] rfl) (zB.of ⟨by decide, by decide⟩) h (by have := (zB.all tq).1; have := (zB.all tq).2; have := bfc.1; have := bfc.2; have : (0 : Int32).toInt = 0 := (by decide); omega) (fun f h9 => by exfalso; have : (0 : Int32).toInt = 0 := (by decide); omega) rfl

set_option maxHeartbeats 4000000 in
set_option maxRecDepth 100000 in
theorem ze_X3_countGone (l : Launch) (D : va_G) (k : Nat → ClassId) (Γ : Nat → Option Nat) (L : List Nat) (F : Nat → va_E) (sz : Nat) (be : Nat) (no : Nat) (fc : Int32) (fb : Int32) (tk : Nat) (Bt : Nat → Int32) (nt : Nat) (Nt : Nat) (fa : Nat → Nat) (nw : Nat → Int) (ot : Nat) (Bo : Nat → Int32) (no_ : Nat) (No : Nat) (fo : Nat → Nat) (nb : Nat → Int) (hbe : Γ be = some 6) (hno : Γ no = some 6) (kfc : zfld F no 4 = .int fc) (bfc : zB 0 10 fc) (kfb : zfld F be 4 = .int fb) (bfb : zB 0 10 fb) (hr0 : zNp Γ F no tk fa Bt nt Nt fc.toInt nw) (hr1 : zPS Γ F be fo ∧ (0 < fb.toInt → zNp Γ F be ot fo Bo no_ No fb.toInt nb)) : Met l yX3_countGone zwX3_countGone ({ frames := 4, cells := 0, slots := 0, locals := 90 }) (va_Pc [.ref be, .ref no] (zP D k Γ L F sz)) (va_Qi (fun (r : Int32) (u : Nat → va_E) => F = u ∧ r.toInt = zgn fc.toInt nw nb fb.toInt.toNat ∧ True) (zQ D k Γ L F []) (zA L sz)) 0 0 (zA L sz) := by
  refine Met.ofW (cc := cX3_countGone) (maxL := 4) (ret := (some .int)) (by decide) rfl ?_
  intro p e s m args below meth c s₁ B hml hv
  obtain ⟨rfl, hsz, hP, hK, hLn, hE, hI⟩ := hv
  have hx := B.exec
  have hb := B.bytes
  have hr := B.returns
  have hg : ∀ w ∈ zG, w.before _ s = true := fun w h9 => atoms_spec (ws := zwX3_countGone) B.pre w (List.mem_cons_of_mem _ h9)
  have hown : s.vm.findClass RX3 = some m.cls := findClass_of_methodNamed B.named
  have hlocks := B.notSynchronized
  subst hsz
  have Z : zC p m c cX3_countGone 4 s _ zG RX3 D k L := ⟨⟨hx, hb, hml, hown, hg⟩, hK, hLn, hE⟩
  have h : zH D k Γ L s F s.heap [] := ⟨hP, hI, va_S.rf⟩
  have hl := lv_entry ([.ref be, .ref no]) (n := 4) (Nat.le_of_ble_eq_true rfl)
  rw [lg_entry_eq]
  generalize (lg_sl ([.ref be, .ref no]) ++ List.replicate (4 - (lg_sl ([.ref be, .ref no])).length) Slot.unset).toArray = ls at hl ⊢
  have hl : lv_has ls 4 [(0, .ref be), (1, .ref no)] := hl
  clear hP hK hLn hE hI
  generalize hargs : ([.ref be, .ref no] : List Value).toArray = args at *
  refine z_start (fun R Q hRf hRl hQ => ?_)
  have hRf : R.frames = 4 := hRf
  have hRl : R.locals = 90 := hRl
  have h9 := h
  obtain ⟨ktk_, htk, p_tb, hps_, hna_⟩ := hr0
  refine lv_iconst (v := 0) hx hb dX3_countGone_0 (by decide) ?_
  refine lv_istore_n (lv' := [(2, .int 0), (0, .ref be), (1, .ref no)]) hx hb dX3_countGone_1 rfl hl (by decide) rfl (fun ls hl => ?_)
  refine lv_iconst (v := 0) hx hb dX3_countGone_2 (by decide) ?_
  refine lv_istore_n (lv' := [(3, .int 0), (2, .int 0), (0, .ref be), (1, .ref no)]) hx hb dX3_countGone_3 rfl hl (by decide) rfl (fun ls hl => ?_)
  have j_j4_1 : ∀ (n : Nat) (ls : Array Slot) (y3_j4_1 : Int32) (y2_j4_1 : Int32) (H : Heap) (locs : List Loc), lv_has ls 4 [(3, .int y3_j4_1), (2, .int y2_j4_1), (0, .ref be), (1, .ref no)] → zB 0 10 y3_j4_1 → zB 0 10 y2_j4_1 → zH D k Γ L s F H locs → (y3_j4_1.toInt ≤ fb.toInt) → (y2_j4_1.toInt ≤ y3_j4_1.toInt) → (y2_j4_1.toInt = zgn fc.toInt nw nb y3_j4_1.toInt.toNat) → (2147483647 - y3_j4_1.toInt).toNat = n → W p l e R s m args below meth c H locs 0 0 Q (F0 m 4 ls []) := by
    intro n
    induction n using Nat.strongRecOn with
    | _ n ih_j4_1 =>
      intro ls y3_j4_1 y2_j4_1 H locs hl by3_j4_1 by2_j4_1 h r0_j4_1 r1_j4_1 r2_j4_1 hn_j4_1
      refine lv_iload_n hx hb dX3_countGone_4 rfl (lv_at hl 0 rfl) ?_
      refine lv_aload_n hx hb dX3_countGone_5 rfl (lv_at hl 2 rfl) ?_
      refine zt_getk (t := 6) (C := RX6) (T := TX6) (N := 6) Z h hbe zin_6 rfl 4 kfb ⟨by decide, rfl, by decide⟩ (zm_RX3 (List.mem_of_getElem? (i := 4) rfl)) (fun _ h9 => h9) dX3_countGone_6 ?_
      refine lv_icmp_ge (tgt := 51) hx hb dX3_countGone_9 (by decide) (fun c_2 => ?_) (fun c_2 => ?_)
      · have c_2 := z_le c_2
        refine lv_iload_n hx hb dX3_countGone_51 rfl (lv_at hl 1 rfl) ?_
        subst hQ
        exact W.iret (v := y2_j4_1) hx hb hr (fun t ht hW => ⟨⟨y2_j4_1, F, rfl, ⟨rfl, (by rw [show fb.toInt.toNat = y3_j4_1.toInt.toNat by have := by3_j4_1.1; have := by3_j4_1.2; have := by2_j4_1.1; have := by2_j4_1.2; have := bfc.1; have := bfc.2; have := bfb.1; have := bfb.2; omega]; exact r2_j4_1), trivial⟩, by rw [ht]; exact h.1, h.2.1, zFr.rf⟩, h.2.2.F ht⟩) h.2.2.2.2 dX3_countGone_52
      · have c_2 := z_nle c_2
        have by3_j4_1_3 : zB 0 9 y3_j4_1 := zB.ltL c_2 by3_j4_1 bfb (by decide)
        have bfb_4 : zB 1 10 fb := zB.ltR c_2 by3_j4_1 bfb (by decide)
        refine lv_iload_n hx hb dX3_countGone_12 rfl (lv_at hl 0 rfl) ?_
        refine lv_aload_n hx hb dX3_countGone_13 rfl (lv_at hl 2 rfl) ?_
        refine zt_getr (t := 6) (C := RX6) (T := TX6) (N := 6) Z h hbe zin_6 rfl 2 rfl ⟨by decide, rfl⟩ (zm_RX3 (List.mem_of_getElem? (i := 16) rfl)) (fun _ h9 => h9) dX3_countGone_14 (fun a_5 ka_5 ha_5 => ?_)
        refine zt_alen (t := 104) Z h ha_5 ⟨by decide, rfl⟩ (by decide) (v := 10) rfl dX3_countGone_17 ?_
        refine lv_icmp_ge (tgt := 51) hx hb dX3_countGone_18 (by decide) (fun c_6 => ?_) (fun c_6 => ?_)
        · have c_6 := z_le c_6
          exact zB.noLe c_6 (zBc 10 10 (by decide)) by3_j4_1_3 (by decide)
        · have c_6 := z_nle c_6
          obtain ⟨kot_, hot, p_tbo, -, hnb_⟩ := hr1.2 (by have := by3_j4_1_3.1; have := by3_j4_1_3.2; have := by2_j4_1.1; have := by2_j4_1.2; have := bfc.1; have := bfc.2; have := bfb_4.1; have := bfb_4.2; have : (10 : Int32).toInt = 10 := (by decide); omega)
          refine lv_aload_n hx hb dX3_countGone_21 rfl (lv_at hl 3 rfl) ?_
          refine lv_aload_n hx hb dX3_countGone_22 rfl (lv_at hl 2 rfl) ?_
          refine zt_getk (t := 6) (C := RX6) (T := TX6) (N := 6) Z h hbe zin_6 rfl 0 kot_ ⟨by decide, rfl, by decide⟩ (zm_RX3 (List.mem_of_getElem? (i := 17) rfl)) (fun _ h9 => h9) dX3_countGone_23 ?_
          refine lv_aload_n hx hb dX3_countGone_26 rfl (lv_at hl 2 rfl) ?_
          refine zt_getk (t := 6) (C := RX6) (T := TX6) (N := 6) Z h hbe zin_6 rfl 2 ka_5 ⟨by decide, rfl, by decide⟩ (zm_RX3 (List.mem_of_getElem? (i := 16) rfl)) (fun _ h9 => h9) dX3_countGone_27 ?_
          refine lv_iload_n hx hb dX3_countGone_30 rfl (lv_at hl 0 rfl) ?_
          refine zt_aalde (t := 104) (t1 := 2) Z h ha_5 ⟨by decide, rfl⟩ (by decide) by3_j4_1_3 ⟨by decide, by decide⟩ dX3_countGone_31 (fun a_7 ea_7 ha_7 => ?_)
          have hb_ := zPS.at hr1.1 ka_5 ea_7 ⟨by have := by3_j4_1_3.1; have := by3_j4_1_3.2; have := by2_j4_1.1; have := by2_j4_1.2; have := bfc.1; have := bfc.2; have := bfb_4.1; have := bfb_4.2; have : (10 : Int32).toInt = 10 := (by decide); omega, by have := by3_j4_1_3.1; have := by3_j4_1_3.2; have := by2_j4_1.1; have := by2_j4_1.2; have := bfc.1; have := bfc.2; have := bfb_4.1; have := bfb_4.2; have : (10 : Int32).toInt = 10 := (by decide); omega⟩
          obtain ⟨y_, ky_, hy_, hK_, hW_⟩ := hnb_ y3_j4_1.toInt.toNat (by have := by3_j4_1_3.1; have := by3_j4_1_3.2; have := by2_j4_1.1; have := by2_j4_1.2; have := bfc.1; have := bfc.2; have := bfb_4.1; have := bfb_4.2; have : (10 : Int32).toInt = 10 := (by decide); omega)
          rw [← hb_] at ky_
          have by_ := zB.all y_
          refine zt_getk (t := 2) (C := RX2) (T := TX2) (N := 9) Z h ha_7 zin_2 rfl 0 ky_ ⟨by decide, rfl, by decide⟩ (zm_RX3 (List.mem_of_getElem? (i := 18) rfl)) (fun _ h9 => h9) dX3_countGone_32 ?_
          refine zk_Vi (As := [.ref ot, .int y_]) (rest := []) (bytes := cX6_functionNamed) (maxL := 4) (ret := (some .int)) Z h (ze_X6_functionNamed2 l D k Γ L F H.size no ot y_ tk Bt nt Nt Bo no_ No fc fa nw hno hot ktk_ htk p_tb p_tbo kfc bfc hps_ hna_ ⟨hy_.1, hy_.2, hK_⟩) (cwV 2 hg zv_RX3_56 rfl rfl rfl zd_X6_functionNamed ⟨z_leR hRf (by decide), z_leR hRl (by decide)⟩) hno (by decide) rfl rfl hl.1 rfl (Nat.le_of_ble_eq_true rfl) dX3_countGone_35 ⟨Nat.zero_le _, Nat.zero_le _⟩ (fun r_8 F_9 H locs w_10 h hfF_9 => ?_)
          obtain ⟨rfl, br_8, q_11, -⟩ := w_10
          refine lv_iconst (v := (-1)) hx hb dX3_countGone_38 (by decide) ?_
          refine lv_icmp_ne (tgt := 45) hx hb dX3_countGone_39 (by decide) (fun c_12 => ?_) (fun c_12 => ?_)
          · have c_12 := z_ne c_12
            have br_8_13 : zB 0 9 r_8 := zB.neLo c_12 br_8 (zBc (-1) (-1) (by decide)) (by decide)
            obtain ⟨x_14, ex_14, bx_14, tx_14⟩ := z_inc (n := 1) (lo := 1) (hi := 10) by3_j4_1_3 (by decide)
            refine lv_iinc (v := x_14) (lv' := [(3, .int x_14), (2, .int y2_j4_1), (0, .ref be), (1, .ref no)]) hx hb dX3_countGone_45 hl (k := 0) rfl ex_14 (by decide) rfl (fun ls hl => ?_)
            refine lv_goto (tgt := 4) hx hb dX3_countGone_48 (by decide) ?_
            exact ih_j4_1 _ (by have := bx_14.1; have := bx_14.2; have := by2_j4_1.1; have := by2_j4_1.2; have := bfc.1; have := bfc.2; have := bfb_4.1; have := bfb_4.2; have := by_.1; have := by_.2; have : ((-1) : Int32).toInt = (-1) := (by decide); have : (10 : Int32).toInt = 10 := (by decide); have := by3_j4_1.1; have := by3_j4_1.2; have := by2_j4_1.1; have := by2_j4_1.2; omega) ls x_14 y2_j4_1 H locs (lv_sub hl [0, 1, 2, 3] rfl) (bx_14.w ⟨by decide, by decide⟩) by2_j4_1 h (by have := bx_14.1; have := bx_14.2; have := by2_j4_1.1; have := by2_j4_1.2; have := bfc.1; have := bfc.2; have := bfb_4.1; have := bfb_4.2; have := by_.1; have := by_.2; have : ((-1) : Int32).toInt = (-1) := (by decide); have : (10 : Int32).toInt = 10 := (by decide); omega) (by have := bx_14.1; have := bx_14.2; have := by2_j4_1.1; have := by2_j4_1.2; have := bfc.1; have := bfc.2; have := bfb_4.1; have := bfb_4.2; have := by_.1; have := by_.2; have : ((-1) : Int32).toInt = (-1) := (by decide); have : (10 : Int32).toInt = 10 := (by decide); omega) (by rcases q_11 with ⟨g1, g2⟩ | ⟨g1, g2, g3, g4⟩; (exfalso; have := bx_14.1; have := bx_14.2; have := by2_j4_1.1; have := by2_j4_1.2; have := by3_j4_1_3.1; have := by3_j4_1_3.2; have := br_8_13.1; have := br_8_13.2; have := bfc.1; have := bfc.2; have := bfb_4.1; have := bfb_4.2; have := by_.1; have := by_.2; have : ((-1) : Int32).toInt = (-1) := (by decide); have : (10 : Int32).toInt = 10 := (by decide); omega); (rw [show x_14.toInt.toNat = y3_j4_1.toInt.toNat + 1 by have := bx_14.1; have := bx_14.2; have := by2_j4_1.1; have := by2_j4_1.2; have := by3_j4_1_3.1; have := by3_j4_1_3.2; have := br_8_13.1; have := br_8_13.2; have := bfc.1; have := bfc.2; have := bfb_4.1; have := bfb_4.2; have := by_.1; have := by_.2; have : ((-1) : Int32).toInt = (-1) := (by decide); have : (10 : Int32).toInt = 10 := (by decide); omega, zgn_y ⟨_, by have := bx_14.1; have := bx_14.2; have := by2_j4_1.1; have := by2_j4_1.2; have := by3_j4_1_3.1; have := by3_j4_1_3.2; have := br_8_13.1; have := br_8_13.2; have := bfc.1; have := bfc.2; have := bfb_4.1; have := bfb_4.2; have := by_.1; have := by_.2; have : ((-1) : Int32).toInt = (-1) := (by decide); have : (10 : Int32).toInt = 10 := (by decide); omega, g3.trans hW_⟩]; exact r2_j4_1)) rfl
          · have c_12 := z_eq c_12
            have br_8_15 : zB (-1) (-1) r_8 := zB.eqL (a := 0) (b := 0) c_12 (zBc (-1) (-1) (by decide))
            obtain ⟨x_16, ex_16, bx_16, tx_16⟩ := z_inc (n := 1) (lo := 1) (hi := 11) by2_j4_1 (by decide)
            refine lv_iinc (v := x_16) (lv' := [(2, .int x_16), (3, .int y3_j4_1), (0, .ref be), (1, .ref no)]) hx hb dX3_countGone_42 hl (k := 1) rfl ex_16 (by decide) rfl (fun ls hl => ?_)
            obtain ⟨x_17, ex_17, bx_17, tx_17⟩ := z_inc (n := 1) (lo := 1) (hi := 10) by3_j4_1_3 (by decide)
            refine lv_iinc (v := x_17) (lv' := [(3, .int x_17), (2, .int x_16), (0, .ref be), (1, .ref no)]) hx hb dX3_countGone_45 hl (k := 1) rfl ex_17 (by decide) rfl (fun ls hl => ?_)
            refine lv_goto (tgt := 4) hx hb dX3_countGone_48 (by decide) ?_
            exact ih_j4_1 _ (by have := bx_17.1; have := bx_17.2; have := bx_16.1; have := bx_16.2; have := bfc.1; have := bfc.2; have := bfb_4.1; have := bfb_4.2; have := by_.1; have := by_.2; have : ((-1) : Int32).toInt = (-1) := (by decide); have : (10 : Int32).toInt = 10 := (by decide); have := by3_j4_1.1; have := by3_j4_1.2; have := by2_j4_1.1; have := by2_j4_1.2; omega) ls x_17 x_16 H locs (lv_sub hl [0, 1, 2, 3] rfl) (bx_17.w ⟨by decide, by decide⟩) (zB.of ⟨by have := bx_17.1; have := bx_17.2; have := bx_16.1; have := bx_16.2; have := bfc.1; have := bfc.2; have := bfb_4.1; have := bfb_4.2; have := by_.1; have := by_.2; have : ((-1) : Int32).toInt = (-1) := (by decide); have : (10 : Int32).toInt = 10 := (by decide); omega, by have := bx_17.1; have := bx_17.2; have := bx_16.1; have := bx_16.2; have := bfc.1; have := bfc.2; have := bfb_4.1; have := bfb_4.2; have := by_.1; have := by_.2; have : ((-1) : Int32).toInt = (-1) := (by decide); have : (10 : Int32).toInt = 10 := (by decide); omega⟩) h (by have := bx_17.1; have := bx_17.2; have := bx_16.1; have := bx_16.2; have := bfc.1; have := bfc.2; have := bfb_4.1; have := bfb_4.2; have := by_.1; have := by_.2; have : ((-1) : Int32).toInt = (-1) := (by decide); have : (10 : Int32).toInt = 10 := (by decide); omega) (by have := bx_17.1; have := bx_17.2; have := bx_16.1; have := bx_16.2; have := bfc.1; have := bfc.2; have := bfb_4.1; have := bfb_4.2; have := by_.1; have := by_.2; have : ((-1) : Int32).toInt = (-1) := (by decide); have : (10 : Int32).toInt = 10 := (by decide); omega) (by rcases q_11 with ⟨g1, g2⟩ | ⟨g1, g2, g3, g4⟩; (rw [show x_17.toInt.toNat = y3_j4_1.toInt.toNat + 1 by have := bx_17.1; have := bx_17.2; have := bx_16.1; have := bx_16.2; have := by2_j4_1.1; have := by2_j4_1.2; have := by3_j4_1_3.1; have := by3_j4_1_3.2; have := br_8_15.1; have := br_8_15.2; have := bfc.1; have := bfc.2; have := bfb_4.1; have := bfb_4.2; have := by_.1; have := by_.2; have : ((-1) : Int32).toInt = (-1) := (by decide); have : (10 : Int32).toInt = 10 := (by decide); omega, zgn_n (fun f h9 h8 => g2 f h9 (h8.trans hW_.symm))]; have h7 := r2_j4_1; have := bx_17.1; have := bx_17.2; have := bx_16.1; have := bx_16.2; have := by2_j4_1.1; have := by2_j4_1.2; have := by3_j4_1_3.1; have := by3_j4_1_3.2; have := br_8_15.1; have := br_8_15.2; have := bfc.1; have := bfc.2; have := bfb_4.1; have := bfb_4.2; have := by_.1; have := by_.2; have : ((-1) : Int32).toInt = (-1) := (by decide); have : (10 : Int32).toInt = 10 := (by decide); omega); (exfalso; have := bx_17.1; have := bx_17.2; have := bx_16.1; have := bx_16.2; have := by2_j4_1.1; have := by2_j4_1.2; have := by3_j4_1_3.1; have := by3_j4_1_3.2; have := br_8_15.1; have := br_8_15.2; have := bfc.1; have := bfc.2; have := bfb_4.1; have := bfb_4.2; have := by_.1; have := by_.2; have : ((-1) : Int32).toInt = (-1) := (by decide); have : (10 : Int32).toInt = 10 := (by decide); omega)) rfl
  exact j_j4_1 _ ls 0 0 s.heap [] (lv_sub hl [0, 1, 2, 3] rfl) (zB.of ⟨by decide, by decide⟩) (zB.of ⟨by decide, by decide⟩) h (by have := bfc.1; have := bfc.2; have := bfb.1; have := bfb.2; have : (0 : Int32).toInt = 0 := (by decide); omega) (by have := bfc.1; have := bfc.2; have := bfb.1; have := bfb.2; have : (0 : Int32).toInt = 0 := (by decide); omega) (by rw [show (0 : Int32).toInt.toNat = 0 by decide]; exact (show (0 : Int32).toInt = 0 by decide)) rfl

set_option maxHeartbeats 4000000 in
set_option maxRecDepth 100000 in
theorem ze_X3_compare (l : Launch) (D : va_G) (k : Nat → ClassId) (Γ : Nat → Option Nat) (L : List Nat) (F : Nat → va_E) (sz : Nat) (th : Nat) (be : Nat) (no : Nat) (fc : Int32) (fb : Int32) (tk : Nat) (Bt : Nat → Int32) (nt : Nat) (Nt : Nat) (fa : Nat → Nat) (nw : Nat → Int) (ot : Nat) (Bo : Nat → Int32) (no_ : Nat) (No : Nat) (fo : Nat → Nat) (nb : Nat → Int) (hth : Γ th = some 3) (hbe : Γ be = some 6) (hno : Γ no = some 6) (kfc : zfld F no 4 = .int fc) (bfc : zB 0 10 fc) (kfb : zfld F be 4 = .int fb) (bfb : zB 0 10 fb) (hr0 : zNp Γ F no tk fa Bt nt Nt fc.toInt nw) (hr1 : zPS Γ F be fo ∧ (0 < fb.toInt → zNp Γ F be ot fo Bo no_ No fb.toInt nb)) : Met l yX3_compare zwX3_compare ({ frames := 5, cells := 0, slots := 0, locals := 116 }) (va_Pc [.ref th, .ref be, .ref no] (zP D k Γ L F sz)) (va_Qv (fun (u : Nat → va_E) => (∃ (x9 : Int32), zfld u th 2 = .int x9 ∧ zB (-2147483648) 2147483647 x9 ∧ (x9.toInt = zgn fc.toInt nw nb fb.toInt.toNat)) ∧ True) (zQ D k Γ L F [302, 16200, 16300]) (zA L sz)) 0 0 (zA L sz) := by
  refine Met.ofW (cc := cX3_compare) (maxL := 5) (ret := none) (by decide) rfl ?_
  intro p e s m args below meth c s₁ B hml hv
  obtain ⟨rfl, hsz, hP, hK, hLn, hE, hI⟩ := hv
  have hx := B.exec
  have hb := B.bytes
  have hr := B.returns
  have hg : ∀ w ∈ zG, w.before _ s = true := fun w h9 => atoms_spec (ws := zwX3_compare) B.pre w (List.mem_cons_of_mem _ h9)
  have hown : s.vm.findClass RX3 = some m.cls := findClass_of_methodNamed B.named
  have hlocks := B.notSynchronized
  subst hsz
  have Z : zC p m c cX3_compare 5 s _ zG RX3 D k L := ⟨⟨hx, hb, hml, hown, hg⟩, hK, hLn, hE⟩
  have h : zH D k Γ L s F s.heap [] := ⟨hP, hI, va_S.rf⟩
  have hl := lv_entry ([.ref th, .ref be, .ref no]) (n := 5) (Nat.le_of_ble_eq_true rfl)
  rw [lg_entry_eq]
  generalize (lg_sl ([.ref th, .ref be, .ref no]) ++ List.replicate (5 - (lg_sl ([.ref th, .ref be, .ref no])).length) Slot.unset).toArray = ls at hl ⊢
  have hl : lv_has ls 5 [(0, .ref th), (1, .ref be), (2, .ref no)] := hl
  clear hP hK hLn hE hI
  generalize hargs : ([.ref th, .ref be, .ref no] : List Value).toArray = args at *
  refine z_start (fun R Q hRf hRl hQ => ?_)
  have hRf : R.frames = 5 := hRf
  have hRl : R.locals = 116 := hRl
  have h9 := h
  refine lv_iconst (v := 0) hx hb dX3_compare_0 (by decide) ?_
  refine lv_istore_n (lv' := [(3, .int 0), (0, .ref th), (1, .ref be), (2, .ref no)]) hx hb dX3_compare_1 rfl hl (by decide) rfl (fun ls hl => ?_)
  refine lv_iconst (v := 0) hx hb dX3_compare_2 (by decide) ?_
  refine lv_istore (lv' := [(4, .int 0), (3, .int 0), (0, .ref th), (1, .ref be), (2, .ref no)]) hx hb dX3_compare_3 hl (by decide) rfl (fun ls hl => ?_)
  have j_j5_1 : ∀ (n : Nat) (ls : Array Slot) (y4_j5_1 : Int32) (y3_j5_1 : Int32) (H : Heap) (locs : List Loc), lv_has ls 5 [(4, .int y4_j5_1), (3, .int y3_j5_1), (0, .ref th), (1, .ref be), (2, .ref no)] → zB 0 10 y4_j5_1 → zB (-2147483648) 2147483647 y3_j5_1 → zH D k Γ L s F H locs → (2147483647 - y4_j5_1.toInt).toNat = n → W p l e R s m args below meth c H locs 0 0 Q (F0 m 5 ls []) := by
    intro n
    induction n using Nat.strongRecOn with
    | _ n ih_j5_1 =>
      intro ls y4_j5_1 y3_j5_1 H locs hl by4_j5_1 by3_j5_1 h hn_j5_1
      refine lv_iload hx hb dX3_compare_5 (lv_at hl 0 rfl) ?_
      refine lv_aload_n hx hb dX3_compare_7 rfl (lv_at hl 4 rfl) ?_
      refine zt_getk (t := 6) (C := RX6) (T := TX6) (N := 6) Z h hno zin_6 rfl 4 kfc ⟨by decide, rfl, by decide⟩ (zm_RX3 (List.mem_of_getElem? (i := 4) rfl)) (fun _ h9 => h9) dX3_compare_8 ?_
      refine lv_icmp_ge (tgt := 47) hx hb dX3_compare_11 (by decide) (fun c_2 => ?_) (fun c_2 => ?_)
      · have c_2 := z_le c_2
        refine lv_aload_n hx hb dX3_compare_47 rfl (lv_at hl 2 rfl) ?_
        refine lv_aload_n hx hb dX3_compare_48 rfl (lv_at hl 4 rfl) ?_
        refine zk_Vv (As := [.ref no]) (rest := []) (bytes := cX3_findReaches) (maxL := 5) (ret := none) Z h (zc_X3_findReaches l D k Γ L F H.size th no hth hno) (cwV 1 hg zv_RX3_28 rfl rfl rfl zd_X3_findReaches ⟨z_leR hRf (by decide), z_leR hRl (by decide)⟩) hth (by decide) rfl rfl hl.1 rfl (Nat.le_of_ble_eq_true rfl) dX3_compare_49 ⟨Nat.zero_le _, Nat.zero_le _⟩ (fun F_3 H locs w_4 h hfF_3 => ?_)
        refine lv_iconst (v := 0) hx hb dX3_compare_52 (by decide) ?_
        refine lv_istore (lv' := [(4, .int 0), (3, .int y3_j5_1), (0, .ref th), (1, .ref be), (2, .ref no)]) hx hb dX3_compare_53 hl (by decide) rfl (fun ls hl => ?_)
        have j_j55_5 : ∀ (n : Nat) (ls : Array Slot) (y4_j55_5 : Int32) (F_6 : Nat → va_E) (H : Heap) (locs : List Loc), lv_has ls 5 [(4, .int y4_j55_5), (3, .int y3_j5_1), (0, .ref th), (1, .ref be), (2, .ref no)] → zB 0 10 y4_j55_5 → zH D k Γ L s F_6 H locs → zFr Γ [16200, 16300] F_3 F_6 → (2147483647 - y4_j55_5.toInt).toNat = n → W p l e R s m args below meth c H locs 0 0 Q (F0 m 55 ls []) := by
          intro n
          induction n using Nat.strongRecOn with
          | _ n ih_j55_5 =>
            intro ls y4_j55_5 F_6 H locs hl by4_j55_5 h hfF_6 hn_j55_5
            refine lv_iload hx hb dX3_compare_55 (lv_at hl 0 rfl) ?_
            refine lv_aload_n hx hb dX3_compare_57 rfl (lv_at hl 4 rfl) ?_
            refine zt_getk (t := 6) (C := RX6) (T := TX6) (N := 6) Z h hno zin_6 rfl 4 (hfF_6.f hno 4 ⟨by decide, by decide⟩ (hfF_3.f hno 4 ⟨by decide, by decide⟩ kfc)) ⟨by decide, rfl, by decide⟩ (zm_RX3 (List.mem_of_getElem? (i := 4) rfl)) (fun _ h9 => h9) dX3_compare_58 ?_
            refine lv_icmp_ge (tgt := 124) hx hb dX3_compare_61 (by decide) (fun c_7 => ?_) (fun c_7 => ?_)
            · have c_7 := z_le c_7
              refine lv_aload_n hx hb dX3_compare_124 rfl (lv_at hl 2 rfl) ?_
              refine lv_aload_n hx hb dX3_compare_125 rfl (lv_at hl 3 rfl) ?_
              refine lv_aload_n hx hb dX3_compare_126 rfl (lv_at hl 4 rfl) ?_
              refine zk_Si (As := [.ref be, .ref no]) (rest := [.ref th]) (bytes := cX3_countGone) (maxL := 4) (ret := (some .int)) Z h (ze_X3_countGone l D k Γ L F_6 H.size be no fc fb tk Bt nt Nt fa nw ot Bo no_ No fo nb hbe hno (hfF_6.f hno 4 ⟨by decide, by decide⟩ (hfF_3.f hno 4 ⟨by decide, by decide⟩ kfc)) bfc (hfF_6.f hbe 4 ⟨by decide, by decide⟩ (hfF_3.f hbe 4 ⟨by decide, by decide⟩ kfb)) bfb (hr0.fr (((hfF_3.w (by decide)).trans hfF_6 (by decide)) : zFr Γ [302, 16200, 16300] F F_6) hno (by have := bfc.2; omega) (by unfold zNpM; decide)) ⟨hr1.1.fr (((hfF_3.w (by decide)).trans hfF_6 (by decide)) : zFr Γ [302, 16200, 16300] F F_6) hbe (by decide), fun h9 => (hr1.2 h9).fr (((hfF_3.w (by decide)).trans hfF_6 (by decide)) : zFr Γ [302, 16200, 16300] F F_6) hbe (by have := bfb.2; omega) (by unfold zNpM; decide)⟩) (va_cwS 2 hg zv_RX3_32 rfl rfl rfl zd_X3_countGone ⟨z_leR hRf (by decide), z_leR hRl (by decide)⟩) rfl hl.1 rfl (Nat.le_of_ble_eq_true rfl) dX3_compare_127 ⟨Nat.zero_le _, Nat.zero_le _⟩ (fun r_8 F_9 H locs w_10 h hfF_9 => ?_)
              obtain ⟨rfl, q_11, -⟩ := w_10
              have br_8 := zB.all r_8
              refine zt_put (t := 3) (C := RX3) (T := TX3) (N := 3) (v := .int r_8) Z h hth zin_3 tyX3 tyX3_ok nmX3 rfl 2 rfl ⟨by decide, rfl⟩ (zm_RX3 (List.mem_of_getElem? (i := 13) rfl)) (fun _ h9 => h9) rfl (zV.i br_8) rfl rfl dX3_compare_130 (fun H locs F_12 h hfF_12 kF_12 => ?_)
              subst hQ
              exact W.vret hx hb hr (fun t ht hW => ⟨⟨F_12, rfl, ⟨⟨r_8, kF_12, br_8, (by have := by4_j55_5.1; have := by4_j55_5.2; have := by3_j5_1.1; have := by3_j5_1.2; have := br_8.1; have := br_8.2; have := bfc.1; have := bfc.2; have := bfb.1; have := bfb.2; omega)⟩, trivial⟩, by rw [ht]; exact h.1, h.2.1, (((hfF_3.w (by decide)).trans hfF_6 (by decide)).trans hfF_12 (by decide))⟩, h.2.2.F ht⟩) h.2.2.2.2 dX3_compare_133
            · have c_7 := z_nle c_7
              have by4_j55_5_13 : zB 0 9 y4_j55_5 := zB.ltL c_7 by4_j55_5 bfc (by decide)
              have bfc_14 : zB 1 10 fc := zB.ltR c_7 by4_j55_5 bfc (by decide)
              refine lv_iload hx hb dX3_compare_64 (lv_at hl 0 rfl) ?_
              refine lv_aload_n hx hb dX3_compare_66 rfl (lv_at hl 2 rfl) ?_
              refine zt_getr (t := 3) (C := RX3) (T := TX3) (N := 3) Z h hth zin_3 rfl 0 rfl ⟨by decide, rfl⟩ (zm_RX3 (List.mem_of_getElem? (i := 2) rfl)) (fun _ h9 => h9) dX3_compare_67 (fun a_15 ka_15 ha_15 => ?_)
              refine zt_alen (t := 162) Z h ha_15 ⟨by decide, rfl⟩ (by decide) (v := 10) rfl dX3_compare_70 ?_
              refine lv_icmp_ge (tgt := 124) hx hb dX3_compare_71 (by decide) (fun c_16 => ?_) (fun c_16 => ?_)
              · have c_16 := z_le c_16
                exact zB.noLe c_16 (zBc 10 10 (by decide)) by4_j55_5_13 (by decide)
              · have c_16 := z_nle c_16
                refine lv_iload_n hx hb dX3_compare_74 rfl (lv_at hl 1 rfl) ?_
                refine lv_iload hx hb dX3_compare_75 (lv_at hl 0 rfl) ?_
                refine lv_ishr hx hb dX3_compare_77 ?_
                refine zi_any (fun x_17 bx_17 ex_17 => ?_)
                refine lv_iconst (v := 1) hx hb dX3_compare_78 (by decide) ?_
                refine lv_iand hx hb dX3_compare_79 ?_
                refine zi_and ((zBc 1 1 (by decide)).w ⟨by decide, by decide⟩ : zB 0 1 _) (fun x_18 bx_18 ex_18 => ?_)
                refine lv_if_eq (tgt := 94) hx hb dX3_compare_80 (by decide) (fun c_19 => ?_) (fun c_19 => ?_)
                · have c_19 := z_eq c_19
                  have bx_18_20 : zB 0 0 x_18 := zB.eqL (a := 0) (b := 0) c_19 (zBc 0 0 (by decide))
                  refine lv_aload_n hx hb dX3_compare_94 rfl (lv_at hl 2 rfl) ?_
                  refine zt_getk (t := 3) (C := RX3) (T := TX3) (N := 3) Z h hth zin_3 rfl 0 ka_15 ⟨by decide, rfl, by decide⟩ (zm_RX3 (List.mem_of_getElem? (i := 2) rfl)) (fun _ h9 => h9) dX3_compare_95 ?_
                  refine lv_iload hx hb dX3_compare_98 (lv_at hl 0 rfl) ?_
                  refine lv_aload_n hx hb dX3_compare_100 rfl (lv_at hl 2 rfl) ?_
                  refine zt_getr (t := 3) (C := RX3) (T := TX3) (N := 3) Z h hth zin_3 rfl 1 rfl ⟨by decide, rfl⟩ (zm_RX3 (List.mem_of_getElem? (i := 10) rfl)) (fun _ h9 => h9) dX3_compare_101 (fun a_21 ka_21 ha_21 => ?_)
                  refine lv_iload hx hb dX3_compare_104 (lv_at hl 0 rfl) ?_
                  refine zt_ialde (t := 163) Z h ha_21 ⟨by decide, rfl⟩ by4_j55_5_13 ⟨by decide, by decide⟩ dX3_compare_106 (fun x_22 ex_22 bx_22 => ?_)
                  refine lv_iload_n hx hb dX3_compare_107 rfl (lv_at hl 1 rfl) ?_
                  refine lv_iand hx hb dX3_compare_108 ?_
                  refine zi_any (fun x_23 bx_23 ex_23 => ?_)
                  refine lv_if_eq (tgt := 116) hx hb dX3_compare_109 (by decide) (fun c_24 => ?_) (fun c_24 => ?_)
                  · have c_24 := z_eq c_24
                    have bx_23_25 : zB 0 0 x_23 := zB.eqL (a := 0) (b := 0) c_24 (zBc 0 0 (by decide))
                    refine lv_iconst (v := 0) hx hb dX3_compare_116 (by decide) ?_
                    refine zt_iast (t := 162) Z h ha_15 ⟨by decide, rfl⟩ by4_j55_5_13 ⟨by decide, by decide⟩ (zB.of ⟨by decide, by decide⟩) dX3_compare_117 (fun H locs F_26 h hfF_26 => ?_)
                    obtain ⟨x_27, ex_27, bx_27, tx_27⟩ := z_inc (n := 1) (lo := 1) (hi := 10) by4_j55_5_13 (by decide)
                    refine lv_iinc (v := x_27) (lv' := [(4, .int x_27), (3, .int y3_j5_1), (0, .ref th), (1, .ref be), (2, .ref no)]) hx hb dX3_compare_118 hl (k := 0) rfl ex_27 (by decide) rfl (fun ls hl => ?_)
                    refine lv_goto (tgt := 55) hx hb dX3_compare_121 (by decide) ?_
                    exact ih_j55_5 _ (by have := bx_27.1; have := bx_27.2; have := by3_j5_1.1; have := by3_j5_1.2; have := bfc_14.1; have := bfc_14.2; have := bfb.1; have := bfb.2; have : (0 : Int32).toInt = 0 := (by decide); have : (1 : Int32).toInt = 1 := (by decide); have : (10 : Int32).toInt = 10 := (by decide); have := by4_j55_5.1; have := by4_j55_5.2; omega) ls x_27 F_26 H locs (lv_sub hl [0, 1, 2, 3, 4] rfl) (bx_27.w ⟨by decide, by decide⟩) h (hfF_6.trans hfF_26 (by decide)) rfl
                  · have c_24 := z_ne c_24
                    refine lv_iconst (v := 1) hx hb dX3_compare_112 (by decide) ?_
                    refine lv_goto (tgt := 117) hx hb dX3_compare_113 (by decide) ?_
                    refine zt_iast (t := 162) Z h ha_15 ⟨by decide, rfl⟩ by4_j55_5_13 ⟨by decide, by decide⟩ (zB.of ⟨by decide, by decide⟩) dX3_compare_117 (fun H locs F_28 h hfF_28 => ?_)
                    obtain ⟨x_29, ex_29, bx_29, tx_29⟩ := z_inc (n := 1) (lo := 1) (hi := 10) by4_j55_5_13 (by decide)
                    refine lv_iinc (v := x_29) (lv' := [(4, .int x_29), (3, .int y3_j5_1), (0, .ref th), (1, .ref be), (2, .ref no)]) hx hb dX3_compare_118 hl (k := 0) rfl ex_29 (by decide) rfl (fun ls hl => ?_)
                    refine lv_goto (tgt := 55) hx hb dX3_compare_121 (by decide) ?_
                    exact ih_j55_5 _ (by have := bx_29.1; have := bx_29.2; have := by3_j5_1.1; have := by3_j5_1.2; have := bfc_14.1; have := bfc_14.2; have := bfb.1; have := bfb.2; have : (0 : Int32).toInt = 0 := (by decide); have : (1 : Int32).toInt = 1 := (by decide); have : (10 : Int32).toInt = 10 := (by decide); have := by4_j55_5.1; have := by4_j55_5.2; omega) ls x_29 F_28 H locs (lv_sub hl [0, 1, 2, 3, 4] rfl) (bx_29.w ⟨by decide, by decide⟩) h (hfF_6.trans hfF_28 (by decide)) rfl
                · have c_19 := z_ne c_19
                  have bx_18_30 : zB 1 1 x_18 := zB.neLo c_19 bx_18 (zBc 0 0 (by decide)) (by decide)
                  refine lv_aload_n hx hb dX3_compare_83 rfl (lv_at hl 2 rfl) ?_
                  refine zt_getk (t := 3) (C := RX3) (T := TX3) (N := 3) Z h hth zin_3 rfl 0 ka_15 ⟨by decide, rfl, by decide⟩ (zm_RX3 (List.mem_of_getElem? (i := 2) rfl)) (fun _ h9 => h9) dX3_compare_84 ?_
                  refine lv_iload hx hb dX3_compare_87 (lv_at hl 0 rfl) ?_
                  refine lv_iconst (v := 2) hx hb dX3_compare_89 (by decide) ?_
                  refine zt_iast (t := 162) Z h ha_15 ⟨by decide, rfl⟩ by4_j55_5_13 ⟨by decide, by decide⟩ (zB.of ⟨by decide, by decide⟩) dX3_compare_90 (fun H locs F_31 h hfF_31 => ?_)
                  refine lv_goto (tgt := 118) hx hb dX3_compare_91 (by decide) ?_
                  obtain ⟨x_32, ex_32, bx_32, tx_32⟩ := z_inc (n := 1) (lo := 1) (hi := 10) by4_j55_5_13 (by decide)
                  refine lv_iinc (v := x_32) (lv' := [(4, .int x_32), (3, .int y3_j5_1), (0, .ref th), (1, .ref be), (2, .ref no)]) hx hb dX3_compare_118 hl (k := 0) rfl ex_32 (by decide) rfl (fun ls hl => ?_)
                  refine lv_goto (tgt := 55) hx hb dX3_compare_121 (by decide) ?_
                  exact ih_j55_5 _ (by have := bx_32.1; have := bx_32.2; have := by3_j5_1.1; have := by3_j5_1.2; have := bfc_14.1; have := bfc_14.2; have := bfb.1; have := bfb.2; have : (0 : Int32).toInt = 0 := (by decide); have : (1 : Int32).toInt = 1 := (by decide); have : (10 : Int32).toInt = 10 := (by decide); have := by4_j55_5.1; have := by4_j55_5.2; omega) ls x_32 F_31 H locs (lv_sub hl [0, 1, 2, 3, 4] rfl) (bx_32.w ⟨by decide, by decide⟩) h (hfF_6.trans hfF_31 (by decide)) rfl
        exact j_j55_5 _ ls 0 F_3 H locs (lv_sub hl [0, 1, 2, 3, 4] rfl) (zB.of ⟨by decide, by decide⟩) h zFr.rf rfl
      · have c_2 := z_nle c_2
        have by4_j5_1_33 : zB 0 9 y4_j5_1 := zB.ltL c_2 by4_j5_1 bfc (by decide)
        have bfc_34 : zB 1 10 fc := zB.ltR c_2 by4_j5_1 bfc (by decide)
        refine lv_iload hx hb dX3_compare_14 (lv_at hl 0 rfl) ?_
        refine lv_aload_n hx hb dX3_compare_16 rfl (lv_at hl 2 rfl) ?_
        refine zt_getr (t := 3) (C := RX3) (T := TX3) (N := 3) Z h hth zin_3 rfl 0 rfl ⟨by decide, rfl⟩ (zm_RX3 (List.mem_of_getElem? (i := 2) rfl)) (fun _ h9 => h9) dX3_compare_17 (fun a_35 ka_35 ha_35 => ?_)
        refine zt_alen (t := 162) Z h ha_35 ⟨by decide, rfl⟩ (by decide) (v := 10) rfl dX3_compare_20 ?_
        refine lv_icmp_ge (tgt := 47) hx hb dX3_compare_21 (by decide) (fun c_36 => ?_) (fun c_36 => ?_)
        · have c_36 := z_le c_36
          exact zB.noLe c_36 (zBc 10 10 (by decide)) by4_j5_1_33 (by decide)
        · have c_36 := z_nle c_36
          refine lv_aload_n hx hb dX3_compare_24 rfl (lv_at hl 3 rfl) ?_
          refine lv_aload_n hx hb dX3_compare_25 rfl (lv_at hl 4 rfl) ?_
          refine lv_iload hx hb dX3_compare_26 (lv_at hl 0 rfl) ?_
          refine zk_Si (As := [.ref be, .ref no, .int y4_j5_1]) (rest := []) (bytes := cX3_isNew) (maxL := 7) (ret := (some .boolean)) Z h (zc_X3_isNew l D k Γ L F H.size be no y4_j5_1 hbe hno) (va_cwS 3 hg zv_RX3_24 rfl rfl rfl zd_X3_isNew ⟨z_leR hRf (by decide), z_leR hRl (by decide)⟩) rfl hl.1 rfl (Nat.le_of_ble_eq_true rfl) dX3_compare_28 ⟨Nat.zero_le _, Nat.zero_le _⟩ (fun r_37 F_38 H locs w_39 h hfF_38 => ?_)
          obtain ⟨rfl, br_37, -⟩ := w_39
          refine lv_if_eq (tgt := 41) hx hb dX3_compare_31 (by decide) (fun c_40 => ?_) (fun c_40 => ?_)
          · have c_40 := z_eq c_40
            have br_37_41 : zB 0 0 r_37 := zB.eqL (a := 0) (b := 0) c_40 (zBc 0 0 (by decide))
            obtain ⟨x_42, ex_42, bx_42, tx_42⟩ := z_inc (n := 1) (lo := 1) (hi := 10) by4_j5_1_33 (by decide)
            refine lv_iinc (v := x_42) (lv' := [(4, .int x_42), (3, .int y3_j5_1), (0, .ref th), (1, .ref be), (2, .ref no)]) hx hb dX3_compare_41 hl (k := 0) rfl ex_42 (by decide) rfl (fun ls hl => ?_)
            refine lv_goto (tgt := 5) hx hb dX3_compare_44 (by decide) ?_
            exact ih_j5_1 _ (by have := bx_42.1; have := bx_42.2; have := by3_j5_1.1; have := by3_j5_1.2; have := bfc_34.1; have := bfc_34.2; have := bfb.1; have := bfb.2; have : (0 : Int32).toInt = 0 := (by decide); have : (10 : Int32).toInt = 10 := (by decide); have := by4_j5_1.1; have := by4_j5_1.2; have := by3_j5_1.1; have := by3_j5_1.2; omega) ls x_42 y3_j5_1 H locs (lv_sub hl [0, 1, 2, 3, 4] rfl) (bx_42.w ⟨by decide, by decide⟩) by3_j5_1 h rfl
          · have c_40 := z_ne c_40
            have br_37_43 : zB 1 1 r_37 := zB.neLo c_40 br_37 (zBc 0 0 (by decide)) (by decide)
            refine lv_iload_n hx hb dX3_compare_34 rfl (lv_at hl 1 rfl) ?_
            refine lv_iconst (v := 1) hx hb dX3_compare_35 (by decide) ?_
            refine lv_iload hx hb dX3_compare_36 (lv_at hl 0 rfl) ?_
            refine lv_ishl hx hb dX3_compare_38 ?_
            refine zi_shl1 (n := 9) (hi := 512) by4_j5_1_33 (by decide) rfl (fun x_44 bx_44 => ?_)
            refine lv_ior hx hb dX3_compare_39 ?_
            refine zi_any (fun x_45 bx_45 ex_45 => ?_)
            refine lv_istore_n (lv' := [(3, .int x_45), (4, .int y4_j5_1), (0, .ref th), (1, .ref be), (2, .ref no)]) hx hb dX3_compare_40 rfl hl (by decide) rfl (fun ls hl => ?_)
            obtain ⟨x_46, ex_46, bx_46, tx_46⟩ := z_inc (n := 1) (lo := 1) (hi := 10) by4_j5_1_33 (by decide)
            refine lv_iinc (v := x_46) (lv' := [(4, .int x_46), (3, .int x_45), (0, .ref th), (1, .ref be), (2, .ref no)]) hx hb dX3_compare_41 hl (k := 1) rfl ex_46 (by decide) rfl (fun ls hl => ?_)
            refine lv_goto (tgt := 5) hx hb dX3_compare_44 (by decide) ?_
            exact ih_j5_1 _ (by have := bx_46.1; have := bx_46.2; have := bx_45.1; have := bx_45.2; have := bfc_34.1; have := bfc_34.2; have := bfb.1; have := bfb.2; have : (0 : Int32).toInt = 0 := (by decide); have : (1 : Int32).toInt = 1 := (by decide); have : (10 : Int32).toInt = 10 := (by decide); have := by4_j5_1.1; have := by4_j5_1.2; have := by3_j5_1.1; have := by3_j5_1.2; omega) ls x_46 x_45 H locs (lv_sub hl [0, 1, 2, 3, 4] rfl) (bx_46.w ⟨by decide, by decide⟩) bx_45 h rfl
  exact j_j5_1 _ ls 0 0 s.heap [] (lv_sub hl [0, 1, 2, 3, 4] rfl) (zB.of ⟨by decide, by decide⟩) (zB.of ⟨by decide, by decide⟩) h rfl
