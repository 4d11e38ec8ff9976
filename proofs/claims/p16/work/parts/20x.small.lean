set_option maxHeartbeats 4000000 in
set_option maxRecDepth 100000 in
theorem ze_X14_byteAt (l : Launch) (D : va_G) (k : Nat → ClassId) (Γ : Nat → Option Nat) (L : List Nat) (F : Nat → va_E) (sz : Nat) (th : Nat) (q : Int32) (tp : Nat) (zz : Int32) (Bt : Nat → Int32) (nt : Nat) (hth : Γ th = some 14) (bq : zB 0 600 q) (ktp : zfld F th 10 = .ref tp) (htp : Γ tp = some 152) (kzz : zfld F th 12 = .int zz) (bzz : zB 0 600 zz) (hr0 : zel F tp = Bt) (hr1 : zz.toInt = nt) : Met l yX14_byteAt zwX14_byteAt ({ frames := 0, cells := 0, slots := 0, locals := 0 }) (va_Pc [.ref th, .int q] (zP D k Γ L F sz)) (va_Qi (fun (r : Int32) (u : Nat → va_E) => F = u ∧ zB (-1) 255 r ∧ (r.toInt ≠ -1 → q.toInt < zz.toInt ∧ r = zel F tp (Int32.toNatClampNeg q) &&& 255) ∧ (r.toInt = -1 → zz.toInt ≤ q.toInt) ∧ ((r.toInt = -1 ∧ (nt : Int) ≤ q.toInt) ∨ (q.toInt < nt ∧ (-128 ≤ zby Bt nt q.toInt ∧ zby Bt nt q.toInt ≤ 127) ∧ ((0 ≤ zby Bt nt q.toInt ∧ r.toInt = zby Bt nt q.toInt) ∨ (zby Bt nt q.toInt < 0 ∧ r.toInt = zby Bt nt q.toInt + 256)))) ∧ True) (zQ D k Γ L F []) (zA L sz)) 0 0 (zA L sz) := by
  refine Met.ofW (cc := cX14_byteAt) (maxL := 2) (ret := (some .int)) (by decide) rfl ?_
  intro p e s m args below meth c s₁ B hml hv
  obtain ⟨rfl, hsz, hP, hK, hLn, hE, hI⟩ := hv
  have hx := B.exec
  have hb := B.bytes
  have hr := B.returns
  have hg : ∀ w ∈ zG, w.before _ s = true := fun w h9 => atoms_spec (ws := zwX14_byteAt) B.pre w (List.mem_cons_of_mem _ h9)
  have hown : s.vm.findClass RX14 = some m.cls := findClass_of_methodNamed B.named
  have hlocks := B.notSynchronized
  subst hsz
  have Z : zC p m c cX14_byteAt 2 s _ zG RX14 D k L := ⟨⟨hx, hb, hml, hown, hg⟩, hK, hLn, hE⟩
  have h : zH D k Γ L s F s.heap [] := ⟨hP, hI, va_S.rf⟩
  have hl := lv_entry ([.ref th, .int q]) (n := 2) (Nat.le_of_ble_eq_true rfl)
  rw [lg_entry_eq]
  generalize (lg_sl ([.ref th, .int q]) ++ List.replicate (2 - (lg_sl ([.ref th, .int q])).length) Slot.unset).toArray = ls at hl ⊢
  have hl : lv_has ls 2 [(0, .ref th), (1, .int q)] := hl
  clear hP hK hLn hE hI
  generalize hargs : ([.ref th, .int q] : List Value).toArray = args at *
  refine z_start (fun R Q hRf hRl hQ => ?_)
  have hRf : R.frames = 0 := hRf
  have hRl : R.locals = 0 := hRl
  have h9 := h
  refine lv_iload_n hx hb dX14_byteAt_0 rfl (lv_at hl 1 rfl) ?_
  refine lv_aload_n hx hb dX14_byteAt_1 rfl (lv_at hl 0 rfl) ?_
  refine zt_getk (t := 14) (C := RX14) (T := TX14) (N := 40) Z h hth zin_14 rfl 12 kzz ⟨by decide, rfl, by decide⟩ (zm_RX14 (List.mem_of_getElem? (i := 10) rfl)) (fun _ h9 => h9) dX14_byteAt_2 ?_
  refine lv_icmp_ge (tgt := 21) hx hb dX14_byteAt_5 (by decide) (fun c_1 => ?_) (fun c_1 => ?_)
  · have c_1 := z_le c_1
    refine lv_iconst (v := (-1)) hx hb dX14_byteAt_21 (by decide) ?_
    subst hQ
    exact W.iret (v := (-1)) hx hb hr (fun t ht hW => ⟨⟨(-1), F, rfl, ⟨rfl, (zB.of ⟨by decide, by decide⟩), (fun h9 => absurd (by decide) h9), (fun _ => (by have := bq.1; have := bq.2; have := bzz.1; have := bzz.2; have : ((-1) : Int32).toInt = (-1) := (by decide); omega)), (Or.inl ⟨by decide, (by have := bq.1; have := bq.2; have := bzz.1; have := bzz.2; have : ((-1) : Int32).toInt = (-1) := (by decide); omega)⟩), trivial⟩, by rw [ht]; exact h.1, h.2.1, zFr.rf⟩, h.2.2.F ht⟩) h.2.2.2.2 dX14_byteAt_22
  · have c_1 := z_nle c_1
    have bq_2 : zB 0 599 q := zB.ltL c_1 bq bzz (by decide)
    have bzz_3 : zB 1 600 zz := zB.ltR c_1 bq bzz (by decide)
    refine lv_aload_n hx hb dX14_byteAt_8 rfl (lv_at hl 0 rfl) ?_
    refine zt_getk (t := 14) (C := RX14) (T := TX14) (N := 40) Z h hth zin_14 rfl 10 ktp ⟨by decide, rfl, by decide⟩ (zm_RX14 (List.mem_of_getElem? (i := 11) rfl)) (fun _ h9 => h9) dX14_byteAt_9 ?_
    refine lv_iload_n hx hb dX14_byteAt_12 rfl (lv_at hl 1 rfl) ?_
    refine zt_balde (t := 152) Z h htp ⟨by decide, rfl⟩ bq_2 ⟨by decide, by decide⟩ dX14_byteAt_13 (fun x_4 ex_4 bx_4 => ?_)
    refine lv_sipush (v := 255) hx hb dX14_byteAt_14 (by decide) ?_
    refine lv_iand hx hb dX14_byteAt_17 ?_
    refine zi_and ((zBc 255 255 (by decide)).w ⟨by decide, by decide⟩ : zB 0 255 _) (fun x_5 bx_5 ex_5 => ?_)
    refine lv_goto (tgt := 22) hx hb dX14_byteAt_18 (by decide) ?_
    subst hQ
    exact W.iret (v := x_5) hx hb hr (fun t ht hW => ⟨⟨x_5, F, rfl, ⟨rfl, (bx_5.w ⟨by decide, by decide⟩), (fun _ => ⟨(by have := bq_2.1; have := bq_2.2; have := bx_5.1; have := bx_5.2; have := bzz_3.1; have := bzz_3.2; have : (255 : Int32).toInt = 255 := (by decide); omega), by rw [ex_5, ← ex_4]⟩), (fun h9 => absurd h9 (by have := bx_5.1; omega)), (Or.inr ⟨(by have := bq_2.1; have := bq_2.2; have := bx_5.1; have := bx_5.2; have := bzz_3.1; have := bzz_3.2; have : (255 : Int32).toInt = 255 := (by decide); omega), zby_m hr0 ex_4 bx_4 ex_5 ⟨(by have := bq_2.1; have := bq_2.2; have := bx_5.1; have := bx_5.2; have := bzz_3.1; have := bzz_3.2; have : (255 : Int32).toInt = 255 := (by decide); omega), (by have := bq_2.1; have := bq_2.2; have := bx_5.1; have := bx_5.2; have := bzz_3.1; have := bzz_3.2; have : (255 : Int32).toInt = 255 := (by decide); omega)⟩⟩), trivial⟩, by rw [ht]; exact h.1, h.2.1, zFr.rf⟩, h.2.2.F ht⟩) h.2.2.2.2 dX14_byteAt_22

set_option maxHeartbeats 4000000 in
set_option maxRecDepth 100000 in
theorem ze_X14_is (l : Launch) (D : va_G) (k : Nat → ClassId) (Γ : Nat → Option Nat) (L : List Nat) (F : Nat → va_E) (sz : Nat) (th : Nat) (c_ : Int32) (Bt : Nat → Int32) (nt : Nat) (σ : zSg) (hth : Γ th = some 14) (bc_ : zB 40 125 c_) (p_au : zD1 F th Bt nt (σ)) : Met l yX14_is zwX14_is ({ frames := 0, cells := 0, slots := 0, locals := 0 }) (va_Pc [.ref th, .int c_] (zP D k Γ L F sz)) (va_Qi (fun (r : Int32) (u : Nat → va_E) => F = u ∧ zB 0 1 r ∧ (r ≠ 0 → ∃ (so : Int32) (mk : Int32), zfld u th 14 = .int so ∧ zB (-2147483648) 2147483647 so ∧ zfld u th 16 = .int mk ∧ zB (-2147483648) 2147483647 mk ∧ (so.toInt = 4 ∧ mk.toInt = c_.toInt)) ∧ ((r.toInt = 1 ∧ zkd (zTo Bt nt) 0 σ = c_.toInt) ∨ (r.toInt = 0 ∧ zkd (zTo Bt nt) 0 σ ≠ c_.toInt)) ∧ True) (zQ D k Γ L F []) (zA L sz)) 0 0 (zA L sz) := by
  refine Met.ofW (cc := cX14_is) (maxL := 2) (ret := (some .boolean)) (by decide) rfl ?_
  intro p e s m args below meth c s₁ B hml hv
  obtain ⟨rfl, hsz, hP, hK, hLn, hE, hI⟩ := hv
  have hx := B.exec
  have hb := B.bytes
  have hr := B.returns
  have hg : ∀ w ∈ zG, w.before _ s = true := fun w h9 => atoms_spec (ws := zwX14_is) B.pre w (List.mem_cons_of_mem _ h9)
  have hown : s.vm.findClass RX14 = some m.cls := findClass_of_methodNamed B.named
  have hlocks := B.notSynchronized
  subst hsz
  have Z : zC p m c cX14_is 2 s _ zG RX14 D k L := ⟨⟨hx, hb, hml, hown, hg⟩, hK, hLn, hE⟩
  have h : zH D k Γ L s F s.heap [] := ⟨hP, hI, va_S.rf⟩
  have hl := lv_entry ([.ref th, .int c_]) (n := 2) (Nat.le_of_ble_eq_true rfl)
  rw [lg_entry_eq]
  generalize (lg_sl ([.ref th, .int c_]) ++ List.replicate (2 - (lg_sl ([.ref th, .int c_])).length) Slot.unset).toArray = ls at hl ⊢
  have hl : lv_has ls 2 [(0, .ref th), (1, .int c_)] := hl
  clear hP hK hLn hE hI
  generalize hargs : ([.ref th, .int c_] : List Value).toArray = args at *
  refine z_start (fun R Q hRf hRl hQ => ?_)
  have hRf : R.frames = 0 := hRf
  have hRl : R.locals = 0 := hRl
  have h9 := h
  refine lv_aload_n hx hb dX14_is_0 rfl (lv_at hl 0 rfl) ?_
  refine zt_geti (t := 14) (C := RX14) (T := TX14) (N := 40) Z h hth zin_14 rfl 14 rfl ⟨by decide, rfl⟩ (zm_RX14 (List.mem_of_getElem? (i := 24) rfl)) (fun _ h9 => h9) dX14_is_1 (fun x_1 kx_1 bx_1 => ?_)
  refine lv_iconst (v := 4) hx hb dX14_is_4 (by decide) ?_
  refine lv_icmp_ne (tgt := 20) hx hb dX14_is_5 (by decide) (fun c_2 => ?_) (fun c_2 => ?_)
  · have c_2 := z_ne c_2
    refine lv_iconst (v := 0) hx hb dX14_is_20 (by decide) ?_
    obtain ⟨x_3, kx_3, bx_3⟩ := z_learn (j := 16) (lo := (-2147483648)) (hi := 2147483647) h hth (by decide) rfl
    obtain ⟨x_4, kx_4, bx_4⟩ := z_learn (j := 18) (lo := (-2147483648)) (hi := 2147483647) h hth (by decide) rfl
    obtain ⟨x_5, kx_5⟩ := z_learnl (j := 21) h hth (by decide) rfl
    subst hQ
    exact W.zret (v := 0) hx hb hr (by decide) (fun t ht hW => ⟨⟨0, F, rfl, ⟨rfl, (zB.of ⟨by decide, by decide⟩), (fun h9 => absurd rfl h9), (by obtain ⟨W9, h9⟩ := zD1.mk p_au kx_1 kx_3 kx_4 kx_5; have h8 := h9.sg; have := bc_.1; have := bc_.2; have := bx_1.1; have := bx_1.2; have := bx_3.1; have := bx_3.2; have := bx_4.1; have := bx_4.2; have : (0 : Int32).toInt = 0 := (by decide); have : (4 : Int32).toInt = 4 := (by decide); omega), trivial⟩, by rw [ht]; exact h.1, h.2.1, zFr.rf⟩, h.2.2.F ht⟩) h.2.2.2.2 dX14_is_21
  · have c_2 := z_eq c_2
    have bx_1_6 : zB 4 4 x_1 := zB.eqL (a := 0) (b := 0) c_2 (zBc 4 4 (by decide))
    refine lv_aload_n hx hb dX14_is_8 rfl (lv_at hl 0 rfl) ?_
    refine zt_geti (t := 14) (C := RX14) (T := TX14) (N := 40) Z h hth zin_14 rfl 16 rfl ⟨by decide, rfl⟩ (zm_RX14 (List.mem_of_getElem? (i := 25) rfl)) (fun _ h9 => h9) dX14_is_9 (fun x_7 kx_7 bx_7 => ?_)
    refine lv_iload_n hx hb dX14_is_12 rfl (lv_at hl 1 rfl) ?_
    refine lv_icmp_ne (tgt := 20) hx hb dX14_is_13 (by decide) (fun c_8 => ?_) (fun c_8 => ?_)
    · have c_8 := z_ne c_8
      refine lv_iconst (v := 0) hx hb dX14_is_20 (by decide) ?_
      obtain ⟨x_9, kx_9, bx_9⟩ := z_learn (j := 18) (lo := (-2147483648)) (hi := 2147483647) h hth (by decide) rfl
      obtain ⟨x_10, kx_10⟩ := z_learnl (j := 21) h hth (by decide) rfl
      subst hQ
      exact W.zret (v := 0) hx hb hr (by decide) (fun t ht hW => ⟨⟨0, F, rfl, ⟨rfl, (zB.of ⟨by decide, by decide⟩), (fun h9 => absurd rfl h9), (by obtain ⟨W9, h9⟩ := zD1.mk p_au kx_1 kx_7 kx_9 kx_10; have h8 := h9.sg; have := bc_.1; have := bc_.2; have := bx_1_6.1; have := bx_1_6.2; have := bx_7.1; have := bx_7.2; have := bx_9.1; have := bx_9.2; have : (0 : Int32).toInt = 0 := (by decide); have : (4 : Int32).toInt = 4 := (by decide); omega), trivial⟩, by rw [ht]; exact h.1, h.2.1, zFr.rf⟩, h.2.2.F ht⟩) h.2.2.2.2 dX14_is_21
    · have c_8 := z_eq c_8
      have bx_7_11 : zB 40 125 x_7 := zB.eqL (a := 0) (b := 0) c_8 bc_
      refine lv_iconst (v := 1) hx hb dX14_is_16 (by decide) ?_
      refine lv_goto (tgt := 21) hx hb dX14_is_17 (by decide) ?_
      obtain ⟨x_12, kx_12, bx_12⟩ := z_learn (j := 18) (lo := (-2147483648)) (hi := 2147483647) h hth (by decide) rfl
      obtain ⟨x_13, kx_13⟩ := z_learnl (j := 21) h hth (by decide) rfl
      subst hQ
      exact W.zret (v := 1) hx hb hr (by decide) (fun t ht hW => ⟨⟨1, F, rfl, ⟨rfl, (zB.of ⟨by decide, by decide⟩), (fun _ => ⟨x_1, x_7, kx_1, (bx_1_6.w ⟨by decide, by decide⟩), kx_7, (bx_7_11.w ⟨by decide, by decide⟩), (by have := bc_.1; have := bc_.2; have := bx_1_6.1; have := bx_1_6.2; have := bx_7_11.1; have := bx_7_11.2; have : (1 : Int32).toInt = 1 := (by decide); have : (4 : Int32).toInt = 4 := (by decide); omega)⟩), (by obtain ⟨W9, h9⟩ := zD1.mk p_au kx_1 kx_7 kx_12 kx_13; have h8 := h9.sg; have := bc_.1; have := bc_.2; have := bx_1_6.1; have := bx_1_6.2; have := bx_7_11.1; have := bx_7_11.2; have := bx_12.1; have := bx_12.2; have : (1 : Int32).toInt = 1 := (by decide); have : (4 : Int32).toInt = 4 := (by decide); omega), trivial⟩, by rw [ht]; exact h.1, h.2.1, zFr.rf⟩, h.2.2.F ht⟩) h.2.2.2.2 dX14_is_21

set_option maxHeartbeats 4000000 in
set_option maxRecDepth 100000 in
theorem ze_X14_wordOf (l : Launch) (D : va_G) (k : Nat → ClassId) (Γ : Nat → Option Nat) (L : List Nat) (F : Nat → va_E) (sz : Nat) (si : Nat) (qs : String × Nat × String × Nat) (hsi : zStrs[si]? = some qs) : Met l yX14_wordOf zwX14_wordOf ({ frames := 4, cells := 0, slots := 0, locals := 85 }) (va_Pc [.ref (D.2 99 si)] (zP D k Γ L F sz)) (va_Ql (fun (r : Int64) (u : Nat → va_E) => F = u ∧ r.toInt = zws si ∧ True) (zQ D k Γ L F []) (zA L sz)) 0 0 (zA L sz) := by
  refine Met.ofW (cc := cX14_wordOf) (maxL := 4) (ret := (some .long)) (by decide) rfl ?_
  intro p e s m args below meth c s₁ B hml hv
  obtain ⟨rfl, hsz, hP, hK, hLn, hE, hI⟩ := hv
  have hx := B.exec
  have hb := B.bytes
  have hr := B.returns
  have hg : ∀ w ∈ zG, w.before _ s = true := fun w h9 => atoms_spec (ws := zwX14_wordOf) B.pre w (List.mem_cons_of_mem _ h9)
  have hown : s.vm.findClass RX14 = some m.cls := findClass_of_methodNamed B.named
  have hlocks := B.notSynchronized
  subst hsz
  have Z : zC p m c cX14_wordOf 4 s _ zG RX14 D k L := ⟨⟨hx, hb, hml, hown, hg⟩, hK, hLn, hE⟩
  have h : zH D k Γ L s F s.heap [] := ⟨hP, hI, va_S.rf⟩
  have hl := lv_entry ([.ref (D.2 99 si)]) (n := 4) (Nat.le_of_ble_eq_true rfl)
  rw [lg_entry_eq]
  generalize (lg_sl ([.ref (D.2 99 si)]) ++ List.replicate (4 - (lg_sl ([.ref (D.2 99 si)])).length) Slot.unset).toArray = ls at hl ⊢
  have hl : lv_has ls 4 [(0, .ref (D.2 99 si))] := hl
  clear hP hK hLn hE hI
  generalize hargs : ([.ref (D.2 99 si)] : List Value).toArray = args at *
  refine z_start (fun R Q hRf hRl hQ => ?_)
  have hRf : R.frames = 4 := hRf
  have hRl : R.locals = 85 := hRl
  have h9 := h
  refine lv_lconst (v := 0) hx hb dX14_wordOf_0 (by decide) ?_
  refine lv_lstore_n (lv' := [(1, .long 0), (0, .ref (D.2 99 si))]) hx hb dX14_wordOf_1 rfl hl (by decide) rfl (fun ls hl => ?_)
  refine lv_iconst (v := 0) hx hb dX14_wordOf_2 (by decide) ?_
  refine lv_istore_n (lv' := [(3, .int 0), (1, .long 0), (0, .ref (D.2 99 si))]) hx hb dX14_wordOf_3 rfl hl (by decide) rfl (fun ls hl => ?_)
  have j_j4_1 : ∀ (n : Nat) (ls : Array Slot) (y3_j4_1 : Int32) (y1_j4_1 : Int64) (H : Heap) (locs : List Loc), lv_has ls 4 [(3, .int y3_j4_1), (1, .long y1_j4_1), (0, .ref (D.2 99 si))] → zB 0 6 y3_j4_1 → zH D k Γ L s F H locs → (y3_j4_1.toInt ≤ (qs.2.2.2 : Int)) → (y1_j4_1.toInt = zwI (fun x => ((zByt.getD si []).getD x.toNat 0).toInt) 0 y3_j4_1.toInt.toNat) → (6 - y3_j4_1.toInt).toNat = n → W p l e R s m args below meth c H locs 0 0 Q (F0 m 4 ls []) := by
    intro n
    induction n using Nat.strongRecOn with
    | _ n ih_j4_1 =>
      intro ls y3_j4_1 y1_j4_1 H locs hl by3_j4_1 h r0_j4_1 r1_j4_1 hn_j4_1
      refine lv_iload_n hx hb dX14_wordOf_4 rfl (lv_at hl 0 rfl) ?_
      refine lv_aload_n hx hb dX14_wordOf_5 rfl (lv_at hl 2 rfl) ?_
      refine zk_Wi (As := []) (rest := [.int y3_j4_1]) (bytes := cJ0_length_8abf5) (maxL := 1) (ret := (some .int)) Z h (zc_J0_length_8abf5 l D k Γ L F H.size si qs hsi) (cwV 0 hg zv_RX14_91 rfl rfl rfl zd_J0_length_8abf5 ⟨z_leR hRf (by decide), z_leR hRl (by decide)⟩) (zE_recv Z h hsi) rfl hl.1 rfl (Nat.le_of_ble_eq_true rfl) dX14_wordOf_6 ⟨Nat.zero_le _, Nat.zero_le _⟩ (fun r_2 F_3 H locs w_4 h hfF_3 => ?_)
      obtain ⟨rfl, br_2, q_5, -⟩ := w_4
      refine lv_icmp_ge (tgt := 36) hx hb dX14_wordOf_9 (by decide) (fun c_6 => ?_) (fun c_6 => ?_)
      · have c_6 := z_le c_6
        refine lv_lload_n hx hb dX14_wordOf_36 rfl (lv_at hl 1 rfl) ?_
        subst hQ
        exact W.lret (v := y1_j4_1) hx hb hr (fun t ht hW => ⟨⟨y1_j4_1, F, rfl, ⟨rfl, (by rw [r1_j4_1]; unfold zws; rw [zByt_len hsi, show y3_j4_1.toInt.toNat = qs.2.2.2 by have := by3_j4_1.1; have := by3_j4_1.2; omega]), trivial⟩, by rw [ht]; exact h.1, h.2.1, zFr.rf⟩, h.2.2.F ht⟩) h.2.2.2.2 dX14_wordOf_37
      · have c_6 := z_nle c_6
        have by3_j4_1_7 : zB 0 5 y3_j4_1 := zB.ltL c_6 by3_j4_1 br_2 (by decide)
        have br_2_8 : zB 1 6 r_2 := zB.ltR c_6 by3_j4_1 br_2 (by decide)
        refine lv_ldc2 hx hb hown (hg _ (zm_RX14 (List.mem_of_getElem? (i := 16) rfl))) dX14_wordOf_12 ?_
        refine lv_lload_n hx hb dX14_wordOf_15 rfl (lv_at hl 1 rfl) ?_
        refine lv_lmul hx hb dX14_wordOf_16 ?_
        refine lv_topl (fun g_9 eg_9 => ?_)
        refine lv_aload_n hx hb dX14_wordOf_17 rfl (lv_at hl 2 rfl) ?_
        refine lv_iload_n hx hb dX14_wordOf_18 rfl (lv_at hl 0 rfl) ?_
        refine zk_Wi (As := [.int y3_j4_1]) (rest := [.long g_9]) (bytes := cJ0_charAt_5068e) (maxL := 2) (ret := (some .char)) Z h (zc_J0_charAt_5068e l D k Γ L F H.size si qs y3_j4_1 hsi (by have := by3_j4_1_7.1; have := by3_j4_1_7.2; omega)) (cwV 1 hg zv_RX14_99 rfl rfl rfl zd_J0_charAt_5068e ⟨z_leR hRf (by decide), z_leR hRl (by decide)⟩) (zE_recv Z h hsi) rfl hl.1 rfl (Nat.le_of_ble_eq_true rfl) dX14_wordOf_19 ⟨Nat.zero_le _, Nat.zero_le _⟩ (fun r_10 F_11 H locs w_12 h hfF_11 => ?_)
        obtain ⟨rfl, q_13, q_14, -⟩ := w_12
        have br_10 := zB.all r_10
        have bc_ : zB 97 122 r_10 := by have h6 := zByt_let (i := si) y3_j4_1.toInt.toNat (by rw [zByt_len hsi]; have := by3_j4_1_7.1; have := by3_j4_1_7.2; have := br_10.1; have := br_10.2; omega); have h5 := q_14; rw [zch_get si (by have := by3_j4_1_7.1; have := by3_j4_1_7.2; have := br_10.1; have := br_10.2; omega)] at h5; rw [h5]; exact h6
        refine lv_bipush (v := 97) hx hb dX14_wordOf_22 (by decide) ?_
        refine lv_isub hx hb dX14_wordOf_24 ?_
        refine zi_sub (lo := 0) (hi := 25) bc_ (zBc 97 97 (by decide)) (by decide) (fun x_15 bx_15 tx_15 => ?_)
        refine lv_iconst (v := 1) hx hb dX14_wordOf_25 (by decide) ?_
        refine lv_iadd hx hb dX14_wordOf_26 ?_
        refine zi_add (lo := 1) (hi := 26) bx_15 (zBc 1 1 (by decide)) (by decide) (fun x_16 bx_16 tx_16 => ?_)
        refine lv_i2l hx hb dX14_wordOf_27 rfl ?_
        refine lv_topl (fun g_17 eg_17 => ?_)
        refine lv_ladd hx hb dX14_wordOf_28 ?_
        refine lv_topl (fun g_18 eg_18 => ?_)
        refine lv_lstore_n (lv' := [(1, .long g_18), (3, .int y3_j4_1), (0, .ref (D.2 99 si))]) hx hb dX14_wordOf_29 rfl hl (by decide) rfl (fun ls hl => ?_)
        obtain ⟨x_19, ex_19, bx_19, tx_19⟩ := z_inc (n := 1) (lo := 1) (hi := 6) by3_j4_1_7 (by decide)
        refine lv_iinc (v := x_19) (lv' := [(3, .int x_19), (1, .long g_18), (0, .ref (D.2 99 si))]) hx hb dX14_wordOf_30 hl (k := 1) rfl ex_19 (by decide) rfl (fun ls hl => ?_)
        refine lv_goto (tgt := 4) hx hb dX14_wordOf_33 (by decide) ?_
        exact ih_j4_1 _ (by have := bx_19.1; have := bx_19.2; have : (1 : Int32).toInt = 1 := (by decide); have : (97 : Int32).toInt = 97 := (by decide); have := by3_j4_1.1; have := by3_j4_1.2; omega) ls x_19 g_18 H locs (lv_sub hl [0, 1, 2] rfl) (bx_19.w ⟨by decide, by decide⟩) h (by have := bx_19.1; have := bx_19.2; have : (1 : Int32).toInt = 1 := (by decide); have : (97 : Int32).toInt = 97 := (by decide); omega) (by have h6 := zByt_let (i := si) y3_j4_1.toInt.toNat (by rw [zByt_len hsi]; have := bx_19.1; have := bx_19.2; have := by3_j4_1_7.1; have := by3_j4_1_7.2; have := bx_16.1; have := bx_16.2; have : (1 : Int32).toInt = 1 := (by decide); have : (97 : Int32).toInt = 97 := (by decide); omega); have h5 := q_14; rw [zch_get si (by have := bx_19.1; have := bx_19.2; have := by3_j4_1_7.1; have := by3_j4_1_7.2; have := bx_16.1; have := bx_16.2; have : (1 : Int32).toInt = 1 := (by decide); have : (97 : Int32).toInt = 97 := (by decide); omega)] at h5; rw [show x_19.toInt.toNat = y3_j4_1.toInt.toNat + 1 by have := bx_19.1; have := bx_19.2; have := by3_j4_1_7.1; have := by3_j4_1_7.2; have : (1 : Int32).toInt = 1 := (by decide); have : (97 : Int32).toInt = 97 := (by decide); omega]; refine zw_step r1_j4_1 (fun q hq => by have h7 := zByt_let (i := si) q (by rw [zByt_len hsi]; have := bx_19.1; have := bx_19.2; have := by3_j4_1_7.1; have := by3_j4_1_7.2; have := bx_16.1; have := bx_16.2; have : (1 : Int32).toInt = 1 := (by decide); have : (97 : Int32).toInt = 97 := (by decide); omega); simp only [show ((0 : Int) + (q : Int)).toNat = q by omega]; exact h7) (by have := bx_19.1; have := bx_19.2; have := by3_j4_1_7.1; have := by3_j4_1_7.2; have := bx_16.1; have := bx_16.2; have : (1 : Int32).toInt = 1 := (by decide); have : (97 : Int32).toInt = 97 := (by decide); omega) eg_9 eg_17 eg_18 ?_ ?_; simp only [show ((0 : Int) + (y3_j4_1.toInt.toNat : Int)).toNat = y3_j4_1.toInt.toNat by omega]; rw [← h5]; have := bx_19.1; have := bx_19.2; have := by3_j4_1_7.1; have := by3_j4_1_7.2; have := bx_16.1; have := bx_16.2; have := bc_.1; have := bc_.2; have : (1 : Int32).toInt = 1 := (by decide); have : (97 : Int32).toInt = 97 := (by decide); omega; simp only [show ((0 : Int) + (y3_j4_1.toInt.toNat : Int)).toNat = y3_j4_1.toInt.toNat by omega]; exact h6) rfl
  exact j_j4_1 _ ls 0 0 s.heap [] (lv_sub hl [0, 1, 2] rfl) (zB.of ⟨by decide, by decide⟩) h (by have : (0 : Int32).toInt = 0 := (by decide); omega) (by rw [show (0 : Int32).toInt.toNat = 0 by decide]; exact (by decide : (0 : Int64).toInt = 0)) rfl

set_option maxHeartbeats 4000000 in
set_option maxRecDepth 100000 in
theorem ze_X14_isWord (l : Launch) (D : va_G) (k : Nat → ClassId) (Γ : Nat → Option Nat) (L : List Nat) (F : Nat → va_E) (sz : Nat) (th : Nat) (si : Nat) (qs : String × Nat × String × Nat) (Bt : Nat → Int32) (nt : Nat) (σ : zSg) (hth : Γ th = some 14) (hsi : zStrs[si]? = some qs) (p_au : zD1 F th Bt nt (σ)) (hr0 : 6 ≤ si ∧ si < 12) : Met l yX14_isWord zwX14_isWord ({ frames := 5, cells := 0, slots := 0, locals := 108 }) (va_Pc [.ref th, .ref (D.2 99 si)] (zP D k Γ L F sz)) (va_Qi (fun (r : Int32) (u : Nat → va_E) => F = u ∧ zB 0 1 r ∧ (r ≠ 0 → ∃ (so : Int32), zfld u th 14 = .int so ∧ zB (-2147483648) 2147483647 so ∧ (so.toInt = 2)) ∧ ((r.toInt = 1 ∧ zkd (zTo Bt nt) 0 σ = zcd si) ∨ (r.toInt = 0 ∧ zkd (zTo Bt nt) 0 σ ≠ zcd si)) ∧ True) (zQ D k Γ L F []) (zA L sz)) 0 0 (zA L sz) := by
  refine Met.ofW (cc := cX14_isWord) (maxL := 2) (ret := (some .boolean)) (by decide) rfl ?_
  intro p e s m args below meth c s₁ B hml hv
  obtain ⟨rfl, hsz, hP, hK, hLn, hE, hI⟩ := hv
  have hx := B.exec
  have hb := B.bytes
  have hr := B.returns
  have hg : ∀ w ∈ zG, w.before _ s = true := fun w h9 => atoms_spec (ws := zwX14_isWord) B.pre w (List.mem_cons_of_mem _ h9)
  have hown : s.vm.findClass RX14 = some m.cls := findClass_of_methodNamed B.named
  have hlocks := B.notSynchronized
  subst hsz
  have Z : zC p m c cX14_isWord 2 s _ zG RX14 D k L := ⟨⟨hx, hb, hml, hown, hg⟩, hK, hLn, hE⟩
  have h : zH D k Γ L s F s.heap [] := ⟨hP, hI, va_S.rf⟩
  have hl := lv_entry ([.ref th, .ref (D.2 99 si)]) (n := 2) (Nat.le_of_ble_eq_true rfl)
  rw [lg_entry_eq]
  generalize (lg_sl ([.ref th, .ref (D.2 99 si)]) ++ List.replicate (2 - (lg_sl ([.ref th, .ref (D.2 99 si)])).length) Slot.unset).toArray = ls at hl ⊢
  have hl : lv_has ls 2 [(0, .ref th), (1, .ref (D.2 99 si))] := hl
  clear hP hK hLn hE hI
  generalize hargs : ([.ref th, .ref (D.2 99 si)] : List Value).toArray = args at *
  refine z_start (fun R Q hRf hRl hQ => ?_)
  have hRf : R.frames = 5 := hRf
  have hRl : R.locals = 108 := hRl
  have h9 := h
  refine lv_aload_n hx hb dX14_isWord_0 rfl (lv_at hl 0 rfl) ?_
  refine zt_geti (t := 14) (C := RX14) (T := TX14) (N := 40) Z h hth zin_14 rfl 14 rfl ⟨by decide, rfl⟩ (zm_RX14 (List.mem_of_getElem? (i := 24) rfl)) (fun _ h9 => h9) dX14_isWord_1 (fun x_1 kx_1 bx_1 => ?_)
  refine lv_iconst (v := 2) hx hb dX14_isWord_4 (by decide) ?_
  refine lv_icmp_ne (tgt := 24) hx hb dX14_isWord_5 (by decide) (fun c_2 => ?_) (fun c_2 => ?_)
  · have c_2 := z_ne c_2
    refine lv_iconst (v := 0) hx hb dX14_isWord_24 (by decide) ?_
    obtain ⟨x_3, kx_3, bx_3⟩ := z_learn (j := 16) (lo := (-2147483648)) (hi := 2147483647) h hth (by decide) rfl
    obtain ⟨x_4, kx_4, bx_4⟩ := z_learn (j := 18) (lo := (-2147483648)) (hi := 2147483647) h hth (by decide) rfl
    obtain ⟨x_5, kx_5⟩ := z_learnl (j := 21) h hth (by decide) rfl
    subst hQ
    exact W.zret (v := 0) hx hb hr (by decide) (fun t ht hW => ⟨⟨0, F, rfl, ⟨rfl, (zB.of ⟨by decide, by decide⟩), (fun h9 => absurd rfl h9), (by obtain ⟨W9, h9⟩ := zD1.mk p_au kx_1 kx_3 kx_4 kx_5; have h8 := h9.wo hr0; have := bx_1.1; have := bx_1.2; have := bx_3.1; have := bx_3.2; have := bx_4.1; have := bx_4.2; have : (0 : Int32).toInt = 0 := (by decide); have : (2 : Int32).toInt = 2 := (by decide); omega), trivial⟩, by rw [ht]; exact h.1, h.2.1, zFr.rf⟩, h.2.2.F ht⟩) h.2.2.2.2 dX14_isWord_25
  · have c_2 := z_eq c_2
    have bx_1_6 : zB 2 2 x_1 := zB.eqL (a := 0) (b := 0) c_2 (zBc 2 2 (by decide))
    refine lv_aload_n hx hb dX14_isWord_8 rfl (lv_at hl 0 rfl) ?_
    refine zt_getl (t := 14) (C := RX14) (T := TX14) (N := 40) Z h hth zin_14 rfl 21 rfl ⟨by decide, rfl⟩ (zm_RX14 (List.mem_of_getElem? (i := 28) rfl)) (fun _ h9 => h9) dX14_isWord_9 (fun g_7 kg_7 => ?_)
    refine lv_aload_n hx hb dX14_isWord_12 rfl (lv_at hl 1 rfl) ?_
    refine zk_Sl (As := [.ref (D.2 99 si)]) (rest := [.long g_7]) (bytes := cX14_wordOf) (maxL := 4) (ret := (some .long)) Z h (ze_X14_wordOf l D k Γ L F s.heap.size si qs hsi) (va_cwS 1 hg zv_RX14_137 rfl rfl rfl zd_X14_wordOf ⟨z_leR hRf (by decide), z_leR hRl (by decide)⟩) rfl hl.1 rfl (Nat.le_of_ble_eq_true rfl) dX14_isWord_13 ⟨Nat.zero_le _, Nat.zero_le _⟩ (fun r_8 F_9 H locs w_10 h hfF_9 => ?_)
    obtain ⟨rfl, q_11, -⟩ := w_10
    refine W.lcmp hx hb dX14_isWord_16 ?_
    refine zi_any (fun x_12 bx_12 ex_12 => ?_)
    refine lv_if_ne (tgt := 24) hx hb dX14_isWord_17 (by decide) (fun c_13 => ?_) (fun c_13 => ?_)
    · have c_13 := z_ne c_13
      refine lv_iconst (v := 0) hx hb dX14_isWord_24 (by decide) ?_
      obtain ⟨x_14, kx_14, bx_14⟩ := z_learn (j := 16) (lo := (-2147483648)) (hi := 2147483647) h hth (by decide) rfl
      obtain ⟨x_15, kx_15, bx_15⟩ := z_learn (j := 18) (lo := (-2147483648)) (hi := 2147483647) h hth (by decide) rfl
      subst hQ
      exact W.zret (v := 0) hx hb hr (by decide) (fun t ht hW => ⟨⟨0, F, rfl, ⟨rfl, (zB.of ⟨by decide, by decide⟩), (fun h9 => absurd rfl h9), (by obtain ⟨W9, h9⟩ := zD1.mk p_au kx_1 kx_14 kx_15 kg_7; have h8 := h9.wo hr0; have h7 := z_lcmp ex_12; have h6 := q_11; have := bx_12.1; have := bx_12.2; have := bx_1_6.1; have := bx_1_6.2; have := bx_14.1; have := bx_14.2; have := bx_15.1; have := bx_15.2; have : (0 : Int32).toInt = 0 := (by decide); have : (2 : Int32).toInt = 2 := (by decide); have := bx_1_6.1; have := bx_1_6.2; have := bx_14.1; have := bx_14.2; have := bx_15.1; have := bx_15.2; have : (0 : Int32).toInt = 0 := (by decide); have : (2 : Int32).toInt = 2 := (by decide); omega), trivial⟩, by rw [ht]; exact h.1, h.2.1, zFr.rf⟩, h.2.2.F ht⟩) h.2.2.2.2 dX14_isWord_25
    · have c_13 := z_eq c_13
      have bx_12_16 : zB 0 0 x_12 := zB.eqL (a := 0) (b := 0) c_13 (zBc 0 0 (by decide))
      refine lv_iconst (v := 1) hx hb dX14_isWord_20 (by decide) ?_
      refine lv_goto (tgt := 25) hx hb dX14_isWord_21 (by decide) ?_
      obtain ⟨x_17, kx_17, bx_17⟩ := z_learn (j := 16) (lo := (-2147483648)) (hi := 2147483647) h hth (by decide) rfl
      obtain ⟨x_18, kx_18, bx_18⟩ := z_learn (j := 18) (lo := (-2147483648)) (hi := 2147483647) h hth (by decide) rfl
      subst hQ
      exact W.zret (v := 1) hx hb hr (by decide) (fun t ht hW => ⟨⟨1, F, rfl, ⟨rfl, (zB.of ⟨by decide, by decide⟩), (fun _ => ⟨x_1, kx_1, (bx_1_6.w ⟨by decide, by decide⟩), (by have := bx_1_6.1; have := bx_1_6.2; have : (0 : Int32).toInt = 0 := (by decide); have : (1 : Int32).toInt = 1 := (by decide); have : (2 : Int32).toInt = 2 := (by decide); omega)⟩), (by obtain ⟨W9, h9⟩ := zD1.mk p_au kx_1 kx_17 kx_18 kg_7; have h8 := h9.wo hr0; have h7 := z_lcmp ex_12; have h6 := q_11; have := bx_12_16.1; have := bx_12_16.2; have := bx_1_6.1; have := bx_1_6.2; have := bx_17.1; have := bx_17.2; have := bx_18.1; have := bx_18.2; have : (0 : Int32).toInt = 0 := (by decide); have : (1 : Int32).toInt = 1 := (by decide); have : (2 : Int32).toInt = 2 := (by decide); have := bx_1_6.1; have := bx_1_6.2; have := bx_17.1; have := bx_17.2; have := bx_18.1; have := bx_18.2; have : (0 : Int32).toInt = 0 := (by decide); have : (1 : Int32).toInt = 1 := (by decide); have : (2 : Int32).toInt = 2 := (by decide); omega), trivial⟩, by rw [ht]; exact h.1, h.2.1, zFr.rf⟩, h.2.2.F ht⟩) h.2.2.2.2 dX14_isWord_25

set_option maxHeartbeats 4000000 in
set_option maxRecDepth 100000 in
theorem ze_X14_isPlace (l : Launch) (D : va_G) (k : Nat → ClassId) (Γ : Nat → Option Nat) (L : List Nat) (F : Nat → va_E) (sz : Nat) (th : Nat) (tp : Nat) (Bt : Nat → Int32) (nt : Nat) (σ : zSg) (hth : Γ th = some 14) (ktp : zfld F th 10 = .ref tp) (htp : Γ tp = some 152) (p_tk : zTk F th tp) (p_au : zD1 F th Bt nt (σ)) : Met l yX14_isPlace zwX14_isPlace ({ frames := 0, cells := 0, slots := 0, locals := 0 }) (va_Pc [.ref th] (zP D k Γ L F sz)) (va_Qi (fun (r : Int32) (u : Nat → va_E) => F = u ∧ zB 0 1 r ∧ (r ≠ 0 → ∃ (so : Int32) (wd : Int64), zfld u th 14 = .int so ∧ so.toInt = 2 ∧ zfld u th 21 = .long wd ∧ 1 ≤ wd.toInt ∧ wd.toInt ≤ 8) ∧ ((r.toInt = 1 ∧ zkd (zTo Bt nt) 0 σ = 3) ∨ (r.toInt = 0 ∧ zkd (zTo Bt nt) 0 σ ≠ 3)) ∧ True) (zQ D k Γ L F []) (zA L sz)) 0 0 (zA L sz) := by
  refine Met.ofW (cc := cX14_isPlace) (maxL := 1) (ret := (some .boolean)) (by decide) rfl ?_
  intro p e s m args below meth c s₁ B hml hv
  obtain ⟨rfl, hsz, hP, hK, hLn, hE, hI⟩ := hv
  have hx := B.exec
  have hb := B.bytes
  have hr := B.returns
  have hg : ∀ w ∈ zG, w.before _ s = true := fun w h9 => atoms_spec (ws := zwX14_isPlace) B.pre w (List.mem_cons_of_mem _ h9)
  have hown : s.vm.findClass RX14 = some m.cls := findClass_of_methodNamed B.named
  have hlocks := B.notSynchronized
  subst hsz
  have Z : zC p m c cX14_isPlace 1 s _ zG RX14 D k L := ⟨⟨hx, hb, hml, hown, hg⟩, hK, hLn, hE⟩
  have h : zH D k Γ L s F s.heap [] := ⟨hP, hI, va_S.rf⟩
  have hl := lv_entry ([.ref th]) (n := 1) (Nat.le_of_ble_eq_true rfl)
  rw [lg_entry_eq]
  generalize (lg_sl ([.ref th]) ++ List.replicate (1 - (lg_sl ([.ref th])).length) Slot.unset).toArray = ls at hl ⊢
  have hl : lv_has ls 1 [(0, .ref th)] := hl
  clear hP hK hLn hE hI
  generalize hargs : ([.ref th] : List Value).toArray = args at *
  refine z_start (fun R Q hRf hRl hQ => ?_)
  have hRf : R.frames = 0 := hRf
  have hRl : R.locals = 0 := hRl
  have h9 := h
  refine lv_aload_n hx hb dX14_isPlace_0 rfl (lv_at hl 0 rfl) ?_
  refine zt_geti (t := 14) (C := RX14) (T := TX14) (N := 40) Z h hth zin_14 rfl 14 rfl ⟨by decide, rfl⟩ (zm_RX14 (List.mem_of_getElem? (i := 24) rfl)) (fun _ h9 => h9) dX14_isPlace_1 (fun x_1 kx_1 bx_1 => ?_)
  refine lv_iconst (v := 2) hx hb dX14_isPlace_4 (by decide) ?_
  refine lv_icmp_ne (tgt := 31) hx hb dX14_isPlace_5 (by decide) (fun c_2 => ?_) (fun c_2 => ?_)
  · have c_2 := z_ne c_2
    refine lv_iconst (v := 0) hx hb dX14_isPlace_31 (by decide) ?_
    obtain ⟨x_3, kx_3, bx_3⟩ := z_learn (j := 16) (lo := (-2147483648)) (hi := 2147483647) h hth (by decide) rfl
    obtain ⟨x_4, kx_4, bx_4⟩ := z_learn (j := 18) (lo := (-2147483648)) (hi := 2147483647) h hth (by decide) rfl
    obtain ⟨x_5, kx_5⟩ := z_learnl (j := 21) h hth (by decide) rfl
    subst hQ
    exact W.zret (v := 0) hx hb hr (by decide) (fun t ht hW => ⟨⟨0, F, rfl, ⟨rfl, (zB.of ⟨by decide, by decide⟩), (fun h9 => absurd rfl h9), (by obtain ⟨W9, h9⟩ := zD1.mk p_au kx_1 kx_3 kx_4 kx_5; have h8 := h9.pl; have := bx_1.1; have := bx_1.2; have := bx_3.1; have := bx_3.2; have := bx_4.1; have := bx_4.2; have : (0 : Int32).toInt = 0 := (by decide); have : (2 : Int32).toInt = 2 := (by decide); omega), trivial⟩, by rw [ht]; exact h.1, h.2.1, zFr.rf⟩, h.2.2.F ht⟩) h.2.2.2.2 dX14_isPlace_32
  · have c_2 := z_eq c_2
    have bx_1_6 : zB 2 2 x_1 := zB.eqL (a := 0) (b := 0) c_2 (zBc 2 2 (by decide))
    refine lv_aload_n hx hb dX14_isPlace_8 rfl (lv_at hl 0 rfl) ?_
    refine zt_geti (t := 14) (C := RX14) (T := TX14) (N := 40) Z h hth zin_14 rfl 18 rfl ⟨by decide, rfl⟩ (zm_RX14 (List.mem_of_getElem? (i := 29) rfl)) (fun _ h9 => h9) dX14_isPlace_9 (fun x_7 kx_7 bx_7 => ?_)
    refine lv_iconst (v := 1) hx hb dX14_isPlace_12 (by decide) ?_
    refine lv_icmp_ne (tgt := 31) hx hb dX14_isPlace_13 (by decide) (fun c_8 => ?_) (fun c_8 => ?_)
    · have c_8 := z_ne c_8
      refine lv_iconst (v := 0) hx hb dX14_isPlace_31 (by decide) ?_
      obtain ⟨x_9, kx_9, bx_9⟩ := z_learn (j := 16) (lo := (-2147483648)) (hi := 2147483647) h hth (by decide) rfl
      obtain ⟨x_10, kx_10⟩ := z_learnl (j := 21) h hth (by decide) rfl
      subst hQ
      exact W.zret (v := 0) hx hb hr (by decide) (fun t ht hW => ⟨⟨0, F, rfl, ⟨rfl, (zB.of ⟨by decide, by decide⟩), (fun h9 => absurd rfl h9), (by obtain ⟨W9, h9⟩ := zD1.mk p_au kx_1 kx_9 kx_7 kx_10; have h8 := h9.pl; have := bx_1_6.1; have := bx_1_6.2; have := bx_9.1; have := bx_9.2; have := bx_7.1; have := bx_7.2; have : (0 : Int32).toInt = 0 := (by decide); have : (1 : Int32).toInt = 1 := (by decide); have : (2 : Int32).toInt = 2 := (by decide); omega), trivial⟩, by rw [ht]; exact h.1, h.2.1, zFr.rf⟩, h.2.2.F ht⟩) h.2.2.2.2 dX14_isPlace_32
    · have c_8 := z_eq c_8
      have bx_7_11 : zB 1 1 x_7 := zB.eqL (a := 0) (b := 0) c_8 (zBc 1 1 (by decide))
      refine lv_aload_n hx hb dX14_isPlace_16 rfl (lv_at hl 0 rfl) ?_
      refine zt_getl (t := 14) (C := RX14) (T := TX14) (N := 40) Z h hth zin_14 rfl 21 rfl ⟨by decide, rfl⟩ (zm_RX14 (List.mem_of_getElem? (i := 28) rfl)) (fun _ h9 => h9) dX14_isPlace_17 (fun g_12 kg_12 => ?_)
      refine lv_ldc2 hx hb hown (hg _ (zm_RX14 (List.mem_of_getElem? (i := 51) rfl))) dX14_isPlace_20 ?_
      refine W.lcmp hx hb dX14_isPlace_23 ?_
      refine zi_any (fun x_13 bx_13 ex_13 => ?_)
      refine lv_if_gt (tgt := 31) hx hb dX14_isPlace_24 (by decide) (fun c_14 => ?_) (fun c_14 => ?_)
      · have c_14 := z_lt c_14
        have bx_13_15 : zB 1 2147483647 x_13 := zB.ltR c_14 (zBc 0 0 (by decide)) bx_13 (by decide)
        refine lv_iconst (v := 0) hx hb dX14_isPlace_31 (by decide) ?_
        obtain ⟨x_16, kx_16, bx_16⟩ := z_learn (j := 16) (lo := (-2147483648)) (hi := 2147483647) h hth (by decide) rfl
        subst hQ
        exact W.zret (v := 0) hx hb hr (by decide) (fun t ht hW => ⟨⟨0, F, rfl, ⟨rfl, (zB.of ⟨by decide, by decide⟩), (fun h9 => absurd rfl h9), (by obtain ⟨W9, h9⟩ := zD1.mk p_au kx_1 kx_16 kx_7 kg_12; have h8 := h9.pl; have h7 := z_lcmp2 ex_13; have e8 : (8 : Int64).toInt = 8 := (by decide); have := bx_13_15.1; have := bx_13_15.2; have := bx_1_6.1; have := bx_1_6.2; have := bx_7_11.1; have := bx_7_11.2; have := bx_16.1; have := bx_16.2; have : (0 : Int32).toInt = 0 := (by decide); have : (1 : Int32).toInt = 1 := (by decide); have : (2 : Int32).toInt = 2 := (by decide); have := bx_1_6.1; have := bx_1_6.2; have := bx_16.1; have := bx_16.2; have := bx_7_11.1; have := bx_7_11.2; have : (0 : Int32).toInt = 0 := (by decide); have : (1 : Int32).toInt = 1 := (by decide); have : (2 : Int32).toInt = 2 := (by decide); omega), trivial⟩, by rw [ht]; exact h.1, h.2.1, zFr.rf⟩, h.2.2.F ht⟩) h.2.2.2.2 dX14_isPlace_32
      · have c_14 := z_nlt c_14
        have bx_13_17 : zB (-2147483648) 0 x_13 := zB.leL c_14 bx_13 (zBc 0 0 (by decide)) (by decide)
        refine lv_iconst (v := 1) hx hb dX14_isPlace_27 (by decide) ?_
        refine lv_goto (tgt := 32) hx hb dX14_isPlace_28 (by decide) ?_
        obtain ⟨x_18, kx_18, bx_18⟩ := z_learn (j := 16) (lo := (-2147483648)) (hi := 2147483647) h hth (by decide) rfl
        subst hQ
        exact W.zret (v := 1) hx hb hr (by decide) (fun t ht hW => ⟨⟨1, F, rfl, ⟨rfl, (zB.of ⟨by decide, by decide⟩), (fun _ => ⟨x_1, g_12, kx_1, (by have := bx_1_6.1; have := bx_1_6.2; have := bx_7_11.1; have := bx_7_11.2; have : (0 : Int32).toInt = 0 := (by decide); have : (1 : Int32).toInt = 1 := (by decide); have : (2 : Int32).toInt = 2 := (by decide); omega), kg_12, zTk.word p_tk kx_1 kx_7 kg_12 (by have := bx_1_6.1; have := bx_1_6.2; have := bx_7_11.1; have := bx_7_11.2; have : (0 : Int32).toInt = 0 := (by decide); have : (1 : Int32).toInt = 1 := (by decide); have : (2 : Int32).toInt = 2 := (by decide); omega) (by have := bx_7_11.1; have := bx_7_11.2; have := bx_1_6.1; have := bx_1_6.2; have : (0 : Int32).toInt = 0 := (by decide); have : (1 : Int32).toInt = 1 := (by decide); have : (2 : Int32).toInt = 2 := (by decide); omega), (by have := z_lle ex_13 (by have := bx_13_17.1; have := bx_13_17.2; have := bx_1_6.1; have := bx_1_6.2; have := bx_7_11.1; have := bx_7_11.2; have : (0 : Int32).toInt = 0 := (by decide); have : (1 : Int32).toInt = 1 := (by decide); have : (2 : Int32).toInt = 2 := (by decide); omega); have e8 : (8 : Int64).toInt = 8 := (by decide); omega)⟩), (by obtain ⟨W9, h9⟩ := zD1.mk p_au kx_1 kx_18 kx_7 kg_12; have h8 := h9.pl; have h7 := z_lcmp2 ex_13; have e8 : (8 : Int64).toInt = 8 := (by decide); have := bx_13_17.1; have := bx_13_17.2; have := bx_1_6.1; have := bx_1_6.2; have := bx_7_11.1; have := bx_7_11.2; have := bx_18.1; have := bx_18.2; have : (0 : Int32).toInt = 0 := (by decide); have : (1 : Int32).toInt = 1 := (by decide); have : (2 : Int32).toInt = 2 := (by decide); have := bx_1_6.1; have := bx_1_6.2; have := bx_18.1; have := bx_18.2; have := bx_7_11.1; have := bx_7_11.2; have : (0 : Int32).toInt = 0 := (by decide); have : (1 : Int32).toInt = 1 := (by decide); have : (2 : Int32).toInt = 2 := (by decide); omega), trivial⟩, by rw [ht]; exact h.1, h.2.1, zFr.rf⟩, h.2.2.F ht⟩) h.2.2.2.2 dX14_isPlace_32

set_option maxHeartbeats 4000000 in
set_option maxRecDepth 100000 in
theorem ze_X14_isName (l : Launch) (D : va_G) (k : Nat → ClassId) (Γ : Nat → Option Nat) (L : List Nat) (F : Nat → va_E) (sz : Nat) (th : Nat) (Bt : Nat → Int32) (nt : Nat) (σ : zSg) (hth : Γ th = some 14) (p_au : zD1 F th Bt nt (σ)) : Met l yX14_isName zwX14_isName ({ frames := 6, cells := 0, slots := 0, locals := 129 }) (va_Pc [.ref th] (zP D k Γ L F sz)) (va_Qi (fun (r : Int32) (u : Nat → va_E) => F = u ∧ zB 0 1 r ∧ (r ≠ 0 → ∃ (so : Int32), zfld u th 14 = .int so ∧ zB (-2147483648) 2147483647 so ∧ (so.toInt = 2)) ∧ ((r.toInt = 1 ∧ zkd (zTo Bt nt) 0 σ = 4) ∨ (r.toInt = 0 ∧ zkd (zTo Bt nt) 0 σ ≠ 4)) ∧ True) (zQ D k Γ L F []) (zA L sz)) 0 0 (zA L sz) := by
  refine Met.ofW (cc := cX14_isName) (maxL := 1) (ret := (some .boolean)) (by decide) rfl ?_
  intro p e s m args below meth c s₁ B hml hv
  obtain ⟨rfl, hsz, hP, hK, hLn, hE, hI⟩ := hv
  have hx := B.exec
  have hb := B.bytes
  have hr := B.returns
  have hg : ∀ w ∈ zG, w.before _ s = true := fun w h9 => atoms_spec (ws := zwX14_isName) B.pre w (List.mem_cons_of_mem _ h9)
  have hown : s.vm.findClass RX14 = some m.cls := findClass_of_methodNamed B.named
  have hlocks := B.notSynchronized
  subst hsz
  have Z : zC p m c cX14_isName 1 s _ zG RX14 D k L := ⟨⟨hx, hb, hml, hown, hg⟩, hK, hLn, hE⟩
  have h : zH D k Γ L s F s.heap [] := ⟨hP, hI, va_S.rf⟩
  have hl := lv_entry ([.ref th]) (n := 1) (Nat.le_of_ble_eq_true rfl)
  rw [lg_entry_eq]
  generalize (lg_sl ([.ref th]) ++ List.replicate (1 - (lg_sl ([.ref th])).length) Slot.unset).toArray = ls at hl ⊢
  have hl : lv_has ls 1 [(0, .ref th)] := hl
  clear hP hK hLn hE hI
  generalize hargs : ([.ref th] : List Value).toArray = args at *
  refine z_start (fun R Q hRf hRl hQ => ?_)
  have hRf : R.frames = 6 := hRf
  have hRl : R.locals = 129 := hRl
  have h9 := h
  refine lv_aload_n hx hb dX14_isName_0 rfl (lv_at hl 0 rfl) ?_
  refine zt_geti (t := 14) (C := RX14) (T := TX14) (N := 40) Z h hth zin_14 rfl 14 rfl ⟨by decide, rfl⟩ (zm_RX14 (List.mem_of_getElem? (i := 24) rfl)) (fun _ h9 => h9) dX14_isName_1 (fun x_1 kx_1 bx_1 => ?_)
  refine lv_iconst (v := 2) hx hb dX14_isName_4 (by decide) ?_
  refine lv_icmp_ne (tgt := 74) hx hb dX14_isName_5 (by decide) (fun c_2 => ?_) (fun c_2 => ?_)
  · have c_2 := z_ne c_2
    refine lv_iconst (v := 0) hx hb dX14_isName_74 (by decide) ?_
    obtain ⟨x_3, kx_3, bx_3⟩ := z_learn (j := 16) (lo := (-2147483648)) (hi := 2147483647) h hth (by decide) rfl
    obtain ⟨x_4, kx_4, bx_4⟩ := z_learn (j := 18) (lo := (-2147483648)) (hi := 2147483647) h hth (by decide) rfl
    obtain ⟨x_5, kx_5⟩ := z_learnl (j := 21) h hth (by decide) rfl
    subst hQ
    exact W.zret (v := 0) hx hb hr (by decide) (fun t ht hW => ⟨⟨0, F, rfl, ⟨rfl, (zB.of ⟨by decide, by decide⟩), (fun h9 => absurd rfl h9), (by obtain ⟨W9, h9⟩ := zD1.mk p_au kx_1 kx_3 kx_4 kx_5; have h8 := h9.nb; have : zcd 6 = 5 := rfl; have : zcd 7 = 6 := rfl; have : zcd 8 = 7 := rfl; have : zcd 9 = 8 := rfl; have : zcd 10 = 9 := rfl; have : zcd 11 = 10 := rfl; have := bx_1.1; have := bx_1.2; have := bx_3.1; have := bx_3.2; have := bx_4.1; have := bx_4.2; have : (0 : Int32).toInt = 0 := (by decide); have : (2 : Int32).toInt = 2 := (by decide); omega), trivial⟩, by rw [ht]; exact h.1, h.2.1, zFr.rf⟩, h.2.2.F ht⟩) h.2.2.2.2 dX14_isName_75
  · have c_2 := z_eq c_2
    have bx_1_6 : zB 2 2 x_1 := zB.eqL (a := 0) (b := 0) c_2 (zBc 2 2 (by decide))
    refine lv_aload_n hx hb dX14_isName_8 rfl (lv_at hl 0 rfl) ?_
    refine zt_geti (t := 14) (C := RX14) (T := TX14) (N := 40) Z h hth zin_14 rfl 18 rfl ⟨by decide, rfl⟩ (zm_RX14 (List.mem_of_getElem? (i := 29) rfl)) (fun _ h9 => h9) dX14_isName_9 (fun x_7 kx_7 bx_7 => ?_)
    refine lv_iconst (v := 1) hx hb dX14_isName_12 (by decide) ?_
    refine lv_icmp_le (tgt := 74) hx hb dX14_isName_13 (by decide) (fun c_8 => ?_) (fun c_8 => ?_)
    · have c_8 := z_le c_8
      have bx_7_9 : zB (-2147483648) 1 x_7 := zB.leL c_8 bx_7 (zBc 1 1 (by decide)) (by decide)
      refine lv_iconst (v := 0) hx hb dX14_isName_74 (by decide) ?_
      obtain ⟨x_10, kx_10, bx_10⟩ := z_learn (j := 16) (lo := (-2147483648)) (hi := 2147483647) h hth (by decide) rfl
      obtain ⟨x_11, kx_11⟩ := z_learnl (j := 21) h hth (by decide) rfl
      subst hQ
      exact W.zret (v := 0) hx hb hr (by decide) (fun t ht hW => ⟨⟨0, F, rfl, ⟨rfl, (zB.of ⟨by decide, by decide⟩), (fun h9 => absurd rfl h9), (by obtain ⟨W9, h9⟩ := zD1.mk p_au kx_1 kx_10 kx_7 kx_11; have h8 := h9.nb; have : zcd 6 = 5 := rfl; have : zcd 7 = 6 := rfl; have : zcd 8 = 7 := rfl; have : zcd 9 = 8 := rfl; have : zcd 10 = 9 := rfl; have : zcd 11 = 10 := rfl; have := bx_1_6.1; have := bx_1_6.2; have := bx_10.1; have := bx_10.2; have := bx_7_9.1; have := bx_7_9.2; have : (0 : Int32).toInt = 0 := (by decide); have : (1 : Int32).toInt = 1 := (by decide); have : (2 : Int32).toInt = 2 := (by decide); omega), trivial⟩, by rw [ht]; exact h.1, h.2.1, zFr.rf⟩, h.2.2.F ht⟩) h.2.2.2.2 dX14_isName_75
    · have c_8 := z_nle c_8
      have bx_7_12 : zB 2 2147483647 x_7 := zB.ltR c_8 (zBc 1 1 (by decide)) bx_7 (by decide)
      refine lv_aload_n hx hb dX14_isName_16 rfl (lv_at hl 0 rfl) ?_
      refine va_ldcS hx hb hown (zsR_6 Z) dX14_isName_17 ?_
      refine zk_Vi (As := [.ref (D.2 99 6)]) (rest := []) (bytes := cX14_isWord) (maxL := 2) (ret := (some .boolean)) Z h (ze_X14_isWord l D k Γ L F s.heap.size th 6 (RX14, 152, "def", 3) Bt nt σ hth zs_6 p_au (by decide)) (cwV 1 hg zv_RX14_154 rfl rfl rfl zd_X14_isWord ⟨z_leR hRf (by decide), z_leR hRl (by decide)⟩) hth (by decide) rfl rfl hl.1 rfl (Nat.le_of_ble_eq_true rfl) dX14_isName_19 ⟨Nat.zero_le _, Nat.zero_le _⟩ (fun r_13 F_14 H locs w_15 h hfF_14 => ?_)
      obtain ⟨rfl, br_13, q_16, q_17, -⟩ := w_15
      refine lv_if_ne (tgt := 74) hx hb dX14_isName_22 (by decide) (fun c_18 => ?_) (fun c_18 => ?_)
      · obtain ⟨x_19, kx_19, bx_19, q_20⟩ := q_16 c_18
        have c_18 := z_ne c_18
        have br_13_21 : zB 1 1 r_13 := zB.neLo c_18 br_13 (zBc 0 0 (by decide)) (by decide)
        refine lv_iconst (v := 0) hx hb dX14_isName_74 (by decide) ?_
        obtain ⟨x_22, kx_22, bx_22⟩ := z_learn (j := 16) (lo := (-2147483648)) (hi := 2147483647) h hth (by decide) rfl
        obtain ⟨x_23, kx_23⟩ := z_learnl (j := 21) h hth (by decide) rfl
        subst hQ
        exact W.zret (v := 0) hx hb hr (by decide) (fun t ht hW => ⟨⟨0, F, rfl, ⟨rfl, (zB.of ⟨by decide, by decide⟩), (fun h9 => absurd rfl h9), (by obtain ⟨W9, h9⟩ := zD1.mk p_au kx_19 kx_22 kx_7 kx_23; have h8 := h9.nb; have : zcd 6 = 5 := rfl; have : zcd 7 = 6 := rfl; have : zcd 8 = 7 := rfl; have : zcd 9 = 8 := rfl; have : zcd 10 = 9 := rfl; have : zcd 11 = 10 := rfl; have := bx_19.1; have := bx_19.2; have := bx_22.1; have := bx_22.2; have := bx_7_12.1; have := bx_7_12.2; have : (0 : Int32).toInt = 0 := (by decide); have : (1 : Int32).toInt = 1 := (by decide); have : (2 : Int32).toInt = 2 := (by decide); omega), trivial⟩, by rw [ht]; exact h.1, h.2.1, zFr.rf⟩, h.2.2.F ht⟩) h.2.2.2.2 dX14_isName_75
      · have c_18 := z_eq c_18
        have br_13_24 : zB 0 0 r_13 := zB.eqL (a := 0) (b := 0) c_18 (zBc 0 0 (by decide))
        refine lv_aload_n hx hb dX14_isName_25 rfl (lv_at hl 0 rfl) ?_
        refine va_ldcS hx hb hown (zsR_7 Z) dX14_isName_26 ?_
        refine zk_Vi (As := [.ref (D.2 99 7)]) (rest := []) (bytes := cX14_isWord) (maxL := 2) (ret := (some .boolean)) Z h (ze_X14_isWord l D k Γ L F H.size th 7 (RX14, 158, "say", 3) Bt nt σ hth zs_7 p_au (by decide)) (cwV 1 hg zv_RX14_154 rfl rfl rfl zd_X14_isWord ⟨z_leR hRf (by decide), z_leR hRl (by decide)⟩) hth (by decide) rfl rfl hl.1 rfl (Nat.le_of_ble_eq_true rfl) dX14_isName_28 ⟨Nat.zero_le _, Nat.zero_le _⟩ (fun r_25 F_26 H locs w_27 h hfF_26 => ?_)
        obtain ⟨rfl, br_25, q_28, q_29, -⟩ := w_27
        refine lv_if_ne (tgt := 74) hx hb dX14_isName_31 (by decide) (fun c_30 => ?_) (fun c_30 => ?_)
        · obtain ⟨x_31, kx_31, bx_31, q_32⟩ := q_28 c_30
          have c_30 := z_ne c_30
          have br_25_33 : zB 1 1 r_25 := zB.neLo c_30 br_25 (zBc 0 0 (by decide)) (by decide)
          refine lv_iconst (v := 0) hx hb dX14_isName_74 (by decide) ?_
          obtain ⟨x_34, kx_34, bx_34⟩ := z_learn (j := 16) (lo := (-2147483648)) (hi := 2147483647) h hth (by decide) rfl
          obtain ⟨x_35, kx_35⟩ := z_learnl (j := 21) h hth (by decide) rfl
          subst hQ
          exact W.zret (v := 0) hx hb hr (by decide) (fun t ht hW => ⟨⟨0, F, rfl, ⟨rfl, (zB.of ⟨by decide, by decide⟩), (fun h9 => absurd rfl h9), (by obtain ⟨W9, h9⟩ := zD1.mk p_au kx_31 kx_34 kx_7 kx_35; have h8 := h9.nb; have : zcd 6 = 5 := rfl; have : zcd 7 = 6 := rfl; have : zcd 8 = 7 := rfl; have : zcd 9 = 8 := rfl; have : zcd 10 = 9 := rfl; have : zcd 11 = 10 := rfl; have := bx_31.1; have := bx_31.2; have := bx_34.1; have := bx_34.2; have := bx_7_12.1; have := bx_7_12.2; have : (0 : Int32).toInt = 0 := (by decide); have : (1 : Int32).toInt = 1 := (by decide); have : (2 : Int32).toInt = 2 := (by decide); omega), trivial⟩, by rw [ht]; exact h.1, h.2.1, zFr.rf⟩, h.2.2.F ht⟩) h.2.2.2.2 dX14_isName_75
        · have c_30 := z_eq c_30
          have br_25_36 : zB 0 0 r_25 := zB.eqL (a := 0) (b := 0) c_30 (zBc 0 0 (by decide))
          refine lv_aload_n hx hb dX14_isName_34 rfl (lv_at hl 0 rfl) ?_
          refine va_ldcS hx hb hown (zsR_8 Z) dX14_isName_35 ?_
          refine zk_Vi (As := [.ref (D.2 99 8)]) (rest := []) (bytes := cX14_isWord) (maxL := 2) (ret := (some .boolean)) Z h (ze_X14_isWord l D k Γ L F H.size th 8 (RX14, 160, "return", 6) Bt nt σ hth zs_8 p_au (by decide)) (cwV 1 hg zv_RX14_154 rfl rfl rfl zd_X14_isWord ⟨z_leR hRf (by decide), z_leR hRl (by decide)⟩) hth (by decide) rfl rfl hl.1 rfl (Nat.le_of_ble_eq_true rfl) dX14_isName_37 ⟨Nat.zero_le _, Nat.zero_le _⟩ (fun r_37 F_38 H locs w_39 h hfF_38 => ?_)
          obtain ⟨rfl, br_37, q_40, q_41, -⟩ := w_39
          refine lv_if_ne (tgt := 74) hx hb dX14_isName_40 (by decide) (fun c_42 => ?_) (fun c_42 => ?_)
          · obtain ⟨x_43, kx_43, bx_43, q_44⟩ := q_40 c_42
            have c_42 := z_ne c_42
            have br_37_45 : zB 1 1 r_37 := zB.neLo c_42 br_37 (zBc 0 0 (by decide)) (by decide)
            refine lv_iconst (v := 0) hx hb dX14_isName_74 (by decide) ?_
            obtain ⟨x_46, kx_46, bx_46⟩ := z_learn (j := 16) (lo := (-2147483648)) (hi := 2147483647) h hth (by decide) rfl
            obtain ⟨x_47, kx_47⟩ := z_learnl (j := 21) h hth (by decide) rfl
            subst hQ
            exact W.zret (v := 0) hx hb hr (by decide) (fun t ht hW => ⟨⟨0, F, rfl, ⟨rfl, (zB.of ⟨by decide, by decide⟩), (fun h9 => absurd rfl h9), (by obtain ⟨W9, h9⟩ := zD1.mk p_au kx_43 kx_46 kx_7 kx_47; have h8 := h9.nb; have : zcd 6 = 5 := rfl; have : zcd 7 = 6 := rfl; have : zcd 8 = 7 := rfl; have : zcd 9 = 8 := rfl; have : zcd 10 = 9 := rfl; have : zcd 11 = 10 := rfl; have := bx_43.1; have := bx_43.2; have := bx_46.1; have := bx_46.2; have := bx_7_12.1; have := bx_7_12.2; have : (0 : Int32).toInt = 0 := (by decide); have : (1 : Int32).toInt = 1 := (by decide); have : (2 : Int32).toInt = 2 := (by decide); omega), trivial⟩, by rw [ht]; exact h.1, h.2.1, zFr.rf⟩, h.2.2.F ht⟩) h.2.2.2.2 dX14_isName_75
          · have c_42 := z_eq c_42
            have br_37_48 : zB 0 0 r_37 := zB.eqL (a := 0) (b := 0) c_42 (zBc 0 0 (by decide))
            refine lv_aload_n hx hb dX14_isName_43 rfl (lv_at hl 0 rfl) ?_
            refine va_ldcS hx hb hown (zsR_9 Z) dX14_isName_44 ?_
            refine zk_Vi (As := [.ref (D.2 99 9)]) (rest := []) (bytes := cX14_isWord) (maxL := 2) (ret := (some .boolean)) Z h (ze_X14_isWord l D k Γ L F H.size th 9 (RX14, 162, "if", 2) Bt nt σ hth zs_9 p_au (by decide)) (cwV 1 hg zv_RX14_154 rfl rfl rfl zd_X14_isWord ⟨z_leR hRf (by decide), z_leR hRl (by decide)⟩) hth (by decide) rfl rfl hl.1 rfl (Nat.le_of_ble_eq_true rfl) dX14_isName_46 ⟨Nat.zero_le _, Nat.zero_le _⟩ (fun r_49 F_50 H locs w_51 h hfF_50 => ?_)
            obtain ⟨rfl, br_49, q_52, q_53, -⟩ := w_51
            refine lv_if_ne (tgt := 74) hx hb dX14_isName_49 (by decide) (fun c_54 => ?_) (fun c_54 => ?_)
            · obtain ⟨x_55, kx_55, bx_55, q_56⟩ := q_52 c_54
              have c_54 := z_ne c_54
              have br_49_57 : zB 1 1 r_49 := zB.neLo c_54 br_49 (zBc 0 0 (by decide)) (by decide)
              refine lv_iconst (v := 0) hx hb dX14_isName_74 (by decide) ?_
              obtain ⟨x_58, kx_58, bx_58⟩ := z_learn (j := 16) (lo := (-2147483648)) (hi := 2147483647) h hth (by decide) rfl
              obtain ⟨x_59, kx_59⟩ := z_learnl (j := 21) h hth (by decide) rfl
              subst hQ
              exact W.zret (v := 0) hx hb hr (by decide) (fun t ht hW => ⟨⟨0, F, rfl, ⟨rfl, (zB.of ⟨by decide, by decide⟩), (fun h9 => absurd rfl h9), (by obtain ⟨W9, h9⟩ := zD1.mk p_au kx_55 kx_58 kx_7 kx_59; have h8 := h9.nb; have : zcd 6 = 5 := rfl; have : zcd 7 = 6 := rfl; have : zcd 8 = 7 := rfl; have : zcd 9 = 8 := rfl; have : zcd 10 = 9 := rfl; have : zcd 11 = 10 := rfl; have := bx_55.1; have := bx_55.2; have := bx_58.1; have := bx_58.2; have := bx_7_12.1; have := bx_7_12.2; have : (0 : Int32).toInt = 0 := (by decide); have : (1 : Int32).toInt = 1 := (by decide); have : (2 : Int32).toInt = 2 := (by decide); omega), trivial⟩, by rw [ht]; exact h.1, h.2.1, zFr.rf⟩, h.2.2.F ht⟩) h.2.2.2.2 dX14_isName_75
            · have c_54 := z_eq c_54
              have br_49_60 : zB 0 0 r_49 := zB.eqL (a := 0) (b := 0) c_54 (zBc 0 0 (by decide))
              refine lv_aload_n hx hb dX14_isName_52 rfl (lv_at hl 0 rfl) ?_
              refine va_ldcS hx hb hown (zsR_10 Z) dX14_isName_53 ?_
              refine zk_Vi (As := [.ref (D.2 99 10)]) (rest := []) (bytes := cX14_isWord) (maxL := 2) (ret := (some .boolean)) Z h (ze_X14_isWord l D k Γ L F H.size th 10 (RX14, 164, "else", 4) Bt nt σ hth zs_10 p_au (by decide)) (cwV 1 hg zv_RX14_154 rfl rfl rfl zd_X14_isWord ⟨z_leR hRf (by decide), z_leR hRl (by decide)⟩) hth (by decide) rfl rfl hl.1 rfl (Nat.le_of_ble_eq_true rfl) dX14_isName_55 ⟨Nat.zero_le _, Nat.zero_le _⟩ (fun r_61 F_62 H locs w_63 h hfF_62 => ?_)
              obtain ⟨rfl, br_61, q_64, q_65, -⟩ := w_63
              refine lv_if_ne (tgt := 74) hx hb dX14_isName_58 (by decide) (fun c_66 => ?_) (fun c_66 => ?_)
              · obtain ⟨x_67, kx_67, bx_67, q_68⟩ := q_64 c_66
                have c_66 := z_ne c_66
                have br_61_69 : zB 1 1 r_61 := zB.neLo c_66 br_61 (zBc 0 0 (by decide)) (by decide)
                refine lv_iconst (v := 0) hx hb dX14_isName_74 (by decide) ?_
                obtain ⟨x_70, kx_70, bx_70⟩ := z_learn (j := 16) (lo := (-2147483648)) (hi := 2147483647) h hth (by decide) rfl
                obtain ⟨x_71, kx_71⟩ := z_learnl (j := 21) h hth (by decide) rfl
                subst hQ
                exact W.zret (v := 0) hx hb hr (by decide) (fun t ht hW => ⟨⟨0, F, rfl, ⟨rfl, (zB.of ⟨by decide, by decide⟩), (fun h9 => absurd rfl h9), (by obtain ⟨W9, h9⟩ := zD1.mk p_au kx_67 kx_70 kx_7 kx_71; have h8 := h9.nb; have : zcd 6 = 5 := rfl; have : zcd 7 = 6 := rfl; have : zcd 8 = 7 := rfl; have : zcd 9 = 8 := rfl; have : zcd 10 = 9 := rfl; have : zcd 11 = 10 := rfl; have := bx_67.1; have := bx_67.2; have := bx_70.1; have := bx_70.2; have := bx_7_12.1; have := bx_7_12.2; have : (0 : Int32).toInt = 0 := (by decide); have : (1 : Int32).toInt = 1 := (by decide); have : (2 : Int32).toInt = 2 := (by decide); omega), trivial⟩, by rw [ht]; exact h.1, h.2.1, zFr.rf⟩, h.2.2.F ht⟩) h.2.2.2.2 dX14_isName_75
              · have c_66 := z_eq c_66
                have br_61_72 : zB 0 0 r_61 := zB.eqL (a := 0) (b := 0) c_66 (zBc 0 0 (by decide))
                refine lv_aload_n hx hb dX14_isName_61 rfl (lv_at hl 0 rfl) ?_
                refine va_ldcS hx hb hown (zsR_11 Z) dX14_isName_62 ?_
                refine zk_Vi (As := [.ref (D.2 99 11)]) (rest := []) (bytes := cX14_isWord) (maxL := 2) (ret := (some .boolean)) Z h (ze_X14_isWord l D k Γ L F H.size th 11 (RX14, 166, "while", 5) Bt nt σ hth zs_11 p_au (by decide)) (cwV 1 hg zv_RX14_154 rfl rfl rfl zd_X14_isWord ⟨z_leR hRf (by decide), z_leR hRl (by decide)⟩) hth (by decide) rfl rfl hl.1 rfl (Nat.le_of_ble_eq_true rfl) dX14_isName_64 ⟨Nat.zero_le _, Nat.zero_le _⟩ (fun r_73 F_74 H locs w_75 h hfF_74 => ?_)
                obtain ⟨rfl, br_73, q_76, q_77, -⟩ := w_75
                refine lv_if_ne (tgt := 74) hx hb dX14_isName_67 (by decide) (fun c_78 => ?_) (fun c_78 => ?_)
                · obtain ⟨x_79, kx_79, bx_79, q_80⟩ := q_76 c_78
                  have c_78 := z_ne c_78
                  have br_73_81 : zB 1 1 r_73 := zB.neLo c_78 br_73 (zBc 0 0 (by decide)) (by decide)
                  refine lv_iconst (v := 0) hx hb dX14_isName_74 (by decide) ?_
                  obtain ⟨x_82, kx_82, bx_82⟩ := z_learn (j := 16) (lo := (-2147483648)) (hi := 2147483647) h hth (by decide) rfl
                  obtain ⟨x_83, kx_83⟩ := z_learnl (j := 21) h hth (by decide) rfl
                  subst hQ
                  exact W.zret (v := 0) hx hb hr (by decide) (fun t ht hW => ⟨⟨0, F, rfl, ⟨rfl, (zB.of ⟨by decide, by decide⟩), (fun h9 => absurd rfl h9), (by obtain ⟨W9, h9⟩ := zD1.mk p_au kx_79 kx_82 kx_7 kx_83; have h8 := h9.nb; have : zcd 6 = 5 := rfl; have : zcd 7 = 6 := rfl; have : zcd 8 = 7 := rfl; have : zcd 9 = 8 := rfl; have : zcd 10 = 9 := rfl; have : zcd 11 = 10 := rfl; have := bx_79.1; have := bx_79.2; have := bx_82.1; have := bx_82.2; have := bx_7_12.1; have := bx_7_12.2; have : (0 : Int32).toInt = 0 := (by decide); have : (1 : Int32).toInt = 1 := (by decide); have : (2 : Int32).toInt = 2 := (by decide); omega), trivial⟩, by rw [ht]; exact h.1, h.2.1, zFr.rf⟩, h.2.2.F ht⟩) h.2.2.2.2 dX14_isName_75
                · have c_78 := z_eq c_78
                  have br_73_84 : zB 0 0 r_73 := zB.eqL (a := 0) (b := 0) c_78 (zBc 0 0 (by decide))
                  refine lv_iconst (v := 1) hx hb dX14_isName_70 (by decide) ?_
                  refine lv_goto (tgt := 75) hx hb dX14_isName_71 (by decide) ?_
                  obtain ⟨x_85, kx_85, bx_85⟩ := z_learn (j := 16) (lo := (-2147483648)) (hi := 2147483647) h hth (by decide) rfl
                  obtain ⟨x_86, kx_86⟩ := z_learnl (j := 21) h hth (by decide) rfl
                  subst hQ
                  exact W.zret (v := 1) hx hb hr (by decide) (fun t ht hW => ⟨⟨1, F, rfl, ⟨rfl, (zB.of ⟨by decide, by decide⟩), (fun _ => ⟨x_1, kx_1, (bx_1_6.w ⟨by decide, by decide⟩), (by have := bx_1_6.1; have := bx_1_6.2; have := bx_7_12.1; have := bx_7_12.2; have : (0 : Int32).toInt = 0 := (by decide); have : (1 : Int32).toInt = 1 := (by decide); have : (2 : Int32).toInt = 2 := (by decide); omega)⟩), (by obtain ⟨W9, h9⟩ := zD1.mk p_au kx_1 kx_85 kx_7 kx_86; have h8 := h9.nb; have : zcd 6 = 5 := rfl; have : zcd 7 = 6 := rfl; have : zcd 8 = 7 := rfl; have : zcd 9 = 8 := rfl; have : zcd 10 = 9 := rfl; have : zcd 11 = 10 := rfl; have := bx_1_6.1; have := bx_1_6.2; have := bx_85.1; have := bx_85.2; have := bx_7_12.1; have := bx_7_12.2; have : (0 : Int32).toInt = 0 := (by decide); have : (1 : Int32).toInt = 1 := (by decide); have : (2 : Int32).toInt = 2 := (by decide); omega), trivial⟩, by rw [ht]; exact h.1, h.2.1, zFr.rf⟩, h.2.2.F ht⟩) h.2.2.2.2 dX14_isName_75

set_option maxHeartbeats 4000000 in
set_option maxRecDepth 100000 in
theorem ze_X14_canBegin (l : Launch) (D : va_G) (k : Nat → ClassId) (Γ : Nat → Option Nat) (L : List Nat) (F : Nat → va_E) (sz : Nat) (th : Nat) (tp : Nat) (Bt : Nat → Int32) (nt : Nat) (σ : zSg) (hth : Γ th = some 14) (ktp : zfld F th 10 = .ref tp) (htp : Γ tp = some 152) (p_tk : zTk F th tp) (p_au : zD1 F th Bt nt (σ)) : Met l yX14_canBegin zwX14_canBegin ({ frames := 7, cells := 0, slots := 0, locals := 149 }) (va_Pc [.ref th] (zP D k Γ L F sz)) (va_Qi (fun (r : Int32) (u : Nat → va_E) => F = u ∧ zB 0 1 r ∧ (r ≠ 0 → ∃ (so : Int32), zfld u th 14 = .int so ∧ zB (-2147483648) 2147483647 so ∧ (2 ≤ so.toInt)) ∧ ((r.toInt = 1 ∧ zbeg (zkd (zTo Bt nt) 0 σ)) ∨ (r.toInt = 0 ∧ ¬ zbeg (zkd (zTo Bt nt) 0 σ))) ∧ True) (zQ D k Γ L F []) (zA L sz)) 0 0 (zA L sz) := by
  refine Met.ofW (cc := cX14_canBegin) (maxL := 1) (ret := (some .boolean)) (by decide) rfl ?_
  intro p e s m args below meth c s₁ B hml hv
  obtain ⟨rfl, hsz, hP, hK, hLn, hE, hI⟩ := hv
  have hx := B.exec
  have hb := B.bytes
  have hr := B.returns
  have hg : ∀ w ∈ zG, w.before _ s = true := fun w h9 => atoms_spec (ws := zwX14_canBegin) B.pre w (List.mem_cons_of_mem _ h9)
  have hown : s.vm.findClass RX14 = some m.cls := findClass_of_methodNamed B.named
  have hlocks := B.notSynchronized
  subst hsz
  have Z : zC p m c cX14_canBegin 1 s _ zG RX14 D k L := ⟨⟨hx, hb, hml, hown, hg⟩, hK, hLn, hE⟩
  have h : zH D k Γ L s F s.heap [] := ⟨hP, hI, va_S.rf⟩
  have hl := lv_entry ([.ref th]) (n := 1) (Nat.le_of_ble_eq_true rfl)
  rw [lg_entry_eq]
  generalize (lg_sl ([.ref th]) ++ List.replicate (1 - (lg_sl ([.ref th])).length) Slot.unset).toArray = ls at hl ⊢
  have hl : lv_has ls 1 [(0, .ref th)] := hl
  clear hP hK hLn hE hI
  generalize hargs : ([.ref th] : List Value).toArray = args at *
  refine z_start (fun R Q hRf hRl hQ => ?_)
  have hRf : R.frames = 7 := hRf
  have hRl : R.locals = 149 := hRl
  have h9 := h
  refine lv_aload_n hx hb dX14_canBegin_0 rfl (lv_at hl 0 rfl) ?_
  refine zt_geti (t := 14) (C := RX14) (T := TX14) (N := 40) Z h hth zin_14 rfl 14 rfl ⟨by decide, rfl⟩ (zm_RX14 (List.mem_of_getElem? (i := 24) rfl)) (fun _ h9 => h9) dX14_canBegin_1 (fun x_1 kx_1 bx_1 => ?_)
  refine lv_iconst (v := 3) hx hb dX14_canBegin_4 (by decide) ?_
  refine lv_icmp_eq (tgt := 31) hx hb dX14_canBegin_5 (by decide) (fun c_2 => ?_) (fun c_2 => ?_)
  · have c_2 := z_eq c_2
    have bx_1_3 : zB 3 3 x_1 := zB.eqL (a := 0) (b := 0) c_2 (zBc 3 3 (by decide))
    refine lv_iconst (v := 1) hx hb dX14_canBegin_31 (by decide) ?_
    refine lv_goto (tgt := 36) hx hb dX14_canBegin_32 (by decide) ?_
    obtain ⟨x_4, kx_4, bx_4⟩ := z_learn (j := 16) (lo := (-2147483648)) (hi := 2147483647) h hth (by decide) rfl
    obtain ⟨x_5, kx_5, bx_5⟩ := z_learn (j := 18) (lo := (-2147483648)) (hi := 2147483647) h hth (by decide) rfl
    obtain ⟨x_6, kx_6⟩ := z_learnl (j := 21) h hth (by decide) rfl
    subst hQ
    exact W.zret (v := 1) hx hb hr (by decide) (fun t ht hW => ⟨⟨1, F, rfl, ⟨rfl, (zB.of ⟨by decide, by decide⟩), (fun _ => ⟨x_1, kx_1, (bx_1_3.w ⟨by decide, by decide⟩), (by have := bx_1_3.1; have := bx_1_3.2; have : (1 : Int32).toInt = 1 := (by decide); have : (3 : Int32).toInt = 3 := (by decide); omega)⟩), (by obtain ⟨W9, h9⟩ := zD1.mk p_au kx_1 kx_4 kx_5 kx_6; have h8 := h9.nu; have : (40 : Int32).toInt = 40 := (by decide); unfold zbeg; have := bx_1_3.1; have := bx_1_3.2; have := bx_4.1; have := bx_4.2; have := bx_5.1; have := bx_5.2; have : (1 : Int32).toInt = 1 := (by decide); have : (3 : Int32).toInt = 3 := (by decide); omega), trivial⟩, by rw [ht]; exact h.1, h.2.1, zFr.rf⟩, h.2.2.F ht⟩) h.2.2.2.2 dX14_canBegin_36
  · have c_2 := z_ne c_2
    refine lv_aload_n hx hb dX14_canBegin_8 rfl (lv_at hl 0 rfl) ?_
    refine zk_Vi (As := []) (rest := []) (bytes := cX14_isPlace) (maxL := 1) (ret := (some .boolean)) Z h (ze_X14_isPlace l D k Γ L F s.heap.size th tp Bt nt σ hth ktp htp p_tk p_au) (cwV 0 hg zv_RX14_225 rfl rfl rfl zd_X14_isPlace ⟨z_leR hRf (by decide), z_leR hRl (by decide)⟩) hth (by decide) rfl rfl hl.1 rfl (Nat.le_of_ble_eq_true rfl) dX14_canBegin_9 ⟨Nat.zero_le _, Nat.zero_le _⟩ (fun r_7 F_8 H locs w_9 h hfF_8 => ?_)
    obtain ⟨rfl, br_7, q_10, q_11, -⟩ := w_9
    refine lv_if_ne (tgt := 31) hx hb dX14_canBegin_12 (by decide) (fun c_12 => ?_) (fun c_12 => ?_)
    · obtain ⟨x_13, g_14, kx_13, hx_13, kg_14, lg_14, mg_14⟩ := q_10 c_12
      have bx_13 : zB 2 2 x_13 := ⟨by omega, by omega⟩
      have c_12 := z_ne c_12
      have br_7_15 : zB 1 1 r_7 := zB.neLo c_12 br_7 (zBc 0 0 (by decide)) (by decide)
      refine lv_iconst (v := 1) hx hb dX14_canBegin_31 (by decide) ?_
      refine lv_goto (tgt := 36) hx hb dX14_canBegin_32 (by decide) ?_
      obtain ⟨x_16, kx_16, bx_16⟩ := z_learn (j := 16) (lo := (-2147483648)) (hi := 2147483647) h hth (by decide) rfl
      obtain ⟨x_17, kx_17, bx_17⟩ := z_learn (j := 18) (lo := (-2147483648)) (hi := 2147483647) h hth (by decide) rfl
      subst hQ
      exact W.zret (v := 1) hx hb hr (by decide) (fun t ht hW => ⟨⟨1, F, rfl, ⟨rfl, (zB.of ⟨by decide, by decide⟩), (fun _ => ⟨x_13, kx_13, (bx_13.w ⟨by decide, by decide⟩), (by have := bx_13.1; have := bx_13.2; have : (0 : Int32).toInt = 0 := (by decide); have : (1 : Int32).toInt = 1 := (by decide); have : (3 : Int32).toInt = 3 := (by decide); omega)⟩), (by obtain ⟨W9, h9⟩ := zD1.mk p_au kx_13 kx_16 kx_17 kg_14; have h8 := h9.nu; have : (40 : Int32).toInt = 40 := (by decide); unfold zbeg; have := bx_13.1; have := bx_13.2; have := bx_16.1; have := bx_16.2; have := bx_17.1; have := bx_17.2; have : (0 : Int32).toInt = 0 := (by decide); have : (1 : Int32).toInt = 1 := (by decide); have : (3 : Int32).toInt = 3 := (by decide); omega), trivial⟩, by rw [ht]; exact h.1, h.2.1, zFr.rf⟩, h.2.2.F ht⟩) h.2.2.2.2 dX14_canBegin_36
    · have c_12 := z_eq c_12
      have br_7_18 : zB 0 0 r_7 := zB.eqL (a := 0) (b := 0) c_12 (zBc 0 0 (by decide))
      refine lv_aload_n hx hb dX14_canBegin_15 rfl (lv_at hl 0 rfl) ?_
      refine zk_Vi (As := []) (rest := []) (bytes := cX14_isName) (maxL := 1) (ret := (some .boolean)) Z h (ze_X14_isName l D k Γ L F H.size th Bt nt σ hth p_au) (cwV 0 hg zv_RX14_211 rfl rfl rfl zd_X14_isName ⟨z_leR hRf (by decide), z_leR hRl (by decide)⟩) hth (by decide) rfl rfl hl.1 rfl (Nat.le_of_ble_eq_true rfl) dX14_canBegin_16 ⟨Nat.zero_le _, Nat.zero_le _⟩ (fun r_19 F_20 H locs w_21 h hfF_20 => ?_)
      obtain ⟨rfl, br_19, q_22, q_23, -⟩ := w_21
      refine lv_if_ne (tgt := 31) hx hb dX14_canBegin_19 (by decide) (fun c_24 => ?_) (fun c_24 => ?_)
      · obtain ⟨x_25, kx_25, bx_25, q_26⟩ := q_22 c_24
        have c_24 := z_ne c_24
        have br_19_27 : zB 1 1 r_19 := zB.neLo c_24 br_19 (zBc 0 0 (by decide)) (by decide)
        refine lv_iconst (v := 1) hx hb dX14_canBegin_31 (by decide) ?_
        refine lv_goto (tgt := 36) hx hb dX14_canBegin_32 (by decide) ?_
        obtain ⟨x_28, kx_28, bx_28⟩ := z_learn (j := 16) (lo := (-2147483648)) (hi := 2147483647) h hth (by decide) rfl
        obtain ⟨x_29, kx_29, bx_29⟩ := z_learn (j := 18) (lo := (-2147483648)) (hi := 2147483647) h hth (by decide) rfl
        obtain ⟨x_30, kx_30⟩ := z_learnl (j := 21) h hth (by decide) rfl
        subst hQ
        exact W.zret (v := 1) hx hb hr (by decide) (fun t ht hW => ⟨⟨1, F, rfl, ⟨rfl, (zB.of ⟨by decide, by decide⟩), (fun _ => ⟨x_25, kx_25, bx_25, (by have := bx_25.1; have := bx_25.2; have : (0 : Int32).toInt = 0 := (by decide); have : (1 : Int32).toInt = 1 := (by decide); have : (3 : Int32).toInt = 3 := (by decide); omega)⟩), (by obtain ⟨W9, h9⟩ := zD1.mk p_au kx_25 kx_28 kx_29 kx_30; have h8 := h9.nu; have : (40 : Int32).toInt = 40 := (by decide); unfold zbeg; have := bx_25.1; have := bx_25.2; have := bx_28.1; have := bx_28.2; have := bx_29.1; have := bx_29.2; have : (0 : Int32).toInt = 0 := (by decide); have : (1 : Int32).toInt = 1 := (by decide); have : (3 : Int32).toInt = 3 := (by decide); omega), trivial⟩, by rw [ht]; exact h.1, h.2.1, zFr.rf⟩, h.2.2.F ht⟩) h.2.2.2.2 dX14_canBegin_36
      · have c_24 := z_eq c_24
        have br_19_31 : zB 0 0 r_19 := zB.eqL (a := 0) (b := 0) c_24 (zBc 0 0 (by decide))
        refine lv_aload_n hx hb dX14_canBegin_22 rfl (lv_at hl 0 rfl) ?_
        refine lv_bipush (v := 40) hx hb dX14_canBegin_23 (by decide) ?_
        refine zk_Vi (As := [.int 40]) (rest := []) (bytes := cX14_is) (maxL := 2) (ret := (some .boolean)) Z h (ze_X14_is l D k Γ L F H.size th 40 Bt nt σ hth (zB.of ⟨by decide, by decide⟩) p_au) (cwV 1 hg zv_RX14_141 rfl rfl rfl zd_X14_is ⟨z_leR hRf (by decide), z_leR hRl (by decide)⟩) hth (by decide) rfl rfl hl.1 rfl (Nat.le_of_ble_eq_true rfl) dX14_canBegin_25 ⟨Nat.zero_le _, Nat.zero_le _⟩ (fun r_32 F_33 H locs w_34 h hfF_33 => ?_)
        obtain ⟨rfl, br_32, q_35, q_36, -⟩ := w_34
        refine lv_if_eq (tgt := 35) hx hb dX14_canBegin_28 (by decide) (fun c_37 => ?_) (fun c_37 => ?_)
        · have c_37 := z_eq c_37
          have br_32_38 : zB 0 0 r_32 := zB.eqL (a := 0) (b := 0) c_37 (zBc 0 0 (by decide))
          refine lv_iconst (v := 0) hx hb dX14_canBegin_35 (by decide) ?_
          obtain ⟨x_39, kx_39, bx_39⟩ := z_learn (j := 16) (lo := (-2147483648)) (hi := 2147483647) h hth (by decide) rfl
          obtain ⟨x_40, kx_40, bx_40⟩ := z_learn (j := 18) (lo := (-2147483648)) (hi := 2147483647) h hth (by decide) rfl
          obtain ⟨x_41, kx_41⟩ := z_learnl (j := 21) h hth (by decide) rfl
          subst hQ
          exact W.zret (v := 0) hx hb hr (by decide) (fun t ht hW => ⟨⟨0, F, rfl, ⟨rfl, (zB.of ⟨by decide, by decide⟩), (fun h9 => absurd rfl h9), (by obtain ⟨W9, h9⟩ := zD1.mk p_au kx_1 kx_39 kx_40 kx_41; have h8 := h9.nu; have : (40 : Int32).toInt = 40 := (by decide); unfold zbeg; have := bx_1.1; have := bx_1.2; have := bx_39.1; have := bx_39.2; have := bx_40.1; have := bx_40.2; have : (0 : Int32).toInt = 0 := (by decide); have : (3 : Int32).toInt = 3 := (by decide); have : (40 : Int32).toInt = 40 := (by decide); omega), trivial⟩, by rw [ht]; exact h.1, h.2.1, zFr.rf⟩, h.2.2.F ht⟩) h.2.2.2.2 dX14_canBegin_36
        · obtain ⟨x_42, x_43, kx_42, bx_42, kx_43, bx_43, q_44⟩ := q_35 c_37
          have c_37 := z_ne c_37
          have br_32_45 : zB 1 1 r_32 := zB.neLo c_37 br_32 (zBc 0 0 (by decide)) (by decide)
          refine lv_iconst (v := 1) hx hb dX14_canBegin_31 (by decide) ?_
          refine lv_goto (tgt := 36) hx hb dX14_canBegin_32 (by decide) ?_
          obtain ⟨x_46, kx_46, bx_46⟩ := z_learn (j := 18) (lo := (-2147483648)) (hi := 2147483647) h hth (by decide) rfl
          obtain ⟨x_47, kx_47⟩ := z_learnl (j := 21) h hth (by decide) rfl
          subst hQ
          exact W.zret (v := 1) hx hb hr (by decide) (fun t ht hW => ⟨⟨1, F, rfl, ⟨rfl, (zB.of ⟨by decide, by decide⟩), (fun _ => ⟨x_42, kx_42, bx_42, (by have := bx_42.1; have := bx_42.2; have := bx_43.1; have := bx_43.2; have : (0 : Int32).toInt = 0 := (by decide); have : (1 : Int32).toInt = 1 := (by decide); have : (3 : Int32).toInt = 3 := (by decide); have : (40 : Int32).toInt = 40 := (by decide); omega)⟩), (by obtain ⟨W9, h9⟩ := zD1.mk p_au kx_42 kx_43 kx_46 kx_47; have h8 := h9.nu; have : (40 : Int32).toInt = 40 := (by decide); unfold zbeg; have := bx_42.1; have := bx_42.2; have := bx_43.1; have := bx_43.2; have := bx_46.1; have := bx_46.2; have : (0 : Int32).toInt = 0 := (by decide); have : (1 : Int32).toInt = 1 := (by decide); have : (3 : Int32).toInt = 3 := (by decide); have : (40 : Int32).toInt = 40 := (by decide); omega), trivial⟩, by rw [ht]; exact h.1, h.2.1, zFr.rf⟩, h.2.2.F ht⟩) h.2.2.2.2 dX14_canBegin_36

set_option maxHeartbeats 4000000 in
set_option maxRecDepth 100000 in
theorem ze_X14_stop (l : Launch) (D : va_G) (k : Nat → ClassId) (Γ : Nat → Option Nat) (L : List Nat) (F : Nat → va_E) (sz : Nat) (th : Nat) (ki : Int32) (pc_ : Int32) (st : Nat) (hth : Γ th = some 14) (kst : zfld F th 9 = .ref st) (hst : Γ st = some 13) : Met l yX14_stop zwX14_stop ({ frames := 0, cells := 0, slots := 0, locals := 0 }) (va_Pc [.ref th, .int ki, .int pc_] (zP D k Γ L F sz)) (va_Qr (fun (u : Nat → va_E) => zfld u st 6 = .int ki ∧ True) (fun u a t => a = st ∧ zQ D k Γ L F [1306, 1307] u t) (zA L sz)) 0 0 (zA L sz) := by
  refine Met.ofW (cc := cX14_stop) (maxL := 3) (ret := (some (.object "LessonMakerModel$Stop"))) (by decide) rfl ?_
  intro p e s m args below meth c s₁ B hml hv
  obtain ⟨rfl, hsz, hP, hK, hLn, hE, hI⟩ := hv
  have hx := B.exec
  have hb := B.bytes
  have hr := B.returns
  have hg : ∀ w ∈ zG, w.before _ s = true := fun w h9 => atoms_spec (ws := zwX14_stop) B.pre w (List.mem_cons_of_mem _ h9)
  have hown : s.vm.findClass RX14 = some m.cls := findClass_of_methodNamed B.named
  have hlocks := B.notSynchronized
  subst hsz
  have Z : zC p m c cX14_stop 3 s _ zG RX14 D k L := ⟨⟨hx, hb, hml, hown, hg⟩, hK, hLn, hE⟩
  have h : zH D k Γ L s F s.heap [] := ⟨hP, hI, va_S.rf⟩
  have hl := lv_entry ([.ref th, .int ki, .int pc_]) (n := 3) (Nat.le_of_ble_eq_true rfl)
  rw [lg_entry_eq]
  generalize (lg_sl ([.ref th, .int ki, .int pc_]) ++ List.replicate (3 - (lg_sl ([.ref th, .int ki, .int pc_])).length) Slot.unset).toArray = ls at hl ⊢
  have hl : lv_has ls 3 [(0, .ref th), (1, .int ki), (2, .int pc_)] := hl
  clear hP hK hLn hE hI
  generalize hargs : ([.ref th, .int ki, .int pc_] : List Value).toArray = args at *
  refine z_start (fun R Q hRf hRl hQ => ?_)
  have hRf : R.frames = 0 := hRf
  have hRl : R.locals = 0 := hRl
  have h9 := h
  refine lv_aload_n hx hb dX14_stop_0 rfl (lv_at hl 0 rfl) ?_
  refine zt_getk (t := 14) (C := RX14) (T := TX14) (N := 40) Z h hth zin_14 rfl 9 kst ⟨by decide, rfl, by decide⟩ (zm_RX14 (List.mem_of_getElem? (i := 8) rfl)) (fun _ h9 => h9) dX14_stop_1 ?_
  refine lv_iload_n hx hb dX14_stop_4 rfl (lv_at hl 1 rfl) ?_
  refine zt_putN (t := 13) (C := RX13) (T := TX13) (N := 8) (v := .int ki) Z h hst zin_13 tyX13 tyX13_ok nmX13 rfl 6 rfl ⟨by decide, rfl⟩ (zn_0 Z) (fun _ h9 => h9) rfl (zV.i (zB.all ki)) rfl rfl dX14_stop_5 (fun H locs F_1 h hfF_1 kF_1 => ?_)
  refine lv_aload_n hx hb dX14_stop_8 rfl (lv_at hl 0 rfl) ?_
  refine zt_getk (t := 14) (C := RX14) (T := TX14) (N := 40) Z h hth zin_14 rfl 9 (hfF_1.f hth 9 ⟨by decide, by decide⟩ kst) ⟨by decide, rfl, by decide⟩ (zm_RX14 (List.mem_of_getElem? (i := 8) rfl)) (fun _ h9 => h9) dX14_stop_9 ?_
  refine lv_iload_n hx hb dX14_stop_12 rfl (lv_at hl 2 rfl) ?_
  refine zt_putN (t := 13) (C := RX13) (T := TX13) (N := 8) (v := .int pc_) Z h hst zin_13 tyX13 tyX13_ok nmX13 rfl 7 rfl ⟨by decide, rfl⟩ (zn_1 Z) (fun _ h9 => h9) rfl (zV.i (zB.all pc_)) rfl rfl dX14_stop_13 (fun H locs F_2 h hfF_2 kF_2 => ?_)
  refine lv_aload_n hx hb dX14_stop_16 rfl (lv_at hl 0 rfl) ?_
  refine zt_getk (t := 14) (C := RX14) (T := TX14) (N := 40) Z h hth zin_14 rfl 9 (hfF_2.f hth 9 ⟨by decide, by decide⟩ (hfF_1.f hth 9 ⟨by decide, by decide⟩ kst)) ⟨by decide, rfl, by decide⟩ (zm_RX14 (List.mem_of_getElem? (i := 8) rfl)) (fun _ h9 => h9) dX14_stop_17 ?_
  subst hQ
  exact W.aret (v := .ref st) hx hb hr (Or.inl ⟨_, rfl⟩) (Or.inr ⟨_, rfl⟩) (fun t ht hW => ⟨⟨F_2, st, rfl, ⟨(hfF_2.f hst 6 ⟨by decide, by decide⟩ kF_1), trivial⟩, rfl, by rw [ht]; exact h.1, h.2.1, ((hfF_1.w (by decide)).trans hfF_2 (by decide))⟩, h.2.2.F ht⟩) h.2.2.2.2 dX14_stop_20
