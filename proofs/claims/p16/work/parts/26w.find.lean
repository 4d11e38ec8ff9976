set_option maxHeartbeats 4000000 in
set_option maxRecDepth 100000 in
theorem ze_X11_find (l : Launch) (D : va_G) (k : Nat → ClassId) (Γ : Nat → Option Nat) (L : List Nat) (F : Nat → va_E) (sz : Nat) (th : Nat) (wd : Int64) (nf : Int32) (Wf : Nat → Int) (nm : Nat → Nat) (hth : Γ th = some 11) (knf : zfld F th 0 = .int nf) (bnf : zB 0 10 nf) (hr0 : ∀ f : Nat, (f : Int) < nf.toInt → (zal F th 4 f).toInt = Wf (nm f)) : Met l yX11_find zwX11_find ({ frames := 0, cells := 0, slots := 0, locals := 0 }) (va_Pc [.ref th, .long wd] (zP D k Γ L F sz)) (va_Qi (fun (r : Int32) (u : Nat → va_E) => F = u ∧ zB (-1) 9 r ∧ r.toInt < nf.toInt ∧ r.toInt = zfi (zfind Wf nm wd.toInt nf.toInt.toNat) ∧ True) (zQ D k Γ L F []) (zA L sz)) 0 0 (zA L sz) := by
  refine Met.ofW (cc := cX11_find) (maxL := 4) (ret := (some .int)) (by decide) rfl ?_
  intro p e s m args below meth c s₁ B hml hv
  obtain ⟨rfl, hsz, hP, hK, hLn, hE, hI⟩ := hv
  have hx := B.exec
  have hb := B.bytes
  have hr := B.returns
  have hg : ∀ w ∈ zG, w.before _ s = true := fun w h9 => atoms_spec (ws := zwX11_find) B.pre w (List.mem_cons_of_mem _ h9)
  have hown : s.vm.findClass RX11 = some m.cls := findClass_of_methodNamed B.named
  have hlocks := B.notSynchronized
  subst hsz
  have Z : zC p m c cX11_find 4 s _ zG RX11 D k L := ⟨⟨hx, hb, hml, hown, hg⟩, hK, hLn, hE⟩
  have h : zH D k Γ L s F s.heap [] := ⟨hP, hI, va_S.rf⟩
  have hl := lv_entry ([.ref th, .long wd]) (n := 4) (Nat.le_of_ble_eq_true rfl)
  rw [lg_entry_eq]
  generalize (lg_sl ([.ref th, .long wd]) ++ List.replicate (4 - (lg_sl ([.ref th, .long wd])).length) Slot.unset).toArray = ls at hl ⊢
  have hl : lv_has ls 4 [(0, .ref th), (1, .long wd)] := hl
  clear hP hK hLn hE hI
  generalize hargs : ([.ref th, .long wd] : List Value).toArray = args at *
  refine z_start (fun R Q hRf hRl hQ => ?_)
  have hRf : R.frames = 0 := hRf
  have hRl : R.locals = 0 := hRl
  have h9 := h
  refine lv_iconst (v := 0) hx hb dX11_find_0 (by decide) ?_
  refine lv_istore_n (lv' := [(3, .int 0), (0, .ref th), (1, .long wd)]) hx hb dX11_find_1 rfl hl (by decide) rfl (fun ls hl => ?_)
  have j_j2_1 : ∀ (n : Nat) (ls : Array Slot) (y3_j2_1 : Int32), lv_has ls 4 [(3, .int y3_j2_1), (0, .ref th), (1, .long wd)] → zB 0 10 y3_j2_1 → (y3_j2_1.toInt ≤ nf.toInt) → (zfind Wf nm wd.toInt y3_j2_1.toInt.toNat = none) → (2147483647 - y3_j2_1.toInt).toNat = n → W p l e R s m args below meth c s.heap [] 0 0 Q (F0 m 2 ls []) := by
    intro n
    induction n using Nat.strongRecOn with
    | _ n ih_j2_1 =>
      intro ls y3_j2_1 hl by3_j2_1 r0_j2_1 r1_j2_1 hn_j2_1
      refine lv_iload_n hx hb dX11_find_2 rfl (lv_at hl 0 rfl) ?_
      refine lv_aload_n hx hb dX11_find_3 rfl (lv_at hl 1 rfl) ?_
      refine zt_getk (t := 11) (C := RX11) (T := TX11) (N := 30) Z h hth zin_11 rfl 0 knf ⟨by decide, rfl, by decide⟩ (zm_RX11 (List.mem_of_getElem? (i := 2) rfl)) (fun _ h9 => h9) dX11_find_4 ?_
      refine lv_icmp_ge (tgt := 27) hx hb dX11_find_7 (by decide) (fun c_2 => ?_) (fun c_2 => ?_)
      · have c_2 := z_le c_2
        refine lv_iload_n hx hb dX11_find_27 rfl (lv_at hl 0 rfl) ?_
        refine lv_aload_n hx hb dX11_find_28 rfl (lv_at hl 1 rfl) ?_
        refine zt_getk (t := 11) (C := RX11) (T := TX11) (N := 30) Z h hth zin_11 rfl 0 knf ⟨by decide, rfl, by decide⟩ (zm_RX11 (List.mem_of_getElem? (i := 2) rfl)) (fun _ h9 => h9) dX11_find_29 ?_
        refine lv_icmp_ge (tgt := 39) hx hb dX11_find_32 (by decide) (fun c_3 => ?_) (fun c_3 => ?_)
        · have c_3 := z_le c_3
          refine lv_iconst (v := (-1)) hx hb dX11_find_39 (by decide) ?_
          subst hQ
          exact W.iret (v := (-1)) hx hb hr (fun t ht hW => ⟨⟨(-1), F, rfl, ⟨rfl, (zB.of ⟨by decide, by decide⟩), (by have := by3_j2_1.1; have := by3_j2_1.2; have := bnf.1; have := bnf.2; have : ((-1) : Int32).toInt = (-1) := (by decide); omega), (by rw [show nf.toInt.toNat = y3_j2_1.toInt.toNat by have := by3_j2_1.1; have := by3_j2_1.2; have := bnf.1; have := bnf.2; have : ((-1) : Int32).toInt = (-1) := (by decide); omega, r1_j2_1]; decide), trivial⟩, by rw [ht]; exact h.1, h.2.1, zFr.rf⟩, h.2.2.F ht⟩) h.2.2.2.2 dX11_find_40
        · have c_3 := z_nle c_3
          have by3_j2_1_4 : zB 0 9 y3_j2_1 := zB.ltL c_3 by3_j2_1 bnf (by decide)
          have bnf_5 : zB 1 10 nf := zB.ltR c_3 by3_j2_1 bnf (by decide)
          refine lv_iload_n hx hb dX11_find_35 rfl (lv_at hl 0 rfl) ?_
          refine lv_goto (tgt := 40) hx hb dX11_find_36 (by decide) ?_
          subst hQ
          exact W.iret (v := y3_j2_1) hx hb hr (fun t ht hW => ⟨⟨y3_j2_1, F, rfl, ⟨rfl, (by3_j2_1_4.w ⟨by decide, by decide⟩), (by have := by3_j2_1_4.1; have := by3_j2_1_4.2; have := bnf_5.1; have := bnf_5.2; omega), (by exfalso; have := by3_j2_1_4.1; have := by3_j2_1_4.2; have := bnf_5.1; have := bnf_5.2; omega), trivial⟩, by rw [ht]; exact h.1, h.2.1, zFr.rf⟩, h.2.2.F ht⟩) h.2.2.2.2 dX11_find_40
      · have c_2 := z_nle c_2
        have by3_j2_1_6 : zB 0 9 y3_j2_1 := zB.ltL c_2 by3_j2_1 bnf (by decide)
        have bnf_7 : zB 1 10 nf := zB.ltR c_2 by3_j2_1 bnf (by decide)
        refine lv_aload_n hx hb dX11_find_10 rfl (lv_at hl 1 rfl) ?_
        refine zt_getr (t := 11) (C := RX11) (T := TX11) (N := 30) Z h hth zin_11 rfl 4 rfl ⟨by decide, rfl⟩ (zm_RX11 (List.mem_of_getElem? (i := 3) rfl)) (fun _ h9 => h9) dX11_find_11 (fun a_8 ka_8 ha_8 => ?_)
        refine lv_iload_n hx hb dX11_find_14 rfl (lv_at hl 0 rfl) ?_
        refine zt_lalde (t := 124) Z h ha_8 ⟨by decide, rfl⟩ by3_j2_1_6 ⟨by decide, by decide⟩ dX11_find_15 (fun g_9 eg_9 => ?_)
        refine lv_lload_n hx hb dX11_find_16 rfl (lv_at hl 2 rfl) ?_
        refine W.lcmp hx hb dX11_find_17 ?_
        refine zi_any (fun x_10 bx_10 ex_10 => ?_)
        refine lv_if_eq (tgt := 27) hx hb dX11_find_18 (by decide) (fun c_11 => ?_) (fun c_11 => ?_)
        · have c_11 := z_eq c_11
          have bx_10_12 : zB 0 0 x_10 := zB.eqL (a := 0) (b := 0) c_11 (zBc 0 0 (by decide))
          refine lv_iload_n hx hb dX11_find_27 rfl (lv_at hl 0 rfl) ?_
          refine lv_aload_n hx hb dX11_find_28 rfl (lv_at hl 1 rfl) ?_
          refine zt_getk (t := 11) (C := RX11) (T := TX11) (N := 30) Z h hth zin_11 rfl 0 knf ⟨by decide, rfl, by decide⟩ (zm_RX11 (List.mem_of_getElem? (i := 2) rfl)) (fun _ h9 => h9) dX11_find_29 ?_
          refine lv_icmp_ge (tgt := 39) hx hb dX11_find_32 (by decide) (fun c_13 => ?_) (fun c_13 => ?_)
          · have c_13 := z_le c_13
            have bnf_14 : zB 1 9 nf := zB.leL c_13 bnf_7 by3_j2_1_6 (by decide)
            have by3_j2_1_15 : zB 1 9 y3_j2_1 := zB.leR c_13 bnf_7 by3_j2_1_6 (by decide)
            refine lv_iconst (v := (-1)) hx hb dX11_find_39 (by decide) ?_
            subst hQ
            exact W.iret (v := (-1)) hx hb hr (fun t ht hW => ⟨⟨(-1), F, rfl, ⟨rfl, (zB.of ⟨by decide, by decide⟩), (by have := by3_j2_1_15.1; have := by3_j2_1_15.2; have := bnf_14.1; have := bnf_14.2; have : ((-1) : Int32).toInt = (-1) := (by decide); have : (0 : Int32).toInt = 0 := (by decide); omega), (by exfalso; have := by3_j2_1_15.1; have := by3_j2_1_15.2; have := bnf_14.1; have := bnf_14.2; have : ((-1) : Int32).toInt = (-1) := (by decide); have : (0 : Int32).toInt = 0 := (by decide); omega), trivial⟩, by rw [ht]; exact h.1, h.2.1, zFr.rf⟩, h.2.2.F ht⟩) h.2.2.2.2 dX11_find_40
          · have c_13 := z_nle c_13
            refine lv_iload_n hx hb dX11_find_35 rfl (lv_at hl 0 rfl) ?_
            refine lv_goto (tgt := 40) hx hb dX11_find_36 (by decide) ?_
            subst hQ
            exact W.iret (v := y3_j2_1) hx hb hr (fun t ht hW => ⟨⟨y3_j2_1, F, rfl, ⟨rfl, (by3_j2_1_6.w ⟨by decide, by decide⟩), (by have := by3_j2_1_6.1; have := by3_j2_1_6.2; have := bnf_7.1; have := bnf_7.2; have : (0 : Int32).toInt = 0 := (by decide); omega), (by rw [zfind_k (n := y3_j2_1.toInt.toNat + 1) (f := y3_j2_1.toInt.toNat) (by rw [zfind_s r1_j2_1]; exact if_pos (by have h7 := z_lcmp ex_10; have h6 := hr0 (Int32.toNatClampNeg y3_j2_1) (by have := z_cl (x := y3_j2_1) (by have := by3_j2_1_6.1; have := by3_j2_1_6.2; have := bx_10_12.1; have := bx_10_12.2; have := bnf_7.1; have := bnf_7.2; have : (0 : Int32).toInt = 0 := (by decide); omega); have := by3_j2_1_6.1; have := by3_j2_1_6.2; have := bx_10_12.1; have := bx_10_12.2; have := bnf_7.1; have := bnf_7.2; have : (0 : Int32).toInt = 0 := (by decide); omega); rw [zal_eq ka_8, eg_9] at h6; have h6 : _ = Wf (nm y3_j2_1.toInt.toNat) := h6; have := by3_j2_1_6.1; have := by3_j2_1_6.2; have := bx_10_12.1; have := bx_10_12.2; have := bnf_7.1; have := bnf_7.2; have : (0 : Int32).toInt = 0 := (by decide); omega)) nf.toInt.toNat (by have := by3_j2_1_6.1; have := by3_j2_1_6.2; have := bnf_7.1; have := bnf_7.2; have : (0 : Int32).toInt = 0 := (by decide); omega)]; show y3_j2_1.toInt = ((y3_j2_1.toInt.toNat : Nat) : Int); have := by3_j2_1_6.1; have := by3_j2_1_6.2; have := bnf_7.1; have := bnf_7.2; have : (0 : Int32).toInt = 0 := (by decide); omega), trivial⟩, by rw [ht]; exact h.1, h.2.1, zFr.rf⟩, h.2.2.F ht⟩) h.2.2.2.2 dX11_find_40
        · have c_11 := z_ne c_11
          obtain ⟨x_16, ex_16, bx_16, tx_16⟩ := z_inc (n := 1) (lo := 1) (hi := 10) by3_j2_1_6 (by decide)
          refine lv_iinc (v := x_16) (lv' := [(3, .int x_16), (0, .ref th), (1, .long wd)]) hx hb dX11_find_21 hl (k := 0) rfl ex_16 (by decide) rfl (fun ls hl => ?_)
          refine lv_goto (tgt := 2) hx hb dX11_find_24 (by decide) ?_
          exact ih_j2_1 _ (by have := bx_16.1; have := bx_16.2; have := bnf_7.1; have := bnf_7.2; have : (0 : Int32).toInt = 0 := (by decide); have := by3_j2_1.1; have := by3_j2_1.2; omega) ls x_16 (lv_sub hl [0, 1, 2] rfl) (bx_16.w ⟨by decide, by decide⟩) (by have := bx_16.1; have := bx_16.2; have := bnf_7.1; have := bnf_7.2; have : (0 : Int32).toInt = 0 := (by decide); omega) (by rw [show x_16.toInt.toNat = y3_j2_1.toInt.toNat + 1 by have := bx_16.1; have := bx_16.2; have := by3_j2_1_6.1; have := by3_j2_1_6.2; have := bnf_7.1; have := bnf_7.2; have : (0 : Int32).toInt = 0 := (by decide); omega, zfind_s r1_j2_1]; exact if_neg (by have h7 := z_lcmp ex_10; have h6 := hr0 (Int32.toNatClampNeg y3_j2_1) (by have := z_cl (x := y3_j2_1) (by have := bx_16.1; have := bx_16.2; have := by3_j2_1_6.1; have := by3_j2_1_6.2; have := bx_10.1; have := bx_10.2; have := bnf_7.1; have := bnf_7.2; have : (0 : Int32).toInt = 0 := (by decide); omega); have := bx_16.1; have := bx_16.2; have := by3_j2_1_6.1; have := by3_j2_1_6.2; have := bx_10.1; have := bx_10.2; have := bnf_7.1; have := bnf_7.2; have : (0 : Int32).toInt = 0 := (by decide); omega); rw [zal_eq ka_8, eg_9] at h6; have h6 : _ = Wf (nm y3_j2_1.toInt.toNat) := h6; intro h5; have := bx_16.1; have := bx_16.2; have := by3_j2_1_6.1; have := by3_j2_1_6.2; have := bx_10.1; have := bx_10.2; have := bnf_7.1; have := bnf_7.2; have : (0 : Int32).toInt = 0 := (by decide); omega)) rfl
  exact j_j2_1 _ ls 0 (lv_sub hl [0, 1, 2] rfl) (zB.of ⟨by decide, by decide⟩) (by have := bnf.1; have := bnf.2; have : (0 : Int32).toInt = 0 := (by decide); omega) (by rw [show (0 : Int32).toInt.toNat = 0 by decide]; rfl) rfl
