set_option maxHeartbeats 4000000 in
set_option maxRecDepth 100000 in
theorem zc_X14_isFunction (l : Launch) (D : va_G) (k : Nat → ClassId) (Γ : Nat → Option Nat) (L : List Nat) (F : Nat → va_E) (sz : Nat) (th : Nat) (f_ : Int32) (pr : Nat) (is_ : Int32) (nf : Int32) (hth : Γ th = some 14) (kpr : zfld F th 4 = .ref pr) (hpr : Γ pr = some 11) (kis_ : zfld F th 7 = .int is_) (bis_ : zB 0 1 is_) (knf : zfld F pr 0 = .int nf) (bnf : zB 0 10 nf) : Met l yX14_isFunction zwX14_isFunction ({ frames := 0, cells := 0, slots := 0, locals := 0 }) (va_Pc [.ref th, .int f_] (zP D k Γ L F sz)) (va_Qi (fun (r : Int32) (u : Nat → va_E) => F = u ∧ zB 0 1 r ∧ (r ≠ 0 → is_.toInt ≠ 0 ∧ 0 ≤ f_.toInt ∧ f_.toInt < nf.toInt) ∧ (r = 0 → is_.toInt = 0 ∨ f_.toInt < 0 ∨ nf.toInt ≤ f_.toInt) ∧ (r ≠ 0 → zB 0 9 f_) ∧ (r ≠ 0 → (∃ x : Int32, zfld F th 7 = .int x ∧ x.toInt ≠ 0) ∧ ∃ c : Int32, zfld F pr 0 = .int c ∧ f_.toInt < c.toInt) ∧ True) (zQ D k Γ L F []) (zA L sz)) 0 0 (zA L sz) := by
  refine Met.ofW (cc := cX14_isFunction) (maxL := 2) (ret := (some .boolean)) (by decide) rfl ?_
  intro p e s m args below meth c s₁ B hml hv
  obtain ⟨rfl, hsz, hP, hK, hLn, hE, hI⟩ := hv
  have hx := B.exec
  have hb := B.bytes
  have hr := B.returns
  have hg : ∀ w ∈ zG, w.before _ s = true := fun w h9 => atoms_spec (ws := zwX14_isFunction) B.pre w (List.mem_cons_of_mem _ h9)
  have hown : s.vm.findClass RX14 = some m.cls := findClass_of_methodNamed B.named
  have hlocks := B.notSynchronized
  subst hsz
  have Z : zC p m c cX14_isFunction 2 s _ zG RX14 D k L := ⟨⟨hx, hb, hml, hown, hg⟩, hK, hLn, hE⟩
  have h : zH D k Γ L s F s.heap [] := ⟨hP, hI, va_S.rf⟩
  have hl := lv_entry ([.ref th, .int f_]) (n := 2) (Nat.le_of_ble_eq_true rfl)
  rw [lg_entry_eq]
  generalize (lg_sl ([.ref th, .int f_]) ++ List.replicate (2 - (lg_sl ([.ref th, .int f_])).length) Slot.unset).toArray = ls at hl ⊢
  have hl : lv_has ls 2 [(0, .ref th), (1, .int f_)] := hl
  clear hP hK hLn hE hI
  generalize hargs : ([.ref th, .int f_] : List Value).toArray = args at *
  refine z_start (fun R Q hRf hRl hQ => ?_)
  have hRf : R.frames = 0 := hRf
  have hRl : R.locals = 0 := hRl
  have h9 := h
  refine lv_aload_n hx hb dX14_isFunction_0 rfl (lv_at hl 0 rfl) ?_
  refine zt_getk (t := 14) (C := RX14) (T := TX14) (N := 40) Z h hth zin_14 rfl 7 kis_ ⟨by decide, rfl, by decide⟩ (zm_RX14 (List.mem_of_getElem? (i := 120) rfl)) (fun _ h9 => h9) dX14_isFunction_1 ?_
  refine lv_if_eq (tgt := 26) hx hb dX14_isFunction_4 (by decide) (fun c_1 => ?_) (fun c_1 => ?_)
  · have c_1 := z_eq c_1
    have bis__2 : zB 0 0 is_ := zB.eqL (a := 0) (b := 0) c_1 (zBc 0 0 (by decide))
    refine lv_iconst (v := 0) hx hb dX14_isFunction_26 (by decide) ?_
    subst hQ
    exact W.zret (v := 0) hx hb hr (by decide) (fun t ht hW => ⟨⟨0, F, rfl, ⟨rfl, (zB.of ⟨by decide, by decide⟩), (fun h9 => absurd rfl h9), (fun _ => by have := (zB.all f_).1; have := (zB.all f_).2; have := bis__2.1; have := bis__2.2; have := bnf.1; have := bnf.2; have : (0 : Int32).toInt = 0 := (by decide); omega), (fun h9 => absurd rfl h9), (fun h9 => absurd rfl h9), trivial⟩, by rw [ht]; exact h.1, h.2.1, zFr.rf⟩, h.2.2.F ht⟩) h.2.2.2.2 dX14_isFunction_27
  · have c_1 := z_ne c_1
    have bis__3 : zB 1 1 is_ := zB.neLo c_1 bis_ (zBc 0 0 (by decide)) (by decide)
    refine lv_iload_n hx hb dX14_isFunction_7 rfl (lv_at hl 1 rfl) ?_
    refine lv_if_lt (tgt := 26) hx hb dX14_isFunction_8 (by decide) (fun c_4 => ?_) (fun c_4 => ?_)
    · have c_4 := z_lt c_4
      have bf__5 : zB (-2147483648) (-1) f_ := zB.ltL c_4 (zB.all f_) (zBc 0 0 (by decide)) (by decide)
      refine lv_iconst (v := 0) hx hb dX14_isFunction_26 (by decide) ?_
      subst hQ
      exact W.zret (v := 0) hx hb hr (by decide) (fun t ht hW => ⟨⟨0, F, rfl, ⟨rfl, (zB.of ⟨by decide, by decide⟩), (fun h9 => absurd rfl h9), (fun _ => by have := bf__5.1; have := bf__5.2; have := bis__3.1; have := bis__3.2; have := bnf.1; have := bnf.2; have : (0 : Int32).toInt = 0 := (by decide); omega), (fun h9 => absurd rfl h9), (fun h9 => absurd rfl h9), trivial⟩, by rw [ht]; exact h.1, h.2.1, zFr.rf⟩, h.2.2.F ht⟩) h.2.2.2.2 dX14_isFunction_27
    · have c_4 := z_nlt c_4
      have bf__6 : zB 0 2147483647 f_ := zB.leR c_4 (zBc 0 0 (by decide)) (zB.all f_) (by decide)
      refine lv_iload_n hx hb dX14_isFunction_11 rfl (lv_at hl 1 rfl) ?_
      refine lv_aload_n hx hb dX14_isFunction_12 rfl (lv_at hl 0 rfl) ?_
      refine zt_getk (t := 14) (C := RX14) (T := TX14) (N := 40) Z h hth zin_14 rfl 4 kpr ⟨by decide, rfl, by decide⟩ (zm_RX14 (List.mem_of_getElem? (i := 119) rfl)) (fun _ h9 => h9) dX14_isFunction_13 ?_
      refine zt_getkN (t := 11) (C := RX11) (T := TX11) (N := 30) Z h hpr zin_11 rfl 0 knf ⟨by decide, rfl, by decide⟩ (zn_2 Z) (fun _ h9 => h9) dX14_isFunction_16 ?_
      refine lv_icmp_ge (tgt := 26) hx hb dX14_isFunction_19 (by decide) (fun c_7 => ?_) (fun c_7 => ?_)
      · have c_7 := z_le c_7
        refine lv_iconst (v := 0) hx hb dX14_isFunction_26 (by decide) ?_
        subst hQ
        exact W.zret (v := 0) hx hb hr (by decide) (fun t ht hW => ⟨⟨0, F, rfl, ⟨rfl, (zB.of ⟨by decide, by decide⟩), (fun h9 => absurd rfl h9), (fun _ => by have := bf__6.1; have := bf__6.2; have := bis__3.1; have := bis__3.2; have := bnf.1; have := bnf.2; have : (0 : Int32).toInt = 0 := (by decide); omega), (fun h9 => absurd rfl h9), (fun h9 => absurd rfl h9), trivial⟩, by rw [ht]; exact h.1, h.2.1, zFr.rf⟩, h.2.2.F ht⟩) h.2.2.2.2 dX14_isFunction_27
      · have c_7 := z_nle c_7
        have bf__8 : zB 0 9 f_ := zB.ltL c_7 bf__6 bnf (by decide)
        have bnf_9 : zB 1 10 nf := zB.ltR c_7 bf__6 bnf (by decide)
        refine lv_iconst (v := 1) hx hb dX14_isFunction_22 (by decide) ?_
        refine lv_goto (tgt := 27) hx hb dX14_isFunction_23 (by decide) ?_
        subst hQ
        exact W.zret (v := 1) hx hb hr (by decide) (fun t ht hW => ⟨⟨1, F, rfl, ⟨rfl, (zB.of ⟨by decide, by decide⟩), (fun _ => by have := bf__8.1; have := bf__8.2; have := bis__3.1; have := bis__3.2; have := bnf_9.1; have := bnf_9.2; have : (0 : Int32).toInt = 0 := (by decide); have : (1 : Int32).toInt = 1 := (by decide); omega), (fun h9 => absurd h9 (by decide)), (fun _ => bf__8), (fun _ => ⟨⟨is_, kis_, (by have := bf__8.1; have := bf__8.2; have := bis__3.1; have := bis__3.2; have := bnf_9.1; have := bnf_9.2; have : (0 : Int32).toInt = 0 := (by decide); have : (1 : Int32).toInt = 1 := (by decide); omega)⟩, nf, knf, (by have := bf__8.1; have := bf__8.2; have := bnf_9.1; have := bnf_9.2; have := bis__3.1; have := bis__3.2; have : (0 : Int32).toInt = 0 := (by decide); have : (1 : Int32).toInt = 1 := (by decide); omega)⟩), trivial⟩, by rw [ht]; exact h.1, h.2.1, zFr.rf⟩, h.2.2.F ht⟩) h.2.2.2.2 dX14_isFunction_27

set_option maxHeartbeats 4000000 in
set_option maxRecDepth 100000 in
theorem zc_X14_isLine (l : Launch) (D : va_G) (k : Nat → ClassId) (Γ : Nat → Option Nat) (L : List Nat) (F : Nat → va_E) (sz : Nat) (th : Nat) (li : Int32) (pr : Nat) (is_ : Int32) (nl : Int32) (hth : Γ th = some 14) (kpr : zfld F th 4 = .ref pr) (hpr : Γ pr = some 11) (kis_ : zfld F th 7 = .int is_) (bis_ : zB 0 1 is_) (knl : zfld F pr 1 = .int nl) (bnl : zB 0 60 nl) : Met l yX14_isLine zwX14_isLine ({ frames := 0, cells := 0, slots := 0, locals := 0 }) (va_Pc [.ref th, .int li] (zP D k Γ L F sz)) (va_Qi (fun (r : Int32) (u : Nat → va_E) => F = u ∧ zB 0 1 r ∧ (r ≠ 0 → zB 0 59 li) ∧ (r ≠ 0 → is_.toInt ≠ 0 ∧ 0 ≤ li.toInt ∧ li.toInt < nl.toInt) ∧ (r = 0 → is_.toInt = 0 ∨ li.toInt < 0 ∨ nl.toInt ≤ li.toInt) ∧ True) (zQ D k Γ L F []) (zA L sz)) 0 0 (zA L sz) := by
  refine Met.ofW (cc := cX14_isLine) (maxL := 2) (ret := (some .boolean)) (by decide) rfl ?_
  intro p e s m args below meth c s₁ B hml hv
  obtain ⟨rfl, hsz, hP, hK, hLn, hE, hI⟩ := hv
  have hx := B.exec
  have hb := B.bytes
  have hr := B.returns
  have hg : ∀ w ∈ zG, w.before _ s = true := fun w h9 => atoms_spec (ws := zwX14_isLine) B.pre w (List.mem_cons_of_mem _ h9)
  have hown : s.vm.findClass RX14 = some m.cls := findClass_of_methodNamed B.named
  have hlocks := B.notSynchronized
  subst hsz
  have Z : zC p m c cX14_isLine 2 s _ zG RX14 D k L := ⟨⟨hx, hb, hml, hown, hg⟩, hK, hLn, hE⟩
  have h : zH D k Γ L s F s.heap [] := ⟨hP, hI, va_S.rf⟩
  have hl := lv_entry ([.ref th, .int li]) (n := 2) (Nat.le_of_ble_eq_true rfl)
  rw [lg_entry_eq]
  generalize (lg_sl ([.ref th, .int li]) ++ List.replicate (2 - (lg_sl ([.ref th, .int li])).length) Slot.unset).toArray = ls at hl ⊢
  have hl : lv_has ls 2 [(0, .ref th), (1, .int li)] := hl
  clear hP hK hLn hE hI
  generalize hargs : ([.ref th, .int li] : List Value).toArray = args at *
  refine z_start (fun R Q hRf hRl hQ => ?_)
  have hRf : R.frames = 0 := hRf
  have hRl : R.locals = 0 := hRl
  have h9 := h
  refine lv_aload_n hx hb dX14_isLine_0 rfl (lv_at hl 0 rfl) ?_
  refine zt_getk (t := 14) (C := RX14) (T := TX14) (N := 40) Z h hth zin_14 rfl 7 kis_ ⟨by decide, rfl, by decide⟩ (zm_RX14 (List.mem_of_getElem? (i := 120) rfl)) (fun _ h9 => h9) dX14_isLine_1 ?_
  refine lv_if_eq (tgt := 26) hx hb dX14_isLine_4 (by decide) (fun c_1 => ?_) (fun c_1 => ?_)
  · have c_1 := z_eq c_1
    have bis__2 : zB 0 0 is_ := zB.eqL (a := 0) (b := 0) c_1 (zBc 0 0 (by decide))
    refine lv_iconst (v := 0) hx hb dX14_isLine_26 (by decide) ?_
    subst hQ
    exact W.zret (v := 0) hx hb hr (by decide) (fun t ht hW => ⟨⟨0, F, rfl, ⟨rfl, (zB.of ⟨by decide, by decide⟩), (fun h9 => absurd rfl h9), (fun h9 => absurd rfl h9), (fun _ => by have := (zB.all li).1; have := (zB.all li).2; have := bis__2.1; have := bis__2.2; have := bnl.1; have := bnl.2; have : (0 : Int32).toInt = 0 := (by decide); omega), trivial⟩, by rw [ht]; exact h.1, h.2.1, zFr.rf⟩, h.2.2.F ht⟩) h.2.2.2.2 dX14_isLine_27
  · have c_1 := z_ne c_1
    have bis__3 : zB 1 1 is_ := zB.neLo c_1 bis_ (zBc 0 0 (by decide)) (by decide)
    refine lv_iload_n hx hb dX14_isLine_7 rfl (lv_at hl 1 rfl) ?_
    refine lv_if_lt (tgt := 26) hx hb dX14_isLine_8 (by decide) (fun c_4 => ?_) (fun c_4 => ?_)
    · have c_4 := z_lt c_4
      have bli_5 : zB (-2147483648) (-1) li := zB.ltL c_4 (zB.all li) (zBc 0 0 (by decide)) (by decide)
      refine lv_iconst (v := 0) hx hb dX14_isLine_26 (by decide) ?_
      subst hQ
      exact W.zret (v := 0) hx hb hr (by decide) (fun t ht hW => ⟨⟨0, F, rfl, ⟨rfl, (zB.of ⟨by decide, by decide⟩), (fun h9 => absurd rfl h9), (fun h9 => absurd rfl h9), (fun _ => by have := bli_5.1; have := bli_5.2; have := bis__3.1; have := bis__3.2; have := bnl.1; have := bnl.2; have : (0 : Int32).toInt = 0 := (by decide); omega), trivial⟩, by rw [ht]; exact h.1, h.2.1, zFr.rf⟩, h.2.2.F ht⟩) h.2.2.2.2 dX14_isLine_27
    · have c_4 := z_nlt c_4
      have bli_6 : zB 0 2147483647 li := zB.leR c_4 (zBc 0 0 (by decide)) (zB.all li) (by decide)
      refine lv_iload_n hx hb dX14_isLine_11 rfl (lv_at hl 1 rfl) ?_
      refine lv_aload_n hx hb dX14_isLine_12 rfl (lv_at hl 0 rfl) ?_
      refine zt_getk (t := 14) (C := RX14) (T := TX14) (N := 40) Z h hth zin_14 rfl 4 kpr ⟨by decide, rfl, by decide⟩ (zm_RX14 (List.mem_of_getElem? (i := 119) rfl)) (fun _ h9 => h9) dX14_isLine_13 ?_
      refine zt_getkN (t := 11) (C := RX11) (T := TX11) (N := 30) Z h hpr zin_11 rfl 1 knl ⟨by decide, rfl, by decide⟩ (zn_3 Z) (fun _ h9 => h9) dX14_isLine_16 ?_
      refine lv_icmp_ge (tgt := 26) hx hb dX14_isLine_19 (by decide) (fun c_7 => ?_) (fun c_7 => ?_)
      · have c_7 := z_le c_7
        refine lv_iconst (v := 0) hx hb dX14_isLine_26 (by decide) ?_
        subst hQ
        exact W.zret (v := 0) hx hb hr (by decide) (fun t ht hW => ⟨⟨0, F, rfl, ⟨rfl, (zB.of ⟨by decide, by decide⟩), (fun h9 => absurd rfl h9), (fun h9 => absurd rfl h9), (fun _ => by have := bli_6.1; have := bli_6.2; have := bis__3.1; have := bis__3.2; have := bnl.1; have := bnl.2; have : (0 : Int32).toInt = 0 := (by decide); omega), trivial⟩, by rw [ht]; exact h.1, h.2.1, zFr.rf⟩, h.2.2.F ht⟩) h.2.2.2.2 dX14_isLine_27
      · have c_7 := z_nle c_7
        have bli_8 : zB 0 59 li := zB.ltL c_7 bli_6 bnl (by decide)
        have bnl_9 : zB 1 60 nl := zB.ltR c_7 bli_6 bnl (by decide)
        refine lv_iconst (v := 1) hx hb dX14_isLine_22 (by decide) ?_
        refine lv_goto (tgt := 27) hx hb dX14_isLine_23 (by decide) ?_
        subst hQ
        exact W.zret (v := 1) hx hb hr (by decide) (fun t ht hW => ⟨⟨1, F, rfl, ⟨rfl, (zB.of ⟨by decide, by decide⟩), (fun _ => bli_8), (fun _ => by have := bli_8.1; have := bli_8.2; have := bis__3.1; have := bis__3.2; have := bnl_9.1; have := bnl_9.2; have : (0 : Int32).toInt = 0 := (by decide); have : (1 : Int32).toInt = 1 := (by decide); omega), (fun h9 => absurd h9 (by decide)), trivial⟩, by rw [ht]; exact h.1, h.2.1, zFr.rf⟩, h.2.2.F ht⟩) h.2.2.2.2 dX14_isLine_27

set_option maxHeartbeats 4000000 in
set_option maxRecDepth 100000 in
theorem zc_X14_fault (l : Launch) (D : va_G) (k : Nat → ClassId) (Γ : Nat → Option Nat) (L : List Nat) (F : Nat → va_E) (sz : Nat) (th : Nat) (hth : Γ th = some 14) : Met l yX14_fault zwX14_fault ({ frames := 0, cells := 0, slots := 0, locals := 0 }) (va_Pc [.ref th] (zP D k Γ L F sz)) (va_Qi (fun (r : Int32) (u : Nat → va_E) => zfld u th 3 = .int r ∧ True) (zQ D k Γ L F [1400]) (zA L sz)) 0 0 (zA L sz) := by
  refine Met.ofW (cc := cX14_fault) (maxL := 1) (ret := (some .int)) (by decide) rfl ?_
  intro p e s m args below meth c s₁ B hml hv
  obtain ⟨rfl, hsz, hP, hK, hLn, hE, hI⟩ := hv
  have hx := B.exec
  have hb := B.bytes
  have hr := B.returns
  have hg : ∀ w ∈ zG, w.before _ s = true := fun w h9 => atoms_spec (ws := zwX14_fault) B.pre w (List.mem_cons_of_mem _ h9)
  have hown : s.vm.findClass RX14 = some m.cls := findClass_of_methodNamed B.named
  have hlocks := B.notSynchronized
  subst hsz
  have Z : zC p m c cX14_fault 1 s _ zG RX14 D k L := ⟨⟨hx, hb, hml, hown, hg⟩, hK, hLn, hE⟩
  have h : zH D k Γ L s F s.heap [] := ⟨hP, hI, va_S.rf⟩
  have hl := lv_entry ([.ref th]) (n := 1) (Nat.le_of_ble_eq_true rfl)
  rw [lg_entry_eq]
  generalize (lg_sl ([.ref th]) ++ List.replicate (1 - (lg_sl ([.ref th])).length) Slot.unset).toArray = ls at hl ⊢
  have hl : lv_has ls 1 [(0, .ref th)] := hl
  clear hP hK hLn hE hI
  generalize hargs : ([.ref th] : List Value).toArray = args at *
  refine z_start (fun R Q hRf hRl hQ => ?_)
  have hRf : R.frames = 0 := hRf
  have hRl : R.locals = 0 := hRl
  refine lv_aload_n hx hb dX14_fault_0 rfl (lv_at hl 0 rfl) ?_
  refine lv_iconst (v := 0) hx hb dX14_fault_1 (by decide) ?_
  refine zt_put (t := 14) (C := RX14) (T := TX14) (N := 40) (v := .int 0) Z h hth zin_14 tyX14 tyX14_ok nmX14 rfl 0 rfl ⟨by decide, rfl⟩ (zm_RX14 (List.mem_of_getElem? (i := 105) rfl)) (fun _ h9 => h9) rfl (zV.i (zB.of ⟨by decide, by decide⟩)) rfl rfl dX14_fault_2 (fun H locs F_1 h hfF_1 kF_1 => ?_)
  refine lv_aload_n hx hb dX14_fault_5 rfl (lv_at hl 0 rfl) ?_
  refine zt_geti (t := 14) (C := RX14) (T := TX14) (N := 40) Z h hth zin_14 rfl 3 rfl ⟨by decide, rfl⟩ (zm_RX14 (List.mem_of_getElem? (i := 111) rfl)) (fun _ h9 => h9) dX14_fault_6 (fun x_2 kx_2 bx_2 => ?_)
  subst hQ
  exact W.iret (v := x_2) hx hb hr (fun t ht hW => ⟨⟨x_2, F_1, rfl, ⟨kx_2, trivial⟩, by rw [ht]; exact h.1, h.2.1, hfF_1⟩, h.2.2.F ht⟩) h.2.2.2.2 dX14_fault_9

set_option maxHeartbeats 4000000 in
set_option maxRecDepth 100000 in
theorem zc_X14_where (l : Launch) (D : va_G) (k : Nat → ClassId) (Γ : Nat → Option Nat) (L : List Nat) (F : Nat → va_E) (sz : Nat) (th : Nat) (hth : Γ th = some 14) : Met l yX14_where zwX14_where ({ frames := 0, cells := 0, slots := 0, locals := 0 }) (va_Pc [.ref th] (zP D k Γ L F sz)) (va_Qi (fun (r : Int32) (u : Nat → va_E) => True) (zQ D k Γ L F [1400]) (zA L sz)) 0 0 (zA L sz) := by
  refine Met.ofW (cc := cX14_where) (maxL := 1) (ret := (some .int)) (by decide) rfl ?_
  intro p e s m args below meth c s₁ B hml hv
  obtain ⟨rfl, hsz, hP, hK, hLn, hE, hI⟩ := hv
  have hx := B.exec
  have hb := B.bytes
  have hr := B.returns
  have hg : ∀ w ∈ zG, w.before _ s = true := fun w h9 => atoms_spec (ws := zwX14_where) B.pre w (List.mem_cons_of_mem _ h9)
  have hown : s.vm.findClass RX14 = some m.cls := findClass_of_methodNamed B.named
  have hlocks := B.notSynchronized
  subst hsz
  have Z : zC p m c cX14_where 1 s _ zG RX14 D k L := ⟨⟨hx, hb, hml, hown, hg⟩, hK, hLn, hE⟩
  have h : zH D k Γ L s F s.heap [] := ⟨hP, hI, va_S.rf⟩
  have hl := lv_entry ([.ref th]) (n := 1) (Nat.le_of_ble_eq_true rfl)
  rw [lg_entry_eq]
  generalize (lg_sl ([.ref th]) ++ List.replicate (1 - (lg_sl ([.ref th])).length) Slot.unset).toArray = ls at hl ⊢
  have hl : lv_has ls 1 [(0, .ref th)] := hl
  clear hP hK hLn hE hI
  generalize hargs : ([.ref th] : List Value).toArray = args at *
  refine z_start (fun R Q hRf hRl hQ => ?_)
  have hRf : R.frames = 0 := hRf
  have hRl : R.locals = 0 := hRl
  refine lv_aload_n hx hb dX14_where_0 rfl (lv_at hl 0 rfl) ?_
  refine lv_iconst (v := 0) hx hb dX14_where_1 (by decide) ?_
  refine zt_put (t := 14) (C := RX14) (T := TX14) (N := 40) (v := .int 0) Z h hth zin_14 tyX14 tyX14_ok nmX14 rfl 0 rfl ⟨by decide, rfl⟩ (zm_RX14 (List.mem_of_getElem? (i := 105) rfl)) (fun _ h9 => h9) rfl (zV.i (zB.of ⟨by decide, by decide⟩)) rfl rfl dX14_where_2 (fun H locs F_1 h hfF_1 kF_1 => ?_)
  refine lv_aload_n hx hb dX14_where_5 rfl (lv_at hl 0 rfl) ?_
  refine zt_geti (t := 14) (C := RX14) (T := TX14) (N := 40) Z h hth zin_14 rfl 2 rfl ⟨by decide, rfl⟩ (zm_RX14 (List.mem_of_getElem? (i := 3) rfl)) (fun _ h9 => h9) dX14_where_6 (fun x_2 kx_2 bx_2 => ?_)
  subst hQ
  exact W.iret (v := x_2) hx hb hr (fun t ht hW => ⟨⟨x_2, F_1, rfl, trivial, by rw [ht]; exact h.1, h.2.1, hfF_1⟩, h.2.2.F ht⟩) h.2.2.2.2 dX14_where_9

set_option maxHeartbeats 4000000 in
set_option maxRecDepth 100000 in
theorem zc_X14_trouble (l : Launch) (D : va_G) (k : Nat → ClassId) (Γ : Nat → Option Nat) (L : List Nat) (F : Nat → va_E) (sz : Nat) (th : Nat) (hth : Γ th = some 14) : Met l yX14_trouble zwX14_trouble ({ frames := 0, cells := 0, slots := 0, locals := 0 }) (va_Pc [.ref th] (zP D k Γ L F sz)) (va_Qi (fun (r : Int32) (u : Nat → va_E) => True) (zQ D k Γ L F [1400]) (zA L sz)) 0 0 (zA L sz) := by
  refine Met.ofW (cc := cX14_trouble) (maxL := 1) (ret := (some .int)) (by decide) rfl ?_
  intro p e s m args below meth c s₁ B hml hv
  obtain ⟨rfl, hsz, hP, hK, hLn, hE, hI⟩ := hv
  have hx := B.exec
  have hb := B.bytes
  have hr := B.returns
  have hg : ∀ w ∈ zG, w.before _ s = true := fun w h9 => atoms_spec (ws := zwX14_trouble) B.pre w (List.mem_cons_of_mem _ h9)
  have hown : s.vm.findClass RX14 = some m.cls := findClass_of_methodNamed B.named
  have hlocks := B.notSynchronized
  subst hsz
  have Z : zC p m c cX14_trouble 1 s _ zG RX14 D k L := ⟨⟨hx, hb, hml, hown, hg⟩, hK, hLn, hE⟩
  have h : zH D k Γ L s F s.heap [] := ⟨hP, hI, va_S.rf⟩
  have hl := lv_entry ([.ref th]) (n := 1) (Nat.le_of_ble_eq_true rfl)
  rw [lg_entry_eq]
  generalize (lg_sl ([.ref th]) ++ List.replicate (1 - (lg_sl ([.ref th])).length) Slot.unset).toArray = ls at hl ⊢
  have hl : lv_has ls 1 [(0, .ref th)] := hl
  clear hP hK hLn hE hI
  generalize hargs : ([.ref th] : List Value).toArray = args at *
  refine z_start (fun R Q hRf hRl hQ => ?_)
  have hRf : R.frames = 0 := hRf
  have hRl : R.locals = 0 := hRl
  refine lv_aload_n hx hb dX14_trouble_0 rfl (lv_at hl 0 rfl) ?_
  refine lv_iconst (v := 0) hx hb dX14_trouble_1 (by decide) ?_
  refine zt_put (t := 14) (C := RX14) (T := TX14) (N := 40) (v := .int 0) Z h hth zin_14 tyX14 tyX14_ok nmX14 rfl 0 rfl ⟨by decide, rfl⟩ (zm_RX14 (List.mem_of_getElem? (i := 105) rfl)) (fun _ h9 => h9) rfl (zV.i (zB.of ⟨by decide, by decide⟩)) rfl rfl dX14_trouble_2 (fun H locs F_1 h hfF_1 kF_1 => ?_)
  refine lv_aload_n hx hb dX14_trouble_5 rfl (lv_at hl 0 rfl) ?_
  refine zt_geti (t := 14) (C := RX14) (T := TX14) (N := 40) Z h hth zin_14 rfl 1 rfl ⟨by decide, rfl⟩ (zm_RX14 (List.mem_of_getElem? (i := 2) rfl)) (fun _ h9 => h9) dX14_trouble_6 (fun x_2 kx_2 bx_2 => ?_)
  subst hQ
  exact W.iret (v := x_2) hx hb hr (fun t ht hW => ⟨⟨x_2, F_1, rfl, trivial, by rw [ht]; exact h.1, h.2.1, hfF_1⟩, h.2.2.F ht⟩) h.2.2.2.2 dX14_trouble_9

set_option maxHeartbeats 4000000 in
set_option maxRecDepth 100000 in
theorem zc_X14_function (l : Launch) (D : va_G) (k : Nat → ClassId) (Γ : Nat → Option Nat) (L : List Nat) (F : Nat → va_E) (sz : Nat) (th : Nat) (f_ : Int32) (wh : Int32) (pr : Nat) (is_ : Int32) (nf : Int32) (hth : Γ th = some 14) (kpr : zfld F th 4 = .ref pr) (hpr : Γ pr = some 11) (kis_ : zfld F th 7 = .int is_) (bis_ : zB 0 1 is_) (knf : zfld F pr 0 = .int nf) (bnf : zB 0 10 nf) : Met l yX14_function zwX14_function ({ frames := 1, cells := 0, slots := 0, locals := 21 }) (va_Pc [.ref th, .int f_, .int wh] (zP D k Γ L F sz)) (va_Qi (fun (r : Int32) (u : Nat → va_E) => ((is_.toInt ≠ 0 ∧ 0 ≤ f_.toInt ∧ f_.toInt < nf.toInt ∧ 0 ≤ wh.toInt ∧ wh.toInt ≤ 3 → zar u pr (6 + wh.toInt.toNat) f_.toInt.toNat = r) ∧ (is_.toInt = 0 ∨ f_.toInt < 0 ∨ nf.toInt ≤ f_.toInt ∨ wh.toInt < 0 ∨ 3 < wh.toInt → r.toInt = -1)) ∧ True) (zQ D k Γ L F [1400]) (zA L sz)) 0 0 (zA L sz) := by
  refine Met.ofW (cc := cX14_function) (maxL := 3) (ret := (some .int)) (by decide) rfl ?_
  intro p e s m args below meth c s₁ B hml hv
  obtain ⟨rfl, hsz, hP, hK, hLn, hE, hI⟩ := hv
  have hx := B.exec
  have hb := B.bytes
  have hr := B.returns
  have hg : ∀ w ∈ zG, w.before _ s = true := fun w h9 => atoms_spec (ws := zwX14_function) B.pre w (List.mem_cons_of_mem _ h9)
  have hown : s.vm.findClass RX14 = some m.cls := findClass_of_methodNamed B.named
  have hlocks := B.notSynchronized
  subst hsz
  have Z : zC p m c cX14_function 3 s _ zG RX14 D k L := ⟨⟨hx, hb, hml, hown, hg⟩, hK, hLn, hE⟩
  have h : zH D k Γ L s F s.heap [] := ⟨hP, hI, va_S.rf⟩
  have hl := lv_entry ([.ref th, .int f_, .int wh]) (n := 3) (Nat.le_of_ble_eq_true rfl)
  rw [lg_entry_eq]
  generalize (lg_sl ([.ref th, .int f_, .int wh]) ++ List.replicate (3 - (lg_sl ([.ref th, .int f_, .int wh])).length) Slot.unset).toArray = ls at hl ⊢
  have hl : lv_has ls 3 [(0, .ref th), (1, .int f_), (2, .int wh)] := hl
  clear hP hK hLn hE hI
  generalize hargs : ([.ref th, .int f_, .int wh] : List Value).toArray = args at *
  refine z_start (fun R Q hRf hRl hQ => ?_)
  have hRf : R.frames = 1 := hRf
  have hRl : R.locals = 21 := hRl
  have h9 := h
  refine lv_aload_n hx hb dX14_function_0 rfl (lv_at hl 0 rfl) ?_
  refine lv_iconst (v := 0) hx hb dX14_function_1 (by decide) ?_
  refine zt_put (t := 14) (C := RX14) (T := TX14) (N := 40) (v := .int 0) Z h hth zin_14 tyX14 tyX14_ok nmX14 rfl 0 rfl ⟨by decide, rfl⟩ (zm_RX14 (List.mem_of_getElem? (i := 105) rfl)) (fun _ h9 => h9) rfl (zV.i (zB.of ⟨by decide, by decide⟩)) rfl rfl dX14_function_2 (fun H locs F_1 h hfF_1 kF_1 => ?_)
  refine lv_aload_n hx hb dX14_function_5 rfl (lv_at hl 0 rfl) ?_
  refine lv_iload_n hx hb dX14_function_6 rfl (lv_at hl 1 rfl) ?_
  refine zk_Vi (As := [.int f_]) (rest := []) (bytes := cX14_isFunction) (maxL := 2) (ret := (some .boolean)) Z h (zc_X14_isFunction l D k Γ L F_1 H.size th f_ pr is_ nf hth (hfF_1.f hth 4 ⟨by decide, by decide⟩ kpr) hpr (hfF_1.f hth 7 ⟨by decide, by decide⟩ kis_) bis_ (hfF_1.f hpr 0 ⟨by decide, by decide⟩ knf) bnf) (cwV 1 hg zv_RX14_336 rfl rfl rfl zd_X14_isFunction ⟨z_leR hRf (by decide), z_leR hRl (by decide)⟩) hth (by decide) rfl rfl hl.1 rfl (Nat.le_of_ble_eq_true rfl) dX14_function_7 ⟨Nat.zero_le _, Nat.zero_le _⟩ (fun r_2 F_3 H locs w_4 h hfF_3 => ?_)
  obtain ⟨rfl, br_2, q_5, q_6, q_7, q_8, -⟩ := w_4
  refine lv_if_ne (tgt := 15) hx hb dX14_function_10 (by decide) (fun c_9 => ?_) (fun c_9 => ?_)
  · have q_10 := q_5 c_9
    have bf__11 : zB 0 9 f_ := q_7 c_9
    obtain ⟨⟨x_12, kx_12, hx_12⟩, x_13, kx_13, hx_13⟩ := q_8 c_9
    have bx_12 := zB.all x_12
    have bx_13 : zB 0 10 x_13 := by obtain ⟨x9, k9, b9⟩ := z_learn (j := 0) (lo := 0) (hi := 10) h hpr (by decide) rfl; rw [z_vi kx_13 k9]; exact b9
    have c_9 := z_ne c_9
    have br_2_14 : zB 1 1 r_2 := zB.neLo c_9 br_2 (zBc 0 0 (by decide)) (by decide)
    refine lv_iload_n hx hb dX14_function_15 rfl (lv_at hl 2 rfl) ?_
    by_cases c_15 : wh = 0
    · refine lv_tableIn (off := 32) (tgt := 48) hx hb dX14_function_16 (by rw [c_15]; decide) (by rw [c_15]; decide) (by rw [c_15]; rfl) (by decide) ?_
      have bwh_15 : zB 0 0 wh := by rw [c_15]; exact zBc _ _ (by decide)
      refine lv_aload_n hx hb dX14_function_48 rfl (lv_at hl 0 rfl) ?_
      refine zt_getk (t := 14) (C := RX14) (T := TX14) (N := 40) Z h hth zin_14 rfl 4 (hfF_1.f hth 4 ⟨by decide, by decide⟩ kpr) ⟨by decide, rfl, by decide⟩ (zm_RX14 (List.mem_of_getElem? (i := 119) rfl)) (fun _ h9 => h9) dX14_function_49 ?_
      refine zt_getrN (t := 11) (C := RX11) (T := TX11) (N := 30) Z h hpr zin_11 rfl 6 rfl ⟨by decide, rfl⟩ (zn_7 Z) (fun _ h9 => h9) dX14_function_52 (fun a_17 ka_17 ha_17 => ?_)
      refine lv_iload_n hx hb dX14_function_55 rfl (lv_at hl 1 rfl) ?_
      refine zt_ialde (t := 126) Z h ha_17 ⟨by decide, rfl⟩ bf__11 ⟨by decide, by decide⟩ dX14_function_56 (fun x_18 ex_18 bx_18 => ?_)
      subst hQ
      exact W.iret (v := x_18) hx hb hr (fun t ht hW => ⟨⟨x_18, F_1, rfl, ⟨⟨fun _ => by rw [show 6 + wh.toInt.toNat = 6 by have := bf__11.1; have := bf__11.2; have := bwh_15.1; have := bwh_15.2; have := bx_18.1; have := bx_18.2; have := bx_12.1; have := bx_12.2; have := bx_13.1; have := bx_13.2; have := bis_.1; have := bis_.2; have := bnf.1; have := bnf.2; have : (0 : Int32).toInt = 0 := (by decide); omega, zar_eq ka_17, show f_.toInt.toNat = f_.toNatClampNeg from (by have h8 := z_cl (x := f_) (by have := bf__11.1; have := bf__11.2; have := bwh_15.1; have := bwh_15.2; have := bx_18.1; have := bx_18.2; have := bx_12.1; have := bx_12.2; have := bx_13.1; have := bx_13.2; have := bis_.1; have := bis_.2; have := bnf.1; have := bnf.2; have : (0 : Int32).toInt = 0 := (by decide); omega); have := bf__11.1; have := bf__11.2; have := bwh_15.1; have := bwh_15.2; have := bx_18.1; have := bx_18.2; have := bx_12.1; have := bx_12.2; have := bx_13.1; have := bx_13.2; have := bis_.1; have := bis_.2; have := bnf.1; have := bnf.2; have : (0 : Int32).toInt = 0 := (by decide); omega)]; exact ex_18, fun h9 => by exfalso; have := bf__11.1; have := bf__11.2; have := bwh_15.1; have := bwh_15.2; have := bx_18.1; have := bx_18.2; have := bx_12.1; have := bx_12.2; have := bx_13.1; have := bx_13.2; have := bis_.1; have := bis_.2; have := bnf.1; have := bnf.2; have : (0 : Int32).toInt = 0 := (by decide); omega⟩, trivial⟩, by rw [ht]; exact h.1, h.2.1, hfF_1⟩, h.2.2.F ht⟩) h.2.2.2.2 dX14_function_57
    · by_cases c_19 : wh = 1
      · refine lv_tableIn (off := 42) (tgt := 58) hx hb dX14_function_16 (by rw [c_19]; decide) (by rw [c_19]; decide) (by rw [c_19]; rfl) (by decide) ?_
        have bwh_19 : zB 1 1 wh := by rw [c_19]; exact zBc _ _ (by decide)
        refine lv_aload_n hx hb dX14_function_58 rfl (lv_at hl 0 rfl) ?_
        refine zt_getk (t := 14) (C := RX14) (T := TX14) (N := 40) Z h hth zin_14 rfl 4 (hfF_1.f hth 4 ⟨by decide, by decide⟩ kpr) ⟨by decide, rfl, by decide⟩ (zm_RX14 (List.mem_of_getElem? (i := 119) rfl)) (fun _ h9 => h9) dX14_function_59 ?_
        refine zt_getrN (t := 11) (C := RX11) (T := TX11) (N := 30) Z h hpr zin_11 rfl 7 rfl ⟨by decide, rfl⟩ (zn_15 Z) (fun _ h9 => h9) dX14_function_62 (fun a_21 ka_21 ha_21 => ?_)
        refine lv_iload_n hx hb dX14_function_65 rfl (lv_at hl 1 rfl) ?_
        refine zt_ialde (t := 127) Z h ha_21 ⟨by decide, rfl⟩ bf__11 ⟨by decide, by decide⟩ dX14_function_66 (fun x_22 ex_22 bx_22 => ?_)
        subst hQ
        exact W.iret (v := x_22) hx hb hr (fun t ht hW => ⟨⟨x_22, F_1, rfl, ⟨⟨fun _ => by rw [show 6 + wh.toInt.toNat = 7 by have := bf__11.1; have := bf__11.2; have := bwh_19.1; have := bwh_19.2; have := bx_22.1; have := bx_22.2; have := bx_12.1; have := bx_12.2; have := bx_13.1; have := bx_13.2; have := bis_.1; have := bis_.2; have := bnf.1; have := bnf.2; have : (0 : Int32).toInt = 0 := (by decide); omega, zar_eq ka_21, show f_.toInt.toNat = f_.toNatClampNeg from (by have h8 := z_cl (x := f_) (by have := bf__11.1; have := bf__11.2; have := bwh_19.1; have := bwh_19.2; have := bx_22.1; have := bx_22.2; have := bx_12.1; have := bx_12.2; have := bx_13.1; have := bx_13.2; have := bis_.1; have := bis_.2; have := bnf.1; have := bnf.2; have : (0 : Int32).toInt = 0 := (by decide); omega); have := bf__11.1; have := bf__11.2; have := bwh_19.1; have := bwh_19.2; have := bx_22.1; have := bx_22.2; have := bx_12.1; have := bx_12.2; have := bx_13.1; have := bx_13.2; have := bis_.1; have := bis_.2; have := bnf.1; have := bnf.2; have : (0 : Int32).toInt = 0 := (by decide); omega)]; exact ex_22, fun h9 => by exfalso; have := bf__11.1; have := bf__11.2; have := bwh_19.1; have := bwh_19.2; have := bx_22.1; have := bx_22.2; have := bx_12.1; have := bx_12.2; have := bx_13.1; have := bx_13.2; have := bis_.1; have := bis_.2; have := bnf.1; have := bnf.2; have : (0 : Int32).toInt = 0 := (by decide); omega⟩, trivial⟩, by rw [ht]; exact h.1, h.2.1, hfF_1⟩, h.2.2.F ht⟩) h.2.2.2.2 dX14_function_67
      · by_cases c_23 : wh = 2
        · refine lv_tableIn (off := 52) (tgt := 68) hx hb dX14_function_16 (by rw [c_23]; decide) (by rw [c_23]; decide) (by rw [c_23]; rfl) (by decide) ?_
          have bwh_23 : zB 2 2 wh := by rw [c_23]; exact zBc _ _ (by decide)
          refine lv_aload_n hx hb dX14_function_68 rfl (lv_at hl 0 rfl) ?_
          refine zt_getk (t := 14) (C := RX14) (T := TX14) (N := 40) Z h hth zin_14 rfl 4 (hfF_1.f hth 4 ⟨by decide, by decide⟩ kpr) ⟨by decide, rfl, by decide⟩ (zm_RX14 (List.mem_of_getElem? (i := 119) rfl)) (fun _ h9 => h9) dX14_function_69 ?_
          refine zt_getrN (t := 11) (C := RX11) (T := TX11) (N := 30) Z h hpr zin_11 rfl 8 rfl ⟨by decide, rfl⟩ (zn_16 Z) (fun _ h9 => h9) dX14_function_72 (fun a_25 ka_25 ha_25 => ?_)
          refine lv_iload_n hx hb dX14_function_75 rfl (lv_at hl 1 rfl) ?_
          refine zt_ialde (t := 128) Z h ha_25 ⟨by decide, rfl⟩ bf__11 ⟨by decide, by decide⟩ dX14_function_76 (fun x_26 ex_26 bx_26 => ?_)
          subst hQ
          exact W.iret (v := x_26) hx hb hr (fun t ht hW => ⟨⟨x_26, F_1, rfl, ⟨⟨fun _ => by rw [show 6 + wh.toInt.toNat = 8 by have := bf__11.1; have := bf__11.2; have := bwh_23.1; have := bwh_23.2; have := bx_26.1; have := bx_26.2; have := bx_12.1; have := bx_12.2; have := bx_13.1; have := bx_13.2; have := bis_.1; have := bis_.2; have := bnf.1; have := bnf.2; have : (0 : Int32).toInt = 0 := (by decide); omega, zar_eq ka_25, show f_.toInt.toNat = f_.toNatClampNeg from (by have h8 := z_cl (x := f_) (by have := bf__11.1; have := bf__11.2; have := bwh_23.1; have := bwh_23.2; have := bx_26.1; have := bx_26.2; have := bx_12.1; have := bx_12.2; have := bx_13.1; have := bx_13.2; have := bis_.1; have := bis_.2; have := bnf.1; have := bnf.2; have : (0 : Int32).toInt = 0 := (by decide); omega); have := bf__11.1; have := bf__11.2; have := bwh_23.1; have := bwh_23.2; have := bx_26.1; have := bx_26.2; have := bx_12.1; have := bx_12.2; have := bx_13.1; have := bx_13.2; have := bis_.1; have := bis_.2; have := bnf.1; have := bnf.2; have : (0 : Int32).toInt = 0 := (by decide); omega)]; exact ex_26, fun h9 => by exfalso; have := bf__11.1; have := bf__11.2; have := bwh_23.1; have := bwh_23.2; have := bx_26.1; have := bx_26.2; have := bx_12.1; have := bx_12.2; have := bx_13.1; have := bx_13.2; have := bis_.1; have := bis_.2; have := bnf.1; have := bnf.2; have : (0 : Int32).toInt = 0 := (by decide); omega⟩, trivial⟩, by rw [ht]; exact h.1, h.2.1, hfF_1⟩, h.2.2.F ht⟩) h.2.2.2.2 dX14_function_77
        · by_cases c_27 : wh = 3
          · refine lv_tableIn (off := 62) (tgt := 78) hx hb dX14_function_16 (by rw [c_27]; decide) (by rw [c_27]; decide) (by rw [c_27]; rfl) (by decide) ?_
            have bwh_27 : zB 3 3 wh := by rw [c_27]; exact zBc _ _ (by decide)
            refine lv_aload_n hx hb dX14_function_78 rfl (lv_at hl 0 rfl) ?_
            refine zt_getk (t := 14) (C := RX14) (T := TX14) (N := 40) Z h hth zin_14 rfl 4 (hfF_1.f hth 4 ⟨by decide, by decide⟩ kpr) ⟨by decide, rfl, by decide⟩ (zm_RX14 (List.mem_of_getElem? (i := 119) rfl)) (fun _ h9 => h9) dX14_function_79 ?_
            refine zt_getrN (t := 11) (C := RX11) (T := TX11) (N := 30) Z h hpr zin_11 rfl 9 rfl ⟨by decide, rfl⟩ (zn_31 Z) (fun _ h9 => h9) dX14_function_82 (fun a_29 ka_29 ha_29 => ?_)
            refine lv_iload_n hx hb dX14_function_85 rfl (lv_at hl 1 rfl) ?_
            refine zt_ialde (t := 129) Z h ha_29 ⟨by decide, rfl⟩ bf__11 ⟨by decide, by decide⟩ dX14_function_86 (fun x_30 ex_30 bx_30 => ?_)
            subst hQ
            exact W.iret (v := x_30) hx hb hr (fun t ht hW => ⟨⟨x_30, F_1, rfl, ⟨⟨fun _ => by rw [show 6 + wh.toInt.toNat = 9 by have := bf__11.1; have := bf__11.2; have := bwh_27.1; have := bwh_27.2; have := bx_30.1; have := bx_30.2; have := bx_12.1; have := bx_12.2; have := bx_13.1; have := bx_13.2; have := bis_.1; have := bis_.2; have := bnf.1; have := bnf.2; have : (0 : Int32).toInt = 0 := (by decide); omega, zar_eq ka_29, show f_.toInt.toNat = f_.toNatClampNeg from (by have h8 := z_cl (x := f_) (by have := bf__11.1; have := bf__11.2; have := bwh_27.1; have := bwh_27.2; have := bx_30.1; have := bx_30.2; have := bx_12.1; have := bx_12.2; have := bx_13.1; have := bx_13.2; have := bis_.1; have := bis_.2; have := bnf.1; have := bnf.2; have : (0 : Int32).toInt = 0 := (by decide); omega); have := bf__11.1; have := bf__11.2; have := bwh_27.1; have := bwh_27.2; have := bx_30.1; have := bx_30.2; have := bx_12.1; have := bx_12.2; have := bx_13.1; have := bx_13.2; have := bis_.1; have := bis_.2; have := bnf.1; have := bnf.2; have : (0 : Int32).toInt = 0 := (by decide); omega)]; exact ex_30, fun h9 => by exfalso; have := bf__11.1; have := bf__11.2; have := bwh_27.1; have := bwh_27.2; have := bx_30.1; have := bx_30.2; have := bx_12.1; have := bx_12.2; have := bx_13.1; have := bx_13.2; have := bis_.1; have := bis_.2; have := bnf.1; have := bnf.2; have : (0 : Int32).toInt = 0 := (by decide); omega⟩, trivial⟩, by rw [ht]; exact h.1, h.2.1, hfF_1⟩, h.2.2.F ht⟩) h.2.2.2.2 dX14_function_87
          · have nc_15 : wh.toInt ≠ 0 := z_nev c_15 (by decide)
            have nc_19 : wh.toInt ≠ 1 := z_nev c_19 (by decide)
            have nc_23 : wh.toInt ≠ 2 := z_nev c_23 (by decide)
            have nc_27 : wh.toInt ≠ 3 := z_nev c_27 (by decide)
            refine lv_tableOut (tgt := 88) hx hb dX14_function_16 (by have := (zB.all wh).1; have := (zB.all wh).2; omega) (by decide) ?_
            refine lv_iconst (v := (-1)) hx hb dX14_function_88 (by decide) ?_
            subst hQ
            exact W.iret (v := (-1)) hx hb hr (fun t ht hW => ⟨⟨(-1), F_1, rfl, ⟨⟨fun h9 => by exfalso; have := bf__11.1; have := bf__11.2; have := (zB.all wh).1; have := (zB.all wh).2; have := bx_12.1; have := bx_12.2; have := bx_13.1; have := bx_13.2; have := bis_.1; have := bis_.2; have := bnf.1; have := bnf.2; have : ((-1) : Int32).toInt = (-1) := (by decide); have : (0 : Int32).toInt = 0 := (by decide); omega, fun _ => by have := bf__11.1; have := bf__11.2; have := (zB.all wh).1; have := (zB.all wh).2; have := bx_12.1; have := bx_12.2; have := bx_13.1; have := bx_13.2; have := bis_.1; have := bis_.2; have := bnf.1; have := bnf.2; have : ((-1) : Int32).toInt = (-1) := (by decide); have : (0 : Int32).toInt = 0 := (by decide); omega⟩, trivial⟩, by rw [ht]; exact h.1, h.2.1, hfF_1⟩, h.2.2.F ht⟩) h.2.2.2.2 dX14_function_89
  · have q_31 := q_6 c_9
    have c_9 := z_eq c_9
    have br_2_32 : zB 0 0 r_2 := zB.eqL (a := 0) (b := 0) c_9 (zBc 0 0 (by decide))
    refine lv_iconst (v := (-1)) hx hb dX14_function_13 (by decide) ?_
    subst hQ
    exact W.iret (v := (-1)) hx hb hr (fun t ht hW => ⟨⟨(-1), F_1, rfl, ⟨⟨fun h9 => by exfalso; have := (zB.all f_).1; have := (zB.all f_).2; have := (zB.all wh).1; have := (zB.all wh).2; have := bis_.1; have := bis_.2; have := bnf.1; have := bnf.2; have : ((-1) : Int32).toInt = (-1) := (by decide); have : (0 : Int32).toInt = 0 := (by decide); omega, fun _ => by have := (zB.all f_).1; have := (zB.all f_).2; have := (zB.all wh).1; have := (zB.all wh).2; have := bis_.1; have := bis_.2; have := bnf.1; have := bnf.2; have : ((-1) : Int32).toInt = (-1) := (by decide); have : (0 : Int32).toInt = 0 := (by decide); omega⟩, trivial⟩, by rw [ht]; exact h.1, h.2.1, hfF_1⟩, h.2.2.F ht⟩) h.2.2.2.2 dX14_function_14

set_option maxHeartbeats 4000000 in
set_option maxRecDepth 100000 in
theorem zc_X14_name (l : Launch) (D : va_G) (k : Nat → ClassId) (Γ : Nat → Option Nat) (L : List Nat) (F : Nat → va_E) (sz : Nat) (th : Nat) (f_ : Int32) (i : Int32) (pr : Nat) (is_ : Int32) (nf : Int32) (hth : Γ th = some 14) (kpr : zfld F th 4 = .ref pr) (hpr : Γ pr = some 11) (kis_ : zfld F th 7 = .int is_) (bis_ : zB 0 1 is_) (knf : zfld F pr 0 = .int nf) (bnf : zB 0 10 nf) (hr0 : ∀ f : Nat, (f : Int) < nf.toInt → is_.toInt ≠ 0 → (zar F pr 5 f).toInt = zsz (zal F pr 4 f).toInt ∧ 0 ≤ (zal F pr 4 f).toInt) : Met l yX14_name zwX14_name ({ frames := 1, cells := 0, slots := 0, locals := 21 }) (va_Pc [.ref th, .int f_, .int i] (zP D k Γ L F sz)) (va_Qi (fun (r : Int32) (u : Nat → va_E) => (∃ (t9 : Int32), zfld u th 0 = .int t9 ∧ zB 0 1 t9 ∧ (0 = 0) ∧ (((t9.toInt = 1 ∧ (is_.toInt = 0 ∨ f_.toInt < 0 ∨ nf.toInt ≤ f_.toInt ∨ i.toInt < 0 ∨ zsz (zal F pr 4 (Int32.toNatClampNeg f_)).toInt ≤ i.toInt)) ∨ (t9.toInt = 0 ∧ (is_.toInt ≠ 0 ∧ 0 ≤ f_.toInt ∧ f_.toInt < nf.toInt ∧ 0 ≤ i.toInt ∧ i.toInt < zsz (zal F pr 4 (Int32.toNatClampNeg f_)).toInt) ∧ r.toInt = zdg (zal F pr 4 (Int32.toNatClampNeg f_)).toInt i.toInt)))) ∧ True) (zQ D k Γ L F [1400]) (zA L sz)) 0 0 (zA L sz) := by
  refine Met.ofW (cc := cX14_name) (maxL := 3) (ret := (some .int)) (by decide) rfl ?_
  intro p e s m args below meth c s₁ B hml hv
  obtain ⟨rfl, hsz, hP, hK, hLn, hE, hI⟩ := hv
  have hx := B.exec
  have hb := B.bytes
  have hr := B.returns
  have hg : ∀ w ∈ zG, w.before _ s = true := fun w h9 => atoms_spec (ws := zwX14_name) B.pre w (List.mem_cons_of_mem _ h9)
  have hown : s.vm.findClass RX14 = some m.cls := findClass_of_methodNamed B.named
  have hlocks := B.notSynchronized
  subst hsz
  have Z : zC p m c cX14_name 3 s _ zG RX14 D k L := ⟨⟨hx, hb, hml, hown, hg⟩, hK, hLn, hE⟩
  have h : zH D k Γ L s F s.heap [] := ⟨hP, hI, va_S.rf⟩
  have hl := lv_entry ([.ref th, .int f_, .int i]) (n := 3) (Nat.le_of_ble_eq_true rfl)
  rw [lg_entry_eq]
  generalize (lg_sl ([.ref th, .int f_, .int i]) ++ List.replicate (3 - (lg_sl ([.ref th, .int f_, .int i])).length) Slot.unset).toArray = ls at hl ⊢
  have hl : lv_has ls 3 [(0, .ref th), (1, .int f_), (2, .int i)] := hl
  clear hP hK hLn hE hI
  generalize hargs : ([.ref th, .int f_, .int i] : List Value).toArray = args at *
  refine z_start (fun R Q hRf hRl hQ => ?_)
  have hRf : R.frames = 1 := hRf
  have hRl : R.locals = 21 := hRl
  have h9 := h
  have saP := z_SA h.2.1 hpr
  refine lv_aload_n hx hb dX14_name_0 rfl (lv_at hl 0 rfl) ?_
  refine lv_aload_n hx hb dX14_name_1 rfl (lv_at hl 0 rfl) ?_
  refine lv_iload_n hx hb dX14_name_2 rfl (lv_at hl 1 rfl) ?_
  refine zk_Vi (As := [.int f_]) (rest := [.ref th]) (bytes := cX14_isFunction) (maxL := 2) (ret := (some .boolean)) Z h (zc_X14_isFunction l D k Γ L F s.heap.size th f_ pr is_ nf hth kpr hpr kis_ bis_ knf bnf) (cwV 1 hg zv_RX14_336 rfl rfl rfl zd_X14_isFunction ⟨z_leR hRf (by decide), z_leR hRl (by decide)⟩) hth (by decide) rfl rfl hl.1 rfl (Nat.le_of_ble_eq_true rfl) dX14_name_3 ⟨Nat.zero_le _, Nat.zero_le _⟩ (fun r_1 F_2 H locs w_3 h hfF_2 => ?_)
  obtain ⟨rfl, br_1, q_4, q_5, q_6, q_7, -⟩ := w_3
  refine lv_if_eq (tgt := 26) hx hb dX14_name_6 (by decide) (fun c_8 => ?_) (fun c_8 => ?_)
  · have q_9 := q_5 c_8
    have c_8 := z_eq c_8
    have br_1_10 : zB 0 0 r_1 := zB.eqL (a := 0) (b := 0) c_8 (zBc 0 0 (by decide))
    refine lv_iconst (v := 1) hx hb dX14_name_26 (by decide) ?_
    refine lv_goto (tgt := 31) hx hb dX14_name_27 (by decide) ?_
    refine zt_put (t := 14) (C := RX14) (T := TX14) (N := 40) (v := .int 1) Z h hth zin_14 tyX14 tyX14_ok nmX14 rfl 0 rfl ⟨by decide, rfl⟩ (zm_RX14 (List.mem_of_getElem? (i := 105) rfl)) (fun _ h9 => h9) rfl (zV.i (zB.of ⟨by decide, by decide⟩)) rfl rfl dX14_name_31 (fun H locs F_11 h hfF_11 kF_11 => ?_)
    refine lv_aload_n hx hb dX14_name_34 rfl (lv_at hl 0 rfl) ?_
    refine zt_getk (t := 14) (C := RX14) (T := TX14) (N := 40) Z h hth zin_14 rfl 0 kF_11 ⟨by decide, rfl, by decide⟩ (zm_RX14 (List.mem_of_getElem? (i := 105) rfl)) (fun _ h9 => h9) dX14_name_35 ?_
    refine lv_if_le (tgt := 43) hx hb dX14_name_38 (by decide) (fun h9 => absurd h9 (by decide)) (fun _ => ?_)
    refine lv_iconst (v := 0) hx hb dX14_name_41 (by decide) ?_
    subst hQ
    exact W.iret (v := 0) hx hb hr (fun t ht hW => ⟨⟨0, F_11, rfl, ⟨⟨1, kF_11, (zB.of ⟨by decide, by decide⟩), (by have := (zB.all f_).1; have := (zB.all f_).2; have := (zB.all i).1; have := (zB.all i).2; have := bis_.1; have := bis_.2; have := bnf.1; have := bnf.2; have : (0 : Int32).toInt = 0 := (by decide); have : (1 : Int32).toInt = 1 := (by decide); omega), (Or.inl ⟨by have := (zB.all f_).1; have := (zB.all f_).2; have := (zB.all i).1; have := (zB.all i).2; have := bis_.1; have := bis_.2; have := bnf.1; have := bnf.2; have : (0 : Int32).toInt = 0 := (by decide); have : (1 : Int32).toInt = 1 := (by decide); omega, by have := (zB.all f_).1; have := (zB.all f_).2; have := (zB.all i).1; have := (zB.all i).2; have := bis_.1; have := bis_.2; have := bnf.1; have := bnf.2; have : (0 : Int32).toInt = 0 := (by decide); have : (1 : Int32).toInt = 1 := (by decide); omega⟩)⟩, trivial⟩, by rw [ht]; exact h.1, h.2.1, hfF_11⟩, h.2.2.F ht⟩) h.2.2.2.2 dX14_name_42
  · have q_12 := q_4 c_8
    have bf__13 : zB 0 9 f_ := q_6 c_8
    obtain ⟨⟨x_14, kx_14, hx_14⟩, x_15, kx_15, hx_15⟩ := q_7 c_8
    have bx_14 := zB.all x_14
    have bx_15 : zB 0 10 x_15 := by obtain ⟨x9, k9, b9⟩ := z_learn (j := 0) (lo := 0) (hi := 10) h hpr (by decide) rfl; rw [z_vi kx_15 k9]; exact b9
    have c_8 := z_ne c_8
    have br_1_16 : zB 1 1 r_1 := zB.neLo c_8 br_1 (zBc 0 0 (by decide)) (by decide)
    refine lv_iload_n hx hb dX14_name_9 rfl (lv_at hl 2 rfl) ?_
    refine lv_if_lt (tgt := 26) hx hb dX14_name_10 (by decide) (fun c_17 => ?_) (fun c_17 => ?_)
    · have c_17 := z_lt c_17
      have bi_18 : zB (-2147483648) (-1) i := zB.ltL c_17 (zB.all i) (zBc 0 0 (by decide)) (by decide)
      refine lv_iconst (v := 1) hx hb dX14_name_26 (by decide) ?_
      refine lv_goto (tgt := 31) hx hb dX14_name_27 (by decide) ?_
      refine zt_put (t := 14) (C := RX14) (T := TX14) (N := 40) (v := .int 1) Z h hth zin_14 tyX14 tyX14_ok nmX14 rfl 0 rfl ⟨by decide, rfl⟩ (zm_RX14 (List.mem_of_getElem? (i := 105) rfl)) (fun _ h9 => h9) rfl (zV.i (zB.of ⟨by decide, by decide⟩)) rfl rfl dX14_name_31 (fun H locs F_19 h hfF_19 kF_19 => ?_)
      refine lv_aload_n hx hb dX14_name_34 rfl (lv_at hl 0 rfl) ?_
      refine zt_getk (t := 14) (C := RX14) (T := TX14) (N := 40) Z h hth zin_14 rfl 0 kF_19 ⟨by decide, rfl, by decide⟩ (zm_RX14 (List.mem_of_getElem? (i := 105) rfl)) (fun _ h9 => h9) dX14_name_35 ?_
      refine lv_if_le (tgt := 43) hx hb dX14_name_38 (by decide) (fun h9 => absurd h9 (by decide)) (fun _ => ?_)
      refine lv_iconst (v := 0) hx hb dX14_name_41 (by decide) ?_
      subst hQ
      exact W.iret (v := 0) hx hb hr (fun t ht hW => ⟨⟨0, F_19, rfl, ⟨⟨1, kF_19, (zB.of ⟨by decide, by decide⟩), (by have := bf__13.1; have := bf__13.2; have := bi_18.1; have := bi_18.2; have := bx_14.1; have := bx_14.2; have := bx_15.1; have := bx_15.2; have := bis_.1; have := bis_.2; have := bnf.1; have := bnf.2; have : (0 : Int32).toInt = 0 := (by decide); have : (1 : Int32).toInt = 1 := (by decide); omega), (Or.inl ⟨by have := bf__13.1; have := bf__13.2; have := bi_18.1; have := bi_18.2; have := bx_14.1; have := bx_14.2; have := bx_15.1; have := bx_15.2; have := bis_.1; have := bis_.2; have := bnf.1; have := bnf.2; have : (0 : Int32).toInt = 0 := (by decide); have : (1 : Int32).toInt = 1 := (by decide); omega, by have := bf__13.1; have := bf__13.2; have := bi_18.1; have := bi_18.2; have := bx_14.1; have := bx_14.2; have := bx_15.1; have := bx_15.2; have := bis_.1; have := bis_.2; have := bnf.1; have := bnf.2; have : (0 : Int32).toInt = 0 := (by decide); have : (1 : Int32).toInt = 1 := (by decide); omega⟩)⟩, trivial⟩, by rw [ht]; exact h.1, h.2.1, hfF_19⟩, h.2.2.F ht⟩) h.2.2.2.2 dX14_name_42
    · have c_17 := z_nlt c_17
      have bi_20 : zB 0 2147483647 i := zB.leR c_17 (zBc 0 0 (by decide)) (zB.all i) (by decide)
      refine lv_iload_n hx hb dX14_name_13 rfl (lv_at hl 2 rfl) ?_
      refine lv_aload_n hx hb dX14_name_14 rfl (lv_at hl 0 rfl) ?_
      refine zt_getk (t := 14) (C := RX14) (T := TX14) (N := 40) Z h hth zin_14 rfl 4 kpr ⟨by decide, rfl, by decide⟩ (zm_RX14 (List.mem_of_getElem? (i := 119) rfl)) (fun _ h9 => h9) dX14_name_15 ?_
      refine zt_getrN (t := 11) (C := RX11) (T := TX11) (N := 30) Z h hpr zin_11 rfl 5 rfl ⟨by decide, rfl⟩ (zn_13 Z) (fun _ h9 => h9) dX14_name_18 (fun a_21 ka_21 ha_21 => ?_)
      refine lv_iload_n hx hb dX14_name_21 rfl (lv_at hl 1 rfl) ?_
      refine zt_ialde (t := 125) Z h ha_21 ⟨by decide, rfl⟩ bf__13 ⟨by decide, by decide⟩ dX14_name_22 (fun x_22 ex_22 bx_22 => ?_)
      have z_23 : zar F pr 5 (Int32.toNatClampNeg f_) = x_22 := by rw [zar_eq ka_21]; exact ex_22
      refine lv_icmp_lt (tgt := 30) hx hb dX14_name_23 (by decide) (fun c_24 => ?_) (fun c_24 => ?_)
      · have c_24 := z_lt c_24
        have bi_25 : zB 0 2147483646 i := zB.ltL c_24 bi_20 bx_22 (by decide)
        have bx_22_26 : zB 1 2147483647 x_22 := zB.ltR c_24 bi_20 bx_22 (by decide)
        refine lv_iconst (v := 0) hx hb dX14_name_30 (by decide) ?_
        refine zt_put (t := 14) (C := RX14) (T := TX14) (N := 40) (v := .int 0) Z h hth zin_14 tyX14 tyX14_ok nmX14 rfl 0 rfl ⟨by decide, rfl⟩ (zm_RX14 (List.mem_of_getElem? (i := 105) rfl)) (fun _ h9 => h9) rfl (zV.i (zB.of ⟨by decide, by decide⟩)) rfl rfl dX14_name_31 (fun H locs F_27 h hfF_27 kF_27 => ?_)
        refine lv_aload_n hx hb dX14_name_34 rfl (lv_at hl 0 rfl) ?_
        refine zt_getk (t := 14) (C := RX14) (T := TX14) (N := 40) Z h hth zin_14 rfl 0 kF_27 ⟨by decide, rfl, by decide⟩ (zm_RX14 (List.mem_of_getElem? (i := 105) rfl)) (fun _ h9 => h9) dX14_name_35 ?_
        refine lv_if_le (tgt := 43) hx hb dX14_name_38 (by decide) (fun _ => ?_) (fun h9 => absurd (by decide) h9)
        refine lv_bipush (v := 96) hx hb dX14_name_43 (by decide) ?_
        refine lv_aload_n hx hb dX14_name_45 rfl (lv_at hl 0 rfl) ?_
        refine zt_getk (t := 14) (C := RX14) (T := TX14) (N := 40) Z h hth zin_14 rfl 4 (hfF_27.f hth 4 ⟨by decide, by decide⟩ kpr) ⟨by decide, rfl, by decide⟩ (zm_RX14 (List.mem_of_getElem? (i := 119) rfl)) (fun _ h9 => h9) dX14_name_46 ?_
        refine zt_getrN (t := 11) (C := RX11) (T := TX11) (N := 30) Z h hpr zin_11 rfl 4 rfl ⟨by decide, rfl⟩ (zn_12 Z) (fun _ h9 => h9) dX14_name_49 (fun a_28 ka_28 ha_28 => ?_)
        refine lv_iload_n hx hb dX14_name_52 rfl (lv_at hl 1 rfl) ?_
        refine zt_lalde (t := 124) Z h ha_28 ⟨by decide, rfl⟩ bf__13 ⟨by decide, by decide⟩ dX14_name_53 (fun g_29 eg_29 => ?_)
        have hA_ : zal F pr 4 (Int32.toNatClampNeg f_) = g_29 := by rw [← saP.al (hfF_27 : zFr Γ [1400] F F_27) 4 (by decide), zal_eq ka_28]; exact eg_29
        refine lv_iconst (v := 5) hx hb dX14_name_54 (by decide) ?_
        refine lv_aload_n hx hb dX14_name_55 rfl (lv_at hl 0 rfl) ?_
        refine zt_getk (t := 14) (C := RX14) (T := TX14) (N := 40) Z h hth zin_14 rfl 4 (hfF_27.f hth 4 ⟨by decide, by decide⟩ kpr) ⟨by decide, rfl, by decide⟩ (zm_RX14 (List.mem_of_getElem? (i := 119) rfl)) (fun _ h9 => h9) dX14_name_56 ?_
        refine zt_getkN (t := 11) (C := RX11) (T := TX11) (N := 30) Z h hpr zin_11 rfl 5 (hfF_27.f hpr 5 ⟨by decide, by decide⟩ ka_21) ⟨by decide, rfl, by decide⟩ (zn_13 Z) (fun _ h9 => h9) dX14_name_59 ?_
        refine lv_iload_n hx hb dX14_name_62 rfl (lv_at hl 1 rfl) ?_
        refine zt_ialdk (t := 125) Z h ha_21 ⟨by decide, rfl⟩ bf__13 ⟨by decide, by decide⟩ (hfF_27.el ha_21 ⟨by decide, by decide⟩ ex_22) dX14_name_63 ?_
        have z_30 : zar F pr 5 (Int32.toNatClampNeg f_) = x_22 := by rw [← saP.ar (hfF_27 : zFr Γ [1400] F F_27) 5 (by decide), zar_eq (hfF_27.f hpr 5 ⟨by decide, by decide⟩ ka_21)]; exact (hfF_27.el ha_21 ⟨by decide, by decide⟩ ex_22)
        refine lv_iconst (v := 1) hx hb dX14_name_64 (by decide) ?_
        refine lv_isub hx hb dX14_name_65 ?_
        refine zi_sub (lo := 0) (hi := 2147483646) bx_22_26 (zBc 1 1 (by decide)) (by decide) (fun x_31 bx_31 tx_31 => ?_)
        refine lv_iload_n hx hb dX14_name_66 rfl (lv_at hl 2 rfl) ?_
        refine lv_isub hx hb dX14_name_67 ?_
        refine zi_sub (lo := (-2147483646)) (hi := 2147483646) bx_31 bi_25 (by decide) (fun x_32 bx_32 tx_32 => ?_)
        refine lv_imul hx hb dX14_name_68 ?_
        refine zi_any (fun x_33 bx_33 ex_33 => ?_)
        refine lv_lshr hx hb dX14_name_69 rfl ?_
        refine lv_topl (fun g_34 eg_34 => ?_)
        refine lv_ldc2 hx hb hown (hg _ (zm_RX14 (List.mem_of_getElem? (i := 137) rfl))) dX14_name_70 ?_
        refine lv_land hx hb dX14_name_73 ?_
        refine lv_topl (fun g_35 eg_35 => ?_)
        refine lv_l2i hx hb dX14_name_74 rfl ?_
        refine zi_any (fun x_36 bx_36 ex_36 => ?_)
        refine lv_iadd hx hb dX14_name_75 ?_
        refine zi_any (fun x_37 bx_37 ex_37 => ?_)
        subst hQ
        exact W.iret (v := x_37) hx hb hr (fun t ht hW => ⟨⟨x_37, F_27, rfl, ⟨⟨0, kF_27, (zB.of ⟨by decide, by decide⟩), (by have := bf__13.1; have := bf__13.2; have := bi_25.1; have := bi_25.2; have := bx_37.1; have := bx_37.2; have := bx_14.1; have := bx_14.2; have := bx_15.1; have := bx_15.2; have := bis_.1; have := bis_.2; have := bnf.1; have := bnf.2; have : (0 : Int32).toInt = 0 := (by decide); have : (1 : Int32).toInt = 1 := (by decide); have : (5 : Int32).toInt = 5 := (by decide); have : (96 : Int32).toInt = 96 := (by decide); omega), (by have h5 := hr0 (Int32.toNatClampNeg f_) (by have := z_cl (x := f_) (by have := bf__13.1; have := bf__13.2; have := bi_25.1; have := bi_25.2; have := bx_37.1; have := bx_37.2; have := bx_22_26.1; have := bx_22_26.2; have := bx_14.1; have := bx_14.2; have := bx_15.1; have := bx_15.2; have := bis_.1; have := bis_.2; have := bnf.1; have := bnf.2; have : (0 : Int32).toInt = 0 := (by decide); have : (1 : Int32).toInt = 1 := (by decide); have : (5 : Int32).toInt = 5 := (by decide); have : (96 : Int32).toInt = 96 := (by decide); omega); have := bf__13.1; have := bf__13.2; have := bi_25.1; have := bi_25.2; have := bx_37.1; have := bx_37.2; have := bx_22_26.1; have := bx_22_26.2; have := bx_14.1; have := bx_14.2; have := bx_15.1; have := bx_15.2; have := bis_.1; have := bis_.2; have := bnf.1; have := bnf.2; have : (0 : Int32).toInt = 0 := (by decide); have : (1 : Int32).toInt = 1 := (by decide); have : (5 : Int32).toInt = 5 := (by decide); have : (96 : Int32).toInt = 96 := (by decide); omega) (by have := bf__13.1; have := bf__13.2; have := bi_25.1; have := bi_25.2; have := bx_37.1; have := bx_37.2; have := bx_22_26.1; have := bx_22_26.2; have := bx_14.1; have := bx_14.2; have := bx_15.1; have := bx_15.2; have := bis_.1; have := bis_.2; have := bnf.1; have := bnf.2; have : (0 : Int32).toInt = 0 := (by decide); have : (1 : Int32).toInt = 1 := (by decide); have : (5 : Int32).toInt = 5 := (by decide); have : (96 : Int32).toInt = 96 := (by decide); omega); rw [z_30] at h5; have h6 := h5.1; rw [hA_] at h5 h6 ⊢; have h8 := zsz_8 g_29.toInt; refine Or.inr ⟨by have := bf__13.1; have := bf__13.2; have := bi_25.1; have := bi_25.2; have := bx_37.1; have := bx_37.2; have := bx_22_26.1; have := bx_22_26.2; have := bx_14.1; have := bx_14.2; have := bx_15.1; have := bx_15.2; have := bis_.1; have := bis_.2; have := bnf.1; have := bnf.2; have : (0 : Int32).toInt = 0 := (by decide); have : (1 : Int32).toInt = 1 := (by decide); have : (5 : Int32).toInt = 5 := (by decide); have : (96 : Int32).toInt = 96 := (by decide); omega, ⟨by have := bf__13.1; have := bf__13.2; have := bi_25.1; have := bi_25.2; have := bx_37.1; have := bx_37.2; have := bx_22_26.1; have := bx_22_26.2; have := bx_14.1; have := bx_14.2; have := bx_15.1; have := bx_15.2; have := bis_.1; have := bis_.2; have := bnf.1; have := bnf.2; have : (0 : Int32).toInt = 0 := (by decide); have : (1 : Int32).toInt = 1 := (by decide); have : (5 : Int32).toInt = 5 := (by decide); have : (96 : Int32).toInt = 96 := (by decide); omega, by have := bf__13.1; have := bf__13.2; have := bi_25.1; have := bi_25.2; have := bx_37.1; have := bx_37.2; have := bx_22_26.1; have := bx_22_26.2; have := bx_14.1; have := bx_14.2; have := bx_15.1; have := bx_15.2; have := bis_.1; have := bis_.2; have := bnf.1; have := bnf.2; have : (0 : Int32).toInt = 0 := (by decide); have : (1 : Int32).toInt = 1 := (by decide); have : (5 : Int32).toInt = 5 := (by decide); have : (96 : Int32).toInt = 96 := (by decide); omega, by have := bf__13.1; have := bf__13.2; have := bi_25.1; have := bi_25.2; have := bx_37.1; have := bx_37.2; have := bx_22_26.1; have := bx_22_26.2; have := bx_14.1; have := bx_14.2; have := bx_15.1; have := bx_15.2; have := bis_.1; have := bis_.2; have := bnf.1; have := bnf.2; have : (0 : Int32).toInt = 0 := (by decide); have : (1 : Int32).toInt = 1 := (by decide); have : (5 : Int32).toInt = 5 := (by decide); have : (96 : Int32).toInt = 96 := (by decide); omega, by have := bf__13.1; have := bf__13.2; have := bi_25.1; have := bi_25.2; have := bx_37.1; have := bx_37.2; have := bx_22_26.1; have := bx_22_26.2; have := bx_14.1; have := bx_14.2; have := bx_15.1; have := bx_15.2; have := bis_.1; have := bis_.2; have := bnf.1; have := bnf.2; have : (0 : Int32).toInt = 0 := (by decide); have : (1 : Int32).toInt = 1 := (by decide); have : (5 : Int32).toInt = 5 := (by decide); have : (96 : Int32).toInt = 96 := (by decide); omega, by have := bf__13.1; have := bf__13.2; have := bi_25.1; have := bi_25.2; have := bx_37.1; have := bx_37.2; have := bx_22_26.1; have := bx_22_26.2; have := bx_14.1; have := bx_14.2; have := bx_15.1; have := bx_15.2; have := bis_.1; have := bis_.2; have := bnf.1; have := bnf.2; have : (0 : Int32).toInt = 0 := (by decide); have : (1 : Int32).toInt = 1 := (by decide); have : (5 : Int32).toInt = 5 := (by decide); have : (96 : Int32).toInt = 96 := (by decide); omega⟩, ?_⟩; exact z_digz h5.2 h6 ⟨by have := bf__13.1; have := bf__13.2; have := bi_25.1; have := bi_25.2; have := bx_37.1; have := bx_37.2; have := bx_22_26.1; have := bx_22_26.2; have := bx_14.1; have := bx_14.2; have := bx_15.1; have := bx_15.2; have := bis_.1; have := bis_.2; have := bnf.1; have := bnf.2; have : (0 : Int32).toInt = 0 := (by decide); have : (1 : Int32).toInt = 1 := (by decide); have : (5 : Int32).toInt = 5 := (by decide); have : (96 : Int32).toInt = 96 := (by decide); omega, by have := bf__13.1; have := bf__13.2; have := bi_25.1; have := bi_25.2; have := bx_37.1; have := bx_37.2; have := bx_22_26.1; have := bx_22_26.2; have := bx_14.1; have := bx_14.2; have := bx_15.1; have := bx_15.2; have := bis_.1; have := bis_.2; have := bnf.1; have := bnf.2; have : (0 : Int32).toInt = 0 := (by decide); have : (1 : Int32).toInt = 1 := (by decide); have : (5 : Int32).toInt = 5 := (by decide); have : (96 : Int32).toInt = 96 := (by decide); omega⟩ (by have h7 := z_m5 ex_33 ⟨by have := bf__13.1; have := bf__13.2; have := bi_25.1; have := bi_25.2; have := bx_37.1; have := bx_37.2; have := bx_22_26.1; have := bx_22_26.2; have := bx_14.1; have := bx_14.2; have := bx_15.1; have := bx_15.2; have := bis_.1; have := bis_.2; have := bnf.1; have := bnf.2; have : (0 : Int32).toInt = 0 := (by decide); have : (1 : Int32).toInt = 1 := (by decide); have : (5 : Int32).toInt = 5 := (by decide); have : (96 : Int32).toInt = 96 := (by decide); omega, by have := bf__13.1; have := bf__13.2; have := bi_25.1; have := bi_25.2; have := bx_37.1; have := bx_37.2; have := bx_22_26.1; have := bx_22_26.2; have := bx_14.1; have := bx_14.2; have := bx_15.1; have := bx_15.2; have := bis_.1; have := bis_.2; have := bnf.1; have := bnf.2; have : (0 : Int32).toInt = 0 := (by decide); have : (1 : Int32).toInt = 1 := (by decide); have : (5 : Int32).toInt = 5 := (by decide); have : (96 : Int32).toInt = 96 := (by decide); omega⟩; have := bf__13.1; have := bf__13.2; have := bi_25.1; have := bi_25.2; have := bx_37.1; have := bx_37.2; have := bx_22_26.1; have := bx_22_26.2; have := bx_14.1; have := bx_14.2; have := bx_15.1; have := bx_15.2; have := bis_.1; have := bis_.2; have := bnf.1; have := bnf.2; have : (0 : Int32).toInt = 0 := (by decide); have : (1 : Int32).toInt = 1 := (by decide); have : (5 : Int32).toInt = 5 := (by decide); have : (96 : Int32).toInt = 96 := (by decide); omega) eg_34 eg_35 ex_36 ex_37)⟩, trivial⟩, by rw [ht]; exact h.1, h.2.1, hfF_27⟩, h.2.2.F ht⟩) h.2.2.2.2 dX14_name_76
      · have c_24 := z_nlt c_24
        refine lv_iconst (v := 1) hx hb dX14_name_26 (by decide) ?_
        refine lv_goto (tgt := 31) hx hb dX14_name_27 (by decide) ?_
        refine zt_put (t := 14) (C := RX14) (T := TX14) (N := 40) (v := .int 1) Z h hth zin_14 tyX14 tyX14_ok nmX14 rfl 0 rfl ⟨by decide, rfl⟩ (zm_RX14 (List.mem_of_getElem? (i := 105) rfl)) (fun _ h9 => h9) rfl (zV.i (zB.of ⟨by decide, by decide⟩)) rfl rfl dX14_name_31 (fun H locs F_38 h hfF_38 kF_38 => ?_)
        refine lv_aload_n hx hb dX14_name_34 rfl (lv_at hl 0 rfl) ?_
        refine zt_getk (t := 14) (C := RX14) (T := TX14) (N := 40) Z h hth zin_14 rfl 0 kF_38 ⟨by decide, rfl, by decide⟩ (zm_RX14 (List.mem_of_getElem? (i := 105) rfl)) (fun _ h9 => h9) dX14_name_35 ?_
        refine lv_if_le (tgt := 43) hx hb dX14_name_38 (by decide) (fun h9 => absurd h9 (by decide)) (fun _ => ?_)
        refine lv_iconst (v := 0) hx hb dX14_name_41 (by decide) ?_
        subst hQ
        exact W.iret (v := 0) hx hb hr (fun t ht hW => ⟨⟨0, F_38, rfl, ⟨⟨1, kF_38, (zB.of ⟨by decide, by decide⟩), (by have := bf__13.1; have := bf__13.2; have := bi_20.1; have := bi_20.2; have := bx_14.1; have := bx_14.2; have := bx_15.1; have := bx_15.2; have := bis_.1; have := bis_.2; have := bnf.1; have := bnf.2; have : (0 : Int32).toInt = 0 := (by decide); have : (1 : Int32).toInt = 1 := (by decide); omega), (Or.inl ⟨by have := bf__13.1; have := bf__13.2; have := bi_20.1; have := bi_20.2; have := bx_22.1; have := bx_22.2; have := bx_14.1; have := bx_14.2; have := bx_15.1; have := bx_15.2; have := bis_.1; have := bis_.2; have := bnf.1; have := bnf.2; have : (0 : Int32).toInt = 0 := (by decide); have : (1 : Int32).toInt = 1 := (by decide); omega, by have h5 := hr0 (Int32.toNatClampNeg f_) (by have := z_cl (x := f_) (by have := bf__13.1; have := bf__13.2; have := bi_20.1; have := bi_20.2; have := bx_22.1; have := bx_22.2; have := bx_14.1; have := bx_14.2; have := bx_15.1; have := bx_15.2; have := bis_.1; have := bis_.2; have := bnf.1; have := bnf.2; have : (0 : Int32).toInt = 0 := (by decide); have : (1 : Int32).toInt = 1 := (by decide); omega); have := bf__13.1; have := bf__13.2; have := bi_20.1; have := bi_20.2; have := bx_22.1; have := bx_22.2; have := bx_14.1; have := bx_14.2; have := bx_15.1; have := bx_15.2; have := bis_.1; have := bis_.2; have := bnf.1; have := bnf.2; have : (0 : Int32).toInt = 0 := (by decide); have : (1 : Int32).toInt = 1 := (by decide); omega) (by have := bf__13.1; have := bf__13.2; have := bi_20.1; have := bi_20.2; have := bx_22.1; have := bx_22.2; have := bx_14.1; have := bx_14.2; have := bx_15.1; have := bx_15.2; have := bis_.1; have := bis_.2; have := bnf.1; have := bnf.2; have : (0 : Int32).toInt = 0 := (by decide); have : (1 : Int32).toInt = 1 := (by decide); omega); rw [z_23] at h5; have h6 := h5.1; have := bf__13.1; have := bf__13.2; have := bi_20.1; have := bi_20.2; have := bx_22.1; have := bx_22.2; have := bx_14.1; have := bx_14.2; have := bx_15.1; have := bx_15.2; have := bis_.1; have := bis_.2; have := bnf.1; have := bnf.2; have : (0 : Int32).toInt = 0 := (by decide); have : (1 : Int32).toInt = 1 := (by decide); omega⟩)⟩, trivial⟩, by rw [ht]; exact h.1, h.2.1, hfF_38⟩, h.2.2.F ht⟩) h.2.2.2.2 dX14_name_42

set_option maxHeartbeats 4000000 in
set_option maxRecDepth 100000 in
theorem zc_X14_line (l : Launch) (D : va_G) (k : Nat → ClassId) (Γ : Nat → Option Nat) (L : List Nat) (F : Nat → va_E) (sz : Nat) (th : Nat) (li : Int32) (wh : Int32) (pr : Nat) (is_ : Int32) (nl : Int32) (hth : Γ th = some 14) (kpr : zfld F th 4 = .ref pr) (hpr : Γ pr = some 11) (kis_ : zfld F th 7 = .int is_) (bis_ : zB 0 1 is_) (knl : zfld F pr 1 = .int nl) (bnl : zB 0 60 nl) : Met l yX14_line zwX14_line ({ frames := 1, cells := 0, slots := 0, locals := 21 }) (va_Pc [.ref th, .int li, .int wh] (zP D k Γ L F sz)) (va_Qi (fun (r : Int32) (u : Nat → va_E) => ((is_.toInt ≠ 0 ∧ 0 ≤ li.toInt ∧ li.toInt < nl.toInt ∧ 0 ≤ wh.toInt ∧ wh.toInt ≤ 3 → zar u pr (13 + wh.toInt.toNat) li.toInt.toNat = r) ∧ (is_.toInt = 0 ∨ li.toInt < 0 ∨ nl.toInt ≤ li.toInt ∨ wh.toInt < 0 ∨ 3 < wh.toInt → r.toInt = -1)) ∧ True) (zQ D k Γ L F [1400]) (zA L sz)) 0 0 (zA L sz) := by
  refine Met.ofW (cc := cX14_line) (maxL := 3) (ret := (some .int)) (by decide) rfl ?_
  intro p e s m args below meth c s₁ B hml hv
  obtain ⟨rfl, hsz, hP, hK, hLn, hE, hI⟩ := hv
  have hx := B.exec
  have hb := B.bytes
  have hr := B.returns
  have hg : ∀ w ∈ zG, w.before _ s = true := fun w h9 => atoms_spec (ws := zwX14_line) B.pre w (List.mem_cons_of_mem _ h9)
  have hown : s.vm.findClass RX14 = some m.cls := findClass_of_methodNamed B.named
  have hlocks := B.notSynchronized
  subst hsz
  have Z : zC p m c cX14_line 3 s _ zG RX14 D k L := ⟨⟨hx, hb, hml, hown, hg⟩, hK, hLn, hE⟩
  have h : zH D k Γ L s F s.heap [] := ⟨hP, hI, va_S.rf⟩
  have hl := lv_entry ([.ref th, .int li, .int wh]) (n := 3) (Nat.le_of_ble_eq_true rfl)
  rw [lg_entry_eq]
  generalize (lg_sl ([.ref th, .int li, .int wh]) ++ List.replicate (3 - (lg_sl ([.ref th, .int li, .int wh])).length) Slot.unset).toArray = ls at hl ⊢
  have hl : lv_has ls 3 [(0, .ref th), (1, .int li), (2, .int wh)] := hl
  clear hP hK hLn hE hI
  generalize hargs : ([.ref th, .int li, .int wh] : List Value).toArray = args at *
  refine z_start (fun R Q hRf hRl hQ => ?_)
  have hRf : R.frames = 1 := hRf
  have hRl : R.locals = 21 := hRl
  have h9 := h
  refine lv_aload_n hx hb dX14_line_0 rfl (lv_at hl 0 rfl) ?_
  refine lv_iconst (v := 0) hx hb dX14_line_1 (by decide) ?_
  refine zt_put (t := 14) (C := RX14) (T := TX14) (N := 40) (v := .int 0) Z h hth zin_14 tyX14 tyX14_ok nmX14 rfl 0 rfl ⟨by decide, rfl⟩ (zm_RX14 (List.mem_of_getElem? (i := 105) rfl)) (fun _ h9 => h9) rfl (zV.i (zB.of ⟨by decide, by decide⟩)) rfl rfl dX14_line_2 (fun H locs F_1 h hfF_1 kF_1 => ?_)
  refine lv_aload_n hx hb dX14_line_5 rfl (lv_at hl 0 rfl) ?_
  refine lv_iload_n hx hb dX14_line_6 rfl (lv_at hl 1 rfl) ?_
  refine zk_Vi (As := [.int li]) (rest := []) (bytes := cX14_isLine) (maxL := 2) (ret := (some .boolean)) Z h (zc_X14_isLine l D k Γ L F_1 H.size th li pr is_ nl hth (hfF_1.f hth 4 ⟨by decide, by decide⟩ kpr) hpr (hfF_1.f hth 7 ⟨by decide, by decide⟩ kis_) bis_ (hfF_1.f hpr 1 ⟨by decide, by decide⟩ knl) bnl) (cwV 1 hg zv_RX14_341 rfl rfl rfl zd_X14_isLine ⟨z_leR hRf (by decide), z_leR hRl (by decide)⟩) hth (by decide) rfl rfl hl.1 rfl (Nat.le_of_ble_eq_true rfl) dX14_line_7 ⟨Nat.zero_le _, Nat.zero_le _⟩ (fun r_2 F_3 H locs w_4 h hfF_3 => ?_)
  obtain ⟨rfl, br_2, q_5, q_6, q_7, -⟩ := w_4
  refine lv_if_ne (tgt := 15) hx hb dX14_line_10 (by decide) (fun c_8 => ?_) (fun c_8 => ?_)
  · have bli_9 : zB 0 59 li := q_5 c_8
    have q_10 := q_6 c_8
    have c_8 := z_ne c_8
    have br_2_11 : zB 1 1 r_2 := zB.neLo c_8 br_2 (zBc 0 0 (by decide)) (by decide)
    refine lv_iload_n hx hb dX14_line_15 rfl (lv_at hl 2 rfl) ?_
    by_cases c_12 : wh = 0
    · refine lv_tableIn (off := 32) (tgt := 48) hx hb dX14_line_16 (by rw [c_12]; decide) (by rw [c_12]; decide) (by rw [c_12]; rfl) (by decide) ?_
      have bwh_12 : zB 0 0 wh := by rw [c_12]; exact zBc _ _ (by decide)
      refine lv_aload_n hx hb dX14_line_48 rfl (lv_at hl 0 rfl) ?_
      refine zt_getk (t := 14) (C := RX14) (T := TX14) (N := 40) Z h hth zin_14 rfl 4 (hfF_1.f hth 4 ⟨by decide, by decide⟩ kpr) ⟨by decide, rfl, by decide⟩ (zm_RX14 (List.mem_of_getElem? (i := 119) rfl)) (fun _ h9 => h9) dX14_line_49 ?_
      refine zt_getrN (t := 11) (C := RX11) (T := TX11) (N := 30) Z h hpr zin_11 rfl 13 rfl ⟨by decide, rfl⟩ (zn_19 Z) (fun _ h9 => h9) dX14_line_52 (fun a_14 ka_14 ha_14 => ?_)
      refine lv_iload_n hx hb dX14_line_55 rfl (lv_at hl 1 rfl) ?_
      refine zt_ialde (t := 133) Z h ha_14 ⟨by decide, rfl⟩ bli_9 ⟨by decide, by decide⟩ dX14_line_56 (fun x_15 ex_15 bx_15 => ?_)
      subst hQ
      exact W.iret (v := x_15) hx hb hr (fun t ht hW => ⟨⟨x_15, F_1, rfl, ⟨⟨fun _ => by rw [show 13 + wh.toInt.toNat = 13 by have := bli_9.1; have := bli_9.2; have := bwh_12.1; have := bwh_12.2; have := bx_15.1; have := bx_15.2; have := bis_.1; have := bis_.2; have := bnl.1; have := bnl.2; have : (0 : Int32).toInt = 0 := (by decide); omega, zar_eq ka_14, show li.toInt.toNat = li.toNatClampNeg from (by have h8 := z_cl (x := li) (by have := bli_9.1; have := bli_9.2; have := bwh_12.1; have := bwh_12.2; have := bx_15.1; have := bx_15.2; have := bis_.1; have := bis_.2; have := bnl.1; have := bnl.2; have : (0 : Int32).toInt = 0 := (by decide); omega); have := bli_9.1; have := bli_9.2; have := bwh_12.1; have := bwh_12.2; have := bx_15.1; have := bx_15.2; have := bis_.1; have := bis_.2; have := bnl.1; have := bnl.2; have : (0 : Int32).toInt = 0 := (by decide); omega)]; exact ex_15, fun h9 => by exfalso; have := bli_9.1; have := bli_9.2; have := bwh_12.1; have := bwh_12.2; have := bx_15.1; have := bx_15.2; have := bis_.1; have := bis_.2; have := bnl.1; have := bnl.2; have : (0 : Int32).toInt = 0 := (by decide); omega⟩, trivial⟩, by rw [ht]; exact h.1, h.2.1, hfF_1⟩, h.2.2.F ht⟩) h.2.2.2.2 dX14_line_57
    · by_cases c_16 : wh = 1
      · refine lv_tableIn (off := 42) (tgt := 58) hx hb dX14_line_16 (by rw [c_16]; decide) (by rw [c_16]; decide) (by rw [c_16]; rfl) (by decide) ?_
        have bwh_16 : zB 1 1 wh := by rw [c_16]; exact zBc _ _ (by decide)
        refine lv_aload_n hx hb dX14_line_58 rfl (lv_at hl 0 rfl) ?_
        refine zt_getk (t := 14) (C := RX14) (T := TX14) (N := 40) Z h hth zin_14 rfl 4 (hfF_1.f hth 4 ⟨by decide, by decide⟩ kpr) ⟨by decide, rfl, by decide⟩ (zm_RX14 (List.mem_of_getElem? (i := 119) rfl)) (fun _ h9 => h9) dX14_line_59 ?_
        refine zt_getrN (t := 11) (C := RX11) (T := TX11) (N := 30) Z h hpr zin_11 rfl 14 rfl ⟨by decide, rfl⟩ (zn_20 Z) (fun _ h9 => h9) dX14_line_62 (fun a_18 ka_18 ha_18 => ?_)
        refine lv_iload_n hx hb dX14_line_65 rfl (lv_at hl 1 rfl) ?_
        refine zt_ialde (t := 134) Z h ha_18 ⟨by decide, rfl⟩ bli_9 ⟨by decide, by decide⟩ dX14_line_66 (fun x_19 ex_19 bx_19 => ?_)
        subst hQ
        exact W.iret (v := x_19) hx hb hr (fun t ht hW => ⟨⟨x_19, F_1, rfl, ⟨⟨fun _ => by rw [show 13 + wh.toInt.toNat = 14 by have := bli_9.1; have := bli_9.2; have := bwh_16.1; have := bwh_16.2; have := bx_19.1; have := bx_19.2; have := bis_.1; have := bis_.2; have := bnl.1; have := bnl.2; have : (0 : Int32).toInt = 0 := (by decide); omega, zar_eq ka_18, show li.toInt.toNat = li.toNatClampNeg from (by have h8 := z_cl (x := li) (by have := bli_9.1; have := bli_9.2; have := bwh_16.1; have := bwh_16.2; have := bx_19.1; have := bx_19.2; have := bis_.1; have := bis_.2; have := bnl.1; have := bnl.2; have : (0 : Int32).toInt = 0 := (by decide); omega); have := bli_9.1; have := bli_9.2; have := bwh_16.1; have := bwh_16.2; have := bx_19.1; have := bx_19.2; have := bis_.1; have := bis_.2; have := bnl.1; have := bnl.2; have : (0 : Int32).toInt = 0 := (by decide); omega)]; exact ex_19, fun h9 => by exfalso; have := bli_9.1; have := bli_9.2; have := bwh_16.1; have := bwh_16.2; have := bx_19.1; have := bx_19.2; have := bis_.1; have := bis_.2; have := bnl.1; have := bnl.2; have : (0 : Int32).toInt = 0 := (by decide); omega⟩, trivial⟩, by rw [ht]; exact h.1, h.2.1, hfF_1⟩, h.2.2.F ht⟩) h.2.2.2.2 dX14_line_67
      · by_cases c_20 : wh = 2
        · refine lv_tableIn (off := 52) (tgt := 68) hx hb dX14_line_16 (by rw [c_20]; decide) (by rw [c_20]; decide) (by rw [c_20]; rfl) (by decide) ?_
          have bwh_20 : zB 2 2 wh := by rw [c_20]; exact zBc _ _ (by decide)
          refine lv_aload_n hx hb dX14_line_68 rfl (lv_at hl 0 rfl) ?_
          refine zt_getk (t := 14) (C := RX14) (T := TX14) (N := 40) Z h hth zin_14 rfl 4 (hfF_1.f hth 4 ⟨by decide, by decide⟩ kpr) ⟨by decide, rfl, by decide⟩ (zm_RX14 (List.mem_of_getElem? (i := 119) rfl)) (fun _ h9 => h9) dX14_line_69 ?_
          refine zt_getrN (t := 11) (C := RX11) (T := TX11) (N := 30) Z h hpr zin_11 rfl 15 rfl ⟨by decide, rfl⟩ (zn_21 Z) (fun _ h9 => h9) dX14_line_72 (fun a_22 ka_22 ha_22 => ?_)
          refine lv_iload_n hx hb dX14_line_75 rfl (lv_at hl 1 rfl) ?_
          refine zt_ialde (t := 135) Z h ha_22 ⟨by decide, rfl⟩ bli_9 ⟨by decide, by decide⟩ dX14_line_76 (fun x_23 ex_23 bx_23 => ?_)
          subst hQ
          exact W.iret (v := x_23) hx hb hr (fun t ht hW => ⟨⟨x_23, F_1, rfl, ⟨⟨fun _ => by rw [show 13 + wh.toInt.toNat = 15 by have := bli_9.1; have := bli_9.2; have := bwh_20.1; have := bwh_20.2; have := bx_23.1; have := bx_23.2; have := bis_.1; have := bis_.2; have := bnl.1; have := bnl.2; have : (0 : Int32).toInt = 0 := (by decide); omega, zar_eq ka_22, show li.toInt.toNat = li.toNatClampNeg from (by have h8 := z_cl (x := li) (by have := bli_9.1; have := bli_9.2; have := bwh_20.1; have := bwh_20.2; have := bx_23.1; have := bx_23.2; have := bis_.1; have := bis_.2; have := bnl.1; have := bnl.2; have : (0 : Int32).toInt = 0 := (by decide); omega); have := bli_9.1; have := bli_9.2; have := bwh_20.1; have := bwh_20.2; have := bx_23.1; have := bx_23.2; have := bis_.1; have := bis_.2; have := bnl.1; have := bnl.2; have : (0 : Int32).toInt = 0 := (by decide); omega)]; exact ex_23, fun h9 => by exfalso; have := bli_9.1; have := bli_9.2; have := bwh_20.1; have := bwh_20.2; have := bx_23.1; have := bx_23.2; have := bis_.1; have := bis_.2; have := bnl.1; have := bnl.2; have : (0 : Int32).toInt = 0 := (by decide); omega⟩, trivial⟩, by rw [ht]; exact h.1, h.2.1, hfF_1⟩, h.2.2.F ht⟩) h.2.2.2.2 dX14_line_77
        · by_cases c_24 : wh = 3
          · refine lv_tableIn (off := 62) (tgt := 78) hx hb dX14_line_16 (by rw [c_24]; decide) (by rw [c_24]; decide) (by rw [c_24]; rfl) (by decide) ?_
            have bwh_24 : zB 3 3 wh := by rw [c_24]; exact zBc _ _ (by decide)
            refine lv_aload_n hx hb dX14_line_78 rfl (lv_at hl 0 rfl) ?_
            refine zt_getk (t := 14) (C := RX14) (T := TX14) (N := 40) Z h hth zin_14 rfl 4 (hfF_1.f hth 4 ⟨by decide, by decide⟩ kpr) ⟨by decide, rfl, by decide⟩ (zm_RX14 (List.mem_of_getElem? (i := 119) rfl)) (fun _ h9 => h9) dX14_line_79 ?_
            refine zt_getrN (t := 11) (C := RX11) (T := TX11) (N := 30) Z h hpr zin_11 rfl 16 rfl ⟨by decide, rfl⟩ (zn_22 Z) (fun _ h9 => h9) dX14_line_82 (fun a_26 ka_26 ha_26 => ?_)
            refine lv_iload_n hx hb dX14_line_85 rfl (lv_at hl 1 rfl) ?_
            refine zt_ialde (t := 136) Z h ha_26 ⟨by decide, rfl⟩ bli_9 ⟨by decide, by decide⟩ dX14_line_86 (fun x_27 ex_27 bx_27 => ?_)
            subst hQ
            exact W.iret (v := x_27) hx hb hr (fun t ht hW => ⟨⟨x_27, F_1, rfl, ⟨⟨fun _ => by rw [show 13 + wh.toInt.toNat = 16 by have := bli_9.1; have := bli_9.2; have := bwh_24.1; have := bwh_24.2; have := bx_27.1; have := bx_27.2; have := bis_.1; have := bis_.2; have := bnl.1; have := bnl.2; have : (0 : Int32).toInt = 0 := (by decide); omega, zar_eq ka_26, show li.toInt.toNat = li.toNatClampNeg from (by have h8 := z_cl (x := li) (by have := bli_9.1; have := bli_9.2; have := bwh_24.1; have := bwh_24.2; have := bx_27.1; have := bx_27.2; have := bis_.1; have := bis_.2; have := bnl.1; have := bnl.2; have : (0 : Int32).toInt = 0 := (by decide); omega); have := bli_9.1; have := bli_9.2; have := bwh_24.1; have := bwh_24.2; have := bx_27.1; have := bx_27.2; have := bis_.1; have := bis_.2; have := bnl.1; have := bnl.2; have : (0 : Int32).toInt = 0 := (by decide); omega)]; exact ex_27, fun h9 => by exfalso; have := bli_9.1; have := bli_9.2; have := bwh_24.1; have := bwh_24.2; have := bx_27.1; have := bx_27.2; have := bis_.1; have := bis_.2; have := bnl.1; have := bnl.2; have : (0 : Int32).toInt = 0 := (by decide); omega⟩, trivial⟩, by rw [ht]; exact h.1, h.2.1, hfF_1⟩, h.2.2.F ht⟩) h.2.2.2.2 dX14_line_87
          · have nc_12 : wh.toInt ≠ 0 := z_nev c_12 (by decide)
            have nc_16 : wh.toInt ≠ 1 := z_nev c_16 (by decide)
            have nc_20 : wh.toInt ≠ 2 := z_nev c_20 (by decide)
            have nc_24 : wh.toInt ≠ 3 := z_nev c_24 (by decide)
            refine lv_tableOut (tgt := 88) hx hb dX14_line_16 (by have := (zB.all wh).1; have := (zB.all wh).2; omega) (by decide) ?_
            refine lv_iconst (v := (-1)) hx hb dX14_line_88 (by decide) ?_
            subst hQ
            exact W.iret (v := (-1)) hx hb hr (fun t ht hW => ⟨⟨(-1), F_1, rfl, ⟨⟨fun h9 => by exfalso; have := bli_9.1; have := bli_9.2; have := (zB.all wh).1; have := (zB.all wh).2; have := bis_.1; have := bis_.2; have := bnl.1; have := bnl.2; have : ((-1) : Int32).toInt = (-1) := (by decide); have : (0 : Int32).toInt = 0 := (by decide); omega, fun _ => by have := bli_9.1; have := bli_9.2; have := (zB.all wh).1; have := (zB.all wh).2; have := bis_.1; have := bis_.2; have := bnl.1; have := bnl.2; have : ((-1) : Int32).toInt = (-1) := (by decide); have : (0 : Int32).toInt = 0 := (by decide); omega⟩, trivial⟩, by rw [ht]; exact h.1, h.2.1, hfF_1⟩, h.2.2.F ht⟩) h.2.2.2.2 dX14_line_89
  · have q_28 := q_7 c_8
    have c_8 := z_eq c_8
    have br_2_29 : zB 0 0 r_2 := zB.eqL (a := 0) (b := 0) c_8 (zBc 0 0 (by decide))
    refine lv_iconst (v := (-1)) hx hb dX14_line_13 (by decide) ?_
    subst hQ
    exact W.iret (v := (-1)) hx hb hr (fun t ht hW => ⟨⟨(-1), F_1, rfl, ⟨⟨fun h9 => by exfalso; have := (zB.all li).1; have := (zB.all li).2; have := (zB.all wh).1; have := (zB.all wh).2; have := bis_.1; have := bis_.2; have := bnl.1; have := bnl.2; have : ((-1) : Int32).toInt = (-1) := (by decide); have : (0 : Int32).toInt = 0 := (by decide); omega, fun _ => by have := (zB.all li).1; have := (zB.all li).2; have := (zB.all wh).1; have := (zB.all wh).2; have := bis_.1; have := bis_.2; have := bnl.1; have := bnl.2; have : ((-1) : Int32).toInt = (-1) := (by decide); have : (0 : Int32).toInt = 0 := (by decide); omega⟩, trivial⟩, by rw [ht]; exact h.1, h.2.1, hfF_1⟩, h.2.2.F ht⟩) h.2.2.2.2 dX14_line_14

set_option maxHeartbeats 4000000 in
set_option maxRecDepth 100000 in
theorem zc_X14_lines (l : Launch) (D : va_G) (k : Nat → ClassId) (Γ : Nat → Option Nat) (L : List Nat) (F : Nat → va_E) (sz : Nat) (co : Int64) : Met l yX14_lines zwX14_lines ({ frames := 0, cells := 0, slots := 0, locals := 0 }) (va_Pc [.long co] (zP D k Γ L F sz)) (va_Qi (fun (r : Int32) (u : Nat → va_E) => F = u ∧ True) (zQ D k Γ L F []) (zA L sz)) 0 0 (zA L sz) := by
  refine Met.ofW (cc := cX14_lines) (maxL := 4) (ret := (some .int)) (by decide) rfl ?_
  intro p e s m args below meth c s₁ B hml hv
  obtain ⟨rfl, hsz, hP, hK, hLn, hE, hI⟩ := hv
  have hx := B.exec
  have hb := B.bytes
  have hr := B.returns
  have hg : ∀ w ∈ zG, w.before _ s = true := fun w h9 => atoms_spec (ws := zwX14_lines) B.pre w (List.mem_cons_of_mem _ h9)
  have hown : s.vm.findClass RX14 = some m.cls := findClass_of_methodNamed B.named
  have hlocks := B.notSynchronized
  subst hsz
  have Z : zC p m c cX14_lines 4 s _ zG RX14 D k L := ⟨⟨hx, hb, hml, hown, hg⟩, hK, hLn, hE⟩
  have h : zH D k Γ L s F s.heap [] := ⟨hP, hI, va_S.rf⟩
  have hl := lv_entry ([.long co]) (n := 4) (Nat.le_of_ble_eq_true rfl)
  rw [lg_entry_eq]
  generalize (lg_sl ([.long co]) ++ List.replicate (4 - (lg_sl ([.long co])).length) Slot.unset).toArray = ls at hl ⊢
  have hl : lv_has ls 4 [(0, .long co)] := hl
  clear hP hK hLn hE hI
  generalize hargs : ([.long co] : List Value).toArray = args at *
  refine z_start (fun R Q hRf hRl hQ => ?_)
  have hRf : R.frames = 0 := hRf
  have hRl : R.locals = 0 := hRl
  have h9 := h
  refine lv_iconst (v := 0) hx hb dX14_lines_0 (by decide) ?_
  refine lv_istore_n (lv' := [(2, .int 0), (0, .long co)]) hx hb dX14_lines_1 rfl hl (by decide) rfl (fun ls hl => ?_)
  refine lv_iconst (v := 0) hx hb dX14_lines_2 (by decide) ?_
  refine lv_istore_n (lv' := [(3, .int 0), (2, .int 0), (0, .long co)]) hx hb dX14_lines_3 rfl hl (by decide) rfl (fun ls hl => ?_)
  have j_j4_1 : ∀ (n : Nat) (ls : Array Slot) (y3_j4_1 : Int32) (y2_j4_1 : Int32), lv_has ls 4 [(3, .int y3_j4_1), (2, .int y2_j4_1), (0, .long co)] → zB 0 60 y3_j4_1 → zB (-2147483648) 2147483647 y2_j4_1 → (2147483647 - y3_j4_1.toInt).toNat = n → W p l e R s m args below meth c s.heap [] 0 0 Q (F0 m 4 ls []) := by
    intro n
    induction n using Nat.strongRecOn with
    | _ n ih_j4_1 =>
      intro ls y3_j4_1 y2_j4_1 hl by3_j4_1 by2_j4_1 hn_j4_1
      refine lv_iload_n hx hb dX14_lines_4 rfl (lv_at hl 0 rfl) ?_
      refine lv_bipush (v := 60) hx hb dX14_lines_5 (by decide) ?_
      refine lv_icmp_ge (tgt := 34) hx hb dX14_lines_7 (by decide) (fun c_2 => ?_) (fun c_2 => ?_)
      · have c_2 := z_le c_2
        have by3_j4_1_3 : zB 60 60 y3_j4_1 := zB.leR c_2 (zBc 60 60 (by decide)) by3_j4_1 (by decide)
        refine lv_iload_n hx hb dX14_lines_34 rfl (lv_at hl 1 rfl) ?_
        subst hQ
        exact W.iret (v := y2_j4_1) hx hb hr (fun t ht hW => ⟨⟨y2_j4_1, F, rfl, ⟨rfl, trivial⟩, by rw [ht]; exact h.1, h.2.1, zFr.rf⟩, h.2.2.F ht⟩) h.2.2.2.2 dX14_lines_35
      · have c_2 := z_nle c_2
        have by3_j4_1_4 : zB 0 59 y3_j4_1 := zB.ltL c_2 by3_j4_1 (zBc 60 60 (by decide)) (by decide)
        refine lv_iload_n hx hb dX14_lines_10 rfl (lv_at hl 1 rfl) ?_
        refine lv_lload_n hx hb dX14_lines_11 rfl (lv_at hl 2 rfl) ?_
        refine lv_iload_n hx hb dX14_lines_12 rfl (lv_at hl 0 rfl) ?_
        refine lv_lshr hx hb dX14_lines_13 rfl ?_
        refine lv_topl (fun g_5 eg_5 => ?_)
        refine lv_lconst (v := 1) hx hb dX14_lines_14 (by decide) ?_
        refine lv_land hx hb dX14_lines_15 ?_
        refine lv_topl (fun g_6 eg_6 => ?_)
        refine lv_lconst (v := 1) hx hb dX14_lines_16 (by decide) ?_
        refine W.lcmp hx hb dX14_lines_17 ?_
        refine zi_any (fun x_7 bx_7 ex_7 => ?_)
        refine lv_if_ne (tgt := 25) hx hb dX14_lines_18 (by decide) (fun c_8 => ?_) (fun c_8 => ?_)
        · have c_8 := z_ne c_8
          refine lv_iconst (v := 0) hx hb dX14_lines_25 (by decide) ?_
          refine lv_iadd hx hb dX14_lines_26 ?_
          refine zi_add (lo := (-2147483648)) (hi := 2147483647) by2_j4_1 (zBc 0 0 (by decide)) (by decide) (fun x_9 bx_9 tx_9 => ?_)
          refine lv_istore_n (lv' := [(2, .int x_9), (3, .int y3_j4_1), (0, .long co)]) hx hb dX14_lines_27 rfl hl (by decide) rfl (fun ls hl => ?_)
          obtain ⟨x_10, ex_10, bx_10, tx_10⟩ := z_inc (n := 1) (lo := 1) (hi := 60) by3_j4_1_4 (by decide)
          refine lv_iinc (v := x_10) (lv' := [(3, .int x_10), (2, .int x_9), (0, .long co)]) hx hb dX14_lines_28 hl (k := 1) rfl ex_10 (by decide) rfl (fun ls hl => ?_)
          refine lv_goto (tgt := 4) hx hb dX14_lines_31 (by decide) ?_
          exact ih_j4_1 _ (by have := bx_10.1; have := bx_10.2; have := bx_9.1; have := bx_9.2; have : (0 : Int32).toInt = 0 := (by decide); have : (60 : Int32).toInt = 60 := (by decide); have := by3_j4_1.1; have := by3_j4_1.2; have := by2_j4_1.1; have := by2_j4_1.2; omega) ls x_10 x_9 (lv_sub hl [0, 1, 2] rfl) (bx_10.w ⟨by decide, by decide⟩) bx_9 rfl
        · have c_8 := z_eq c_8
          have bx_7_11 : zB 0 0 x_7 := zB.eqL (a := 0) (b := 0) c_8 (zBc 0 0 (by decide))
          refine lv_iconst (v := 1) hx hb dX14_lines_21 (by decide) ?_
          refine lv_goto (tgt := 26) hx hb dX14_lines_22 (by decide) ?_
          refine lv_iadd hx hb dX14_lines_26 ?_
          refine zi_any (fun x_12 bx_12 ex_12 => ?_)
          refine lv_istore_n (lv' := [(2, .int x_12), (3, .int y3_j4_1), (0, .long co)]) hx hb dX14_lines_27 rfl hl (by decide) rfl (fun ls hl => ?_)
          obtain ⟨x_13, ex_13, bx_13, tx_13⟩ := z_inc (n := 1) (lo := 1) (hi := 60) by3_j4_1_4 (by decide)
          refine lv_iinc (v := x_13) (lv' := [(3, .int x_13), (2, .int x_12), (0, .long co)]) hx hb dX14_lines_28 hl (k := 1) rfl ex_13 (by decide) rfl (fun ls hl => ?_)
          refine lv_goto (tgt := 4) hx hb dX14_lines_31 (by decide) ?_
          exact ih_j4_1 _ (by have := bx_13.1; have := bx_13.2; have := bx_12.1; have := bx_12.2; have : (0 : Int32).toInt = 0 := (by decide); have : (1 : Int32).toInt = 1 := (by decide); have : (60 : Int32).toInt = 60 := (by decide); have := by3_j4_1.1; have := by3_j4_1.2; have := by2_j4_1.1; have := by2_j4_1.2; omega) ls x_13 x_12 (lv_sub hl [0, 1, 2] rfl) (bx_13.w ⟨by decide, by decide⟩) bx_12 rfl
  exact j_j4_1 _ ls 0 0 (lv_sub hl [0, 1, 2] rfl) (zB.of ⟨by decide, by decide⟩) (zB.of ⟨by decide, by decide⟩) rfl

set_option maxHeartbeats 4000000 in
set_option maxRecDepth 100000 in
theorem zc_X14_ran (l : Launch) (D : va_G) (k : Nat → ClassId) (Γ : Nat → Option Nat) (L : List Nat) (F : Nat → va_E) (sz : Nat) (th : Nat) (wh : Int32) (lt : Nat) (hth : Γ th = some 14) (klt : zfld F th 22 = .ref lt) (hlt : Γ lt = some 12) : Met l yX14_ran zwX14_ran ({ frames := 1, cells := 0, slots := 0, locals := 23 }) (va_Pc [.ref th, .int wh] (zP D k Γ L F sz)) (va_Qi (fun (r : Int32) (u : Nat → va_E) => True) (zQ D k Γ L F [1400, 1401, 1402]) (zA L sz)) 0 0 (zA L sz) := by
  refine Met.ofW (cc := cX14_ran) (maxL := 2) (ret := (some .int)) (by decide) rfl ?_
  intro p e s m args below meth c s₁ B hml hv
  obtain ⟨rfl, hsz, hP, hK, hLn, hE, hI⟩ := hv
  have hx := B.exec
  have hb := B.bytes
  have hr := B.returns
  have hg : ∀ w ∈ zG, w.before _ s = true := fun w h9 => atoms_spec (ws := zwX14_ran) B.pre w (List.mem_cons_of_mem _ h9)
  have hown : s.vm.findClass RX14 = some m.cls := findClass_of_methodNamed B.named
  have hlocks := B.notSynchronized
  subst hsz
  have Z : zC p m c cX14_ran 2 s _ zG RX14 D k L := ⟨⟨hx, hb, hml, hown, hg⟩, hK, hLn, hE⟩
  have h : zH D k Γ L s F s.heap [] := ⟨hP, hI, va_S.rf⟩
  have hl := lv_entry ([.ref th, .int wh]) (n := 2) (Nat.le_of_ble_eq_true rfl)
  rw [lg_entry_eq]
  generalize (lg_sl ([.ref th, .int wh]) ++ List.replicate (2 - (lg_sl ([.ref th, .int wh])).length) Slot.unset).toArray = ls at hl ⊢
  have hl : lv_has ls 2 [(0, .ref th), (1, .int wh)] := hl
  clear hP hK hLn hE hI
  generalize hargs : ([.ref th, .int wh] : List Value).toArray = args at *
  refine z_start (fun R Q hRf hRl hQ => ?_)
  have hRf : R.frames = 1 := hRf
  have hRl : R.locals = 23 := hRl
  refine lv_aload_n hx hb dX14_ran_0 rfl (lv_at hl 0 rfl) ?_
  refine lv_iconst (v := 0) hx hb dX14_ran_1 (by decide) ?_
  refine zt_put (t := 14) (C := RX14) (T := TX14) (N := 40) (v := .int 0) Z h hth zin_14 tyX14 tyX14_ok nmX14 rfl 0 rfl ⟨by decide, rfl⟩ (zm_RX14 (List.mem_of_getElem? (i := 105) rfl)) (fun _ h9 => h9) rfl (zV.i (zB.of ⟨by decide, by decide⟩)) rfl rfl dX14_ran_2 (fun H locs F_1 h hfF_1 kF_1 => ?_)
  refine lv_aload_n hx hb dX14_ran_5 rfl (lv_at hl 0 rfl) ?_
  refine zt_geti (t := 14) (C := RX14) (T := TX14) (N := 40) Z h hth zin_14 rfl 24 rfl ⟨by decide, rfl⟩ (zm_RX14 (List.mem_of_getElem? (i := 124) rfl)) (fun _ h9 => h9) dX14_ran_6 (fun x_2 kx_2 bx_2 => ?_)
  refine lv_if_ne (tgt := 18) hx hb dX14_ran_9 (by decide) (fun c_3 => ?_) (fun c_3 => ?_)
  · have c_3 := z_ne c_3
    have bx_2_4 : zB 1 1 x_2 := zB.neLo c_3 bx_2 (zBc 0 0 (by decide)) (by decide)
    refine lv_iload_n hx hb dX14_ran_18 rfl (lv_at hl 1 rfl) ?_
    by_cases c_5 : wh = 0
    · refine lv_tableIn (off := 37) (tgt := 56) hx hb dX14_ran_19 (by rw [c_5]; decide) (by rw [c_5]; decide) (by rw [c_5]; rfl) (by decide) ?_
      have bwh_5 : zB 0 0 wh := by rw [c_5]; exact zBc _ _ (by decide)
      refine lv_aload_n hx hb dX14_ran_56 rfl (lv_at hl 0 rfl) ?_
      refine lv_aload_n hx hb dX14_ran_57 rfl (lv_at hl 0 rfl) ?_
      refine zt_getk (t := 14) (C := RX14) (T := TX14) (N := 40) Z h hth zin_14 rfl 22 (hfF_1.f hth 22 ⟨by decide, by decide⟩ klt) ⟨by decide, rfl, by decide⟩ (zm_RX14 (List.mem_of_getElem? (i := 183) rfl)) (fun _ h9 => h9) dX14_ran_58 ?_
      refine zt_getiN (t := 12) (C := RX12) (T := TX12) (N := 10) Z h hlt zin_12 rfl 1 rfl ⟨by decide, rfl⟩ (zn_33 Z) (fun _ h9 => h9) dX14_ran_61 (fun x_7 kx_7 bx_7 => ?_)
      refine zk_Vi (As := [.int x_7]) (rest := []) (bytes := cX14_done) (maxL := 2) (ret := (some .int)) Z h (zc_X14_done l D k Γ L F_1 H.size th x_7 hth) (cwV 1 hg zv_RX14_333 rfl rfl rfl zd_X14_done ⟨z_leR hRf (by decide), z_leR hRl (by decide)⟩) hth (by decide) rfl rfl hl.1 rfl (Nat.le_of_ble_eq_true rfl) dX14_ran_64 ⟨Nat.zero_le _, Nat.zero_le _⟩ (fun r_8 F_9 H locs w_10 h hfF_9 => ?_)
      obtain ⟨q_11, -⟩ := w_10
      have br_8 := zB.all r_8
      subst hQ
      exact W.iret (v := r_8) hx hb hr (fun t ht hW => ⟨⟨r_8, F_9, rfl, trivial, by rw [ht]; exact h.1, h.2.1, ((hfF_1.w (by decide)).trans hfF_9 (by decide))⟩, h.2.2.F ht⟩) h.2.2.2.2 dX14_ran_67
    · by_cases c_12 : wh = 1
      · refine lv_tableIn (off := 49) (tgt := 68) hx hb dX14_ran_19 (by rw [c_12]; decide) (by rw [c_12]; decide) (by rw [c_12]; rfl) (by decide) ?_
        have bwh_12 : zB 1 1 wh := by rw [c_12]; exact zBc _ _ (by decide)
        refine lv_aload_n hx hb dX14_ran_68 rfl (lv_at hl 0 rfl) ?_
        refine lv_aload_n hx hb dX14_ran_69 rfl (lv_at hl 0 rfl) ?_
        refine zt_getk (t := 14) (C := RX14) (T := TX14) (N := 40) Z h hth zin_14 rfl 22 (hfF_1.f hth 22 ⟨by decide, by decide⟩ klt) ⟨by decide, rfl, by decide⟩ (zm_RX14 (List.mem_of_getElem? (i := 183) rfl)) (fun _ h9 => h9) dX14_ran_70 ?_
        refine zt_getiN (t := 12) (C := RX12) (T := TX12) (N := 10) Z h hlt zin_12 rfl 2 rfl ⟨by decide, rfl⟩ (zn_34 Z) (fun _ h9 => h9) dX14_ran_73 (fun x_14 kx_14 bx_14 => ?_)
        refine zk_Vi (As := [.int x_14]) (rest := []) (bytes := cX14_done) (maxL := 2) (ret := (some .int)) Z h (zc_X14_done l D k Γ L F_1 H.size th x_14 hth) (cwV 1 hg zv_RX14_333 rfl rfl rfl zd_X14_done ⟨z_leR hRf (by decide), z_leR hRl (by decide)⟩) hth (by decide) rfl rfl hl.1 rfl (Nat.le_of_ble_eq_true rfl) dX14_ran_76 ⟨Nat.zero_le _, Nat.zero_le _⟩ (fun r_15 F_16 H locs w_17 h hfF_16 => ?_)
        obtain ⟨q_18, -⟩ := w_17
        have br_15 := zB.all r_15
        subst hQ
        exact W.iret (v := r_15) hx hb hr (fun t ht hW => ⟨⟨r_15, F_16, rfl, trivial, by rw [ht]; exact h.1, h.2.1, ((hfF_1.w (by decide)).trans hfF_16 (by decide))⟩, h.2.2.F ht⟩) h.2.2.2.2 dX14_ran_79
      · by_cases c_19 : wh = 2
        · refine lv_tableIn (off := 61) (tgt := 80) hx hb dX14_ran_19 (by rw [c_19]; decide) (by rw [c_19]; decide) (by rw [c_19]; rfl) (by decide) ?_
          have bwh_19 : zB 2 2 wh := by rw [c_19]; exact zBc _ _ (by decide)
          refine lv_aload_n hx hb dX14_ran_80 rfl (lv_at hl 0 rfl) ?_
          refine lv_aload_n hx hb dX14_ran_81 rfl (lv_at hl 0 rfl) ?_
          refine zt_getk (t := 14) (C := RX14) (T := TX14) (N := 40) Z h hth zin_14 rfl 22 (hfF_1.f hth 22 ⟨by decide, by decide⟩ klt) ⟨by decide, rfl, by decide⟩ (zm_RX14 (List.mem_of_getElem? (i := 183) rfl)) (fun _ h9 => h9) dX14_ran_82 ?_
          refine zt_getiN (t := 12) (C := RX12) (T := TX12) (N := 10) Z h hlt zin_12 rfl 3 rfl ⟨by decide, rfl⟩ (zn_35 Z) (fun _ h9 => h9) dX14_ran_85 (fun x_21 kx_21 bx_21 => ?_)
          refine zk_Vi (As := [.int x_21]) (rest := []) (bytes := cX14_done) (maxL := 2) (ret := (some .int)) Z h (zc_X14_done l D k Γ L F_1 H.size th x_21 hth) (cwV 1 hg zv_RX14_333 rfl rfl rfl zd_X14_done ⟨z_leR hRf (by decide), z_leR hRl (by decide)⟩) hth (by decide) rfl rfl hl.1 rfl (Nat.le_of_ble_eq_true rfl) dX14_ran_88 ⟨Nat.zero_le _, Nat.zero_le _⟩ (fun r_22 F_23 H locs w_24 h hfF_23 => ?_)
          obtain ⟨q_25, -⟩ := w_24
          have br_22 := zB.all r_22
          subst hQ
          exact W.iret (v := r_22) hx hb hr (fun t ht hW => ⟨⟨r_22, F_23, rfl, trivial, by rw [ht]; exact h.1, h.2.1, ((hfF_1.w (by decide)).trans hfF_23 (by decide))⟩, h.2.2.F ht⟩) h.2.2.2.2 dX14_ran_91
        · by_cases c_26 : wh = 3
          · refine lv_tableIn (off := 73) (tgt := 92) hx hb dX14_ran_19 (by rw [c_26]; decide) (by rw [c_26]; decide) (by rw [c_26]; rfl) (by decide) ?_
            have bwh_26 : zB 3 3 wh := by rw [c_26]; exact zBc _ _ (by decide)
            refine lv_aload_n hx hb dX14_ran_92 rfl (lv_at hl 0 rfl) ?_
            refine lv_aload_n hx hb dX14_ran_93 rfl (lv_at hl 0 rfl) ?_
            refine zt_getk (t := 14) (C := RX14) (T := TX14) (N := 40) Z h hth zin_14 rfl 22 (hfF_1.f hth 22 ⟨by decide, by decide⟩ klt) ⟨by decide, rfl, by decide⟩ (zm_RX14 (List.mem_of_getElem? (i := 183) rfl)) (fun _ h9 => h9) dX14_ran_94 ?_
            refine zt_getiN (t := 12) (C := RX12) (T := TX12) (N := 10) Z h hlt zin_12 rfl 4 rfl ⟨by decide, rfl⟩ (zn_36 Z) (fun _ h9 => h9) dX14_ran_97 (fun x_28 kx_28 bx_28 => ?_)
            refine zk_Vi (As := [.int x_28]) (rest := []) (bytes := cX14_done) (maxL := 2) (ret := (some .int)) Z h (zc_X14_done l D k Γ L F_1 H.size th x_28 hth) (cwV 1 hg zv_RX14_333 rfl rfl rfl zd_X14_done ⟨z_leR hRf (by decide), z_leR hRl (by decide)⟩) hth (by decide) rfl rfl hl.1 rfl (Nat.le_of_ble_eq_true rfl) dX14_ran_100 ⟨Nat.zero_le _, Nat.zero_le _⟩ (fun r_29 F_30 H locs w_31 h hfF_30 => ?_)
            obtain ⟨q_32, -⟩ := w_31
            have br_29 := zB.all r_29
            subst hQ
            exact W.iret (v := r_29) hx hb hr (fun t ht hW => ⟨⟨r_29, F_30, rfl, trivial, by rw [ht]; exact h.1, h.2.1, ((hfF_1.w (by decide)).trans hfF_30 (by decide))⟩, h.2.2.F ht⟩) h.2.2.2.2 dX14_ran_103
          · by_cases c_33 : wh = 4
            · refine lv_tableIn (off := 85) (tgt := 104) hx hb dX14_ran_19 (by rw [c_33]; decide) (by rw [c_33]; decide) (by rw [c_33]; rfl) (by decide) ?_
              have bwh_33 : zB 4 4 wh := by rw [c_33]; exact zBc _ _ (by decide)
              refine lv_aload_n hx hb dX14_ran_104 rfl (lv_at hl 0 rfl) ?_
              refine lv_aload_n hx hb dX14_ran_105 rfl (lv_at hl 0 rfl) ?_
              refine zt_getk (t := 14) (C := RX14) (T := TX14) (N := 40) Z h hth zin_14 rfl 22 (hfF_1.f hth 22 ⟨by decide, by decide⟩ klt) ⟨by decide, rfl, by decide⟩ (zm_RX14 (List.mem_of_getElem? (i := 183) rfl)) (fun _ h9 => h9) dX14_ran_106 ?_
              refine zt_getlN (t := 12) (C := RX12) (T := TX12) (N := 10) Z h hlt zin_12 rfl 6 rfl ⟨by decide, rfl⟩ (zn_38 Z) (fun _ h9 => h9) dX14_ran_109 (fun g_35 kg_35 => ?_)
              refine zk_Si (As := [.long g_35]) (rest := [.ref th]) (bytes := cX14_lines) (maxL := 4) (ret := (some .int)) Z h (zc_X14_lines l D k Γ L F_1 H.size g_35) (va_cwS 1 hg zv_RX14_414 rfl rfl rfl zd_X14_lines ⟨z_leR hRf (by decide), z_leR hRl (by decide)⟩) rfl hl.1 rfl (Nat.le_of_ble_eq_true rfl) dX14_ran_112 ⟨Nat.zero_le _, Nat.zero_le _⟩ (fun r_36 F_37 H locs w_38 h hfF_37 => ?_)
              obtain ⟨rfl, -⟩ := w_38
              have br_36 := zB.all r_36
              refine zk_Vi (As := [.int r_36]) (rest := []) (bytes := cX14_done) (maxL := 2) (ret := (some .int)) Z h (zc_X14_done l D k Γ L F_1 H.size th r_36 hth) (cwV 1 hg zv_RX14_333 rfl rfl rfl zd_X14_done ⟨z_leR hRf (by decide), z_leR hRl (by decide)⟩) hth (by decide) rfl rfl hl.1 rfl (Nat.le_of_ble_eq_true rfl) dX14_ran_115 ⟨Nat.zero_le _, Nat.zero_le _⟩ (fun r_39 F_40 H locs w_41 h hfF_40 => ?_)
              obtain ⟨q_42, -⟩ := w_41
              have br_39 := zB.all r_39
              subst hQ
              exact W.iret (v := r_39) hx hb hr (fun t ht hW => ⟨⟨r_39, F_40, rfl, trivial, by rw [ht]; exact h.1, h.2.1, ((hfF_1.w (by decide)).trans hfF_40 (by decide))⟩, h.2.2.F ht⟩) h.2.2.2.2 dX14_ran_118
            · by_cases c_43 : wh = 5
              · refine lv_tableIn (off := 100) (tgt := 119) hx hb dX14_ran_19 (by rw [c_43]; decide) (by rw [c_43]; decide) (by rw [c_43]; rfl) (by decide) ?_
                have bwh_43 : zB 5 5 wh := by rw [c_43]; exact zBc _ _ (by decide)
                refine lv_aload_n hx hb dX14_ran_119 rfl (lv_at hl 0 rfl) ?_
                refine lv_aload_n hx hb dX14_ran_120 rfl (lv_at hl 0 rfl) ?_
                refine zt_getk (t := 14) (C := RX14) (T := TX14) (N := 40) Z h hth zin_14 rfl 22 (hfF_1.f hth 22 ⟨by decide, by decide⟩ klt) ⟨by decide, rfl, by decide⟩ (zm_RX14 (List.mem_of_getElem? (i := 183) rfl)) (fun _ h9 => h9) dX14_ran_121 ?_
                refine zt_getiN (t := 12) (C := RX12) (T := TX12) (N := 10) Z h hlt zin_12 rfl 5 rfl ⟨by decide, rfl⟩ (zn_37 Z) (fun _ h9 => h9) dX14_ran_124 (fun x_45 kx_45 bx_45 => ?_)
                refine zk_Vi (As := [.int x_45]) (rest := []) (bytes := cX14_done) (maxL := 2) (ret := (some .int)) Z h (zc_X14_done l D k Γ L F_1 H.size th x_45 hth) (cwV 1 hg zv_RX14_333 rfl rfl rfl zd_X14_done ⟨z_leR hRf (by decide), z_leR hRl (by decide)⟩) hth (by decide) rfl rfl hl.1 rfl (Nat.le_of_ble_eq_true rfl) dX14_ran_127 ⟨Nat.zero_le _, Nat.zero_le _⟩ (fun r_46 F_47 H locs w_48 h hfF_47 => ?_)
                obtain ⟨q_49, -⟩ := w_48
                have br_46 := zB.all r_46
                subst hQ
                exact W.iret (v := r_46) hx hb hr (fun t ht hW => ⟨⟨r_46, F_47, rfl, trivial, by rw [ht]; exact h.1, h.2.1, ((hfF_1.w (by decide)).trans hfF_47 (by decide))⟩, h.2.2.F ht⟩) h.2.2.2.2 dX14_ran_130
              · have nc_5 : wh.toInt ≠ 0 := z_nev c_5 (by decide)
                have nc_12 : wh.toInt ≠ 1 := z_nev c_12 (by decide)
                have nc_19 : wh.toInt ≠ 2 := z_nev c_19 (by decide)
                have nc_26 : wh.toInt ≠ 3 := z_nev c_26 (by decide)
                have nc_33 : wh.toInt ≠ 4 := z_nev c_33 (by decide)
                have nc_43 : wh.toInt ≠ 5 := z_nev c_43 (by decide)
                refine lv_tableOut (tgt := 131) hx hb dX14_ran_19 (by have := (zB.all wh).1; have := (zB.all wh).2; omega) (by decide) ?_
                refine lv_aload_n hx hb dX14_ran_131 rfl (lv_at hl 0 rfl) ?_
                refine lv_iconst (v := 2) hx hb dX14_ran_132 (by decide) ?_
                refine zk_Vi (As := [.int 2]) (rest := []) (bytes := cX14_refused) (maxL := 2) (ret := (some .int)) Z h (zc_X14_refused l D k Γ L F_1 H.size th 2 hth) (cwV 1 hg zv_RX14_307 rfl rfl rfl zd_X14_refused ⟨z_leR hRf (by decide), z_leR hRl (by decide)⟩) hth (by decide) rfl rfl hl.1 rfl (Nat.le_of_ble_eq_true rfl) dX14_ran_133 ⟨Nat.zero_le _, Nat.zero_le _⟩ (fun r_50 F_51 H locs w_52 h hfF_51 => ?_)
                obtain ⟨br_50, -⟩ := w_52
                subst hQ
                exact W.iret (v := r_50) hx hb hr (fun t ht hW => ⟨⟨r_50, F_51, rfl, trivial, by rw [ht]; exact h.1, h.2.1, ((hfF_1.w (by decide)).trans hfF_51 (by decide))⟩, h.2.2.F ht⟩) h.2.2.2.2 dX14_ran_136
  · have c_3 := z_eq c_3
    have bx_2_53 : zB 0 0 x_2 := zB.eqL (a := 0) (b := 0) c_3 (zBc 0 0 (by decide))
    refine lv_aload_n hx hb dX14_ran_12 rfl (lv_at hl 0 rfl) ?_
    refine lv_iconst (v := 5) hx hb dX14_ran_13 (by decide) ?_
    refine zk_Vi (As := [.int 5]) (rest := []) (bytes := cX14_refused) (maxL := 2) (ret := (some .int)) Z h (zc_X14_refused l D k Γ L F_1 H.size th 5 hth) (cwV 1 hg zv_RX14_307 rfl rfl rfl zd_X14_refused ⟨z_leR hRf (by decide), z_leR hRl (by decide)⟩) hth (by decide) rfl rfl hl.1 rfl (Nat.le_of_ble_eq_true rfl) dX14_ran_14 ⟨Nat.zero_le _, Nat.zero_le _⟩ (fun r_54 F_55 H locs w_56 h hfF_55 => ?_)
    obtain ⟨br_54, -⟩ := w_56
    subst hQ
    exact W.iret (v := r_54) hx hb hr (fun t ht hW => ⟨⟨r_54, F_55, rfl, trivial, by rw [ht]; exact h.1, h.2.1, ((hfF_1.w (by decide)).trans hfF_55 (by decide))⟩, h.2.2.F ht⟩) h.2.2.2.2 dX14_ran_17

set_option maxHeartbeats 4000000 in
set_option maxRecDepth 100000 in
theorem zc_X14_said (l : Launch) (D : va_G) (k : Nat → ClassId) (Γ : Nat → Option Nat) (L : List Nat) (F : Nat → va_E) (sz : Nat) (th : Nat) (i : Int32) (lt : Nat) (hth : Γ th = some 14) (klt : zfld F th 22 = .ref lt) (hlt : Γ lt = some 12) : Met l yX14_said zwX14_said ({ frames := 1, cells := 0, slots := 0, locals := 40 }) (va_Pc [.ref th, .int i] (zP D k Γ L F sz)) (va_Qi (fun (r : Int32) (u : Nat → va_E) => True) (zQ D k Γ L F [1400]) (zA L sz)) 0 0 (zA L sz) := by
  refine Met.ofW (cc := cX14_said) (maxL := 2) (ret := (some .int)) (by decide) rfl ?_
  intro p e s m args below meth c s₁ B hml hv
  obtain ⟨rfl, hsz, hP, hK, hLn, hE, hI⟩ := hv
  have hx := B.exec
  have hb := B.bytes
  have hr := B.returns
  have hg : ∀ w ∈ zG, w.before _ s = true := fun w h9 => atoms_spec (ws := zwX14_said) B.pre w (List.mem_cons_of_mem _ h9)
  have hown : s.vm.findClass RX14 = some m.cls := findClass_of_methodNamed B.named
  have hlocks := B.notSynchronized
  subst hsz
  have Z : zC p m c cX14_said 2 s _ zG RX14 D k L := ⟨⟨hx, hb, hml, hown, hg⟩, hK, hLn, hE⟩
  have h : zH D k Γ L s F s.heap [] := ⟨hP, hI, va_S.rf⟩
  have hl := lv_entry ([.ref th, .int i]) (n := 2) (Nat.le_of_ble_eq_true rfl)
  rw [lg_entry_eq]
  generalize (lg_sl ([.ref th, .int i]) ++ List.replicate (2 - (lg_sl ([.ref th, .int i])).length) Slot.unset).toArray = ls at hl ⊢
  have hl : lv_has ls 2 [(0, .ref th), (1, .int i)] := hl
  clear hP hK hLn hE hI
  generalize hargs : ([.ref th, .int i] : List Value).toArray = args at *
  refine z_start (fun R Q hRf hRl hQ => ?_)
  have hRf : R.frames = 1 := hRf
  have hRl : R.locals = 40 := hRl
  have h9 := h
  refine lv_aload_n hx hb dX14_said_0 rfl (lv_at hl 0 rfl) ?_
  refine lv_aload_n hx hb dX14_said_1 rfl (lv_at hl 0 rfl) ?_
  refine zt_geti (t := 14) (C := RX14) (T := TX14) (N := 40) Z h hth zin_14 rfl 24 rfl ⟨by decide, rfl⟩ (zm_RX14 (List.mem_of_getElem? (i := 124) rfl)) (fun _ h9 => h9) dX14_said_2 (fun x_1 kx_1 bx_1 => ?_)
  refine lv_if_eq (tgt := 28) hx hb dX14_said_5 (by decide) (fun c_2 => ?_) (fun c_2 => ?_)
  · have c_2 := z_eq c_2
    have bx_1_3 : zB 0 0 x_1 := zB.eqL (a := 0) (b := 0) c_2 (zBc 0 0 (by decide))
    refine lv_iconst (v := 1) hx hb dX14_said_28 (by decide) ?_
    refine lv_goto (tgt := 33) hx hb dX14_said_29 (by decide) ?_
    refine zt_put (t := 14) (C := RX14) (T := TX14) (N := 40) (v := .int 1) Z h hth zin_14 tyX14 tyX14_ok nmX14 rfl 0 rfl ⟨by decide, rfl⟩ (zm_RX14 (List.mem_of_getElem? (i := 105) rfl)) (fun _ h9 => h9) rfl (zV.i (zB.of ⟨by decide, by decide⟩)) rfl rfl dX14_said_33 (fun H locs F_4 h hfF_4 kF_4 => ?_)
    refine lv_aload_n hx hb dX14_said_36 rfl (lv_at hl 0 rfl) ?_
    refine zt_getk (t := 14) (C := RX14) (T := TX14) (N := 40) Z h hth zin_14 rfl 0 kF_4 ⟨by decide, rfl, by decide⟩ (zm_RX14 (List.mem_of_getElem? (i := 105) rfl)) (fun _ h9 => h9) dX14_said_37 ?_
    refine lv_if_le (tgt := 47) hx hb dX14_said_40 (by decide) (fun h9 => absurd h9 (by decide)) (fun _ => ?_)
    refine lv_iconst (v := 0) hx hb dX14_said_43 (by decide) ?_
    refine lv_goto (tgt := 56) hx hb dX14_said_44 (by decide) ?_
    subst hQ
    exact W.iret (v := 0) hx hb hr (fun t ht hW => ⟨⟨0, F_4, rfl, trivial, by rw [ht]; exact h.1, h.2.1, hfF_4⟩, h.2.2.F ht⟩) h.2.2.2.2 dX14_said_56
  · have c_2 := z_ne c_2
    have bx_1_5 : zB 1 1 x_1 := zB.neLo c_2 bx_1 (zBc 0 0 (by decide)) (by decide)
    refine lv_iload_n hx hb dX14_said_8 rfl (lv_at hl 1 rfl) ?_
    refine lv_if_lt (tgt := 28) hx hb dX14_said_9 (by decide) (fun c_6 => ?_) (fun c_6 => ?_)
    · have c_6 := z_lt c_6
      have bi_7 : zB (-2147483648) (-1) i := zB.ltL c_6 (zB.all i) (zBc 0 0 (by decide)) (by decide)
      refine lv_iconst (v := 1) hx hb dX14_said_28 (by decide) ?_
      refine lv_goto (tgt := 33) hx hb dX14_said_29 (by decide) ?_
      refine zt_put (t := 14) (C := RX14) (T := TX14) (N := 40) (v := .int 1) Z h hth zin_14 tyX14 tyX14_ok nmX14 rfl 0 rfl ⟨by decide, rfl⟩ (zm_RX14 (List.mem_of_getElem? (i := 105) rfl)) (fun _ h9 => h9) rfl (zV.i (zB.of ⟨by decide, by decide⟩)) rfl rfl dX14_said_33 (fun H locs F_8 h hfF_8 kF_8 => ?_)
      refine lv_aload_n hx hb dX14_said_36 rfl (lv_at hl 0 rfl) ?_
      refine zt_getk (t := 14) (C := RX14) (T := TX14) (N := 40) Z h hth zin_14 rfl 0 kF_8 ⟨by decide, rfl, by decide⟩ (zm_RX14 (List.mem_of_getElem? (i := 105) rfl)) (fun _ h9 => h9) dX14_said_37 ?_
      refine lv_if_le (tgt := 47) hx hb dX14_said_40 (by decide) (fun h9 => absurd h9 (by decide)) (fun _ => ?_)
      refine lv_iconst (v := 0) hx hb dX14_said_43 (by decide) ?_
      refine lv_goto (tgt := 56) hx hb dX14_said_44 (by decide) ?_
      subst hQ
      exact W.iret (v := 0) hx hb hr (fun t ht hW => ⟨⟨0, F_8, rfl, trivial, by rw [ht]; exact h.1, h.2.1, hfF_8⟩, h.2.2.F ht⟩) h.2.2.2.2 dX14_said_56
    · have c_6 := z_nlt c_6
      have bi_9 : zB 0 2147483647 i := zB.leR c_6 (zBc 0 0 (by decide)) (zB.all i) (by decide)
      refine lv_iload_n hx hb dX14_said_12 rfl (lv_at hl 1 rfl) ?_
      refine lv_aload_n hx hb dX14_said_13 rfl (lv_at hl 0 rfl) ?_
      refine zt_getk (t := 14) (C := RX14) (T := TX14) (N := 40) Z h hth zin_14 rfl 22 klt ⟨by decide, rfl, by decide⟩ (zm_RX14 (List.mem_of_getElem? (i := 183) rfl)) (fun _ h9 => h9) dX14_said_14 ?_
      refine zt_getiN (t := 12) (C := RX12) (T := TX12) (N := 10) Z h hlt zin_12 rfl 3 rfl ⟨by decide, rfl⟩ (zn_35 Z) (fun _ h9 => h9) dX14_said_17 (fun x_10 kx_10 bx_10 => ?_)
      refine lv_bipush (v := 60) hx hb dX14_said_20 (by decide) ?_
      refine va_mmin hx hb (by rw [hml]; exact hl.1.symm) hown (hg _ (zm_RX14 (List.mem_of_getElem? (i := 189) rfl))) (hg _ (zm_RX14 (List.mem_of_getElem? (i := 190) rfl))) (hg _ (zm_RX14 (List.mem_of_getElem? (i := 155) rfl))) (hg _ (zm_RX14 (List.mem_of_getElem? (i := 191) rfl))) (z_leR hRf (by decide)) (z_leR hRl (Nat.le_of_ble_eq_true rfl)) (Nat.zero_le _) (Nat.zero_le _) dX14_said_22 ?_
      refine zi_min (lo := 0) (hi := 60) bx_10 (zBc 60 60 (by decide)) (by decide) (fun x_11 bx_11 tx_11 => ?_)
      refine lv_icmp_lt (tgt := 32) hx hb dX14_said_25 (by decide) (fun c_12 => ?_) (fun c_12 => ?_)
      · have c_12 := z_lt c_12
        have bi_13 : zB 0 59 i := zB.ltL c_12 bi_9 bx_11 (by decide)
        have bx_11_14 : zB 1 60 x_11 := zB.ltR c_12 bi_9 bx_11 (by decide)
        refine lv_iconst (v := 0) hx hb dX14_said_32 (by decide) ?_
        refine zt_put (t := 14) (C := RX14) (T := TX14) (N := 40) (v := .int 0) Z h hth zin_14 tyX14 tyX14_ok nmX14 rfl 0 rfl ⟨by decide, rfl⟩ (zm_RX14 (List.mem_of_getElem? (i := 105) rfl)) (fun _ h9 => h9) rfl (zV.i (zB.of ⟨by decide, by decide⟩)) rfl rfl dX14_said_33 (fun H locs F_15 h hfF_15 kF_15 => ?_)
        refine lv_aload_n hx hb dX14_said_36 rfl (lv_at hl 0 rfl) ?_
        refine zt_getk (t := 14) (C := RX14) (T := TX14) (N := 40) Z h hth zin_14 rfl 0 kF_15 ⟨by decide, rfl, by decide⟩ (zm_RX14 (List.mem_of_getElem? (i := 105) rfl)) (fun _ h9 => h9) dX14_said_37 ?_
        refine lv_if_le (tgt := 47) hx hb dX14_said_40 (by decide) (fun _ => ?_) (fun h9 => absurd (by decide) h9)
        refine lv_aload_n hx hb dX14_said_47 rfl (lv_at hl 0 rfl) ?_
        refine zt_getk (t := 14) (C := RX14) (T := TX14) (N := 40) Z h hth zin_14 rfl 22 (hfF_15.f hth 22 ⟨by decide, by decide⟩ klt) ⟨by decide, rfl, by decide⟩ (zm_RX14 (List.mem_of_getElem? (i := 183) rfl)) (fun _ h9 => h9) dX14_said_48 ?_
        refine zt_getrN (t := 12) (C := RX12) (T := TX12) (N := 10) Z h hlt zin_12 rfl 7 rfl ⟨by decide, rfl⟩ (zn_40 Z) (fun _ h9 => h9) dX14_said_51 (fun a_16 ka_16 ha_16 => ?_)
        refine lv_iload_n hx hb dX14_said_54 rfl (lv_at hl 1 rfl) ?_
        refine zt_ialde (t := 165) Z h ha_16 ⟨by decide, rfl⟩ bi_13 ⟨by decide, by decide⟩ dX14_said_55 (fun x_17 ex_17 bx_17 => ?_)
        subst hQ
        exact W.iret (v := x_17) hx hb hr (fun t ht hW => ⟨⟨x_17, F_15, rfl, trivial, by rw [ht]; exact h.1, h.2.1, hfF_15⟩, h.2.2.F ht⟩) h.2.2.2.2 dX14_said_56
      · have c_12 := z_nlt c_12
        refine lv_iconst (v := 1) hx hb dX14_said_28 (by decide) ?_
        refine lv_goto (tgt := 33) hx hb dX14_said_29 (by decide) ?_
        refine zt_put (t := 14) (C := RX14) (T := TX14) (N := 40) (v := .int 1) Z h hth zin_14 tyX14 tyX14_ok nmX14 rfl 0 rfl ⟨by decide, rfl⟩ (zm_RX14 (List.mem_of_getElem? (i := 105) rfl)) (fun _ h9 => h9) rfl (zV.i (zB.of ⟨by decide, by decide⟩)) rfl rfl dX14_said_33 (fun H locs F_18 h hfF_18 kF_18 => ?_)
        refine lv_aload_n hx hb dX14_said_36 rfl (lv_at hl 0 rfl) ?_
        refine zt_getk (t := 14) (C := RX14) (T := TX14) (N := 40) Z h hth zin_14 rfl 0 kF_18 ⟨by decide, rfl, by decide⟩ (zm_RX14 (List.mem_of_getElem? (i := 105) rfl)) (fun _ h9 => h9) dX14_said_37 ?_
        refine lv_if_le (tgt := 47) hx hb dX14_said_40 (by decide) (fun h9 => absurd h9 (by decide)) (fun _ => ?_)
        refine lv_iconst (v := 0) hx hb dX14_said_43 (by decide) ?_
        refine lv_goto (tgt := 56) hx hb dX14_said_44 (by decide) ?_
        subst hQ
        exact W.iret (v := 0) hx hb hr (fun t ht hW => ⟨⟨0, F_18, rfl, trivial, by rw [ht]; exact h.1, h.2.1, hfF_18⟩, h.2.2.F ht⟩) h.2.2.2.2 dX14_said_56

set_option maxHeartbeats 4000000 in
set_option maxRecDepth 100000 in
theorem zc_X14_trace (l : Launch) (D : va_G) (k : Nat → ClassId) (Γ : Nat → Option Nat) (L : List Nat) (F : Nat → va_E) (sz : Nat) (th : Nat) (i : Int32) (wh : Int32) (lt : Nat) (hth : Γ th = some 14) (klt : zfld F th 22 = .ref lt) (hlt : Γ lt = some 12) : Met l yX14_trace zwX14_trace ({ frames := 1, cells := 0, slots := 0, locals := 40 }) (va_Pc [.ref th, .int i, .int wh] (zP D k Γ L F sz)) (va_Qi (fun (r : Int32) (u : Nat → va_E) => True) (zQ D k Γ L F [1400]) (zA L sz)) 0 0 (zA L sz) := by
  refine Met.ofW (cc := cX14_trace) (maxL := 3) (ret := (some .int)) (by decide) rfl ?_
  intro p e s m args below meth c s₁ B hml hv
  obtain ⟨rfl, hsz, hP, hK, hLn, hE, hI⟩ := hv
  have hx := B.exec
  have hb := B.bytes
  have hr := B.returns
  have hg : ∀ w ∈ zG, w.before _ s = true := fun w h9 => atoms_spec (ws := zwX14_trace) B.pre w (List.mem_cons_of_mem _ h9)
  have hown : s.vm.findClass RX14 = some m.cls := findClass_of_methodNamed B.named
  have hlocks := B.notSynchronized
  subst hsz
  have Z : zC p m c cX14_trace 3 s _ zG RX14 D k L := ⟨⟨hx, hb, hml, hown, hg⟩, hK, hLn, hE⟩
  have h : zH D k Γ L s F s.heap [] := ⟨hP, hI, va_S.rf⟩
  have hl := lv_entry ([.ref th, .int i, .int wh]) (n := 3) (Nat.le_of_ble_eq_true rfl)
  rw [lg_entry_eq]
  generalize (lg_sl ([.ref th, .int i, .int wh]) ++ List.replicate (3 - (lg_sl ([.ref th, .int i, .int wh])).length) Slot.unset).toArray = ls at hl ⊢
  have hl : lv_has ls 3 [(0, .ref th), (1, .int i), (2, .int wh)] := hl
  clear hP hK hLn hE hI
  generalize hargs : ([.ref th, .int i, .int wh] : List Value).toArray = args at *
  refine z_start (fun R Q hRf hRl hQ => ?_)
  have hRf : R.frames = 1 := hRf
  have hRl : R.locals = 40 := hRl
  have h9 := h
  refine lv_aload_n hx hb dX14_trace_0 rfl (lv_at hl 0 rfl) ?_
  refine lv_aload_n hx hb dX14_trace_1 rfl (lv_at hl 0 rfl) ?_
  refine zt_geti (t := 14) (C := RX14) (T := TX14) (N := 40) Z h hth zin_14 rfl 24 rfl ⟨by decide, rfl⟩ (zm_RX14 (List.mem_of_getElem? (i := 124) rfl)) (fun _ h9 => h9) dX14_trace_2 (fun x_1 kx_1 bx_1 => ?_)
  refine lv_if_eq (tgt := 38) hx hb dX14_trace_5 (by decide) (fun c_2 => ?_) (fun c_2 => ?_)
  · have c_2 := z_eq c_2
    have bx_1_3 : zB 0 0 x_1 := zB.eqL (a := 0) (b := 0) c_2 (zBc 0 0 (by decide))
    refine lv_iconst (v := 1) hx hb dX14_trace_38 (by decide) ?_
    refine lv_goto (tgt := 43) hx hb dX14_trace_39 (by decide) ?_
    refine zt_put (t := 14) (C := RX14) (T := TX14) (N := 40) (v := .int 1) Z h hth zin_14 tyX14 tyX14_ok nmX14 rfl 0 rfl ⟨by decide, rfl⟩ (zm_RX14 (List.mem_of_getElem? (i := 105) rfl)) (fun _ h9 => h9) rfl (zV.i (zB.of ⟨by decide, by decide⟩)) rfl rfl dX14_trace_43 (fun H locs F_4 h hfF_4 kF_4 => ?_)
    refine lv_aload_n hx hb dX14_trace_46 rfl (lv_at hl 0 rfl) ?_
    refine zt_getk (t := 14) (C := RX14) (T := TX14) (N := 40) Z h hth zin_14 rfl 0 kF_4 ⟨by decide, rfl, by decide⟩ (zm_RX14 (List.mem_of_getElem? (i := 105) rfl)) (fun _ h9 => h9) dX14_trace_47 ?_
    refine lv_if_le (tgt := 57) hx hb dX14_trace_50 (by decide) (fun h9 => absurd h9 (by decide)) (fun _ => ?_)
    refine lv_iconst (v := 0) hx hb dX14_trace_53 (by decide) ?_
    refine lv_goto (tgt := 70) hx hb dX14_trace_54 (by decide) ?_
    subst hQ
    exact W.iret (v := 0) hx hb hr (fun t ht hW => ⟨⟨0, F_4, rfl, trivial, by rw [ht]; exact h.1, h.2.1, hfF_4⟩, h.2.2.F ht⟩) h.2.2.2.2 dX14_trace_70
  · have c_2 := z_ne c_2
    have bx_1_5 : zB 1 1 x_1 := zB.neLo c_2 bx_1 (zBc 0 0 (by decide)) (by decide)
    refine lv_iload_n hx hb dX14_trace_8 rfl (lv_at hl 1 rfl) ?_
    refine lv_if_lt (tgt := 38) hx hb dX14_trace_9 (by decide) (fun c_6 => ?_) (fun c_6 => ?_)
    · have c_6 := z_lt c_6
      have bi_7 : zB (-2147483648) (-1) i := zB.ltL c_6 (zB.all i) (zBc 0 0 (by decide)) (by decide)
      refine lv_iconst (v := 1) hx hb dX14_trace_38 (by decide) ?_
      refine lv_goto (tgt := 43) hx hb dX14_trace_39 (by decide) ?_
      refine zt_put (t := 14) (C := RX14) (T := TX14) (N := 40) (v := .int 1) Z h hth zin_14 tyX14 tyX14_ok nmX14 rfl 0 rfl ⟨by decide, rfl⟩ (zm_RX14 (List.mem_of_getElem? (i := 105) rfl)) (fun _ h9 => h9) rfl (zV.i (zB.of ⟨by decide, by decide⟩)) rfl rfl dX14_trace_43 (fun H locs F_8 h hfF_8 kF_8 => ?_)
      refine lv_aload_n hx hb dX14_trace_46 rfl (lv_at hl 0 rfl) ?_
      refine zt_getk (t := 14) (C := RX14) (T := TX14) (N := 40) Z h hth zin_14 rfl 0 kF_8 ⟨by decide, rfl, by decide⟩ (zm_RX14 (List.mem_of_getElem? (i := 105) rfl)) (fun _ h9 => h9) dX14_trace_47 ?_
      refine lv_if_le (tgt := 57) hx hb dX14_trace_50 (by decide) (fun h9 => absurd h9 (by decide)) (fun _ => ?_)
      refine lv_iconst (v := 0) hx hb dX14_trace_53 (by decide) ?_
      refine lv_goto (tgt := 70) hx hb dX14_trace_54 (by decide) ?_
      subst hQ
      exact W.iret (v := 0) hx hb hr (fun t ht hW => ⟨⟨0, F_8, rfl, trivial, by rw [ht]; exact h.1, h.2.1, hfF_8⟩, h.2.2.F ht⟩) h.2.2.2.2 dX14_trace_70
    · have c_6 := z_nlt c_6
      have bi_9 : zB 0 2147483647 i := zB.leR c_6 (zBc 0 0 (by decide)) (zB.all i) (by decide)
      refine lv_iload_n hx hb dX14_trace_12 rfl (lv_at hl 1 rfl) ?_
      refine lv_aload_n hx hb dX14_trace_13 rfl (lv_at hl 0 rfl) ?_
      refine zt_getk (t := 14) (C := RX14) (T := TX14) (N := 40) Z h hth zin_14 rfl 22 klt ⟨by decide, rfl, by decide⟩ (zm_RX14 (List.mem_of_getElem? (i := 183) rfl)) (fun _ h9 => h9) dX14_trace_14 ?_
      refine zt_getiN (t := 12) (C := RX12) (T := TX12) (N := 10) Z h hlt zin_12 rfl 4 rfl ⟨by decide, rfl⟩ (zn_36 Z) (fun _ h9 => h9) dX14_trace_17 (fun x_10 kx_10 bx_10 => ?_)
      refine lv_sipush (v := 400) hx hb dX14_trace_20 (by decide) ?_
      refine va_mmin hx hb (by rw [hml]; exact hl.1.symm) hown (hg _ (zm_RX14 (List.mem_of_getElem? (i := 189) rfl))) (hg _ (zm_RX14 (List.mem_of_getElem? (i := 190) rfl))) (hg _ (zm_RX14 (List.mem_of_getElem? (i := 155) rfl))) (hg _ (zm_RX14 (List.mem_of_getElem? (i := 191) rfl))) (z_leR hRf (by decide)) (z_leR hRl (Nat.le_of_ble_eq_true rfl)) (Nat.zero_le _) (Nat.zero_le _) dX14_trace_23 ?_
      refine zi_min (lo := 0) (hi := 400) bx_10 (zBc 400 400 (by decide)) (by decide) (fun x_11 bx_11 tx_11 => ?_)
      refine lv_icmp_ge (tgt := 38) hx hb dX14_trace_26 (by decide) (fun c_12 => ?_) (fun c_12 => ?_)
      · have c_12 := z_le c_12
        refine lv_iconst (v := 1) hx hb dX14_trace_38 (by decide) ?_
        refine lv_goto (tgt := 43) hx hb dX14_trace_39 (by decide) ?_
        refine zt_put (t := 14) (C := RX14) (T := TX14) (N := 40) (v := .int 1) Z h hth zin_14 tyX14 tyX14_ok nmX14 rfl 0 rfl ⟨by decide, rfl⟩ (zm_RX14 (List.mem_of_getElem? (i := 105) rfl)) (fun _ h9 => h9) rfl (zV.i (zB.of ⟨by decide, by decide⟩)) rfl rfl dX14_trace_43 (fun H locs F_13 h hfF_13 kF_13 => ?_)
        refine lv_aload_n hx hb dX14_trace_46 rfl (lv_at hl 0 rfl) ?_
        refine zt_getk (t := 14) (C := RX14) (T := TX14) (N := 40) Z h hth zin_14 rfl 0 kF_13 ⟨by decide, rfl, by decide⟩ (zm_RX14 (List.mem_of_getElem? (i := 105) rfl)) (fun _ h9 => h9) dX14_trace_47 ?_
        refine lv_if_le (tgt := 57) hx hb dX14_trace_50 (by decide) (fun h9 => absurd h9 (by decide)) (fun _ => ?_)
        refine lv_iconst (v := 0) hx hb dX14_trace_53 (by decide) ?_
        refine lv_goto (tgt := 70) hx hb dX14_trace_54 (by decide) ?_
        subst hQ
        exact W.iret (v := 0) hx hb hr (fun t ht hW => ⟨⟨0, F_13, rfl, trivial, by rw [ht]; exact h.1, h.2.1, hfF_13⟩, h.2.2.F ht⟩) h.2.2.2.2 dX14_trace_70
      · have c_12 := z_nle c_12
        have bi_14 : zB 0 399 i := zB.ltL c_12 bi_9 bx_11 (by decide)
        have bx_11_15 : zB 1 400 x_11 := zB.ltR c_12 bi_9 bx_11 (by decide)
        refine lv_iload_n hx hb dX14_trace_29 rfl (lv_at hl 2 rfl) ?_
        refine lv_iconst (v := 0) hx hb dX14_trace_30 (by decide) ?_
        refine lv_iconst (v := 3) hx hb dX14_trace_31 (by decide) ?_
        refine zk_Si (As := [.int wh, .int 0, .int 3]) (rest := [.ref th]) (bytes := cX14_in) (maxL := 3) (ret := (some .boolean)) Z h (zc_X14_in l D k Γ L F s.heap.size wh 0 3) (va_cwS 3 hg zv_RX14_407 rfl rfl rfl zd_X14_in ⟨z_leR hRf (by decide), z_leR hRl (by decide)⟩) rfl hl.1 rfl (Nat.le_of_ble_eq_true rfl) dX14_trace_32 ⟨Nat.zero_le _, Nat.zero_le _⟩ (fun r_16 F_17 H locs w_18 h hfF_17 => ?_)
        obtain ⟨rfl, br_16, q_19, -⟩ := w_18
        refine lv_if_ne (tgt := 42) hx hb dX14_trace_35 (by decide) (fun c_20 => ?_) (fun c_20 => ?_)
        · have q_21 := q_19 c_20
          have bwh_q_21 : zB 0 3 wh := ⟨by have := bi_14.1; have := bi_14.2; have := (zB.all wh).1; have := (zB.all wh).2; have := bx_1_5.1; have := bx_1_5.2; have := bx_10.1; have := bx_10.2; have : (0 : Int32).toInt = 0 := (by decide); have : (3 : Int32).toInt = 3 := (by decide); have : (400 : Int32).toInt = 400 := (by decide); omega, by have := bi_14.1; have := bi_14.2; have := (zB.all wh).1; have := (zB.all wh).2; have := bx_1_5.1; have := bx_1_5.2; have := bx_10.1; have := bx_10.2; have : (0 : Int32).toInt = 0 := (by decide); have : (3 : Int32).toInt = 3 := (by decide); have : (400 : Int32).toInt = 400 := (by decide); omega⟩
          have c_20 := z_ne c_20
          have br_16_22 : zB 1 1 r_16 := zB.neLo c_20 br_16 (zBc 0 0 (by decide)) (by decide)
          refine lv_iconst (v := 0) hx hb dX14_trace_42 (by decide) ?_
          refine zt_put (t := 14) (C := RX14) (T := TX14) (N := 40) (v := .int 0) Z h hth zin_14 tyX14 tyX14_ok nmX14 rfl 0 rfl ⟨by decide, rfl⟩ (zm_RX14 (List.mem_of_getElem? (i := 105) rfl)) (fun _ h9 => h9) rfl (zV.i (zB.of ⟨by decide, by decide⟩)) rfl rfl dX14_trace_43 (fun H locs F_23 h hfF_23 kF_23 => ?_)
          refine lv_aload_n hx hb dX14_trace_46 rfl (lv_at hl 0 rfl) ?_
          refine zt_getk (t := 14) (C := RX14) (T := TX14) (N := 40) Z h hth zin_14 rfl 0 kF_23 ⟨by decide, rfl, by decide⟩ (zm_RX14 (List.mem_of_getElem? (i := 105) rfl)) (fun _ h9 => h9) dX14_trace_47 ?_
          refine lv_if_le (tgt := 57) hx hb dX14_trace_50 (by decide) (fun _ => ?_) (fun h9 => absurd (by decide) h9)
          refine lv_aload_n hx hb dX14_trace_57 rfl (lv_at hl 0 rfl) ?_
          refine zt_getk (t := 14) (C := RX14) (T := TX14) (N := 40) Z h hth zin_14 rfl 22 (hfF_23.f hth 22 ⟨by decide, by decide⟩ klt) ⟨by decide, rfl, by decide⟩ (zm_RX14 (List.mem_of_getElem? (i := 183) rfl)) (fun _ h9 => h9) dX14_trace_58 ?_
          refine zt_getrN (t := 12) (C := RX12) (T := TX12) (N := 10) Z h hlt zin_12 rfl 8 rfl ⟨by decide, rfl⟩ (zn_41 Z) (fun _ h9 => h9) dX14_trace_61 (fun a_24 ka_24 ha_24 => ?_)
          refine lv_iconst (v := 4) hx hb dX14_trace_64 (by decide) ?_
          refine lv_iload_n hx hb dX14_trace_65 rfl (lv_at hl 1 rfl) ?_
          refine lv_imul hx hb dX14_trace_66 ?_
          refine zi_mul ((zBc 4 4 (by decide)).w ⟨by decide, by decide⟩ : zB 0 4 _) bi_14 (by decide) (fun x_25 bx_25 tx_25 => ?_)
          have bx_25 : zB 0 1596 x_25 := bx_25
          refine lv_iload_n hx hb dX14_trace_67 rfl (lv_at hl 2 rfl) ?_
          refine lv_iadd hx hb dX14_trace_68 ?_
          refine zi_add (lo := 0) (hi := 1599) bx_25 bwh_q_21 (by decide) (fun x_26 bx_26 tx_26 => ?_)
          refine zt_ialde (t := 166) Z h ha_24 ⟨by decide, rfl⟩ bx_26 ⟨by decide, by decide⟩ dX14_trace_69 (fun x_27 ex_27 bx_27 => ?_)
          subst hQ
          exact W.iret (v := x_27) hx hb hr (fun t ht hW => ⟨⟨x_27, F_23, rfl, trivial, by rw [ht]; exact h.1, h.2.1, hfF_23⟩, h.2.2.F ht⟩) h.2.2.2.2 dX14_trace_70
        · have c_20 := z_eq c_20
          have br_16_28 : zB 0 0 r_16 := zB.eqL (a := 0) (b := 0) c_20 (zBc 0 0 (by decide))
          refine lv_iconst (v := 1) hx hb dX14_trace_38 (by decide) ?_
          refine lv_goto (tgt := 43) hx hb dX14_trace_39 (by decide) ?_
          refine zt_put (t := 14) (C := RX14) (T := TX14) (N := 40) (v := .int 1) Z h hth zin_14 tyX14 tyX14_ok nmX14 rfl 0 rfl ⟨by decide, rfl⟩ (zm_RX14 (List.mem_of_getElem? (i := 105) rfl)) (fun _ h9 => h9) rfl (zV.i (zB.of ⟨by decide, by decide⟩)) rfl rfl dX14_trace_43 (fun H locs F_29 h hfF_29 kF_29 => ?_)
          refine lv_aload_n hx hb dX14_trace_46 rfl (lv_at hl 0 rfl) ?_
          refine zt_getk (t := 14) (C := RX14) (T := TX14) (N := 40) Z h hth zin_14 rfl 0 kF_29 ⟨by decide, rfl, by decide⟩ (zm_RX14 (List.mem_of_getElem? (i := 105) rfl)) (fun _ h9 => h9) dX14_trace_47 ?_
          refine lv_if_le (tgt := 57) hx hb dX14_trace_50 (by decide) (fun h9 => absurd h9 (by decide)) (fun _ => ?_)
          refine lv_iconst (v := 0) hx hb dX14_trace_53 (by decide) ?_
          refine lv_goto (tgt := 70) hx hb dX14_trace_54 (by decide) ?_
          subst hQ
          exact W.iret (v := 0) hx hb hr (fun t ht hW => ⟨⟨0, F_29, rfl, trivial, by rw [ht]; exact h.1, h.2.1, hfF_29⟩, h.2.2.F ht⟩) h.2.2.2.2 dX14_trace_70

set_option maxHeartbeats 4000000 in
set_option maxRecDepth 100000 in
theorem zc_X14_covered (l : Launch) (D : va_G) (k : Nat → ClassId) (Γ : Nat → Option Nat) (L : List Nat) (F : Nat → va_E) (sz : Nat) (th : Nat) (li : Int32) (pr : Nat) (lt : Nat) (hth : Γ th = some 14) (kpr : zfld F th 4 = .ref pr) (hpr : Γ pr = some 11) (klt : zfld F th 22 = .ref lt) (hlt : Γ lt = some 12) : Met l yX14_covered zwX14_covered ({ frames := 1, cells := 0, slots := 0, locals := 21 }) (va_Pc [.ref th, .int li] (zP D k Γ L F sz)) (va_Qi (fun (r : Int32) (u : Nat → va_E) => True) (zQ D k Γ L F [1400]) (zA L sz)) 0 0 (zA L sz) := by
  refine Met.ofW (cc := cX14_covered) (maxL := 2) (ret := (some .int)) (by decide) rfl ?_
  intro p e s m args below meth c s₁ B hml hv
  obtain ⟨rfl, hsz, hP, hK, hLn, hE, hI⟩ := hv
  have hx := B.exec
  have hb := B.bytes
  have hr := B.returns
  have hg : ∀ w ∈ zG, w.before _ s = true := fun w h9 => atoms_spec (ws := zwX14_covered) B.pre w (List.mem_cons_of_mem _ h9)
  have hown : s.vm.findClass RX14 = some m.cls := findClass_of_methodNamed B.named
  have hlocks := B.notSynchronized
  subst hsz
  have Z : zC p m c cX14_covered 2 s _ zG RX14 D k L := ⟨⟨hx, hb, hml, hown, hg⟩, hK, hLn, hE⟩
  have h : zH D k Γ L s F s.heap [] := ⟨hP, hI, va_S.rf⟩
  have hl := lv_entry ([.ref th, .int li]) (n := 2) (Nat.le_of_ble_eq_true rfl)
  rw [lg_entry_eq]
  generalize (lg_sl ([.ref th, .int li]) ++ List.replicate (2 - (lg_sl ([.ref th, .int li])).length) Slot.unset).toArray = ls at hl ⊢
  have hl : lv_has ls 2 [(0, .ref th), (1, .int li)] := hl
  clear hP hK hLn hE hI
  generalize hargs : ([.ref th, .int li] : List Value).toArray = args at *
  refine z_start (fun R Q hRf hRl hQ => ?_)
  have hRf : R.frames = 1 := hRf
  have hRl : R.locals = 21 := hRl
  have h9 := h
  refine lv_aload_n hx hb dX14_covered_0 rfl (lv_at hl 0 rfl) ?_
  refine lv_iconst (v := 0) hx hb dX14_covered_1 (by decide) ?_
  refine zt_put (t := 14) (C := RX14) (T := TX14) (N := 40) (v := .int 0) Z h hth zin_14 tyX14 tyX14_ok nmX14 rfl 0 rfl ⟨by decide, rfl⟩ (zm_RX14 (List.mem_of_getElem? (i := 105) rfl)) (fun _ h9 => h9) rfl (zV.i (zB.of ⟨by decide, by decide⟩)) rfl rfl dX14_covered_2 (fun H locs F_1 h hfF_1 kF_1 => ?_)
  refine lv_aload_n hx hb dX14_covered_5 rfl (lv_at hl 0 rfl) ?_
  refine zt_geti (t := 14) (C := RX14) (T := TX14) (N := 40) Z h hth zin_14 rfl 24 rfl ⟨by decide, rfl⟩ (zm_RX14 (List.mem_of_getElem? (i := 124) rfl)) (fun _ h9 => h9) dX14_covered_6 (fun x_2 kx_2 bx_2 => ?_)
  refine lv_if_eq (tgt := 35) hx hb dX14_covered_9 (by decide) (fun c_3 => ?_) (fun c_3 => ?_)
  · have c_3 := z_eq c_3
    have bx_2_4 : zB 0 0 x_2 := zB.eqL (a := 0) (b := 0) c_3 (zBc 0 0 (by decide))
    refine lv_iconst (v := (-1)) hx hb dX14_covered_35 (by decide) ?_
    subst hQ
    exact W.iret (v := (-1)) hx hb hr (fun t ht hW => ⟨⟨(-1), F_1, rfl, trivial, by rw [ht]; exact h.1, h.2.1, hfF_1⟩, h.2.2.F ht⟩) h.2.2.2.2 dX14_covered_36
  · have c_3 := z_ne c_3
    have bx_2_5 : zB 1 1 x_2 := zB.neLo c_3 bx_2 (zBc 0 0 (by decide)) (by decide)
    refine lv_aload_n hx hb dX14_covered_12 rfl (lv_at hl 0 rfl) ?_
    refine lv_iload_n hx hb dX14_covered_13 rfl (lv_at hl 1 rfl) ?_
    obtain ⟨x_6, kx_6, bx_6⟩ := z_learn (j := 7) (lo := 0) (hi := 1) h hth (by decide) rfl
    obtain ⟨x_7, kx_7, bx_7⟩ := z_learn (j := 1) (lo := 0) (hi := 60) h hpr (by decide) rfl
    refine zk_Vi (As := [.int li]) (rest := []) (bytes := cX14_isLine) (maxL := 2) (ret := (some .boolean)) Z h (zc_X14_isLine l D k Γ L F_1 H.size th li pr x_6 x_7 hth (hfF_1.f hth 4 ⟨by decide, by decide⟩ kpr) hpr kx_6 bx_6 kx_7 bx_7) (cwV 1 hg zv_RX14_341 rfl rfl rfl zd_X14_isLine ⟨z_leR hRf (by decide), z_leR hRl (by decide)⟩) hth (by decide) rfl rfl hl.1 rfl (Nat.le_of_ble_eq_true rfl) dX14_covered_14 ⟨Nat.zero_le _, Nat.zero_le _⟩ (fun r_8 F_9 H locs w_10 h hfF_9 => ?_)
    obtain ⟨rfl, br_8, q_11, q_12, q_13, -⟩ := w_10
    refine lv_if_eq (tgt := 35) hx hb dX14_covered_17 (by decide) (fun c_14 => ?_) (fun c_14 => ?_)
    · have q_15 := q_13 c_14
      have c_14 := z_eq c_14
      have br_8_16 : zB 0 0 r_8 := zB.eqL (a := 0) (b := 0) c_14 (zBc 0 0 (by decide))
      refine lv_iconst (v := (-1)) hx hb dX14_covered_35 (by decide) ?_
      subst hQ
      exact W.iret (v := (-1)) hx hb hr (fun t ht hW => ⟨⟨(-1), F_1, rfl, trivial, by rw [ht]; exact h.1, h.2.1, hfF_1⟩, h.2.2.F ht⟩) h.2.2.2.2 dX14_covered_36
    · have bli_17 : zB 0 59 li := q_11 c_14
      have q_18 := q_12 c_14
      have c_14 := z_ne c_14
      have br_8_19 : zB 1 1 r_8 := zB.neLo c_14 br_8 (zBc 0 0 (by decide)) (by decide)
      refine lv_aload_n hx hb dX14_covered_20 rfl (lv_at hl 0 rfl) ?_
      refine zt_getk (t := 14) (C := RX14) (T := TX14) (N := 40) Z h hth zin_14 rfl 22 (hfF_1.f hth 22 ⟨by decide, by decide⟩ klt) ⟨by decide, rfl, by decide⟩ (zm_RX14 (List.mem_of_getElem? (i := 183) rfl)) (fun _ h9 => h9) dX14_covered_21 ?_
      refine zt_getlN (t := 12) (C := RX12) (T := TX12) (N := 10) Z h hlt zin_12 rfl 6 rfl ⟨by decide, rfl⟩ (zn_38 Z) (fun _ h9 => h9) dX14_covered_24 (fun g_20 kg_20 => ?_)
      refine lv_iload_n hx hb dX14_covered_27 rfl (lv_at hl 1 rfl) ?_
      refine lv_lshr hx hb dX14_covered_28 rfl ?_
      refine lv_topl (fun g_21 eg_21 => ?_)
      refine lv_lconst (v := 1) hx hb dX14_covered_29 (by decide) ?_
      refine lv_land hx hb dX14_covered_30 ?_
      refine lv_topl (fun g_22 eg_22 => ?_)
      refine lv_l2i hx hb dX14_covered_31 rfl ?_
      refine zi_any (fun x_23 bx_23 ex_23 => ?_)
      refine lv_goto (tgt := 36) hx hb dX14_covered_32 (by decide) ?_
      subst hQ
      exact W.iret (v := x_23) hx hb hr (fun t ht hW => ⟨⟨x_23, F_1, rfl, trivial, by rw [ht]; exact h.1, h.2.1, hfF_1⟩, h.2.2.F ht⟩) h.2.2.2.2 dX14_covered_36

set_option maxHeartbeats 4000000 in
set_option maxRecDepth 100000 in
theorem zc_X14_place (l : Launch) (D : va_G) (k : Nat → ClassId) (Γ : Nat → Option Nat) (L : List Nat) (F : Nat → va_E) (sz : Nat) (th : Nat) (q : Int32) (lt : Nat) (hth : Γ th = some 14) (klt : zfld F th 22 = .ref lt) (hlt : Γ lt = some 12) : Met l yX14_place zwX14_place ({ frames := 1, cells := 0, slots := 0, locals := 22 }) (va_Pc [.ref th, .int q] (zP D k Γ L F sz)) (va_Qi (fun (r : Int32) (u : Nat → va_E) => True) (zQ D k Γ L F [1400, 1401, 1402]) (zA L sz)) 0 0 (zA L sz) := by
  refine Met.ofW (cc := cX14_place) (maxL := 2) (ret := (some .int)) (by decide) rfl ?_
  intro p e s m args below meth c s₁ B hml hv
  obtain ⟨rfl, hsz, hP, hK, hLn, hE, hI⟩ := hv
  have hx := B.exec
  have hb := B.bytes
  have hr := B.returns
  have hg : ∀ w ∈ zG, w.before _ s = true := fun w h9 => atoms_spec (ws := zwX14_place) B.pre w (List.mem_cons_of_mem _ h9)
  have hown : s.vm.findClass RX14 = some m.cls := findClass_of_methodNamed B.named
  have hlocks := B.notSynchronized
  subst hsz
  have Z : zC p m c cX14_place 2 s _ zG RX14 D k L := ⟨⟨hx, hb, hml, hown, hg⟩, hK, hLn, hE⟩
  have h : zH D k Γ L s F s.heap [] := ⟨hP, hI, va_S.rf⟩
  have hl := lv_entry ([.ref th, .int q]) (n := 2) (Nat.le_of_ble_eq_true rfl)
  rw [lg_entry_eq]
  generalize (lg_sl ([.ref th, .int q]) ++ List.replicate (2 - (lg_sl ([.ref th, .int q])).length) Slot.unset).toArray = ls at hl ⊢
  have hl : lv_has ls 2 [(0, .ref th), (1, .int q)] := hl
  clear hP hK hLn hE hI
  generalize hargs : ([.ref th, .int q] : List Value).toArray = args at *
  refine z_start (fun R Q hRf hRl hQ => ?_)
  have hRf : R.frames = 1 := hRf
  have hRl : R.locals = 22 := hRl
  have h9 := h
  refine lv_aload_n hx hb dX14_place_0 rfl (lv_at hl 0 rfl) ?_
  refine lv_iconst (v := 0) hx hb dX14_place_1 (by decide) ?_
  refine zt_put (t := 14) (C := RX14) (T := TX14) (N := 40) (v := .int 0) Z h hth zin_14 tyX14 tyX14_ok nmX14 rfl 0 rfl ⟨by decide, rfl⟩ (zm_RX14 (List.mem_of_getElem? (i := 105) rfl)) (fun _ h9 => h9) rfl (zV.i (zB.of ⟨by decide, by decide⟩)) rfl rfl dX14_place_2 (fun H locs F_1 h hfF_1 kF_1 => ?_)
  refine lv_aload_n hx hb dX14_place_5 rfl (lv_at hl 0 rfl) ?_
  refine zt_geti (t := 14) (C := RX14) (T := TX14) (N := 40) Z h hth zin_14 rfl 24 rfl ⟨by decide, rfl⟩ (zm_RX14 (List.mem_of_getElem? (i := 124) rfl)) (fun _ h9 => h9) dX14_place_6 (fun x_2 kx_2 bx_2 => ?_)
  refine lv_if_ne (tgt := 18) hx hb dX14_place_9 (by decide) (fun c_3 => ?_) (fun c_3 => ?_)
  · have c_3 := z_ne c_3
    have bx_2_4 : zB 1 1 x_2 := zB.neLo c_3 bx_2 (zBc 0 0 (by decide)) (by decide)
    refine lv_iload_n hx hb dX14_place_18 rfl (lv_at hl 1 rfl) ?_
    refine lv_iconst (v := 0) hx hb dX14_place_19 (by decide) ?_
    refine lv_bipush (v := 7) hx hb dX14_place_20 (by decide) ?_
    refine zk_Si (As := [.int q, .int 0, .int 7]) (rest := []) (bytes := cX14_in) (maxL := 3) (ret := (some .boolean)) Z h (zc_X14_in l D k Γ L F_1 H.size q 0 7) (va_cwS 3 hg zv_RX14_407 rfl rfl rfl zd_X14_in ⟨z_leR hRf (by decide), z_leR hRl (by decide)⟩) rfl hl.1 rfl (Nat.le_of_ble_eq_true rfl) dX14_place_22 ⟨Nat.zero_le _, Nat.zero_le _⟩ (fun r_5 F_6 H locs w_7 h hfF_6 => ?_)
    obtain ⟨rfl, br_5, q_8, -⟩ := w_7
    refine lv_if_eq (tgt := 44) hx hb dX14_place_25 (by decide) (fun c_9 => ?_) (fun c_9 => ?_)
    · have c_9 := z_eq c_9
      have br_5_10 : zB 0 0 r_5 := zB.eqL (a := 0) (b := 0) c_9 (zBc 0 0 (by decide))
      refine lv_aload_n hx hb dX14_place_44 rfl (lv_at hl 0 rfl) ?_
      refine lv_iconst (v := 2) hx hb dX14_place_45 (by decide) ?_
      refine zk_Vi (As := [.int 2]) (rest := []) (bytes := cX14_refused) (maxL := 2) (ret := (some .int)) Z h (zc_X14_refused l D k Γ L F_1 H.size th 2 hth) (cwV 1 hg zv_RX14_307 rfl rfl rfl zd_X14_refused ⟨z_leR hRf (by decide), z_leR hRl (by decide)⟩) hth (by decide) rfl rfl hl.1 rfl (Nat.le_of_ble_eq_true rfl) dX14_place_46 ⟨Nat.zero_le _, Nat.zero_le _⟩ (fun r_11 F_12 H locs w_13 h hfF_12 => ?_)
      obtain ⟨br_11, -⟩ := w_13
      subst hQ
      exact W.iret (v := r_11) hx hb hr (fun t ht hW => ⟨⟨r_11, F_12, rfl, trivial, by rw [ht]; exact h.1, h.2.1, ((hfF_1.w (by decide)).trans hfF_12 (by decide))⟩, h.2.2.F ht⟩) h.2.2.2.2 dX14_place_49
    · have q_14 := q_8 c_9
      have bq_q_14 : zB 0 7 q := ⟨by have := (zB.all q).1; have := (zB.all q).2; have := bx_2_4.1; have := bx_2_4.2; have : (0 : Int32).toInt = 0 := (by decide); have : (7 : Int32).toInt = 7 := (by decide); omega, by have := (zB.all q).1; have := (zB.all q).2; have := bx_2_4.1; have := bx_2_4.2; have : (0 : Int32).toInt = 0 := (by decide); have : (7 : Int32).toInt = 7 := (by decide); omega⟩
      have c_9 := z_ne c_9
      have br_5_15 : zB 1 1 r_5 := zB.neLo c_9 br_5 (zBc 0 0 (by decide)) (by decide)
      refine lv_aload_n hx hb dX14_place_28 rfl (lv_at hl 0 rfl) ?_
      refine lv_aload_n hx hb dX14_place_29 rfl (lv_at hl 0 rfl) ?_
      refine zt_getk (t := 14) (C := RX14) (T := TX14) (N := 40) Z h hth zin_14 rfl 22 (hfF_1.f hth 22 ⟨by decide, by decide⟩ klt) ⟨by decide, rfl, by decide⟩ (zm_RX14 (List.mem_of_getElem? (i := 183) rfl)) (fun _ h9 => h9) dX14_place_30 ?_
      refine zt_getrN (t := 12) (C := RX12) (T := TX12) (N := 10) Z h hlt zin_12 rfl 9 rfl ⟨by decide, rfl⟩ (zn_39 Z) (fun _ h9 => h9) dX14_place_33 (fun a_16 ka_16 ha_16 => ?_)
      refine lv_iload_n hx hb dX14_place_36 rfl (lv_at hl 1 rfl) ?_
      refine zt_ialde (t := 167) Z h ha_16 ⟨by decide, rfl⟩ bq_q_14 ⟨by decide, by decide⟩ dX14_place_37 (fun x_17 ex_17 bx_17 => ?_)
      refine zk_Vi (As := [.int x_17]) (rest := []) (bytes := cX14_done) (maxL := 2) (ret := (some .int)) Z h (zc_X14_done l D k Γ L F_1 H.size th x_17 hth) (cwV 1 hg zv_RX14_333 rfl rfl rfl zd_X14_done ⟨z_leR hRf (by decide), z_leR hRl (by decide)⟩) hth (by decide) rfl rfl hl.1 rfl (Nat.le_of_ble_eq_true rfl) dX14_place_38 ⟨Nat.zero_le _, Nat.zero_le _⟩ (fun r_18 F_19 H locs w_20 h hfF_19 => ?_)
      obtain ⟨q_21, -⟩ := w_20
      have br_18 := zB.all r_18
      refine lv_goto (tgt := 49) hx hb dX14_place_41 (by decide) ?_
      subst hQ
      exact W.iret (v := r_18) hx hb hr (fun t ht hW => ⟨⟨r_18, F_19, rfl, trivial, by rw [ht]; exact h.1, h.2.1, ((hfF_1.w (by decide)).trans hfF_19 (by decide))⟩, h.2.2.F ht⟩) h.2.2.2.2 dX14_place_49
  · have c_3 := z_eq c_3
    have bx_2_22 : zB 0 0 x_2 := zB.eqL (a := 0) (b := 0) c_3 (zBc 0 0 (by decide))
    refine lv_aload_n hx hb dX14_place_12 rfl (lv_at hl 0 rfl) ?_
    refine lv_iconst (v := 5) hx hb dX14_place_13 (by decide) ?_
    refine zk_Vi (As := [.int 5]) (rest := []) (bytes := cX14_refused) (maxL := 2) (ret := (some .int)) Z h (zc_X14_refused l D k Γ L F_1 H.size th 5 hth) (cwV 1 hg zv_RX14_307 rfl rfl rfl zd_X14_refused ⟨z_leR hRf (by decide), z_leR hRl (by decide)⟩) hth (by decide) rfl rfl hl.1 rfl (Nat.le_of_ble_eq_true rfl) dX14_place_14 ⟨Nat.zero_le _, Nat.zero_le _⟩ (fun r_23 F_24 H locs w_25 h hfF_24 => ?_)
    obtain ⟨br_23, -⟩ := w_25
    subst hQ
    exact W.iret (v := r_23) hx hb hr (fun t ht hW => ⟨⟨r_23, F_24, rfl, trivial, by rw [ht]; exact h.1, h.2.1, ((hfF_1.w (by decide)).trans hfF_24 (by decide))⟩, h.2.2.F ht⟩) h.2.2.2.2 dX14_place_17

set_option maxHeartbeats 4000000 in
set_option maxRecDepth 100000 in
theorem zc_X14_picked (l : Launch) (D : va_G) (k : Nat → ClassId) (Γ : Nat → Option Nat) (L : List Nat) (F : Nat → va_E) (sz : Nat) (th : Nat) (i : Int32) (hth : Γ th = some 14) : Met l yX14_picked zwX14_picked ({ frames := 0, cells := 0, slots := 0, locals := 0 }) (va_Pc [.ref th, .int i] (zP D k Γ L F sz)) (va_Qi (fun (r : Int32) (u : Nat → va_E) => True) (zQ D k Γ L F [1400]) (zA L sz)) 0 0 (zA L sz) := by
  refine Met.ofW (cc := cX14_picked) (maxL := 2) (ret := (some .int)) (by decide) rfl ?_
  intro p e s m args below meth c s₁ B hml hv
  obtain ⟨rfl, hsz, hP, hK, hLn, hE, hI⟩ := hv
  have hx := B.exec
  have hb := B.bytes
  have hr := B.returns
  have hg : ∀ w ∈ zG, w.before _ s = true := fun w h9 => atoms_spec (ws := zwX14_picked) B.pre w (List.mem_cons_of_mem _ h9)
  have hown : s.vm.findClass RX14 = some m.cls := findClass_of_methodNamed B.named
  have hlocks := B.notSynchronized
  subst hsz
  have Z : zC p m c cX14_picked 2 s _ zG RX14 D k L := ⟨⟨hx, hb, hml, hown, hg⟩, hK, hLn, hE⟩
  have h : zH D k Γ L s F s.heap [] := ⟨hP, hI, va_S.rf⟩
  have hl := lv_entry ([.ref th, .int i]) (n := 2) (Nat.le_of_ble_eq_true rfl)
  rw [lg_entry_eq]
  generalize (lg_sl ([.ref th, .int i]) ++ List.replicate (2 - (lg_sl ([.ref th, .int i])).length) Slot.unset).toArray = ls at hl ⊢
  have hl : lv_has ls 2 [(0, .ref th), (1, .int i)] := hl
  clear hP hK hLn hE hI
  generalize hargs : ([.ref th, .int i] : List Value).toArray = args at *
  refine z_start (fun R Q hRf hRl hQ => ?_)
  have hRf : R.frames = 0 := hRf
  have hRl : R.locals = 0 := hRl
  refine lv_aload_n hx hb dX14_picked_0 rfl (lv_at hl 0 rfl) ?_
  refine lv_iconst (v := 0) hx hb dX14_picked_1 (by decide) ?_
  refine zt_put (t := 14) (C := RX14) (T := TX14) (N := 40) (v := .int 0) Z h hth zin_14 tyX14 tyX14_ok nmX14 rfl 0 rfl ⟨by decide, rfl⟩ (zm_RX14 (List.mem_of_getElem? (i := 105) rfl)) (fun _ h9 => h9) rfl (zV.i (zB.of ⟨by decide, by decide⟩)) rfl rfl dX14_picked_2 (fun H locs F_1 h hfF_1 kF_1 => ?_)
  refine lv_iload_n hx hb dX14_picked_5 rfl (lv_at hl 1 rfl) ?_
  refine lv_if_lt (tgt := 26) hx hb dX14_picked_6 (by decide) (fun c_2 => ?_) (fun c_2 => ?_)
  · have c_2 := z_lt c_2
    have bi_3 : zB (-2147483648) (-1) i := zB.ltL c_2 (zB.all i) (zBc 0 0 (by decide)) (by decide)
    refine lv_iconst (v := (-1)) hx hb dX14_picked_26 (by decide) ?_
    subst hQ
    exact W.iret (v := (-1)) hx hb hr (fun t ht hW => ⟨⟨(-1), F_1, rfl, trivial, by rw [ht]; exact h.1, h.2.1, hfF_1⟩, h.2.2.F ht⟩) h.2.2.2.2 dX14_picked_27
  · have c_2 := z_nlt c_2
    have bi_4 : zB 0 2147483647 i := zB.leR c_2 (zBc 0 0 (by decide)) (zB.all i) (by decide)
    refine lv_iload_n hx hb dX14_picked_9 rfl (lv_at hl 1 rfl) ?_
    refine lv_aload_n hx hb dX14_picked_10 rfl (lv_at hl 0 rfl) ?_
    refine zt_geti (t := 14) (C := RX14) (T := TX14) (N := 40) Z h hth zin_14 rfl 33 rfl ⟨by decide, rfl⟩ (zm_RX14 (List.mem_of_getElem? (i := 123) rfl)) (fun _ h9 => h9) dX14_picked_11 (fun x_5 kx_5 bx_5 => ?_)
    refine lv_icmp_ge (tgt := 26) hx hb dX14_picked_14 (by decide) (fun c_6 => ?_) (fun c_6 => ?_)
    · have c_6 := z_le c_6
      refine lv_iconst (v := (-1)) hx hb dX14_picked_26 (by decide) ?_
      subst hQ
      exact W.iret (v := (-1)) hx hb hr (fun t ht hW => ⟨⟨(-1), F_1, rfl, trivial, by rw [ht]; exact h.1, h.2.1, hfF_1⟩, h.2.2.F ht⟩) h.2.2.2.2 dX14_picked_27
    · have c_6 := z_nle c_6
      have bi_7 : zB 0 11 i := zB.ltL c_6 bi_4 bx_5 (by decide)
      have bx_5_8 : zB 1 12 x_5 := zB.ltR c_6 bi_4 bx_5 (by decide)
      refine lv_aload_n hx hb dX14_picked_17 rfl (lv_at hl 0 rfl) ?_
      refine zt_getr (t := 14) (C := RX14) (T := TX14) (N := 40) Z h hth zin_14 rfl 38 rfl ⟨by decide, rfl⟩ (zm_RX14 (List.mem_of_getElem? (i := 223) rfl)) (fun _ h9 => h9) dX14_picked_18 (fun a_9 ka_9 ha_9 => ?_)
      refine lv_iload_n hx hb dX14_picked_21 rfl (lv_at hl 1 rfl) ?_
      refine zt_ialde (t := 172) Z h ha_9 ⟨by decide, rfl⟩ bi_7 ⟨by decide, by decide⟩ dX14_picked_22 (fun x_10 ex_10 bx_10 => ?_)
      refine lv_goto (tgt := 27) hx hb dX14_picked_23 (by decide) ?_
      subst hQ
      exact W.iret (v := x_10) hx hb hr (fun t ht hW => ⟨⟨x_10, F_1, rfl, trivial, by rw [ht]; exact h.1, h.2.1, hfF_1⟩, h.2.2.F ht⟩) h.2.2.2.2 dX14_picked_27

set_option maxHeartbeats 4000000 in
set_option maxRecDepth 100000 in
theorem zc_X14_count (l : Launch) (D : va_G) (k : Nat → ClassId) (Γ : Nat → Option Nat) (L : List Nat) (F : Nat → va_E) (sz : Nat) (th : Nat) (wh : Int32) (pr : Nat) (is_ : Int32) (nf : Int32) (nl : Int32) (sz_ : Int32) (fe : Int32) (hth : Γ th = some 14) (kpr : zfld F th 4 = .ref pr) (hpr : Γ pr = some 11) (kis_ : zfld F th 7 = .int is_) (bis_ : zB 0 1 is_) (knf : zfld F pr 0 = .int nf) (bnf : zB 0 10 nf) (knl : zfld F pr 1 = .int nl) (bnl : zB 0 60 nl) (ksz_ : zfld F th 32 = .int sz_) (bsz_ : zB 0 12 sz_) (kfe : zfld F th 11 = .int fe) (bfe : zB 0 600 fe) : Met l yX14_count zwX14_count ({ frames := 0, cells := 0, slots := 0, locals := 0 }) (va_Pc [.ref th, .int wh] (zP D k Γ L F sz)) (va_Qi (fun (r : Int32) (u : Nat → va_E) => ((wh.toInt = 0 → (is_.toInt ≠ 0 → r.toInt = nf.toInt) ∧ (is_.toInt = 0 → r.toInt = 0)) ∧ (wh.toInt = 1 → (is_.toInt ≠ 0 → r.toInt = nl.toInt) ∧ (is_.toInt = 0 → r.toInt = 0)) ∧ (wh.toInt = 2 → r.toInt = sz_.toInt) ∧ (wh.toInt = 3 → r.toInt = fe.toInt) ∧ (wh.toInt < 0 ∨ 3 < wh.toInt → r.toInt = -1)) ∧ True) (zQ D k Γ L F [1400]) (zA L sz)) 0 0 (zA L sz) := by
  refine Met.ofW (cc := cX14_count) (maxL := 2) (ret := (some .int)) (by decide) rfl ?_
  intro p e s m args below meth c s₁ B hml hv
  obtain ⟨rfl, hsz, hP, hK, hLn, hE, hI⟩ := hv
  have hx := B.exec
  have hb := B.bytes
  have hr := B.returns
  have hg : ∀ w ∈ zG, w.before _ s = true := fun w h9 => atoms_spec (ws := zwX14_count) B.pre w (List.mem_cons_of_mem _ h9)
  have hown : s.vm.findClass RX14 = some m.cls := findClass_of_methodNamed B.named
  have hlocks := B.notSynchronized
  subst hsz
  have Z : zC p m c cX14_count 2 s _ zG RX14 D k L := ⟨⟨hx, hb, hml, hown, hg⟩, hK, hLn, hE⟩
  have h : zH D k Γ L s F s.heap [] := ⟨hP, hI, va_S.rf⟩
  have hl := lv_entry ([.ref th, .int wh]) (n := 2) (Nat.le_of_ble_eq_true rfl)
  rw [lg_entry_eq]
  generalize (lg_sl ([.ref th, .int wh]) ++ List.replicate (2 - (lg_sl ([.ref th, .int wh])).length) Slot.unset).toArray = ls at hl ⊢
  have hl : lv_has ls 2 [(0, .ref th), (1, .int wh)] := hl
  clear hP hK hLn hE hI
  generalize hargs : ([.ref th, .int wh] : List Value).toArray = args at *
  refine z_start (fun R Q hRf hRl hQ => ?_)
  have hRf : R.frames = 0 := hRf
  have hRl : R.locals = 0 := hRl
  have h9 := h
  refine lv_aload_n hx hb dX14_count_0 rfl (lv_at hl 0 rfl) ?_
  refine lv_iconst (v := 0) hx hb dX14_count_1 (by decide) ?_
  refine zt_put (t := 14) (C := RX14) (T := TX14) (N := 40) (v := .int 0) Z h hth zin_14 tyX14 tyX14_ok nmX14 rfl 0 rfl ⟨by decide, rfl⟩ (zm_RX14 (List.mem_of_getElem? (i := 105) rfl)) (fun _ h9 => h9) rfl (zV.i (zB.of ⟨by decide, by decide⟩)) rfl rfl dX14_count_2 (fun H locs F_1 h hfF_1 kF_1 => ?_)
  refine lv_iload_n hx hb dX14_count_5 rfl (lv_at hl 1 rfl) ?_
  by_cases c_2 : wh = 0
  · refine lv_tableIn (off := 30) (tgt := 36) hx hb dX14_count_6 (by rw [c_2]; decide) (by rw [c_2]; decide) (by rw [c_2]; rfl) (by decide) ?_
    have bwh_2 : zB 0 0 wh := by rw [c_2]; exact zBc _ _ (by decide)
    refine lv_aload_n hx hb dX14_count_36 rfl (lv_at hl 0 rfl) ?_
    refine zt_getk (t := 14) (C := RX14) (T := TX14) (N := 40) Z h hth zin_14 rfl 7 (hfF_1.f hth 7 ⟨by decide, by decide⟩ kis_) ⟨by decide, rfl, by decide⟩ (zm_RX14 (List.mem_of_getElem? (i := 120) rfl)) (fun _ h9 => h9) dX14_count_37 ?_
    refine lv_if_eq (tgt := 53) hx hb dX14_count_40 (by decide) (fun c_4 => ?_) (fun c_4 => ?_)
    · have c_4 := z_eq c_4
      have bis__5 : zB 0 0 is_ := zB.eqL (a := 0) (b := 0) c_4 (zBc 0 0 (by decide))
      refine lv_iconst (v := 0) hx hb dX14_count_53 (by decide) ?_
      subst hQ
      exact W.iret (v := 0) hx hb hr (fun t ht hW => ⟨⟨0, F_1, rfl, ⟨(by have := bwh_2.1; have := bwh_2.2; have := bis__5.1; have := bis__5.2; have := bnf.1; have := bnf.2; have := bnl.1; have := bnl.2; have := bsz_.1; have := bsz_.2; have := bfe.1; have := bfe.2; have : (0 : Int32).toInt = 0 := (by decide); omega), trivial⟩, by rw [ht]; exact h.1, h.2.1, hfF_1⟩, h.2.2.F ht⟩) h.2.2.2.2 dX14_count_54
    · have c_4 := z_ne c_4
      have bis__6 : zB 1 1 is_ := zB.neLo c_4 bis_ (zBc 0 0 (by decide)) (by decide)
      refine lv_aload_n hx hb dX14_count_43 rfl (lv_at hl 0 rfl) ?_
      refine zt_getk (t := 14) (C := RX14) (T := TX14) (N := 40) Z h hth zin_14 rfl 4 (hfF_1.f hth 4 ⟨by decide, by decide⟩ kpr) ⟨by decide, rfl, by decide⟩ (zm_RX14 (List.mem_of_getElem? (i := 119) rfl)) (fun _ h9 => h9) dX14_count_44 ?_
      refine zt_getkN (t := 11) (C := RX11) (T := TX11) (N := 30) Z h hpr zin_11 rfl 0 (hfF_1.f hpr 0 ⟨by decide, by decide⟩ knf) ⟨by decide, rfl, by decide⟩ (zn_2 Z) (fun _ h9 => h9) dX14_count_47 ?_
      refine lv_goto (tgt := 54) hx hb dX14_count_50 (by decide) ?_
      subst hQ
      exact W.iret (v := nf) hx hb hr (fun t ht hW => ⟨⟨nf, F_1, rfl, ⟨(by have := bwh_2.1; have := bwh_2.2; have := bnf.1; have := bnf.2; have := bis__6.1; have := bis__6.2; have := bnl.1; have := bnl.2; have := bsz_.1; have := bsz_.2; have := bfe.1; have := bfe.2; have : (0 : Int32).toInt = 0 := (by decide); omega), trivial⟩, by rw [ht]; exact h.1, h.2.1, hfF_1⟩, h.2.2.F ht⟩) h.2.2.2.2 dX14_count_54
  · by_cases c_7 : wh = 1
    · refine lv_tableIn (off := 49) (tgt := 55) hx hb dX14_count_6 (by rw [c_7]; decide) (by rw [c_7]; decide) (by rw [c_7]; rfl) (by decide) ?_
      have bwh_7 : zB 1 1 wh := by rw [c_7]; exact zBc _ _ (by decide)
      refine lv_aload_n hx hb dX14_count_55 rfl (lv_at hl 0 rfl) ?_
      refine zt_getk (t := 14) (C := RX14) (T := TX14) (N := 40) Z h hth zin_14 rfl 7 (hfF_1.f hth 7 ⟨by decide, by decide⟩ kis_) ⟨by decide, rfl, by decide⟩ (zm_RX14 (List.mem_of_getElem? (i := 120) rfl)) (fun _ h9 => h9) dX14_count_56 ?_
      refine lv_if_eq (tgt := 72) hx hb dX14_count_59 (by decide) (fun c_9 => ?_) (fun c_9 => ?_)
      · have c_9 := z_eq c_9
        have bis__10 : zB 0 0 is_ := zB.eqL (a := 0) (b := 0) c_9 (zBc 0 0 (by decide))
        refine lv_iconst (v := 0) hx hb dX14_count_72 (by decide) ?_
        subst hQ
        exact W.iret (v := 0) hx hb hr (fun t ht hW => ⟨⟨0, F_1, rfl, ⟨(by have := bwh_7.1; have := bwh_7.2; have := bis__10.1; have := bis__10.2; have := bnf.1; have := bnf.2; have := bnl.1; have := bnl.2; have := bsz_.1; have := bsz_.2; have := bfe.1; have := bfe.2; have : (0 : Int32).toInt = 0 := (by decide); omega), trivial⟩, by rw [ht]; exact h.1, h.2.1, hfF_1⟩, h.2.2.F ht⟩) h.2.2.2.2 dX14_count_73
      · have c_9 := z_ne c_9
        have bis__11 : zB 1 1 is_ := zB.neLo c_9 bis_ (zBc 0 0 (by decide)) (by decide)
        refine lv_aload_n hx hb dX14_count_62 rfl (lv_at hl 0 rfl) ?_
        refine zt_getk (t := 14) (C := RX14) (T := TX14) (N := 40) Z h hth zin_14 rfl 4 (hfF_1.f hth 4 ⟨by decide, by decide⟩ kpr) ⟨by decide, rfl, by decide⟩ (zm_RX14 (List.mem_of_getElem? (i := 119) rfl)) (fun _ h9 => h9) dX14_count_63 ?_
        refine zt_getkN (t := 11) (C := RX11) (T := TX11) (N := 30) Z h hpr zin_11 rfl 1 (hfF_1.f hpr 1 ⟨by decide, by decide⟩ knl) ⟨by decide, rfl, by decide⟩ (zn_3 Z) (fun _ h9 => h9) dX14_count_66 ?_
        refine lv_goto (tgt := 73) hx hb dX14_count_69 (by decide) ?_
        subst hQ
        exact W.iret (v := nl) hx hb hr (fun t ht hW => ⟨⟨nl, F_1, rfl, ⟨(by have := bwh_7.1; have := bwh_7.2; have := bnl.1; have := bnl.2; have := bis__11.1; have := bis__11.2; have := bnf.1; have := bnf.2; have := bsz_.1; have := bsz_.2; have := bfe.1; have := bfe.2; have : (0 : Int32).toInt = 0 := (by decide); omega), trivial⟩, by rw [ht]; exact h.1, h.2.1, hfF_1⟩, h.2.2.F ht⟩) h.2.2.2.2 dX14_count_73
    · by_cases c_12 : wh = 2
      · refine lv_tableIn (off := 68) (tgt := 74) hx hb dX14_count_6 (by rw [c_12]; decide) (by rw [c_12]; decide) (by rw [c_12]; rfl) (by decide) ?_
        have bwh_12 : zB 2 2 wh := by rw [c_12]; exact zBc _ _ (by decide)
        refine lv_aload_n hx hb dX14_count_74 rfl (lv_at hl 0 rfl) ?_
        refine zt_getk (t := 14) (C := RX14) (T := TX14) (N := 40) Z h hth zin_14 rfl 32 (hfF_1.f hth 32 ⟨by decide, by decide⟩ ksz_) ⟨by decide, rfl, by decide⟩ (zm_RX14 (List.mem_of_getElem? (i := 122) rfl)) (fun _ h9 => h9) dX14_count_75 ?_
        subst hQ
        exact W.iret (v := sz_) hx hb hr (fun t ht hW => ⟨⟨sz_, F_1, rfl, ⟨(by have := bwh_12.1; have := bwh_12.2; have := bsz_.1; have := bsz_.2; have := bis_.1; have := bis_.2; have := bnf.1; have := bnf.2; have := bnl.1; have := bnl.2; have := bfe.1; have := bfe.2; have : (0 : Int32).toInt = 0 := (by decide); omega), trivial⟩, by rw [ht]; exact h.1, h.2.1, hfF_1⟩, h.2.2.F ht⟩) h.2.2.2.2 dX14_count_78
      · by_cases c_14 : wh = 3
        · refine lv_tableIn (off := 73) (tgt := 79) hx hb dX14_count_6 (by rw [c_14]; decide) (by rw [c_14]; decide) (by rw [c_14]; rfl) (by decide) ?_
          have bwh_14 : zB 3 3 wh := by rw [c_14]; exact zBc _ _ (by decide)
          refine lv_aload_n hx hb dX14_count_79 rfl (lv_at hl 0 rfl) ?_
          refine zt_getk (t := 14) (C := RX14) (T := TX14) (N := 40) Z h hth zin_14 rfl 11 (hfF_1.f hth 11 ⟨by decide, by decide⟩ kfe) ⟨by decide, rfl, by decide⟩ (zm_RX14 (List.mem_of_getElem? (i := 106) rfl)) (fun _ h9 => h9) dX14_count_80 ?_
          subst hQ
          exact W.iret (v := fe) hx hb hr (fun t ht hW => ⟨⟨fe, F_1, rfl, ⟨(by have := bwh_14.1; have := bwh_14.2; have := bfe.1; have := bfe.2; have := bis_.1; have := bis_.2; have := bnf.1; have := bnf.2; have := bnl.1; have := bnl.2; have := bsz_.1; have := bsz_.2; have : (0 : Int32).toInt = 0 := (by decide); omega), trivial⟩, by rw [ht]; exact h.1, h.2.1, hfF_1⟩, h.2.2.F ht⟩) h.2.2.2.2 dX14_count_83
        · have nc_2 : wh.toInt ≠ 0 := z_nev c_2 (by decide)
          have nc_7 : wh.toInt ≠ 1 := z_nev c_7 (by decide)
          have nc_12 : wh.toInt ≠ 2 := z_nev c_12 (by decide)
          have nc_14 : wh.toInt ≠ 3 := z_nev c_14 (by decide)
          refine lv_tableOut (tgt := 84) hx hb dX14_count_6 (by have := (zB.all wh).1; have := (zB.all wh).2; omega) (by decide) ?_
          refine lv_iconst (v := (-1)) hx hb dX14_count_84 (by decide) ?_
          subst hQ
          exact W.iret (v := (-1)) hx hb hr (fun t ht hW => ⟨⟨(-1), F_1, rfl, ⟨(by have := (zB.all wh).1; have := (zB.all wh).2; have := bis_.1; have := bis_.2; have := bnf.1; have := bnf.2; have := bnl.1; have := bnl.2; have := bsz_.1; have := bsz_.2; have := bfe.1; have := bfe.2; have : ((-1) : Int32).toInt = (-1) := (by decide); have : (0 : Int32).toInt = 0 := (by decide); omega), trivial⟩, by rw [ht]; exact h.1, h.2.1, hfF_1⟩, h.2.2.F ht⟩) h.2.2.2.2 dX14_count_85

set_option maxHeartbeats 4000000 in
set_option maxRecDepth 100000 in
theorem zc_X14_feed (l : Launch) (D : va_G) (k : Nat → ClassId) (Γ : Nat → Option Nat) (L : List Nat) (F : Nat → va_E) (sz : Nat) (th : Nat) (na : Int32) (nb : Int32) (nc : Int32) (nd : Int32) (ne : Int32) (tp : Nat) (fe : Int32) (hth : Γ th = some 14) (ktp : zfld F th 10 = .ref tp) (htp : Γ tp = some 152) (kfe : zfld F th 11 = .int fe) (bfe : zB 0 600 fe) : Met l yX14_feed zwX14_feed ({ frames := 0, cells := 0, slots := 0, locals := 0 }) (va_Pc [.ref th, .int na, .int nb, .int nc, .int nd, .int ne] (zP D k Γ L F sz)) (va_Qi (fun (r : Int32) (u : Nat → va_E) => (∃ (f9 : Int32), zfld u th 11 = .int f9 ∧ zB 0 600 f9 ∧ ((fe.toInt + 20 ≤ 600 → f9.toInt = fe.toInt + 20 ∧ r.toInt = f9.toInt) ∧ (600 < fe.toInt + 20 → f9.toInt = fe.toInt ∧ r.toInt = -1))) ∧ ((fe.toInt + 20 ≤ 600 → zel u tp = zf20 (zel F tp) fe.toInt na nb nc nd ne) ∧ (600 < fe.toInt + 20 → zel u tp = zel F tp)) ∧ True) (zQ D k Γ L F [1400, 1411, 15200]) (zA L sz)) 0 0 (zA L sz) := by
  refine Met.ofW (cc := cX14_feed) (maxL := 8) (ret := (some .int)) (by decide) rfl ?_
  intro p e s m args below meth c s₁ B hml hv
  obtain ⟨rfl, hsz, hP, hK, hLn, hE, hI⟩ := hv
  have hx := B.exec
  have hb := B.bytes
  have hr := B.returns
  have hg : ∀ w ∈ zG, w.before _ s = true := fun w h9 => atoms_spec (ws := zwX14_feed) B.pre w (List.mem_cons_of_mem _ h9)
  have hown : s.vm.findClass RX14 = some m.cls := findClass_of_methodNamed B.named
  have hlocks := B.notSynchronized
  subst hsz
  have Z : zC p m c cX14_feed 8 s _ zG RX14 D k L := ⟨⟨hx, hb, hml, hown, hg⟩, hK, hLn, hE⟩
  have h : zH D k Γ L s F s.heap [] := ⟨hP, hI, va_S.rf⟩
  have hl := lv_entry ([.ref th, .int na, .int nb, .int nc, .int nd, .int ne]) (n := 8) (Nat.le_of_ble_eq_true rfl)
  rw [lg_entry_eq]
  generalize (lg_sl ([.ref th, .int na, .int nb, .int nc, .int nd, .int ne]) ++ List.replicate (8 - (lg_sl ([.ref th, .int na, .int nb, .int nc, .int nd, .int ne])).length) Slot.unset).toArray = ls at hl ⊢
  have hl : lv_has ls 8 [(0, .ref th), (1, .int na), (2, .int nb), (3, .int nc), (4, .int nd), (5, .int ne)] := hl
  clear hP hK hLn hE hI
  generalize hargs : ([.ref th, .int na, .int nb, .int nc, .int nd, .int ne] : List Value).toArray = args at *
  refine z_start (fun R Q hRf hRl hQ => ?_)
  have hRf : R.frames = 0 := hRf
  have hRl : R.locals = 0 := hRl
  have h9 := h
  refine lv_aload_n hx hb dX14_feed_0 rfl (lv_at hl 0 rfl) ?_
  refine lv_iconst (v := 0) hx hb dX14_feed_1 (by decide) ?_
  refine zt_put (t := 14) (C := RX14) (T := TX14) (N := 40) (v := .int 0) Z h hth zin_14 tyX14 tyX14_ok nmX14 rfl 0 rfl ⟨by decide, rfl⟩ (zm_RX14 (List.mem_of_getElem? (i := 105) rfl)) (fun _ h9 => h9) rfl (zV.i (zB.of ⟨by decide, by decide⟩)) rfl rfl dX14_feed_2 (fun H locs F_1 h hfF_1 kF_1 => ?_)
  refine lv_aload_n hx hb dX14_feed_5 rfl (lv_at hl 0 rfl) ?_
  refine zt_getk (t := 14) (C := RX14) (T := TX14) (N := 40) Z h hth zin_14 rfl 11 (hfF_1.f hth 11 ⟨by decide, by decide⟩ kfe) ⟨by decide, rfl, by decide⟩ (zm_RX14 (List.mem_of_getElem? (i := 106) rfl)) (fun _ h9 => h9) dX14_feed_6 ?_
  refine lv_bipush (v := 20) hx hb dX14_feed_9 (by decide) ?_
  refine lv_iadd hx hb dX14_feed_11 ?_
  refine zi_add (lo := 20) (hi := 620) bfe (zBc 20 20 (by decide)) (by decide) (fun x_2 bx_2 tx_2 => ?_)
  refine lv_sipush (v := 600) hx hb dX14_feed_12 (by decide) ?_
  refine lv_icmp_le (tgt := 20) hx hb dX14_feed_15 (by decide) (fun c_3 => ?_) (fun c_3 => ?_)
  · have c_3 := z_le c_3
    have bx_2_4 : zB 20 600 x_2 := zB.leL c_3 bx_2 (zBc 600 600 (by decide)) (by decide)
    refine lv_iconst (v := 0) hx hb dX14_feed_20 (by decide) ?_
    refine lv_istore (lv' := [(6, .int 0), (0, .ref th), (1, .int na), (2, .int nb), (3, .int nc), (4, .int nd), (5, .int ne)]) hx hb dX14_feed_21 hl (by decide) rfl (fun ls hl => ?_)
    have j_j23_5 : ∀ (n : Nat) (ls : Array Slot) (y6_j23_5 : Int32) (kt_j23_5 : Int32) (F_6 : Nat → va_E) (H : Heap) (locs : List Loc), lv_has ls 8 [(6, .int y6_j23_5), (0, .ref th), (1, .int na), (2, .int nb), (3, .int nc), (4, .int nd), (5, .int ne)] → zB 0 20 y6_j23_5 → zH D k Γ L s F_6 H locs → zFr Γ [1411, 15200] F_1 F_6 → zfld F_6 th 11 = .int kt_j23_5 → zB 0 600 kt_j23_5 → (kt_j23_5.toInt = fe.toInt + y6_j23_5.toInt) → (fe.toInt + 20 ≤ 600) → (zel F_6 tp = zfm (zel F tp) fe.toInt na nb nc nd ne y6_j23_5.toInt) → (2147483647 - y6_j23_5.toInt).toNat = n → W p l e R s m args below meth c H locs 0 0 Q (F0 m 23 ls []) := by
      intro n
      induction n using Nat.strongRecOn with
      | _ n ih_j23_5 =>
        intro ls y6_j23_5 kt_j23_5 F_6 H locs hl by6_j23_5 h hfF_6 hkt_j23_5 bkt_j23_5 r0_j23_5 r1_j23_5 r2_j23_5 hn_j23_5
        refine lv_iload hx hb dX14_feed_23 (lv_at hl 0 rfl) ?_
        refine lv_bipush (v := 20) hx hb dX14_feed_25 (by decide) ?_
        refine lv_icmp_ge (tgt := 117) hx hb dX14_feed_27 (by decide) (fun c_7 => ?_) (fun c_7 => ?_)
        · have c_7 := z_le c_7
          have by6_j23_5_8 : zB 20 20 y6_j23_5 := zB.leR c_7 (zBc 20 20 (by decide)) by6_j23_5 (by decide)
          refine lv_aload_n hx hb dX14_feed_117 rfl (lv_at hl 1 rfl) ?_
          refine zt_getk (t := 14) (C := RX14) (T := TX14) (N := 40) Z h hth zin_14 rfl 11 hkt_j23_5 ⟨by decide, rfl, by decide⟩ (zm_RX14 (List.mem_of_getElem? (i := 106) rfl)) (fun _ h9 => h9) dX14_feed_118 ?_
          subst hQ
          exact W.iret (v := kt_j23_5) hx hb hr (fun t ht hW => ⟨⟨kt_j23_5, F_6, rfl, ⟨⟨kt_j23_5, hkt_j23_5, bkt_j23_5, (by have := by6_j23_5_8.1; have := by6_j23_5_8.2; have := (zB.all na).1; have := (zB.all na).2; have := (zB.all nb).1; have := (zB.all nb).2; have := (zB.all nc).1; have := (zB.all nc).2; have := (zB.all nd).1; have := (zB.all nd).2; have := (zB.all ne).1; have := (zB.all ne).2; have := bkt_j23_5.1; have := bkt_j23_5.2; have := bfe.1; have := bfe.2; have : (0 : Int32).toInt = 0 := (by decide); have : (20 : Int32).toInt = 20 := (by decide); have : (600 : Int32).toInt = 600 := (by decide); omega)⟩, ⟨fun _ => by rw [r2_j23_5, show y6_j23_5.toInt = 20 by have := by6_j23_5_8.1; have := by6_j23_5_8.2; have := (zB.all na).1; have := (zB.all na).2; have := (zB.all nb).1; have := (zB.all nb).2; have := (zB.all nc).1; have := (zB.all nc).2; have := (zB.all nd).1; have := (zB.all nd).2; have := (zB.all ne).1; have := (zB.all ne).2; have := bkt_j23_5.1; have := bkt_j23_5.2; have := bfe.1; have := bfe.2; have : (0 : Int32).toInt = 0 := (by decide); have : (20 : Int32).toInt = 20 := (by decide); have : (600 : Int32).toInt = 600 := (by decide); omega]; exact zfm_20, fun h9 => by exfalso; have := by6_j23_5_8.1; have := by6_j23_5_8.2; have := (zB.all na).1; have := (zB.all na).2; have := (zB.all nb).1; have := (zB.all nb).2; have := (zB.all nc).1; have := (zB.all nc).2; have := (zB.all nd).1; have := (zB.all nd).2; have := (zB.all ne).1; have := (zB.all ne).2; have := bkt_j23_5.1; have := bkt_j23_5.2; have := bfe.1; have := bfe.2; have : (0 : Int32).toInt = 0 := (by decide); have : (20 : Int32).toInt = 20 := (by decide); have : (600 : Int32).toInt = 600 := (by decide); omega⟩, trivial⟩, by rw [ht]; exact h.1, h.2.1, ((hfF_1.w (by decide)).trans hfF_6 (by decide))⟩, h.2.2.F ht⟩) h.2.2.2.2 dX14_feed_121
        · have c_7 := z_nle c_7
          have by6_j23_5_9 : zB 0 19 y6_j23_5 := zB.ltL c_7 by6_j23_5 (zBc 20 20 (by decide)) (by decide)
          have j_j76_10 : ∀ (ls : Array Slot) (w0_j76_10 : Int32), lv_has ls 8 [(6, .int y6_j23_5), (0, .ref th), (1, .int na), (2, .int nb), (3, .int nc), (4, .int nd), (5, .int ne)] → zB (-2147483648) 2147483647 w0_j76_10 → (w0_j76_10 = zpk na nb nc nd ne y6_j23_5.toInt) → W p l e R s m args below meth c H locs 0 0 Q (F0 m 76 ls [.int w0_j76_10]) := by
            intro ls w0_j76_10 hl bw0_j76_10 r0_j76_10
            refine lv_istore (lv' := [(7, .int w0_j76_10), (6, .int y6_j23_5), (0, .ref th), (1, .int na), (2, .int nb), (3, .int nc), (4, .int nd), (5, .int ne)]) hx hb dX14_feed_76 hl (by decide) rfl (fun ls hl => ?_)
            refine lv_aload_n hx hb dX14_feed_78 rfl (lv_at hl 2 rfl) ?_
            refine zt_getk (t := 14) (C := RX14) (T := TX14) (N := 40) Z h hth zin_14 rfl 10 (hfF_6.f hth 10 ⟨by decide, by decide⟩ (hfF_1.f hth 10 ⟨by decide, by decide⟩ ktp)) ⟨by decide, rfl, by decide⟩ (zm_RX14 (List.mem_of_getElem? (i := 11) rfl)) (fun _ h9 => h9) dX14_feed_79 ?_
            refine lv_aload_n hx hb dX14_feed_82 rfl (lv_at hl 2 rfl) ?_
            refine zt_getk (t := 14) (C := RX14) (T := TX14) (N := 40) Z h hth zin_14 rfl 11 hkt_j23_5 ⟨by decide, rfl, by decide⟩ (zm_RX14 (List.mem_of_getElem? (i := 106) rfl)) (fun _ h9 => h9) dX14_feed_83 ?_
            refine lv_iload hx hb dX14_feed_86 (lv_at hl 0 rfl) ?_
            refine lv_bipush (v := 24) hx hb dX14_feed_88 (by decide) ?_
            refine lv_bipush (v := 8) hx hb dX14_feed_90 (by decide) ?_
            refine lv_iload hx hb dX14_feed_92 (lv_at hl 1 rfl) ?_
            refine lv_iconst (v := 4) hx hb dX14_feed_94 (by decide) ?_
            refine lv_irem hx hb dX14_feed_95 (by decide) ?_
            refine zi_any (fun x_11 bx_11 ex_11 => ?_)
            refine lv_imul hx hb dX14_feed_96 ?_
            refine zi_any (fun x_12 bx_12 ex_12 => ?_)
            refine lv_isub hx hb dX14_feed_97 ?_
            refine zi_any (fun x_13 bx_13 ex_13 => ?_)
            refine lv_ishr hx hb dX14_feed_98 ?_
            refine zi_any (fun x_14 bx_14 ex_14 => ?_)
            refine lv_i2b hx hb dX14_feed_99 rfl ?_
            refine zi_any (fun x_15 bx_15 ex_15 => ?_)
            have bkt_j23_5_16 : zB 0 599 kt_j23_5 := ⟨by have := bw0_j76_10.1; have := bw0_j76_10.2; have := by6_j23_5_9.1; have := by6_j23_5_9.2; have := (zB.all na).1; have := (zB.all na).2; have := (zB.all nb).1; have := (zB.all nb).2; have := (zB.all nc).1; have := (zB.all nc).2; have := (zB.all nd).1; have := (zB.all nd).2; have := (zB.all ne).1; have := (zB.all ne).2; have := bx_15.1; have := bx_15.2; have := bkt_j23_5.1; have := bkt_j23_5.2; have := bfe.1; have := bfe.2; have : (0 : Int32).toInt = 0 := (by decide); have : (8 : Int32).toInt = 8 := (by decide); have : (20 : Int32).toInt = 20 := (by decide); have : (24 : Int32).toInt = 24 := (by decide); have : (600 : Int32).toInt = 600 := (by decide); omega, by have := bw0_j76_10.1; have := bw0_j76_10.2; have := by6_j23_5_9.1; have := by6_j23_5_9.2; have := (zB.all na).1; have := (zB.all na).2; have := (zB.all nb).1; have := (zB.all nb).2; have := (zB.all nc).1; have := (zB.all nc).2; have := (zB.all nd).1; have := (zB.all nd).2; have := (zB.all ne).1; have := (zB.all ne).2; have := bx_15.1; have := bx_15.2; have := bkt_j23_5.1; have := bkt_j23_5.2; have := bfe.1; have := bfe.2; have : (0 : Int32).toInt = 0 := (by decide); have : (8 : Int32).toInt = 8 := (by decide); have : (20 : Int32).toInt = 20 := (by decide); have : (24 : Int32).toInt = 24 := (by decide); have : (600 : Int32).toInt = 600 := (by decide); omega⟩
            refine zt_baste (t := 152) Z h htp ⟨by decide, rfl⟩ bkt_j23_5_16 ⟨by decide, by decide⟩ dX14_feed_100 (fun H locs F_17 h hfF_17 eF_17 gF_17 => ?_)
            refine lv_aload_n hx hb dX14_feed_101 rfl (lv_at hl 2 rfl) ?_
            refine lv_dup hx hb dX14_feed_102 rfl ?_
            refine zt_getk (t := 14) (C := RX14) (T := TX14) (N := 40) Z h hth zin_14 rfl 11 (hfF_17.f hth 11 ⟨by decide, by decide⟩ hkt_j23_5) ⟨by decide, rfl, by decide⟩ (zm_RX14 (List.mem_of_getElem? (i := 106) rfl)) (fun _ h9 => h9) dX14_feed_103 ?_
            refine lv_iconst (v := 1) hx hb dX14_feed_106 (by decide) ?_
            refine lv_iadd hx hb dX14_feed_107 ?_
            refine zi_add (lo := 1) (hi := 600) bkt_j23_5_16 (zBc 1 1 (by decide)) (by decide) (fun x_18 bx_18 tx_18 => ?_)
            refine zt_put (t := 14) (C := RX14) (T := TX14) (N := 40) (v := .int x_18) Z h hth zin_14 tyX14 tyX14_ok nmX14 rfl 11 rfl ⟨by decide, rfl⟩ (zm_RX14 (List.mem_of_getElem? (i := 106) rfl)) (fun _ h9 => h9) rfl (zV.i (bx_18.w ⟨by decide, by decide⟩)) rfl rfl dX14_feed_108 (fun H locs F_19 h hfF_19 kF_19 => ?_)
            obtain ⟨x_20, ex_20, bx_20, tx_20⟩ := z_inc (n := 1) (lo := 1) (hi := 20) by6_j23_5_9 (by decide)
            refine lv_iinc (v := x_20) (lv' := [(6, .int x_20), (7, .int w0_j76_10), (0, .ref th), (1, .int na), (2, .int nb), (3, .int nc), (4, .int nd), (5, .int ne)]) hx hb dX14_feed_111 hl (k := 1) rfl ex_20 (by decide) rfl (fun ls hl => ?_)
            refine lv_goto (tgt := 23) hx hb dX14_feed_114 (by decide) ?_
            exact ih_j23_5 _ (by have := bx_20.1; have := bx_20.2; have := bw0_j76_10.1; have := bw0_j76_10.2; have := (zB.all na).1; have := (zB.all na).2; have := (zB.all nb).1; have := (zB.all nb).2; have := (zB.all nc).1; have := (zB.all nc).2; have := (zB.all nd).1; have := (zB.all nd).2; have := (zB.all ne).1; have := (zB.all ne).2; have := bx_18.1; have := bx_18.2; have := bfe.1; have := bfe.2; have : (0 : Int32).toInt = 0 := (by decide); have : (1 : Int32).toInt = 1 := (by decide); have : (8 : Int32).toInt = 8 := (by decide); have : (20 : Int32).toInt = 20 := (by decide); have : (24 : Int32).toInt = 24 := (by decide); have : (600 : Int32).toInt = 600 := (by decide); have := by6_j23_5.1; have := by6_j23_5.2; omega) ls x_20 x_18 F_19 H locs (lv_sub hl [0, 2, 3, 4, 5, 6, 7] rfl) (bx_20.w ⟨by decide, by decide⟩) h ((hfF_6.trans hfF_17 (by decide)).trans hfF_19 (by decide)) kF_19 (bx_18.w ⟨by decide, by decide⟩) (by have := bx_20.1; have := bx_20.2; have := bw0_j76_10.1; have := bw0_j76_10.2; have := (zB.all na).1; have := (zB.all na).2; have := (zB.all nb).1; have := (zB.all nb).2; have := (zB.all nc).1; have := (zB.all nc).2; have := (zB.all nd).1; have := (zB.all nd).2; have := (zB.all ne).1; have := (zB.all ne).2; have := bx_18.1; have := bx_18.2; have := bfe.1; have := bfe.2; have : (0 : Int32).toInt = 0 := (by decide); have : (1 : Int32).toInt = 1 := (by decide); have : (8 : Int32).toInt = 8 := (by decide); have : (20 : Int32).toInt = 20 := (by decide); have : (24 : Int32).toInt = 24 := (by decide); have : (600 : Int32).toInt = 600 := (by decide); omega) (by have := bx_20.1; have := bx_20.2; have := bw0_j76_10.1; have := bw0_j76_10.2; have := (zB.all na).1; have := (zB.all na).2; have := (zB.all nb).1; have := (zB.all nb).2; have := (zB.all nc).1; have := (zB.all nc).2; have := (zB.all nd).1; have := (zB.all nd).2; have := (zB.all ne).1; have := (zB.all ne).2; have := bx_18.1; have := bx_18.2; have := bfe.1; have := bfe.2; have : (0 : Int32).toInt = 0 := (by decide); have : (1 : Int32).toInt = 1 := (by decide); have : (8 : Int32).toInt = 8 := (by decide); have : (20 : Int32).toInt = 20 := (by decide); have : (24 : Int32).toInt = 24 := (by decide); have : (600 : Int32).toInt = 600 := (by decide); omega) ((hfF_19.elf htp ⟨by decide, by decide⟩).trans (zfm_s (sh := x_13) r2_j23_5 eF_17 (by rw [ex_15, ex_14]) r0_j76_10 gF_17 (by have := bx_20.1; have := bx_20.2; have := bw0_j76_10.1; have := bw0_j76_10.2; have := (zB.all na).1; have := (zB.all na).2; have := (zB.all nb).1; have := (zB.all nb).2; have := (zB.all nc).1; have := (zB.all nc).2; have := (zB.all nd).1; have := (zB.all nd).2; have := (zB.all ne).1; have := (zB.all ne).2; have := bkt_j23_5_16.1; have := bkt_j23_5_16.2; have := by6_j23_5_9.1; have := by6_j23_5_9.2; have := bx_18.1; have := bx_18.2; have := bfe.1; have := bfe.2; have : (0 : Int32).toInt = 0 := (by decide); have : (1 : Int32).toInt = 1 := (by decide); have : (8 : Int32).toInt = 8 := (by decide); have : (20 : Int32).toInt = 20 := (by decide); have : (24 : Int32).toInt = 24 := (by decide); have : (600 : Int32).toInt = 600 := (by decide); omega) (by have := bx_20.1; have := bx_20.2; have := bw0_j76_10.1; have := bw0_j76_10.2; have := (zB.all na).1; have := (zB.all na).2; have := (zB.all nb).1; have := (zB.all nb).2; have := (zB.all nc).1; have := (zB.all nc).2; have := (zB.all nd).1; have := (zB.all nd).2; have := (zB.all ne).1; have := (zB.all ne).2; have := bkt_j23_5_16.1; have := bkt_j23_5_16.2; have := by6_j23_5_9.1; have := by6_j23_5_9.2; have := bx_18.1; have := bx_18.2; have := bfe.1; have := bfe.2; have : (0 : Int32).toInt = 0 := (by decide); have : (1 : Int32).toInt = 1 := (by decide); have : (8 : Int32).toInt = 8 := (by decide); have : (20 : Int32).toInt = 20 := (by decide); have : (24 : Int32).toInt = 24 := (by decide); have : (600 : Int32).toInt = 600 := (by decide); omega) (by have := bx_20.1; have := bx_20.2; have := bw0_j76_10.1; have := bw0_j76_10.2; have := (zB.all na).1; have := (zB.all na).2; have := (zB.all nb).1; have := (zB.all nb).2; have := (zB.all nc).1; have := (zB.all nc).2; have := (zB.all nd).1; have := (zB.all nd).2; have := (zB.all ne).1; have := (zB.all ne).2; have := bkt_j23_5_16.1; have := bkt_j23_5_16.2; have := by6_j23_5_9.1; have := by6_j23_5_9.2; have := bx_18.1; have := bx_18.2; have := bfe.1; have := bfe.2; have : (0 : Int32).toInt = 0 := (by decide); have : (1 : Int32).toInt = 1 := (by decide); have : (8 : Int32).toInt = 8 := (by decide); have : (20 : Int32).toInt = 20 := (by decide); have : (24 : Int32).toInt = 24 := (by decide); have : (600 : Int32).toInt = 600 := (by decide); omega) (by have := bx_20.1; have := bx_20.2; have := bw0_j76_10.1; have := bw0_j76_10.2; have := (zB.all na).1; have := (zB.all na).2; have := (zB.all nb).1; have := (zB.all nb).2; have := (zB.all nc).1; have := (zB.all nc).2; have := (zB.all nd).1; have := (zB.all nd).2; have := (zB.all ne).1; have := (zB.all ne).2; have := bkt_j23_5_16.1; have := bkt_j23_5_16.2; have := by6_j23_5_9.1; have := by6_j23_5_9.2; have := bx_18.1; have := bx_18.2; have := bfe.1; have := bfe.2; have : (0 : Int32).toInt = 0 := (by decide); have : (1 : Int32).toInt = 1 := (by decide); have : (8 : Int32).toInt = 8 := (by decide); have : (20 : Int32).toInt = 20 := (by decide); have : (24 : Int32).toInt = 24 := (by decide); have : (600 : Int32).toInt = 600 := (by decide); omega) (zsh (k := y6_j23_5) ⟨by have := bx_20.1; have := bx_20.2; have := bw0_j76_10.1; have := bw0_j76_10.2; have := (zB.all na).1; have := (zB.all na).2; have := (zB.all nb).1; have := (zB.all nb).2; have := (zB.all nc).1; have := (zB.all nc).2; have := (zB.all nd).1; have := (zB.all nd).2; have := (zB.all ne).1; have := (zB.all ne).2; have := bkt_j23_5_16.1; have := bkt_j23_5_16.2; have := by6_j23_5_9.1; have := by6_j23_5_9.2; have := bx_18.1; have := bx_18.2; have := bfe.1; have := bfe.2; have : (0 : Int32).toInt = 0 := (by decide); have : (1 : Int32).toInt = 1 := (by decide); have : (8 : Int32).toInt = 8 := (by decide); have : (20 : Int32).toInt = 20 := (by decide); have : (24 : Int32).toInt = 24 := (by decide); have : (600 : Int32).toInt = 600 := (by decide); omega, by have := bx_20.1; have := bx_20.2; have := bw0_j76_10.1; have := bw0_j76_10.2; have := (zB.all na).1; have := (zB.all na).2; have := (zB.all nb).1; have := (zB.all nb).2; have := (zB.all nc).1; have := (zB.all nc).2; have := (zB.all nd).1; have := (zB.all nd).2; have := (zB.all ne).1; have := (zB.all ne).2; have := bkt_j23_5_16.1; have := bkt_j23_5_16.2; have := by6_j23_5_9.1; have := by6_j23_5_9.2; have := bx_18.1; have := bx_18.2; have := bfe.1; have := bfe.2; have : (0 : Int32).toInt = 0 := (by decide); have : (1 : Int32).toInt = 1 := (by decide); have : (8 : Int32).toInt = 8 := (by decide); have : (20 : Int32).toInt = 20 := (by decide); have : (24 : Int32).toInt = 24 := (by decide); have : (600 : Int32).toInt = 600 := (by decide); omega⟩ ex_11 ex_12 ex_13))) rfl
          refine lv_iload hx hb dX14_feed_30 (lv_at hl 0 rfl) ?_
          refine lv_iconst (v := 4) hx hb dX14_feed_32 (by decide) ?_
          refine lv_icmp_ge (tgt := 40) hx hb dX14_feed_33 (by decide) (fun c_21 => ?_) (fun c_21 => ?_)
          · have c_21 := z_le c_21
            have by6_j23_5_22 : zB 4 19 y6_j23_5 := zB.leR c_21 (zBc 4 4 (by decide)) by6_j23_5_9 (by decide)
            refine lv_iload hx hb dX14_feed_40 (lv_at hl 0 rfl) ?_
            refine lv_bipush (v := 8) hx hb dX14_feed_42 (by decide) ?_
            refine lv_icmp_ge (tgt := 51) hx hb dX14_feed_44 (by decide) (fun c_23 => ?_) (fun c_23 => ?_)
            · have c_23 := z_le c_23
              have by6_j23_5_24 : zB 8 19 y6_j23_5 := zB.leR c_23 (zBc 8 8 (by decide)) by6_j23_5_22 (by decide)
              refine lv_iload hx hb dX14_feed_51 (lv_at hl 0 rfl) ?_
              refine lv_bipush (v := 12) hx hb dX14_feed_53 (by decide) ?_
              refine lv_icmp_ge (tgt := 62) hx hb dX14_feed_55 (by decide) (fun c_25 => ?_) (fun c_25 => ?_)
              · have c_25 := z_le c_25
                have by6_j23_5_26 : zB 12 19 y6_j23_5 := zB.leR c_25 (zBc 12 12 (by decide)) by6_j23_5_24 (by decide)
                refine lv_iload hx hb dX14_feed_62 (lv_at hl 0 rfl) ?_
                refine lv_bipush (v := 16) hx hb dX14_feed_64 (by decide) ?_
                refine lv_icmp_ge (tgt := 74) hx hb dX14_feed_66 (by decide) (fun c_27 => ?_) (fun c_27 => ?_)
                · have c_27 := z_le c_27
                  have by6_j23_5_28 : zB 16 19 y6_j23_5 := zB.leR c_27 (zBc 16 16 (by decide)) by6_j23_5_26 (by decide)
                  refine lv_iload hx hb dX14_feed_74 (lv_at hl 6 rfl) ?_
                  exact j_j76_10 ls ne (lv_sub hl [0, 1, 2, 3, 4, 5, 6] rfl) (zB.all ne) (zpk_e (by have := by6_j23_5_28.1; have := by6_j23_5_28.2; have := (zB.all na).1; have := (zB.all na).2; have := (zB.all nb).1; have := (zB.all nb).2; have := (zB.all nc).1; have := (zB.all nc).2; have := (zB.all nd).1; have := (zB.all nd).2; have := (zB.all ne).1; have := (zB.all ne).2; have := bkt_j23_5.1; have := bkt_j23_5.2; have := bfe.1; have := bfe.2; have : (0 : Int32).toInt = 0 := (by decide); have : (4 : Int32).toInt = 4 := (by decide); have : (8 : Int32).toInt = 8 := (by decide); have : (12 : Int32).toInt = 12 := (by decide); have : (16 : Int32).toInt = 16 := (by decide); have : (20 : Int32).toInt = 20 := (by decide); have : (600 : Int32).toInt = 600 := (by decide); omega)).symm
                · have c_27 := z_nle c_27
                  have by6_j23_5_29 : zB 12 15 y6_j23_5 := zB.ltL c_27 by6_j23_5_26 (zBc 16 16 (by decide)) (by decide)
                  refine lv_iload hx hb dX14_feed_69 (lv_at hl 5 rfl) ?_
                  refine lv_goto (tgt := 76) hx hb dX14_feed_71 (by decide) ?_
                  exact j_j76_10 ls nd (lv_sub hl [0, 1, 2, 3, 4, 5, 6] rfl) (zB.all nd) (zpk_d ⟨by have := by6_j23_5_29.1; have := by6_j23_5_29.2; have := (zB.all na).1; have := (zB.all na).2; have := (zB.all nb).1; have := (zB.all nb).2; have := (zB.all nc).1; have := (zB.all nc).2; have := (zB.all nd).1; have := (zB.all nd).2; have := (zB.all ne).1; have := (zB.all ne).2; have := bkt_j23_5.1; have := bkt_j23_5.2; have := bfe.1; have := bfe.2; have : (0 : Int32).toInt = 0 := (by decide); have : (4 : Int32).toInt = 4 := (by decide); have : (8 : Int32).toInt = 8 := (by decide); have : (12 : Int32).toInt = 12 := (by decide); have : (16 : Int32).toInt = 16 := (by decide); have : (20 : Int32).toInt = 20 := (by decide); have : (600 : Int32).toInt = 600 := (by decide); omega, by have := by6_j23_5_29.1; have := by6_j23_5_29.2; have := (zB.all na).1; have := (zB.all na).2; have := (zB.all nb).1; have := (zB.all nb).2; have := (zB.all nc).1; have := (zB.all nc).2; have := (zB.all nd).1; have := (zB.all nd).2; have := (zB.all ne).1; have := (zB.all ne).2; have := bkt_j23_5.1; have := bkt_j23_5.2; have := bfe.1; have := bfe.2; have : (0 : Int32).toInt = 0 := (by decide); have : (4 : Int32).toInt = 4 := (by decide); have : (8 : Int32).toInt = 8 := (by decide); have : (12 : Int32).toInt = 12 := (by decide); have : (16 : Int32).toInt = 16 := (by decide); have : (20 : Int32).toInt = 20 := (by decide); have : (600 : Int32).toInt = 600 := (by decide); omega⟩).symm
              · have c_25 := z_nle c_25
                have by6_j23_5_30 : zB 8 11 y6_j23_5 := zB.ltL c_25 by6_j23_5_24 (zBc 12 12 (by decide)) (by decide)
                refine lv_iload_n hx hb dX14_feed_58 rfl (lv_at hl 4 rfl) ?_
                refine lv_goto (tgt := 76) hx hb dX14_feed_59 (by decide) ?_
                exact j_j76_10 ls nc (lv_sub hl [0, 1, 2, 3, 4, 5, 6] rfl) (zB.all nc) (zpk_c ⟨by have := by6_j23_5_30.1; have := by6_j23_5_30.2; have := (zB.all na).1; have := (zB.all na).2; have := (zB.all nb).1; have := (zB.all nb).2; have := (zB.all nc).1; have := (zB.all nc).2; have := (zB.all nd).1; have := (zB.all nd).2; have := (zB.all ne).1; have := (zB.all ne).2; have := bkt_j23_5.1; have := bkt_j23_5.2; have := bfe.1; have := bfe.2; have : (0 : Int32).toInt = 0 := (by decide); have : (4 : Int32).toInt = 4 := (by decide); have : (8 : Int32).toInt = 8 := (by decide); have : (12 : Int32).toInt = 12 := (by decide); have : (20 : Int32).toInt = 20 := (by decide); have : (600 : Int32).toInt = 600 := (by decide); omega, by have := by6_j23_5_30.1; have := by6_j23_5_30.2; have := (zB.all na).1; have := (zB.all na).2; have := (zB.all nb).1; have := (zB.all nb).2; have := (zB.all nc).1; have := (zB.all nc).2; have := (zB.all nd).1; have := (zB.all nd).2; have := (zB.all ne).1; have := (zB.all ne).2; have := bkt_j23_5.1; have := bkt_j23_5.2; have := bfe.1; have := bfe.2; have : (0 : Int32).toInt = 0 := (by decide); have : (4 : Int32).toInt = 4 := (by decide); have : (8 : Int32).toInt = 8 := (by decide); have : (12 : Int32).toInt = 12 := (by decide); have : (20 : Int32).toInt = 20 := (by decide); have : (600 : Int32).toInt = 600 := (by decide); omega⟩).symm
            · have c_23 := z_nle c_23
              have by6_j23_5_31 : zB 4 7 y6_j23_5 := zB.ltL c_23 by6_j23_5_22 (zBc 8 8 (by decide)) (by decide)
              refine lv_iload_n hx hb dX14_feed_47 rfl (lv_at hl 3 rfl) ?_
              refine lv_goto (tgt := 76) hx hb dX14_feed_48 (by decide) ?_
              exact j_j76_10 ls nb (lv_sub hl [0, 1, 2, 3, 4, 5, 6] rfl) (zB.all nb) (zpk_b ⟨by have := by6_j23_5_31.1; have := by6_j23_5_31.2; have := (zB.all na).1; have := (zB.all na).2; have := (zB.all nb).1; have := (zB.all nb).2; have := (zB.all nc).1; have := (zB.all nc).2; have := (zB.all nd).1; have := (zB.all nd).2; have := (zB.all ne).1; have := (zB.all ne).2; have := bkt_j23_5.1; have := bkt_j23_5.2; have := bfe.1; have := bfe.2; have : (0 : Int32).toInt = 0 := (by decide); have : (4 : Int32).toInt = 4 := (by decide); have : (8 : Int32).toInt = 8 := (by decide); have : (20 : Int32).toInt = 20 := (by decide); have : (600 : Int32).toInt = 600 := (by decide); omega, by have := by6_j23_5_31.1; have := by6_j23_5_31.2; have := (zB.all na).1; have := (zB.all na).2; have := (zB.all nb).1; have := (zB.all nb).2; have := (zB.all nc).1; have := (zB.all nc).2; have := (zB.all nd).1; have := (zB.all nd).2; have := (zB.all ne).1; have := (zB.all ne).2; have := bkt_j23_5.1; have := bkt_j23_5.2; have := bfe.1; have := bfe.2; have : (0 : Int32).toInt = 0 := (by decide); have : (4 : Int32).toInt = 4 := (by decide); have : (8 : Int32).toInt = 8 := (by decide); have : (20 : Int32).toInt = 20 := (by decide); have : (600 : Int32).toInt = 600 := (by decide); omega⟩).symm
          · have c_21 := z_nle c_21
            have by6_j23_5_32 : zB 0 3 y6_j23_5 := zB.ltL c_21 by6_j23_5_9 (zBc 4 4 (by decide)) (by decide)
            refine lv_iload_n hx hb dX14_feed_36 rfl (lv_at hl 2 rfl) ?_
            refine lv_goto (tgt := 76) hx hb dX14_feed_37 (by decide) ?_
            exact j_j76_10 ls na (lv_sub hl [0, 1, 2, 3, 4, 5, 6] rfl) (zB.all na) (zpk_a (by have := by6_j23_5_32.1; have := by6_j23_5_32.2; have := (zB.all na).1; have := (zB.all na).2; have := (zB.all nb).1; have := (zB.all nb).2; have := (zB.all nc).1; have := (zB.all nc).2; have := (zB.all nd).1; have := (zB.all nd).2; have := (zB.all ne).1; have := (zB.all ne).2; have := bkt_j23_5.1; have := bkt_j23_5.2; have := bfe.1; have := bfe.2; have : (0 : Int32).toInt = 0 := (by decide); have : (4 : Int32).toInt = 4 := (by decide); have : (20 : Int32).toInt = 20 := (by decide); have : (600 : Int32).toInt = 600 := (by decide); omega)).symm
    exact j_j23_5 _ ls 0 fe F_1 H locs (lv_sub hl [0, 1, 2, 3, 4, 5, 6] rfl) (zB.of ⟨by decide, by decide⟩) h zFr.rf (hfF_1.f hth 11 ⟨by decide, by decide⟩ kfe) bfe (by have := (zB.all na).1; have := (zB.all na).2; have := (zB.all nb).1; have := (zB.all nb).2; have := (zB.all nc).1; have := (zB.all nc).2; have := (zB.all nd).1; have := (zB.all nd).2; have := (zB.all ne).1; have := (zB.all ne).2; have := bfe.1; have := bfe.2; have : (0 : Int32).toInt = 0 := (by decide); have : (20 : Int32).toInt = 20 := (by decide); have : (600 : Int32).toInt = 600 := (by decide); omega) (by have := (zB.all na).1; have := (zB.all na).2; have := (zB.all nb).1; have := (zB.all nb).2; have := (zB.all nc).1; have := (zB.all nc).2; have := (zB.all nd).1; have := (zB.all nd).2; have := (zB.all ne).1; have := (zB.all ne).2; have := bfe.1; have := bfe.2; have : (0 : Int32).toInt = 0 := (by decide); have : (20 : Int32).toInt = 20 := (by decide); have : (600 : Int32).toInt = 600 := (by decide); omega) ((((hfF_1.w (by decide)) : zFr Γ [1400, 1411] F F_1).elf htp (by decide)).trans (zfm_0 (by decide)).symm) rfl
  · have c_3 := z_nle c_3
    have bx_2_33 : zB 601 620 x_2 := zB.ltR c_3 (zBc 600 600 (by decide)) bx_2 (by decide)
    refine lv_iconst (v := (-1)) hx hb dX14_feed_18 (by decide) ?_
    subst hQ
    exact W.iret (v := (-1)) hx hb hr (fun t ht hW => ⟨⟨(-1), F_1, rfl, ⟨⟨fe, (hfF_1.f hth 11 ⟨by decide, by decide⟩ kfe), bfe, (by have := (zB.all na).1; have := (zB.all na).2; have := (zB.all nb).1; have := (zB.all nb).2; have := (zB.all nc).1; have := (zB.all nc).2; have := (zB.all nd).1; have := (zB.all nd).2; have := (zB.all ne).1; have := (zB.all ne).2; have := bfe.1; have := bfe.2; have : ((-1) : Int32).toInt = (-1) := (by decide); have : (0 : Int32).toInt = 0 := (by decide); have : (20 : Int32).toInt = 20 := (by decide); have : (600 : Int32).toInt = 600 := (by decide); omega)⟩, ⟨fun h9 => by exfalso; have := (zB.all na).1; have := (zB.all na).2; have := (zB.all nb).1; have := (zB.all nb).2; have := (zB.all nc).1; have := (zB.all nc).2; have := (zB.all nd).1; have := (zB.all nd).2; have := (zB.all ne).1; have := (zB.all ne).2; have := bfe.1; have := bfe.2; have : ((-1) : Int32).toInt = (-1) := (by decide); have : (0 : Int32).toInt = 0 := (by decide); have : (20 : Int32).toInt = 20 := (by decide); have : (600 : Int32).toInt = 600 := (by decide); omega, fun _ => (((hfF_1.w (by decide)) : zFr Γ [1400, 1411] F F_1).elf htp (by decide))⟩, trivial⟩, by rw [ht]; exact h.1, h.2.1, (hfF_1.w (by decide))⟩, h.2.2.F ht⟩) h.2.2.2.2 dX14_feed_19

set_option maxHeartbeats 4000000 in
set_option maxRecDepth 100000 in
theorem zc_X14_run (l : Launch) (D : va_G) (k : Nat → ClassId) (Γ : Nat → Option Nat) (L : List Nat) (F : Nat → va_E) (sz : Nat) (th : Nat) (f_ : Int32) (x : Int32) (y : Int32) (z : Int32) (fv : Int32) (st : Nat) (pr : Nat) (wk : Nat) (lt : Nat) (hth : Γ th = some 14) (kst : zfld F th 9 = .ref st) (hst : Γ st = some 13) (kpr : zfld F th 4 = .ref pr) (hpr : Γ pr = some 11) (kwk : zfld F th 23 = .ref wk) (hwk : Γ wk = some 12) (p_mi : zMI Γ F th pr) (klt : zfld F th 22 = .ref lt) (hlt : Γ lt = some 12) : Met l yX14_run zwX14_run ({ frames := 87, cells := 0, slots := 0, locals := 3453 }) (va_Pc [.ref th, .int f_, .int x, .int y, .int z, .int fv] (zP D k Γ L F sz)) (va_Qi (fun (r : Int32) (u : Nat → va_E) => True) (zQ D k Γ L F [1200, 1201, 1202, 1203, 1204, 1205, 1206, 1306, 1307, 1400, 1401, 1402, 1422, 1423, 1424, 1426, 1427, 1428, 1429, 15000, 16500, 16600, 16700]) (zA L sz)) 0 0 (zA L sz) := by
  refine Met.ofW (cc := cX14_run) (maxL := 7) (ret := (some .int)) (by decide) rfl ?_
  intro p e s m args below meth c s₁ B hml hv
  obtain ⟨rfl, hsz, hP, hK, hLn, hE, hI⟩ := hv
  have hx := B.exec
  have hb := B.bytes
  have hr := B.returns
  have hg : ∀ w ∈ zG, w.before _ s = true := fun w h9 => atoms_spec (ws := zwX14_run) B.pre w (List.mem_cons_of_mem _ h9)
  have hown : s.vm.findClass RX14 = some m.cls := findClass_of_methodNamed B.named
  have hlocks := B.notSynchronized
  subst hsz
  have Z : zC p m c cX14_run 7 s _ zG RX14 D k L := ⟨⟨hx, hb, hml, hown, hg⟩, hK, hLn, hE⟩
  have h : zH D k Γ L s F s.heap [] := ⟨hP, hI, va_S.rf⟩
  have hl := lv_entry ([.ref th, .int f_, .int x, .int y, .int z, .int fv]) (n := 7) (Nat.le_of_ble_eq_true rfl)
  rw [lg_entry_eq]
  generalize (lg_sl ([.ref th, .int f_, .int x, .int y, .int z, .int fv]) ++ List.replicate (7 - (lg_sl ([.ref th, .int f_, .int x, .int y, .int z, .int fv])).length) Slot.unset).toArray = ls at hl ⊢
  have hl : lv_has ls 7 [(0, .ref th), (1, .int f_), (2, .int x), (3, .int y), (4, .int z), (5, .int fv)] := hl
  clear hP hK hLn hE hI
  generalize hargs : ([.ref th, .int f_, .int x, .int y, .int z, .int fv] : List Value).toArray = args at *
  refine z_start (fun R Q hRf hRl hQ => ?_)
  have hRf : R.frames = 87 := hRf
  have hRl : R.locals = 3453 := hRl
  have h9 := h
  refine lv_aload_n hx hb dX14_run_0 rfl (lv_at hl 0 rfl) ?_
  refine lv_iconst (v := 0) hx hb dX14_run_1 (by decide) ?_
  refine zt_put (t := 14) (C := RX14) (T := TX14) (N := 40) (v := .int 0) Z h hth zin_14 tyX14 tyX14_ok nmX14 rfl 0 rfl ⟨by decide, rfl⟩ (zm_RX14 (List.mem_of_getElem? (i := 105) rfl)) (fun _ h9 => h9) rfl (zV.i (zB.of ⟨by decide, by decide⟩)) rfl rfl dX14_run_2 (fun H locs F_1 h hfF_1 kF_1 => ?_)
  refine lv_aload_n hx hb dX14_run_5 rfl (lv_at hl 0 rfl) ?_
  refine lv_iload_n hx hb dX14_run_6 rfl (lv_at hl 1 rfl) ?_
  obtain ⟨x_2, kx_2, bx_2⟩ := z_learn (j := 7) (lo := 0) (hi := 1) h hth (by decide) rfl
  obtain ⟨x_3, kx_3, bx_3⟩ := z_learn (j := 0) (lo := 0) (hi := 10) h hpr (by decide) rfl
  refine zk_Vi (As := [.int f_]) (rest := []) (bytes := cX14_isFunction) (maxL := 2) (ret := (some .boolean)) Z h (zc_X14_isFunction l D k Γ L F_1 H.size th f_ pr x_2 x_3 hth (hfF_1.f hth 4 ⟨by decide, by decide⟩ kpr) hpr kx_2 bx_2 kx_3 bx_3) (cwV 1 hg zv_RX14_336 rfl rfl rfl zd_X14_isFunction ⟨z_leR hRf (by decide), z_leR hRl (by decide)⟩) hth (by decide) rfl rfl hl.1 rfl (Nat.le_of_ble_eq_true rfl) dX14_run_7 ⟨Nat.zero_le _, Nat.zero_le _⟩ (fun r_4 F_5 H locs w_6 h hfF_5 => ?_)
  obtain ⟨rfl, br_4, q_7, q_8, q_9, q_10, -⟩ := w_6
  refine lv_if_ne (tgt := 19) hx hb dX14_run_10 (by decide) (fun c_11 => ?_) (fun c_11 => ?_)
  · have q_12 := q_7 c_11
    have bf__13 : zB 0 9 f_ := q_9 c_11
    obtain ⟨⟨x_14, kx_14, hx_14⟩, x_15, kx_15, hx_15⟩ := q_10 c_11
    have bx_14 := zB.all x_14
    have bx_15 : zB 0 10 x_15 := by obtain ⟨x9, k9, b9⟩ := z_learn (j := 0) (lo := 0) (hi := 10) h hpr (by decide) rfl; rw [z_vi kx_15 k9]; exact b9
    have p_16 := (p_mi.fr hfF_1 hth (by decide))
    have wf_17 := zMI.wf p_16 kx_14 hx_14
    have c_11 := z_ne c_11
    have br_4_18 : zB 1 1 r_4 := zB.neLo c_11 br_4 (zBc 0 0 (by decide)) (by decide)
    refine lv_iload hx hb dX14_run_19 (lv_at hl 5 rfl) ?_
    refine lv_iconst (v := 1) hx hb dX14_run_21 (by decide) ?_
    refine lv_sipush (v := 2000) hx hb dX14_run_22 (by decide) ?_
    refine zk_Si (As := [.int fv, .int 1, .int 2000]) (rest := []) (bytes := cX14_in) (maxL := 3) (ret := (some .boolean)) Z h (zc_X14_in l D k Γ L F_1 H.size fv 1 2000) (va_cwS 3 hg zv_RX14_407 rfl rfl rfl zd_X14_in ⟨z_leR hRf (by decide), z_leR hRl (by decide)⟩) rfl hl.1 rfl (Nat.le_of_ble_eq_true rfl) dX14_run_25 ⟨Nat.zero_le _, Nat.zero_le _⟩ (fun r_19 F_20 H locs w_21 h hfF_20 => ?_)
    obtain ⟨rfl, br_19, q_22, -⟩ := w_21
    refine lv_if_ne (tgt := 37) hx hb dX14_run_28 (by decide) (fun c_23 => ?_) (fun c_23 => ?_)
    · have q_24 := q_22 c_23
      have bfv_q_24 : zB 1 2000 fv := ⟨by have := bf__13.1; have := bf__13.2; have := (zB.all x).1; have := (zB.all x).2; have := (zB.all y).1; have := (zB.all y).2; have := (zB.all z).1; have := (zB.all z).2; have := (zB.all fv).1; have := (zB.all fv).2; have := bx_14.1; have := bx_14.2; have := bx_15.1; have := bx_15.2; have : (0 : Int32).toInt = 0 := (by decide); have : (1 : Int32).toInt = 1 := (by decide); have : (2000 : Int32).toInt = 2000 := (by decide); omega, by have := bf__13.1; have := bf__13.2; have := (zB.all x).1; have := (zB.all x).2; have := (zB.all y).1; have := (zB.all y).2; have := (zB.all z).1; have := (zB.all z).2; have := (zB.all fv).1; have := (zB.all fv).2; have := bx_14.1; have := bx_14.2; have := bx_15.1; have := bx_15.2; have : (0 : Int32).toInt = 0 := (by decide); have : (1 : Int32).toInt = 1 := (by decide); have : (2000 : Int32).toInt = 2000 := (by decide); omega⟩
      have c_23 := z_ne c_23
      have br_19_25 : zB 1 1 r_19 := zB.neLo c_23 br_19 (zBc 0 0 (by decide)) (by decide)
      refine lv_aload_n hx hb dX14_run_37 rfl (lv_at hl 0 rfl) ?_
      refine lv_iload_n hx hb dX14_run_38 rfl (lv_at hl 1 rfl) ?_
      refine lv_iload_n hx hb dX14_run_39 rfl (lv_at hl 2 rfl) ?_
      refine lv_iload_n hx hb dX14_run_40 rfl (lv_at hl 3 rfl) ?_
      refine lv_iload hx hb dX14_run_41 (lv_at hl 4 rfl) ?_
      refine lv_iload hx hb dX14_run_43 (lv_at hl 5 rfl) ?_
      refine lv_iconst (v := (-1)) hx hb dX14_run_45 (by decide) ?_
      obtain ⟨x_26, kx_26, bx_26⟩ := z_learn (j := 1) (lo := 0) (hi := 60) h hpr (by decide) rfl
      obtain ⟨x_27, kx_27, bx_27⟩ := z_learn (j := 2) (lo := 0) (hi := 620) h hpr (by decide) rfl
      refine zk_VHv (hh := [(108, 120, 123, 26)]) (As := [.int f_, .int x, .int y, .int z, .int fv, .int (-1)]) (rest := []) (bytes := cX14_runs) (maxL := 8) (ret := none) Z h (zc_X14_runs l D k Γ L F_1 H.size th f_ x y z fv (-1) st pr x_15 x_26 x_27 wk hth bf__13 bfv_q_24 (hfF_1.f hth 9 ⟨by decide, by decide⟩ kst) hst (hfF_1.f hth 4 ⟨by decide, by decide⟩ kpr) hpr kx_15 bx_15 kx_26 bx_26 kx_27 bx_27 wf_17 (hfF_1.f hth 23 ⟨by decide, by decide⟩ kwk) hwk (by have := bf__13.1; have := bf__13.2; have := (zB.all x).1; have := (zB.all x).2; have := (zB.all y).1; have := (zB.all y).2; have := (zB.all z).1; have := (zB.all z).2; have := bfv_q_24.1; have := bfv_q_24.2; have := bx_15.1; have := bx_15.2; have := bx_26.1; have := bx_26.2; have := bx_27.1; have := bx_27.2; have := bx_14.1; have := bx_14.2; have : ((-1) : Int32).toInt = (-1) := (by decide); have : (0 : Int32).toInt = 0 := (by decide); omega)) (vx_cwVW 6 hg zv_RX14_411 rfl rfl rfl zd_X14_runs ⟨z_leR hRf (by decide), z_leR hRl (by decide)⟩) hth (by decide) rfl rfl hl.1 rfl (Nat.le_of_ble_eq_true rfl) dX14_run_46 ⟨Nat.zero_le _, Nat.zero_le _⟩ (fun F_28 H locs w_29 h hfF_28 => ?_)
      refine lv_aload_n hx hb dX14_run_49 rfl (lv_at hl 0 rfl) ?_
      refine zt_getk (t := 14) (C := RX14) (T := TX14) (N := 40) Z h hth zin_14 rfl 22 (hfF_28.f hth 22 ⟨by decide, by decide⟩ (hfF_1.f hth 22 ⟨by decide, by decide⟩ klt)) ⟨by decide, rfl, by decide⟩ (zm_RX14 (List.mem_of_getElem? (i := 183) rfl)) (fun _ h9 => h9) dX14_run_50 ?_
      refine lv_astore (lv' := [(6, .ref lt), (0, .ref th), (1, .int f_), (2, .int x), (3, .int y), (4, .int z), (5, .int fv)]) hx hb dX14_run_53 hl (by decide) rfl (fun ls hl => ?_)
      refine lv_aload_n hx hb dX14_run_55 rfl (lv_at hl 1 rfl) ?_
      refine lv_aload_n hx hb dX14_run_56 rfl (lv_at hl 1 rfl) ?_
      refine zt_getk (t := 14) (C := RX14) (T := TX14) (N := 40) Z h hth zin_14 rfl 23 (hfF_28.f hth 23 ⟨by decide, by decide⟩ (hfF_1.f hth 23 ⟨by decide, by decide⟩ kwk)) ⟨by decide, rfl, by decide⟩ (zm_RX14 (List.mem_of_getElem? (i := 145) rfl)) (fun _ h9 => h9) dX14_run_57 ?_
      refine zt_put (t := 14) (C := RX14) (T := TX14) (N := 40) (v := .ref wk) Z h hth zin_14 tyX14 tyX14_ok nmX14 rfl 22 rfl ⟨by decide, rfl⟩ (zm_RX14 (List.mem_of_getElem? (i := 183) rfl)) (fun _ h9 => h9) rfl trivial rfl rfl dX14_run_60 (fun H locs F_30 h hfF_30 kF_30 => ?_)
      refine lv_aload_n hx hb dX14_run_63 rfl (lv_at hl 1 rfl) ?_
      refine lv_aload hx hb dX14_run_64 (lv_at hl 0 rfl) ?_
      refine zt_put (t := 14) (C := RX14) (T := TX14) (N := 40) (v := .ref lt) Z h hth zin_14 tyX14 tyX14_ok nmX14 rfl 23 rfl ⟨by decide, rfl⟩ (zm_RX14 (List.mem_of_getElem? (i := 145) rfl)) (fun _ h9 => h9) rfl trivial rfl rfl dX14_run_66 (fun H locs F_31 h hfF_31 kF_31 => ?_)
      refine lv_aload_n hx hb dX14_run_69 rfl (lv_at hl 1 rfl) ?_
      refine lv_iconst (v := 1) hx hb dX14_run_70 (by decide) ?_
      refine zt_put (t := 14) (C := RX14) (T := TX14) (N := 40) (v := .int 1) Z h hth zin_14 tyX14 tyX14_ok nmX14 rfl 24 rfl ⟨by decide, rfl⟩ (zm_RX14 (List.mem_of_getElem? (i := 124) rfl)) (fun _ h9 => h9) rfl (zV.i (zB.of ⟨by decide, by decide⟩)) rfl rfl dX14_run_71 (fun H locs F_32 h hfF_32 kF_32 => ?_)
      refine lv_aload_n hx hb dX14_run_74 rfl (lv_at hl 1 rfl) ?_
      refine lv_aload_n hx hb dX14_run_75 rfl (lv_at hl 1 rfl) ?_
      refine zt_getk (t := 14) (C := RX14) (T := TX14) (N := 40) Z h hth zin_14 rfl 22 (hfF_32.f hth 22 ⟨by decide, by decide⟩ (hfF_31.f hth 22 ⟨by decide, by decide⟩ kF_30)) ⟨by decide, rfl, by decide⟩ (zm_RX14 (List.mem_of_getElem? (i := 183) rfl)) (fun _ h9 => h9) dX14_run_76 ?_
      refine zt_getiN (t := 12) (C := RX12) (T := TX12) (N := 10) Z h hwk zin_12 rfl 0 rfl ⟨by decide, rfl⟩ (zn_32 Z) (fun _ h9 => h9) dX14_run_79 (fun x_33 kx_33 bx_33 => ?_)
      refine zk_Vi (As := [.int x_33]) (rest := []) (bytes := cX14_done) (maxL := 2) (ret := (some .int)) Z h (zc_X14_done l D k Γ L F_32 H.size th x_33 hth) (cwV 1 hg zv_RX14_333 rfl rfl rfl zd_X14_done ⟨z_leR hRf (by decide), z_leR hRl (by decide)⟩) hth (by decide) rfl rfl hl.1 rfl (Nat.le_of_ble_eq_true rfl) dX14_run_82 ⟨Nat.zero_le _, Nat.zero_le _⟩ (fun r_34 F_35 H locs w_36 h hfF_35 => ?_)
      obtain ⟨q_37, -⟩ := w_36
      have br_34 := zB.all r_34
      subst hQ
      exact W.iret (v := r_34) hx hb hr (fun t ht hW => ⟨⟨r_34, F_35, rfl, trivial, by rw [ht]; exact h.1, h.2.1, ((((((hfF_1.w (by decide)).trans hfF_28 (by decide)).trans hfF_30 (by decide)).trans hfF_31 (by decide)).trans hfF_32 (by decide)).trans hfF_35 (by decide))⟩, h.2.2.F ht⟩) h.2.2.2.2 dX14_run_85
    · have c_23 := z_eq c_23
      have br_19_38 : zB 0 0 r_19 := zB.eqL (a := 0) (b := 0) c_23 (zBc 0 0 (by decide))
      refine lv_aload_n hx hb dX14_run_31 rfl (lv_at hl 0 rfl) ?_
      refine lv_iconst (v := 2) hx hb dX14_run_32 (by decide) ?_
      refine zk_Vi (As := [.int 2]) (rest := []) (bytes := cX14_refused) (maxL := 2) (ret := (some .int)) Z h (zc_X14_refused l D k Γ L F_1 H.size th 2 hth) (cwV 1 hg zv_RX14_307 rfl rfl rfl zd_X14_refused ⟨z_leR hRf (by decide), z_leR hRl (by decide)⟩) hth (by decide) rfl rfl hl.1 rfl (Nat.le_of_ble_eq_true rfl) dX14_run_33 ⟨Nat.zero_le _, Nat.zero_le _⟩ (fun r_39 F_40 H locs w_41 h hfF_40 => ?_)
      obtain ⟨br_39, -⟩ := w_41
      subst hQ
      exact W.iret (v := r_39) hx hb hr (fun t ht hW => ⟨⟨r_39, F_40, rfl, trivial, by rw [ht]; exact h.1, h.2.1, ((hfF_1.w (by decide)).trans hfF_40 (by decide))⟩, h.2.2.F ht⟩) h.2.2.2.2 dX14_run_36
  · have q_42 := q_8 c_11
    have c_11 := z_eq c_11
    have br_4_43 : zB 0 0 r_4 := zB.eqL (a := 0) (b := 0) c_11 (zBc 0 0 (by decide))
    refine lv_aload_n hx hb dX14_run_13 rfl (lv_at hl 0 rfl) ?_
    refine lv_iconst (v := 1) hx hb dX14_run_14 (by decide) ?_
    refine zk_Vi (As := [.int 1]) (rest := []) (bytes := cX14_refused) (maxL := 2) (ret := (some .int)) Z h (zc_X14_refused l D k Γ L F_1 H.size th 1 hth) (cwV 1 hg zv_RX14_307 rfl rfl rfl zd_X14_refused ⟨z_leR hRf (by decide), z_leR hRl (by decide)⟩) hth (by decide) rfl rfl hl.1 rfl (Nat.le_of_ble_eq_true rfl) dX14_run_15 ⟨Nat.zero_le _, Nat.zero_le _⟩ (fun r_44 F_45 H locs w_46 h hfF_45 => ?_)
    obtain ⟨br_44, -⟩ := w_46
    subst hQ
    exact W.iret (v := r_44) hx hb hr (fun t ht hW => ⟨⟨r_44, F_45, rfl, trivial, by rw [ht]; exact h.1, h.2.1, ((hfF_1.w (by decide)).trans hfF_45 (by decide))⟩, h.2.2.F ht⟩) h.2.2.2.2 dX14_run_18

set_option maxHeartbeats 4000000 in
set_option maxRecDepth 100000 in
theorem zc_X14_wrong (l : Launch) (D : va_G) (k : Nat → ClassId) (Γ : Nat → Option Nat) (L : List Nat) (F : Nat → va_E) (sz : Nat) (th : Nat) (ru : Int32) (f_ : Int32) (x : Int32) (y : Int32) (z : Int32) (st : Nat) (pr : Nat) (wk : Nat) (hth : Γ th = some 14) (kst : zfld F th 9 = .ref st) (hst : Γ st = some 13) (kpr : zfld F th 4 = .ref pr) (hpr : Γ pr = some 11) (kwk : zfld F th 23 = .ref wk) (hwk : Γ wk = some 12) (p_mi : zMI Γ F th pr) : Met l yX14_wrong zwX14_wrong ({ frames := 87, cells := 0, slots := 0, locals := 3453 }) (va_Pc [.ref th, .int ru, .int f_, .int x, .int y, .int z] (zP D k Γ L F sz)) (va_Qi (fun (r : Int32) (u : Nat → va_E) => True) (zQ D k Γ L F [1200, 1201, 1202, 1203, 1204, 1205, 1206, 1306, 1307, 1400, 1401, 1402, 1426, 1427, 1428, 1429, 15000, 16500, 16600, 16700]) (zA L sz)) 0 0 (zA L sz) := by
  refine Met.ofW (cc := cX14_wrong) (maxL := 6) (ret := (some .int)) (by decide) rfl ?_
  intro p e s m args below meth c s₁ B hml hv
  obtain ⟨rfl, hsz, hP, hK, hLn, hE, hI⟩ := hv
  have hx := B.exec
  have hb := B.bytes
  have hr := B.returns
  have hg : ∀ w ∈ zG, w.before _ s = true := fun w h9 => atoms_spec (ws := zwX14_wrong) B.pre w (List.mem_cons_of_mem _ h9)
  have hown : s.vm.findClass RX14 = some m.cls := findClass_of_methodNamed B.named
  have hlocks := B.notSynchronized
  subst hsz
  have Z : zC p m c cX14_wrong 6 s _ zG RX14 D k L := ⟨⟨hx, hb, hml, hown, hg⟩, hK, hLn, hE⟩
  have h : zH D k Γ L s F s.heap [] := ⟨hP, hI, va_S.rf⟩
  have hl := lv_entry ([.ref th, .int ru, .int f_, .int x, .int y, .int z]) (n := 6) (Nat.le_of_ble_eq_true rfl)
  rw [lg_entry_eq]
  generalize (lg_sl ([.ref th, .int ru, .int f_, .int x, .int y, .int z]) ++ List.replicate (6 - (lg_sl ([.ref th, .int ru, .int f_, .int x, .int y, .int z])).length) Slot.unset).toArray = ls at hl ⊢
  have hl : lv_has ls 6 [(0, .ref th), (1, .int ru), (2, .int f_), (3, .int x), (4, .int y), (5, .int z)] := hl
  clear hP hK hLn hE hI
  generalize hargs : ([.ref th, .int ru, .int f_, .int x, .int y, .int z] : List Value).toArray = args at *
  refine z_start (fun R Q hRf hRl hQ => ?_)
  have hRf : R.frames = 87 := hRf
  have hRl : R.locals = 3453 := hRl
  have h9 := h
  refine lv_aload_n hx hb dX14_wrong_0 rfl (lv_at hl 0 rfl) ?_
  refine lv_iconst (v := 0) hx hb dX14_wrong_1 (by decide) ?_
  refine zt_put (t := 14) (C := RX14) (T := TX14) (N := 40) (v := .int 0) Z h hth zin_14 tyX14 tyX14_ok nmX14 rfl 0 rfl ⟨by decide, rfl⟩ (zm_RX14 (List.mem_of_getElem? (i := 105) rfl)) (fun _ h9 => h9) rfl (zV.i (zB.of ⟨by decide, by decide⟩)) rfl rfl dX14_wrong_2 (fun H locs F_1 h hfF_1 kF_1 => ?_)
  refine lv_aload_n hx hb dX14_wrong_5 rfl (lv_at hl 0 rfl) ?_
  refine lv_iload_n hx hb dX14_wrong_6 rfl (lv_at hl 2 rfl) ?_
  obtain ⟨x_2, kx_2, bx_2⟩ := z_learn (j := 7) (lo := 0) (hi := 1) h hth (by decide) rfl
  obtain ⟨x_3, kx_3, bx_3⟩ := z_learn (j := 0) (lo := 0) (hi := 10) h hpr (by decide) rfl
  refine zk_Vi (As := [.int f_]) (rest := []) (bytes := cX14_isFunction) (maxL := 2) (ret := (some .boolean)) Z h (zc_X14_isFunction l D k Γ L F_1 H.size th f_ pr x_2 x_3 hth (hfF_1.f hth 4 ⟨by decide, by decide⟩ kpr) hpr kx_2 bx_2 kx_3 bx_3) (cwV 1 hg zv_RX14_336 rfl rfl rfl zd_X14_isFunction ⟨z_leR hRf (by decide), z_leR hRl (by decide)⟩) hth (by decide) rfl rfl hl.1 rfl (Nat.le_of_ble_eq_true rfl) dX14_wrong_7 ⟨Nat.zero_le _, Nat.zero_le _⟩ (fun r_4 F_5 H locs w_6 h hfF_5 => ?_)
  obtain ⟨rfl, br_4, q_7, q_8, q_9, q_10, -⟩ := w_6
  refine lv_if_ne (tgt := 19) hx hb dX14_wrong_10 (by decide) (fun c_11 => ?_) (fun c_11 => ?_)
  · have q_12 := q_7 c_11
    have bf__13 : zB 0 9 f_ := q_9 c_11
    obtain ⟨⟨x_14, kx_14, hx_14⟩, x_15, kx_15, hx_15⟩ := q_10 c_11
    have bx_14 := zB.all x_14
    have bx_15 : zB 0 10 x_15 := by obtain ⟨x9, k9, b9⟩ := z_learn (j := 0) (lo := 0) (hi := 10) h hpr (by decide) rfl; rw [z_vi kx_15 k9]; exact b9
    have p_16 := (p_mi.fr hfF_1 hth (by decide))
    have wf_17 := zMI.wf p_16 kx_14 hx_14
    have c_11 := z_ne c_11
    have br_4_18 : zB 1 1 r_4 := zB.neLo c_11 br_4 (zBc 0 0 (by decide)) (by decide)
    refine lv_iload_n hx hb dX14_wrong_19 rfl (lv_at hl 1 rfl) ?_
    refine lv_iconst (v := 0) hx hb dX14_wrong_20 (by decide) ?_
    refine lv_iconst (v := 3) hx hb dX14_wrong_21 (by decide) ?_
    refine zk_Si (As := [.int ru, .int 0, .int 3]) (rest := []) (bytes := cX14_in) (maxL := 3) (ret := (some .boolean)) Z h (zc_X14_in l D k Γ L F_1 H.size ru 0 3) (va_cwS 3 hg zv_RX14_407 rfl rfl rfl zd_X14_in ⟨z_leR hRf (by decide), z_leR hRl (by decide)⟩) rfl hl.1 rfl (Nat.le_of_ble_eq_true rfl) dX14_wrong_22 ⟨Nat.zero_le _, Nat.zero_le _⟩ (fun r_19 F_20 H locs w_21 h hfF_20 => ?_)
    obtain ⟨rfl, br_19, q_22, -⟩ := w_21
    refine lv_if_ne (tgt := 34) hx hb dX14_wrong_25 (by decide) (fun c_23 => ?_) (fun c_23 => ?_)
    · have q_24 := q_22 c_23
      have bru_q_24 : zB 0 3 ru := ⟨by have := (zB.all ru).1; have := (zB.all ru).2; have := bf__13.1; have := bf__13.2; have := (zB.all x).1; have := (zB.all x).2; have := (zB.all y).1; have := (zB.all y).2; have := (zB.all z).1; have := (zB.all z).2; have := bx_14.1; have := bx_14.2; have := bx_15.1; have := bx_15.2; have : (0 : Int32).toInt = 0 := (by decide); have : (3 : Int32).toInt = 3 := (by decide); omega, by have := (zB.all ru).1; have := (zB.all ru).2; have := bf__13.1; have := bf__13.2; have := (zB.all x).1; have := (zB.all x).2; have := (zB.all y).1; have := (zB.all y).2; have := (zB.all z).1; have := (zB.all z).2; have := bx_14.1; have := bx_14.2; have := bx_15.1; have := bx_15.2; have : (0 : Int32).toInt = 0 := (by decide); have : (3 : Int32).toInt = 3 := (by decide); omega⟩
      have c_23 := z_ne c_23
      have br_19_25 : zB 1 1 r_19 := zB.neLo c_23 br_19 (zBc 0 0 (by decide)) (by decide)
      refine lv_aload_n hx hb dX14_wrong_34 rfl (lv_at hl 0 rfl) ?_
      refine lv_iload_n hx hb dX14_wrong_35 rfl (lv_at hl 2 rfl) ?_
      refine lv_iload_n hx hb dX14_wrong_36 rfl (lv_at hl 3 rfl) ?_
      refine lv_iload hx hb dX14_wrong_37 (lv_at hl 4 rfl) ?_
      refine lv_iload hx hb dX14_wrong_39 (lv_at hl 5 rfl) ?_
      refine lv_sipush (v := 2000) hx hb dX14_wrong_41 (by decide) ?_
      refine lv_iload_n hx hb dX14_wrong_44 rfl (lv_at hl 1 rfl) ?_
      obtain ⟨x_26, kx_26, bx_26⟩ := z_learn (j := 1) (lo := 0) (hi := 60) h hpr (by decide) rfl
      obtain ⟨x_27, kx_27, bx_27⟩ := z_learn (j := 2) (lo := 0) (hi := 620) h hpr (by decide) rfl
      refine zk_VHv (hh := [(108, 120, 123, 26)]) (As := [.int f_, .int x, .int y, .int z, .int 2000, .int ru]) (rest := []) (bytes := cX14_runs) (maxL := 8) (ret := none) Z h (zc_X14_runs l D k Γ L F_1 H.size th f_ x y z 2000 ru st pr x_15 x_26 x_27 wk hth bf__13 (zB.of ⟨by decide, by decide⟩) (hfF_1.f hth 9 ⟨by decide, by decide⟩ kst) hst (hfF_1.f hth 4 ⟨by decide, by decide⟩ kpr) hpr kx_15 bx_15 kx_26 bx_26 kx_27 bx_27 wf_17 (hfF_1.f hth 23 ⟨by decide, by decide⟩ kwk) hwk (by have := bru_q_24.1; have := bru_q_24.2; have := bf__13.1; have := bf__13.2; have := (zB.all x).1; have := (zB.all x).2; have := (zB.all y).1; have := (zB.all y).2; have := (zB.all z).1; have := (zB.all z).2; have := bx_15.1; have := bx_15.2; have := bx_26.1; have := bx_26.2; have := bx_27.1; have := bx_27.2; have := bx_14.1; have := bx_14.2; have : (0 : Int32).toInt = 0 := (by decide); have : (2000 : Int32).toInt = 2000 := (by decide); omega)) (vx_cwVW 6 hg zv_RX14_411 rfl rfl rfl zd_X14_runs ⟨z_leR hRf (by decide), z_leR hRl (by decide)⟩) hth (by decide) rfl rfl hl.1 rfl (Nat.le_of_ble_eq_true rfl) dX14_wrong_45 ⟨Nat.zero_le _, Nat.zero_le _⟩ (fun F_28 H locs w_29 h hfF_28 => ?_)
      refine lv_aload_n hx hb dX14_wrong_48 rfl (lv_at hl 0 rfl) ?_
      refine lv_aload_n hx hb dX14_wrong_49 rfl (lv_at hl 0 rfl) ?_
      refine zt_getk (t := 14) (C := RX14) (T := TX14) (N := 40) Z h hth zin_14 rfl 23 (hfF_28.f hth 23 ⟨by decide, by decide⟩ (hfF_1.f hth 23 ⟨by decide, by decide⟩ kwk)) ⟨by decide, rfl, by decide⟩ (zm_RX14 (List.mem_of_getElem? (i := 145) rfl)) (fun _ h9 => h9) dX14_wrong_50 ?_
      refine zt_getiN (t := 12) (C := RX12) (T := TX12) (N := 10) Z h hwk zin_12 rfl 1 rfl ⟨by decide, rfl⟩ (zn_33 Z) (fun _ h9 => h9) dX14_wrong_53 (fun x_30 kx_30 bx_30 => ?_)
      refine zk_Vi (As := [.int x_30]) (rest := []) (bytes := cX14_done) (maxL := 2) (ret := (some .int)) Z h (zc_X14_done l D k Γ L F_28 H.size th x_30 hth) (cwV 1 hg zv_RX14_333 rfl rfl rfl zd_X14_done ⟨z_leR hRf (by decide), z_leR hRl (by decide)⟩) hth (by decide) rfl rfl hl.1 rfl (Nat.le_of_ble_eq_true rfl) dX14_wrong_56 ⟨Nat.zero_le _, Nat.zero_le _⟩ (fun r_31 F_32 H locs w_33 h hfF_32 => ?_)
      obtain ⟨q_34, -⟩ := w_33
      have br_31 := zB.all r_31
      subst hQ
      exact W.iret (v := r_31) hx hb hr (fun t ht hW => ⟨⟨r_31, F_32, rfl, trivial, by rw [ht]; exact h.1, h.2.1, (((hfF_1.w (by decide)).trans hfF_28 (by decide)).trans hfF_32 (by decide))⟩, h.2.2.F ht⟩) h.2.2.2.2 dX14_wrong_59
    · have c_23 := z_eq c_23
      have br_19_35 : zB 0 0 r_19 := zB.eqL (a := 0) (b := 0) c_23 (zBc 0 0 (by decide))
      refine lv_aload_n hx hb dX14_wrong_28 rfl (lv_at hl 0 rfl) ?_
      refine lv_iconst (v := 2) hx hb dX14_wrong_29 (by decide) ?_
      refine zk_Vi (As := [.int 2]) (rest := []) (bytes := cX14_refused) (maxL := 2) (ret := (some .int)) Z h (zc_X14_refused l D k Γ L F_1 H.size th 2 hth) (cwV 1 hg zv_RX14_307 rfl rfl rfl zd_X14_refused ⟨z_leR hRf (by decide), z_leR hRl (by decide)⟩) hth (by decide) rfl rfl hl.1 rfl (Nat.le_of_ble_eq_true rfl) dX14_wrong_30 ⟨Nat.zero_le _, Nat.zero_le _⟩ (fun r_36 F_37 H locs w_38 h hfF_37 => ?_)
      obtain ⟨br_36, -⟩ := w_38
      subst hQ
      exact W.iret (v := r_36) hx hb hr (fun t ht hW => ⟨⟨r_36, F_37, rfl, trivial, by rw [ht]; exact h.1, h.2.1, ((hfF_1.w (by decide)).trans hfF_37 (by decide))⟩, h.2.2.F ht⟩) h.2.2.2.2 dX14_wrong_33
  · have q_39 := q_8 c_11
    have c_11 := z_eq c_11
    have br_4_40 : zB 0 0 r_4 := zB.eqL (a := 0) (b := 0) c_11 (zBc 0 0 (by decide))
    refine lv_aload_n hx hb dX14_wrong_13 rfl (lv_at hl 0 rfl) ?_
    refine lv_iconst (v := 1) hx hb dX14_wrong_14 (by decide) ?_
    refine zk_Vi (As := [.int 1]) (rest := []) (bytes := cX14_refused) (maxL := 2) (ret := (some .int)) Z h (zc_X14_refused l D k Γ L F_1 H.size th 1 hth) (cwV 1 hg zv_RX14_307 rfl rfl rfl zd_X14_refused ⟨z_leR hRf (by decide), z_leR hRl (by decide)⟩) hth (by decide) rfl rfl hl.1 rfl (Nat.le_of_ble_eq_true rfl) dX14_wrong_15 ⟨Nat.zero_le _, Nat.zero_le _⟩ (fun r_41 F_42 H locs w_43 h hfF_42 => ?_)
    obtain ⟨br_41, -⟩ := w_43
    subst hQ
    exact W.iret (v := r_41) hx hb hr (fun t ht hW => ⟨⟨r_41, F_42, rfl, trivial, by rw [ht]; exact h.1, h.2.1, ((hfF_1.w (by decide)).trans hfF_42 (by decide))⟩, h.2.2.F ht⟩) h.2.2.2.2 dX14_wrong_18

set_option maxHeartbeats 4000000 in
set_option maxRecDepth 100000 in
theorem zc_X14_unlike (l : Launch) (D : va_G) (k : Nat → ClassId) (Γ : Nat → Option Nat) (L : List Nat) (F : Nat → va_E) (sz : Nat) (th : Nat) (f_ : Int32) (x : Int32) (y : Int32) (z : Int32) (st : Nat) (pr : Nat) (wk : Nat) (hth : Γ th = some 14) (kst : zfld F th 9 = .ref st) (hst : Γ st = some 13) (kpr : zfld F th 4 = .ref pr) (hpr : Γ pr = some 11) (kwk : zfld F th 23 = .ref wk) (hwk : Γ wk = some 12) (p_mi : zMI Γ F th pr) : Met l yX14_unlike zwX14_unlike ({ frames := 87, cells := 0, slots := 0, locals := 3453 }) (va_Pc [.ref th, .int f_, .int x, .int y, .int z] (zP D k Γ L F sz)) (va_Qi (fun (r : Int32) (u : Nat → va_E) => True) (zQ D k Γ L F [1200, 1201, 1202, 1203, 1204, 1205, 1206, 1306, 1307, 1400, 1401, 1402, 1426, 1427, 1428, 1429, 15000, 16500, 16600, 16700, 16800]) (zA L sz)) 0 0 (zA L sz) := by
  refine Met.ofW (cc := cX14_unlike) (maxL := 12) (ret := (some .int)) (by decide) rfl ?_
  intro p e s m args below meth c s₁ B hml hv
  obtain ⟨rfl, hsz, hP, hK, hLn, hE, hI⟩ := hv
  have hx := B.exec
  have hb := B.bytes
  have hr := B.returns
  have hg : ∀ w ∈ zG, w.before _ s = true := fun w h9 => atoms_spec (ws := zwX14_unlike) B.pre w (List.mem_cons_of_mem _ h9)
  have hown : s.vm.findClass RX14 = some m.cls := findClass_of_methodNamed B.named
  have hlocks := B.notSynchronized
  subst hsz
  have Z : zC p m c cX14_unlike 12 s _ zG RX14 D k L := ⟨⟨hx, hb, hml, hown, hg⟩, hK, hLn, hE⟩
  have h : zH D k Γ L s F s.heap [] := ⟨hP, hI, va_S.rf⟩
  have hl := lv_entry ([.ref th, .int f_, .int x, .int y, .int z]) (n := 12) (Nat.le_of_ble_eq_true rfl)
  rw [lg_entry_eq]
  generalize (lg_sl ([.ref th, .int f_, .int x, .int y, .int z]) ++ List.replicate (12 - (lg_sl ([.ref th, .int f_, .int x, .int y, .int z])).length) Slot.unset).toArray = ls at hl ⊢
  have hl : lv_has ls 12 [(0, .ref th), (1, .int f_), (2, .int x), (3, .int y), (4, .int z)] := hl
  clear hP hK hLn hE hI
  generalize hargs : ([.ref th, .int f_, .int x, .int y, .int z] : List Value).toArray = args at *
  refine z_start (fun R Q hRf hRl hQ => ?_)
  have hRf : R.frames = 87 := hRf
  have hRl : R.locals = 3453 := hRl
  have h9 := h
  refine lv_aload_n hx hb dX14_unlike_0 rfl (lv_at hl 0 rfl) ?_
  refine lv_iconst (v := 0) hx hb dX14_unlike_1 (by decide) ?_
  refine zt_put (t := 14) (C := RX14) (T := TX14) (N := 40) (v := .int 0) Z h hth zin_14 tyX14 tyX14_ok nmX14 rfl 0 rfl ⟨by decide, rfl⟩ (zm_RX14 (List.mem_of_getElem? (i := 105) rfl)) (fun _ h9 => h9) rfl (zV.i (zB.of ⟨by decide, by decide⟩)) rfl rfl dX14_unlike_2 (fun H locs F_1 h hfF_1 kF_1 => ?_)
  refine lv_aload_n hx hb dX14_unlike_5 rfl (lv_at hl 0 rfl) ?_
  refine lv_iload_n hx hb dX14_unlike_6 rfl (lv_at hl 1 rfl) ?_
  obtain ⟨x_2, kx_2, bx_2⟩ := z_learn (j := 7) (lo := 0) (hi := 1) h hth (by decide) rfl
  obtain ⟨x_3, kx_3, bx_3⟩ := z_learn (j := 0) (lo := 0) (hi := 10) h hpr (by decide) rfl
  refine zk_Vi (As := [.int f_]) (rest := []) (bytes := cX14_isFunction) (maxL := 2) (ret := (some .boolean)) Z h (zc_X14_isFunction l D k Γ L F_1 H.size th f_ pr x_2 x_3 hth (hfF_1.f hth 4 ⟨by decide, by decide⟩ kpr) hpr kx_2 bx_2 kx_3 bx_3) (cwV 1 hg zv_RX14_336 rfl rfl rfl zd_X14_isFunction ⟨z_leR hRf (by decide), z_leR hRl (by decide)⟩) hth (by decide) rfl rfl hl.1 rfl (Nat.le_of_ble_eq_true rfl) dX14_unlike_7 ⟨Nat.zero_le _, Nat.zero_le _⟩ (fun r_4 F_5 H locs w_6 h hfF_5 => ?_)
  obtain ⟨rfl, br_4, q_7, q_8, q_9, q_10, -⟩ := w_6
  refine lv_if_ne (tgt := 19) hx hb dX14_unlike_10 (by decide) (fun c_11 => ?_) (fun c_11 => ?_)
  · have q_12 := q_7 c_11
    have bf__13 : zB 0 9 f_ := q_9 c_11
    obtain ⟨⟨x_14, kx_14, hx_14⟩, x_15, kx_15, hx_15⟩ := q_10 c_11
    have bx_14 := zB.all x_14
    have bx_15 : zB 0 10 x_15 := by obtain ⟨x9, k9, b9⟩ := z_learn (j := 0) (lo := 0) (hi := 10) h hpr (by decide) rfl; rw [z_vi kx_15 k9]; exact b9
    have p_16 := (p_mi.fr hfF_1 hth (by decide))
    have wf_17 := zMI.wf p_16 kx_14 hx_14
    have c_11 := z_ne c_11
    have br_4_18 : zB 1 1 r_4 := zB.neLo c_11 br_4 (zBc 0 0 (by decide)) (by decide)
    refine lv_aload_n hx hb dX14_unlike_19 rfl (lv_at hl 0 rfl) ?_
    refine lv_iload_n hx hb dX14_unlike_20 rfl (lv_at hl 1 rfl) ?_
    refine lv_iload_n hx hb dX14_unlike_21 rfl (lv_at hl 2 rfl) ?_
    refine lv_iload_n hx hb dX14_unlike_22 rfl (lv_at hl 3 rfl) ?_
    refine lv_iload hx hb dX14_unlike_23 (lv_at hl 4 rfl) ?_
    refine lv_sipush (v := 2000) hx hb dX14_unlike_25 (by decide) ?_
    refine lv_iconst (v := (-1)) hx hb dX14_unlike_28 (by decide) ?_
    obtain ⟨x_19, kx_19, bx_19⟩ := z_learn (j := 1) (lo := 0) (hi := 60) h hpr (by decide) rfl
    obtain ⟨x_20, kx_20, bx_20⟩ := z_learn (j := 2) (lo := 0) (hi := 620) h hpr (by decide) rfl
    refine zk_VHv (hh := [(108, 120, 123, 26)]) (As := [.int f_, .int x, .int y, .int z, .int 2000, .int (-1)]) (rest := []) (bytes := cX14_runs) (maxL := 8) (ret := none) Z h (zc_X14_runs l D k Γ L F_1 H.size th f_ x y z 2000 (-1) st pr x_15 x_19 x_20 wk hth bf__13 (zB.of ⟨by decide, by decide⟩) (hfF_1.f hth 9 ⟨by decide, by decide⟩ kst) hst (hfF_1.f hth 4 ⟨by decide, by decide⟩ kpr) hpr kx_15 bx_15 kx_19 bx_19 kx_20 bx_20 wf_17 (hfF_1.f hth 23 ⟨by decide, by decide⟩ kwk) hwk (by have := bf__13.1; have := bf__13.2; have := (zB.all x).1; have := (zB.all x).2; have := (zB.all y).1; have := (zB.all y).2; have := (zB.all z).1; have := (zB.all z).2; have := bx_15.1; have := bx_15.2; have := bx_19.1; have := bx_19.2; have := bx_20.1; have := bx_20.2; have := bx_14.1; have := bx_14.2; have : ((-1) : Int32).toInt = (-1) := (by decide); have : (0 : Int32).toInt = 0 := (by decide); have : (2000 : Int32).toInt = 2000 := (by decide); omega)) (vx_cwVW 6 hg zv_RX14_411 rfl rfl rfl zd_X14_runs ⟨z_leR hRf (by decide), z_leR hRl (by decide)⟩) hth (by decide) rfl rfl hl.1 rfl (Nat.le_of_ble_eq_true rfl) dX14_unlike_29 ⟨Nat.zero_le _, Nat.zero_le _⟩ (fun F_21 H locs w_22 h hfF_21 => ?_)
    refine lv_aload_n hx hb dX14_unlike_32 rfl (lv_at hl 0 rfl) ?_
    refine zt_getk (t := 14) (C := RX14) (T := TX14) (N := 40) Z h hth zin_14 rfl 23 (hfF_21.f hth 23 ⟨by decide, by decide⟩ (hfF_1.f hth 23 ⟨by decide, by decide⟩ kwk)) ⟨by decide, rfl, by decide⟩ (zm_RX14 (List.mem_of_getElem? (i := 145) rfl)) (fun _ h9 => h9) dX14_unlike_33 ?_
    refine zt_getiN (t := 12) (C := RX12) (T := TX12) (N := 10) Z h hwk zin_12 rfl 0 rfl ⟨by decide, rfl⟩ (zn_32 Z) (fun _ h9 => h9) dX14_unlike_36 (fun x_23 kx_23 bx_23 => ?_)
    refine lv_istore (lv' := [(5, .int x_23), (0, .ref th), (1, .int f_), (2, .int x), (3, .int y), (4, .int z)]) hx hb dX14_unlike_39 hl (by decide) rfl (fun ls hl => ?_)
    refine lv_aload_n hx hb dX14_unlike_41 rfl (lv_at hl 1 rfl) ?_
    refine zt_getk (t := 14) (C := RX14) (T := TX14) (N := 40) Z h hth zin_14 rfl 23 (hfF_21.f hth 23 ⟨by decide, by decide⟩ (hfF_1.f hth 23 ⟨by decide, by decide⟩ kwk)) ⟨by decide, rfl, by decide⟩ (zm_RX14 (List.mem_of_getElem? (i := 145) rfl)) (fun _ h9 => h9) dX14_unlike_42 ?_
    refine zt_getiN (t := 12) (C := RX12) (T := TX12) (N := 10) Z h hwk zin_12 rfl 1 rfl ⟨by decide, rfl⟩ (zn_33 Z) (fun _ h9 => h9) dX14_unlike_45 (fun x_24 kx_24 bx_24 => ?_)
    refine lv_istore (lv' := [(6, .int x_24), (5, .int x_23), (0, .ref th), (1, .int f_), (2, .int x), (3, .int y), (4, .int z)]) hx hb dX14_unlike_48 hl (by decide) rfl (fun ls hl => ?_)
    refine lv_aload_n hx hb dX14_unlike_50 rfl (lv_at hl 2 rfl) ?_
    refine zt_getk (t := 14) (C := RX14) (T := TX14) (N := 40) Z h hth zin_14 rfl 23 (hfF_21.f hth 23 ⟨by decide, by decide⟩ (hfF_1.f hth 23 ⟨by decide, by decide⟩ kwk)) ⟨by decide, rfl, by decide⟩ (zm_RX14 (List.mem_of_getElem? (i := 145) rfl)) (fun _ h9 => h9) dX14_unlike_51 ?_
    refine zt_getiN (t := 12) (C := RX12) (T := TX12) (N := 10) Z h hwk zin_12 rfl 3 rfl ⟨by decide, rfl⟩ (zn_35 Z) (fun _ h9 => h9) dX14_unlike_54 (fun x_25 kx_25 bx_25 => ?_)
    refine lv_istore (lv' := [(7, .int x_25), (6, .int x_24), (5, .int x_23), (0, .ref th), (1, .int f_), (2, .int x), (3, .int y), (4, .int z)]) hx hb dX14_unlike_57 hl (by decide) rfl (fun ls hl => ?_)
    refine lv_iconst (v := 0) hx hb dX14_unlike_59 (by decide) ?_
    refine lv_istore (lv' := [(8, .int 0), (7, .int x_25), (6, .int x_24), (5, .int x_23), (0, .ref th), (1, .int f_), (2, .int x), (3, .int y), (4, .int z)]) hx hb dX14_unlike_60 hl (by decide) rfl (fun ls hl => ?_)
    have j_j62_26 : ∀ (n : Nat) (ls : Array Slot) (y8_j62_26 : Int32) (F_27 : Nat → va_E) (H : Heap) (locs : List Loc), lv_has ls 12 [(8, .int y8_j62_26), (7, .int x_25), (6, .int x_24), (5, .int x_23), (0, .ref th), (1, .int f_), (2, .int x), (3, .int y), (4, .int z)] → zB 0 60 y8_j62_26 → zH D k Γ L s F_27 H locs → zFr Γ [16800] F_21 F_27 → (2147483647 - y8_j62_26.toInt).toNat = n → W p l e R s m args below meth c H locs 0 0 Q (F0 m 62 ls []) := by
      intro n
      induction n using Nat.strongRecOn with
      | _ n ih_j62_26 =>
        intro ls y8_j62_26 F_27 H locs hl by8_j62_26 h hfF_27 hn_j62_26
        refine lv_iload hx hb dX14_unlike_62 (lv_at hl 0 rfl) ?_
        refine lv_bipush (v := 60) hx hb dX14_unlike_64 (by decide) ?_
        refine lv_icmp_ge (tgt := 92) hx hb dX14_unlike_66 (by decide) (fun c_28 => ?_) (fun c_28 => ?_)
        · have c_28 := z_le c_28
          have by8_j62_26_29 : zB 60 60 y8_j62_26 := zB.leR c_28 (zBc 60 60 (by decide)) by8_j62_26 (by decide)
          refine lv_iconst (v := 0) hx hb dX14_unlike_92 (by decide) ?_
          refine lv_istore (lv' := [(8, .int 0), (7, .int x_25), (6, .int x_24), (5, .int x_23), (0, .ref th), (1, .int f_), (2, .int x), (3, .int y), (4, .int z)]) hx hb dX14_unlike_93 hl (by decide) rfl (fun ls hl => ?_)
          refine lv_iconst (v := 0) hx hb dX14_unlike_95 (by decide) ?_
          refine lv_istore (lv' := [(9, .int 0), (8, .int 0), (7, .int x_25), (6, .int x_24), (5, .int x_23), (0, .ref th), (1, .int f_), (2, .int x), (3, .int y), (4, .int z)]) hx hb dX14_unlike_96 hl (by decide) rfl (fun ls hl => ?_)
          have j_j98_30 : ∀ (n : Nat) (ls : Array Slot) (y9_j98_30 : Int32) (y8_j98_30 : Int32) (F_31 : Nat → va_E) (H : Heap) (locs : List Loc), lv_has ls 12 [(9, .int y9_j98_30), (8, .int y8_j98_30), (7, .int x_25), (6, .int x_24), (5, .int x_23), (0, .ref th), (1, .int f_), (2, .int x), (3, .int y), (4, .int z)] → zB 0 4 y9_j98_30 → zB (-2147483648) 2147483647 y8_j98_30 → zH D k Γ L s F_31 H locs → zFr Γ [1200, 1201, 1202, 1203, 1204, 1205, 1206, 1306, 1307, 1426, 1427, 1428, 1429, 15000, 16500, 16600, 16700] F_27 F_31 → (2147483647 - y9_j98_30.toInt).toNat = n → W p l e R s m args below meth c H locs 0 0 Q (F0 m 98 ls []) := by
            intro n
            induction n using Nat.strongRecOn with
            | _ n ih_j98_30 =>
              intro ls y9_j98_30 y8_j98_30 F_31 H locs hl by9_j98_30 by8_j98_30 h hfF_31 hn_j98_30
              refine lv_iload hx hb dX14_unlike_98 (lv_at hl 0 rfl) ?_
              refine lv_iconst (v := 4) hx hb dX14_unlike_100 (by decide) ?_
              refine lv_icmp_ge (tgt := 237) hx hb dX14_unlike_101 (by decide) (fun c_32 => ?_) (fun c_32 => ?_)
              · have c_32 := z_le c_32
                have by9_j98_30_33 : zB 4 4 y9_j98_30 := zB.leR c_32 (zBc 4 4 (by decide)) by9_j98_30 (by decide)
                refine lv_aload_n hx hb dX14_unlike_237 rfl (lv_at hl 5 rfl) ?_
                refine lv_iload hx hb dX14_unlike_238 (lv_at hl 1 rfl) ?_
                refine zk_Vi (As := [.int y8_j98_30]) (rest := []) (bytes := cX14_done) (maxL := 2) (ret := (some .int)) Z h (zc_X14_done l D k Γ L F_31 H.size th y8_j98_30 hth) (cwV 1 hg zv_RX14_333 rfl rfl rfl zd_X14_done ⟨z_leR hRf (by decide), z_leR hRl (by decide)⟩) hth (by decide) rfl rfl hl.1 rfl (Nat.le_of_ble_eq_true rfl) dX14_unlike_240 ⟨Nat.zero_le _, Nat.zero_le _⟩ (fun r_34 F_35 H locs w_36 h hfF_35 => ?_)
                obtain ⟨q_37, -⟩ := w_36
                have br_34 := zB.all r_34
                subst hQ
                exact W.iret (v := r_34) hx hb hr (fun t ht hW => ⟨⟨r_34, F_35, rfl, trivial, by rw [ht]; exact h.1, h.2.1, (((((hfF_1.w (by decide)).trans hfF_21 (by decide)).trans hfF_27 (by decide)).trans hfF_31 (by decide)).trans hfF_35 (by decide))⟩, h.2.2.F ht⟩) h.2.2.2.2 dX14_unlike_243
              · have c_32 := z_nle c_32
                have by9_j98_30_38 : zB 0 3 y9_j98_30 := zB.ltL c_32 by9_j98_30 (zBc 4 4 (by decide)) (by decide)
                refine lv_aload_n hx hb dX14_unlike_104 rfl (lv_at hl 5 rfl) ?_
                refine lv_iload_n hx hb dX14_unlike_105 rfl (lv_at hl 6 rfl) ?_
                refine lv_iload_n hx hb dX14_unlike_106 rfl (lv_at hl 7 rfl) ?_
                refine lv_iload_n hx hb dX14_unlike_107 rfl (lv_at hl 8 rfl) ?_
                refine lv_iload hx hb dX14_unlike_108 (lv_at hl 9 rfl) ?_
                refine lv_sipush (v := 2000) hx hb dX14_unlike_110 (by decide) ?_
                refine lv_iload hx hb dX14_unlike_113 (lv_at hl 0 rfl) ?_
                have p_39 := (((wf_17.fr hfF_21 (by decide)).fr hfF_27 (by decide)).fr hfF_31 (by decide))
                refine zk_VHv (hh := [(108, 120, 123, 26)]) (As := [.int f_, .int x, .int y, .int z, .int 2000, .int y9_j98_30]) (rest := []) (bytes := cX14_runs) (maxL := 8) (ret := none) Z h (zc_X14_runs l D k Γ L F_31 H.size th f_ x y z 2000 y9_j98_30 st pr x_15 x_19 x_20 wk hth bf__13 (zB.of ⟨by decide, by decide⟩) (hfF_31.f hth 9 ⟨by decide, by decide⟩ (hfF_27.f hth 9 ⟨by decide, by decide⟩ (hfF_21.f hth 9 ⟨by decide, by decide⟩ (hfF_1.f hth 9 ⟨by decide, by decide⟩ kst)))) hst (hfF_31.f hth 4 ⟨by decide, by decide⟩ (hfF_27.f hth 4 ⟨by decide, by decide⟩ (hfF_21.f hth 4 ⟨by decide, by decide⟩ (hfF_1.f hth 4 ⟨by decide, by decide⟩ kpr)))) hpr (hfF_31.f hpr 0 ⟨by decide, by decide⟩ (hfF_27.f hpr 0 ⟨by decide, by decide⟩ (hfF_21.f hpr 0 ⟨by decide, by decide⟩ kx_15))) bx_15 (hfF_31.f hpr 1 ⟨by decide, by decide⟩ (hfF_27.f hpr 1 ⟨by decide, by decide⟩ (hfF_21.f hpr 1 ⟨by decide, by decide⟩ kx_19))) bx_19 (hfF_31.f hpr 2 ⟨by decide, by decide⟩ (hfF_27.f hpr 2 ⟨by decide, by decide⟩ (hfF_21.f hpr 2 ⟨by decide, by decide⟩ kx_20))) bx_20 p_39 (hfF_31.f hth 23 ⟨by decide, by decide⟩ (hfF_27.f hth 23 ⟨by decide, by decide⟩ (hfF_21.f hth 23 ⟨by decide, by decide⟩ (hfF_1.f hth 23 ⟨by decide, by decide⟩ kwk)))) hwk (by have := by9_j98_30_38.1; have := by9_j98_30_38.2; have := by8_j98_30.1; have := by8_j98_30.2; have := bx_25.1; have := bx_25.2; have := bx_24.1; have := bx_24.2; have := bx_23.1; have := bx_23.2; have := bf__13.1; have := bf__13.2; have := (zB.all x).1; have := (zB.all x).2; have := (zB.all y).1; have := (zB.all y).2; have := (zB.all z).1; have := (zB.all z).2; have := bx_15.1; have := bx_15.2; have := bx_19.1; have := bx_19.2; have := bx_20.1; have := bx_20.2; have := bx_14.1; have := bx_14.2; have : (0 : Int32).toInt = 0 := (by decide); have : (4 : Int32).toInt = 4 := (by decide); have : (60 : Int32).toInt = 60 := (by decide); have : (2000 : Int32).toInt = 2000 := (by decide); omega)) (vx_cwVW 6 hg zv_RX14_411 rfl rfl rfl zd_X14_runs ⟨z_leR hRf (by decide), z_leR hRl (by decide)⟩) hth (by decide) rfl rfl hl.1 rfl (Nat.le_of_ble_eq_true rfl) dX14_unlike_115 ⟨Nat.zero_le _, Nat.zero_le _⟩ (fun F_40 H locs w_41 h hfF_40 => ?_)
                have j_j159_42 : ∀ (ls : Array Slot) (w0_j159_42 : Int32), lv_has ls 12 [(9, .int y9_j98_30), (8, .int y8_j98_30), (7, .int x_25), (6, .int x_24), (5, .int x_23), (0, .ref th), (1, .int f_), (2, .int x), (3, .int y), (4, .int z)] → zB 0 1 w0_j159_42 → W p l e R s m args below meth c H locs 0 0 Q (F0 m 159 ls [.int w0_j159_42]) := by
                  intro ls w0_j159_42 hl bw0_j159_42
                  refine lv_istore (lv' := [(10, .int w0_j159_42), (9, .int y9_j98_30), (8, .int y8_j98_30), (7, .int x_25), (6, .int x_24), (5, .int x_23), (0, .ref th), (1, .int f_), (2, .int x), (3, .int y), (4, .int z)]) hx hb dX14_unlike_159 hl (by decide) rfl (fun ls hl => ?_)
                  refine lv_iconst (v := 0) hx hb dX14_unlike_161 (by decide) ?_
                  refine lv_istore (lv' := [(11, .int 0), (10, .int w0_j159_42), (9, .int y9_j98_30), (8, .int y8_j98_30), (7, .int x_25), (6, .int x_24), (5, .int x_23), (0, .ref th), (1, .int f_), (2, .int x), (3, .int y), (4, .int z)]) hx hb dX14_unlike_162 hl (by decide) rfl (fun ls hl => ?_)
                  have j_j164_43 : ∀ (n : Nat) (ls : Array Slot) (y11_j164_43 : Int32) (y10_j164_43 : Int32), lv_has ls 12 [(11, .int y11_j164_43), (10, .int y10_j164_43), (9, .int y9_j98_30), (8, .int y8_j98_30), (7, .int x_25), (6, .int x_24), (5, .int x_23), (0, .ref th), (1, .int f_), (2, .int x), (3, .int y), (4, .int z)] → zB 0 60 y11_j164_43 → zB 0 1 y10_j164_43 → (2147483647 - y11_j164_43.toInt).toNat = n → W p l e R s m args below meth c H locs 0 0 Q (F0 m 164 ls []) := by
                    intro n
                    induction n using Nat.strongRecOn with
                    | _ n ih_j164_43 =>
                      intro ls y11_j164_43 y10_j164_43 hl by11_j164_43 by10_j164_43 hn_j164_43
                      refine lv_iload hx hb dX14_unlike_164 (lv_at hl 0 rfl) ?_
                      refine lv_iload hx hb dX14_unlike_166 (lv_at hl 4 rfl) ?_
                      refine lv_icmp_ge (tgt := 216) hx hb dX14_unlike_168 (by decide) (fun c_44 => ?_) (fun c_44 => ?_)
                      · have c_44 := z_le c_44
                        have bx_25_45 : zB 0 60 x_25 := zB.leL c_44 bx_25 by11_j164_43 (by decide)
                        refine lv_iload hx hb dX14_unlike_216 (lv_at hl 3 rfl) ?_
                        refine lv_iload hx hb dX14_unlike_218 (lv_at hl 1 rfl) ?_
                        refine lv_if_eq (tgt := 227) hx hb dX14_unlike_220 (by decide) (fun c_46 => ?_) (fun c_46 => ?_)
                        · have c_46 := z_eq c_46
                          have by10_j164_43_47 : zB 0 0 y10_j164_43 := zB.eqL (a := 0) (b := 0) c_46 (zBc 0 0 (by decide))
                          refine lv_iconst (v := 1) hx hb dX14_unlike_227 (by decide) ?_
                          refine lv_iadd hx hb dX14_unlike_228 ?_
                          refine zi_any (fun x_48 bx_48 ex_48 => ?_)
                          refine lv_istore (lv' := [(8, .int x_48), (11, .int y11_j164_43), (10, .int y10_j164_43), (9, .int y9_j98_30), (7, .int x_25), (6, .int x_24), (5, .int x_23), (0, .ref th), (1, .int f_), (2, .int x), (3, .int y), (4, .int z)]) hx hb dX14_unlike_229 hl (by decide) rfl (fun ls hl => ?_)
                          obtain ⟨x_49, ex_49, bx_49, tx_49⟩ := z_inc (n := 1) (lo := 1) (hi := 4) by9_j98_30_38 (by decide)
                          refine lv_iinc (v := x_49) (lv' := [(9, .int x_49), (8, .int x_48), (11, .int y11_j164_43), (10, .int y10_j164_43), (7, .int x_25), (6, .int x_24), (5, .int x_23), (0, .ref th), (1, .int f_), (2, .int x), (3, .int y), (4, .int z)]) hx hb dX14_unlike_231 hl (k := 3) rfl ex_49 (by decide) rfl (fun ls hl => ?_)
                          refine lv_goto (tgt := 98) hx hb dX14_unlike_234 (by decide) ?_
                          exact ih_j98_30 _ (by have := bx_49.1; have := bx_49.2; have := bx_48.1; have := bx_48.2; have := by11_j164_43.1; have := by11_j164_43.2; have := by10_j164_43_47.1; have := by10_j164_43_47.2; have := bx_25_45.1; have := bx_25_45.2; have := bx_24.1; have := bx_24.2; have := bx_23.1; have := bx_23.2; have := bf__13.1; have := bf__13.2; have := (zB.all x).1; have := (zB.all x).2; have := (zB.all y).1; have := (zB.all y).2; have := (zB.all z).1; have := (zB.all z).2; have := bx_14.1; have := bx_14.2; have := bx_15.1; have := bx_15.2; have := bx_19.1; have := bx_19.2; have := bx_20.1; have := bx_20.2; have : (0 : Int32).toInt = 0 := (by decide); have : (1 : Int32).toInt = 1 := (by decide); have : (4 : Int32).toInt = 4 := (by decide); have : (60 : Int32).toInt = 60 := (by decide); have := by9_j98_30.1; have := by9_j98_30.2; have := by8_j98_30.1; have := by8_j98_30.2; omega) ls x_49 x_48 F_40 H locs (lv_sub hl [0, 1, 4, 5, 6, 7, 8, 9, 10, 11] rfl) (bx_49.w ⟨by decide, by decide⟩) bx_48 h (hfF_31.trans hfF_40 (by decide)) rfl
                        · have c_46 := z_ne c_46
                          have by10_j164_43_50 : zB 1 1 y10_j164_43 := zB.neLo c_46 by10_j164_43 (zBc 0 0 (by decide)) (by decide)
                          refine lv_iconst (v := 0) hx hb dX14_unlike_223 (by decide) ?_
                          refine lv_goto (tgt := 228) hx hb dX14_unlike_224 (by decide) ?_
                          refine lv_iadd hx hb dX14_unlike_228 ?_
                          refine zi_add (lo := (-2147483648)) (hi := 2147483647) by8_j98_30 (zBc 0 0 (by decide)) (by decide) (fun x_51 bx_51 tx_51 => ?_)
                          refine lv_istore (lv' := [(8, .int x_51), (11, .int y11_j164_43), (10, .int y10_j164_43), (9, .int y9_j98_30), (7, .int x_25), (6, .int x_24), (5, .int x_23), (0, .ref th), (1, .int f_), (2, .int x), (3, .int y), (4, .int z)]) hx hb dX14_unlike_229 hl (by decide) rfl (fun ls hl => ?_)
                          obtain ⟨x_52, ex_52, bx_52, tx_52⟩ := z_inc (n := 1) (lo := 1) (hi := 4) by9_j98_30_38 (by decide)
                          refine lv_iinc (v := x_52) (lv' := [(9, .int x_52), (8, .int x_51), (11, .int y11_j164_43), (10, .int y10_j164_43), (7, .int x_25), (6, .int x_24), (5, .int x_23), (0, .ref th), (1, .int f_), (2, .int x), (3, .int y), (4, .int z)]) hx hb dX14_unlike_231 hl (k := 3) rfl ex_52 (by decide) rfl (fun ls hl => ?_)
                          refine lv_goto (tgt := 98) hx hb dX14_unlike_234 (by decide) ?_
                          exact ih_j98_30 _ (by have := bx_52.1; have := bx_52.2; have := bx_51.1; have := bx_51.2; have := by11_j164_43.1; have := by11_j164_43.2; have := by10_j164_43_50.1; have := by10_j164_43_50.2; have := bx_25_45.1; have := bx_25_45.2; have := bx_24.1; have := bx_24.2; have := bx_23.1; have := bx_23.2; have := bf__13.1; have := bf__13.2; have := (zB.all x).1; have := (zB.all x).2; have := (zB.all y).1; have := (zB.all y).2; have := (zB.all z).1; have := (zB.all z).2; have := bx_14.1; have := bx_14.2; have := bx_15.1; have := bx_15.2; have := bx_19.1; have := bx_19.2; have := bx_20.1; have := bx_20.2; have : (0 : Int32).toInt = 0 := (by decide); have : (4 : Int32).toInt = 4 := (by decide); have : (60 : Int32).toInt = 60 := (by decide); have := by9_j98_30.1; have := by9_j98_30.2; have := by8_j98_30.1; have := by8_j98_30.2; omega) ls x_52 x_51 F_40 H locs (lv_sub hl [0, 1, 4, 5, 6, 7, 8, 9, 10, 11] rfl) (bx_52.w ⟨by decide, by decide⟩) bx_51 h (hfF_31.trans hfF_40 (by decide)) rfl
                      · have c_44 := z_nle c_44
                        have bx_25_53 : zB 1 2000 x_25 := zB.ltR c_44 by11_j164_43 bx_25 (by decide)
                        refine lv_iload hx hb dX14_unlike_171 (lv_at hl 0 rfl) ?_
                        refine lv_bipush (v := 60) hx hb dX14_unlike_173 (by decide) ?_
                        refine lv_icmp_ge (tgt := 216) hx hb dX14_unlike_175 (by decide) (fun c_54 => ?_) (fun c_54 => ?_)
                        · have c_54 := z_le c_54
                          have by11_j164_43_55 : zB 60 60 y11_j164_43 := zB.leR c_54 (zBc 60 60 (by decide)) by11_j164_43 (by decide)
                          refine lv_iload hx hb dX14_unlike_216 (lv_at hl 3 rfl) ?_
                          refine lv_iload hx hb dX14_unlike_218 (lv_at hl 1 rfl) ?_
                          refine lv_if_eq (tgt := 227) hx hb dX14_unlike_220 (by decide) (fun c_56 => ?_) (fun c_56 => ?_)
                          · have c_56 := z_eq c_56
                            have by10_j164_43_57 : zB 0 0 y10_j164_43 := zB.eqL (a := 0) (b := 0) c_56 (zBc 0 0 (by decide))
                            refine lv_iconst (v := 1) hx hb dX14_unlike_227 (by decide) ?_
                            refine lv_iadd hx hb dX14_unlike_228 ?_
                            refine zi_any (fun x_58 bx_58 ex_58 => ?_)
                            refine lv_istore (lv' := [(8, .int x_58), (11, .int y11_j164_43), (10, .int y10_j164_43), (9, .int y9_j98_30), (7, .int x_25), (6, .int x_24), (5, .int x_23), (0, .ref th), (1, .int f_), (2, .int x), (3, .int y), (4, .int z)]) hx hb dX14_unlike_229 hl (by decide) rfl (fun ls hl => ?_)
                            obtain ⟨x_59, ex_59, bx_59, tx_59⟩ := z_inc (n := 1) (lo := 1) (hi := 4) by9_j98_30_38 (by decide)
                            refine lv_iinc (v := x_59) (lv' := [(9, .int x_59), (8, .int x_58), (11, .int y11_j164_43), (10, .int y10_j164_43), (7, .int x_25), (6, .int x_24), (5, .int x_23), (0, .ref th), (1, .int f_), (2, .int x), (3, .int y), (4, .int z)]) hx hb dX14_unlike_231 hl (k := 3) rfl ex_59 (by decide) rfl (fun ls hl => ?_)
                            refine lv_goto (tgt := 98) hx hb dX14_unlike_234 (by decide) ?_
                            exact ih_j98_30 _ (by have := bx_59.1; have := bx_59.2; have := bx_58.1; have := bx_58.2; have := by11_j164_43_55.1; have := by11_j164_43_55.2; have := by10_j164_43_57.1; have := by10_j164_43_57.2; have := bx_25_53.1; have := bx_25_53.2; have := bx_24.1; have := bx_24.2; have := bx_23.1; have := bx_23.2; have := bf__13.1; have := bf__13.2; have := (zB.all x).1; have := (zB.all x).2; have := (zB.all y).1; have := (zB.all y).2; have := (zB.all z).1; have := (zB.all z).2; have := bx_14.1; have := bx_14.2; have := bx_15.1; have := bx_15.2; have := bx_19.1; have := bx_19.2; have := bx_20.1; have := bx_20.2; have : (0 : Int32).toInt = 0 := (by decide); have : (1 : Int32).toInt = 1 := (by decide); have : (4 : Int32).toInt = 4 := (by decide); have : (60 : Int32).toInt = 60 := (by decide); have := by9_j98_30.1; have := by9_j98_30.2; have := by8_j98_30.1; have := by8_j98_30.2; omega) ls x_59 x_58 F_40 H locs (lv_sub hl [0, 1, 4, 5, 6, 7, 8, 9, 10, 11] rfl) (bx_59.w ⟨by decide, by decide⟩) bx_58 h (hfF_31.trans hfF_40 (by decide)) rfl
                          · have c_56 := z_ne c_56
                            have by10_j164_43_60 : zB 1 1 y10_j164_43 := zB.neLo c_56 by10_j164_43 (zBc 0 0 (by decide)) (by decide)
                            refine lv_iconst (v := 0) hx hb dX14_unlike_223 (by decide) ?_
                            refine lv_goto (tgt := 228) hx hb dX14_unlike_224 (by decide) ?_
                            refine lv_iadd hx hb dX14_unlike_228 ?_
                            refine zi_add (lo := (-2147483648)) (hi := 2147483647) by8_j98_30 (zBc 0 0 (by decide)) (by decide) (fun x_61 bx_61 tx_61 => ?_)
                            refine lv_istore (lv' := [(8, .int x_61), (11, .int y11_j164_43), (10, .int y10_j164_43), (9, .int y9_j98_30), (7, .int x_25), (6, .int x_24), (5, .int x_23), (0, .ref th), (1, .int f_), (2, .int x), (3, .int y), (4, .int z)]) hx hb dX14_unlike_229 hl (by decide) rfl (fun ls hl => ?_)
                            obtain ⟨x_62, ex_62, bx_62, tx_62⟩ := z_inc (n := 1) (lo := 1) (hi := 4) by9_j98_30_38 (by decide)
                            refine lv_iinc (v := x_62) (lv' := [(9, .int x_62), (8, .int x_61), (11, .int y11_j164_43), (10, .int y10_j164_43), (7, .int x_25), (6, .int x_24), (5, .int x_23), (0, .ref th), (1, .int f_), (2, .int x), (3, .int y), (4, .int z)]) hx hb dX14_unlike_231 hl (k := 3) rfl ex_62 (by decide) rfl (fun ls hl => ?_)
                            refine lv_goto (tgt := 98) hx hb dX14_unlike_234 (by decide) ?_
                            exact ih_j98_30 _ (by have := bx_62.1; have := bx_62.2; have := bx_61.1; have := bx_61.2; have := by11_j164_43_55.1; have := by11_j164_43_55.2; have := by10_j164_43_60.1; have := by10_j164_43_60.2; have := bx_25_53.1; have := bx_25_53.2; have := bx_24.1; have := bx_24.2; have := bx_23.1; have := bx_23.2; have := bf__13.1; have := bf__13.2; have := (zB.all x).1; have := (zB.all x).2; have := (zB.all y).1; have := (zB.all y).2; have := (zB.all z).1; have := (zB.all z).2; have := bx_14.1; have := bx_14.2; have := bx_15.1; have := bx_15.2; have := bx_19.1; have := bx_19.2; have := bx_20.1; have := bx_20.2; have : (0 : Int32).toInt = 0 := (by decide); have : (4 : Int32).toInt = 4 := (by decide); have : (60 : Int32).toInt = 60 := (by decide); have := by9_j98_30.1; have := by9_j98_30.2; have := by8_j98_30.1; have := by8_j98_30.2; omega) ls x_62 x_61 F_40 H locs (lv_sub hl [0, 1, 4, 5, 6, 7, 8, 9, 10, 11] rfl) (bx_62.w ⟨by decide, by decide⟩) bx_61 h (hfF_31.trans hfF_40 (by decide)) rfl
                        · have c_54 := z_nle c_54
                          have by11_j164_43_63 : zB 0 59 y11_j164_43 := zB.ltL c_54 by11_j164_43 (zBc 60 60 (by decide)) (by decide)
                          refine lv_iload hx hb dX14_unlike_178 (lv_at hl 1 rfl) ?_
                          refine lv_if_eq (tgt := 216) hx hb dX14_unlike_180 (by decide) (fun c_64 => ?_) (fun c_64 => ?_)
                          · have c_64 := z_eq c_64
                            have by10_j164_43_65 : zB 0 0 y10_j164_43 := zB.eqL (a := 0) (b := 0) c_64 (zBc 0 0 (by decide))
                            refine lv_iload hx hb dX14_unlike_216 (lv_at hl 3 rfl) ?_
                            refine lv_iload hx hb dX14_unlike_218 (lv_at hl 1 rfl) ?_
                            refine lv_if_eq (tgt := 227) hx hb dX14_unlike_220 (by decide) (fun c_66 => ?_) (fun c_66 => ?_)
                            · have c_66 := z_eq c_66
                              refine lv_iconst (v := 1) hx hb dX14_unlike_227 (by decide) ?_
                              refine lv_iadd hx hb dX14_unlike_228 ?_
                              refine zi_any (fun x_67 bx_67 ex_67 => ?_)
                              refine lv_istore (lv' := [(8, .int x_67), (11, .int y11_j164_43), (10, .int y10_j164_43), (9, .int y9_j98_30), (7, .int x_25), (6, .int x_24), (5, .int x_23), (0, .ref th), (1, .int f_), (2, .int x), (3, .int y), (4, .int z)]) hx hb dX14_unlike_229 hl (by decide) rfl (fun ls hl => ?_)
                              obtain ⟨x_68, ex_68, bx_68, tx_68⟩ := z_inc (n := 1) (lo := 1) (hi := 4) by9_j98_30_38 (by decide)
                              refine lv_iinc (v := x_68) (lv' := [(9, .int x_68), (8, .int x_67), (11, .int y11_j164_43), (10, .int y10_j164_43), (7, .int x_25), (6, .int x_24), (5, .int x_23), (0, .ref th), (1, .int f_), (2, .int x), (3, .int y), (4, .int z)]) hx hb dX14_unlike_231 hl (k := 3) rfl ex_68 (by decide) rfl (fun ls hl => ?_)
                              refine lv_goto (tgt := 98) hx hb dX14_unlike_234 (by decide) ?_
                              exact ih_j98_30 _ (by have := bx_68.1; have := bx_68.2; have := bx_67.1; have := bx_67.2; have := by11_j164_43_63.1; have := by11_j164_43_63.2; have := by10_j164_43_65.1; have := by10_j164_43_65.2; have := bx_25_53.1; have := bx_25_53.2; have := bx_24.1; have := bx_24.2; have := bx_23.1; have := bx_23.2; have := bf__13.1; have := bf__13.2; have := (zB.all x).1; have := (zB.all x).2; have := (zB.all y).1; have := (zB.all y).2; have := (zB.all z).1; have := (zB.all z).2; have := bx_14.1; have := bx_14.2; have := bx_15.1; have := bx_15.2; have := bx_19.1; have := bx_19.2; have := bx_20.1; have := bx_20.2; have : (0 : Int32).toInt = 0 := (by decide); have : (1 : Int32).toInt = 1 := (by decide); have : (4 : Int32).toInt = 4 := (by decide); have : (60 : Int32).toInt = 60 := (by decide); have := by9_j98_30.1; have := by9_j98_30.2; have := by8_j98_30.1; have := by8_j98_30.2; omega) ls x_68 x_67 F_40 H locs (lv_sub hl [0, 1, 4, 5, 6, 7, 8, 9, 10, 11] rfl) (bx_68.w ⟨by decide, by decide⟩) bx_67 h (hfF_31.trans hfF_40 (by decide)) rfl
                            · have c_66 := z_ne c_66
                              exact zB.noNe c_66 by10_j164_43_65 (zBc 0 0 (by decide))
                          · have c_64 := z_ne c_64
                            have by10_j164_43_69 : zB 1 1 y10_j164_43 := zB.neLo c_64 by10_j164_43 (zBc 0 0 (by decide)) (by decide)
                            refine lv_aload_n hx hb dX14_unlike_183 rfl (lv_at hl 7 rfl) ?_
                            refine zt_getk (t := 14) (C := RX14) (T := TX14) (N := 40) Z h hth zin_14 rfl 23 (hfF_40.f hth 23 ⟨by decide, by decide⟩ (hfF_31.f hth 23 ⟨by decide, by decide⟩ (hfF_27.f hth 23 ⟨by decide, by decide⟩ (hfF_21.f hth 23 ⟨by decide, by decide⟩ (hfF_1.f hth 23 ⟨by decide, by decide⟩ kwk))))) ⟨by decide, rfl, by decide⟩ (zm_RX14 (List.mem_of_getElem? (i := 145) rfl)) (fun _ h9 => h9) dX14_unlike_184 ?_
                            refine zt_getrN (t := 12) (C := RX12) (T := TX12) (N := 10) Z h hwk zin_12 rfl 7 rfl ⟨by decide, rfl⟩ (zn_40 Z) (fun _ h9 => h9) dX14_unlike_187 (fun a_70 ka_70 ha_70 => ?_)
                            refine lv_iload hx hb dX14_unlike_190 (lv_at hl 0 rfl) ?_
                            refine zt_ialde (t := 165) Z h ha_70 ⟨by decide, rfl⟩ by11_j164_43_63 ⟨by decide, by decide⟩ dX14_unlike_192 (fun x_71 ex_71 bx_71 => ?_)
                            refine lv_aload_n hx hb dX14_unlike_193 rfl (lv_at hl 7 rfl) ?_
                            refine zt_getr (t := 14) (C := RX14) (T := TX14) (N := 40) Z h hth zin_14 rfl 30 rfl ⟨by decide, rfl⟩ (zm_RX14 (List.mem_of_getElem? (i := 197) rfl)) (fun _ h9 => h9) dX14_unlike_194 (fun a_72 ka_72 ha_72 => ?_)
                            refine lv_iload hx hb dX14_unlike_197 (lv_at hl 0 rfl) ?_
                            refine zt_ialde (t := 168) Z h ha_72 ⟨by decide, rfl⟩ by11_j164_43_63 ⟨by decide, by decide⟩ dX14_unlike_199 (fun x_73 ex_73 bx_73 => ?_)
                            refine lv_icmp_ne (tgt := 207) hx hb dX14_unlike_200 (by decide) (fun c_74 => ?_) (fun c_74 => ?_)
                            · have c_74 := z_ne c_74
                              refine lv_iconst (v := 0) hx hb dX14_unlike_207 (by decide) ?_
                              refine lv_istore (lv' := [(10, .int 0), (11, .int y11_j164_43), (9, .int y9_j98_30), (8, .int y8_j98_30), (7, .int x_25), (6, .int x_24), (5, .int x_23), (0, .ref th), (1, .int f_), (2, .int x), (3, .int y), (4, .int z)]) hx hb dX14_unlike_208 hl (by decide) rfl (fun ls hl => ?_)
                              obtain ⟨x_75, ex_75, bx_75, tx_75⟩ := z_inc (n := 1) (lo := 1) (hi := 60) by11_j164_43_63 (by decide)
                              refine lv_iinc (v := x_75) (lv' := [(11, .int x_75), (10, .int 0), (9, .int y9_j98_30), (8, .int y8_j98_30), (7, .int x_25), (6, .int x_24), (5, .int x_23), (0, .ref th), (1, .int f_), (2, .int x), (3, .int y), (4, .int z)]) hx hb dX14_unlike_210 hl (k := 1) rfl ex_75 (by decide) rfl (fun ls hl => ?_)
                              refine lv_goto (tgt := 164) hx hb dX14_unlike_213 (by decide) ?_
                              exact ih_j164_43 _ (by have := bx_75.1; have := bx_75.2; have := by9_j98_30_38.1; have := by9_j98_30_38.2; have := by8_j98_30.1; have := by8_j98_30.2; have := bx_25_53.1; have := bx_25_53.2; have := bx_24.1; have := bx_24.2; have := bx_23.1; have := bx_23.2; have := bf__13.1; have := bf__13.2; have := (zB.all x).1; have := (zB.all x).2; have := (zB.all y).1; have := (zB.all y).2; have := (zB.all z).1; have := (zB.all z).2; have := bx_14.1; have := bx_14.2; have := bx_15.1; have := bx_15.2; have := bx_19.1; have := bx_19.2; have := bx_20.1; have := bx_20.2; have : (0 : Int32).toInt = 0 := (by decide); have : (4 : Int32).toInt = 4 := (by decide); have : (60 : Int32).toInt = 60 := (by decide); have := by11_j164_43.1; have := by11_j164_43.2; have := by10_j164_43.1; have := by10_j164_43.2; omega) ls x_75 0 (lv_sub hl [0, 1, 2, 3, 4, 5, 6, 7, 8, 9, 10, 11] rfl) (bx_75.w ⟨by decide, by decide⟩) (zB.of ⟨by decide, by decide⟩) rfl
                            · have c_74 := z_eq c_74
                              refine lv_iconst (v := 1) hx hb dX14_unlike_203 (by decide) ?_
                              refine lv_goto (tgt := 208) hx hb dX14_unlike_204 (by decide) ?_
                              refine lv_istore (lv' := [(10, .int 1), (11, .int y11_j164_43), (9, .int y9_j98_30), (8, .int y8_j98_30), (7, .int x_25), (6, .int x_24), (5, .int x_23), (0, .ref th), (1, .int f_), (2, .int x), (3, .int y), (4, .int z)]) hx hb dX14_unlike_208 hl (by decide) rfl (fun ls hl => ?_)
                              obtain ⟨x_76, ex_76, bx_76, tx_76⟩ := z_inc (n := 1) (lo := 1) (hi := 60) by11_j164_43_63 (by decide)
                              refine lv_iinc (v := x_76) (lv' := [(11, .int x_76), (10, .int 1), (9, .int y9_j98_30), (8, .int y8_j98_30), (7, .int x_25), (6, .int x_24), (5, .int x_23), (0, .ref th), (1, .int f_), (2, .int x), (3, .int y), (4, .int z)]) hx hb dX14_unlike_210 hl (k := 1) rfl ex_76 (by decide) rfl (fun ls hl => ?_)
                              refine lv_goto (tgt := 164) hx hb dX14_unlike_213 (by decide) ?_
                              exact ih_j164_43 _ (by have := bx_76.1; have := bx_76.2; have := by9_j98_30_38.1; have := by9_j98_30_38.2; have := by8_j98_30.1; have := by8_j98_30.2; have := bx_25_53.1; have := bx_25_53.2; have := bx_24.1; have := bx_24.2; have := bx_23.1; have := bx_23.2; have := bf__13.1; have := bf__13.2; have := (zB.all x).1; have := (zB.all x).2; have := (zB.all y).1; have := (zB.all y).2; have := (zB.all z).1; have := (zB.all z).2; have := bx_14.1; have := bx_14.2; have := bx_15.1; have := bx_15.2; have := bx_19.1; have := bx_19.2; have := bx_20.1; have := bx_20.2; have : (0 : Int32).toInt = 0 := (by decide); have : (1 : Int32).toInt = 1 := (by decide); have : (4 : Int32).toInt = 4 := (by decide); have : (60 : Int32).toInt = 60 := (by decide); have := by11_j164_43.1; have := by11_j164_43.2; have := by10_j164_43.1; have := by10_j164_43.2; omega) ls x_76 1 (lv_sub hl [0, 1, 2, 3, 4, 5, 6, 7, 8, 9, 10, 11] rfl) (bx_76.w ⟨by decide, by decide⟩) (zB.of ⟨by decide, by decide⟩) rfl
                  exact j_j164_43 _ ls 0 w0_j159_42 (lv_sub hl [0, 1, 2, 3, 4, 5, 6, 7, 8, 9, 10, 11] rfl) (zB.of ⟨by decide, by decide⟩) bw0_j159_42 rfl
                refine lv_aload_n hx hb dX14_unlike_118 rfl (lv_at hl 5 rfl) ?_
                refine zt_getk (t := 14) (C := RX14) (T := TX14) (N := 40) Z h hth zin_14 rfl 23 (hfF_40.f hth 23 ⟨by decide, by decide⟩ (hfF_31.f hth 23 ⟨by decide, by decide⟩ (hfF_27.f hth 23 ⟨by decide, by decide⟩ (hfF_21.f hth 23 ⟨by decide, by decide⟩ (hfF_1.f hth 23 ⟨by decide, by decide⟩ kwk))))) ⟨by decide, rfl, by decide⟩ (zm_RX14 (List.mem_of_getElem? (i := 145) rfl)) (fun _ h9 => h9) dX14_unlike_119 ?_
                refine zt_getiN (t := 12) (C := RX12) (T := TX12) (N := 10) Z h hwk zin_12 rfl 0 rfl ⟨by decide, rfl⟩ (zn_32 Z) (fun _ h9 => h9) dX14_unlike_122 (fun x_77 kx_77 bx_77 => ?_)
                refine lv_iload hx hb dX14_unlike_125 (lv_at hl 4 rfl) ?_
                refine lv_icmp_ne (tgt := 158) hx hb dX14_unlike_127 (by decide) (fun c_78 => ?_) (fun c_78 => ?_)
                · have c_78 := z_ne c_78
                  refine lv_iconst (v := 0) hx hb dX14_unlike_158 (by decide) ?_
                  exact j_j159_42 ls 0 (lv_sub hl [0, 1, 2, 3, 4, 5, 6, 7, 8, 9] rfl) (zB.of ⟨by decide, by decide⟩)
                · have c_78 := z_eq c_78
                  refine lv_aload_n hx hb dX14_unlike_130 rfl (lv_at hl 5 rfl) ?_
                  refine zt_getk (t := 14) (C := RX14) (T := TX14) (N := 40) Z h hth zin_14 rfl 23 (hfF_40.f hth 23 ⟨by decide, by decide⟩ (hfF_31.f hth 23 ⟨by decide, by decide⟩ (hfF_27.f hth 23 ⟨by decide, by decide⟩ (hfF_21.f hth 23 ⟨by decide, by decide⟩ (hfF_1.f hth 23 ⟨by decide, by decide⟩ kwk))))) ⟨by decide, rfl, by decide⟩ (zm_RX14 (List.mem_of_getElem? (i := 145) rfl)) (fun _ h9 => h9) dX14_unlike_131 ?_
                  refine zt_getiN (t := 12) (C := RX12) (T := TX12) (N := 10) Z h hwk zin_12 rfl 1 rfl ⟨by decide, rfl⟩ (zn_33 Z) (fun _ h9 => h9) dX14_unlike_134 (fun x_79 kx_79 bx_79 => ?_)
                  refine lv_iload hx hb dX14_unlike_137 (lv_at hl 3 rfl) ?_
                  refine lv_icmp_ne (tgt := 158) hx hb dX14_unlike_139 (by decide) (fun c_80 => ?_) (fun c_80 => ?_)
                  · have c_80 := z_ne c_80
                    refine lv_iconst (v := 0) hx hb dX14_unlike_158 (by decide) ?_
                    exact j_j159_42 ls 0 (lv_sub hl [0, 1, 2, 3, 4, 5, 6, 7, 8, 9] rfl) (zB.of ⟨by decide, by decide⟩)
                  · have c_80 := z_eq c_80
                    refine lv_aload_n hx hb dX14_unlike_142 rfl (lv_at hl 5 rfl) ?_
                    refine zt_getk (t := 14) (C := RX14) (T := TX14) (N := 40) Z h hth zin_14 rfl 23 (hfF_40.f hth 23 ⟨by decide, by decide⟩ (hfF_31.f hth 23 ⟨by decide, by decide⟩ (hfF_27.f hth 23 ⟨by decide, by decide⟩ (hfF_21.f hth 23 ⟨by decide, by decide⟩ (hfF_1.f hth 23 ⟨by decide, by decide⟩ kwk))))) ⟨by decide, rfl, by decide⟩ (zm_RX14 (List.mem_of_getElem? (i := 145) rfl)) (fun _ h9 => h9) dX14_unlike_143 ?_
                    refine zt_getiN (t := 12) (C := RX12) (T := TX12) (N := 10) Z h hwk zin_12 rfl 3 rfl ⟨by decide, rfl⟩ (zn_35 Z) (fun _ h9 => h9) dX14_unlike_146 (fun x_81 kx_81 bx_81 => ?_)
                    refine lv_iload hx hb dX14_unlike_149 (lv_at hl 2 rfl) ?_
                    refine lv_icmp_ne (tgt := 158) hx hb dX14_unlike_151 (by decide) (fun c_82 => ?_) (fun c_82 => ?_)
                    · have c_82 := z_ne c_82
                      refine lv_iconst (v := 0) hx hb dX14_unlike_158 (by decide) ?_
                      exact j_j159_42 ls 0 (lv_sub hl [0, 1, 2, 3, 4, 5, 6, 7, 8, 9] rfl) (zB.of ⟨by decide, by decide⟩)
                    · have c_82 := z_eq c_82
                      refine lv_iconst (v := 1) hx hb dX14_unlike_154 (by decide) ?_
                      refine lv_goto (tgt := 159) hx hb dX14_unlike_155 (by decide) ?_
                      exact j_j159_42 ls 1 (lv_sub hl [0, 1, 2, 3, 4, 5, 6, 7, 8, 9] rfl) (zB.of ⟨by decide, by decide⟩)
          exact j_j98_30 _ ls 0 0 F_27 H locs (lv_sub hl [0, 1, 2, 3, 4, 5, 6, 7, 8, 9] rfl) (zB.of ⟨by decide, by decide⟩) (zB.of ⟨by decide, by decide⟩) h zFr.rf rfl
        · have c_28 := z_nle c_28
          have by8_j62_26_83 : zB 0 59 y8_j62_26 := zB.ltL c_28 by8_j62_26 (zBc 60 60 (by decide)) (by decide)
          refine lv_aload_n hx hb dX14_unlike_69 rfl (lv_at hl 4 rfl) ?_
          refine zt_getr (t := 14) (C := RX14) (T := TX14) (N := 40) Z h hth zin_14 rfl 30 rfl ⟨by decide, rfl⟩ (zm_RX14 (List.mem_of_getElem? (i := 197) rfl)) (fun _ h9 => h9) dX14_unlike_70 (fun a_84 ka_84 ha_84 => ?_)
          refine lv_iload hx hb dX14_unlike_73 (lv_at hl 0 rfl) ?_
          refine lv_aload_n hx hb dX14_unlike_75 rfl (lv_at hl 4 rfl) ?_
          refine zt_getk (t := 14) (C := RX14) (T := TX14) (N := 40) Z h hth zin_14 rfl 23 (hfF_27.f hth 23 ⟨by decide, by decide⟩ (hfF_21.f hth 23 ⟨by decide, by decide⟩ (hfF_1.f hth 23 ⟨by decide, by decide⟩ kwk))) ⟨by decide, rfl, by decide⟩ (zm_RX14 (List.mem_of_getElem? (i := 145) rfl)) (fun _ h9 => h9) dX14_unlike_76 ?_
          refine zt_getrN (t := 12) (C := RX12) (T := TX12) (N := 10) Z h hwk zin_12 rfl 7 rfl ⟨by decide, rfl⟩ (zn_40 Z) (fun _ h9 => h9) dX14_unlike_79 (fun a_85 ka_85 ha_85 => ?_)
          refine lv_iload hx hb dX14_unlike_82 (lv_at hl 0 rfl) ?_
          refine zt_ialde (t := 165) Z h ha_85 ⟨by decide, rfl⟩ by8_j62_26_83 ⟨by decide, by decide⟩ dX14_unlike_84 (fun x_86 ex_86 bx_86 => ?_)
          refine zt_iast (t := 168) Z h ha_84 ⟨by decide, rfl⟩ by8_j62_26_83 ⟨by decide, by decide⟩ bx_86 dX14_unlike_85 (fun H locs F_87 h hfF_87 => ?_)
          obtain ⟨x_88, ex_88, bx_88, tx_88⟩ := z_inc (n := 1) (lo := 1) (hi := 60) by8_j62_26_83 (by decide)
          refine lv_iinc (v := x_88) (lv' := [(8, .int x_88), (7, .int x_25), (6, .int x_24), (5, .int x_23), (0, .ref th), (1, .int f_), (2, .int x), (3, .int y), (4, .int z)]) hx hb dX14_unlike_86 hl (k := 0) rfl ex_88 (by decide) rfl (fun ls hl => ?_)
          refine lv_goto (tgt := 62) hx hb dX14_unlike_89 (by decide) ?_
          exact ih_j62_26 _ (by have := bx_88.1; have := bx_88.2; have := bx_25.1; have := bx_25.2; have := bx_24.1; have := bx_24.2; have := bx_23.1; have := bx_23.2; have := bf__13.1; have := bf__13.2; have := (zB.all x).1; have := (zB.all x).2; have := (zB.all y).1; have := (zB.all y).2; have := (zB.all z).1; have := (zB.all z).2; have := bx_14.1; have := bx_14.2; have := bx_15.1; have := bx_15.2; have := bx_19.1; have := bx_19.2; have := bx_20.1; have := bx_20.2; have : (0 : Int32).toInt = 0 := (by decide); have : (60 : Int32).toInt = 60 := (by decide); have := by8_j62_26.1; have := by8_j62_26.2; omega) ls x_88 F_87 H locs (lv_sub hl [0, 1, 2, 3, 4, 5, 6, 7, 8] rfl) (bx_88.w ⟨by decide, by decide⟩) h (hfF_27.trans hfF_87 (by decide)) rfl
    exact j_j62_26 _ ls 0 F_21 H locs (lv_sub hl [0, 1, 2, 3, 4, 5, 6, 7, 8] rfl) (zB.of ⟨by decide, by decide⟩) h zFr.rf rfl
  · have q_89 := q_8 c_11
    have c_11 := z_eq c_11
    have br_4_90 : zB 0 0 r_4 := zB.eqL (a := 0) (b := 0) c_11 (zBc 0 0 (by decide))
    refine lv_aload_n hx hb dX14_unlike_13 rfl (lv_at hl 0 rfl) ?_
    refine lv_iconst (v := 1) hx hb dX14_unlike_14 (by decide) ?_
    refine zk_Vi (As := [.int 1]) (rest := []) (bytes := cX14_refused) (maxL := 2) (ret := (some .int)) Z h (zc_X14_refused l D k Γ L F_1 H.size th 1 hth) (cwV 1 hg zv_RX14_307 rfl rfl rfl zd_X14_refused ⟨z_leR hRf (by decide), z_leR hRl (by decide)⟩) hth (by decide) rfl rfl hl.1 rfl (Nat.le_of_ble_eq_true rfl) dX14_unlike_15 ⟨Nat.zero_le _, Nat.zero_le _⟩ (fun r_91 F_92 H locs w_93 h hfF_92 => ?_)
    obtain ⟨br_91, -⟩ := w_93
    subst hQ
    exact W.iret (v := r_91) hx hb hr (fun t ht hW => ⟨⟨r_91, F_92, rfl, trivial, by rw [ht]; exact h.1, h.2.1, ((hfF_1.w (by decide)).trans hfF_92 (by decide))⟩, h.2.2.F ht⟩) h.2.2.2.2 dX14_unlike_18

set_option maxHeartbeats 4000000 in
set_option maxRecDepth 100000 in
theorem zc_X14_tell (l : Launch) (D : va_G) (k : Nat → ClassId) (Γ : Nat → Option Nat) (L : List Nat) (F : Nat → va_E) (sz : Nat) (th : Nat) (f_ : Int32) (x : Int32) (y : Int32) (z : Int32) (pr : Nat) (is_ : Int32) (nf : Int32) (sz_ : Int32) (hth : Γ th = some 14) (kpr : zfld F th 4 = .ref pr) (hpr : Γ pr = some 11) (p_mi : zMI Γ F th pr) (kis_ : zfld F th 7 = .int is_) (bis_ : zB 0 1 is_) (knf : zfld F pr 0 = .int nf) (bnf : zB 0 10 nf) (ksz_ : zfld F th 32 = .int sz_) (bsz_ : zB 0 12 sz_) : Met l yX14_tell zwX14_tell ({ frames := 1, cells := 0, slots := 0, locals := 21 }) (va_Pc [.ref th, .int f_, .int x, .int y, .int z] (zP D k Γ L F sz)) (va_Qi (fun (r : Int32) (u : Nat → va_E) => (zMI Γ u th pr) ∧ (∃ (s9 : Int32), zfld u th 32 = .int s9 ∧ zB 0 12 s9 ∧ ((is_.toInt ≠ 0 ∧ 0 ≤ f_.toInt ∧ f_.toInt < nf.toInt ∧ sz_.toInt < 12 → r.toInt = sz_.toInt ∧ s9.toInt = sz_.toInt + 1) ∧ (is_.toInt = 0 ∨ f_.toInt < 0 ∨ nf.toInt ≤ f_.toInt ∨ 12 ≤ sz_.toInt → r.toInt = -1 ∧ s9.toInt = sz_.toInt))) ∧ True) (zQ D k Γ L F [1400, 1401, 1402, 1432, 15100, 16900, 17000, 17100]) (zA L sz)) 0 0 (zA L sz) := by
  refine Met.ofW (cc := cX14_tell) (maxL := 5) (ret := (some .int)) (by decide) rfl ?_
  intro p e s m args below meth c s₁ B hml hv
  obtain ⟨rfl, hsz, hP, hK, hLn, hE, hI⟩ := hv
  have hx := B.exec
  have hb := B.bytes
  have hr := B.returns
  have hg : ∀ w ∈ zG, w.before _ s = true := fun w h9 => atoms_spec (ws := zwX14_tell) B.pre w (List.mem_cons_of_mem _ h9)
  have hown : s.vm.findClass RX14 = some m.cls := findClass_of_methodNamed B.named
  have hlocks := B.notSynchronized
  subst hsz
  have Z : zC p m c cX14_tell 5 s _ zG RX14 D k L := ⟨⟨hx, hb, hml, hown, hg⟩, hK, hLn, hE⟩
  have h : zH D k Γ L s F s.heap [] := ⟨hP, hI, va_S.rf⟩
  have hl := lv_entry ([.ref th, .int f_, .int x, .int y, .int z]) (n := 5) (Nat.le_of_ble_eq_true rfl)
  rw [lg_entry_eq]
  generalize (lg_sl ([.ref th, .int f_, .int x, .int y, .int z]) ++ List.replicate (5 - (lg_sl ([.ref th, .int f_, .int x, .int y, .int z])).length) Slot.unset).toArray = ls at hl ⊢
  have hl : lv_has ls 5 [(0, .ref th), (1, .int f_), (2, .int x), (3, .int y), (4, .int z)] := hl
  clear hP hK hLn hE hI
  generalize hargs : ([.ref th, .int f_, .int x, .int y, .int z] : List Value).toArray = args at *
  refine z_start (fun R Q hRf hRl hQ => ?_)
  have hRf : R.frames = 1 := hRf
  have hRl : R.locals = 21 := hRl
  have h9 := h
  refine lv_aload_n hx hb dX14_tell_0 rfl (lv_at hl 0 rfl) ?_
  refine lv_iconst (v := 0) hx hb dX14_tell_1 (by decide) ?_
  refine zt_put (t := 14) (C := RX14) (T := TX14) (N := 40) (v := .int 0) Z h hth zin_14 tyX14 tyX14_ok nmX14 rfl 0 rfl ⟨by decide, rfl⟩ (zm_RX14 (List.mem_of_getElem? (i := 105) rfl)) (fun _ h9 => h9) rfl (zV.i (zB.of ⟨by decide, by decide⟩)) rfl rfl dX14_tell_2 (fun H locs F_1 h hfF_1 kF_1 => ?_)
  refine lv_aload_n hx hb dX14_tell_5 rfl (lv_at hl 0 rfl) ?_
  refine lv_iload_n hx hb dX14_tell_6 rfl (lv_at hl 1 rfl) ?_
  refine zk_Vi (As := [.int f_]) (rest := []) (bytes := cX14_isFunction) (maxL := 2) (ret := (some .boolean)) Z h (zc_X14_isFunction l D k Γ L F_1 H.size th f_ pr is_ nf hth (hfF_1.f hth 4 ⟨by decide, by decide⟩ kpr) hpr (hfF_1.f hth 7 ⟨by decide, by decide⟩ kis_) bis_ (hfF_1.f hpr 0 ⟨by decide, by decide⟩ knf) bnf) (cwV 1 hg zv_RX14_336 rfl rfl rfl zd_X14_isFunction ⟨z_leR hRf (by decide), z_leR hRl (by decide)⟩) hth (by decide) rfl rfl hl.1 rfl (Nat.le_of_ble_eq_true rfl) dX14_tell_7 ⟨Nat.zero_le _, Nat.zero_le _⟩ (fun r_2 F_3 H locs w_4 h hfF_3 => ?_)
  obtain ⟨rfl, br_2, q_5, q_6, q_7, q_8, -⟩ := w_4
  refine lv_if_ne (tgt := 19) hx hb dX14_tell_10 (by decide) (fun c_9 => ?_) (fun c_9 => ?_)
  · have q_10 := q_5 c_9
    have bf__11 : zB 0 9 f_ := q_7 c_9
    obtain ⟨⟨x_12, kx_12, hx_12⟩, x_13, kx_13, hx_13⟩ := q_8 c_9
    have bx_12 := zB.all x_12
    have bx_13 : zB 0 10 x_13 := by obtain ⟨x9, k9, b9⟩ := z_learn (j := 0) (lo := 0) (hi := 10) h hpr (by decide) rfl; rw [z_vi kx_13 k9]; exact b9
    have p_14 := (p_mi.fr hfF_1 hth (by decide))
    have wf_15 := zMI.wf p_14 kx_12 hx_12
    have c_9 := z_ne c_9
    have br_2_16 : zB 1 1 r_2 := zB.neLo c_9 br_2 (zBc 0 0 (by decide)) (by decide)
    refine lv_aload_n hx hb dX14_tell_19 rfl (lv_at hl 0 rfl) ?_
    refine zt_getk (t := 14) (C := RX14) (T := TX14) (N := 40) Z h hth zin_14 rfl 32 (hfF_1.f hth 32 ⟨by decide, by decide⟩ ksz_) ⟨by decide, rfl, by decide⟩ (zm_RX14 (List.mem_of_getElem? (i := 122) rfl)) (fun _ h9 => h9) dX14_tell_20 ?_
    refine lv_bipush (v := 12) hx hb dX14_tell_23 (by decide) ?_
    refine lv_icmp_ne (tgt := 34) hx hb dX14_tell_25 (by decide) (fun c_17 => ?_) (fun c_17 => ?_)
    · have c_17 := z_ne c_17
      have bsz__18 : zB 0 11 sz_ := zB.neHi c_17 bsz_ (zBc 12 12 (by decide)) (by decide)
      refine lv_aload_n hx hb dX14_tell_34 rfl (lv_at hl 0 rfl) ?_
      refine zt_getr (t := 14) (C := RX14) (T := TX14) (N := 40) Z h hth zin_14 rfl 34 rfl ⟨by decide, rfl⟩ (zm_RX14 (List.mem_of_getElem? (i := 212) rfl)) (fun _ h9 => h9) dX14_tell_35 (fun a_19 ka_19 ha_19 => ?_)
      refine lv_aload_n hx hb dX14_tell_38 rfl (lv_at hl 0 rfl) ?_
      refine zt_getk (t := 14) (C := RX14) (T := TX14) (N := 40) Z h hth zin_14 rfl 32 (hfF_1.f hth 32 ⟨by decide, by decide⟩ ksz_) ⟨by decide, rfl, by decide⟩ (zm_RX14 (List.mem_of_getElem? (i := 122) rfl)) (fun _ h9 => h9) dX14_tell_39 ?_
      refine lv_iload_n hx hb dX14_tell_42 rfl (lv_at hl 1 rfl) ?_
      refine zt_iaste (t := 151) Z h ha_19 ⟨by decide, rfl⟩ bsz__18 ⟨by decide, by decide⟩ bf__11 dX14_tell_43 (fun H locs F_20 h hfF_20 eF_20 gF_20 => ?_)
      refine lv_aload_n hx hb dX14_tell_44 rfl (lv_at hl 0 rfl) ?_
      refine zt_getr (t := 14) (C := RX14) (T := TX14) (N := 40) Z h hth zin_14 rfl 35 rfl ⟨by decide, rfl⟩ (zm_RX14 (List.mem_of_getElem? (i := 213) rfl)) (fun _ h9 => h9) dX14_tell_45 (fun a_21 ka_21 ha_21 => ?_)
      refine lv_aload_n hx hb dX14_tell_48 rfl (lv_at hl 0 rfl) ?_
      refine zt_getk (t := 14) (C := RX14) (T := TX14) (N := 40) Z h hth zin_14 rfl 32 (hfF_20.f hth 32 ⟨by decide, by decide⟩ (hfF_1.f hth 32 ⟨by decide, by decide⟩ ksz_)) ⟨by decide, rfl, by decide⟩ (zm_RX14 (List.mem_of_getElem? (i := 122) rfl)) (fun _ h9 => h9) dX14_tell_49 ?_
      refine lv_iload_n hx hb dX14_tell_52 rfl (lv_at hl 2 rfl) ?_
      refine zt_iast (t := 169) Z h ha_21 ⟨by decide, rfl⟩ bsz__18 ⟨by decide, by decide⟩ (zB.all x) dX14_tell_53 (fun H locs F_22 h hfF_22 => ?_)
      refine lv_aload_n hx hb dX14_tell_54 rfl (lv_at hl 0 rfl) ?_
      refine zt_getr (t := 14) (C := RX14) (T := TX14) (N := 40) Z h hth zin_14 rfl 36 rfl ⟨by decide, rfl⟩ (zm_RX14 (List.mem_of_getElem? (i := 214) rfl)) (fun _ h9 => h9) dX14_tell_55 (fun a_23 ka_23 ha_23 => ?_)
      refine lv_aload_n hx hb dX14_tell_58 rfl (lv_at hl 0 rfl) ?_
      refine zt_getk (t := 14) (C := RX14) (T := TX14) (N := 40) Z h hth zin_14 rfl 32 (hfF_22.f hth 32 ⟨by decide, by decide⟩ (hfF_20.f hth 32 ⟨by decide, by decide⟩ (hfF_1.f hth 32 ⟨by decide, by decide⟩ ksz_))) ⟨by decide, rfl, by decide⟩ (zm_RX14 (List.mem_of_getElem? (i := 122) rfl)) (fun _ h9 => h9) dX14_tell_59 ?_
      refine lv_iload_n hx hb dX14_tell_62 rfl (lv_at hl 3 rfl) ?_
      refine zt_iast (t := 170) Z h ha_23 ⟨by decide, rfl⟩ bsz__18 ⟨by decide, by decide⟩ (zB.all y) dX14_tell_63 (fun H locs F_24 h hfF_24 => ?_)
      refine lv_aload_n hx hb dX14_tell_64 rfl (lv_at hl 0 rfl) ?_
      refine zt_getr (t := 14) (C := RX14) (T := TX14) (N := 40) Z h hth zin_14 rfl 37 rfl ⟨by decide, rfl⟩ (zm_RX14 (List.mem_of_getElem? (i := 215) rfl)) (fun _ h9 => h9) dX14_tell_65 (fun a_25 ka_25 ha_25 => ?_)
      refine lv_aload_n hx hb dX14_tell_68 rfl (lv_at hl 0 rfl) ?_
      refine zt_getk (t := 14) (C := RX14) (T := TX14) (N := 40) Z h hth zin_14 rfl 32 (hfF_24.f hth 32 ⟨by decide, by decide⟩ (hfF_22.f hth 32 ⟨by decide, by decide⟩ (hfF_20.f hth 32 ⟨by decide, by decide⟩ (hfF_1.f hth 32 ⟨by decide, by decide⟩ ksz_)))) ⟨by decide, rfl, by decide⟩ (zm_RX14 (List.mem_of_getElem? (i := 122) rfl)) (fun _ h9 => h9) dX14_tell_69 ?_
      refine lv_iload hx hb dX14_tell_72 (lv_at hl 4 rfl) ?_
      refine zt_iast (t := 171) Z h ha_25 ⟨by decide, rfl⟩ bsz__18 ⟨by decide, by decide⟩ (zB.all z) dX14_tell_74 (fun H locs F_26 h hfF_26 => ?_)
      refine lv_aload_n hx hb dX14_tell_75 rfl (lv_at hl 0 rfl) ?_
      refine lv_dup hx hb dX14_tell_76 rfl ?_
      refine zt_getk (t := 14) (C := RX14) (T := TX14) (N := 40) Z h hth zin_14 rfl 32 (hfF_26.f hth 32 ⟨by decide, by decide⟩ (hfF_24.f hth 32 ⟨by decide, by decide⟩ (hfF_22.f hth 32 ⟨by decide, by decide⟩ (hfF_20.f hth 32 ⟨by decide, by decide⟩ (hfF_1.f hth 32 ⟨by decide, by decide⟩ ksz_))))) ⟨by decide, rfl, by decide⟩ (zm_RX14 (List.mem_of_getElem? (i := 122) rfl)) (fun _ h9 => h9) dX14_tell_77 ?_
      refine lv_iconst (v := 1) hx hb dX14_tell_80 (by decide) ?_
      refine lv_iadd hx hb dX14_tell_81 ?_
      refine zi_add (lo := 1) (hi := 12) bsz__18 (zBc 1 1 (by decide)) (by decide) (fun x_27 bx_27 tx_27 => ?_)
      refine zt_put (t := 14) (C := RX14) (T := TX14) (N := 40) (v := .int x_27) Z h hth zin_14 tyX14 tyX14_ok nmX14 rfl 32 rfl ⟨by decide, rfl⟩ (zm_RX14 (List.mem_of_getElem? (i := 122) rfl)) (fun _ h9 => h9) rfl (zV.i (bx_27.w ⟨by decide, by decide⟩)) rfl rfl dX14_tell_82 (fun H locs F_28 h hfF_28 kF_28 => ?_)
      refine lv_aload_n hx hb dX14_tell_85 rfl (lv_at hl 0 rfl) ?_
      refine lv_aload_n hx hb dX14_tell_86 rfl (lv_at hl 0 rfl) ?_
      refine zt_getk (t := 14) (C := RX14) (T := TX14) (N := 40) Z h hth zin_14 rfl 32 kF_28 ⟨by decide, rfl, by decide⟩ (zm_RX14 (List.mem_of_getElem? (i := 122) rfl)) (fun _ h9 => h9) dX14_tell_87 ?_
      refine lv_iconst (v := 1) hx hb dX14_tell_90 (by decide) ?_
      refine lv_isub hx hb dX14_tell_91 ?_
      refine zi_sub (lo := 0) (hi := 11) bx_27 (zBc 1 1 (by decide)) (by decide) (fun x_29 bx_29 tx_29 => ?_)
      refine zk_Vi (As := [.int x_29]) (rest := []) (bytes := cX14_done) (maxL := 2) (ret := (some .int)) Z h (zc_X14_done l D k Γ L F_28 H.size th x_29 hth) (cwV 1 hg zv_RX14_333 rfl rfl rfl zd_X14_done ⟨z_leR hRf (by decide), z_leR hRl (by decide)⟩) hth (by decide) rfl rfl hl.1 rfl (Nat.le_of_ble_eq_true rfl) dX14_tell_92 ⟨Nat.zero_le _, Nat.zero_le _⟩ (fun r_30 F_31 H locs w_32 h hfF_31 => ?_)
      obtain ⟨q_33, -⟩ := w_32
      have br_30 := zB.all r_30
      subst hQ
      exact W.iret (v := r_30) hx hb hr (fun t ht hW => ⟨⟨r_30, F_31, rfl, ⟨(zMI.tell p_14 (((((((hfF_20.w (by decide)).trans hfF_22 (by decide)).trans hfF_24 (by decide)).trans hfF_26 (by decide)).trans hfF_28 (by decide)).trans hfF_31 (by decide)) : zFr Γ [1401, 1402, 1432, 15100, 16900, 17000, 17100] F_1 F_31) hth (by decide) kx_12 hx_12 (hfF_1.f hth 32 ⟨by decide, by decide⟩ ksz_) (hfF_31.f hth 32 ⟨by decide, by decide⟩ kF_28) (by have := bf__11.1; have := bf__11.2; have := (zB.all x).1; have := (zB.all x).2; have := (zB.all y).1; have := (zB.all y).2; have := (zB.all z).1; have := (zB.all z).2; have := br_30.1; have := br_30.2; have := bsz__18.1; have := bsz__18.2; have := bx_12.1; have := bx_12.2; have := bx_13.1; have := bx_13.2; have := bx_27.1; have := bx_27.2; have := bis_.1; have := bis_.2; have := bnf.1; have := bnf.2; have : (0 : Int32).toInt = 0 := (by decide); have : (1 : Int32).toInt = 1 := (by decide); have : (12 : Int32).toInt = 12 := (by decide); omega) (by have := bf__11.1; have := bf__11.2; have := (zB.all x).1; have := (zB.all x).2; have := (zB.all y).1; have := (zB.all y).2; have := (zB.all z).1; have := (zB.all z).2; have := br_30.1; have := br_30.2; have := bsz__18.1; have := bsz__18.2; have := bx_27.1; have := bx_27.2; have := bx_12.1; have := bx_12.2; have := bx_13.1; have := bx_13.2; have := bis_.1; have := bis_.2; have := bnf.1; have := bnf.2; have : (0 : Int32).toInt = 0 := (by decide); have : (1 : Int32).toInt = 1 := (by decide); have : (12 : Int32).toInt = 12 := (by decide); omega) ka_19 (((((((((hfF_22.w (by decide)).trans hfF_24 (by decide)).trans hfF_26 (by decide)).trans hfF_28 (by decide)).trans hfF_31 (by decide)) : zFr Γ [1401, 1402, 1432, 16900, 17000, 17100] F_20 F_31).elf ha_19 ⟨by decide, by decide⟩).trans (zel_st eF_20 gF_20)).trans (congrArg (fun z => upd z (Int32.toNatClampNeg sz_) f_) rfl)) kx_13 (by have := bf__11.1; have := bf__11.2; have := (zB.all x).1; have := (zB.all x).2; have := (zB.all y).1; have := (zB.all y).2; have := (zB.all z).1; have := (zB.all z).2; have := br_30.1; have := br_30.2; have := bx_13.1; have := bx_13.2; have := bx_12.1; have := bx_12.2; have := bx_27.1; have := bx_27.2; have := bis_.1; have := bis_.2; have := bnf.1; have := bnf.2; have := bsz__18.1; have := bsz__18.2; have : (0 : Int32).toInt = 0 := (by decide); have : (1 : Int32).toInt = 1 := (by decide); have : (12 : Int32).toInt = 12 := (by decide); omega)), ⟨x_27, (hfF_31.f hth 32 ⟨by decide, by decide⟩ kF_28), (bx_27.w ⟨by decide, by decide⟩), (by have := bf__11.1; have := bf__11.2; have := (zB.all x).1; have := (zB.all x).2; have := (zB.all y).1; have := (zB.all y).2; have := (zB.all z).1; have := (zB.all z).2; have := br_30.1; have := br_30.2; have := bx_27.1; have := bx_27.2; have := bx_12.1; have := bx_12.2; have := bx_13.1; have := bx_13.2; have := bis_.1; have := bis_.2; have := bnf.1; have := bnf.2; have := bsz__18.1; have := bsz__18.2; have : (0 : Int32).toInt = 0 := (by decide); have : (1 : Int32).toInt = 1 := (by decide); have : (12 : Int32).toInt = 12 := (by decide); omega)⟩, trivial⟩, by rw [ht]; exact h.1, h.2.1, (((((((hfF_1.w (by decide)).trans hfF_20 (by decide)).trans hfF_22 (by decide)).trans hfF_24 (by decide)).trans hfF_26 (by decide)).trans hfF_28 (by decide)).trans hfF_31 (by decide))⟩, h.2.2.F ht⟩) h.2.2.2.2 dX14_tell_95
    · have c_17 := z_eq c_17
      have bsz__34 : zB 12 12 sz_ := zB.eqL (a := 0) (b := 0) c_17 (zBc 12 12 (by decide))
      refine lv_aload_n hx hb dX14_tell_28 rfl (lv_at hl 0 rfl) ?_
      refine lv_iconst (v := 3) hx hb dX14_tell_29 (by decide) ?_
      refine zk_Vi (As := [.int 3]) (rest := []) (bytes := cX14_refused) (maxL := 2) (ret := (some .int)) Z h (zc_X14_refused l D k Γ L F_1 H.size th 3 hth) (cwV 1 hg zv_RX14_307 rfl rfl rfl zd_X14_refused ⟨z_leR hRf (by decide), z_leR hRl (by decide)⟩) hth (by decide) rfl rfl hl.1 rfl (Nat.le_of_ble_eq_true rfl) dX14_tell_30 ⟨Nat.zero_le _, Nat.zero_le _⟩ (fun r_35 F_36 H locs w_37 h hfF_36 => ?_)
      obtain ⟨br_35, -⟩ := w_37
      have p_38 := (p_14.fr hfF_36 hth (by decide))
      subst hQ
      exact W.iret (v := r_35) hx hb hr (fun t ht hW => ⟨⟨r_35, F_36, rfl, ⟨p_38, ⟨sz_, (hfF_36.f hth 32 ⟨by decide, by decide⟩ (hfF_1.f hth 32 ⟨by decide, by decide⟩ ksz_)), (bsz__34.w ⟨by decide, by decide⟩), (by have := bf__11.1; have := bf__11.2; have := (zB.all x).1; have := (zB.all x).2; have := (zB.all y).1; have := (zB.all y).2; have := (zB.all z).1; have := (zB.all z).2; have := br_35.1; have := br_35.2; have := bsz__34.1; have := bsz__34.2; have := bx_12.1; have := bx_12.2; have := bx_13.1; have := bx_13.2; have := bis_.1; have := bis_.2; have := bnf.1; have := bnf.2; have : (0 : Int32).toInt = 0 := (by decide); have : (12 : Int32).toInt = 12 := (by decide); omega)⟩, trivial⟩, by rw [ht]; exact h.1, h.2.1, ((hfF_1.w (by decide)).trans hfF_36 (by decide))⟩, h.2.2.F ht⟩) h.2.2.2.2 dX14_tell_33
  · have q_39 := q_6 c_9
    have c_9 := z_eq c_9
    have br_2_40 : zB 0 0 r_2 := zB.eqL (a := 0) (b := 0) c_9 (zBc 0 0 (by decide))
    refine lv_aload_n hx hb dX14_tell_13 rfl (lv_at hl 0 rfl) ?_
    refine lv_iconst (v := 1) hx hb dX14_tell_14 (by decide) ?_
    refine zk_Vi (As := [.int 1]) (rest := []) (bytes := cX14_refused) (maxL := 2) (ret := (some .int)) Z h (zc_X14_refused l D k Γ L F_1 H.size th 1 hth) (cwV 1 hg zv_RX14_307 rfl rfl rfl zd_X14_refused ⟨z_leR hRf (by decide), z_leR hRl (by decide)⟩) hth (by decide) rfl rfl hl.1 rfl (Nat.le_of_ble_eq_true rfl) dX14_tell_15 ⟨Nat.zero_le _, Nat.zero_le _⟩ (fun r_41 F_42 H locs w_43 h hfF_42 => ?_)
    obtain ⟨br_41, -⟩ := w_43
    have p_44 := ((p_mi.fr hfF_1 hth (by decide)).fr hfF_42 hth (by decide))
    subst hQ
    exact W.iret (v := r_41) hx hb hr (fun t ht hW => ⟨⟨r_41, F_42, rfl, ⟨p_44, ⟨sz_, (hfF_42.f hth 32 ⟨by decide, by decide⟩ (hfF_1.f hth 32 ⟨by decide, by decide⟩ ksz_)), bsz_, (by have := (zB.all f_).1; have := (zB.all f_).2; have := (zB.all x).1; have := (zB.all x).2; have := (zB.all y).1; have := (zB.all y).2; have := (zB.all z).1; have := (zB.all z).2; have := br_41.1; have := br_41.2; have := bsz_.1; have := bsz_.2; have := bis_.1; have := bis_.2; have := bnf.1; have := bnf.2; have : (0 : Int32).toInt = 0 := (by decide); omega)⟩, trivial⟩, by rw [ht]; exact h.1, h.2.1, ((hfF_1.w (by decide)).trans hfF_42 (by decide))⟩, h.2.2.F ht⟩) h.2.2.2.2 dX14_tell_18

set_option maxHeartbeats 4000000 in
set_option maxRecDepth 100000 in
theorem zc_X14_shownBy (l : Launch) (D : va_G) (k : Nat → ClassId) (Γ : Nat → Option Nat) (L : List Nat) (F : Nat → va_E) (sz : Nat) (th : Nat) (st : Nat) (pr : Nat) (wk : Nat) (hth : Γ th = some 14) (kst : zfld F th 9 = .ref st) (hst : Γ st = some 13) (kpr : zfld F th 4 = .ref pr) (hpr : Γ pr = some 11) (kwk : zfld F th 23 = .ref wk) (hwk : Γ wk = some 12) (p_mi : zMI Γ F th pr) : Met l yX14_shownBy zwX14_shownBy ({ frames := 87, cells := 0, slots := 0, locals := 3453 }) (va_Pc [.ref th] (zP D k Γ L F sz)) (va_Ql (fun (r : Int64) (u : Nat → va_E) => True) (zQ D k Γ L F [1200, 1201, 1202, 1203, 1204, 1205, 1206, 1306, 1307, 1426, 1427, 1428, 1429, 15000, 16500, 16600, 16700, 17300]) (zA L sz)) 0 0 (zA L sz) := by
  refine Met.ofW (cc := cX14_shownBy) (maxL := 4) (ret := (some .long)) (by decide) rfl ?_
  intro p e s m args below meth c s₁ B hml hv
  obtain ⟨rfl, hsz, hP, hK, hLn, hE, hI⟩ := hv
  have hx := B.exec
  have hb := B.bytes
  have hr := B.returns
  have hg : ∀ w ∈ zG, w.before _ s = true := fun w h9 => atoms_spec (ws := zwX14_shownBy) B.pre w (List.mem_cons_of_mem _ h9)
  have hown : s.vm.findClass RX14 = some m.cls := findClass_of_methodNamed B.named
  have hlocks := B.notSynchronized
  subst hsz
  have Z : zC p m c cX14_shownBy 4 s _ zG RX14 D k L := ⟨⟨hx, hb, hml, hown, hg⟩, hK, hLn, hE⟩
  have h : zH D k Γ L s F s.heap [] := ⟨hP, hI, va_S.rf⟩
  have hl := lv_entry ([.ref th]) (n := 4) (Nat.le_of_ble_eq_true rfl)
  rw [lg_entry_eq]
  generalize (lg_sl ([.ref th]) ++ List.replicate (4 - (lg_sl ([.ref th])).length) Slot.unset).toArray = ls at hl ⊢
  have hl : lv_has ls 4 [(0, .ref th)] := hl
  clear hP hK hLn hE hI
  generalize hargs : ([.ref th] : List Value).toArray = args at *
  refine z_start (fun R Q hRf hRl hQ => ?_)
  have hRf : R.frames = 87 := hRf
  have hRl : R.locals = 3453 := hRl
  have h9 := h
  refine lv_lconst (v := 0) hx hb dX14_shownBy_0 (by decide) ?_
  refine lv_lstore_n (lv' := [(1, .long 0), (0, .ref th)]) hx hb dX14_shownBy_1 rfl hl (by decide) rfl (fun ls hl => ?_)
  refine lv_iconst (v := 0) hx hb dX14_shownBy_2 (by decide) ?_
  refine lv_istore_n (lv' := [(3, .int 0), (1, .long 0), (0, .ref th)]) hx hb dX14_shownBy_3 rfl hl (by decide) rfl (fun ls hl => ?_)
  have j_j4_1 : ∀ (n : Nat) (ls : Array Slot) (y3_j4_1 : Int32) (y1_j4_1 : Int64) (F_2 : Nat → va_E) (H : Heap) (locs : List Loc), lv_has ls 4 [(3, .int y3_j4_1), (1, .long y1_j4_1), (0, .ref th)] → zB 0 12 y3_j4_1 → zH D k Γ L s F_2 H locs → zFr Γ [1200, 1201, 1202, 1203, 1204, 1205, 1206, 1306, 1307, 1426, 1427, 1428, 1429, 15000, 16500, 16600, 16700, 17300] F F_2 → (2147483647 - y3_j4_1.toInt).toNat = n → W p l e R s m args below meth c H locs 0 0 Q (F0 m 4 ls []) := by
    intro n
    induction n using Nat.strongRecOn with
    | _ n ih_j4_1 =>
      intro ls y3_j4_1 y1_j4_1 F_2 H locs hl by3_j4_1 h hfF_2 hn_j4_1
      refine lv_iload_n hx hb dX14_shownBy_4 rfl (lv_at hl 0 rfl) ?_
      refine lv_aload_n hx hb dX14_shownBy_5 rfl (lv_at hl 2 rfl) ?_
      refine zt_geti (t := 14) (C := RX14) (T := TX14) (N := 40) Z h hth zin_14 rfl 32 rfl ⟨by decide, rfl⟩ (zm_RX14 (List.mem_of_getElem? (i := 122) rfl)) (fun _ h9 => h9) dX14_shownBy_6 (fun x_3 kx_3 bx_3 => ?_)
      refine lv_icmp_ge (tgt := 72) hx hb dX14_shownBy_9 (by decide) (fun c_4 => ?_) (fun c_4 => ?_)
      · have c_4 := z_le c_4
        refine lv_lload_n hx hb dX14_shownBy_72 rfl (lv_at hl 1 rfl) ?_
        subst hQ
        exact W.lret (v := y1_j4_1) hx hb hr (fun t ht hW => ⟨⟨y1_j4_1, F_2, rfl, trivial, by rw [ht]; exact h.1, h.2.1, hfF_2⟩, h.2.2.F ht⟩) h.2.2.2.2 dX14_shownBy_73
      · have c_4 := z_nle c_4
        have by3_j4_1_5 : zB 0 11 y3_j4_1 := zB.ltL c_4 by3_j4_1 bx_3 (by decide)
        have bx_3_6 : zB 1 12 x_3 := zB.ltR c_4 by3_j4_1 bx_3 (by decide)
        refine lv_aload_n hx hb dX14_shownBy_12 rfl (lv_at hl 2 rfl) ?_
        refine lv_aload_n hx hb dX14_shownBy_13 rfl (lv_at hl 2 rfl) ?_
        refine zt_getr (t := 14) (C := RX14) (T := TX14) (N := 40) Z h hth zin_14 rfl 34 rfl ⟨by decide, rfl⟩ (zm_RX14 (List.mem_of_getElem? (i := 212) rfl)) (fun _ h9 => h9) dX14_shownBy_14 (fun a_7 ka_7 ha_7 => ?_)
        refine lv_iload_n hx hb dX14_shownBy_17 rfl (lv_at hl 0 rfl) ?_
        refine zt_ialde (t := 151) Z h ha_7 ⟨by decide, rfl⟩ by3_j4_1_5 ⟨by decide, by decide⟩ dX14_shownBy_18 (fun x_8 ex_8 bx_8 => ?_)
        refine lv_aload_n hx hb dX14_shownBy_19 rfl (lv_at hl 2 rfl) ?_
        refine zt_getr (t := 14) (C := RX14) (T := TX14) (N := 40) Z h hth zin_14 rfl 35 rfl ⟨by decide, rfl⟩ (zm_RX14 (List.mem_of_getElem? (i := 213) rfl)) (fun _ h9 => h9) dX14_shownBy_20 (fun a_9 ka_9 ha_9 => ?_)
        refine lv_iload_n hx hb dX14_shownBy_23 rfl (lv_at hl 0 rfl) ?_
        refine zt_ialde (t := 169) Z h ha_9 ⟨by decide, rfl⟩ by3_j4_1_5 ⟨by decide, by decide⟩ dX14_shownBy_24 (fun x_10 ex_10 bx_10 => ?_)
        refine lv_aload_n hx hb dX14_shownBy_25 rfl (lv_at hl 2 rfl) ?_
        refine zt_getr (t := 14) (C := RX14) (T := TX14) (N := 40) Z h hth zin_14 rfl 36 rfl ⟨by decide, rfl⟩ (zm_RX14 (List.mem_of_getElem? (i := 214) rfl)) (fun _ h9 => h9) dX14_shownBy_26 (fun a_11 ka_11 ha_11 => ?_)
        refine lv_iload_n hx hb dX14_shownBy_29 rfl (lv_at hl 0 rfl) ?_
        refine zt_ialde (t := 170) Z h ha_11 ⟨by decide, rfl⟩ by3_j4_1_5 ⟨by decide, by decide⟩ dX14_shownBy_30 (fun x_12 ex_12 bx_12 => ?_)
        refine lv_aload_n hx hb dX14_shownBy_31 rfl (lv_at hl 2 rfl) ?_
        refine zt_getr (t := 14) (C := RX14) (T := TX14) (N := 40) Z h hth zin_14 rfl 37 rfl ⟨by decide, rfl⟩ (zm_RX14 (List.mem_of_getElem? (i := 215) rfl)) (fun _ h9 => h9) dX14_shownBy_32 (fun a_13 ka_13 ha_13 => ?_)
        refine lv_iload_n hx hb dX14_shownBy_35 rfl (lv_at hl 0 rfl) ?_
        refine zt_ialde (t := 171) Z h ha_13 ⟨by decide, rfl⟩ by3_j4_1_5 ⟨by decide, by decide⟩ dX14_shownBy_36 (fun x_14 ex_14 bx_14 => ?_)
        refine lv_sipush (v := 2000) hx hb dX14_shownBy_37 (by decide) ?_
        refine lv_iconst (v := (-1)) hx hb dX14_shownBy_40 (by decide) ?_
        have p_15 := (p_mi.fr hfF_2 hth (by decide))
        obtain ⟨wf_17, x_16, kx_16, hx_16⟩ := zMI.at (k := y3_j4_1) p_15 kx_3 ka_7 (by have := by3_j4_1_5.1; have := by3_j4_1_5.2; have := bx_14.1; have := bx_14.2; have := bx_12.1; have := bx_12.2; have := bx_10.1; have := bx_10.2; have := bx_8.1; have := bx_8.2; have := bx_3_6.1; have := bx_3_6.2; have : ((-1) : Int32).toInt = (-1) := (by decide); have : (2000 : Int32).toInt = 2000 := (by decide); omega) (by have := by3_j4_1_5.1; have := by3_j4_1_5.2; have := bx_14.1; have := bx_14.2; have := bx_12.1; have := bx_12.2; have := bx_10.1; have := bx_10.2; have := bx_8.1; have := bx_8.2; have := bx_3_6.1; have := bx_3_6.2; have : ((-1) : Int32).toInt = (-1) := (by decide); have : (2000 : Int32).toInt = 2000 := (by decide); omega)
        rw [ex_8] at hx_16
        have bx_16 : zB 0 10 x_16 := by obtain ⟨x9, k9, b9⟩ := z_learn (j := 0) (lo := 0) (hi := 10) h hpr (by decide) rfl; rw [z_vi kx_16 k9]; exact b9
        obtain ⟨x_18, kx_18, bx_18⟩ := z_learn (j := 1) (lo := 0) (hi := 60) h hpr (by decide) rfl
        obtain ⟨x_19, kx_19, bx_19⟩ := z_learn (j := 2) (lo := 0) (hi := 620) h hpr (by decide) rfl
        refine zk_VHv (hh := [(108, 120, 123, 26)]) (As := [.int x_8, .int x_10, .int x_12, .int x_14, .int 2000, .int (-1)]) (rest := []) (bytes := cX14_runs) (maxL := 8) (ret := none) Z h (zc_X14_runs l D k Γ L F_2 H.size th x_8 x_10 x_12 x_14 2000 (-1) st pr x_16 x_18 x_19 wk hth bx_8 (zB.of ⟨by decide, by decide⟩) (hfF_2.f hth 9 ⟨by decide, by decide⟩ kst) hst (hfF_2.f hth 4 ⟨by decide, by decide⟩ kpr) hpr kx_16 bx_16 kx_18 bx_18 kx_19 bx_19 wf_17 (hfF_2.f hth 23 ⟨by decide, by decide⟩ kwk) hwk (by have := by3_j4_1_5.1; have := by3_j4_1_5.2; have := bx_14.1; have := bx_14.2; have := bx_12.1; have := bx_12.2; have := bx_10.1; have := bx_10.2; have := bx_8.1; have := bx_8.2; have := bx_16.1; have := bx_16.2; have := bx_18.1; have := bx_18.2; have := bx_19.1; have := bx_19.2; have := bx_3_6.1; have := bx_3_6.2; have : ((-1) : Int32).toInt = (-1) := (by decide); have : (2000 : Int32).toInt = 2000 := (by decide); omega)) (vx_cwVW 6 hg zv_RX14_411 rfl rfl rfl zd_X14_runs ⟨z_leR hRf (by decide), z_leR hRl (by decide)⟩) hth (by decide) rfl rfl hl.1 rfl (Nat.le_of_ble_eq_true rfl) dX14_shownBy_41 ⟨Nat.zero_le _, Nat.zero_le _⟩ (fun F_20 H locs w_21 h hfF_20 => ?_)
        refine lv_aload_n hx hb dX14_shownBy_44 rfl (lv_at hl 2 rfl) ?_
        refine zt_getr (t := 14) (C := RX14) (T := TX14) (N := 40) Z h hth zin_14 rfl 39 rfl ⟨by decide, rfl⟩ (zm_RX14 (List.mem_of_getElem? (i := 217) rfl)) (fun _ h9 => h9) dX14_shownBy_45 (fun a_22 ka_22 ha_22 => ?_)
        refine lv_iload_n hx hb dX14_shownBy_48 rfl (lv_at hl 0 rfl) ?_
        refine lv_aload_n hx hb dX14_shownBy_49 rfl (lv_at hl 2 rfl) ?_
        refine zt_getk (t := 14) (C := RX14) (T := TX14) (N := 40) Z h hth zin_14 rfl 23 (hfF_20.f hth 23 ⟨by decide, by decide⟩ (hfF_2.f hth 23 ⟨by decide, by decide⟩ kwk)) ⟨by decide, rfl, by decide⟩ (zm_RX14 (List.mem_of_getElem? (i := 145) rfl)) (fun _ h9 => h9) dX14_shownBy_50 ?_
        refine zt_getlN (t := 12) (C := RX12) (T := TX12) (N := 10) Z h hwk zin_12 rfl 6 rfl ⟨by decide, rfl⟩ (zn_38 Z) (fun _ h9 => h9) dX14_shownBy_53 (fun g_23 kg_23 => ?_)
        refine zt_last (t := 173) Z h ha_22 ⟨by decide, rfl⟩ by3_j4_1_5 ⟨by decide, by decide⟩ dX14_shownBy_56 (fun H locs F_24 h hfF_24 => ?_)
        refine lv_lload_n hx hb dX14_shownBy_57 rfl (lv_at hl 1 rfl) ?_
        refine lv_aload_n hx hb dX14_shownBy_58 rfl (lv_at hl 2 rfl) ?_
        refine zt_getk (t := 14) (C := RX14) (T := TX14) (N := 40) Z h hth zin_14 rfl 39 (hfF_24.f hth 39 ⟨by decide, by decide⟩ ka_22) ⟨by decide, rfl, by decide⟩ (zm_RX14 (List.mem_of_getElem? (i := 217) rfl)) (fun _ h9 => h9) dX14_shownBy_59 ?_
        refine lv_iload_n hx hb dX14_shownBy_62 rfl (lv_at hl 0 rfl) ?_
        refine zt_lald (t := 173) Z h ha_22 ⟨by decide, rfl⟩ by3_j4_1_5 ⟨by decide, by decide⟩ dX14_shownBy_63 (fun g_25 => ?_)
        refine lv_lor hx hb dX14_shownBy_64 ?_
        refine lv_topl (fun g_26 eg_26 => ?_)
        refine lv_lstore_n (lv' := [(1, .long g_26), (3, .int y3_j4_1), (0, .ref th)]) hx hb dX14_shownBy_65 rfl hl (by decide) rfl (fun ls hl => ?_)
        obtain ⟨x_27, ex_27, bx_27, tx_27⟩ := z_inc (n := 1) (lo := 1) (hi := 12) by3_j4_1_5 (by decide)
        refine lv_iinc (v := x_27) (lv' := [(3, .int x_27), (1, .long g_26), (0, .ref th)]) hx hb dX14_shownBy_66 hl (k := 1) rfl ex_27 (by decide) rfl (fun ls hl => ?_)
        refine lv_goto (tgt := 4) hx hb dX14_shownBy_69 (by decide) ?_
        exact ih_j4_1 _ (by have := bx_27.1; have := bx_27.2; have := bx_3_6.1; have := bx_3_6.2; have := bx_16.1; have := bx_16.2; have := bx_18.1; have := bx_18.2; have := bx_19.1; have := bx_19.2; have := by3_j4_1.1; have := by3_j4_1.2; omega) ls x_27 g_26 F_24 H locs (lv_sub hl [0, 1, 2] rfl) (bx_27.w ⟨by decide, by decide⟩) h ((hfF_2.trans hfF_20 (by decide)).trans hfF_24 (by decide)) rfl
  exact j_j4_1 _ ls 0 0 F s.heap [] (lv_sub hl [0, 1, 2] rfl) (zB.of ⟨by decide, by decide⟩) h zFr.rf rfl

set_option maxHeartbeats 4000000 in
set_option maxRecDepth 100000 in
theorem zc_X14_shown (l : Launch) (D : va_G) (k : Nat → ClassId) (Γ : Nat → Option Nat) (L : List Nat) (F : Nat → va_E) (sz : Nat) (th : Nat) (st : Nat) (pr : Nat) (wk : Nat) (hth : Γ th = some 14) (kst : zfld F th 9 = .ref st) (hst : Γ st = some 13) (kpr : zfld F th 4 = .ref pr) (hpr : Γ pr = some 11) (kwk : zfld F th 23 = .ref wk) (hwk : Γ wk = some 12) (p_mi : zMI Γ F th pr) : Met l yX14_shown zwX14_shown ({ frames := 88, cells := 0, slots := 0, locals := 3476 }) (va_Pc [.ref th] (zP D k Γ L F sz)) (va_Qi (fun (r : Int32) (u : Nat → va_E) => True) (zQ D k Γ L F [1200, 1201, 1202, 1203, 1204, 1205, 1206, 1306, 1307, 1400, 1426, 1427, 1428, 1429, 15000, 16500, 16600, 16700, 17300]) (zA L sz)) 0 0 (zA L sz) := by
  refine Met.ofW (cc := cX14_shown) (maxL := 1) (ret := (some .int)) (by decide) rfl ?_
  intro p e s m args below meth c s₁ B hml hv
  obtain ⟨rfl, hsz, hP, hK, hLn, hE, hI⟩ := hv
  have hx := B.exec
  have hb := B.bytes
  have hr := B.returns
  have hg : ∀ w ∈ zG, w.before _ s = true := fun w h9 => atoms_spec (ws := zwX14_shown) B.pre w (List.mem_cons_of_mem _ h9)
  have hown : s.vm.findClass RX14 = some m.cls := findClass_of_methodNamed B.named
  have hlocks := B.notSynchronized
  subst hsz
  have Z : zC p m c cX14_shown 1 s _ zG RX14 D k L := ⟨⟨hx, hb, hml, hown, hg⟩, hK, hLn, hE⟩
  have h : zH D k Γ L s F s.heap [] := ⟨hP, hI, va_S.rf⟩
  have hl := lv_entry ([.ref th]) (n := 1) (Nat.le_of_ble_eq_true rfl)
  rw [lg_entry_eq]
  generalize (lg_sl ([.ref th]) ++ List.replicate (1 - (lg_sl ([.ref th])).length) Slot.unset).toArray = ls at hl ⊢
  have hl : lv_has ls 1 [(0, .ref th)] := hl
  clear hP hK hLn hE hI
  generalize hargs : ([.ref th] : List Value).toArray = args at *
  refine z_start (fun R Q hRf hRl hQ => ?_)
  have hRf : R.frames = 88 := hRf
  have hRl : R.locals = 3476 := hRl
  have h9 := h
  refine lv_aload_n hx hb dX14_shown_0 rfl (lv_at hl 0 rfl) ?_
  refine lv_iconst (v := 0) hx hb dX14_shown_1 (by decide) ?_
  refine zt_put (t := 14) (C := RX14) (T := TX14) (N := 40) (v := .int 0) Z h hth zin_14 tyX14 tyX14_ok nmX14 rfl 0 rfl ⟨by decide, rfl⟩ (zm_RX14 (List.mem_of_getElem? (i := 105) rfl)) (fun _ h9 => h9) rfl (zV.i (zB.of ⟨by decide, by decide⟩)) rfl rfl dX14_shown_2 (fun H locs F_1 h hfF_1 kF_1 => ?_)
  refine lv_aload_n hx hb dX14_shown_5 rfl (lv_at hl 0 rfl) ?_
  have p_2 := (p_mi.fr hfF_1 hth (by decide))
  refine zk_Vl (As := []) (rest := []) (bytes := cX14_shownBy) (maxL := 4) (ret := (some .long)) Z h (zc_X14_shownBy l D k Γ L F_1 H.size th st pr wk hth (hfF_1.f hth 9 ⟨by decide, by decide⟩ kst) hst (hfF_1.f hth 4 ⟨by decide, by decide⟩ kpr) hpr (hfF_1.f hth 23 ⟨by decide, by decide⟩ kwk) hwk p_2) (cwV 0 hg zv_RX14_428 rfl rfl rfl zd_X14_shownBy ⟨z_leR hRf (by decide), z_leR hRl (by decide)⟩) hth (by decide) rfl rfl hl.1 rfl (Nat.le_of_ble_eq_true rfl) dX14_shown_6 ⟨Nat.zero_le _, Nat.zero_le _⟩ (fun r_3 F_4 H locs w_5 h hfF_4 => ?_)
  refine zk_Si (As := [.long r_3]) (rest := []) (bytes := cX14_lines) (maxL := 4) (ret := (some .int)) Z h (zc_X14_lines l D k Γ L F_4 H.size r_3) (va_cwS 1 hg zv_RX14_414 rfl rfl rfl zd_X14_lines ⟨z_leR hRf (by decide), z_leR hRl (by decide)⟩) rfl hl.1 rfl (Nat.le_of_ble_eq_true rfl) dX14_shown_9 ⟨Nat.zero_le _, Nat.zero_le _⟩ (fun r_6 F_7 H locs w_8 h hfF_7 => ?_)
  obtain ⟨rfl, -⟩ := w_8
  have br_6 := zB.all r_6
  subst hQ
  exact W.iret (v := r_6) hx hb hr (fun t ht hW => ⟨⟨r_6, F_4, rfl, trivial, by rw [ht]; exact h.1, h.2.1, ((hfF_1.w (by decide)).trans hfF_4 (by decide))⟩, h.2.2.F ht⟩) h.2.2.2.2 dX14_shown_12

set_option maxHeartbeats 4000000 in
set_option maxRecDepth 100000 in
theorem zc_X14_fewest (l : Launch) (D : va_G) (k : Nat → ClassId) (Γ : Nat → Option Nat) (L : List Nat) (F : Nat → va_E) (sz : Nat) (th : Nat) (st : Nat) (pr : Nat) (wk : Nat) (hth : Γ th = some 14) (kst : zfld F th 9 = .ref st) (hst : Γ st = some 13) (kpr : zfld F th 4 = .ref pr) (hpr : Γ pr = some 11) (kwk : zfld F th 23 = .ref wk) (hwk : Γ wk = some 12) (p_mi : zMI Γ F th pr) : Met l yX14_fewest zwX14_fewest ({ frames := 88, cells := 0, slots := 0, locals := 3476 }) (va_Pc [.ref th] (zP D k Γ L F sz)) (va_Qi (fun (r : Int32) (u : Nat → va_E) => True) (zQ D k Γ L F [1200, 1201, 1202, 1203, 1204, 1205, 1206, 1306, 1307, 1400, 1426, 1427, 1428, 1429, 1433, 15000, 16500, 16600, 16700, 17200, 17300]) (zA L sz)) 0 0 (zA L sz) := by
  refine Met.ofW (cc := cX14_fewest) (maxL := 8) (ret := (some .int)) (by decide) rfl ?_
  intro p e s m args below meth c s₁ B hml hv
  obtain ⟨rfl, hsz, hP, hK, hLn, hE, hI⟩ := hv
  have hx := B.exec
  have hb := B.bytes
  have hr := B.returns
  have hg : ∀ w ∈ zG, w.before _ s = true := fun w h9 => atoms_spec (ws := zwX14_fewest) B.pre w (List.mem_cons_of_mem _ h9)
  have hown : s.vm.findClass RX14 = some m.cls := findClass_of_methodNamed B.named
  have hlocks := B.notSynchronized
  subst hsz
  have Z : zC p m c cX14_fewest 8 s _ zG RX14 D k L := ⟨⟨hx, hb, hml, hown, hg⟩, hK, hLn, hE⟩
  have h : zH D k Γ L s F s.heap [] := ⟨hP, hI, va_S.rf⟩
  have hl := lv_entry ([.ref th]) (n := 8) (Nat.le_of_ble_eq_true rfl)
  rw [lg_entry_eq]
  generalize (lg_sl ([.ref th]) ++ List.replicate (8 - (lg_sl ([.ref th])).length) Slot.unset).toArray = ls at hl ⊢
  have hl : lv_has ls 8 [(0, .ref th)] := hl
  clear hP hK hLn hE hI
  generalize hargs : ([.ref th] : List Value).toArray = args at *
  refine z_start (fun R Q hRf hRl hQ => ?_)
  have hRf : R.frames = 88 := hRf
  have hRl : R.locals = 3476 := hRl
  have h9 := h
  refine lv_aload_n hx hb dX14_fewest_0 rfl (lv_at hl 0 rfl) ?_
  refine lv_iconst (v := 0) hx hb dX14_fewest_1 (by decide) ?_
  refine zt_put (t := 14) (C := RX14) (T := TX14) (N := 40) (v := .int 0) Z h hth zin_14 tyX14 tyX14_ok nmX14 rfl 0 rfl ⟨by decide, rfl⟩ (zm_RX14 (List.mem_of_getElem? (i := 105) rfl)) (fun _ h9 => h9) rfl (zV.i (zB.of ⟨by decide, by decide⟩)) rfl rfl dX14_fewest_2 (fun H locs F_1 h hfF_1 kF_1 => ?_)
  refine lv_aload_n hx hb dX14_fewest_5 rfl (lv_at hl 0 rfl) ?_
  have p_2 := (p_mi.fr hfF_1 hth (by decide))
  refine zk_Vl (As := []) (rest := []) (bytes := cX14_shownBy) (maxL := 4) (ret := (some .long)) Z h (zc_X14_shownBy l D k Γ L F_1 H.size th st pr wk hth (hfF_1.f hth 9 ⟨by decide, by decide⟩ kst) hst (hfF_1.f hth 4 ⟨by decide, by decide⟩ kpr) hpr (hfF_1.f hth 23 ⟨by decide, by decide⟩ kwk) hwk p_2) (cwV 0 hg zv_RX14_428 rfl rfl rfl zd_X14_shownBy ⟨z_leR hRf (by decide), z_leR hRl (by decide)⟩) hth (by decide) rfl rfl hl.1 rfl (Nat.le_of_ble_eq_true rfl) dX14_fewest_6 ⟨Nat.zero_le _, Nat.zero_le _⟩ (fun r_3 F_4 H locs w_5 h hfF_4 => ?_)
  refine lv_lstore_n (lv' := [(1, .long r_3), (0, .ref th)]) hx hb dX14_fewest_9 rfl hl (by decide) rfl (fun ls hl => ?_)
  refine lv_iconst (v := (-1)) hx hb dX14_fewest_10 (by decide) ?_
  refine lv_istore_n (lv' := [(3, .int (-1)), (1, .long r_3), (0, .ref th)]) hx hb dX14_fewest_11 rfl hl (by decide) rfl (fun ls hl => ?_)
  refine lv_iconst (v := 0) hx hb dX14_fewest_12 (by decide) ?_
  refine lv_istore (lv' := [(4, .int 0), (3, .int (-1)), (1, .long r_3), (0, .ref th)]) hx hb dX14_fewest_13 hl (by decide) rfl (fun ls hl => ?_)
  have j_j15_6 : ∀ (n : Nat) (ls : Array Slot) (y4_j15_6 : Int32) (y3_j15_6 : Int32) (H : Heap) (locs : List Loc), lv_has ls 8 [(4, .int y4_j15_6), (3, .int y3_j15_6), (1, .long r_3), (0, .ref th)] → zB 0 4096 y4_j15_6 → zB (-1) 4095 y3_j15_6 → zH D k Γ L s F_4 H locs → (2147483647 - y4_j15_6.toInt).toNat = n → W p l e R s m args below meth c H locs 0 0 Q (F0 m 15 ls []) := by
    intro n
    induction n using Nat.strongRecOn with
    | _ n ih_j15_6 =>
      intro ls y4_j15_6 y3_j15_6 H locs hl by4_j15_6 by3_j15_6 h hn_j15_6
      refine lv_iload hx hb dX14_fewest_15 (lv_at hl 0 rfl) ?_
      refine lv_iconst (v := 1) hx hb dX14_fewest_17 (by decide) ?_
      refine lv_aload_n hx hb dX14_fewest_18 rfl (lv_at hl 3 rfl) ?_
      refine zt_geti (t := 14) (C := RX14) (T := TX14) (N := 40) Z h hth zin_14 rfl 32 rfl ⟨by decide, rfl⟩ (zm_RX14 (List.mem_of_getElem? (i := 122) rfl)) (fun _ h9 => h9) dX14_fewest_19 (fun x_7 kx_7 bx_7 => ?_)
      refine lv_ishl hx hb dX14_fewest_22 ?_
      refine zi_shl1 (n := 12) (hi := 4096) bx_7 (by decide) rfl (fun x_8 bx_8 => ?_)
      refine lv_icmp_ge (tgt := 148) hx hb dX14_fewest_23 (by decide) (fun c_9 => ?_) (fun c_9 => ?_)
      · have c_9 := z_le c_9
        have by4_j15_6_10 : zB 1 4096 y4_j15_6 := zB.leR c_9 bx_8 by4_j15_6 (by decide)
        refine lv_aload_n hx hb dX14_fewest_148 rfl (lv_at hl 3 rfl) ?_
        refine lv_iconst (v := 0) hx hb dX14_fewest_149 (by decide) ?_
        refine zt_put (t := 14) (C := RX14) (T := TX14) (N := 40) (v := .int 0) Z h hth zin_14 tyX14 tyX14_ok nmX14 rfl 33 rfl ⟨by decide, rfl⟩ (zm_RX14 (List.mem_of_getElem? (i := 123) rfl)) (fun _ h9 => h9) rfl (zV.i (zB.of ⟨by decide, by decide⟩)) rfl rfl dX14_fewest_150 (fun H locs F_11 h hfF_11 kF_11 => ?_)
        refine lv_iconst (v := 0) hx hb dX14_fewest_153 (by decide) ?_
        refine lv_istore (lv' := [(4, .int 0), (3, .int y3_j15_6), (1, .long r_3), (0, .ref th)]) hx hb dX14_fewest_154 hl (by decide) rfl (fun ls hl => ?_)
        have j_j156_12 : ∀ (n : Nat) (ls : Array Slot) (y4_j156_12 : Int32) (kp_j156_12 : Int32) (F_13 : Nat → va_E) (H : Heap) (locs : List Loc), lv_has ls 8 [(4, .int y4_j156_12), (3, .int y3_j15_6), (0, .ref th)] → zB 0 12 y4_j156_12 → zH D k Γ L s F_13 H locs → zFr Γ [1433, 17200] F_11 F_13 → zfld F_13 th 33 = .int kp_j156_12 → zB 0 12 kp_j156_12 → (kp_j156_12.toInt ≤ y4_j156_12.toInt) → (2147483647 - y4_j156_12.toInt).toNat = n → W p l e R s m args below meth c H locs 0 0 Q (F0 m 156 ls []) := by
          intro n
          induction n using Nat.strongRecOn with
          | _ n ih_j156_12 =>
            intro ls y4_j156_12 kp_j156_12 F_13 H locs hl by4_j156_12 h hfF_13 hkp_j156_12 bkp_j156_12 r0_j156_12 hn_j156_12
            refine lv_iload hx hb dX14_fewest_156 (lv_at hl 0 rfl) ?_
            refine lv_aload_n hx hb dX14_fewest_158 rfl (lv_at hl 2 rfl) ?_
            refine zt_getk (t := 14) (C := RX14) (T := TX14) (N := 40) Z h hth zin_14 rfl 32 (hfF_13.f hth 32 ⟨by decide, by decide⟩ (hfF_11.f hth 32 ⟨by decide, by decide⟩ kx_7)) ⟨by decide, rfl, by decide⟩ (zm_RX14 (List.mem_of_getElem? (i := 122) rfl)) (fun _ h9 => h9) dX14_fewest_159 ?_
            refine lv_icmp_ge (tgt := 204) hx hb dX14_fewest_162 (by decide) (fun c_14 => ?_) (fun c_14 => ?_)
            · have c_14 := z_le c_14
              refine lv_aload_n hx hb dX14_fewest_204 rfl (lv_at hl 2 rfl) ?_
              refine zt_getk (t := 14) (C := RX14) (T := TX14) (N := 40) Z h hth zin_14 rfl 33 hkp_j156_12 ⟨by decide, rfl, by decide⟩ (zm_RX14 (List.mem_of_getElem? (i := 123) rfl)) (fun _ h9 => h9) dX14_fewest_205 ?_
              subst hQ
              exact W.iret (v := kp_j156_12) hx hb hr (fun t ht hW => ⟨⟨kp_j156_12, F_13, rfl, trivial, by rw [ht]; exact h.1, h.2.1, ((((hfF_1.w (by decide)).trans hfF_4 (by decide)).trans hfF_11 (by decide)).trans hfF_13 (by decide))⟩, h.2.2.F ht⟩) h.2.2.2.2 dX14_fewest_208
            · have c_14 := z_nle c_14
              have by4_j156_12_15 : zB 0 11 y4_j156_12 := zB.ltL c_14 by4_j156_12 bx_7 (by decide)
              have bx_7_16 : zB 1 12 x_7 := zB.ltR c_14 by4_j156_12 bx_7 (by decide)
              refine lv_iload_n hx hb dX14_fewest_165 rfl (lv_at hl 1 rfl) ?_
              refine lv_iload hx hb dX14_fewest_166 (lv_at hl 0 rfl) ?_
              refine lv_ishr hx hb dX14_fewest_168 ?_
              refine zi_any (fun x_17 bx_17 ex_17 => ?_)
              refine lv_iconst (v := 1) hx hb dX14_fewest_169 (by decide) ?_
              refine lv_iand hx hb dX14_fewest_170 ?_
              refine zi_and ((zBc 1 1 (by decide)).w ⟨by decide, by decide⟩ : zB 0 1 _) (fun x_18 bx_18 ex_18 => ?_)
              refine lv_if_ne (tgt := 177) hx hb dX14_fewest_171 (by decide) (fun c_19 => ?_) (fun c_19 => ?_)
              · have c_19 := z_ne c_19
                have bx_18_20 : zB 1 1 x_18 := zB.neLo c_19 bx_18 (zBc 0 0 (by decide)) (by decide)
                refine lv_aload_n hx hb dX14_fewest_177 rfl (lv_at hl 2 rfl) ?_
                refine zt_getr (t := 14) (C := RX14) (T := TX14) (N := 40) Z h hth zin_14 rfl 38 rfl ⟨by decide, rfl⟩ (zm_RX14 (List.mem_of_getElem? (i := 223) rfl)) (fun _ h9 => h9) dX14_fewest_178 (fun a_21 ka_21 ha_21 => ?_)
                refine lv_aload_n hx hb dX14_fewest_181 rfl (lv_at hl 2 rfl) ?_
                refine zt_getk (t := 14) (C := RX14) (T := TX14) (N := 40) Z h hth zin_14 rfl 33 hkp_j156_12 ⟨by decide, rfl, by decide⟩ (zm_RX14 (List.mem_of_getElem? (i := 123) rfl)) (fun _ h9 => h9) dX14_fewest_182 ?_
                refine lv_iload hx hb dX14_fewest_185 (lv_at hl 0 rfl) ?_
                have bkp_j156_12_22 : zB 0 11 kp_j156_12 := ⟨by have := by4_j156_12_15.1; have := by4_j156_12_15.2; have := by3_j15_6.1; have := by3_j15_6.2; have := bkp_j156_12.1; have := bkp_j156_12.2; have := bx_7_16.1; have := bx_7_16.2; have : (0 : Int32).toInt = 0 := (by decide); have : (1 : Int32).toInt = 1 := (by decide); omega, by have := by4_j156_12_15.1; have := by4_j156_12_15.2; have := by3_j15_6.1; have := by3_j15_6.2; have := bkp_j156_12.1; have := bkp_j156_12.2; have := bx_7_16.1; have := bx_7_16.2; have : (0 : Int32).toInt = 0 := (by decide); have : (1 : Int32).toInt = 1 := (by decide); omega⟩
                refine zt_iast (t := 172) Z h ha_21 ⟨by decide, rfl⟩ bkp_j156_12_22 ⟨by decide, by decide⟩ (by4_j156_12_15.w ⟨by decide, by decide⟩) dX14_fewest_187 (fun H locs F_23 h hfF_23 => ?_)
                refine lv_aload_n hx hb dX14_fewest_188 rfl (lv_at hl 2 rfl) ?_
                refine lv_dup hx hb dX14_fewest_189 rfl ?_
                refine zt_getk (t := 14) (C := RX14) (T := TX14) (N := 40) Z h hth zin_14 rfl 33 (hfF_23.f hth 33 ⟨by decide, by decide⟩ hkp_j156_12) ⟨by decide, rfl, by decide⟩ (zm_RX14 (List.mem_of_getElem? (i := 123) rfl)) (fun _ h9 => h9) dX14_fewest_190 ?_
                refine lv_iconst (v := 1) hx hb dX14_fewest_193 (by decide) ?_
                refine lv_iadd hx hb dX14_fewest_194 ?_
                refine zi_add (lo := 1) (hi := 12) bkp_j156_12_22 (zBc 1 1 (by decide)) (by decide) (fun x_24 bx_24 tx_24 => ?_)
                refine zt_put (t := 14) (C := RX14) (T := TX14) (N := 40) (v := .int x_24) Z h hth zin_14 tyX14 tyX14_ok nmX14 rfl 33 rfl ⟨by decide, rfl⟩ (zm_RX14 (List.mem_of_getElem? (i := 123) rfl)) (fun _ h9 => h9) rfl (zV.i (bx_24.w ⟨by decide, by decide⟩)) rfl rfl dX14_fewest_195 (fun H locs F_25 h hfF_25 kF_25 => ?_)
                obtain ⟨x_26, ex_26, bx_26, tx_26⟩ := z_inc (n := 1) (lo := 1) (hi := 12) by4_j156_12_15 (by decide)
                refine lv_iinc (v := x_26) (lv' := [(4, .int x_26), (3, .int y3_j15_6), (0, .ref th)]) hx hb dX14_fewest_198 hl (k := 0) rfl ex_26 (by decide) rfl (fun ls hl => ?_)
                refine lv_goto (tgt := 156) hx hb dX14_fewest_201 (by decide) ?_
                exact ih_j156_12 _ (by have := bx_26.1; have := bx_26.2; have := by3_j15_6.1; have := by3_j15_6.2; have := bx_24.1; have := bx_24.2; have := bx_7_16.1; have := bx_7_16.2; have : (0 : Int32).toInt = 0 := (by decide); have : (1 : Int32).toInt = 1 := (by decide); have := by4_j156_12.1; have := by4_j156_12.2; omega) ls x_26 x_24 F_25 H locs (lv_sub hl [0, 1, 2] rfl) (bx_26.w ⟨by decide, by decide⟩) h ((hfF_13.trans hfF_23 (by decide)).trans hfF_25 (by decide)) kF_25 (bx_24.w ⟨by decide, by decide⟩) (by have := bx_26.1; have := bx_26.2; have := by3_j15_6.1; have := by3_j15_6.2; have := bx_24.1; have := bx_24.2; have := bx_7_16.1; have := bx_7_16.2; have : (0 : Int32).toInt = 0 := (by decide); have : (1 : Int32).toInt = 1 := (by decide); omega) rfl
              · have c_19 := z_eq c_19
                have bx_18_27 : zB 0 0 x_18 := zB.eqL (a := 0) (b := 0) c_19 (zBc 0 0 (by decide))
                refine lv_goto (tgt := 198) hx hb dX14_fewest_174 (by decide) ?_
                obtain ⟨x_28, ex_28, bx_28, tx_28⟩ := z_inc (n := 1) (lo := 1) (hi := 12) by4_j156_12_15 (by decide)
                refine lv_iinc (v := x_28) (lv' := [(4, .int x_28), (3, .int y3_j15_6), (0, .ref th)]) hx hb dX14_fewest_198 hl (k := 0) rfl ex_28 (by decide) rfl (fun ls hl => ?_)
                refine lv_goto (tgt := 156) hx hb dX14_fewest_201 (by decide) ?_
                exact ih_j156_12 _ (by have := bx_28.1; have := bx_28.2; have := by3_j15_6.1; have := by3_j15_6.2; have := bkp_j156_12.1; have := bkp_j156_12.2; have := bx_7_16.1; have := bx_7_16.2; have : (0 : Int32).toInt = 0 := (by decide); have : (1 : Int32).toInt = 1 := (by decide); have := by4_j156_12.1; have := by4_j156_12.2; omega) ls x_28 kp_j156_12 F_13 H locs (lv_sub hl [0, 1, 2] rfl) (bx_28.w ⟨by decide, by decide⟩) h hfF_13 hkp_j156_12 bkp_j156_12 (by have := bx_28.1; have := bx_28.2; have := by3_j15_6.1; have := by3_j15_6.2; have := bkp_j156_12.1; have := bkp_j156_12.2; have := bx_7_16.1; have := bx_7_16.2; have : (0 : Int32).toInt = 0 := (by decide); have : (1 : Int32).toInt = 1 := (by decide); omega) rfl
        exact j_j156_12 _ ls 0 0 F_11 H locs (lv_sub hl [0, 1, 3] rfl) (zB.of ⟨by decide, by decide⟩) h zFr.rf kF_11 (zB.of ⟨by decide, by decide⟩) (by have := by3_j15_6.1; have := by3_j15_6.2; have := bx_7.1; have := bx_7.2; have : (0 : Int32).toInt = 0 := (by decide); have : (1 : Int32).toInt = 1 := (by decide); omega) rfl
      · have c_9 := z_nle c_9
        have by4_j15_6_29 : zB 0 4095 y4_j15_6 := zB.ltL c_9 by4_j15_6 bx_8 (by decide)
        refine lv_iload_n hx hb dX14_fewest_26 rfl (lv_at hl 1 rfl) ?_
        refine lv_iconst (v := (-1)) hx hb dX14_fewest_27 (by decide) ?_
        refine lv_icmp_eq (tgt := 46) hx hb dX14_fewest_28 (by decide) (fun c_30 => ?_) (fun c_30 => ?_)
        · have c_30 := z_eq c_30
          have by3_j15_6_31 : zB (-1) (-1) y3_j15_6 := zB.eqL (a := 0) (b := 0) c_30 (zBc (-1) (-1) (by decide))
          refine lv_lconst (v := 0) hx hb dX14_fewest_46 (by decide) ?_
          refine lv_lstore (lv' := [(5, .long 0), (4, .int y4_j15_6), (3, .int y3_j15_6), (1, .long r_3), (0, .ref th)]) hx hb dX14_fewest_47 hl (by decide) rfl (fun ls hl => ?_)
          refine lv_iconst (v := 0) hx hb dX14_fewest_49 (by decide) ?_
          refine lv_istore (lv' := [(7, .int 0), (5, .long 0), (4, .int y4_j15_6), (3, .int y3_j15_6), (1, .long r_3), (0, .ref th)]) hx hb dX14_fewest_50 hl (by decide) rfl (fun ls hl => ?_)
          have j_j52_32 : ∀ (n : Nat) (ls : Array Slot) (y7_j52_32 : Int32) (y5_j52_32 : Int64), lv_has ls 8 [(7, .int y7_j52_32), (5, .long y5_j52_32), (4, .int y4_j15_6), (3, .int y3_j15_6), (1, .long r_3), (0, .ref th)] → zB 0 12 y7_j52_32 → (2147483647 - y7_j52_32.toInt).toNat = n → W p l e R s m args below meth c H locs 0 0 Q (F0 m 52 ls []) := by
            intro n
            induction n using Nat.strongRecOn with
            | _ n ih_j52_32 =>
              intro ls y7_j52_32 y5_j52_32 hl by7_j52_32 hn_j52_32
              refine lv_iload hx hb dX14_fewest_52 (lv_at hl 0 rfl) ?_
              refine lv_aload_n hx hb dX14_fewest_54 rfl (lv_at hl 5 rfl) ?_
              refine zt_getk (t := 14) (C := RX14) (T := TX14) (N := 40) Z h hth zin_14 rfl 32 kx_7 ⟨by decide, rfl, by decide⟩ (zm_RX14 (List.mem_of_getElem? (i := 122) rfl)) (fun _ h9 => h9) dX14_fewest_55 ?_
              refine lv_icmp_ge (tgt := 94) hx hb dX14_fewest_58 (by decide) (fun c_33 => ?_) (fun c_33 => ?_)
              · have c_33 := z_le c_33
                refine lv_iload hx hb dX14_fewest_94 (lv_at hl 2 rfl) ?_
                refine lv_iload_n hx hb dX14_fewest_96 rfl (lv_at hl 3 rfl) ?_
                refine lv_ixor hx hb dX14_fewest_97 ?_
                refine zi_any (fun x_34 bx_34 ex_34 => ?_)
                refine lv_istore (lv' := [(7, .int x_34), (5, .long y5_j52_32), (4, .int y4_j15_6), (3, .int y3_j15_6), (1, .long r_3), (0, .ref th)]) hx hb dX14_fewest_98 hl (by decide) rfl (fun ls hl => ?_)
                refine lv_lload hx hb dX14_fewest_100 (lv_at hl 1 rfl) ?_
                refine lv_lload_n hx hb dX14_fewest_102 rfl (lv_at hl 4 rfl) ?_
                refine W.lcmp hx hb dX14_fewest_103 ?_
                refine zi_any (fun x_35 bx_35 ex_35 => ?_)
                refine lv_if_ne (tgt := 142) hx hb dX14_fewest_104 (by decide) (fun c_36 => ?_) (fun c_36 => ?_)
                · have c_36 := z_ne c_36
                  obtain ⟨x_37, ex_37, bx_37, tx_37⟩ := z_inc (n := 1) (lo := 1) (hi := 4096) by4_j15_6_29 (by decide)
                  refine lv_iinc (v := x_37) (lv' := [(4, .int x_37), (7, .int x_34), (5, .long y5_j52_32), (3, .int y3_j15_6), (1, .long r_3), (0, .ref th)]) hx hb dX14_fewest_142 hl (k := 2) rfl ex_37 (by decide) rfl (fun ls hl => ?_)
                  refine lv_goto (tgt := 15) hx hb dX14_fewest_145 (by decide) ?_
                  exact ih_j15_6 _ (by have := bx_37.1; have := bx_37.2; have := bx_34.1; have := bx_34.2; have := by3_j15_6_31.1; have := by3_j15_6_31.2; have := bx_7.1; have := bx_7.2; have : ((-1) : Int32).toInt = (-1) := (by decide); have : (0 : Int32).toInt = 0 := (by decide); have : (1 : Int32).toInt = 1 := (by decide); have := by4_j15_6.1; have := by4_j15_6.2; have := by3_j15_6.1; have := by3_j15_6.2; omega) ls x_37 y3_j15_6 H locs (lv_sub hl [0, 3, 4, 5] rfl) (bx_37.w ⟨by decide, by decide⟩) (by3_j15_6_31.w ⟨by decide, by decide⟩) h rfl
                · have c_36 := z_eq c_36
                  have bx_35_38 : zB 0 0 x_35 := zB.eqL (a := 0) (b := 0) c_36 (zBc 0 0 (by decide))
                  refine lv_iload_n hx hb dX14_fewest_107 rfl (lv_at hl 3 rfl) ?_
                  refine lv_iconst (v := (-1)) hx hb dX14_fewest_108 (by decide) ?_
                  refine lv_icmp_eq (tgt := 139) hx hb dX14_fewest_109 (by decide) (fun c_39 => ?_) (fun c_39 => ?_)
                  · have c_39 := z_eq c_39
                    refine lv_iload hx hb dX14_fewest_139 (lv_at hl 2 rfl) ?_
                    refine lv_istore_n (lv' := [(3, .int y4_j15_6), (7, .int x_34), (5, .long y5_j52_32), (4, .int y4_j15_6), (1, .long r_3), (0, .ref th)]) hx hb dX14_fewest_141 rfl hl (by decide) rfl (fun ls hl => ?_)
                    obtain ⟨x_40, ex_40, bx_40, tx_40⟩ := z_inc (n := 1) (lo := 1) (hi := 4096) by4_j15_6_29 (by decide)
                    refine lv_iinc (v := x_40) (lv' := [(4, .int x_40), (3, .int y4_j15_6), (7, .int x_34), (5, .long y5_j52_32), (1, .long r_3), (0, .ref th)]) hx hb dX14_fewest_142 hl (k := 3) rfl ex_40 (by decide) rfl (fun ls hl => ?_)
                    refine lv_goto (tgt := 15) hx hb dX14_fewest_145 (by decide) ?_
                    exact ih_j15_6 _ (by have := bx_40.1; have := bx_40.2; have := by4_j15_6_29.1; have := by4_j15_6_29.2; have := bx_34.1; have := bx_34.2; have := bx_7.1; have := bx_7.2; have : ((-1) : Int32).toInt = (-1) := (by decide); have : (0 : Int32).toInt = 0 := (by decide); have : (1 : Int32).toInt = 1 := (by decide); have := by4_j15_6.1; have := by4_j15_6.2; have := by3_j15_6.1; have := by3_j15_6.2; omega) ls x_40 y4_j15_6 H locs (lv_sub hl [0, 1, 4, 5] rfl) (bx_40.w ⟨by decide, by decide⟩) (by4_j15_6_29.w ⟨by decide, by decide⟩) h rfl
                  · have c_39 := z_ne c_39
                    exact zB.noNe c_39 by3_j15_6_31 (zBc (-1) (-1) (by decide))
              · have c_33 := z_nle c_33
                have by7_j52_32_41 : zB 0 11 y7_j52_32 := zB.ltL c_33 by7_j52_32 bx_7 (by decide)
                have bx_7_42 : zB 1 12 x_7 := zB.ltR c_33 by7_j52_32 bx_7 (by decide)
                refine lv_lload hx hb dX14_fewest_61 (lv_at hl 1 rfl) ?_
                refine lv_iload hx hb dX14_fewest_63 (lv_at hl 2 rfl) ?_
                refine lv_iload hx hb dX14_fewest_65 (lv_at hl 0 rfl) ?_
                refine lv_ishr hx hb dX14_fewest_67 ?_
                refine zi_any (fun x_43 bx_43 ex_43 => ?_)
                refine lv_iconst (v := 1) hx hb dX14_fewest_68 (by decide) ?_
                refine lv_iand hx hb dX14_fewest_69 ?_
                refine zi_and ((zBc 1 1 (by decide)).w ⟨by decide, by decide⟩ : zB 0 1 _) (fun x_44 bx_44 ex_44 => ?_)
                refine lv_iconst (v := 1) hx hb dX14_fewest_70 (by decide) ?_
                refine lv_icmp_ne (tgt := 84) hx hb dX14_fewest_71 (by decide) (fun c_45 => ?_) (fun c_45 => ?_)
                · have c_45 := z_ne c_45
                  have bx_44_46 : zB 0 0 x_44 := zB.neHi c_45 bx_44 (zBc 1 1 (by decide)) (by decide)
                  refine lv_lconst (v := 0) hx hb dX14_fewest_84 (by decide) ?_
                  refine lv_lor hx hb dX14_fewest_85 ?_
                  refine lv_topl (fun g_47 eg_47 => ?_)
                  refine lv_lstore (lv' := [(5, .long g_47), (7, .int y7_j52_32), (4, .int y4_j15_6), (3, .int y3_j15_6), (1, .long r_3), (0, .ref th)]) hx hb dX14_fewest_86 hl (by decide) rfl (fun ls hl => ?_)
                  obtain ⟨x_48, ex_48, bx_48, tx_48⟩ := z_inc (n := 1) (lo := 1) (hi := 12) by7_j52_32_41 (by decide)
                  refine lv_iinc (v := x_48) (lv' := [(7, .int x_48), (5, .long g_47), (4, .int y4_j15_6), (3, .int y3_j15_6), (1, .long r_3), (0, .ref th)]) hx hb dX14_fewest_88 hl (k := 1) rfl ex_48 (by decide) rfl (fun ls hl => ?_)
                  refine lv_goto (tgt := 52) hx hb dX14_fewest_91 (by decide) ?_
                  exact ih_j52_32 _ (by have := bx_48.1; have := bx_48.2; have := by4_j15_6_29.1; have := by4_j15_6_29.2; have := by3_j15_6_31.1; have := by3_j15_6_31.2; have := bx_7_42.1; have := bx_7_42.2; have : ((-1) : Int32).toInt = (-1) := (by decide); have : (0 : Int32).toInt = 0 := (by decide); have : (1 : Int32).toInt = 1 := (by decide); have := by7_j52_32.1; have := by7_j52_32.2; omega) ls x_48 g_47 (lv_sub hl [0, 1, 2, 3, 4, 5] rfl) (bx_48.w ⟨by decide, by decide⟩) rfl
                · have c_45 := z_eq c_45
                  have bx_44_49 : zB 1 1 x_44 := zB.eqL (a := 0) (b := 0) c_45 (zBc 1 1 (by decide))
                  refine lv_aload_n hx hb dX14_fewest_74 rfl (lv_at hl 5 rfl) ?_
                  refine zt_getr (t := 14) (C := RX14) (T := TX14) (N := 40) Z h hth zin_14 rfl 39 rfl ⟨by decide, rfl⟩ (zm_RX14 (List.mem_of_getElem? (i := 217) rfl)) (fun _ h9 => h9) dX14_fewest_75 (fun a_50 ka_50 ha_50 => ?_)
                  refine lv_iload hx hb dX14_fewest_78 (lv_at hl 0 rfl) ?_
                  refine zt_lald (t := 173) Z h ha_50 ⟨by decide, rfl⟩ by7_j52_32_41 ⟨by decide, by decide⟩ dX14_fewest_80 (fun g_51 => ?_)
                  refine lv_goto (tgt := 85) hx hb dX14_fewest_81 (by decide) ?_
                  refine lv_lor hx hb dX14_fewest_85 ?_
                  refine lv_topl (fun g_52 eg_52 => ?_)
                  refine lv_lstore (lv' := [(5, .long g_52), (7, .int y7_j52_32), (4, .int y4_j15_6), (3, .int y3_j15_6), (1, .long r_3), (0, .ref th)]) hx hb dX14_fewest_86 hl (by decide) rfl (fun ls hl => ?_)
                  obtain ⟨x_53, ex_53, bx_53, tx_53⟩ := z_inc (n := 1) (lo := 1) (hi := 12) by7_j52_32_41 (by decide)
                  refine lv_iinc (v := x_53) (lv' := [(7, .int x_53), (5, .long g_52), (4, .int y4_j15_6), (3, .int y3_j15_6), (1, .long r_3), (0, .ref th)]) hx hb dX14_fewest_88 hl (k := 1) rfl ex_53 (by decide) rfl (fun ls hl => ?_)
                  refine lv_goto (tgt := 52) hx hb dX14_fewest_91 (by decide) ?_
                  exact ih_j52_32 _ (by have := bx_53.1; have := bx_53.2; have := by4_j15_6_29.1; have := by4_j15_6_29.2; have := by3_j15_6_31.1; have := by3_j15_6_31.2; have := bx_7_42.1; have := bx_7_42.2; have : ((-1) : Int32).toInt = (-1) := (by decide); have : (0 : Int32).toInt = 0 := (by decide); have : (1 : Int32).toInt = 1 := (by decide); have := by7_j52_32.1; have := by7_j52_32.2; omega) ls x_53 g_52 (lv_sub hl [0, 1, 2, 3, 4, 5] rfl) (bx_53.w ⟨by decide, by decide⟩) rfl
          exact j_j52_32 _ ls 0 0 (lv_sub hl [0, 1, 2, 3, 4, 5] rfl) (zB.of ⟨by decide, by decide⟩) rfl
        · have c_30 := z_ne c_30
          have by3_j15_6_54 : zB 0 4095 y3_j15_6 := zB.neLo c_30 by3_j15_6 (zBc (-1) (-1) (by decide)) (by decide)
          refine lv_iload hx hb dX14_fewest_31 (lv_at hl 0 rfl) ?_
          refine zk_Si (As := [.int y4_j15_6]) (rest := []) (bytes := cX14_bits) (maxL := 3) (ret := (some .int)) Z h (zc_X14_bits l D k Γ L F_4 H.size y4_j15_6) (va_cwS 1 hg zv_RX14_419 rfl rfl rfl zd_X14_bits ⟨z_leR hRf (by decide), z_leR hRl (by decide)⟩) rfl hl.1 rfl (Nat.le_of_ble_eq_true rfl) dX14_fewest_33 ⟨Nat.zero_le _, Nat.zero_le _⟩ (fun r_55 F_56 H locs w_57 h hfF_56 => ?_)
          obtain ⟨rfl, -⟩ := w_57
          have br_55 := zB.all r_55
          refine lv_iload_n hx hb dX14_fewest_36 rfl (lv_at hl 1 rfl) ?_
          refine zk_Si (As := [.int y3_j15_6]) (rest := [.int r_55]) (bytes := cX14_bits) (maxL := 3) (ret := (some .int)) Z h (zc_X14_bits l D k Γ L F_4 H.size y3_j15_6) (va_cwS 1 hg zv_RX14_419 rfl rfl rfl zd_X14_bits ⟨z_leR hRf (by decide), z_leR hRl (by decide)⟩) rfl hl.1 rfl (Nat.le_of_ble_eq_true rfl) dX14_fewest_37 ⟨Nat.zero_le _, Nat.zero_le _⟩ (fun r_58 F_59 H locs w_60 h hfF_59 => ?_)
          obtain ⟨rfl, -⟩ := w_60
          have br_58 := zB.all r_58
          refine lv_icmp_le (tgt := 46) hx hb dX14_fewest_40 (by decide) (fun c_61 => ?_) (fun c_61 => ?_)
          · have c_61 := z_le c_61
            refine lv_lconst (v := 0) hx hb dX14_fewest_46 (by decide) ?_
            refine lv_lstore (lv' := [(5, .long 0), (4, .int y4_j15_6), (3, .int y3_j15_6), (1, .long r_3), (0, .ref th)]) hx hb dX14_fewest_47 hl (by decide) rfl (fun ls hl => ?_)
            refine lv_iconst (v := 0) hx hb dX14_fewest_49 (by decide) ?_
            refine lv_istore (lv' := [(7, .int 0), (5, .long 0), (4, .int y4_j15_6), (3, .int y3_j15_6), (1, .long r_3), (0, .ref th)]) hx hb dX14_fewest_50 hl (by decide) rfl (fun ls hl => ?_)
            have j_j52_62 : ∀ (n : Nat) (ls : Array Slot) (y7_j52_62 : Int32) (y5_j52_62 : Int64), lv_has ls 8 [(7, .int y7_j52_62), (5, .long y5_j52_62), (4, .int y4_j15_6), (3, .int y3_j15_6), (1, .long r_3), (0, .ref th)] → zB 0 12 y7_j52_62 → (2147483647 - y7_j52_62.toInt).toNat = n → W p l e R s m args below meth c H locs 0 0 Q (F0 m 52 ls []) := by
              intro n
              induction n using Nat.strongRecOn with
              | _ n ih_j52_62 =>
                intro ls y7_j52_62 y5_j52_62 hl by7_j52_62 hn_j52_62
                refine lv_iload hx hb dX14_fewest_52 (lv_at hl 0 rfl) ?_
                refine lv_aload_n hx hb dX14_fewest_54 rfl (lv_at hl 5 rfl) ?_
                refine zt_getk (t := 14) (C := RX14) (T := TX14) (N := 40) Z h hth zin_14 rfl 32 kx_7 ⟨by decide, rfl, by decide⟩ (zm_RX14 (List.mem_of_getElem? (i := 122) rfl)) (fun _ h9 => h9) dX14_fewest_55 ?_
                refine lv_icmp_ge (tgt := 94) hx hb dX14_fewest_58 (by decide) (fun c_63 => ?_) (fun c_63 => ?_)
                · have c_63 := z_le c_63
                  refine lv_iload hx hb dX14_fewest_94 (lv_at hl 2 rfl) ?_
                  refine lv_iload_n hx hb dX14_fewest_96 rfl (lv_at hl 3 rfl) ?_
                  refine lv_ixor hx hb dX14_fewest_97 ?_
                  refine zi_any (fun x_64 bx_64 ex_64 => ?_)
                  refine lv_istore (lv' := [(7, .int x_64), (5, .long y5_j52_62), (4, .int y4_j15_6), (3, .int y3_j15_6), (1, .long r_3), (0, .ref th)]) hx hb dX14_fewest_98 hl (by decide) rfl (fun ls hl => ?_)
                  refine lv_lload hx hb dX14_fewest_100 (lv_at hl 1 rfl) ?_
                  refine lv_lload_n hx hb dX14_fewest_102 rfl (lv_at hl 4 rfl) ?_
                  refine W.lcmp hx hb dX14_fewest_103 ?_
                  refine zi_any (fun x_65 bx_65 ex_65 => ?_)
                  refine lv_if_ne (tgt := 142) hx hb dX14_fewest_104 (by decide) (fun c_66 => ?_) (fun c_66 => ?_)
                  · have c_66 := z_ne c_66
                    obtain ⟨x_67, ex_67, bx_67, tx_67⟩ := z_inc (n := 1) (lo := 1) (hi := 4096) by4_j15_6_29 (by decide)
                    refine lv_iinc (v := x_67) (lv' := [(4, .int x_67), (7, .int x_64), (5, .long y5_j52_62), (3, .int y3_j15_6), (1, .long r_3), (0, .ref th)]) hx hb dX14_fewest_142 hl (k := 2) rfl ex_67 (by decide) rfl (fun ls hl => ?_)
                    refine lv_goto (tgt := 15) hx hb dX14_fewest_145 (by decide) ?_
                    exact ih_j15_6 _ (by have := bx_67.1; have := bx_67.2; have := bx_64.1; have := bx_64.2; have := by3_j15_6_54.1; have := by3_j15_6_54.2; have := bx_7.1; have := bx_7.2; have : ((-1) : Int32).toInt = (-1) := (by decide); have : (0 : Int32).toInt = 0 := (by decide); have : (1 : Int32).toInt = 1 := (by decide); have := by4_j15_6.1; have := by4_j15_6.2; have := by3_j15_6.1; have := by3_j15_6.2; omega) ls x_67 y3_j15_6 H locs (lv_sub hl [0, 3, 4, 5] rfl) (bx_67.w ⟨by decide, by decide⟩) (by3_j15_6_54.w ⟨by decide, by decide⟩) h rfl
                  · have c_66 := z_eq c_66
                    have bx_65_68 : zB 0 0 x_65 := zB.eqL (a := 0) (b := 0) c_66 (zBc 0 0 (by decide))
                    refine lv_iload_n hx hb dX14_fewest_107 rfl (lv_at hl 3 rfl) ?_
                    refine lv_iconst (v := (-1)) hx hb dX14_fewest_108 (by decide) ?_
                    refine lv_icmp_eq (tgt := 139) hx hb dX14_fewest_109 (by decide) (fun c_69 => ?_) (fun c_69 => ?_)
                    · have c_69 := z_eq c_69
                      exact zB.noEq c_69 by3_j15_6_54 (zBc (-1) (-1) (by decide)) (by decide)
                    · have c_69 := z_ne c_69
                      refine lv_iload hx hb dX14_fewest_112 (lv_at hl 2 rfl) ?_
                      refine zk_Si (As := [.int y4_j15_6]) (rest := []) (bytes := cX14_bits) (maxL := 3) (ret := (some .int)) Z h (zc_X14_bits l D k Γ L F_4 H.size y4_j15_6) (va_cwS 1 hg zv_RX14_419 rfl rfl rfl zd_X14_bits ⟨z_leR hRf (by decide), z_leR hRl (by decide)⟩) rfl hl.1 rfl (Nat.le_of_ble_eq_true rfl) dX14_fewest_114 ⟨Nat.zero_le _, Nat.zero_le _⟩ (fun r_70 F_71 H locs w_72 h hfF_71 => ?_)
                      obtain ⟨rfl, -⟩ := w_72
                      have br_70 := zB.all r_70
                      refine lv_iload_n hx hb dX14_fewest_117 rfl (lv_at hl 3 rfl) ?_
                      refine zk_Si (As := [.int y3_j15_6]) (rest := [.int r_70]) (bytes := cX14_bits) (maxL := 3) (ret := (some .int)) Z h (zc_X14_bits l D k Γ L F_4 H.size y3_j15_6) (va_cwS 1 hg zv_RX14_419 rfl rfl rfl zd_X14_bits ⟨z_leR hRf (by decide), z_leR hRl (by decide)⟩) rfl hl.1 rfl (Nat.le_of_ble_eq_true rfl) dX14_fewest_118 ⟨Nat.zero_le _, Nat.zero_le _⟩ (fun r_73 F_74 H locs w_75 h hfF_74 => ?_)
                      obtain ⟨rfl, -⟩ := w_75
                      have br_73 := zB.all r_73
                      refine lv_icmp_ne (tgt := 139) hx hb dX14_fewest_121 (by decide) (fun c_76 => ?_) (fun c_76 => ?_)
                      · have c_76 := z_ne c_76
                        refine lv_iload hx hb dX14_fewest_139 (lv_at hl 2 rfl) ?_
                        refine lv_istore_n (lv' := [(3, .int y4_j15_6), (7, .int x_64), (5, .long y5_j52_62), (4, .int y4_j15_6), (1, .long r_3), (0, .ref th)]) hx hb dX14_fewest_141 rfl hl (by decide) rfl (fun ls hl => ?_)
                        obtain ⟨x_77, ex_77, bx_77, tx_77⟩ := z_inc (n := 1) (lo := 1) (hi := 4096) by4_j15_6_29 (by decide)
                        refine lv_iinc (v := x_77) (lv' := [(4, .int x_77), (3, .int y4_j15_6), (7, .int x_64), (5, .long y5_j52_62), (1, .long r_3), (0, .ref th)]) hx hb dX14_fewest_142 hl (k := 3) rfl ex_77 (by decide) rfl (fun ls hl => ?_)
                        refine lv_goto (tgt := 15) hx hb dX14_fewest_145 (by decide) ?_
                        exact ih_j15_6 _ (by have := bx_77.1; have := bx_77.2; have := by4_j15_6_29.1; have := by4_j15_6_29.2; have := bx_64.1; have := bx_64.2; have := bx_7.1; have := bx_7.2; have : ((-1) : Int32).toInt = (-1) := (by decide); have : (0 : Int32).toInt = 0 := (by decide); have : (1 : Int32).toInt = 1 := (by decide); have := by4_j15_6.1; have := by4_j15_6.2; have := by3_j15_6.1; have := by3_j15_6.2; omega) ls x_77 y4_j15_6 H locs (lv_sub hl [0, 1, 4, 5] rfl) (bx_77.w ⟨by decide, by decide⟩) (by4_j15_6_29.w ⟨by decide, by decide⟩) h rfl
                      · have c_76 := z_eq c_76
                        refine lv_iload hx hb dX14_fewest_124 (lv_at hl 0 rfl) ?_
                        refine lv_iload hx hb dX14_fewest_126 (lv_at hl 0 rfl) ?_
                        refine lv_ineg hx hb dX14_fewest_128 ?_
                        refine zi_any (fun x_78 bx_78 ex_78 => ?_)
                        refine lv_iand hx hb dX14_fewest_129 ?_
                        refine zi_any (fun x_79 bx_79 ex_79 => ?_)
                        refine lv_iload hx hb dX14_fewest_130 (lv_at hl 2 rfl) ?_
                        refine lv_iand hx hb dX14_fewest_132 ?_
                        refine zi_and by4_j15_6_29 (fun x_80 bx_80 ex_80 => ?_)
                        refine lv_if_ne (tgt := 139) hx hb dX14_fewest_133 (by decide) (fun c_81 => ?_) (fun c_81 => ?_)
                        · have c_81 := z_ne c_81
                          have bx_80_82 : zB 1 4095 x_80 := zB.neLo c_81 bx_80 (zBc 0 0 (by decide)) (by decide)
                          refine lv_iload hx hb dX14_fewest_139 (lv_at hl 2 rfl) ?_
                          refine lv_istore_n (lv' := [(3, .int y4_j15_6), (7, .int x_64), (5, .long y5_j52_62), (4, .int y4_j15_6), (1, .long r_3), (0, .ref th)]) hx hb dX14_fewest_141 rfl hl (by decide) rfl (fun ls hl => ?_)
                          obtain ⟨x_83, ex_83, bx_83, tx_83⟩ := z_inc (n := 1) (lo := 1) (hi := 4096) by4_j15_6_29 (by decide)
                          refine lv_iinc (v := x_83) (lv' := [(4, .int x_83), (3, .int y4_j15_6), (7, .int x_64), (5, .long y5_j52_62), (1, .long r_3), (0, .ref th)]) hx hb dX14_fewest_142 hl (k := 3) rfl ex_83 (by decide) rfl (fun ls hl => ?_)
                          refine lv_goto (tgt := 15) hx hb dX14_fewest_145 (by decide) ?_
                          exact ih_j15_6 _ (by have := bx_83.1; have := bx_83.2; have := by4_j15_6_29.1; have := by4_j15_6_29.2; have := bx_64.1; have := bx_64.2; have := bx_7.1; have := bx_7.2; have : ((-1) : Int32).toInt = (-1) := (by decide); have : (0 : Int32).toInt = 0 := (by decide); have : (1 : Int32).toInt = 1 := (by decide); have := by4_j15_6.1; have := by4_j15_6.2; have := by3_j15_6.1; have := by3_j15_6.2; omega) ls x_83 y4_j15_6 H locs (lv_sub hl [0, 1, 4, 5] rfl) (bx_83.w ⟨by decide, by decide⟩) (by4_j15_6_29.w ⟨by decide, by decide⟩) h rfl
                        · have c_81 := z_eq c_81
                          have bx_80_84 : zB 0 0 x_80 := zB.eqL (a := 0) (b := 0) c_81 (zBc 0 0 (by decide))
                          refine lv_goto (tgt := 142) hx hb dX14_fewest_136 (by decide) ?_
                          obtain ⟨x_85, ex_85, bx_85, tx_85⟩ := z_inc (n := 1) (lo := 1) (hi := 4096) by4_j15_6_29 (by decide)
                          refine lv_iinc (v := x_85) (lv' := [(4, .int x_85), (7, .int x_64), (5, .long y5_j52_62), (3, .int y3_j15_6), (1, .long r_3), (0, .ref th)]) hx hb dX14_fewest_142 hl (k := 2) rfl ex_85 (by decide) rfl (fun ls hl => ?_)
                          refine lv_goto (tgt := 15) hx hb dX14_fewest_145 (by decide) ?_
                          exact ih_j15_6 _ (by have := bx_85.1; have := bx_85.2; have := bx_64.1; have := bx_64.2; have := by3_j15_6_54.1; have := by3_j15_6_54.2; have := bx_7.1; have := bx_7.2; have : ((-1) : Int32).toInt = (-1) := (by decide); have : (0 : Int32).toInt = 0 := (by decide); have : (1 : Int32).toInt = 1 := (by decide); have := by4_j15_6.1; have := by4_j15_6.2; have := by3_j15_6.1; have := by3_j15_6.2; omega) ls x_85 y3_j15_6 H locs (lv_sub hl [0, 3, 4, 5] rfl) (bx_85.w ⟨by decide, by decide⟩) (by3_j15_6_54.w ⟨by decide, by decide⟩) h rfl
                · have c_63 := z_nle c_63
                  have by7_j52_62_86 : zB 0 11 y7_j52_62 := zB.ltL c_63 by7_j52_62 bx_7 (by decide)
                  have bx_7_87 : zB 1 12 x_7 := zB.ltR c_63 by7_j52_62 bx_7 (by decide)
                  refine lv_lload hx hb dX14_fewest_61 (lv_at hl 1 rfl) ?_
                  refine lv_iload hx hb dX14_fewest_63 (lv_at hl 2 rfl) ?_
                  refine lv_iload hx hb dX14_fewest_65 (lv_at hl 0 rfl) ?_
                  refine lv_ishr hx hb dX14_fewest_67 ?_
                  refine zi_any (fun x_88 bx_88 ex_88 => ?_)
                  refine lv_iconst (v := 1) hx hb dX14_fewest_68 (by decide) ?_
                  refine lv_iand hx hb dX14_fewest_69 ?_
                  refine zi_and ((zBc 1 1 (by decide)).w ⟨by decide, by decide⟩ : zB 0 1 _) (fun x_89 bx_89 ex_89 => ?_)
                  refine lv_iconst (v := 1) hx hb dX14_fewest_70 (by decide) ?_
                  refine lv_icmp_ne (tgt := 84) hx hb dX14_fewest_71 (by decide) (fun c_90 => ?_) (fun c_90 => ?_)
                  · have c_90 := z_ne c_90
                    have bx_89_91 : zB 0 0 x_89 := zB.neHi c_90 bx_89 (zBc 1 1 (by decide)) (by decide)
                    refine lv_lconst (v := 0) hx hb dX14_fewest_84 (by decide) ?_
                    refine lv_lor hx hb dX14_fewest_85 ?_
                    refine lv_topl (fun g_92 eg_92 => ?_)
                    refine lv_lstore (lv' := [(5, .long g_92), (7, .int y7_j52_62), (4, .int y4_j15_6), (3, .int y3_j15_6), (1, .long r_3), (0, .ref th)]) hx hb dX14_fewest_86 hl (by decide) rfl (fun ls hl => ?_)
                    obtain ⟨x_93, ex_93, bx_93, tx_93⟩ := z_inc (n := 1) (lo := 1) (hi := 12) by7_j52_62_86 (by decide)
                    refine lv_iinc (v := x_93) (lv' := [(7, .int x_93), (5, .long g_92), (4, .int y4_j15_6), (3, .int y3_j15_6), (1, .long r_3), (0, .ref th)]) hx hb dX14_fewest_88 hl (k := 1) rfl ex_93 (by decide) rfl (fun ls hl => ?_)
                    refine lv_goto (tgt := 52) hx hb dX14_fewest_91 (by decide) ?_
                    exact ih_j52_62 _ (by have := bx_93.1; have := bx_93.2; have := by4_j15_6_29.1; have := by4_j15_6_29.2; have := by3_j15_6_54.1; have := by3_j15_6_54.2; have := bx_7_87.1; have := bx_7_87.2; have : ((-1) : Int32).toInt = (-1) := (by decide); have : (0 : Int32).toInt = 0 := (by decide); have : (1 : Int32).toInt = 1 := (by decide); have := by7_j52_62.1; have := by7_j52_62.2; omega) ls x_93 g_92 (lv_sub hl [0, 1, 2, 3, 4, 5] rfl) (bx_93.w ⟨by decide, by decide⟩) rfl
                  · have c_90 := z_eq c_90
                    have bx_89_94 : zB 1 1 x_89 := zB.eqL (a := 0) (b := 0) c_90 (zBc 1 1 (by decide))
                    refine lv_aload_n hx hb dX14_fewest_74 rfl (lv_at hl 5 rfl) ?_
                    refine zt_getr (t := 14) (C := RX14) (T := TX14) (N := 40) Z h hth zin_14 rfl 39 rfl ⟨by decide, rfl⟩ (zm_RX14 (List.mem_of_getElem? (i := 217) rfl)) (fun _ h9 => h9) dX14_fewest_75 (fun a_95 ka_95 ha_95 => ?_)
                    refine lv_iload hx hb dX14_fewest_78 (lv_at hl 0 rfl) ?_
                    refine zt_lald (t := 173) Z h ha_95 ⟨by decide, rfl⟩ by7_j52_62_86 ⟨by decide, by decide⟩ dX14_fewest_80 (fun g_96 => ?_)
                    refine lv_goto (tgt := 85) hx hb dX14_fewest_81 (by decide) ?_
                    refine lv_lor hx hb dX14_fewest_85 ?_
                    refine lv_topl (fun g_97 eg_97 => ?_)
                    refine lv_lstore (lv' := [(5, .long g_97), (7, .int y7_j52_62), (4, .int y4_j15_6), (3, .int y3_j15_6), (1, .long r_3), (0, .ref th)]) hx hb dX14_fewest_86 hl (by decide) rfl (fun ls hl => ?_)
                    obtain ⟨x_98, ex_98, bx_98, tx_98⟩ := z_inc (n := 1) (lo := 1) (hi := 12) by7_j52_62_86 (by decide)
                    refine lv_iinc (v := x_98) (lv' := [(7, .int x_98), (5, .long g_97), (4, .int y4_j15_6), (3, .int y3_j15_6), (1, .long r_3), (0, .ref th)]) hx hb dX14_fewest_88 hl (k := 1) rfl ex_98 (by decide) rfl (fun ls hl => ?_)
                    refine lv_goto (tgt := 52) hx hb dX14_fewest_91 (by decide) ?_
                    exact ih_j52_62 _ (by have := bx_98.1; have := bx_98.2; have := by4_j15_6_29.1; have := by4_j15_6_29.2; have := by3_j15_6_54.1; have := by3_j15_6_54.2; have := bx_7_87.1; have := bx_7_87.2; have : ((-1) : Int32).toInt = (-1) := (by decide); have : (0 : Int32).toInt = 0 := (by decide); have : (1 : Int32).toInt = 1 := (by decide); have := by7_j52_62.1; have := by7_j52_62.2; omega) ls x_98 g_97 (lv_sub hl [0, 1, 2, 3, 4, 5] rfl) (bx_98.w ⟨by decide, by decide⟩) rfl
            exact j_j52_62 _ ls 0 0 (lv_sub hl [0, 1, 2, 3, 4, 5] rfl) (zB.of ⟨by decide, by decide⟩) rfl
          · have c_61 := z_nle c_61
            have br_58_99 : zB (-2147483648) 2147483646 r_58 := zB.ltL c_61 br_58 br_55 (by decide)
            have br_55_100 : zB (-2147483647) 2147483647 r_55 := zB.ltR c_61 br_58 br_55 (by decide)
            refine lv_goto (tgt := 142) hx hb dX14_fewest_43 (by decide) ?_
            obtain ⟨x_101, ex_101, bx_101, tx_101⟩ := z_inc (n := 1) (lo := 1) (hi := 4096) by4_j15_6_29 (by decide)
            refine lv_iinc (v := x_101) (lv' := [(4, .int x_101), (3, .int y3_j15_6), (1, .long r_3), (0, .ref th)]) hx hb dX14_fewest_142 hl (k := 0) rfl ex_101 (by decide) rfl (fun ls hl => ?_)
            refine lv_goto (tgt := 15) hx hb dX14_fewest_145 (by decide) ?_
            exact ih_j15_6 _ (by have := bx_101.1; have := bx_101.2; have := by3_j15_6_54.1; have := by3_j15_6_54.2; have := bx_7.1; have := bx_7.2; have : ((-1) : Int32).toInt = (-1) := (by decide); have : (0 : Int32).toInt = 0 := (by decide); have : (1 : Int32).toInt = 1 := (by decide); have := by4_j15_6.1; have := by4_j15_6.2; have := by3_j15_6.1; have := by3_j15_6.2; omega) ls x_101 y3_j15_6 H locs (lv_sub hl [0, 1, 2, 3] rfl) (bx_101.w ⟨by decide, by decide⟩) (by3_j15_6_54.w ⟨by decide, by decide⟩) h rfl
  exact j_j15_6 _ ls 0 (-1) H locs (lv_sub hl [0, 1, 2, 3] rfl) (zB.of ⟨by decide, by decide⟩) (zB.of ⟨by decide, by decide⟩) h rfl

set_option maxHeartbeats 4000000 in
set_option maxRecDepth 100000 in
theorem zc_X11_isSame (l : Launch) (D : va_G) (k : Nat → ClassId) (Γ : Nat → Option Nat) (L : List Nat) (F : Nat → va_E) (sz : Nat) (th : Nat) (f_ : Int32) (ot : Nat) (g_ : Int32) (hth : Γ th = some 11) (bf_ : zB 0 9 f_) (hot : Γ ot = some 11) (bg_ : zB 0 9 g_) : Met l yX11_isSame zwX11_isSame ({ frames := 0, cells := 0, slots := 0, locals := 0 }) (va_Pc [.ref th, .int f_, .ref ot, .int g_] (zP D k Γ L F sz)) (va_Qi (fun (r : Int32) (u : Nat → va_E) => F = u ∧ zB 0 1 r ∧ True) (zQ D k Γ L F []) (zA L sz)) 0 0 (zA L sz) := by
  refine Met.ofW (cc := cX11_isSame) (maxL := 7) (ret := (some .boolean)) (by decide) rfl ?_
  intro p e s m args below meth c s₁ B hml hv
  obtain ⟨rfl, hsz, hP, hK, hLn, hE, hI⟩ := hv
  have hx := B.exec
  have hb := B.bytes
  have hr := B.returns
  have hg : ∀ w ∈ zG, w.before _ s = true := fun w h9 => atoms_spec (ws := zwX11_isSame) B.pre w (List.mem_cons_of_mem _ h9)
  have hown : s.vm.findClass RX11 = some m.cls := findClass_of_methodNamed B.named
  have hlocks := B.notSynchronized
  subst hsz
  have Z : zC p m c cX11_isSame 7 s _ zG RX11 D k L := ⟨⟨hx, hb, hml, hown, hg⟩, hK, hLn, hE⟩
  have h : zH D k Γ L s F s.heap [] := ⟨hP, hI, va_S.rf⟩
  have hl := lv_entry ([.ref th, .int f_, .ref ot, .int g_]) (n := 7) (Nat.le_of_ble_eq_true rfl)
  rw [lg_entry_eq]
  generalize (lg_sl ([.ref th, .int f_, .ref ot, .int g_]) ++ List.replicate (7 - (lg_sl ([.ref th, .int f_, .ref ot, .int g_])).length) Slot.unset).toArray = ls at hl ⊢
  have hl : lv_has ls 7 [(0, .ref th), (1, .int f_), (2, .ref ot), (3, .int g_)] := hl
  clear hP hK hLn hE hI
  generalize hargs : ([.ref th, .int f_, .ref ot, .int g_] : List Value).toArray = args at *
  refine z_start (fun R Q hRf hRl hQ => ?_)
  have hRf : R.frames = 0 := hRf
  have hRl : R.locals = 0 := hRl
  have h9 := h
  refine lv_aload_n hx hb dX11_isSame_0 rfl (lv_at hl 0 rfl) ?_
  refine zt_getr (t := 11) (C := RX11) (T := TX11) (N := 30) Z h hth zin_11 rfl 11 rfl ⟨by decide, rfl⟩ (zm_RX11 (List.mem_of_getElem? (i := 9) rfl)) (fun _ h9 => h9) dX11_isSame_1 (fun a_1 ka_1 ha_1 => ?_)
  refine lv_iload_n hx hb dX11_isSame_4 rfl (lv_at hl 1 rfl) ?_
  refine zt_ialde (t := 131) Z h ha_1 ⟨by decide, rfl⟩ bf_ ⟨by decide, by decide⟩ dX11_isSame_5 (fun x_2 ex_2 bx_2 => ?_)
  refine lv_aload_n hx hb dX11_isSame_6 rfl (lv_at hl 0 rfl) ?_
  refine zt_getr (t := 11) (C := RX11) (T := TX11) (N := 30) Z h hth zin_11 rfl 10 rfl ⟨by decide, rfl⟩ (zm_RX11 (List.mem_of_getElem? (i := 10) rfl)) (fun _ h9 => h9) dX11_isSame_7 (fun a_3 ka_3 ha_3 => ?_)
  refine lv_iload_n hx hb dX11_isSame_10 rfl (lv_at hl 1 rfl) ?_
  refine zt_ialde (t := 130) Z h ha_3 ⟨by decide, rfl⟩ bf_ ⟨by decide, by decide⟩ dX11_isSame_11 (fun x_4 ex_4 bx_4 => ?_)
  refine lv_isub hx hb dX11_isSame_12 ?_
  refine zi_sub (lo := (-1201)) (hi := 1201) bx_2 bx_4 (by decide) (fun x_5 bx_5 tx_5 => ?_)
  refine lv_istore (lv' := [(4, .int x_5), (0, .ref th), (1, .int f_), (2, .ref ot), (3, .int g_)]) hx hb dX11_isSame_13 hl (by decide) rfl (fun ls hl => ?_)
  refine lv_iload hx hb dX11_isSame_15 (lv_at hl 0 rfl) ?_
  refine lv_aload_n hx hb dX11_isSame_17 rfl (lv_at hl 3 rfl) ?_
  refine zt_getr (t := 11) (C := RX11) (T := TX11) (N := 30) Z h hot zin_11 rfl 11 rfl ⟨by decide, rfl⟩ (zm_RX11 (List.mem_of_getElem? (i := 9) rfl)) (fun _ h9 => h9) dX11_isSame_18 (fun a_6 ka_6 ha_6 => ?_)
  refine lv_iload_n hx hb dX11_isSame_21 rfl (lv_at hl 4 rfl) ?_
  refine zt_ialde (t := 131) Z h ha_6 ⟨by decide, rfl⟩ bg_ ⟨by decide, by decide⟩ dX11_isSame_22 (fun x_7 ex_7 bx_7 => ?_)
  refine lv_aload_n hx hb dX11_isSame_23 rfl (lv_at hl 3 rfl) ?_
  refine zt_getr (t := 11) (C := RX11) (T := TX11) (N := 30) Z h hot zin_11 rfl 10 rfl ⟨by decide, rfl⟩ (zm_RX11 (List.mem_of_getElem? (i := 10) rfl)) (fun _ h9 => h9) dX11_isSame_24 (fun a_8 ka_8 ha_8 => ?_)
  refine lv_iload_n hx hb dX11_isSame_27 rfl (lv_at hl 4 rfl) ?_
  refine zt_ialde (t := 130) Z h ha_8 ⟨by decide, rfl⟩ bg_ ⟨by decide, by decide⟩ dX11_isSame_28 (fun x_9 ex_9 bx_9 => ?_)
  refine lv_isub hx hb dX11_isSame_29 ?_
  refine zi_sub (lo := (-1201)) (hi := 1201) bx_7 bx_9 (by decide) (fun x_10 bx_10 tx_10 => ?_)
  have := bx_2.1
  have := bx_2.2
  have := bx_4.1
  have := bx_4.2
  have := bx_7.1
  have := bx_7.2
  have := bx_9.1
  have := bx_9.2
  refine lv_icmp_ne (tgt := 37) hx hb dX11_isSame_30 (by decide) (fun c_11 => ?_) (fun c_11 => ?_)
  · have c_11 := z_ne c_11
    refine lv_iconst (v := 0) hx hb dX11_isSame_37 (by decide) ?_
    refine lv_istore (lv' := [(5, .int 0), (4, .int x_5), (0, .ref th), (1, .int f_), (2, .ref ot), (3, .int g_)]) hx hb dX11_isSame_38 hl (by decide) rfl (fun ls hl => ?_)
    refine lv_iconst (v := 0) hx hb dX11_isSame_40 (by decide) ?_
    refine lv_istore (lv' := [(6, .int 0), (5, .int 0), (4, .int x_5), (0, .ref th), (1, .int f_), (2, .ref ot), (3, .int g_)]) hx hb dX11_isSame_41 hl (by decide) rfl (fun ls hl => ?_)
    have j_j43_12 : ∀ (n : Nat) (ls : Array Slot) (y6_j43_12 : Int32) (y5_j43_12 : Int32), lv_has ls 7 [(6, .int y6_j43_12), (5, .int y5_j43_12), (4, .int x_5), (0, .ref th), (1, .int f_), (2, .ref ot), (3, .int g_)] → zB 0 1201 y6_j43_12 → zB 0 1 y5_j43_12 → ((y5_j43_12.toInt ≠ 0 → x_5.toInt = x_10.toInt)) → (0 ≤ y6_j43_12.toInt) → (2147483647 - y6_j43_12.toInt).toNat = n → W p l e R s m args below meth c s.heap [] 0 0 Q (F0 m 43 ls []) := by
      intro n
      induction n using Nat.strongRecOn with
      | _ n ih_j43_12 =>
        intro ls y6_j43_12 y5_j43_12 hl by6_j43_12 by5_j43_12 r0_j43_12 r1_j43_12 hn_j43_12
        refine lv_iload hx hb dX11_isSame_43 (lv_at hl 0 rfl) ?_
        refine lv_iload hx hb dX11_isSame_45 (lv_at hl 2 rfl) ?_
        refine lv_icmp_ge (tgt := 99) hx hb dX11_isSame_47 (by decide) (fun c_13 => ?_) (fun c_13 => ?_)
        · have c_13 := z_le c_13
          refine lv_iload hx hb dX11_isSame_99 (lv_at hl 1 rfl) ?_
          subst hQ
          exact W.zret (v := y5_j43_12) hx hb hr (z_narZ by5_j43_12) (fun t ht hW => ⟨⟨y5_j43_12, F, rfl, ⟨rfl, by5_j43_12, trivial⟩, by rw [ht]; exact h.1, h.2.1, zFr.rf⟩, h.2.2.F ht⟩) h.2.2.2.2 dX11_isSame_101
        · have c_13 := z_nle c_13
          have by6_j43_12_14 : zB 0 1200 y6_j43_12 := zB.ltL c_13 by6_j43_12 bx_5 (by decide)
          have bx_5_15 : zB 1 1201 x_5 := zB.ltR c_13 by6_j43_12 bx_5 (by decide)
          refine lv_iload hx hb dX11_isSame_50 (lv_at hl 1 rfl) ?_
          refine lv_if_eq (tgt := 99) hx hb dX11_isSame_52 (by decide) (fun c_16 => ?_) (fun c_16 => ?_)
          · have c_16 := z_eq c_16
            have by5_j43_12_17 : zB 0 0 y5_j43_12 := zB.eqL (a := 0) (b := 0) c_16 (zBc 0 0 (by decide))
            refine lv_iload hx hb dX11_isSame_99 (lv_at hl 1 rfl) ?_
            subst hQ
            exact W.zret (v := y5_j43_12) hx hb hr (z_narZ (by5_j43_12_17.w ⟨by decide, by decide⟩)) (fun t ht hW => ⟨⟨y5_j43_12, F, rfl, ⟨rfl, (by5_j43_12_17.w ⟨by decide, by decide⟩), trivial⟩, by rw [ht]; exact h.1, h.2.1, zFr.rf⟩, h.2.2.F ht⟩) h.2.2.2.2 dX11_isSame_101
          · have c_16 := z_ne c_16
            have by5_j43_12_18 : zB 1 1 y5_j43_12 := zB.neLo c_16 by5_j43_12 (zBc 0 0 (by decide)) (by decide)
            have j_j91_19 : ∀ (ls : Array Slot) (w0_j91_19 : Int32), lv_has ls 7 [(6, .int y6_j43_12), (4, .int x_5), (0, .ref th), (1, .int f_), (2, .ref ot), (3, .int g_)] → zB 0 1 w0_j91_19 → W p l e R s m args below meth c s.heap [] 0 0 Q (F0 m 91 ls [.int w0_j91_19]) := by
              intro ls w0_j91_19 hl bw0_j91_19
              refine lv_istore (lv' := [(5, .int w0_j91_19), (6, .int y6_j43_12), (4, .int x_5), (0, .ref th), (1, .int f_), (2, .ref ot), (3, .int g_)]) hx hb dX11_isSame_91 hl (by decide) rfl (fun ls hl => ?_)
              obtain ⟨x_20, ex_20, bx_20, tx_20⟩ := z_inc (n := 1) (lo := 1) (hi := 1201) by6_j43_12_14 (by decide)
              refine lv_iinc (v := x_20) (lv' := [(6, .int x_20), (5, .int w0_j91_19), (4, .int x_5), (0, .ref th), (1, .int f_), (2, .ref ot), (3, .int g_)]) hx hb dX11_isSame_93 hl (k := 1) rfl ex_20 (by decide) rfl (fun ls hl => ?_)
              refine lv_goto (tgt := 43) hx hb dX11_isSame_96 (by decide) ?_
              exact ih_j43_12 _ (by have := bx_20.1; have := bx_20.2; have := bw0_j91_19.1; have := bw0_j91_19.2; have := bx_5_15.1; have := bx_5_15.2; have := bf_.1; have := bf_.2; have := bg_.1; have := bg_.2; have : (0 : Int32).toInt = 0 := (by decide); have := by6_j43_12.1; have := by6_j43_12.2; have := by5_j43_12.1; have := by5_j43_12.2; omega) ls x_20 w0_j91_19 (lv_sub hl [0, 1, 2, 3, 4, 5, 6] rfl) (bx_20.w ⟨by decide, by decide⟩) bw0_j91_19 (by have : (0 : Int32).toInt = 0 := (by decide); have := bx_20.1; have := bx_20.2; have := bw0_j91_19.1; have := bw0_j91_19.2; have := bx_5_15.1; have := bx_5_15.2; have := bf_.1; have := bf_.2; have := bg_.1; have := bg_.2; have : (0 : Int32).toInt = 0 := (by decide); omega) (by have := bx_20.1; have := bx_20.2; have := bw0_j91_19.1; have := bw0_j91_19.2; have := bx_5_15.1; have := bx_5_15.2; have := bf_.1; have := bf_.2; have := bg_.1; have := bg_.2; have : (0 : Int32).toInt = 0 := (by decide); omega) rfl
            refine lv_aload_n hx hb dX11_isSame_55 rfl (lv_at hl 3 rfl) ?_
            refine zt_getr (t := 11) (C := RX11) (T := TX11) (N := 30) Z h hth zin_11 rfl 29 rfl ⟨by decide, rfl⟩ (zm_RX11 (List.mem_of_getElem? (i := 11) rfl)) (fun _ h9 => h9) dX11_isSame_56 (fun a_21 ka_21 ha_21 => ?_)
            refine lv_aload_n hx hb dX11_isSame_59 rfl (lv_at hl 3 rfl) ?_
            refine zt_getk (t := 11) (C := RX11) (T := TX11) (N := 30) Z h hth zin_11 rfl 10 ka_3 ⟨by decide, rfl, by decide⟩ (zm_RX11 (List.mem_of_getElem? (i := 10) rfl)) (fun _ h9 => h9) dX11_isSame_60 ?_
            refine lv_iload_n hx hb dX11_isSame_63 rfl (lv_at hl 4 rfl) ?_
            refine zt_ialdk (t := 130) Z h ha_3 ⟨by decide, rfl⟩ bf_ ⟨by decide, by decide⟩ ex_4 dX11_isSame_64 ?_
            refine lv_iload hx hb dX11_isSame_65 (lv_at hl 0 rfl) ?_
            refine lv_iadd hx hb dX11_isSame_67 ?_
            refine zi_add (lo := 0) (hi := 2401) bx_4 by6_j43_12_14 (by decide) (fun x_22 bx_22 tx_22 => ?_)
            have bx_22_23 : zB 0 1200 x_22 := ⟨by have := by6_j43_12_14.1; have := by6_j43_12_14.2; have := by5_j43_12_18.1; have := by5_j43_12_18.2; have := bx_5_15.1; have := bx_5_15.2; have := bf_.1; have := bf_.2; have := bg_.1; have := bg_.2; have := bx_22.1; have := bx_22.2; have : (0 : Int32).toInt = 0 := (by decide); omega, by have := by6_j43_12_14.1; have := by6_j43_12_14.2; have := by5_j43_12_18.1; have := by5_j43_12_18.2; have := bx_5_15.1; have := bx_5_15.2; have := bf_.1; have := bf_.2; have := bg_.1; have := bg_.2; have := bx_22.1; have := bx_22.2; have : (0 : Int32).toInt = 0 := (by decide); omega⟩
            refine zt_balde (t := 149) Z h ha_21 ⟨by decide, rfl⟩ bx_22_23 ⟨by decide, by decide⟩ dX11_isSame_68 (fun x_24 ex_24 bx_24 => ?_)
            refine lv_aload_n hx hb dX11_isSame_69 rfl (lv_at hl 5 rfl) ?_
            refine zt_getr (t := 11) (C := RX11) (T := TX11) (N := 30) Z h hot zin_11 rfl 29 rfl ⟨by decide, rfl⟩ (zm_RX11 (List.mem_of_getElem? (i := 11) rfl)) (fun _ h9 => h9) dX11_isSame_70 (fun a_25 ka_25 ha_25 => ?_)
            refine lv_aload_n hx hb dX11_isSame_73 rfl (lv_at hl 5 rfl) ?_
            refine zt_getk (t := 11) (C := RX11) (T := TX11) (N := 30) Z h hot zin_11 rfl 10 ka_8 ⟨by decide, rfl, by decide⟩ (zm_RX11 (List.mem_of_getElem? (i := 10) rfl)) (fun _ h9 => h9) dX11_isSame_74 ?_
            refine lv_iload_n hx hb dX11_isSame_77 rfl (lv_at hl 6 rfl) ?_
            refine zt_ialdk (t := 130) Z h ha_8 ⟨by decide, rfl⟩ bg_ ⟨by decide, by decide⟩ ex_9 dX11_isSame_78 ?_
            refine lv_iload hx hb dX11_isSame_79 (lv_at hl 0 rfl) ?_
            refine lv_iadd hx hb dX11_isSame_81 ?_
            refine zi_add (lo := 0) (hi := 2401) bx_9 by6_j43_12_14 (by decide) (fun x_26 bx_26 tx_26 => ?_)
            have bx_26_27 : zB 0 1200 x_26 := ⟨by have := by6_j43_12_14.1; have := by6_j43_12_14.2; have := by5_j43_12_18.1; have := by5_j43_12_18.2; have := bx_5_15.1; have := bx_5_15.2; have := bf_.1; have := bf_.2; have := bg_.1; have := bg_.2; have := bx_26.1; have := bx_26.2; have := bx_24.1; have := bx_24.2; have : (0 : Int32).toInt = 0 := (by decide); omega, by have := by6_j43_12_14.1; have := by6_j43_12_14.2; have := by5_j43_12_18.1; have := by5_j43_12_18.2; have := bx_5_15.1; have := bx_5_15.2; have := bf_.1; have := bf_.2; have := bg_.1; have := bg_.2; have := bx_26.1; have := bx_26.2; have := bx_24.1; have := bx_24.2; have : (0 : Int32).toInt = 0 := (by decide); omega⟩
            refine zt_balde (t := 149) Z h ha_25 ⟨by decide, rfl⟩ bx_26_27 ⟨by decide, by decide⟩ dX11_isSame_82 (fun x_28 ex_28 bx_28 => ?_)
            refine lv_icmp_ne (tgt := 90) hx hb dX11_isSame_83 (by decide) (fun c_29 => ?_) (fun c_29 => ?_)
            · have c_29 := z_ne c_29
              refine lv_iconst (v := 0) hx hb dX11_isSame_90 (by decide) ?_
              exact j_j91_19 ls 0 (lv_sub hl [0, 2, 3, 4, 5, 6] rfl) (zB.of ⟨by decide, by decide⟩)
            · have c_29 := z_eq c_29
              refine lv_iconst (v := 1) hx hb dX11_isSame_86 (by decide) ?_
              refine lv_goto (tgt := 91) hx hb dX11_isSame_87 (by decide) ?_
              exact j_j91_19 ls 1 (lv_sub hl [0, 2, 3, 4, 5, 6] rfl) (zB.of ⟨by decide, by decide⟩)
    exact j_j43_12 _ ls 0 0 (lv_sub hl [0, 1, 2, 3, 4, 5, 6] rfl) (zB.of ⟨by decide, by decide⟩) (zB.of ⟨by decide, by decide⟩) (by have : (0 : Int32).toInt = 0 := (by decide); have := bx_5.1; have := bx_5.2; have := bf_.1; have := bf_.2; have := bg_.1; have := bg_.2; have : (0 : Int32).toInt = 0 := (by decide); omega) (by have := bx_5.1; have := bx_5.2; have := bf_.1; have := bf_.2; have := bg_.1; have := bg_.2; have : (0 : Int32).toInt = 0 := (by decide); omega) rfl
  · have c_11 := z_eq c_11
    refine lv_iconst (v := 1) hx hb dX11_isSame_33 (by decide) ?_
    refine lv_goto (tgt := 38) hx hb dX11_isSame_34 (by decide) ?_
    refine lv_istore (lv' := [(5, .int 1), (4, .int x_5), (0, .ref th), (1, .int f_), (2, .ref ot), (3, .int g_)]) hx hb dX11_isSame_38 hl (by decide) rfl (fun ls hl => ?_)
    refine lv_iconst (v := 0) hx hb dX11_isSame_40 (by decide) ?_
    refine lv_istore (lv' := [(6, .int 0), (5, .int 1), (4, .int x_5), (0, .ref th), (1, .int f_), (2, .ref ot), (3, .int g_)]) hx hb dX11_isSame_41 hl (by decide) rfl (fun ls hl => ?_)
    have j_j43_30 : ∀ (n : Nat) (ls : Array Slot) (y6_j43_30 : Int32) (y5_j43_30 : Int32), lv_has ls 7 [(6, .int y6_j43_30), (5, .int y5_j43_30), (4, .int x_5), (0, .ref th), (1, .int f_), (2, .ref ot), (3, .int g_)] → zB 0 1201 y6_j43_30 → zB 0 1 y5_j43_30 → ((y5_j43_30.toInt ≠ 0 → x_5.toInt = x_10.toInt)) → (0 ≤ y6_j43_30.toInt) → (2147483647 - y6_j43_30.toInt).toNat = n → W p l e R s m args below meth c s.heap [] 0 0 Q (F0 m 43 ls []) := by
      intro n
      induction n using Nat.strongRecOn with
      | _ n ih_j43_30 =>
        intro ls y6_j43_30 y5_j43_30 hl by6_j43_30 by5_j43_30 r0_j43_30 r1_j43_30 hn_j43_30
        refine lv_iload hx hb dX11_isSame_43 (lv_at hl 0 rfl) ?_
        refine lv_iload hx hb dX11_isSame_45 (lv_at hl 2 rfl) ?_
        refine lv_icmp_ge (tgt := 99) hx hb dX11_isSame_47 (by decide) (fun c_31 => ?_) (fun c_31 => ?_)
        · have c_31 := z_le c_31
          refine lv_iload hx hb dX11_isSame_99 (lv_at hl 1 rfl) ?_
          subst hQ
          exact W.zret (v := y5_j43_30) hx hb hr (z_narZ by5_j43_30) (fun t ht hW => ⟨⟨y5_j43_30, F, rfl, ⟨rfl, by5_j43_30, trivial⟩, by rw [ht]; exact h.1, h.2.1, zFr.rf⟩, h.2.2.F ht⟩) h.2.2.2.2 dX11_isSame_101
        · have c_31 := z_nle c_31
          have by6_j43_30_32 : zB 0 1200 y6_j43_30 := zB.ltL c_31 by6_j43_30 bx_5 (by decide)
          have bx_5_33 : zB 1 1201 x_5 := zB.ltR c_31 by6_j43_30 bx_5 (by decide)
          refine lv_iload hx hb dX11_isSame_50 (lv_at hl 1 rfl) ?_
          refine lv_if_eq (tgt := 99) hx hb dX11_isSame_52 (by decide) (fun c_34 => ?_) (fun c_34 => ?_)
          · have c_34 := z_eq c_34
            have by5_j43_30_35 : zB 0 0 y5_j43_30 := zB.eqL (a := 0) (b := 0) c_34 (zBc 0 0 (by decide))
            refine lv_iload hx hb dX11_isSame_99 (lv_at hl 1 rfl) ?_
            subst hQ
            exact W.zret (v := y5_j43_30) hx hb hr (z_narZ (by5_j43_30_35.w ⟨by decide, by decide⟩)) (fun t ht hW => ⟨⟨y5_j43_30, F, rfl, ⟨rfl, (by5_j43_30_35.w ⟨by decide, by decide⟩), trivial⟩, by rw [ht]; exact h.1, h.2.1, zFr.rf⟩, h.2.2.F ht⟩) h.2.2.2.2 dX11_isSame_101
          · have c_34 := z_ne c_34
            have by5_j43_30_36 : zB 1 1 y5_j43_30 := zB.neLo c_34 by5_j43_30 (zBc 0 0 (by decide)) (by decide)
            have j_j91_37 : ∀ (ls : Array Slot) (w0_j91_37 : Int32), lv_has ls 7 [(6, .int y6_j43_30), (4, .int x_5), (0, .ref th), (1, .int f_), (2, .ref ot), (3, .int g_)] → zB 0 1 w0_j91_37 → W p l e R s m args below meth c s.heap [] 0 0 Q (F0 m 91 ls [.int w0_j91_37]) := by
              intro ls w0_j91_37 hl bw0_j91_37
              refine lv_istore (lv' := [(5, .int w0_j91_37), (6, .int y6_j43_30), (4, .int x_5), (0, .ref th), (1, .int f_), (2, .ref ot), (3, .int g_)]) hx hb dX11_isSame_91 hl (by decide) rfl (fun ls hl => ?_)
              obtain ⟨x_38, ex_38, bx_38, tx_38⟩ := z_inc (n := 1) (lo := 1) (hi := 1201) by6_j43_30_32 (by decide)
              refine lv_iinc (v := x_38) (lv' := [(6, .int x_38), (5, .int w0_j91_37), (4, .int x_5), (0, .ref th), (1, .int f_), (2, .ref ot), (3, .int g_)]) hx hb dX11_isSame_93 hl (k := 1) rfl ex_38 (by decide) rfl (fun ls hl => ?_)
              refine lv_goto (tgt := 43) hx hb dX11_isSame_96 (by decide) ?_
              exact ih_j43_30 _ (by have := bx_38.1; have := bx_38.2; have := bw0_j91_37.1; have := bw0_j91_37.2; have := bx_5_33.1; have := bx_5_33.2; have := bf_.1; have := bf_.2; have := bg_.1; have := bg_.2; have : (0 : Int32).toInt = 0 := (by decide); have := by6_j43_30.1; have := by6_j43_30.2; have := by5_j43_30.1; have := by5_j43_30.2; omega) ls x_38 w0_j91_37 (lv_sub hl [0, 1, 2, 3, 4, 5, 6] rfl) (bx_38.w ⟨by decide, by decide⟩) bw0_j91_37 (by have : (0 : Int32).toInt = 0 := (by decide); have := bx_38.1; have := bx_38.2; have := bw0_j91_37.1; have := bw0_j91_37.2; have := bx_5_33.1; have := bx_5_33.2; have := bf_.1; have := bf_.2; have := bg_.1; have := bg_.2; have : (0 : Int32).toInt = 0 := (by decide); omega) (by have := bx_38.1; have := bx_38.2; have := bw0_j91_37.1; have := bw0_j91_37.2; have := bx_5_33.1; have := bx_5_33.2; have := bf_.1; have := bf_.2; have := bg_.1; have := bg_.2; have : (0 : Int32).toInt = 0 := (by decide); omega) rfl
            refine lv_aload_n hx hb dX11_isSame_55 rfl (lv_at hl 3 rfl) ?_
            refine zt_getr (t := 11) (C := RX11) (T := TX11) (N := 30) Z h hth zin_11 rfl 29 rfl ⟨by decide, rfl⟩ (zm_RX11 (List.mem_of_getElem? (i := 11) rfl)) (fun _ h9 => h9) dX11_isSame_56 (fun a_39 ka_39 ha_39 => ?_)
            refine lv_aload_n hx hb dX11_isSame_59 rfl (lv_at hl 3 rfl) ?_
            refine zt_getk (t := 11) (C := RX11) (T := TX11) (N := 30) Z h hth zin_11 rfl 10 ka_3 ⟨by decide, rfl, by decide⟩ (zm_RX11 (List.mem_of_getElem? (i := 10) rfl)) (fun _ h9 => h9) dX11_isSame_60 ?_
            refine lv_iload_n hx hb dX11_isSame_63 rfl (lv_at hl 4 rfl) ?_
            refine zt_ialdk (t := 130) Z h ha_3 ⟨by decide, rfl⟩ bf_ ⟨by decide, by decide⟩ ex_4 dX11_isSame_64 ?_
            refine lv_iload hx hb dX11_isSame_65 (lv_at hl 0 rfl) ?_
            refine lv_iadd hx hb dX11_isSame_67 ?_
            refine zi_add (lo := 0) (hi := 2401) bx_4 by6_j43_30_32 (by decide) (fun x_40 bx_40 tx_40 => ?_)
            have bx_40_41 : zB 0 1200 x_40 := ⟨by have := by6_j43_30_32.1; have := by6_j43_30_32.2; have := by5_j43_30_36.1; have := by5_j43_30_36.2; have := bx_5_33.1; have := bx_5_33.2; have := bf_.1; have := bf_.2; have := bg_.1; have := bg_.2; have := bx_40.1; have := bx_40.2; have : (0 : Int32).toInt = 0 := (by decide); omega, by have := by6_j43_30_32.1; have := by6_j43_30_32.2; have := by5_j43_30_36.1; have := by5_j43_30_36.2; have := bx_5_33.1; have := bx_5_33.2; have := bf_.1; have := bf_.2; have := bg_.1; have := bg_.2; have := bx_40.1; have := bx_40.2; have : (0 : Int32).toInt = 0 := (by decide); omega⟩
            refine zt_balde (t := 149) Z h ha_39 ⟨by decide, rfl⟩ bx_40_41 ⟨by decide, by decide⟩ dX11_isSame_68 (fun x_42 ex_42 bx_42 => ?_)
            refine lv_aload_n hx hb dX11_isSame_69 rfl (lv_at hl 5 rfl) ?_
            refine zt_getr (t := 11) (C := RX11) (T := TX11) (N := 30) Z h hot zin_11 rfl 29 rfl ⟨by decide, rfl⟩ (zm_RX11 (List.mem_of_getElem? (i := 11) rfl)) (fun _ h9 => h9) dX11_isSame_70 (fun a_43 ka_43 ha_43 => ?_)
            refine lv_aload_n hx hb dX11_isSame_73 rfl (lv_at hl 5 rfl) ?_
            refine zt_getk (t := 11) (C := RX11) (T := TX11) (N := 30) Z h hot zin_11 rfl 10 ka_8 ⟨by decide, rfl, by decide⟩ (zm_RX11 (List.mem_of_getElem? (i := 10) rfl)) (fun _ h9 => h9) dX11_isSame_74 ?_
            refine lv_iload_n hx hb dX11_isSame_77 rfl (lv_at hl 6 rfl) ?_
            refine zt_ialdk (t := 130) Z h ha_8 ⟨by decide, rfl⟩ bg_ ⟨by decide, by decide⟩ ex_9 dX11_isSame_78 ?_
            refine lv_iload hx hb dX11_isSame_79 (lv_at hl 0 rfl) ?_
            refine lv_iadd hx hb dX11_isSame_81 ?_
            refine zi_add (lo := 0) (hi := 2401) bx_9 by6_j43_30_32 (by decide) (fun x_44 bx_44 tx_44 => ?_)
            have bx_44_45 : zB 0 1200 x_44 := ⟨by have := by6_j43_30_32.1; have := by6_j43_30_32.2; have := by5_j43_30_36.1; have := by5_j43_30_36.2; have := bx_5_33.1; have := bx_5_33.2; have := bf_.1; have := bf_.2; have := bg_.1; have := bg_.2; have := bx_44.1; have := bx_44.2; have := bx_42.1; have := bx_42.2; have : (0 : Int32).toInt = 0 := (by decide); omega, by have := by6_j43_30_32.1; have := by6_j43_30_32.2; have := by5_j43_30_36.1; have := by5_j43_30_36.2; have := bx_5_33.1; have := bx_5_33.2; have := bf_.1; have := bf_.2; have := bg_.1; have := bg_.2; have := bx_44.1; have := bx_44.2; have := bx_42.1; have := bx_42.2; have : (0 : Int32).toInt = 0 := (by decide); omega⟩
            refine zt_balde (t := 149) Z h ha_43 ⟨by decide, rfl⟩ bx_44_45 ⟨by decide, by decide⟩ dX11_isSame_82 (fun x_46 ex_46 bx_46 => ?_)
            refine lv_icmp_ne (tgt := 90) hx hb dX11_isSame_83 (by decide) (fun c_47 => ?_) (fun c_47 => ?_)
            · have c_47 := z_ne c_47
              refine lv_iconst (v := 0) hx hb dX11_isSame_90 (by decide) ?_
              exact j_j91_37 ls 0 (lv_sub hl [0, 2, 3, 4, 5, 6] rfl) (zB.of ⟨by decide, by decide⟩)
            · have c_47 := z_eq c_47
              refine lv_iconst (v := 1) hx hb dX11_isSame_86 (by decide) ?_
              refine lv_goto (tgt := 91) hx hb dX11_isSame_87 (by decide) ?_
              exact j_j91_37 ls 1 (lv_sub hl [0, 2, 3, 4, 5, 6] rfl) (zB.of ⟨by decide, by decide⟩)
    exact j_j43_30 _ ls 0 1 (lv_sub hl [0, 1, 2, 3, 4, 5, 6] rfl) (zB.of ⟨by decide, by decide⟩) (zB.of ⟨by decide, by decide⟩) (by have : (0 : Int32).toInt = 0 := (by decide); have := bx_5.1; have := bx_5.2; have := bf_.1; have := bf_.2; have := bg_.1; have := bg_.2; have : (0 : Int32).toInt = 0 := (by decide); have : (1 : Int32).toInt = 1 := (by decide); omega) (by have := bx_5.1; have := bx_5.2; have := bf_.1; have := bf_.2; have := bg_.1; have := bg_.2; have : (0 : Int32).toInt = 0 := (by decide); have : (1 : Int32).toInt = 1 := (by decide); omega) rfl

set_option maxHeartbeats 4000000 in
set_option maxRecDepth 100000 in
theorem zc_X14_isNew (l : Launch) (D : va_G) (k : Nat → ClassId) (Γ : Nat → Option Nat) (L : List Nat) (F : Nat → va_E) (sz : Nat) (th : Nat) (f_ : Int32) (pr : Nat) (pq : Nat) (hth : Γ th = some 14) (bf_ : zB 0 9 f_) (kpr : zfld F th 4 = .ref pr) (hpr : Γ pr = some 11) (kpq : zfld F th 5 = .ref pq) (hpq : Γ pq = some 11) : Met l yX14_isNew zwX14_isNew ({ frames := 1, cells := 0, slots := 0, locals := 26 }) (va_Pc [.ref th, .int f_] (zP D k Γ L F sz)) (va_Qi (fun (r : Int32) (u : Nat → va_E) => F = u ∧ zB 0 1 r ∧ True) (zQ D k Γ L F []) (zA L sz)) 0 0 (zA L sz) := by
  refine Met.ofW (cc := cX14_isNew) (maxL := 3) (ret := (some .boolean)) (by decide) rfl ?_
  intro p e s m args below meth c s₁ B hml hv
  obtain ⟨rfl, hsz, hP, hK, hLn, hE, hI⟩ := hv
  have hx := B.exec
  have hb := B.bytes
  have hr := B.returns
  have hg : ∀ w ∈ zG, w.before _ s = true := fun w h9 => atoms_spec (ws := zwX14_isNew) B.pre w (List.mem_cons_of_mem _ h9)
  have hown : s.vm.findClass RX14 = some m.cls := findClass_of_methodNamed B.named
  have hlocks := B.notSynchronized
  subst hsz
  have Z : zC p m c cX14_isNew 3 s _ zG RX14 D k L := ⟨⟨hx, hb, hml, hown, hg⟩, hK, hLn, hE⟩
  have h : zH D k Γ L s F s.heap [] := ⟨hP, hI, va_S.rf⟩
  have hl := lv_entry ([.ref th, .int f_]) (n := 3) (Nat.le_of_ble_eq_true rfl)
  rw [lg_entry_eq]
  generalize (lg_sl ([.ref th, .int f_]) ++ List.replicate (3 - (lg_sl ([.ref th, .int f_])).length) Slot.unset).toArray = ls at hl ⊢
  have hl : lv_has ls 3 [(0, .ref th), (1, .int f_)] := hl
  clear hP hK hLn hE hI
  generalize hargs : ([.ref th, .int f_] : List Value).toArray = args at *
  refine z_start (fun R Q hRf hRl hQ => ?_)
  have hRf : R.frames = 1 := hRf
  have hRl : R.locals = 26 := hRl
  have h9 := h
  refine lv_aload_n hx hb dX14_isNew_0 rfl (lv_at hl 0 rfl) ?_
  refine zt_geti (t := 14) (C := RX14) (T := TX14) (N := 40) Z h hth zin_14 rfl 8 rfl ⟨by decide, rfl⟩ (zm_RX14 (List.mem_of_getElem? (i := 121) rfl)) (fun _ h9 => h9) dX14_isNew_1 (fun x_1 kx_1 bx_1 => ?_)
  refine lv_if_eq (tgt := 26) hx hb dX14_isNew_4 (by decide) (fun c_2 => ?_) (fun c_2 => ?_)
  · have c_2 := z_eq c_2
    have bx_1_3 : zB 0 0 x_1 := zB.eqL (a := 0) (b := 0) c_2 (zBc 0 0 (by decide))
    refine lv_iconst (v := (-1)) hx hb dX14_isNew_26 (by decide) ?_
    refine lv_istore_n (lv' := [(2, .int (-1)), (0, .ref th), (1, .int f_)]) hx hb dX14_isNew_27 rfl hl (by decide) rfl (fun ls hl => ?_)
    refine lv_iload_n hx hb dX14_isNew_28 rfl (lv_at hl 0 rfl) ?_
    refine lv_iconst (v := (-1)) hx hb dX14_isNew_29 (by decide) ?_
    refine lv_icmp_eq (tgt := 49) hx hb dX14_isNew_30 (by decide) (fun _ => ?_) (fun h9 => absurd (by decide) h9)
    refine lv_iconst (v := 1) hx hb dX14_isNew_49 (by decide) ?_
    refine lv_goto (tgt := 54) hx hb dX14_isNew_50 (by decide) ?_
    subst hQ
    exact W.zret (v := 1) hx hb hr (by decide) (fun t ht hW => ⟨⟨1, F, rfl, ⟨rfl, (zB.of ⟨by decide, by decide⟩), trivial⟩, by rw [ht]; exact h.1, h.2.1, zFr.rf⟩, h.2.2.F ht⟩) h.2.2.2.2 dX14_isNew_54
  · have c_2 := z_ne c_2
    have bx_1_4 : zB 1 1 x_1 := zB.neLo c_2 bx_1 (zBc 0 0 (by decide)) (by decide)
    refine lv_aload_n hx hb dX14_isNew_7 rfl (lv_at hl 0 rfl) ?_
    refine zt_getk (t := 14) (C := RX14) (T := TX14) (N := 40) Z h hth zin_14 rfl 5 kpq ⟨by decide, rfl, by decide⟩ (zm_RX14 (List.mem_of_getElem? (i := 118) rfl)) (fun _ h9 => h9) dX14_isNew_8 ?_
    refine lv_aload_n hx hb dX14_isNew_11 rfl (lv_at hl 0 rfl) ?_
    refine zt_getk (t := 14) (C := RX14) (T := TX14) (N := 40) Z h hth zin_14 rfl 4 kpr ⟨by decide, rfl, by decide⟩ (zm_RX14 (List.mem_of_getElem? (i := 119) rfl)) (fun _ h9 => h9) dX14_isNew_12 ?_
    refine zt_getrN (t := 11) (C := RX11) (T := TX11) (N := 30) Z h hpr zin_11 rfl 4 rfl ⟨by decide, rfl⟩ (zn_12 Z) (fun _ h9 => h9) dX14_isNew_15 (fun a_5 ka_5 ha_5 => ?_)
    refine lv_iload_n hx hb dX14_isNew_18 rfl (lv_at hl 1 rfl) ?_
    refine zt_lald (t := 124) Z h ha_5 ⟨by decide, rfl⟩ bf_ ⟨by decide, by decide⟩ dX14_isNew_19 (fun g_6 => ?_)
    obtain ⟨x_7, kx_7, bx_7⟩ := z_learn (j := 0) (lo := 0) (hi := 10) h hpq (by decide) rfl
    refine zk_Vi (As := [.long g_6]) (rest := []) (bytes := cX11_find) (maxL := 4) (ret := (some .int)) Z h (zc_X11_find l D k Γ L F s.heap.size pq g_6 x_7 hpq kx_7 bx_7) (cwV 1 hg zv_RX14_192 rfl rfl rfl zd_X11_find ⟨z_leR hRf (by decide), z_leR hRl (by decide)⟩) hpq (by decide) rfl rfl hl.1 rfl (Nat.le_of_ble_eq_true rfl) dX14_isNew_20 ⟨Nat.zero_le _, Nat.zero_le _⟩ (fun r_8 F_9 H locs w_10 h hfF_9 => ?_)
    obtain ⟨rfl, br_8, q_11, -⟩ := w_10
    refine lv_goto (tgt := 27) hx hb dX14_isNew_23 (by decide) ?_
    refine lv_istore_n (lv' := [(2, .int r_8), (0, .ref th), (1, .int f_)]) hx hb dX14_isNew_27 rfl hl (by decide) rfl (fun ls hl => ?_)
    refine lv_iload_n hx hb dX14_isNew_28 rfl (lv_at hl 0 rfl) ?_
    refine lv_iconst (v := (-1)) hx hb dX14_isNew_29 (by decide) ?_
    refine lv_icmp_eq (tgt := 49) hx hb dX14_isNew_30 (by decide) (fun c_12 => ?_) (fun c_12 => ?_)
    · have c_12 := z_eq c_12
      have br_8_13 : zB (-1) (-1) r_8 := zB.eqL (a := 0) (b := 0) c_12 (zBc (-1) (-1) (by decide))
      refine lv_iconst (v := 1) hx hb dX14_isNew_49 (by decide) ?_
      refine lv_goto (tgt := 54) hx hb dX14_isNew_50 (by decide) ?_
      subst hQ
      exact W.zret (v := 1) hx hb hr (by decide) (fun t ht hW => ⟨⟨1, F, rfl, ⟨rfl, (zB.of ⟨by decide, by decide⟩), trivial⟩, by rw [ht]; exact h.1, h.2.1, zFr.rf⟩, h.2.2.F ht⟩) h.2.2.2.2 dX14_isNew_54
    · have c_12 := z_ne c_12
      have br_8_14 : zB 0 9 r_8 := zB.neLo c_12 br_8 (zBc (-1) (-1) (by decide)) (by decide)
      refine lv_aload_n hx hb dX14_isNew_33 rfl (lv_at hl 1 rfl) ?_
      refine zt_getk (t := 14) (C := RX14) (T := TX14) (N := 40) Z h hth zin_14 rfl 4 kpr ⟨by decide, rfl, by decide⟩ (zm_RX14 (List.mem_of_getElem? (i := 119) rfl)) (fun _ h9 => h9) dX14_isNew_34 ?_
      refine lv_iload_n hx hb dX14_isNew_37 rfl (lv_at hl 2 rfl) ?_
      refine lv_aload_n hx hb dX14_isNew_38 rfl (lv_at hl 1 rfl) ?_
      refine zt_getk (t := 14) (C := RX14) (T := TX14) (N := 40) Z h hth zin_14 rfl 5 kpq ⟨by decide, rfl, by decide⟩ (zm_RX14 (List.mem_of_getElem? (i := 118) rfl)) (fun _ h9 => h9) dX14_isNew_39 ?_
      refine lv_iload_n hx hb dX14_isNew_42 rfl (lv_at hl 0 rfl) ?_
      refine zk_Vi (As := [.int f_, .ref pq, .int r_8]) (rest := []) (bytes := cX11_isSame) (maxL := 7) (ret := (some .boolean)) Z h (zc_X11_isSame l D k Γ L F H.size pr f_ pq r_8 hpr bf_ hpq br_8_14) (cwV 3 hg zv_RX14_432 rfl rfl rfl zd_X11_isSame ⟨z_leR hRf (by decide), z_leR hRl (by decide)⟩) hpr (by decide) rfl rfl hl.1 rfl (Nat.le_of_ble_eq_true rfl) dX14_isNew_43 ⟨Nat.zero_le _, Nat.zero_le _⟩ (fun r_15 F_16 H locs w_17 h hfF_16 => ?_)
      obtain ⟨rfl, br_15, -⟩ := w_17
      refine lv_if_ne (tgt := 53) hx hb dX14_isNew_46 (by decide) (fun c_18 => ?_) (fun c_18 => ?_)
      · have c_18 := z_ne c_18
        have br_15_19 : zB 1 1 r_15 := zB.neLo c_18 br_15 (zBc 0 0 (by decide)) (by decide)
        refine lv_iconst (v := 0) hx hb dX14_isNew_53 (by decide) ?_
        subst hQ
        exact W.zret (v := 0) hx hb hr (by decide) (fun t ht hW => ⟨⟨0, F, rfl, ⟨rfl, (zB.of ⟨by decide, by decide⟩), trivial⟩, by rw [ht]; exact h.1, h.2.1, zFr.rf⟩, h.2.2.F ht⟩) h.2.2.2.2 dX14_isNew_54
      · have c_18 := z_eq c_18
        have br_15_20 : zB 0 0 r_15 := zB.eqL (a := 0) (b := 0) c_18 (zBc 0 0 (by decide))
        refine lv_iconst (v := 1) hx hb dX14_isNew_49 (by decide) ?_
        refine lv_goto (tgt := 54) hx hb dX14_isNew_50 (by decide) ?_
        subst hQ
        exact W.zret (v := 1) hx hb hr (by decide) (fun t ht hW => ⟨⟨1, F, rfl, ⟨rfl, (zB.of ⟨by decide, by decide⟩), trivial⟩, by rw [ht]; exact h.1, h.2.1, zFr.rf⟩, h.2.2.F ht⟩) h.2.2.2.2 dX14_isNew_54

set_option maxHeartbeats 4000000 in
set_option maxRecDepth 100000 in
theorem zc_X14_anew (l : Launch) (D : va_G) (k : Nat → ClassId) (Γ : Nat → Option Nat) (L : List Nat) (F : Nat → va_E) (sz : Nat) (th : Nat) (f_ : Int32) (pr : Nat) (pq : Nat) (hth : Γ th = some 14) (kpr : zfld F th 4 = .ref pr) (hpr : Γ pr = some 11) (kpq : zfld F th 5 = .ref pq) (hpq : Γ pq = some 11) : Met l yX14_anew zwX14_anew ({ frames := 2, cells := 0, slots := 0, locals := 48 }) (va_Pc [.ref th, .int f_] (zP D k Γ L F sz)) (va_Qi (fun (r : Int32) (u : Nat → va_E) => True) (zQ D k Γ L F [1400]) (zA L sz)) 0 0 (zA L sz) := by
  refine Met.ofW (cc := cX14_anew) (maxL := 6) (ret := (some .int)) (by decide) rfl ?_
  intro p e s m args below meth c s₁ B hml hv
  obtain ⟨rfl, hsz, hP, hK, hLn, hE, hI⟩ := hv
  have hx := B.exec
  have hb := B.bytes
  have hr := B.returns
  have hg : ∀ w ∈ zG, w.before _ s = true := fun w h9 => atoms_spec (ws := zwX14_anew) B.pre w (List.mem_cons_of_mem _ h9)
  have hown : s.vm.findClass RX14 = some m.cls := findClass_of_methodNamed B.named
  have hlocks := B.notSynchronized
  subst hsz
  have Z : zC p m c cX14_anew 6 s _ zG RX14 D k L := ⟨⟨hx, hb, hml, hown, hg⟩, hK, hLn, hE⟩
  have h : zH D k Γ L s F s.heap [] := ⟨hP, hI, va_S.rf⟩
  have hl := lv_entry ([.ref th, .int f_]) (n := 6) (Nat.le_of_ble_eq_true rfl)
  rw [lg_entry_eq]
  generalize (lg_sl ([.ref th, .int f_]) ++ List.replicate (6 - (lg_sl ([.ref th, .int f_])).length) Slot.unset).toArray = ls at hl ⊢
  have hl : lv_has ls 6 [(0, .ref th), (1, .int f_)] := hl
  clear hP hK hLn hE hI
  generalize hargs : ([.ref th, .int f_] : List Value).toArray = args at *
  refine z_start (fun R Q hRf hRl hQ => ?_)
  have hRf : R.frames = 2 := hRf
  have hRl : R.locals = 48 := hRl
  have h9 := h
  refine lv_aload_n hx hb dX14_anew_0 rfl (lv_at hl 0 rfl) ?_
  refine lv_iconst (v := 0) hx hb dX14_anew_1 (by decide) ?_
  refine zt_put (t := 14) (C := RX14) (T := TX14) (N := 40) (v := .int 0) Z h hth zin_14 tyX14 tyX14_ok nmX14 rfl 0 rfl ⟨by decide, rfl⟩ (zm_RX14 (List.mem_of_getElem? (i := 105) rfl)) (fun _ h9 => h9) rfl (zV.i (zB.of ⟨by decide, by decide⟩)) rfl rfl dX14_anew_2 (fun H locs F_1 h hfF_1 kF_1 => ?_)
  refine lv_aload_n hx hb dX14_anew_5 rfl (lv_at hl 0 rfl) ?_
  refine lv_iload_n hx hb dX14_anew_6 rfl (lv_at hl 1 rfl) ?_
  obtain ⟨x_2, kx_2, bx_2⟩ := z_learn (j := 7) (lo := 0) (hi := 1) h hth (by decide) rfl
  obtain ⟨x_3, kx_3, bx_3⟩ := z_learn (j := 0) (lo := 0) (hi := 10) h hpr (by decide) rfl
  refine zk_Vi (As := [.int f_]) (rest := []) (bytes := cX14_isFunction) (maxL := 2) (ret := (some .boolean)) Z h (zc_X14_isFunction l D k Γ L F_1 H.size th f_ pr x_2 x_3 hth (hfF_1.f hth 4 ⟨by decide, by decide⟩ kpr) hpr kx_2 bx_2 kx_3 bx_3) (cwV 1 hg zv_RX14_336 rfl rfl rfl zd_X14_isFunction ⟨z_leR hRf (by decide), z_leR hRl (by decide)⟩) hth (by decide) rfl rfl hl.1 rfl (Nat.le_of_ble_eq_true rfl) dX14_anew_7 ⟨Nat.zero_le _, Nat.zero_le _⟩ (fun r_4 F_5 H locs w_6 h hfF_5 => ?_)
  obtain ⟨rfl, br_4, q_7, q_8, q_9, q_10, -⟩ := w_6
  refine lv_if_ne (tgt := 15) hx hb dX14_anew_10 (by decide) (fun c_11 => ?_) (fun c_11 => ?_)
  · have q_12 := q_7 c_11
    have bf__13 : zB 0 9 f_ := q_9 c_11
    obtain ⟨⟨x_14, kx_14, hx_14⟩, x_15, kx_15, hx_15⟩ := q_10 c_11
    have bx_14 := zB.all x_14
    have bx_15 : zB 0 10 x_15 := by obtain ⟨x9, k9, b9⟩ := z_learn (j := 0) (lo := 0) (hi := 10) h hpr (by decide) rfl; rw [z_vi kx_15 k9]; exact b9
    have c_11 := z_ne c_11
    have br_4_16 : zB 1 1 r_4 := zB.neLo c_11 br_4 (zBc 0 0 (by decide)) (by decide)
    refine lv_aload_n hx hb dX14_anew_15 rfl (lv_at hl 0 rfl) ?_
    refine lv_iload_n hx hb dX14_anew_16 rfl (lv_at hl 1 rfl) ?_
    refine zk_Vi (As := [.int f_]) (rest := []) (bytes := cX14_isNew) (maxL := 3) (ret := (some .boolean)) Z h (zc_X14_isNew l D k Γ L F_1 H.size th f_ pr pq hth bf__13 (hfF_1.f hth 4 ⟨by decide, by decide⟩ kpr) hpr (hfF_1.f hth 5 ⟨by decide, by decide⟩ kpq) hpq) (cwV 1 hg zv_RX14_436 rfl rfl rfl zd_X14_isNew ⟨z_leR hRf (by decide), z_leR hRl (by decide)⟩) hth (by decide) rfl rfl hl.1 rfl (Nat.le_of_ble_eq_true rfl) dX14_anew_17 ⟨Nat.zero_le _, Nat.zero_le _⟩ (fun r_17 F_18 H locs w_19 h hfF_18 => ?_)
    obtain ⟨rfl, br_17, -⟩ := w_19
    refine lv_if_eq (tgt := 25) hx hb dX14_anew_20 (by decide) (fun c_20 => ?_) (fun c_20 => ?_)
    · have c_20 := z_eq c_20
      have br_17_21 : zB 0 0 r_17 := zB.eqL (a := 0) (b := 0) c_20 (zBc 0 0 (by decide))
      refine lv_aload_n hx hb dX14_anew_25 rfl (lv_at hl 0 rfl) ?_
      refine zt_getk (t := 14) (C := RX14) (T := TX14) (N := 40) Z h hth zin_14 rfl 4 (hfF_1.f hth 4 ⟨by decide, by decide⟩ kpr) ⟨by decide, rfl, by decide⟩ (zm_RX14 (List.mem_of_getElem? (i := 119) rfl)) (fun _ h9 => h9) dX14_anew_26 ?_
      refine zt_getrN (t := 11) (C := RX11) (T := TX11) (N := 30) Z h hpr zin_11 rfl 9 rfl ⟨by decide, rfl⟩ (zn_31 Z) (fun _ h9 => h9) dX14_anew_29 (fun a_22 ka_22 ha_22 => ?_)
      refine lv_iload_n hx hb dX14_anew_32 rfl (lv_at hl 1 rfl) ?_
      refine zt_ialde (t := 129) Z h ha_22 ⟨by decide, rfl⟩ bf__13 ⟨by decide, by decide⟩ dX14_anew_33 (fun x_23 ex_23 bx_23 => ?_)
      refine lv_istore_n (lv' := [(2, .int x_23), (0, .ref th), (1, .int f_)]) hx hb dX14_anew_34 rfl hl (by decide) rfl (fun ls hl => ?_)
      refine lv_iconst (v := (-1)) hx hb dX14_anew_35 (by decide) ?_
      refine lv_istore_n (lv' := [(3, .int (-1)), (2, .int x_23), (0, .ref th), (1, .int f_)]) hx hb dX14_anew_36 rfl hl (by decide) rfl (fun ls hl => ?_)
      have j_j37_24 : ∀ (n : Nat) (ls : Array Slot) (y3_j37_24 : Int32) (y2_j37_24 : Int32), lv_has ls 6 [(3, .int y3_j37_24), (2, .int y2_j37_24), (0, .ref th)] → zB (-2147483648) 2147483647 y3_j37_24 → zB (-2147483648) 2147483647 y2_j37_24 → zmu y2_j37_24 y3_j37_24 = n → W p l e R s m args below meth c H locs 0 0 Q (F0 m 37 ls []) := by
        intro n
        induction n using Nat.strongRecOn with
        | _ n ih_j37_24 =>
          intro ls y3_j37_24 y2_j37_24 hl by3_j37_24 by2_j37_24 hn_j37_24
          refine lv_iload_n hx hb dX14_anew_37 rfl (lv_at hl 1 rfl) ?_
          refine lv_iload_n hx hb dX14_anew_38 rfl (lv_at hl 0 rfl) ?_
          refine lv_icmp_eq (tgt := 95) hx hb dX14_anew_39 (by decide) (fun c_25 => ?_) (fun c_25 => ?_)
          · have c_25 := z_eq c_25
            refine lv_iconst (v := 0) hx hb dX14_anew_95 (by decide) ?_
            refine lv_istore (lv' := [(4, .int 0), (3, .int y3_j37_24), (2, .int y2_j37_24), (0, .ref th)]) hx hb dX14_anew_96 hl (by decide) rfl (fun ls hl => ?_)
            refine lv_iconst (v := 0) hx hb dX14_anew_98 (by decide) ?_
            refine lv_istore (lv' := [(5, .int 0), (4, .int 0), (3, .int y3_j37_24), (2, .int y2_j37_24), (0, .ref th)]) hx hb dX14_anew_99 hl (by decide) rfl (fun ls hl => ?_)
            have j_j101_26 : ∀ (n : Nat) (ls : Array Slot) (y5_j101_26 : Int32) (y4_j101_26 : Int32) (H : Heap) (locs : List Loc), lv_has ls 6 [(5, .int y5_j101_26), (4, .int y4_j101_26), (2, .int y2_j37_24), (0, .ref th)] → zB 0 10 y5_j101_26 → zB 0 1 y4_j101_26 → zH D k Γ L s F_1 H locs → (2147483647 - y5_j101_26.toInt).toNat = n → W p l e R s m args below meth c H locs 0 0 Q (F0 m 101 ls []) := by
              intro n
              induction n using Nat.strongRecOn with
              | _ n ih_j101_26 =>
                intro ls y5_j101_26 y4_j101_26 H locs hl by5_j101_26 by4_j101_26 h hn_j101_26
                refine lv_iload hx hb dX14_anew_101 (lv_at hl 0 rfl) ?_
                refine lv_aload_n hx hb dX14_anew_103 rfl (lv_at hl 3 rfl) ?_
                refine zt_getk (t := 14) (C := RX14) (T := TX14) (N := 40) Z h hth zin_14 rfl 4 (hfF_1.f hth 4 ⟨by decide, by decide⟩ kpr) ⟨by decide, rfl, by decide⟩ (zm_RX14 (List.mem_of_getElem? (i := 119) rfl)) (fun _ h9 => h9) dX14_anew_104 ?_
                refine zt_getkN (t := 11) (C := RX11) (T := TX11) (N := 30) Z h hpr zin_11 rfl 0 kx_15 ⟨by decide, rfl, by decide⟩ (zn_2 Z) (fun _ h9 => h9) dX14_anew_107 ?_
                refine lv_icmp_ge (tgt := 150) hx hb dX14_anew_110 (by decide) (fun c_27 => ?_) (fun c_27 => ?_)
                · have c_27 := z_le c_27
                  refine lv_iload hx hb dX14_anew_150 (lv_at hl 1 rfl) ?_
                  refine lv_if_eq (tgt := 159) hx hb dX14_anew_152 (by decide) (fun c_28 => ?_) (fun c_28 => ?_)
                  · have c_28 := z_eq c_28
                    have by4_j101_26_29 : zB 0 0 y4_j101_26 := zB.eqL (a := 0) (b := 0) c_28 (zBc 0 0 (by decide))
                    refine lv_iconst (v := 0) hx hb dX14_anew_159 (by decide) ?_
                    subst hQ
                    exact W.iret (v := 0) hx hb hr (fun t ht hW => ⟨⟨0, F_1, rfl, trivial, by rw [ht]; exact h.1, h.2.1, hfF_1⟩, h.2.2.F ht⟩) h.2.2.2.2 dX14_anew_160
                  · have c_28 := z_ne c_28
                    have by4_j101_26_30 : zB 1 1 y4_j101_26 := zB.neLo c_28 by4_j101_26 (zBc 0 0 (by decide)) (by decide)
                    refine lv_iconst (v := 1) hx hb dX14_anew_155 (by decide) ?_
                    refine lv_goto (tgt := 160) hx hb dX14_anew_156 (by decide) ?_
                    subst hQ
                    exact W.iret (v := 1) hx hb hr (fun t ht hW => ⟨⟨1, F_1, rfl, trivial, by rw [ht]; exact h.1, h.2.1, hfF_1⟩, h.2.2.F ht⟩) h.2.2.2.2 dX14_anew_160
                · have c_27 := z_nle c_27
                  have by5_j101_26_31 : zB 0 9 y5_j101_26 := zB.ltL c_27 by5_j101_26 bx_15 (by decide)
                  have bx_15_32 : zB 1 10 x_15 := zB.ltR c_27 by5_j101_26 bx_15 (by decide)
                  have j_j142_33 : ∀ (ls : Array Slot) (w0_j142_33 : Int32) (H : Heap) (locs : List Loc), lv_has ls 6 [(5, .int y5_j101_26), (2, .int y2_j37_24), (0, .ref th)] → zB 0 1 w0_j142_33 → zH D k Γ L s F_1 H locs → W p l e R s m args below meth c H locs 0 0 Q (F0 m 142 ls [.int w0_j142_33]) := by
                    intro ls w0_j142_33 H locs hl bw0_j142_33 h
                    refine lv_istore (lv' := [(4, .int w0_j142_33), (5, .int y5_j101_26), (2, .int y2_j37_24), (0, .ref th)]) hx hb dX14_anew_142 hl (by decide) rfl (fun ls hl => ?_)
                    obtain ⟨x_34, ex_34, bx_34, tx_34⟩ := z_inc (n := 1) (lo := 1) (hi := 10) by5_j101_26_31 (by decide)
                    refine lv_iinc (v := x_34) (lv' := [(5, .int x_34), (4, .int w0_j142_33), (2, .int y2_j37_24), (0, .ref th)]) hx hb dX14_anew_144 hl (k := 1) rfl ex_34 (by decide) rfl (fun ls hl => ?_)
                    refine lv_goto (tgt := 101) hx hb dX14_anew_147 (by decide) ?_
                    exact ih_j101_26 _ (by have := bx_34.1; have := bx_34.2; have := bw0_j142_33.1; have := bw0_j142_33.2; have := by2_j37_24.1; have := by2_j37_24.2; have := bx_14.1; have := bx_14.2; have := bx_15_32.1; have := bx_15_32.2; have : (0 : Int32).toInt = 0 := (by decide); have := by5_j101_26.1; have := by5_j101_26.2; have := by4_j101_26.1; have := by4_j101_26.2; omega) ls x_34 w0_j142_33 H locs (lv_sub hl [0, 1, 2, 3] rfl) (bx_34.w ⟨by decide, by decide⟩) bw0_j142_33 h rfl
                  refine lv_iload hx hb dX14_anew_113 (lv_at hl 1 rfl) ?_
                  refine lv_if_ne (tgt := 137) hx hb dX14_anew_115 (by decide) (fun c_35 => ?_) (fun c_35 => ?_)
                  · have c_35 := z_ne c_35
                    have by4_j101_26_36 : zB 1 1 y4_j101_26 := zB.neLo c_35 by4_j101_26 (zBc 0 0 (by decide)) (by decide)
                    refine lv_iconst (v := 1) hx hb dX14_anew_137 (by decide) ?_
                    refine lv_goto (tgt := 142) hx hb dX14_anew_138 (by decide) ?_
                    exact j_j142_33 ls 1 H locs (lv_sub hl [0, 2, 3] rfl) (zB.of ⟨by decide, by decide⟩) h
                  · have c_35 := z_eq c_35
                    have by4_j101_26_37 : zB 0 0 y4_j101_26 := zB.eqL (a := 0) (b := 0) c_35 (zBc 0 0 (by decide))
                    refine lv_iload_n hx hb dX14_anew_118 rfl (lv_at hl 2 rfl) ?_
                    refine lv_iload hx hb dX14_anew_119 (lv_at hl 0 rfl) ?_
                    refine lv_ishr hx hb dX14_anew_121 ?_
                    refine zi_any (fun x_38 bx_38 ex_38 => ?_)
                    refine lv_iconst (v := 1) hx hb dX14_anew_122 (by decide) ?_
                    refine lv_iand hx hb dX14_anew_123 ?_
                    refine zi_and ((zBc 1 1 (by decide)).w ⟨by decide, by decide⟩ : zB 0 1 _) (fun x_39 bx_39 ex_39 => ?_)
                    refine lv_iconst (v := 1) hx hb dX14_anew_124 (by decide) ?_
                    refine lv_icmp_ne (tgt := 141) hx hb dX14_anew_125 (by decide) (fun c_40 => ?_) (fun c_40 => ?_)
                    · have c_40 := z_ne c_40
                      have bx_39_41 : zB 0 0 x_39 := zB.neHi c_40 bx_39 (zBc 1 1 (by decide)) (by decide)
                      refine lv_iconst (v := 0) hx hb dX14_anew_141 (by decide) ?_
                      exact j_j142_33 ls 0 H locs (lv_sub hl [0, 2, 3] rfl) (zB.of ⟨by decide, by decide⟩) h
                    · have c_40 := z_eq c_40
                      have bx_39_42 : zB 1 1 x_39 := zB.eqL (a := 0) (b := 0) c_40 (zBc 1 1 (by decide))
                      refine lv_aload_n hx hb dX14_anew_128 rfl (lv_at hl 3 rfl) ?_
                      refine lv_iload hx hb dX14_anew_129 (lv_at hl 0 rfl) ?_
                      refine zk_Vi (As := [.int y5_j101_26]) (rest := []) (bytes := cX14_isNew) (maxL := 3) (ret := (some .boolean)) Z h (zc_X14_isNew l D k Γ L F_1 H.size th y5_j101_26 pr pq hth by5_j101_26_31 (hfF_1.f hth 4 ⟨by decide, by decide⟩ kpr) hpr (hfF_1.f hth 5 ⟨by decide, by decide⟩ kpq) hpq) (cwV 1 hg zv_RX14_436 rfl rfl rfl zd_X14_isNew ⟨z_leR hRf (by decide), z_leR hRl (by decide)⟩) hth (by decide) rfl rfl hl.1 rfl (Nat.le_of_ble_eq_true rfl) dX14_anew_131 ⟨Nat.zero_le _, Nat.zero_le _⟩ (fun r_43 F_44 H locs w_45 h hfF_44 => ?_)
                      obtain ⟨rfl, br_43, -⟩ := w_45
                      refine lv_if_eq (tgt := 141) hx hb dX14_anew_134 (by decide) (fun c_46 => ?_) (fun c_46 => ?_)
                      · have c_46 := z_eq c_46
                        have br_43_47 : zB 0 0 r_43 := zB.eqL (a := 0) (b := 0) c_46 (zBc 0 0 (by decide))
                        refine lv_iconst (v := 0) hx hb dX14_anew_141 (by decide) ?_
                        exact j_j142_33 ls 0 H locs (lv_sub hl [0, 2, 3] rfl) (zB.of ⟨by decide, by decide⟩) h
                      · have c_46 := z_ne c_46
                        have br_43_48 : zB 1 1 r_43 := zB.neLo c_46 br_43 (zBc 0 0 (by decide)) (by decide)
                        refine lv_iconst (v := 1) hx hb dX14_anew_137 (by decide) ?_
                        refine lv_goto (tgt := 142) hx hb dX14_anew_138 (by decide) ?_
                        exact j_j142_33 ls 1 H locs (lv_sub hl [0, 2, 3] rfl) (zB.of ⟨by decide, by decide⟩) h
            exact j_j101_26 _ ls 0 0 H locs (lv_sub hl [0, 1, 3, 4] rfl) (zB.of ⟨by decide, by decide⟩) (zB.of ⟨by decide, by decide⟩) h rfl
          · have c_25 := z_ne c_25
            refine lv_iload_n hx hb dX14_anew_42 rfl (lv_at hl 1 rfl) ?_
            refine lv_istore_n (lv' := [(3, .int y2_j37_24), (2, .int y2_j37_24), (0, .ref th)]) hx hb dX14_anew_43 rfl hl (by decide) rfl (fun ls hl => ?_)
            refine lv_iconst (v := 0) hx hb dX14_anew_44 (by decide) ?_
            refine lv_istore (lv' := [(4, .int 0), (3, .int y2_j37_24), (2, .int y2_j37_24), (0, .ref th)]) hx hb dX14_anew_45 hl (by decide) rfl (fun ls hl => ?_)
            have j_j47_49 : ∀ (n : Nat) (ls : Array Slot) (y4_j47_49 : Int32) (y2_j47_49 : Int32), lv_has ls 6 [(4, .int y4_j47_49), (3, .int y2_j37_24), (2, .int y2_j47_49), (0, .ref th)] → zB 0 10 y4_j47_49 → zB (-2147483648) 2147483647 y2_j47_49 → (y2_j37_24.toBitVec.toNat ≤ y2_j47_49.toBitVec.toNat) → (2147483647 - y4_j47_49.toInt).toNat = n → W p l e R s m args below meth c H locs 0 0 Q (F0 m 47 ls []) := by
              intro n
              induction n using Nat.strongRecOn with
              | _ n ih_j47_49 =>
                intro ls y4_j47_49 y2_j47_49 hl by4_j47_49 by2_j47_49 r0_j47_49 hn_j47_49
                refine lv_iload hx hb dX14_anew_47 (lv_at hl 0 rfl) ?_
                refine lv_aload_n hx hb dX14_anew_49 rfl (lv_at hl 3 rfl) ?_
                refine zt_getk (t := 14) (C := RX14) (T := TX14) (N := 40) Z h hth zin_14 rfl 4 (hfF_1.f hth 4 ⟨by decide, by decide⟩ kpr) ⟨by decide, rfl, by decide⟩ (zm_RX14 (List.mem_of_getElem? (i := 119) rfl)) (fun _ h9 => h9) dX14_anew_50 ?_
                refine zt_getkN (t := 11) (C := RX11) (T := TX11) (N := 30) Z h hpr zin_11 rfl 0 kx_15 ⟨by decide, rfl, by decide⟩ (zn_2 Z) (fun _ h9 => h9) dX14_anew_53 ?_
                refine lv_icmp_ge (tgt := 92) hx hb dX14_anew_56 (by decide) (fun c_50 => ?_) (fun c_50 => ?_)
                · have c_50 := z_le c_50
                  refine lv_goto (tgt := 37) hx hb dX14_anew_92 (by decide) ?_
                  exact ih_j37_24 _ (by have := by4_j47_49.1; have := by4_j47_49.2; have := by2_j37_24.1; have := by2_j37_24.2; have := by2_j47_49.1; have := by2_j47_49.2; have := bx_14.1; have := bx_14.2; have := bx_15.1; have := bx_15.2; have : (0 : Int32).toInt = 0 := (by decide); have := by3_j37_24.1; have := by3_j37_24.2; have := by2_j37_24.1; have := by2_j37_24.2; exact Nat.lt_of_lt_of_eq (zmu_lt (by assumption) (by assumption)) (by assumption)) ls y2_j37_24 y2_j47_49 (lv_sub hl [1, 2, 3] rfl) by2_j37_24 by2_j47_49 rfl
                · have c_50 := z_nle c_50
                  have by4_j47_49_51 : zB 0 9 y4_j47_49 := zB.ltL c_50 by4_j47_49 bx_15 (by decide)
                  have bx_15_52 : zB 1 10 x_15 := zB.ltR c_50 by4_j47_49 bx_15 (by decide)
                  refine lv_iload_n hx hb dX14_anew_59 rfl (lv_at hl 2 rfl) ?_
                  have j_j84_53 : ∀ (ls : Array Slot) (w0_j84_53 : Int32), lv_has ls 6 [(4, .int y4_j47_49), (3, .int y2_j37_24), (0, .ref th)] → zB (-2147483648) 2147483647 w0_j84_53 → W p l e R s m args below meth c H locs 0 0 Q (F0 m 84 ls [.int w0_j84_53, .int y2_j47_49]) := by
                    intro ls w0_j84_53 hl bw0_j84_53
                    refine lv_ior hx hb dX14_anew_84 ?_
                    refine zi_any (fun x_54 bx_54 ex_54 => ?_)
                    refine lv_istore_n (lv' := [(2, .int x_54), (4, .int y4_j47_49), (3, .int y2_j37_24), (0, .ref th)]) hx hb dX14_anew_85 rfl hl (by decide) rfl (fun ls hl => ?_)
                    obtain ⟨x_55, ex_55, bx_55, tx_55⟩ := z_inc (n := 1) (lo := 1) (hi := 10) by4_j47_49_51 (by decide)
                    refine lv_iinc (v := x_55) (lv' := [(4, .int x_55), (2, .int x_54), (3, .int y2_j37_24), (0, .ref th)]) hx hb dX14_anew_86 hl (k := 1) rfl ex_55 (by decide) rfl (fun ls hl => ?_)
                    refine lv_goto (tgt := 47) hx hb dX14_anew_89 (by decide) ?_
                    exact ih_j47_49 _ (by have := bx_55.1; have := bx_55.2; have := bx_54.1; have := bx_54.2; have := by2_j37_24.1; have := by2_j37_24.2; have := bx_14.1; have := bx_14.2; have := bx_15_52.1; have := bx_15_52.2; have : (0 : Int32).toInt = 0 := (by decide); have := by4_j47_49.1; have := by4_j47_49.2; have := by2_j47_49.1; have := by2_j47_49.2; omega) ls x_55 x_54 (lv_sub hl [0, 2, 1, 3] rfl) (bx_55.w ⟨by decide, by decide⟩) bx_54 (z_or_le (by assumption) (by assumption)) rfl
                  refine lv_iload_n hx hb dX14_anew_60 rfl (lv_at hl 2 rfl) ?_
                  refine lv_iload hx hb dX14_anew_61 (lv_at hl 0 rfl) ?_
                  refine lv_ishr hx hb dX14_anew_63 ?_
                  refine zi_any (fun x_56 bx_56 ex_56 => ?_)
                  refine lv_iconst (v := 1) hx hb dX14_anew_64 (by decide) ?_
                  refine lv_iand hx hb dX14_anew_65 ?_
                  refine zi_and ((zBc 1 1 (by decide)).w ⟨by decide, by decide⟩ : zB 0 1 _) (fun x_57 bx_57 ex_57 => ?_)
                  refine lv_iconst (v := 1) hx hb dX14_anew_66 (by decide) ?_
                  refine lv_icmp_ne (tgt := 83) hx hb dX14_anew_67 (by decide) (fun c_58 => ?_) (fun c_58 => ?_)
                  · have c_58 := z_ne c_58
                    have bx_57_59 : zB 0 0 x_57 := zB.neHi c_58 bx_57 (zBc 1 1 (by decide)) (by decide)
                    refine lv_iconst (v := 0) hx hb dX14_anew_83 (by decide) ?_
                    exact j_j84_53 ls 0 (lv_sub hl [0, 1, 3] rfl) (zB.of ⟨by decide, by decide⟩)
                  · have c_58 := z_eq c_58
                    have bx_57_60 : zB 1 1 x_57 := zB.eqL (a := 0) (b := 0) c_58 (zBc 1 1 (by decide))
                    refine lv_aload_n hx hb dX14_anew_70 rfl (lv_at hl 3 rfl) ?_
                    refine zt_getk (t := 14) (C := RX14) (T := TX14) (N := 40) Z h hth zin_14 rfl 4 (hfF_1.f hth 4 ⟨by decide, by decide⟩ kpr) ⟨by decide, rfl, by decide⟩ (zm_RX14 (List.mem_of_getElem? (i := 119) rfl)) (fun _ h9 => h9) dX14_anew_71 ?_
                    refine zt_getkN (t := 11) (C := RX11) (T := TX11) (N := 30) Z h hpr zin_11 rfl 9 ka_22 ⟨by decide, rfl, by decide⟩ (zn_31 Z) (fun _ h9 => h9) dX14_anew_74 ?_
                    refine lv_iload hx hb dX14_anew_77 (lv_at hl 0 rfl) ?_
                    refine zt_ialde (t := 129) Z h ha_22 ⟨by decide, rfl⟩ by4_j47_49_51 ⟨by decide, by decide⟩ dX14_anew_79 (fun x_61 ex_61 bx_61 => ?_)
                    refine lv_goto (tgt := 84) hx hb dX14_anew_80 (by decide) ?_
                    exact j_j84_53 ls x_61 (lv_sub hl [0, 1, 3] rfl) bx_61
            exact j_j47_49 _ ls 0 y2_j37_24 (lv_sub hl [0, 1, 2, 3] rfl) (zB.of ⟨by decide, by decide⟩) by2_j37_24 (Nat.le_refl _) rfl
      exact j_j37_24 _ ls (-1) x_23 (lv_sub hl [0, 1, 2] rfl) (zB.of ⟨by decide, by decide⟩) bx_23 rfl
    · have c_20 := z_ne c_20
      have br_17_62 : zB 1 1 r_17 := zB.neLo c_20 br_17 (zBc 0 0 (by decide)) (by decide)
      refine lv_iconst (v := 2) hx hb dX14_anew_23 (by decide) ?_
      subst hQ
      exact W.iret (v := 2) hx hb hr (fun t ht hW => ⟨⟨2, F_1, rfl, trivial, by rw [ht]; exact h.1, h.2.1, hfF_1⟩, h.2.2.F ht⟩) h.2.2.2.2 dX14_anew_24
  · have q_63 := q_8 c_11
    have c_11 := z_eq c_11
    have br_4_64 : zB 0 0 r_4 := zB.eqL (a := 0) (b := 0) c_11 (zBc 0 0 (by decide))
    refine lv_iconst (v := (-1)) hx hb dX14_anew_13 (by decide) ?_
    subst hQ
    exact W.iret (v := (-1)) hx hb hr (fun t ht hW => ⟨⟨(-1), F_1, rfl, trivial, by rw [ht]; exact h.1, h.2.1, hfF_1⟩, h.2.2.F ht⟩) h.2.2.2.2 dX14_anew_14

set_option maxHeartbeats 4000000 in
set_option maxRecDepth 100000 in
theorem zc_X14_gone (l : Launch) (D : va_G) (k : Nat → ClassId) (Γ : Nat → Option Nat) (L : List Nat) (F : Nat → va_E) (sz : Nat) (th : Nat) (pr : Nat) (pq : Nat) (ip : Int32) (nf : Int32) (np : Int32) (hth : Γ th = some 14) (kpr : zfld F th 4 = .ref pr) (hpr : Γ pr = some 11) (kpq : zfld F th 5 = .ref pq) (hpq : Γ pq = some 11) (kip : zfld F th 8 = .int ip) (bip : zB 0 1 ip) (knf : zfld F pr 0 = .int nf) (bnf : zB 0 10 nf) (knp : zfld F pq 0 = .int np) (bnp : zB 0 10 np) : Met l yX14_gone zwX14_gone ({ frames := 1, cells := 0, slots := 0, locals := 23 }) (va_Pc [.ref th] (zP D k Γ L F sz)) (va_Qi (fun (r : Int32) (u : Nat → va_E) => ((ip.toInt ≠ 0 → r.toInt = zgn nf.toInt (fun f => (zal F pr 4 f).toInt) (fun g => (zal F pq 4 g).toInt) np.toInt.toNat) ∧ (ip.toInt = 0 → r.toInt = 0)) ∧ True) (zQ D k Γ L F [1400]) (zA L sz)) 0 0 (zA L sz) := by
  refine Met.ofW (cc := cX14_gone) (maxL := 3) (ret := (some .int)) (by decide) rfl ?_
  intro p e s m args below meth c s₁ B hml hv
  obtain ⟨rfl, hsz, hP, hK, hLn, hE, hI⟩ := hv
  have hx := B.exec
  have hb := B.bytes
  have hr := B.returns
  have hg : ∀ w ∈ zG, w.before _ s = true := fun w h9 => atoms_spec (ws := zwX14_gone) B.pre w (List.mem_cons_of_mem _ h9)
  have hown : s.vm.findClass RX14 = some m.cls := findClass_of_methodNamed B.named
  have hlocks := B.notSynchronized
  subst hsz
  have Z : zC p m c cX14_gone 3 s _ zG RX14 D k L := ⟨⟨hx, hb, hml, hown, hg⟩, hK, hLn, hE⟩
  have h : zH D k Γ L s F s.heap [] := ⟨hP, hI, va_S.rf⟩
  have hl := lv_entry ([.ref th]) (n := 3) (Nat.le_of_ble_eq_true rfl)
  rw [lg_entry_eq]
  generalize (lg_sl ([.ref th]) ++ List.replicate (3 - (lg_sl ([.ref th])).length) Slot.unset).toArray = ls at hl ⊢
  have hl : lv_has ls 3 [(0, .ref th)] := hl
  clear hP hK hLn hE hI
  generalize hargs : ([.ref th] : List Value).toArray = args at *
  refine z_start (fun R Q hRf hRl hQ => ?_)
  have hRf : R.frames = 1 := hRf
  have hRl : R.locals = 23 := hRl
  have h9 := h
  have saP := z_SA h.2.1 hpr
  have saQ := z_SA h.2.1 hpq
  refine lv_aload_n hx hb dX14_gone_0 rfl (lv_at hl 0 rfl) ?_
  refine lv_iconst (v := 0) hx hb dX14_gone_1 (by decide) ?_
  refine zt_put (t := 14) (C := RX14) (T := TX14) (N := 40) (v := .int 0) Z h hth zin_14 tyX14 tyX14_ok nmX14 rfl 0 rfl ⟨by decide, rfl⟩ (zm_RX14 (List.mem_of_getElem? (i := 105) rfl)) (fun _ h9 => h9) rfl (zV.i (zB.of ⟨by decide, by decide⟩)) rfl rfl dX14_gone_2 (fun H locs F_1 h hfF_1 kF_1 => ?_)
  refine lv_iconst (v := 0) hx hb dX14_gone_5 (by decide) ?_
  refine lv_istore_n (lv' := [(1, .int 0), (0, .ref th)]) hx hb dX14_gone_6 rfl hl (by decide) rfl (fun ls hl => ?_)
  refine lv_iconst (v := 0) hx hb dX14_gone_7 (by decide) ?_
  refine lv_istore_n (lv' := [(2, .int 0), (1, .int 0), (0, .ref th)]) hx hb dX14_gone_8 rfl hl (by decide) rfl (fun ls hl => ?_)
  have j_j9_2 : ∀ (n : Nat) (ls : Array Slot) (y2_j9_2 : Int32) (y1_j9_2 : Int32) (H : Heap) (locs : List Loc), lv_has ls 3 [(2, .int y2_j9_2), (1, .int y1_j9_2), (0, .ref th)] → zB 0 10 y2_j9_2 → zB 0 10 y1_j9_2 → zH D k Γ L s F_1 H locs → (y2_j9_2.toInt ≤ np.toInt) → (y1_j9_2.toInt ≤ y2_j9_2.toInt) → ((ip.toInt = 0 → y2_j9_2.toInt = 0)) → (y1_j9_2.toInt = zgn nf.toInt (fun f => (zal F pr 4 f).toInt) (fun g => (zal F pq 4 g).toInt) (Int32.toNatClampNeg y2_j9_2)) → (2147483647 - y2_j9_2.toInt).toNat = n → W p l e R s m args below meth c H locs 0 0 Q (F0 m 9 ls []) := by
    intro n
    induction n using Nat.strongRecOn with
    | _ n ih_j9_2 =>
      intro ls y2_j9_2 y1_j9_2 H locs hl by2_j9_2 by1_j9_2 h r0_j9_2 r1_j9_2 r2_j9_2 r3_j9_2 hn_j9_2
      refine lv_aload_n hx hb dX14_gone_9 rfl (lv_at hl 2 rfl) ?_
      refine zt_getk (t := 14) (C := RX14) (T := TX14) (N := 40) Z h hth zin_14 rfl 8 (hfF_1.f hth 8 ⟨by decide, by decide⟩ kip) ⟨by decide, rfl, by decide⟩ (zm_RX14 (List.mem_of_getElem? (i := 121) rfl)) (fun _ h9 => h9) dX14_gone_10 ?_
      refine lv_if_eq (tgt := 61) hx hb dX14_gone_13 (by decide) (fun c_3 => ?_) (fun c_3 => ?_)
      · have c_3 := z_eq c_3
        have bip_4 : zB 0 0 ip := zB.eqL (a := 0) (b := 0) c_3 (zBc 0 0 (by decide))
        refine lv_iload_n hx hb dX14_gone_61 rfl (lv_at hl 1 rfl) ?_
        subst hQ
        exact W.iret (v := y1_j9_2) hx hb hr (fun t ht hW => ⟨⟨y1_j9_2, F_1, rfl, ⟨⟨fun h9 => by rw [show np.toInt.toNat = Int32.toNatClampNeg y2_j9_2 by have h1 := z_cl (x := y2_j9_2) (by have := by2_j9_2.1; have := by2_j9_2.2; have := by1_j9_2.1; have := by1_j9_2.2; have := bip_4.1; have := bip_4.2; have := bnf.1; have := bnf.2; have := bnp.1; have := bnp.2; have : (0 : Int32).toInt = 0 := (by decide); omega); have := by2_j9_2.1; have := by2_j9_2.2; have := by1_j9_2.1; have := by1_j9_2.2; have := bip_4.1; have := bip_4.2; have := bnf.1; have := bnf.2; have := bnp.1; have := bnp.2; have : (0 : Int32).toInt = 0 := (by decide); omega]; exact r3_j9_2, fun h9 => by have h7 := r3_j9_2; rw [show Int32.toNatClampNeg y2_j9_2 = 0 by have h1 := z_cl (x := y2_j9_2) (by have := by2_j9_2.1; have := by2_j9_2.2; have := by1_j9_2.1; have := by1_j9_2.2; have := bip_4.1; have := bip_4.2; have := bnf.1; have := bnf.2; have := bnp.1; have := bnp.2; have : (0 : Int32).toInt = 0 := (by decide); omega); have := by2_j9_2.1; have := by2_j9_2.2; have := by1_j9_2.1; have := by1_j9_2.2; have := bip_4.1; have := bip_4.2; have := bnf.1; have := bnf.2; have := bnp.1; have := bnp.2; have : (0 : Int32).toInt = 0 := (by decide); omega] at h7; exact h7⟩, trivial⟩, by rw [ht]; exact h.1, h.2.1, hfF_1⟩, h.2.2.F ht⟩) h.2.2.2.2 dX14_gone_62
      · have c_3 := z_ne c_3
        have bip_5 : zB 1 1 ip := zB.neLo c_3 bip (zBc 0 0 (by decide)) (by decide)
        refine lv_iload_n hx hb dX14_gone_16 rfl (lv_at hl 0 rfl) ?_
        refine lv_aload_n hx hb dX14_gone_17 rfl (lv_at hl 2 rfl) ?_
        refine zt_getk (t := 14) (C := RX14) (T := TX14) (N := 40) Z h hth zin_14 rfl 5 (hfF_1.f hth 5 ⟨by decide, by decide⟩ kpq) ⟨by decide, rfl, by decide⟩ (zm_RX14 (List.mem_of_getElem? (i := 118) rfl)) (fun _ h9 => h9) dX14_gone_18 ?_
        refine zt_getkN (t := 11) (C := RX11) (T := TX11) (N := 30) Z h hpq zin_11 rfl 0 (hfF_1.f hpq 0 ⟨by decide, by decide⟩ knp) ⟨by decide, rfl, by decide⟩ (zn_2 Z) (fun _ h9 => h9) dX14_gone_21 ?_
        refine lv_icmp_ge (tgt := 61) hx hb dX14_gone_24 (by decide) (fun c_6 => ?_) (fun c_6 => ?_)
        · have c_6 := z_le c_6
          refine lv_iload_n hx hb dX14_gone_61 rfl (lv_at hl 1 rfl) ?_
          subst hQ
          exact W.iret (v := y1_j9_2) hx hb hr (fun t ht hW => ⟨⟨y1_j9_2, F_1, rfl, ⟨⟨fun h9 => by rw [show np.toInt.toNat = Int32.toNatClampNeg y2_j9_2 by have h1 := z_cl (x := y2_j9_2) (by have := by2_j9_2.1; have := by2_j9_2.2; have := by1_j9_2.1; have := by1_j9_2.2; have := bip_5.1; have := bip_5.2; have := bnf.1; have := bnf.2; have := bnp.1; have := bnp.2; have : (0 : Int32).toInt = 0 := (by decide); omega); have := by2_j9_2.1; have := by2_j9_2.2; have := by1_j9_2.1; have := by1_j9_2.2; have := bip_5.1; have := bip_5.2; have := bnf.1; have := bnf.2; have := bnp.1; have := bnp.2; have : (0 : Int32).toInt = 0 := (by decide); omega]; exact r3_j9_2, fun h9 => by have h7 := r3_j9_2; rw [show Int32.toNatClampNeg y2_j9_2 = 0 by have h1 := z_cl (x := y2_j9_2) (by have := by2_j9_2.1; have := by2_j9_2.2; have := by1_j9_2.1; have := by1_j9_2.2; have := bip_5.1; have := bip_5.2; have := bnf.1; have := bnf.2; have := bnp.1; have := bnp.2; have : (0 : Int32).toInt = 0 := (by decide); omega); have := by2_j9_2.1; have := by2_j9_2.2; have := by1_j9_2.1; have := by1_j9_2.2; have := bip_5.1; have := bip_5.2; have := bnf.1; have := bnf.2; have := bnp.1; have := bnp.2; have : (0 : Int32).toInt = 0 := (by decide); omega] at h7; exact h7⟩, trivial⟩, by rw [ht]; exact h.1, h.2.1, hfF_1⟩, h.2.2.F ht⟩) h.2.2.2.2 dX14_gone_62
        · have c_6 := z_nle c_6
          have by2_j9_2_7 : zB 0 9 y2_j9_2 := zB.ltL c_6 by2_j9_2 bnp (by decide)
          have bnp_8 : zB 1 10 np := zB.ltR c_6 by2_j9_2 bnp (by decide)
          refine lv_iload_n hx hb dX14_gone_27 rfl (lv_at hl 1 rfl) ?_
          have j_j53_9 : ∀ (ls : Array Slot) (w0_j53_9 : Int32) (H : Heap) (locs : List Loc), lv_has ls 3 [(2, .int y2_j9_2), (0, .ref th)] → zB 0 1 w0_j53_9 → zH D k Γ L s F_1 H locs → (((w0_j53_9.toInt = 1 ∧ ∀ f : Nat, (f : Int) < nf.toInt → (zal F pr 4 f).toInt ≠ (zal F pq 4 (Int32.toNatClampNeg y2_j9_2)).toInt) ∨ (w0_j53_9.toInt = 0 ∧ ∃ f : Nat, (f : Int) < nf.toInt ∧ (zal F pr 4 f).toInt = (zal F pq 4 (Int32.toNatClampNeg y2_j9_2)).toInt))) → W p l e R s m args below meth c H locs 0 0 Q (F0 m 53 ls [.int w0_j53_9, .int y1_j9_2]) := by
            intro ls w0_j53_9 H locs hl bw0_j53_9 h r0_j53_9
            refine lv_iadd hx hb dX14_gone_53 ?_
            refine zi_add (lo := 0) (hi := 11) by1_j9_2 bw0_j53_9 (by decide) (fun x_10 bx_10 tx_10 => ?_)
            refine lv_istore_n (lv' := [(1, .int x_10), (2, .int y2_j9_2), (0, .ref th)]) hx hb dX14_gone_54 rfl hl (by decide) rfl (fun ls hl => ?_)
            obtain ⟨x_11, ex_11, bx_11, tx_11⟩ := z_inc (n := 1) (lo := 1) (hi := 10) by2_j9_2_7 (by decide)
            refine lv_iinc (v := x_11) (lv' := [(2, .int x_11), (1, .int x_10), (0, .ref th)]) hx hb dX14_gone_55 hl (k := 1) rfl ex_11 (by decide) rfl (fun ls hl => ?_)
            refine lv_goto (tgt := 9) hx hb dX14_gone_58 (by decide) ?_
            exact ih_j9_2 _ (by have := bx_11.1; have := bx_11.2; have := bx_10.1; have := bx_10.2; have := bip_5.1; have := bip_5.2; have := bnf.1; have := bnf.2; have := bnp_8.1; have := bnp_8.2; have : (0 : Int32).toInt = 0 := (by decide); have := by2_j9_2.1; have := by2_j9_2.2; have := by1_j9_2.1; have := by1_j9_2.2; omega) ls x_11 x_10 H locs (lv_sub hl [0, 1, 2] rfl) (bx_11.w ⟨by decide, by decide⟩) (zB.of ⟨by have := bx_11.1; have := bx_11.2; have := bx_10.1; have := bx_10.2; have := bip_5.1; have := bip_5.2; have := bnf.1; have := bnf.2; have := bnp_8.1; have := bnp_8.2; have : (0 : Int32).toInt = 0 := (by decide); omega, by have := bx_11.1; have := bx_11.2; have := bx_10.1; have := bx_10.2; have := bip_5.1; have := bip_5.2; have := bnf.1; have := bnf.2; have := bnp_8.1; have := bnp_8.2; have : (0 : Int32).toInt = 0 := (by decide); omega⟩) h (by have := bx_11.1; have := bx_11.2; have := bx_10.1; have := bx_10.2; have := bip_5.1; have := bip_5.2; have := bnf.1; have := bnf.2; have := bnp_8.1; have := bnp_8.2; have : (0 : Int32).toInt = 0 := (by decide); omega) (by have := bx_11.1; have := bx_11.2; have := bx_10.1; have := bx_10.2; have := bip_5.1; have := bip_5.2; have := bnf.1; have := bnf.2; have := bnp_8.1; have := bnp_8.2; have : (0 : Int32).toInt = 0 := (by decide); omega) (by have := bx_11.1; have := bx_11.2; have := bx_10.1; have := bx_10.2; have := bip_5.1; have := bip_5.2; have := bnf.1; have := bnf.2; have := bnp_8.1; have := bnp_8.2; have : (0 : Int32).toInt = 0 := (by decide); omega) (by rcases r0_j53_9 with ⟨g1, g2⟩ | ⟨g1, g2⟩; (rw [show Int32.toNatClampNeg x_11 = Int32.toNatClampNeg y2_j9_2 + 1 by have h1 := z_cl (x := x_11) (by have := bx_11.1; have := bx_11.2; have := bx_10.1; have := bx_10.2; have := by2_j9_2_7.1; have := by2_j9_2_7.2; have := by1_j9_2.1; have := by1_j9_2.2; have := bip_5.1; have := bip_5.2; have := bnf.1; have := bnf.2; have := bnp_8.1; have := bnp_8.2; have : (0 : Int32).toInt = 0 := (by decide); omega); have h2 := z_cl (x := y2_j9_2) (by have := bx_11.1; have := bx_11.2; have := bx_10.1; have := bx_10.2; have := by2_j9_2_7.1; have := by2_j9_2_7.2; have := by1_j9_2.1; have := by1_j9_2.2; have := bip_5.1; have := bip_5.2; have := bnf.1; have := bnf.2; have := bnp_8.1; have := bnp_8.2; have : (0 : Int32).toInt = 0 := (by decide); omega); have := bx_11.1; have := bx_11.2; have := bx_10.1; have := bx_10.2; have := by2_j9_2_7.1; have := by2_j9_2_7.2; have := by1_j9_2.1; have := by1_j9_2.2; have := bip_5.1; have := bip_5.2; have := bnf.1; have := bnf.2; have := bnp_8.1; have := bnp_8.2; have : (0 : Int32).toInt = 0 := (by decide); omega, zgn_n g2]; have h7 := r3_j9_2; have := bx_11.1; have := bx_11.2; have := bx_10.1; have := bx_10.2; have := by2_j9_2_7.1; have := by2_j9_2_7.2; have := by1_j9_2.1; have := by1_j9_2.2; have := bip_5.1; have := bip_5.2; have := bnf.1; have := bnf.2; have := bnp_8.1; have := bnp_8.2; have : (0 : Int32).toInt = 0 := (by decide); omega); (rw [show Int32.toNatClampNeg x_11 = Int32.toNatClampNeg y2_j9_2 + 1 by have h1 := z_cl (x := x_11) (by have := bx_11.1; have := bx_11.2; have := bx_10.1; have := bx_10.2; have := by2_j9_2_7.1; have := by2_j9_2_7.2; have := by1_j9_2.1; have := by1_j9_2.2; have := bip_5.1; have := bip_5.2; have := bnf.1; have := bnf.2; have := bnp_8.1; have := bnp_8.2; have : (0 : Int32).toInt = 0 := (by decide); omega); have h2 := z_cl (x := y2_j9_2) (by have := bx_11.1; have := bx_11.2; have := bx_10.1; have := bx_10.2; have := by2_j9_2_7.1; have := by2_j9_2_7.2; have := by1_j9_2.1; have := by1_j9_2.2; have := bip_5.1; have := bip_5.2; have := bnf.1; have := bnf.2; have := bnp_8.1; have := bnp_8.2; have : (0 : Int32).toInt = 0 := (by decide); omega); have := bx_11.1; have := bx_11.2; have := bx_10.1; have := bx_10.2; have := by2_j9_2_7.1; have := by2_j9_2_7.2; have := by1_j9_2.1; have := by1_j9_2.2; have := bip_5.1; have := bip_5.2; have := bnf.1; have := bnf.2; have := bnp_8.1; have := bnp_8.2; have : (0 : Int32).toInt = 0 := (by decide); omega, zgn_y g2]; have h7 := r3_j9_2; have := bx_11.1; have := bx_11.2; have := bx_10.1; have := bx_10.2; have := by2_j9_2_7.1; have := by2_j9_2_7.2; have := by1_j9_2.1; have := by1_j9_2.2; have := bip_5.1; have := bip_5.2; have := bnf.1; have := bnf.2; have := bnp_8.1; have := bnp_8.2; have : (0 : Int32).toInt = 0 := (by decide); omega)) rfl
          refine lv_aload_n hx hb dX14_gone_28 rfl (lv_at hl 2 rfl) ?_
          refine zt_getk (t := 14) (C := RX14) (T := TX14) (N := 40) Z h hth zin_14 rfl 4 (hfF_1.f hth 4 ⟨by decide, by decide⟩ kpr) ⟨by decide, rfl, by decide⟩ (zm_RX14 (List.mem_of_getElem? (i := 119) rfl)) (fun _ h9 => h9) dX14_gone_29 ?_
          refine lv_aload_n hx hb dX14_gone_32 rfl (lv_at hl 2 rfl) ?_
          refine zt_getk (t := 14) (C := RX14) (T := TX14) (N := 40) Z h hth zin_14 rfl 5 (hfF_1.f hth 5 ⟨by decide, by decide⟩ kpq) ⟨by decide, rfl, by decide⟩ (zm_RX14 (List.mem_of_getElem? (i := 118) rfl)) (fun _ h9 => h9) dX14_gone_33 ?_
          refine zt_getrN (t := 11) (C := RX11) (T := TX11) (N := 30) Z h hpq zin_11 rfl 4 rfl ⟨by decide, rfl⟩ (zn_12 Z) (fun _ h9 => h9) dX14_gone_36 (fun a_12 ka_12 ha_12 => ?_)
          refine lv_iload_n hx hb dX14_gone_39 rfl (lv_at hl 0 rfl) ?_
          refine zt_lalde (t := 124) Z h ha_12 ⟨by decide, rfl⟩ by2_j9_2_7 ⟨by decide, by decide⟩ dX14_gone_40 (fun g_13 eg_13 => ?_)
          have hB_ : zal F pq 4 (Int32.toNatClampNeg y2_j9_2) = g_13 := by rw [← saQ.al (hfF_1 : zFr Γ [1400] F F_1) 4 (by decide), zal_eq ka_12]; exact eg_13
          refine zk_Vi (As := [.long g_13]) (rest := [.int y1_j9_2]) (bytes := cX11_find) (maxL := 4) (ret := (some .int)) Z h (ze_X11_find l D k Γ L F_1 H.size pr g_13 nf (fun f => (zal F pr 4 f).toInt) (fun f => f) hpr (hfF_1.f hpr 0 ⟨by decide, by decide⟩ knf) bnf (fun f h9 => congrArg Int64.toInt (congrFun (saP.al (hfF_1 : zFr Γ [1400] F F_1) 4 (by decide)) f))) (cwV 1 hg zv_RX14_192 rfl rfl rfl zd_X11_find ⟨z_leR hRf (by decide), z_leR hRl (by decide)⟩) hpr (by decide) rfl rfl hl.1 rfl (Nat.le_of_ble_eq_true rfl) dX14_gone_41 ⟨Nat.zero_le _, Nat.zero_le _⟩ (fun r_14 F_15 H locs w_16 h hfF_15 => ?_)
          obtain ⟨rfl, br_14, q_17, q_18, -⟩ := w_16
          refine lv_iconst (v := (-1)) hx hb dX14_gone_44 (by decide) ?_
          refine lv_icmp_ne (tgt := 52) hx hb dX14_gone_45 (by decide) (fun c_19 => ?_) (fun c_19 => ?_)
          · have c_19 := z_ne c_19
            have br_14_20 : zB 0 9 r_14 := zB.neLo c_19 br_14 (zBc (-1) (-1) (by decide)) (by decide)
            refine lv_iconst (v := 0) hx hb dX14_gone_52 (by decide) ?_
            exact j_j53_9 ls 0 H locs (lv_sub hl [0, 2] rfl) (zB.of ⟨by decide, by decide⟩) h (by have h7 := q_18; cases h8 : zfind (fun f => (zal F pr 4 f).toInt) (fun f => f) g_13.toInt nf.toInt.toNat with | none => (rw [h8] at h7; have h6 : zfi none = -1 := rfl; exfalso; have := by2_j9_2_7.1; have := by2_j9_2_7.2; have := by1_j9_2.1; have := by1_j9_2.2; have := br_14_20.1; have := br_14_20.2; have := bip_5.1; have := bip_5.2; have := bnf.1; have := bnf.2; have := bnp_8.1; have := bnp_8.2; have : ((-1) : Int32).toInt = (-1) := (by decide); have : (0 : Int32).toInt = 0 := (by decide); omega) | some g => (rw [h8] at h7; have h6 : zfi (some g) = (g : Int) := rfl; exact Or.inr ⟨by decide, g, by have := (zfind_lt h8).1; omega, (zfind_lt h8).2.trans (congrArg Int64.toInt hB_).symm⟩))
          · have c_19 := z_eq c_19
            have br_14_21 : zB (-1) (-1) r_14 := zB.eqL (a := 0) (b := 0) c_19 (zBc (-1) (-1) (by decide))
            refine lv_iconst (v := 1) hx hb dX14_gone_48 (by decide) ?_
            refine lv_goto (tgt := 53) hx hb dX14_gone_49 (by decide) ?_
            exact j_j53_9 ls 1 H locs (lv_sub hl [0, 2] rfl) (zB.of ⟨by decide, by decide⟩) h (by have h7 := q_18; cases h8 : zfind (fun f => (zal F pr 4 f).toInt) (fun f => f) g_13.toInt nf.toInt.toNat with | none => (rw [h8] at h7; have h6 : zfi none = -1 := rfl; exact Or.inl ⟨by decide, fun f h9 h5 => zfind_no h8 f (by omega) (h5.trans (congrArg Int64.toInt hB_))⟩) | some g => (rw [h8] at h7; have h6 : zfi (some g) = (g : Int) := rfl; exfalso; have := by2_j9_2_7.1; have := by2_j9_2_7.2; have := by1_j9_2.1; have := by1_j9_2.2; have := br_14_21.1; have := br_14_21.2; have := bip_5.1; have := bip_5.2; have := bnf.1; have := bnf.2; have := bnp_8.1; have := bnp_8.2; have : ((-1) : Int32).toInt = (-1) := (by decide); have : (0 : Int32).toInt = 0 := (by decide); have : (1 : Int32).toInt = 1 := (by decide); omega))
  exact j_j9_2 _ ls 0 0 H locs (lv_sub hl [0, 1, 2] rfl) (zB.of ⟨by decide, by decide⟩) (zB.of ⟨by decide, by decide⟩) h (by have := bip.1; have := bip.2; have := bnf.1; have := bnf.2; have := bnp.1; have := bnp.2; have : (0 : Int32).toInt = 0 := (by decide); omega) (by have := bip.1; have := bip.2; have := bnf.1; have := bnf.2; have := bnp.1; have := bnp.2; have : (0 : Int32).toInt = 0 := (by decide); omega) (by have := bip.1; have := bip.2; have := bnf.1; have := bnf.2; have := bnp.1; have := bnp.2; have : (0 : Int32).toInt = 0 := (by decide); omega) (by rw [show Int32.toNatClampNeg 0 = 0 by decide]; exact (show (0 : Int32).toInt = 0 by decide)) rfl
