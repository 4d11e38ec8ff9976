set_option maxHeartbeats 4000000 in
set_option maxRecDepth 100000 in
theorem zm_X5_keepsSaid (l : Launch) (D : va_G) (k : Nat → ClassId) (Γ : Nat → Option Nat) (L : List Nat) (F : Nat → va_E) (sz : Nat) (th : Nat) (i : Int32) (μ : zVm) (hth : Γ th = some 5) (hr0 : zVc F th μ) : Met l yX5_keepsSaid zwX5_keepsSaid ({ frames := 0, cells := 0, slots := 0, locals := 0 }) (va_Pc [.ref th, .int i] (zP D k Γ L F sz)) (va_Qi (fun (r : Int32) (u : Nat → va_E) => F = u ∧ zB 0 1 r ∧ (r ≠ 0 → zB 0 59 i) ∧ ((r.toInt = 1 ∧ 0 ≤ i.toInt ∧ i.toInt < (vsc μ : Int) ∧ i.toInt < 60) ∨ (r.toInt = 0 ∧ (i.toInt < 0 ∨ (vsc μ : Int) ≤ i.toInt ∨ 60 ≤ i.toInt))) ∧ True) (zQ D k Γ L F []) (zA L sz)) 0 0 (zA L sz) := by
  refine Met.ofW (cc := cX5_keepsSaid) (maxL := 2) (ret := (some .boolean)) (by decide) rfl ?_
  intro p e s m args below meth c s₁ B hml hv
  obtain ⟨rfl, hsz, hP, hK, hLn, hE, hI⟩ := hv
  have hx := B.exec
  have hb := B.bytes
  have hr := B.returns
  have hg : ∀ w ∈ zG, w.before _ s = true := fun w h9 => atoms_spec (ws := zwX5_keepsSaid) B.pre w (List.mem_cons_of_mem _ h9)
  have hown : s.vm.findClass RX5 = some m.cls := findClass_of_methodNamed B.named
  have hlocks := B.notSynchronized
  subst hsz
  have Z : zC p m c cX5_keepsSaid 2 s _ zG RX5 D k L := ⟨⟨hx, hb, hml, hown, hg⟩, hK, hLn, hE⟩
  have h : zH D k Γ L s F s.heap [] := ⟨hP, hI, va_S.rf⟩
  have hl := lv_entry ([.ref th, .int i]) (n := 2) (Nat.le_of_ble_eq_true rfl)
  rw [lg_entry_eq]
  generalize (lg_sl ([.ref th, .int i]) ++ List.replicate (2 - (lg_sl ([.ref th, .int i])).length) Slot.unset).toArray = ls at hl ⊢
  have hl : lv_has ls 2 [(0, .ref th), (1, .int i)] := hl
  clear hP hK hLn hE hI
  generalize hargs : ([.ref th, .int i] : List Value).toArray = args at *
  refine z_start (fun R Q hRf hRl hQ => ?_)
  have hRf : R.frames = 0 := hRf
  have hRl : R.locals = 0 := hRl
  have h9 := h
  obtain ⟨sc_, ksc_, tsc_⟩ := hr0.sc
  have bsc_ : zB (-2147483648) 2147483647 sc_ := zB.all _
  refine lv_iload_n hx hb dX5_keepsSaid_0 rfl (lv_at hl 1 rfl) ?_
  refine lv_if_lt (tgt := 25) hx hb dX5_keepsSaid_1 (by decide) (fun c_1 => ?_) (fun c_1 => ?_)
  · have c_1 := z_lt c_1
    have bi_2 : zB (-2147483648) (-1) i := zB.ltL c_1 (zB.all i) (zBc 0 0 (by decide)) (by decide)
    refine lv_iconst (v := 0) hx hb dX5_keepsSaid_25 (by decide) ?_
    subst hQ
    exact W.zret (v := 0) hx hb hr (by decide) (fun t ht hW => ⟨⟨0, F, rfl, ⟨rfl, (zB.of ⟨by decide, by decide⟩), (fun h9 => absurd rfl h9), (by have := bi_2.1; have := bi_2.2; have := bsc_.1; have := bsc_.2; have : (0 : Int32).toInt = 0 := (by decide); omega), trivial⟩, by rw [ht]; exact h.1, h.2.1, zFr.rf⟩, h.2.2.F ht⟩) h.2.2.2.2 dX5_keepsSaid_26
  · have c_1 := z_nlt c_1
    have bi_3 : zB 0 2147483647 i := zB.leR c_1 (zBc 0 0 (by decide)) (zB.all i) (by decide)
    refine lv_iload_n hx hb dX5_keepsSaid_4 rfl (lv_at hl 1 rfl) ?_
    refine lv_aload_n hx hb dX5_keepsSaid_5 rfl (lv_at hl 0 rfl) ?_
    refine zt_getk (t := 5) (C := RX5) (T := TX5) (N := 19) Z h hth zin_5 rfl 3 ksc_ ⟨by decide, rfl, by decide⟩ (zm_RX5 (List.mem_of_getElem? (i := 8) rfl)) (fun _ h9 => h9) dX5_keepsSaid_6 ?_
    refine lv_icmp_ge (tgt := 25) hx hb dX5_keepsSaid_9 (by decide) (fun c_4 => ?_) (fun c_4 => ?_)
    · have c_4 := z_le c_4
      refine lv_iconst (v := 0) hx hb dX5_keepsSaid_25 (by decide) ?_
      subst hQ
      exact W.zret (v := 0) hx hb hr (by decide) (fun t ht hW => ⟨⟨0, F, rfl, ⟨rfl, (zB.of ⟨by decide, by decide⟩), (fun h9 => absurd rfl h9), (by have := bi_3.1; have := bi_3.2; have := bsc_.1; have := bsc_.2; have : (0 : Int32).toInt = 0 := (by decide); omega), trivial⟩, by rw [ht]; exact h.1, h.2.1, zFr.rf⟩, h.2.2.F ht⟩) h.2.2.2.2 dX5_keepsSaid_26
    · have c_4 := z_nle c_4
      have bi_5 : zB 0 2147483646 i := zB.ltL c_4 bi_3 bsc_ (by decide)
      have bsc__6 : zB 1 2147483647 sc_ := zB.ltR c_4 bi_3 bsc_ (by decide)
      refine lv_iload_n hx hb dX5_keepsSaid_12 rfl (lv_at hl 1 rfl) ?_
      refine lv_aload_n hx hb dX5_keepsSaid_13 rfl (lv_at hl 0 rfl) ?_
      refine zt_getr (t := 5) (C := RX5) (T := TX5) (N := 19) Z h hth zin_5 rfl 7 rfl ⟨by decide, rfl⟩ (zm_RX5 (List.mem_of_getElem? (i := 40) rfl)) (fun _ h9 => h9) dX5_keepsSaid_14 (fun a_7 ka_7 ha_7 => ?_)
      refine zt_alen (t := 108) Z h ha_7 ⟨by decide, rfl⟩ (by decide) (v := 60) rfl dX5_keepsSaid_17 ?_
      refine lv_icmp_ge (tgt := 25) hx hb dX5_keepsSaid_18 (by decide) (fun c_8 => ?_) (fun c_8 => ?_)
      · have c_8 := z_le c_8
        have bi_9 : zB 60 2147483646 i := zB.leR c_8 (zBc 60 60 (by decide)) bi_5 (by decide)
        refine lv_iconst (v := 0) hx hb dX5_keepsSaid_25 (by decide) ?_
        subst hQ
        exact W.zret (v := 0) hx hb hr (by decide) (fun t ht hW => ⟨⟨0, F, rfl, ⟨rfl, (zB.of ⟨by decide, by decide⟩), (fun h9 => absurd rfl h9), (by have := bi_9.1; have := bi_9.2; have := bsc__6.1; have := bsc__6.2; have : (0 : Int32).toInt = 0 := (by decide); have : (60 : Int32).toInt = 60 := (by decide); omega), trivial⟩, by rw [ht]; exact h.1, h.2.1, zFr.rf⟩, h.2.2.F ht⟩) h.2.2.2.2 dX5_keepsSaid_26
      · have c_8 := z_nle c_8
        have bi_10 : zB 0 59 i := zB.ltL c_8 bi_5 (zBc 60 60 (by decide)) (by decide)
        refine lv_iconst (v := 1) hx hb dX5_keepsSaid_21 (by decide) ?_
        refine lv_goto (tgt := 26) hx hb dX5_keepsSaid_22 (by decide) ?_
        subst hQ
        exact W.zret (v := 1) hx hb hr (by decide) (fun t ht hW => ⟨⟨1, F, rfl, ⟨rfl, (zB.of ⟨by decide, by decide⟩), (fun _ => bi_10), (by have := bi_10.1; have := bi_10.2; have := bsc__6.1; have := bsc__6.2; have : (0 : Int32).toInt = 0 := (by decide); have : (1 : Int32).toInt = 1 := (by decide); have : (60 : Int32).toInt = 60 := (by decide); omega), trivial⟩, by rw [ht]; exact h.1, h.2.1, zFr.rf⟩, h.2.2.F ht⟩) h.2.2.2.2 dX5_keepsSaid_26

set_option maxHeartbeats 4000000 in
set_option maxRecDepth 100000 in
theorem zm_X5_keepsTrace (l : Launch) (D : va_G) (k : Nat → ClassId) (Γ : Nat → Option Nat) (L : List Nat) (F : Nat → va_E) (sz : Nat) (th : Nat) (i : Int32) (wh : Int32) (μ : zVm) (hth : Γ th = some 5) (hr0 : zVc F th μ) : Met l yX5_keepsTrace zwX5_keepsTrace ({ frames := 0, cells := 0, slots := 0, locals := 0 }) (va_Pc [.ref th, .int i, .int wh] (zP D k Γ L F sz)) (va_Qi (fun (r : Int32) (u : Nat → va_E) => F = u ∧ zB 0 1 r ∧ (r ≠ 0 → zB 0 399 i) ∧ (r ≠ 0 → zB 0 3 wh) ∧ ((r.toInt = 1 ∧ (0 ≤ i.toInt ∧ i.toInt < (vtc μ : Int) ∧ i.toInt < 400) ∧ 0 ≤ wh.toInt ∧ wh.toInt ≤ 3) ∨ (r.toInt = 0 ∧ (i.toInt < 0 ∨ (vtc μ : Int) ≤ i.toInt ∨ 400 ≤ i.toInt ∨ wh.toInt < 0 ∨ 3 < wh.toInt))) ∧ True) (zQ D k Γ L F []) (zA L sz)) 0 0 (zA L sz) := by
  refine Met.ofW (cc := cX5_keepsTrace) (maxL := 3) (ret := (some .boolean)) (by decide) rfl ?_
  intro p e s m args below meth c s₁ B hml hv
  obtain ⟨rfl, hsz, hP, hK, hLn, hE, hI⟩ := hv
  have hx := B.exec
  have hb := B.bytes
  have hr := B.returns
  have hg : ∀ w ∈ zG, w.before _ s = true := fun w h9 => atoms_spec (ws := zwX5_keepsTrace) B.pre w (List.mem_cons_of_mem _ h9)
  have hown : s.vm.findClass RX5 = some m.cls := findClass_of_methodNamed B.named
  have hlocks := B.notSynchronized
  subst hsz
  have Z : zC p m c cX5_keepsTrace 3 s _ zG RX5 D k L := ⟨⟨hx, hb, hml, hown, hg⟩, hK, hLn, hE⟩
  have h : zH D k Γ L s F s.heap [] := ⟨hP, hI, va_S.rf⟩
  have hl := lv_entry ([.ref th, .int i, .int wh]) (n := 3) (Nat.le_of_ble_eq_true rfl)
  rw [lg_entry_eq]
  generalize (lg_sl ([.ref th, .int i, .int wh]) ++ List.replicate (3 - (lg_sl ([.ref th, .int i, .int wh])).length) Slot.unset).toArray = ls at hl ⊢
  have hl : lv_has ls 3 [(0, .ref th), (1, .int i), (2, .int wh)] := hl
  clear hP hK hLn hE hI
  generalize hargs : ([.ref th, .int i, .int wh] : List Value).toArray = args at *
  refine z_start (fun R Q hRf hRl hQ => ?_)
  have hRf : R.frames = 0 := hRf
  have hRl : R.locals = 0 := hRl
  have h9 := h
  obtain ⟨tc_, ktc_, ttc_⟩ := hr0.tc
  have btc_ : zB (-2147483648) 2147483647 tc_ := zB.all _
  refine lv_iload_n hx hb dX5_keepsTrace_0 rfl (lv_at hl 1 rfl) ?_
  refine lv_if_lt (tgt := 32) hx hb dX5_keepsTrace_1 (by decide) (fun c_1 => ?_) (fun c_1 => ?_)
  · have c_1 := z_lt c_1
    have bi_2 : zB (-2147483648) (-1) i := zB.ltL c_1 (zB.all i) (zBc 0 0 (by decide)) (by decide)
    refine lv_iconst (v := 0) hx hb dX5_keepsTrace_32 (by decide) ?_
    subst hQ
    exact W.zret (v := 0) hx hb hr (by decide) (fun t ht hW => ⟨⟨0, F, rfl, ⟨rfl, (zB.of ⟨by decide, by decide⟩), (fun h9 => absurd rfl h9), (fun h9 => absurd rfl h9), (by have := bi_2.1; have := bi_2.2; have := (zB.all wh).1; have := (zB.all wh).2; have := btc_.1; have := btc_.2; have : (0 : Int32).toInt = 0 := (by decide); omega), trivial⟩, by rw [ht]; exact h.1, h.2.1, zFr.rf⟩, h.2.2.F ht⟩) h.2.2.2.2 dX5_keepsTrace_33
  · have c_1 := z_nlt c_1
    have bi_3 : zB 0 2147483647 i := zB.leR c_1 (zBc 0 0 (by decide)) (zB.all i) (by decide)
    refine lv_iload_n hx hb dX5_keepsTrace_4 rfl (lv_at hl 1 rfl) ?_
    refine lv_aload_n hx hb dX5_keepsTrace_5 rfl (lv_at hl 0 rfl) ?_
    refine zt_getk (t := 5) (C := RX5) (T := TX5) (N := 19) Z h hth zin_5 rfl 4 ktc_ ⟨by decide, rfl, by decide⟩ (zm_RX5 (List.mem_of_getElem? (i := 9) rfl)) (fun _ h9 => h9) dX5_keepsTrace_6 ?_
    refine lv_icmp_ge (tgt := 32) hx hb dX5_keepsTrace_9 (by decide) (fun c_4 => ?_) (fun c_4 => ?_)
    · have c_4 := z_le c_4
      refine lv_iconst (v := 0) hx hb dX5_keepsTrace_32 (by decide) ?_
      subst hQ
      exact W.zret (v := 0) hx hb hr (by decide) (fun t ht hW => ⟨⟨0, F, rfl, ⟨rfl, (zB.of ⟨by decide, by decide⟩), (fun h9 => absurd rfl h9), (fun h9 => absurd rfl h9), (by have := bi_3.1; have := bi_3.2; have := (zB.all wh).1; have := (zB.all wh).2; have := btc_.1; have := btc_.2; have : (0 : Int32).toInt = 0 := (by decide); omega), trivial⟩, by rw [ht]; exact h.1, h.2.1, zFr.rf⟩, h.2.2.F ht⟩) h.2.2.2.2 dX5_keepsTrace_33
    · have c_4 := z_nle c_4
      have bi_5 : zB 0 2147483646 i := zB.ltL c_4 bi_3 btc_ (by decide)
      have btc__6 : zB 1 2147483647 tc_ := zB.ltR c_4 bi_3 btc_ (by decide)
      refine lv_iload_n hx hb dX5_keepsTrace_12 rfl (lv_at hl 1 rfl) ?_
      refine lv_sipush (v := 400) hx hb dX5_keepsTrace_13 (by decide) ?_
      refine lv_icmp_ge (tgt := 32) hx hb dX5_keepsTrace_16 (by decide) (fun c_7 => ?_) (fun c_7 => ?_)
      · have c_7 := z_le c_7
        have bi_8 : zB 400 2147483646 i := zB.leR c_7 (zBc 400 400 (by decide)) bi_5 (by decide)
        refine lv_iconst (v := 0) hx hb dX5_keepsTrace_32 (by decide) ?_
        subst hQ
        exact W.zret (v := 0) hx hb hr (by decide) (fun t ht hW => ⟨⟨0, F, rfl, ⟨rfl, (zB.of ⟨by decide, by decide⟩), (fun h9 => absurd rfl h9), (fun h9 => absurd rfl h9), (by have := bi_8.1; have := bi_8.2; have := (zB.all wh).1; have := (zB.all wh).2; have := btc__6.1; have := btc__6.2; have : (0 : Int32).toInt = 0 := (by decide); have : (400 : Int32).toInt = 400 := (by decide); omega), trivial⟩, by rw [ht]; exact h.1, h.2.1, zFr.rf⟩, h.2.2.F ht⟩) h.2.2.2.2 dX5_keepsTrace_33
      · have c_7 := z_nle c_7
        have bi_9 : zB 0 399 i := zB.ltL c_7 bi_5 (zBc 400 400 (by decide)) (by decide)
        refine lv_iload_n hx hb dX5_keepsTrace_19 rfl (lv_at hl 2 rfl) ?_
        refine lv_if_lt (tgt := 32) hx hb dX5_keepsTrace_20 (by decide) (fun c_10 => ?_) (fun c_10 => ?_)
        · have c_10 := z_lt c_10
          have bwh_11 : zB (-2147483648) (-1) wh := zB.ltL c_10 (zB.all wh) (zBc 0 0 (by decide)) (by decide)
          refine lv_iconst (v := 0) hx hb dX5_keepsTrace_32 (by decide) ?_
          subst hQ
          exact W.zret (v := 0) hx hb hr (by decide) (fun t ht hW => ⟨⟨0, F, rfl, ⟨rfl, (zB.of ⟨by decide, by decide⟩), (fun h9 => absurd rfl h9), (fun h9 => absurd rfl h9), (by have := bi_9.1; have := bi_9.2; have := bwh_11.1; have := bwh_11.2; have := btc__6.1; have := btc__6.2; have : (0 : Int32).toInt = 0 := (by decide); have : (400 : Int32).toInt = 400 := (by decide); omega), trivial⟩, by rw [ht]; exact h.1, h.2.1, zFr.rf⟩, h.2.2.F ht⟩) h.2.2.2.2 dX5_keepsTrace_33
        · have c_10 := z_nlt c_10
          have bwh_12 : zB 0 2147483647 wh := zB.leR c_10 (zBc 0 0 (by decide)) (zB.all wh) (by decide)
          refine lv_iload_n hx hb dX5_keepsTrace_23 rfl (lv_at hl 2 rfl) ?_
          refine lv_iconst (v := 4) hx hb dX5_keepsTrace_24 (by decide) ?_
          refine lv_icmp_ge (tgt := 32) hx hb dX5_keepsTrace_25 (by decide) (fun c_13 => ?_) (fun c_13 => ?_)
          · have c_13 := z_le c_13
            have bwh_14 : zB 4 2147483647 wh := zB.leR c_13 (zBc 4 4 (by decide)) bwh_12 (by decide)
            refine lv_iconst (v := 0) hx hb dX5_keepsTrace_32 (by decide) ?_
            subst hQ
            exact W.zret (v := 0) hx hb hr (by decide) (fun t ht hW => ⟨⟨0, F, rfl, ⟨rfl, (zB.of ⟨by decide, by decide⟩), (fun h9 => absurd rfl h9), (fun h9 => absurd rfl h9), (by have := bi_9.1; have := bi_9.2; have := bwh_14.1; have := bwh_14.2; have := btc__6.1; have := btc__6.2; have : (0 : Int32).toInt = 0 := (by decide); have : (4 : Int32).toInt = 4 := (by decide); have : (400 : Int32).toInt = 400 := (by decide); omega), trivial⟩, by rw [ht]; exact h.1, h.2.1, zFr.rf⟩, h.2.2.F ht⟩) h.2.2.2.2 dX5_keepsTrace_33
          · have c_13 := z_nle c_13
            have bwh_15 : zB 0 3 wh := zB.ltL c_13 bwh_12 (zBc 4 4 (by decide)) (by decide)
            refine lv_iconst (v := 1) hx hb dX5_keepsTrace_28 (by decide) ?_
            refine lv_goto (tgt := 33) hx hb dX5_keepsTrace_29 (by decide) ?_
            subst hQ
            exact W.zret (v := 1) hx hb hr (by decide) (fun t ht hW => ⟨⟨1, F, rfl, ⟨rfl, (zB.of ⟨by decide, by decide⟩), (fun _ => bi_9), (fun _ => bwh_15), (by have := bi_9.1; have := bi_9.2; have := bwh_15.1; have := bwh_15.2; have := btc__6.1; have := btc__6.2; have : (0 : Int32).toInt = 0 := (by decide); have : (1 : Int32).toInt = 1 := (by decide); have : (4 : Int32).toInt = 4 := (by decide); have : (400 : Int32).toInt = 400 := (by decide); omega), trivial⟩, by rw [ht]; exact h.1, h.2.1, zFr.rf⟩, h.2.2.F ht⟩) h.2.2.2.2 dX5_keepsTrace_33

set_option maxHeartbeats 4000000 in
set_option maxRecDepth 100000 in
theorem zm_X5_saidAt (l : Launch) (D : va_G) (k : Nat → ClassId) (Γ : Nat → Option Nat) (L : List Nat) (F : Nat → va_E) (sz : Nat) (th : Nat) (i : Int32) (μ : zVm) (hth : Γ th = some 5) (hr0 : zVc F th μ) : Met l yX5_saidAt zwX5_saidAt ({ frames := 1, cells := 0, slots := 0, locals := 21 }) (va_Pc [.ref th, .int i] (zP D k Γ L F sz)) (va_Qi (fun (r : Int32) (u : Nat → va_E) => F = u ∧ (0 ≤ i.toInt ∧ i.toInt < (vsc μ : Int) ∧ i.toInt < 60 → r = vsd μ i.toInt.toNat) ∧ True) (zQ D k Γ L F []) (zA L sz)) 0 0 (zA L sz) := by
  refine Met.ofW (cc := cX5_saidAt) (maxL := 2) (ret := (some .int)) (by decide) rfl ?_
  intro p e s m args below meth c s₁ B hml hv
  obtain ⟨rfl, hsz, hP, hK, hLn, hE, hI⟩ := hv
  have hx := B.exec
  have hb := B.bytes
  have hr := B.returns
  have hg : ∀ w ∈ zG, w.before _ s = true := fun w h9 => atoms_spec (ws := zwX5_saidAt) B.pre w (List.mem_cons_of_mem _ h9)
  have hown : s.vm.findClass RX5 = some m.cls := findClass_of_methodNamed B.named
  have hlocks := B.notSynchronized
  subst hsz
  have Z : zC p m c cX5_saidAt 2 s _ zG RX5 D k L := ⟨⟨hx, hb, hml, hown, hg⟩, hK, hLn, hE⟩
  have h : zH D k Γ L s F s.heap [] := ⟨hP, hI, va_S.rf⟩
  have hl := lv_entry ([.ref th, .int i]) (n := 2) (Nat.le_of_ble_eq_true rfl)
  rw [lg_entry_eq]
  generalize (lg_sl ([.ref th, .int i]) ++ List.replicate (2 - (lg_sl ([.ref th, .int i])).length) Slot.unset).toArray = ls at hl ⊢
  have hl : lv_has ls 2 [(0, .ref th), (1, .int i)] := hl
  clear hP hK hLn hE hI
  generalize hargs : ([.ref th, .int i] : List Value).toArray = args at *
  refine z_start (fun R Q hRf hRl hQ => ?_)
  have hRf : R.frames = 1 := hRf
  have hRl : R.locals = 21 := hRl
  have h9 := h
  refine lv_aload_n hx hb dX5_saidAt_0 rfl (lv_at hl 0 rfl) ?_
  refine lv_iload_n hx hb dX5_saidAt_1 rfl (lv_at hl 1 rfl) ?_
  refine zk_Vi (As := [.int i]) (rest := []) (bytes := cX5_keepsSaid) (maxL := 2) (ret := (some .boolean)) Z h (zm_X5_keepsSaid l D k Γ L F s.heap.size th i μ hth hr0) (cwV 1 hg zv_RX5_124 rfl rfl rfl zd_X5_keepsSaid ⟨z_leR hRf (by decide), z_leR hRl (by decide)⟩) hth (by decide) rfl rfl hl.1 rfl (Nat.le_of_ble_eq_true rfl) dX5_saidAt_2 ⟨Nat.zero_le _, Nat.zero_le _⟩ (fun r_1 F_2 H locs w_3 h hfF_2 => ?_)
  obtain ⟨rfl, br_1, q_4, q_5, -⟩ := w_3
  refine lv_if_eq (tgt := 17) hx hb dX5_saidAt_5 (by decide) (fun c_6 => ?_) (fun c_6 => ?_)
  · have c_6 := z_eq c_6
    have br_1_7 : zB 0 0 r_1 := zB.eqL (a := 0) (b := 0) c_6 (zBc 0 0 (by decide))
    refine lv_iconst (v := 0) hx hb dX5_saidAt_17 (by decide) ?_
    subst hQ
    exact W.iret (v := 0) hx hb hr (fun t ht hW => ⟨⟨0, F, rfl, ⟨rfl, (fun h9 => by exfalso; have := (zB.all i).1; have := (zB.all i).2; have : (0 : Int32).toInt = 0 := (by decide); omega), trivial⟩, by rw [ht]; exact h.1, h.2.1, zFr.rf⟩, h.2.2.F ht⟩) h.2.2.2.2 dX5_saidAt_18
  · have bi_8 : zB 0 59 i := q_4 c_6
    have c_6 := z_ne c_6
    have br_1_9 : zB 1 1 r_1 := zB.neLo c_6 br_1 (zBc 0 0 (by decide)) (by decide)
    refine lv_aload_n hx hb dX5_saidAt_8 rfl (lv_at hl 0 rfl) ?_
    refine zt_getr (t := 5) (C := RX5) (T := TX5) (N := 19) Z h hth zin_5 rfl 7 rfl ⟨by decide, rfl⟩ (zm_RX5 (List.mem_of_getElem? (i := 40) rfl)) (fun _ h9 => h9) dX5_saidAt_9 (fun a_10 ka_10 ha_10 => ?_)
    refine lv_iload_n hx hb dX5_saidAt_12 rfl (lv_at hl 1 rfl) ?_
    refine zt_ialde (t := 108) Z h ha_10 ⟨by decide, rfl⟩ bi_8 ⟨by decide, by decide⟩ dX5_saidAt_13 (fun x_11 ex_11 bx_11 => ?_)
    refine lv_goto (tgt := 18) hx hb dX5_saidAt_14 (by decide) ?_
    subst hQ
    exact W.iret (v := x_11) hx hb hr (fun t ht hW => ⟨⟨x_11, F, rfl, ⟨rfl, (fun h9 => by rw [← hr0.sd, zar_eq ka_10, show i.toInt.toNat = Int32.toNatClampNeg i from rfl]; exact ex_11.symm), trivial⟩, by rw [ht]; exact h.1, h.2.1, zFr.rf⟩, h.2.2.F ht⟩) h.2.2.2.2 dX5_saidAt_18

set_option maxHeartbeats 4000000 in
set_option maxRecDepth 100000 in
theorem zm_X5_traceAt (l : Launch) (D : va_G) (k : Nat → ClassId) (Γ : Nat → Option Nat) (L : List Nat) (F : Nat → va_E) (sz : Nat) (th : Nat) (i : Int32) (wh : Int32) (μ : zVm) (hth : Γ th = some 5) (hr0 : zVc F th μ) : Met l yX5_traceAt zwX5_traceAt ({ frames := 1, cells := 0, slots := 0, locals := 22 }) (va_Pc [.ref th, .int i, .int wh] (zP D k Γ L F sz)) (va_Qi (fun (r : Int32) (u : Nat → va_E) => F = u ∧ ((0 ≤ i.toInt ∧ i.toInt < (vtc μ : Int) ∧ i.toInt < 400) ∧ 0 ≤ wh.toInt ∧ wh.toInt ≤ 3 → r = vtr μ (4 * i.toInt.toNat + wh.toInt.toNat)) ∧ True) (zQ D k Γ L F []) (zA L sz)) 0 0 (zA L sz) := by
  refine Met.ofW (cc := cX5_traceAt) (maxL := 3) (ret := (some .int)) (by decide) rfl ?_
  intro p e s m args below meth c s₁ B hml hv
  obtain ⟨rfl, hsz, hP, hK, hLn, hE, hI⟩ := hv
  have hx := B.exec
  have hb := B.bytes
  have hr := B.returns
  have hg : ∀ w ∈ zG, w.before _ s = true := fun w h9 => atoms_spec (ws := zwX5_traceAt) B.pre w (List.mem_cons_of_mem _ h9)
  have hown : s.vm.findClass RX5 = some m.cls := findClass_of_methodNamed B.named
  have hlocks := B.notSynchronized
  subst hsz
  have Z : zC p m c cX5_traceAt 3 s _ zG RX5 D k L := ⟨⟨hx, hb, hml, hown, hg⟩, hK, hLn, hE⟩
  have h : zH D k Γ L s F s.heap [] := ⟨hP, hI, va_S.rf⟩
  have hl := lv_entry ([.ref th, .int i, .int wh]) (n := 3) (Nat.le_of_ble_eq_true rfl)
  rw [lg_entry_eq]
  generalize (lg_sl ([.ref th, .int i, .int wh]) ++ List.replicate (3 - (lg_sl ([.ref th, .int i, .int wh])).length) Slot.unset).toArray = ls at hl ⊢
  have hl : lv_has ls 3 [(0, .ref th), (1, .int i), (2, .int wh)] := hl
  clear hP hK hLn hE hI
  generalize hargs : ([.ref th, .int i, .int wh] : List Value).toArray = args at *
  refine z_start (fun R Q hRf hRl hQ => ?_)
  have hRf : R.frames = 1 := hRf
  have hRl : R.locals = 22 := hRl
  have h9 := h
  refine lv_aload_n hx hb dX5_traceAt_0 rfl (lv_at hl 0 rfl) ?_
  refine lv_iload_n hx hb dX5_traceAt_1 rfl (lv_at hl 1 rfl) ?_
  refine lv_iload_n hx hb dX5_traceAt_2 rfl (lv_at hl 2 rfl) ?_
  refine zk_Vi (As := [.int i, .int wh]) (rest := []) (bytes := cX5_keepsTrace) (maxL := 3) (ret := (some .boolean)) Z h (zm_X5_keepsTrace l D k Γ L F s.heap.size th i wh μ hth hr0) (cwV 2 hg zv_RX5_127 rfl rfl rfl zd_X5_keepsTrace ⟨z_leR hRf (by decide), z_leR hRl (by decide)⟩) hth (by decide) rfl rfl hl.1 rfl (Nat.le_of_ble_eq_true rfl) dX5_traceAt_3 ⟨Nat.zero_le _, Nat.zero_le _⟩ (fun r_1 F_2 H locs w_3 h hfF_2 => ?_)
  obtain ⟨rfl, br_1, q_4, q_5, q_6, -⟩ := w_3
  refine lv_if_eq (tgt := 22) hx hb dX5_traceAt_6 (by decide) (fun c_7 => ?_) (fun c_7 => ?_)
  · have c_7 := z_eq c_7
    have br_1_8 : zB 0 0 r_1 := zB.eqL (a := 0) (b := 0) c_7 (zBc 0 0 (by decide))
    refine lv_iconst (v := 0) hx hb dX5_traceAt_22 (by decide) ?_
    subst hQ
    exact W.iret (v := 0) hx hb hr (fun t ht hW => ⟨⟨0, F, rfl, ⟨rfl, (fun h9 => by exfalso; have := (zB.all i).1; have := (zB.all i).2; have := (zB.all wh).1; have := (zB.all wh).2; have : (0 : Int32).toInt = 0 := (by decide); omega), trivial⟩, by rw [ht]; exact h.1, h.2.1, zFr.rf⟩, h.2.2.F ht⟩) h.2.2.2.2 dX5_traceAt_23
  · have bi_9 : zB 0 399 i := q_4 c_7
    have bwh_10 : zB 0 3 wh := q_5 c_7
    have c_7 := z_ne c_7
    have br_1_11 : zB 1 1 r_1 := zB.neLo c_7 br_1 (zBc 0 0 (by decide)) (by decide)
    refine lv_aload_n hx hb dX5_traceAt_9 rfl (lv_at hl 0 rfl) ?_
    refine zt_getr (t := 5) (C := RX5) (T := TX5) (N := 19) Z h hth zin_5 rfl 8 rfl ⟨by decide, rfl⟩ (zm_RX5 (List.mem_of_getElem? (i := 50) rfl)) (fun _ h9 => h9) dX5_traceAt_10 (fun a_12 ka_12 ha_12 => ?_)
    refine lv_iload_n hx hb dX5_traceAt_13 rfl (lv_at hl 1 rfl) ?_
    refine lv_iconst (v := 4) hx hb dX5_traceAt_14 (by decide) ?_
    refine lv_imul hx hb dX5_traceAt_15 ?_
    refine zi_mul bi_9 ((zBc 4 4 (by decide)).w ⟨by decide, by decide⟩ : zB 0 4 _) (by decide) (fun x_13 bx_13 tx_13 => ?_)
    have bx_13 : zB 0 1596 x_13 := bx_13
    have tm_14 := tx_13
    rw [show (4 : Int32).toInt = 4 by decide] at tm_14
    refine lv_iload_n hx hb dX5_traceAt_16 rfl (lv_at hl 2 rfl) ?_
    refine lv_iadd hx hb dX5_traceAt_17 ?_
    refine zi_add (lo := 0) (hi := 1599) bx_13 bwh_10 (by decide) (fun x_15 bx_15 tx_15 => ?_)
    refine zt_ialde (t := 109) Z h ha_12 ⟨by decide, rfl⟩ bx_15 ⟨by decide, by decide⟩ dX5_traceAt_18 (fun x_16 ex_16 bx_16 => ?_)
    refine lv_goto (tgt := 23) hx hb dX5_traceAt_19 (by decide) ?_
    subst hQ
    exact W.iret (v := x_16) hx hb hr (fun t ht hW => ⟨⟨x_16, F, rfl, ⟨rfl, (fun h9 => by rw [← hr0.tr, zar_eq ka_12, show 4 * i.toInt.toNat + wh.toInt.toNat = Int32.toNatClampNeg x_15 by rw [Int32.toNatClampNeg]; have := bi_9.1; have := bi_9.2; have := bwh_10.1; have := bwh_10.2; have := bx_16.1; have := bx_16.2; have : (0 : Int32).toInt = 0 := (by decide); have : (4 : Int32).toInt = 4 := (by decide); omega]; exact ex_16.symm), trivial⟩, by rw [ht]; exact h.1, h.2.1, zFr.rf⟩, h.2.2.F ht⟩) h.2.2.2.2 dX5_traceAt_23

set_option maxHeartbeats 4000000 in
set_option maxRecDepth 100000 in
theorem zm_X5_firstCallsPlace (l : Launch) (D : va_G) (k : Nat → ClassId) (Γ : Nat → Option Nat) (L : List Nat) (F : Nat → va_E) (sz : Nat) (th : Nat) (q : Int32) (μ : zVm) (hth : Γ th = some 5) (hr0 : zVc F th μ) : Met l yX5_firstCallsPlace zwX5_firstCallsPlace ({ frames := 0, cells := 0, slots := 0, locals := 0 }) (va_Pc [.ref th, .int q] (zP D k Γ L F sz)) (va_Qi (fun (r : Int32) (u : Nat → va_E) => F = u ∧ (0 ≤ q.toInt ∧ q.toInt < 8 → r = vpl μ q.toInt.toNat) ∧ True) (zQ D k Γ L F []) (zA L sz)) 0 0 (zA L sz) := by
  refine Met.ofW (cc := cX5_firstCallsPlace) (maxL := 2) (ret := (some .int)) (by decide) rfl ?_
  intro p e s m args below meth c s₁ B hml hv
  obtain ⟨rfl, hsz, hP, hK, hLn, hE, hI⟩ := hv
  have hx := B.exec
  have hb := B.bytes
  have hr := B.returns
  have hg : ∀ w ∈ zG, w.before _ s = true := fun w h9 => atoms_spec (ws := zwX5_firstCallsPlace) B.pre w (List.mem_cons_of_mem _ h9)
  have hown : s.vm.findClass RX5 = some m.cls := findClass_of_methodNamed B.named
  have hlocks := B.notSynchronized
  subst hsz
  have Z : zC p m c cX5_firstCallsPlace 2 s _ zG RX5 D k L := ⟨⟨hx, hb, hml, hown, hg⟩, hK, hLn, hE⟩
  have h : zH D k Γ L s F s.heap [] := ⟨hP, hI, va_S.rf⟩
  have hl := lv_entry ([.ref th, .int q]) (n := 2) (Nat.le_of_ble_eq_true rfl)
  rw [lg_entry_eq]
  generalize (lg_sl ([.ref th, .int q]) ++ List.replicate (2 - (lg_sl ([.ref th, .int q])).length) Slot.unset).toArray = ls at hl ⊢
  have hl : lv_has ls 2 [(0, .ref th), (1, .int q)] := hl
  clear hP hK hLn hE hI
  generalize hargs : ([.ref th, .int q] : List Value).toArray = args at *
  refine z_start (fun R Q hRf hRl hQ => ?_)
  have hRf : R.frames = 0 := hRf
  have hRl : R.locals = 0 := hRl
  have h9 := h
  refine lv_iload_n hx hb dX5_firstCallsPlace_0 rfl (lv_at hl 1 rfl) ?_
  refine lv_if_lt (tgt := 19) hx hb dX5_firstCallsPlace_1 (by decide) (fun c_1 => ?_) (fun c_1 => ?_)
  · have c_1 := z_lt c_1
    have bq_2 : zB (-2147483648) (-1) q := zB.ltL c_1 (zB.all q) (zBc 0 0 (by decide)) (by decide)
    refine lv_iconst (v := 0) hx hb dX5_firstCallsPlace_19 (by decide) ?_
    subst hQ
    exact W.iret (v := 0) hx hb hr (fun t ht hW => ⟨⟨0, F, rfl, ⟨rfl, (fun h9 => by exfalso; have := bq_2.1; have := bq_2.2; have : (0 : Int32).toInt = 0 := (by decide); omega), trivial⟩, by rw [ht]; exact h.1, h.2.1, zFr.rf⟩, h.2.2.F ht⟩) h.2.2.2.2 dX5_firstCallsPlace_20
  · have c_1 := z_nlt c_1
    have bq_3 : zB 0 2147483647 q := zB.leR c_1 (zBc 0 0 (by decide)) (zB.all q) (by decide)
    refine lv_iload_n hx hb dX5_firstCallsPlace_4 rfl (lv_at hl 1 rfl) ?_
    refine lv_bipush (v := 8) hx hb dX5_firstCallsPlace_5 (by decide) ?_
    refine lv_icmp_ge (tgt := 19) hx hb dX5_firstCallsPlace_7 (by decide) (fun c_4 => ?_) (fun c_4 => ?_)
    · have c_4 := z_le c_4
      have bq_5 : zB 8 2147483647 q := zB.leR c_4 (zBc 8 8 (by decide)) bq_3 (by decide)
      refine lv_iconst (v := 0) hx hb dX5_firstCallsPlace_19 (by decide) ?_
      subst hQ
      exact W.iret (v := 0) hx hb hr (fun t ht hW => ⟨⟨0, F, rfl, ⟨rfl, (fun h9 => by exfalso; have := bq_5.1; have := bq_5.2; have : (0 : Int32).toInt = 0 := (by decide); have : (8 : Int32).toInt = 8 := (by decide); omega), trivial⟩, by rw [ht]; exact h.1, h.2.1, zFr.rf⟩, h.2.2.F ht⟩) h.2.2.2.2 dX5_firstCallsPlace_20
    · have c_4 := z_nle c_4
      have bq_6 : zB 0 7 q := zB.ltL c_4 bq_3 (zBc 8 8 (by decide)) (by decide)
      refine lv_aload_n hx hb dX5_firstCallsPlace_10 rfl (lv_at hl 0 rfl) ?_
      refine zt_getr (t := 5) (C := RX5) (T := TX5) (N := 19) Z h hth zin_5 rfl 9 rfl ⟨by decide, rfl⟩ (zm_RX5 (List.mem_of_getElem? (i := 52) rfl)) (fun _ h9 => h9) dX5_firstCallsPlace_11 (fun a_7 ka_7 ha_7 => ?_)
      refine lv_iload_n hx hb dX5_firstCallsPlace_14 rfl (lv_at hl 1 rfl) ?_
      refine zt_ialde (t := 110) Z h ha_7 ⟨by decide, rfl⟩ bq_6 ⟨by decide, by decide⟩ dX5_firstCallsPlace_15 (fun x_8 ex_8 bx_8 => ?_)
      refine lv_goto (tgt := 20) hx hb dX5_firstCallsPlace_16 (by decide) ?_
      subst hQ
      exact W.iret (v := x_8) hx hb hr (fun t ht hW => ⟨⟨x_8, F, rfl, ⟨rfl, (fun h9 => by rw [← hr0.pl, zar_eq ka_7, show q.toInt.toNat = Int32.toNatClampNeg q from rfl]; exact ex_8.symm), trivial⟩, by rw [ht]; exact h.1, h.2.1, zFr.rf⟩, h.2.2.F ht⟩) h.2.2.2.2 dX5_firstCallsPlace_20

set_option maxHeartbeats 4000000 in
set_option maxRecDepth 100000 in
theorem zm_X5_tellsLike (l : Launch) (D : va_G) (k : Nat → ClassId) (Γ : Nat → Option Nat) (L : List Nat) (F : Nat → va_E) (sz : Nat) (th : Nat) (ot : Nat) (μ : zVm) (ν : zVm) (hth : Γ th = some 5) (hot : Γ ot = some 5) (hr0 : zVc F th μ) (hr1 : zVc F ot ν) : Met l yX5_tellsLike zwX5_tellsLike ({ frames := 0, cells := 0, slots := 0, locals := 0 }) (va_Pc [.ref th, .ref ot] (zP D k Γ L F sz)) (va_Qi (fun (r : Int32) (u : Nat → va_E) => F = u ∧ zB 0 1 r ∧ ((r.toInt = 1 ∧ v_like μ ν) ∨ (r.toInt = 0 ∧ ¬ v_like μ ν)) ∧ True) (zQ D k Γ L F []) (zA L sz)) 0 0 (zA L sz) := by
  refine Met.ofW (cc := cX5_tellsLike) (maxL := 3) (ret := (some .boolean)) (by decide) rfl ?_
  intro p e s m args below meth c s₁ B hml hv
  obtain ⟨rfl, hsz, hP, hK, hLn, hE, hI⟩ := hv
  have hx := B.exec
  have hb := B.bytes
  have hr := B.returns
  have hg : ∀ w ∈ zG, w.before _ s = true := fun w h9 => atoms_spec (ws := zwX5_tellsLike) B.pre w (List.mem_cons_of_mem _ h9)
  have hown : s.vm.findClass RX5 = some m.cls := findClass_of_methodNamed B.named
  have hlocks := B.notSynchronized
  subst hsz
  have Z : zC p m c cX5_tellsLike 3 s _ zG RX5 D k L := ⟨⟨hx, hb, hml, hown, hg⟩, hK, hLn, hE⟩
  have h : zH D k Γ L s F s.heap [] := ⟨hP, hI, va_S.rf⟩
  have hl := lv_entry ([.ref th, .ref ot]) (n := 3) (Nat.le_of_ble_eq_true rfl)
  rw [lg_entry_eq]
  generalize (lg_sl ([.ref th, .ref ot]) ++ List.replicate (3 - (lg_sl ([.ref th, .ref ot])).length) Slot.unset).toArray = ls at hl ⊢
  have hl : lv_has ls 3 [(0, .ref th), (1, .ref ot)] := hl
  clear hP hK hLn hE hI
  generalize hargs : ([.ref th, .ref ot] : List Value).toArray = args at *
  refine z_start (fun R Q hRf hRl hQ => ?_)
  have hRf : R.frames = 0 := hRf
  have hRl : R.locals = 0 := hRl
  have h9 := h
  obtain ⟨en_, ken_, ten_⟩ := hr0.en
  have ben_ : zB (-2147483648) 2147483647 en_ := zB.all _
  obtain ⟨vl_, kvl_, tvl_⟩ : ∃ x : Int32, zfld F th 1 = .int x ∧ x = vvl μ := ⟨_, hr0.vl, rfl⟩
  have bvl_ : zB (-2147483648) 2147483647 vl_ := zB.all _
  obtain ⟨sc_, ksc_, tsc_⟩ := hr0.sc
  have bsc_ : zB (-2147483648) 2147483647 sc_ := zB.all _
  obtain ⟨eno_, keno_, teno_⟩ := hr1.en
  have beno_ : zB (-2147483648) 2147483647 eno_ := zB.all _
  obtain ⟨vlo_, kvlo_, tvlo_⟩ : ∃ x : Int32, zfld F ot 1 = .int x ∧ x = vvl ν := ⟨_, hr1.vl, rfl⟩
  have bvlo_ : zB (-2147483648) 2147483647 vlo_ := zB.all _
  obtain ⟨sco_, ksco_, tsco_⟩ := hr1.sc
  have bsco_ : zB (-2147483648) 2147483647 sco_ := zB.all _
  refine lv_aload_n hx hb dX5_tellsLike_0 rfl (lv_at hl 0 rfl) ?_
  refine zt_getk (t := 5) (C := RX5) (T := TX5) (N := 19) Z h hth zin_5 rfl 0 ken_ ⟨by decide, rfl, by decide⟩ (zm_RX5 (List.mem_of_getElem? (i := 5) rfl)) (fun _ h9 => h9) dX5_tellsLike_1 ?_
  refine lv_aload_n hx hb dX5_tellsLike_4 rfl (lv_at hl 1 rfl) ?_
  refine zt_getk (t := 5) (C := RX5) (T := TX5) (N := 19) Z h hot zin_5 rfl 0 keno_ ⟨by decide, rfl, by decide⟩ (zm_RX5 (List.mem_of_getElem? (i := 5) rfl)) (fun _ h9 => h9) dX5_tellsLike_5 ?_
  refine lv_icmp_ne (tgt := 33) hx hb dX5_tellsLike_8 (by decide) (fun c_1 => ?_) (fun c_1 => ?_)
  · have c_1 := z_ne c_1
    refine lv_iconst (v := 0) hx hb dX5_tellsLike_33 (by decide) ?_
    subst hQ
    exact W.zret (v := 0) hx hb hr (by decide) (fun t ht hW => ⟨⟨0, F, rfl, ⟨rfl, (zB.of ⟨by decide, by decide⟩), (Or.inr ⟨by decide, fun h9 => by obtain ⟨⟨h7, h6, h5⟩, -⟩ := h9; rw [← tvl_, ← tvlo_] at h6; have h4 := congrArg Int32.toInt h6; have := ben_.1; have := ben_.2; have := bvl_.1; have := bvl_.2; have := bsc_.1; have := bsc_.2; have := beno_.1; have := beno_.2; have := bvlo_.1; have := bvlo_.2; have := bsco_.1; have := bsco_.2; have : (0 : Int32).toInt = 0 := (by decide); omega⟩), trivial⟩, by rw [ht]; exact h.1, h.2.1, zFr.rf⟩, h.2.2.F ht⟩) h.2.2.2.2 dX5_tellsLike_34
  · have c_1 := z_eq c_1
    refine lv_aload_n hx hb dX5_tellsLike_11 rfl (lv_at hl 0 rfl) ?_
    refine zt_getk (t := 5) (C := RX5) (T := TX5) (N := 19) Z h hth zin_5 rfl 1 kvl_ ⟨by decide, rfl, by decide⟩ (zm_RX5 (List.mem_of_getElem? (i := 6) rfl)) (fun _ h9 => h9) dX5_tellsLike_12 ?_
    refine lv_aload_n hx hb dX5_tellsLike_15 rfl (lv_at hl 1 rfl) ?_
    refine zt_getk (t := 5) (C := RX5) (T := TX5) (N := 19) Z h hot zin_5 rfl 1 kvlo_ ⟨by decide, rfl, by decide⟩ (zm_RX5 (List.mem_of_getElem? (i := 6) rfl)) (fun _ h9 => h9) dX5_tellsLike_16 ?_
    refine lv_icmp_ne (tgt := 33) hx hb dX5_tellsLike_19 (by decide) (fun c_2 => ?_) (fun c_2 => ?_)
    · have c_2 := z_ne c_2
      refine lv_iconst (v := 0) hx hb dX5_tellsLike_33 (by decide) ?_
      subst hQ
      exact W.zret (v := 0) hx hb hr (by decide) (fun t ht hW => ⟨⟨0, F, rfl, ⟨rfl, (zB.of ⟨by decide, by decide⟩), (Or.inr ⟨by decide, fun h9 => by obtain ⟨⟨h7, h6, h5⟩, -⟩ := h9; rw [← tvl_, ← tvlo_] at h6; have h4 := congrArg Int32.toInt h6; have := ben_.1; have := ben_.2; have := bvl_.1; have := bvl_.2; have := bsc_.1; have := bsc_.2; have := beno_.1; have := beno_.2; have := bvlo_.1; have := bvlo_.2; have := bsco_.1; have := bsco_.2; have : (0 : Int32).toInt = 0 := (by decide); omega⟩), trivial⟩, by rw [ht]; exact h.1, h.2.1, zFr.rf⟩, h.2.2.F ht⟩) h.2.2.2.2 dX5_tellsLike_34
    · have c_2 := z_eq c_2
      refine lv_aload_n hx hb dX5_tellsLike_22 rfl (lv_at hl 0 rfl) ?_
      refine zt_getk (t := 5) (C := RX5) (T := TX5) (N := 19) Z h hth zin_5 rfl 3 ksc_ ⟨by decide, rfl, by decide⟩ (zm_RX5 (List.mem_of_getElem? (i := 8) rfl)) (fun _ h9 => h9) dX5_tellsLike_23 ?_
      refine lv_aload_n hx hb dX5_tellsLike_26 rfl (lv_at hl 1 rfl) ?_
      refine zt_getk (t := 5) (C := RX5) (T := TX5) (N := 19) Z h hot zin_5 rfl 3 ksco_ ⟨by decide, rfl, by decide⟩ (zm_RX5 (List.mem_of_getElem? (i := 8) rfl)) (fun _ h9 => h9) dX5_tellsLike_27 ?_
      refine lv_icmp_eq (tgt := 35) hx hb dX5_tellsLike_30 (by decide) (fun c_3 => ?_) (fun c_3 => ?_)
      · have c_3 := z_eq c_3
        refine lv_iconst (v := 0) hx hb dX5_tellsLike_35 (by decide) ?_
        refine lv_istore_n (lv' := [(2, .int 0), (0, .ref th), (1, .ref ot)]) hx hb dX5_tellsLike_36 rfl hl (by decide) rfl (fun ls hl => ?_)
        have j_j37_4 : ∀ (n : Nat) (ls : Array Slot) (y2_j37_4 : Int32), lv_has ls 3 [(2, .int y2_j37_4), (0, .ref th), (1, .ref ot)] → zB 0 60 y2_j37_4 → ((∀ j, j < y2_j37_4.toInt.toNat → vsd μ j = vsd ν j)) → (2147483647 - y2_j37_4.toInt).toNat = n → W p l e R s m args below meth c s.heap [] 0 0 Q (F0 m 37 ls []) := by
          intro n
          induction n using Nat.strongRecOn with
          | _ n ih_j37_4 =>
            intro ls y2_j37_4 hl by2_j37_4 r0_j37_4 hn_j37_4
            refine lv_iload_n hx hb dX5_tellsLike_37 rfl (lv_at hl 0 rfl) ?_
            refine lv_aload_n hx hb dX5_tellsLike_38 rfl (lv_at hl 1 rfl) ?_
            refine zt_getk (t := 5) (C := RX5) (T := TX5) (N := 19) Z h hth zin_5 rfl 3 ksc_ ⟨by decide, rfl, by decide⟩ (zm_RX5 (List.mem_of_getElem? (i := 8) rfl)) (fun _ h9 => h9) dX5_tellsLike_39 ?_
            refine lv_icmp_ge (tgt := 77) hx hb dX5_tellsLike_42 (by decide) (fun c_5 => ?_) (fun c_5 => ?_)
            · have c_5 := z_le c_5
              have bsc__6 : zB (-2147483648) 60 sc_ := zB.leL c_5 bsc_ by2_j37_4 (by decide)
              refine lv_iconst (v := 1) hx hb dX5_tellsLike_77 (by decide) ?_
              subst hQ
              exact W.zret (v := 1) hx hb hr (by decide) (fun t ht hW => ⟨⟨1, F, rfl, ⟨rfl, (zB.of ⟨by decide, by decide⟩), (Or.inl ⟨by decide, ⟨by have := by2_j37_4.1; have := by2_j37_4.2; have := ben_.1; have := ben_.2; have := bvl_.1; have := bvl_.2; have := bsc__6.1; have := bsc__6.2; have := beno_.1; have := beno_.2; have := bvlo_.1; have := bvlo_.2; have := bsco_.1; have := bsco_.2; have : (1 : Int32).toInt = 1 := (by decide); omega, by rw [← tvl_, ← tvlo_]; exact Int32.toInt_inj.mp (by have := by2_j37_4.1; have := by2_j37_4.2; have := ben_.1; have := ben_.2; have := bvl_.1; have := bvl_.2; have := bsc__6.1; have := bsc__6.2; have := beno_.1; have := beno_.2; have := bvlo_.1; have := bvlo_.2; have := bsco_.1; have := bsco_.2; have : (1 : Int32).toInt = 1 := (by decide); omega), by have := by2_j37_4.1; have := by2_j37_4.2; have := ben_.1; have := ben_.2; have := bvl_.1; have := bvl_.2; have := bsc__6.1; have := bsc__6.2; have := beno_.1; have := beno_.2; have := bvlo_.1; have := bvlo_.2; have := bsco_.1; have := bsco_.2; have : (1 : Int32).toInt = 1 := (by decide); omega⟩, fun j h9 h8 => r0_j37_4 j (by have := by2_j37_4.1; have := by2_j37_4.2; have := ben_.1; have := ben_.2; have := bvl_.1; have := bvl_.2; have := bsc__6.1; have := bsc__6.2; have := beno_.1; have := beno_.2; have := bvlo_.1; have := bvlo_.2; have := bsco_.1; have := bsco_.2; have : (1 : Int32).toInt = 1 := (by decide); omega)⟩), trivial⟩, by rw [ht]; exact h.1, h.2.1, zFr.rf⟩, h.2.2.F ht⟩) h.2.2.2.2 dX5_tellsLike_78
            · have c_5 := z_nle c_5
              have bsc__7 : zB 1 2147483647 sc_ := zB.ltR c_5 by2_j37_4 bsc_ (by decide)
              refine lv_iload_n hx hb dX5_tellsLike_45 rfl (lv_at hl 0 rfl) ?_
              refine lv_aload_n hx hb dX5_tellsLike_46 rfl (lv_at hl 1 rfl) ?_
              refine zt_getr (t := 5) (C := RX5) (T := TX5) (N := 19) Z h hth zin_5 rfl 7 rfl ⟨by decide, rfl⟩ (zm_RX5 (List.mem_of_getElem? (i := 40) rfl)) (fun _ h9 => h9) dX5_tellsLike_47 (fun a_8 ka_8 ha_8 => ?_)
              refine zt_alen (t := 108) Z h ha_8 ⟨by decide, rfl⟩ (by decide) (v := 60) rfl dX5_tellsLike_50 ?_
              refine lv_icmp_ge (tgt := 77) hx hb dX5_tellsLike_51 (by decide) (fun c_9 => ?_) (fun c_9 => ?_)
              · have c_9 := z_le c_9
                have by2_j37_4_10 : zB 60 60 y2_j37_4 := zB.leR c_9 (zBc 60 60 (by decide)) by2_j37_4 (by decide)
                refine lv_iconst (v := 1) hx hb dX5_tellsLike_77 (by decide) ?_
                subst hQ
                exact W.zret (v := 1) hx hb hr (by decide) (fun t ht hW => ⟨⟨1, F, rfl, ⟨rfl, (zB.of ⟨by decide, by decide⟩), (Or.inl ⟨by decide, ⟨by have := by2_j37_4_10.1; have := by2_j37_4_10.2; have := ben_.1; have := ben_.2; have := bvl_.1; have := bvl_.2; have := bsc__7.1; have := bsc__7.2; have := beno_.1; have := beno_.2; have := bvlo_.1; have := bvlo_.2; have := bsco_.1; have := bsco_.2; have : (1 : Int32).toInt = 1 := (by decide); have : (60 : Int32).toInt = 60 := (by decide); omega, by rw [← tvl_, ← tvlo_]; exact Int32.toInt_inj.mp (by have := by2_j37_4_10.1; have := by2_j37_4_10.2; have := ben_.1; have := ben_.2; have := bvl_.1; have := bvl_.2; have := bsc__7.1; have := bsc__7.2; have := beno_.1; have := beno_.2; have := bvlo_.1; have := bvlo_.2; have := bsco_.1; have := bsco_.2; have : (1 : Int32).toInt = 1 := (by decide); have : (60 : Int32).toInt = 60 := (by decide); omega), by have := by2_j37_4_10.1; have := by2_j37_4_10.2; have := ben_.1; have := ben_.2; have := bvl_.1; have := bvl_.2; have := bsc__7.1; have := bsc__7.2; have := beno_.1; have := beno_.2; have := bvlo_.1; have := bvlo_.2; have := bsco_.1; have := bsco_.2; have : (1 : Int32).toInt = 1 := (by decide); have : (60 : Int32).toInt = 60 := (by decide); omega⟩, fun j h9 h8 => r0_j37_4 j (by have := by2_j37_4_10.1; have := by2_j37_4_10.2; have := ben_.1; have := ben_.2; have := bvl_.1; have := bvl_.2; have := bsc__7.1; have := bsc__7.2; have := beno_.1; have := beno_.2; have := bvlo_.1; have := bvlo_.2; have := bsco_.1; have := bsco_.2; have : (1 : Int32).toInt = 1 := (by decide); have : (60 : Int32).toInt = 60 := (by decide); omega)⟩), trivial⟩, by rw [ht]; exact h.1, h.2.1, zFr.rf⟩, h.2.2.F ht⟩) h.2.2.2.2 dX5_tellsLike_78
              · have c_9 := z_nle c_9
                have by2_j37_4_11 : zB 0 59 y2_j37_4 := zB.ltL c_9 by2_j37_4 (zBc 60 60 (by decide)) (by decide)
                refine lv_aload_n hx hb dX5_tellsLike_54 rfl (lv_at hl 1 rfl) ?_
                refine zt_getk (t := 5) (C := RX5) (T := TX5) (N := 19) Z h hth zin_5 rfl 7 ka_8 ⟨by decide, rfl, by decide⟩ (zm_RX5 (List.mem_of_getElem? (i := 40) rfl)) (fun _ h9 => h9) dX5_tellsLike_55 ?_
                refine lv_iload_n hx hb dX5_tellsLike_58 rfl (lv_at hl 0 rfl) ?_
                refine zt_ialde (t := 108) Z h ha_8 ⟨by decide, rfl⟩ by2_j37_4_11 ⟨by decide, by decide⟩ dX5_tellsLike_59 (fun x_12 ex_12 bx_12 => ?_)
                refine lv_aload_n hx hb dX5_tellsLike_60 rfl (lv_at hl 2 rfl) ?_
                refine zt_getr (t := 5) (C := RX5) (T := TX5) (N := 19) Z h hot zin_5 rfl 7 rfl ⟨by decide, rfl⟩ (zm_RX5 (List.mem_of_getElem? (i := 40) rfl)) (fun _ h9 => h9) dX5_tellsLike_61 (fun a_13 ka_13 ha_13 => ?_)
                refine lv_iload_n hx hb dX5_tellsLike_64 rfl (lv_at hl 0 rfl) ?_
                refine zt_ialde (t := 108) Z h ha_13 ⟨by decide, rfl⟩ by2_j37_4_11 ⟨by decide, by decide⟩ dX5_tellsLike_65 (fun x_14 ex_14 bx_14 => ?_)
                refine lv_icmp_eq (tgt := 71) hx hb dX5_tellsLike_66 (by decide) (fun c_15 => ?_) (fun c_15 => ?_)
                · have c_15 := z_eq c_15
                  obtain ⟨x_16, ex_16, bx_16, tx_16⟩ := z_inc (n := 1) (lo := 1) (hi := 60) by2_j37_4_11 (by decide)
                  refine lv_iinc (v := x_16) (lv' := [(2, .int x_16), (0, .ref th), (1, .ref ot)]) hx hb dX5_tellsLike_71 hl (k := 0) rfl ex_16 (by decide) rfl (fun ls hl => ?_)
                  refine lv_goto (tgt := 37) hx hb dX5_tellsLike_74 (by decide) ?_
                  exact ih_j37_4 _ (by have := bx_16.1; have := bx_16.2; have := ben_.1; have := ben_.2; have := bvl_.1; have := bvl_.2; have := bsc__7.1; have := bsc__7.2; have := beno_.1; have := beno_.2; have := bvlo_.1; have := bvlo_.2; have := bsco_.1; have := bsco_.2; have : (60 : Int32).toInt = 60 := (by decide); have := by2_j37_4.1; have := by2_j37_4.2; omega) ls x_16 (lv_sub hl [0, 1, 2] rfl) (bx_16.w ⟨by decide, by decide⟩) (fun j h9 => by by_cases h8 : j < y2_j37_4.toInt.toNat; { exact r0_j37_4 j h8 }; { have h7 : j = Int32.toNatClampNeg y2_j37_4 := (by rw [Int32.toNatClampNeg]; have := bx_16.1; have := bx_16.2; have := by2_j37_4_11.1; have := by2_j37_4_11.2; have := ben_.1; have := ben_.2; have := bvl_.1; have := bvl_.2; have := bsc__7.1; have := bsc__7.2; have := beno_.1; have := beno_.2; have := bvlo_.1; have := bvlo_.2; have := bsco_.1; have := bsco_.2; have : (60 : Int32).toInt = 60 := (by decide); omega); rw [h7, ← hr0.sd, ← hr1.sd, zar_eq ka_8, zar_eq ka_13, ex_12, ex_14]; exact Int32.toInt_inj.mp (by have := bx_16.1; have := bx_16.2; have := bx_12.1; have := bx_12.2; have := bx_14.1; have := bx_14.2; have := ben_.1; have := ben_.2; have := bvl_.1; have := bvl_.2; have := bsc__7.1; have := bsc__7.2; have := beno_.1; have := beno_.2; have := bvlo_.1; have := bvlo_.2; have := bsco_.1; have := bsco_.2; have : (60 : Int32).toInt = 60 := (by decide); omega) }) rfl
                · have c_15 := z_ne c_15
                  refine lv_iconst (v := 0) hx hb dX5_tellsLike_69 (by decide) ?_
                  subst hQ
                  exact W.zret (v := 0) hx hb hr (by decide) (fun t ht hW => ⟨⟨0, F, rfl, ⟨rfl, (zB.of ⟨by decide, by decide⟩), (Or.inr ⟨by decide, fun h9 => by have h7 := h9.2 (Int32.toNatClampNeg y2_j37_4) (by rw [Int32.toNatClampNeg]; have := by2_j37_4_11.1; have := by2_j37_4_11.2; have := bx_12.1; have := bx_12.2; have := bx_14.1; have := bx_14.2; have := ben_.1; have := ben_.2; have := bvl_.1; have := bvl_.2; have := bsc__7.1; have := bsc__7.2; have := beno_.1; have := beno_.2; have := bvlo_.1; have := bvlo_.2; have := bsco_.1; have := bsco_.2; have : (0 : Int32).toInt = 0 := (by decide); have : (60 : Int32).toInt = 60 := (by decide); omega) (by rw [Int32.toNatClampNeg]; have := by2_j37_4_11.1; have := by2_j37_4_11.2; have := bx_12.1; have := bx_12.2; have := bx_14.1; have := bx_14.2; have := ben_.1; have := ben_.2; have := bvl_.1; have := bvl_.2; have := bsc__7.1; have := bsc__7.2; have := beno_.1; have := beno_.2; have := bvlo_.1; have := bvlo_.2; have := bsco_.1; have := bsco_.2; have : (0 : Int32).toInt = 0 := (by decide); have : (60 : Int32).toInt = 60 := (by decide); omega); rw [← hr0.sd, ← hr1.sd, zar_eq ka_8, zar_eq ka_13, ex_12, ex_14] at h7; have h6 := congrArg Int32.toInt h7; have := by2_j37_4_11.1; have := by2_j37_4_11.2; have := bx_12.1; have := bx_12.2; have := bx_14.1; have := bx_14.2; have := ben_.1; have := ben_.2; have := bvl_.1; have := bvl_.2; have := bsc__7.1; have := bsc__7.2; have := beno_.1; have := beno_.2; have := bvlo_.1; have := bvlo_.2; have := bsco_.1; have := bsco_.2; have : (0 : Int32).toInt = 0 := (by decide); have : (60 : Int32).toInt = 60 := (by decide); omega⟩), trivial⟩, by rw [ht]; exact h.1, h.2.1, zFr.rf⟩, h.2.2.F ht⟩) h.2.2.2.2 dX5_tellsLike_70
        exact j_j37_4 _ ls 0 (lv_sub hl [0, 1, 2] rfl) (zB.of ⟨by decide, by decide⟩) (fun j h9 => by exfalso; rw [show (0 : Int32).toInt.toNat = 0 by decide] at h9; omega) rfl
      · have c_3 := z_ne c_3
        refine lv_iconst (v := 0) hx hb dX5_tellsLike_33 (by decide) ?_
        subst hQ
        exact W.zret (v := 0) hx hb hr (by decide) (fun t ht hW => ⟨⟨0, F, rfl, ⟨rfl, (zB.of ⟨by decide, by decide⟩), (Or.inr ⟨by decide, fun h9 => by obtain ⟨⟨h7, h6, h5⟩, -⟩ := h9; rw [← tvl_, ← tvlo_] at h6; have h4 := congrArg Int32.toInt h6; have := ben_.1; have := ben_.2; have := bvl_.1; have := bvl_.2; have := bsc_.1; have := bsc_.2; have := beno_.1; have := beno_.2; have := bvlo_.1; have := bvlo_.2; have := bsco_.1; have := bsco_.2; have : (0 : Int32).toInt = 0 := (by decide); omega⟩), trivial⟩, by rw [ht]; exact h.1, h.2.1, zFr.rf⟩, h.2.2.F ht⟩) h.2.2.2.2 dX5_tellsLike_34

set_option maxHeartbeats 4000000 in
set_option maxRecDepth 100000 in
theorem ze_J13_bitCount (l : Launch) (D : va_G) (k : Nat → ClassId) (Γ : Nat → Option Nat) (L : List Nat) (F : Nat → va_E) (sz : Nat) (v : Int64) : Met l yJ13_bitCount_95d88 zwJ13_bitCount_95d88 ({ frames := 0, cells := 0, slots := 0, locals := 0 }) (va_Pc [.long v] (zP D k Γ L F sz)) (va_Qi (fun (r : Int32) (u : Nat → va_E) => F = u ∧ r = zlbc v ∧ True) (zQ D k Γ L F []) (zA L sz)) 0 0 (zA L sz) := by
  refine Met.ofW (cc := cJ13_bitCount_95d88) (maxL := 2) (ret := (some .int)) (by decide) rfl ?_
  intro p e s m args below meth c s₁ B hml hv
  obtain ⟨rfl, hsz, hP, hK, hLn, hE, hI⟩ := hv
  have hx := B.exec
  have hb := B.bytes
  have hr := B.returns
  have hg : ∀ w ∈ zG, w.before _ s = true := fun w h9 => atoms_spec (ws := zwJ13_bitCount_95d88) B.pre w (List.mem_cons_of_mem _ h9)
  have hown : s.vm.findClass RJ13 = some m.cls := findClass_of_methodNamed B.named
  have hlocks := B.notSynchronized
  subst hsz
  have Z : zC p m c cJ13_bitCount_95d88 2 s _ zG RJ13 D k L := ⟨⟨hx, hb, hml, hown, hg⟩, hK, hLn, hE⟩
  have h : zH D k Γ L s F s.heap [] := ⟨hP, hI, va_S.rf⟩
  have hl := lv_entry ([.long v]) (n := 2) (Nat.le_of_ble_eq_true rfl)
  rw [lg_entry_eq]
  generalize (lg_sl ([.long v]) ++ List.replicate (2 - (lg_sl ([.long v])).length) Slot.unset).toArray = ls at hl ⊢
  have hl : lv_has ls 2 [(0, .long v)] := hl
  clear hP hK hLn hE hI
  generalize hargs : ([.long v] : List Value).toArray = args at *
  refine z_start (fun R Q hRf hRl hQ => ?_)
  have hRf : R.frames = 0 := hRf
  have hRl : R.locals = 0 := hRl
  have h9 := h
  refine lv_lload_n hx hb dJ13_bitCount_95d88_0 rfl (lv_at hl 0 rfl) ?_
  refine lv_lload_n hx hb dJ13_bitCount_95d88_1 rfl (lv_at hl 0 rfl) ?_
  refine lv_iconst (v := 1) hx hb dJ13_bitCount_95d88_2 (by decide) ?_
  refine lv_lushr hx hb dJ13_bitCount_95d88_3 rfl ?_
  refine lv_topl (fun g_1 eg_1 => ?_)
  refine lv_ldc2 hx hb hown (hg _ (zm_RJ13 (List.mem_of_getElem? (i := 2) rfl))) dJ13_bitCount_95d88_4 ?_
  refine lv_land hx hb dJ13_bitCount_95d88_7 ?_
  refine lv_topl (fun g_2 eg_2 => ?_)
  refine lv_lsub hx hb dJ13_bitCount_95d88_8 ?_
  refine lv_topl (fun g_3 eg_3 => ?_)
  refine lv_lstore_n (lv' := [(0, .long g_3)]) hx hb dJ13_bitCount_95d88_9 rfl hl (by decide) rfl (fun ls hl => ?_)
  refine lv_lload_n hx hb dJ13_bitCount_95d88_10 rfl (lv_at hl 0 rfl) ?_
  refine lv_ldc2 hx hb hown (hg _ (zm_RJ13 (List.mem_of_getElem? (i := 3) rfl))) dJ13_bitCount_95d88_11 ?_
  refine lv_land hx hb dJ13_bitCount_95d88_14 ?_
  refine lv_topl (fun g_4 eg_4 => ?_)
  refine lv_lload_n hx hb dJ13_bitCount_95d88_15 rfl (lv_at hl 0 rfl) ?_
  refine lv_iconst (v := 2) hx hb dJ13_bitCount_95d88_16 (by decide) ?_
  refine lv_lushr hx hb dJ13_bitCount_95d88_17 rfl ?_
  refine lv_topl (fun g_5 eg_5 => ?_)
  refine lv_ldc2 hx hb hown (hg _ (zm_RJ13 (List.mem_of_getElem? (i := 3) rfl))) dJ13_bitCount_95d88_18 ?_
  refine lv_land hx hb dJ13_bitCount_95d88_21 ?_
  refine lv_topl (fun g_6 eg_6 => ?_)
  refine lv_ladd hx hb dJ13_bitCount_95d88_22 ?_
  refine lv_topl (fun g_7 eg_7 => ?_)
  refine lv_lstore_n (lv' := [(0, .long g_7)]) hx hb dJ13_bitCount_95d88_23 rfl hl (by decide) rfl (fun ls hl => ?_)
  refine lv_lload_n hx hb dJ13_bitCount_95d88_24 rfl (lv_at hl 0 rfl) ?_
  refine lv_lload_n hx hb dJ13_bitCount_95d88_25 rfl (lv_at hl 0 rfl) ?_
  refine lv_iconst (v := 4) hx hb dJ13_bitCount_95d88_26 (by decide) ?_
  refine lv_lushr hx hb dJ13_bitCount_95d88_27 rfl ?_
  refine lv_topl (fun g_8 eg_8 => ?_)
  refine lv_ladd hx hb dJ13_bitCount_95d88_28 ?_
  refine lv_topl (fun g_9 eg_9 => ?_)
  refine lv_ldc2 hx hb hown (hg _ (zm_RJ13 (List.mem_of_getElem? (i := 4) rfl))) dJ13_bitCount_95d88_29 ?_
  refine lv_land hx hb dJ13_bitCount_95d88_32 ?_
  refine lv_topl (fun g_10 eg_10 => ?_)
  refine lv_lstore_n (lv' := [(0, .long g_10)]) hx hb dJ13_bitCount_95d88_33 rfl hl (by decide) rfl (fun ls hl => ?_)
  refine lv_lload_n hx hb dJ13_bitCount_95d88_34 rfl (lv_at hl 0 rfl) ?_
  refine lv_lload_n hx hb dJ13_bitCount_95d88_35 rfl (lv_at hl 0 rfl) ?_
  refine lv_bipush (v := 8) hx hb dJ13_bitCount_95d88_36 (by decide) ?_
  refine lv_lushr hx hb dJ13_bitCount_95d88_38 rfl ?_
  refine lv_topl (fun g_11 eg_11 => ?_)
  refine lv_ladd hx hb dJ13_bitCount_95d88_39 ?_
  refine lv_topl (fun g_12 eg_12 => ?_)
  refine lv_lstore_n (lv' := [(0, .long g_12)]) hx hb dJ13_bitCount_95d88_40 rfl hl (by decide) rfl (fun ls hl => ?_)
  refine lv_lload_n hx hb dJ13_bitCount_95d88_41 rfl (lv_at hl 0 rfl) ?_
  refine lv_lload_n hx hb dJ13_bitCount_95d88_42 rfl (lv_at hl 0 rfl) ?_
  refine lv_bipush (v := 16) hx hb dJ13_bitCount_95d88_43 (by decide) ?_
  refine lv_lushr hx hb dJ13_bitCount_95d88_45 rfl ?_
  refine lv_topl (fun g_13 eg_13 => ?_)
  refine lv_ladd hx hb dJ13_bitCount_95d88_46 ?_
  refine lv_topl (fun g_14 eg_14 => ?_)
  refine lv_lstore_n (lv' := [(0, .long g_14)]) hx hb dJ13_bitCount_95d88_47 rfl hl (by decide) rfl (fun ls hl => ?_)
  refine lv_lload_n hx hb dJ13_bitCount_95d88_48 rfl (lv_at hl 0 rfl) ?_
  refine lv_lload_n hx hb dJ13_bitCount_95d88_49 rfl (lv_at hl 0 rfl) ?_
  refine lv_bipush (v := 32) hx hb dJ13_bitCount_95d88_50 (by decide) ?_
  refine lv_lushr hx hb dJ13_bitCount_95d88_52 rfl ?_
  refine lv_topl (fun g_15 eg_15 => ?_)
  refine lv_ladd hx hb dJ13_bitCount_95d88_53 ?_
  refine lv_topl (fun g_16 eg_16 => ?_)
  refine lv_lstore_n (lv' := [(0, .long g_16)]) hx hb dJ13_bitCount_95d88_54 rfl hl (by decide) rfl (fun ls hl => ?_)
  refine lv_lload_n hx hb dJ13_bitCount_95d88_55 rfl (lv_at hl 0 rfl) ?_
  refine lv_l2i hx hb dJ13_bitCount_95d88_56 rfl ?_
  refine zi_any (fun x_17 bx_17 ex_17 => ?_)
  refine lv_bipush (v := 127) hx hb dJ13_bitCount_95d88_57 (by decide) ?_
  refine lv_iand hx hb dJ13_bitCount_95d88_59 ?_
  refine zi_and ((zBc 127 127 (by decide)).w ⟨by decide, by decide⟩ : zB 0 127 _) (fun x_18 bx_18 ex_18 => ?_)
  subst hQ
  exact W.iret (v := x_18) hx hb hr (fun t ht hW => ⟨⟨x_18, F, rfl, ⟨rfl, (by rw [ex_18, ex_17, eg_16, eg_15, eg_14, eg_13, eg_12, eg_11, eg_10, eg_9, eg_8, eg_7, eg_6, eg_5, eg_4, eg_3, eg_2, eg_1]; rfl), trivial⟩, by rw [ht]; exact h.1, h.2.1, zFr.rf⟩, h.2.2.F ht⟩) h.2.2.2.2 dJ13_bitCount_95d88_60
