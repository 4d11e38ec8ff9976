set_option maxHeartbeats 4000000 in
set_option maxRecDepth 100000 in
theorem zc_X5_keepsSaid (l : Launch) (D : va_G) (k : Nat → ClassId) (Γ : Nat → Option Nat) (L : List Nat) (F : Nat → va_E) (sz : Nat) (th : Nat) (i : Int32) (hth : Γ th = some 5) : Met l yX5_keepsSaid zwX5_keepsSaid ({ frames := 0, cells := 0, slots := 0, locals := 0 }) (va_Pc [.ref th, .int i] (zP D k Γ L F sz)) (va_Qi (fun (r : Int32) (u : Nat → va_E) => F = u ∧ zB 0 1 r ∧ (r ≠ 0 → zB 0 59 i) ∧ True) (zQ D k Γ L F []) (zA L sz)) 0 0 (zA L sz) := by
  refine Met.ofW (cc := cX5_keepsSaid) (maxL := 2) (ret := (some .boolean)) (by decide) rfl ?_
  intro p e s m args below meth c s₁ B hml hv
  obtain ⟨rfl, hsz, hP, hK, hLn, hE, hI⟩ := hv
  have hx := B.exec
  have hb := B.bytes
  have hr := B.returns
  have hg : ∀ w ∈ zG, w.before _ s = true := fun w h9 => atoms_spec (ws := zwX5_keepsSaid) B.pre w (List.mem_cons_of_mem _ h9)
  have hown : s.vm.findClass RX5 = some m.cls := findClass_of_methodNamed B.named
  have hlocks := B.notSynchronized
  subst hsz
  have Z : zC p m c cX5_keepsSaid 2 s _ zG RX5 D k L := ⟨⟨hx, hb, hml, hown, hg⟩, hK, hLn, hE⟩
  have h : zH D k Γ L s F s.heap [] := ⟨hP, hI, va_S.rf⟩
  have hl := lv_entry ([.ref th, .int i]) (n := 2) (Nat.le_of_ble_eq_true rfl)
  rw [lg_entry_eq]
  generalize (lg_sl ([.ref th, .int i]) ++ List.replicate (2 - (lg_sl ([.ref th, .int i])).length) Slot.unset).toArray = ls at hl ⊢
  have hl : lv_has ls 2 [(0, .ref th), (1, .int i)] := hl
  clear hP hK hLn hE hI
  generalize hargs : ([.ref th, .int i] : List Value).toArray = args at *
  refine z_start (fun R Q hRf hRl hQ => ?_)
  have hRf : R.frames = 0 := hRf
  have hRl : R.locals = 0 := hRl
  refine lv_iload_n hx hb dX5_keepsSaid_0 rfl (lv_at hl 1 rfl) ?_
  refine lv_if_lt (tgt := 25) hx hb dX5_keepsSaid_1 (by decide) (fun c_1 => ?_) (fun c_1 => ?_)
  · have c_1 := z_lt c_1
    have bi_2 : zB (-2147483648) (-1) i := zB.ltL c_1 (zB.all i) (zBc 0 0 (by decide)) (by decide)
    refine lv_iconst (v := 0) hx hb dX5_keepsSaid_25 (by decide) ?_
    subst hQ
    exact W.zret (v := 0) hx hb hr (by decide) (fun t ht hW => ⟨⟨0, F, rfl, ⟨rfl, (zB.of ⟨by decide, by decide⟩), (fun h9 => absurd rfl h9), trivial⟩, by rw [ht]; exact h.1, h.2.1, zFr.rf⟩, h.2.2.F ht⟩) h.2.2.2.2 dX5_keepsSaid_26
  · have c_1 := z_nlt c_1
    have bi_3 : zB 0 2147483647 i := zB.leR c_1 (zBc 0 0 (by decide)) (zB.all i) (by decide)
    refine lv_iload_n hx hb dX5_keepsSaid_4 rfl (lv_at hl 1 rfl) ?_
    refine lv_aload_n hx hb dX5_keepsSaid_5 rfl (lv_at hl 0 rfl) ?_
    refine zt_geti (t := 5) (C := RX5) (T := TX5) (N := 19) Z h hth zin_5 rfl 3 rfl ⟨by decide, rfl⟩ (zm_RX5 (List.mem_of_getElem? (i := 8) rfl)) (fun _ h9 => h9) dX5_keepsSaid_6 (fun x_4 kx_4 bx_4 => ?_)
    refine lv_icmp_ge (tgt := 25) hx hb dX5_keepsSaid_9 (by decide) (fun c_5 => ?_) (fun c_5 => ?_)
    · have c_5 := z_le c_5
      refine lv_iconst (v := 0) hx hb dX5_keepsSaid_25 (by decide) ?_
      subst hQ
      exact W.zret (v := 0) hx hb hr (by decide) (fun t ht hW => ⟨⟨0, F, rfl, ⟨rfl, (zB.of ⟨by decide, by decide⟩), (fun h9 => absurd rfl h9), trivial⟩, by rw [ht]; exact h.1, h.2.1, zFr.rf⟩, h.2.2.F ht⟩) h.2.2.2.2 dX5_keepsSaid_26
    · have c_5 := z_nle c_5
      have bi_6 : zB 0 4000000 i := zB.ltL c_5 bi_3 bx_4 (by decide)
      have bx_4_7 : zB 1 4000001 x_4 := zB.ltR c_5 bi_3 bx_4 (by decide)
      refine lv_iload_n hx hb dX5_keepsSaid_12 rfl (lv_at hl 1 rfl) ?_
      refine lv_aload_n hx hb dX5_keepsSaid_13 rfl (lv_at hl 0 rfl) ?_
      refine zt_getr (t := 5) (C := RX5) (T := TX5) (N := 19) Z h hth zin_5 rfl 7 rfl ⟨by decide, rfl⟩ (zm_RX5 (List.mem_of_getElem? (i := 40) rfl)) (fun _ h9 => h9) dX5_keepsSaid_14 (fun a_8 ka_8 ha_8 => ?_)
      refine zt_alen (t := 108) Z h ha_8 ⟨by decide, rfl⟩ (by decide) (v := 60) rfl dX5_keepsSaid_17 ?_
      refine lv_icmp_ge (tgt := 25) hx hb dX5_keepsSaid_18 (by decide) (fun c_9 => ?_) (fun c_9 => ?_)
      · have c_9 := z_le c_9
        have bi_10 : zB 60 4000000 i := zB.leR c_9 (zBc 60 60 (by decide)) bi_6 (by decide)
        refine lv_iconst (v := 0) hx hb dX5_keepsSaid_25 (by decide) ?_
        subst hQ
        exact W.zret (v := 0) hx hb hr (by decide) (fun t ht hW => ⟨⟨0, F, rfl, ⟨rfl, (zB.of ⟨by decide, by decide⟩), (fun h9 => absurd rfl h9), trivial⟩, by rw [ht]; exact h.1, h.2.1, zFr.rf⟩, h.2.2.F ht⟩) h.2.2.2.2 dX5_keepsSaid_26
      · have c_9 := z_nle c_9
        have bi_11 : zB 0 59 i := zB.ltL c_9 bi_6 (zBc 60 60 (by decide)) (by decide)
        refine lv_iconst (v := 1) hx hb dX5_keepsSaid_21 (by decide) ?_
        refine lv_goto (tgt := 26) hx hb dX5_keepsSaid_22 (by decide) ?_
        subst hQ
        exact W.zret (v := 1) hx hb hr (by decide) (fun t ht hW => ⟨⟨1, F, rfl, ⟨rfl, (zB.of ⟨by decide, by decide⟩), (fun _ => bi_11), trivial⟩, by rw [ht]; exact h.1, h.2.1, zFr.rf⟩, h.2.2.F ht⟩) h.2.2.2.2 dX5_keepsSaid_26

set_option maxHeartbeats 4000000 in
set_option maxRecDepth 100000 in
theorem zc_X5_saidAt (l : Launch) (D : va_G) (k : Nat → ClassId) (Γ : Nat → Option Nat) (L : List Nat) (F : Nat → va_E) (sz : Nat) (th : Nat) (i : Int32) (hth : Γ th = some 5) : Met l yX5_saidAt zwX5_saidAt ({ frames := 1, cells := 0, slots := 0, locals := 21 }) (va_Pc [.ref th, .int i] (zP D k Γ L F sz)) (va_Qi (fun (r : Int32) (u : Nat → va_E) => F = u ∧ True) (zQ D k Γ L F []) (zA L sz)) 0 0 (zA L sz) := by
  refine Met.ofW (cc := cX5_saidAt) (maxL := 2) (ret := (some .int)) (by decide) rfl ?_
  intro p e s m args below meth c s₁ B hml hv
  obtain ⟨rfl, hsz, hP, hK, hLn, hE, hI⟩ := hv
  have hx := B.exec
  have hb := B.bytes
  have hr := B.returns
  have hg : ∀ w ∈ zG, w.before _ s = true := fun w h9 => atoms_spec (ws := zwX5_saidAt) B.pre w (List.mem_cons_of_mem _ h9)
  have hown : s.vm.findClass RX5 = some m.cls := findClass_of_methodNamed B.named
  have hlocks := B.notSynchronized
  subst hsz
  have Z : zC p m c cX5_saidAt 2 s _ zG RX5 D k L := ⟨⟨hx, hb, hml, hown, hg⟩, hK, hLn, hE⟩
  have h : zH D k Γ L s F s.heap [] := ⟨hP, hI, va_S.rf⟩
  have hl := lv_entry ([.ref th, .int i]) (n := 2) (Nat.le_of_ble_eq_true rfl)
  rw [lg_entry_eq]
  generalize (lg_sl ([.ref th, .int i]) ++ List.replicate (2 - (lg_sl ([.ref th, .int i])).length) Slot.unset).toArray = ls at hl ⊢
  have hl : lv_has ls 2 [(0, .ref th), (1, .int i)] := hl
  clear hP hK hLn hE hI
  generalize hargs : ([.ref th, .int i] : List Value).toArray = args at *
  refine z_start (fun R Q hRf hRl hQ => ?_)
  have hRf : R.frames = 1 := hRf
  have hRl : R.locals = 21 := hRl
  refine lv_aload_n hx hb dX5_saidAt_0 rfl (lv_at hl 0 rfl) ?_
  refine lv_iload_n hx hb dX5_saidAt_1 rfl (lv_at hl 1 rfl) ?_
  refine zk_Vi (As := [.int i]) (rest := []) (bytes := cX5_keepsSaid) (maxL := 2) (ret := (some .boolean)) Z h (zc_X5_keepsSaid l D k Γ L F s.heap.size th i hth) (cwV 1 hg zv_RX5_124 rfl rfl rfl zd_X5_keepsSaid ⟨z_leR hRf (by decide), z_leR hRl (by decide)⟩) hth (by decide) rfl rfl hl.1 rfl (Nat.le_of_ble_eq_true rfl) dX5_saidAt_2 ⟨Nat.zero_le _, Nat.zero_le _⟩ (fun r_1 F_2 H locs w_3 h hfF_2 => ?_)
  obtain ⟨rfl, br_1, q_4, -⟩ := w_3
  refine lv_if_eq (tgt := 17) hx hb dX5_saidAt_5 (by decide) (fun c_5 => ?_) (fun c_5 => ?_)
  · have c_5 := z_eq c_5
    have br_1_6 : zB 0 0 r_1 := zB.eqL (a := 0) (b := 0) c_5 (zBc 0 0 (by decide))
    refine lv_iconst (v := 0) hx hb dX5_saidAt_17 (by decide) ?_
    subst hQ
    exact W.iret (v := 0) hx hb hr (fun t ht hW => ⟨⟨0, F, rfl, ⟨rfl, trivial⟩, by rw [ht]; exact h.1, h.2.1, zFr.rf⟩, h.2.2.F ht⟩) h.2.2.2.2 dX5_saidAt_18
  · have bi_7 : zB 0 59 i := q_4 c_5
    have c_5 := z_ne c_5
    have br_1_8 : zB 1 1 r_1 := zB.neLo c_5 br_1 (zBc 0 0 (by decide)) (by decide)
    refine lv_aload_n hx hb dX5_saidAt_8 rfl (lv_at hl 0 rfl) ?_
    refine zt_getr (t := 5) (C := RX5) (T := TX5) (N := 19) Z h hth zin_5 rfl 7 rfl ⟨by decide, rfl⟩ (zm_RX5 (List.mem_of_getElem? (i := 40) rfl)) (fun _ h9 => h9) dX5_saidAt_9 (fun a_9 ka_9 ha_9 => ?_)
    refine lv_iload_n hx hb dX5_saidAt_12 rfl (lv_at hl 1 rfl) ?_
    refine zt_ialde (t := 108) Z h ha_9 ⟨by decide, rfl⟩ bi_7 ⟨by decide, by decide⟩ dX5_saidAt_13 (fun x_10 ex_10 bx_10 => ?_)
    refine lv_goto (tgt := 18) hx hb dX5_saidAt_14 (by decide) ?_
    subst hQ
    exact W.iret (v := x_10) hx hb hr (fun t ht hW => ⟨⟨x_10, F, rfl, ⟨rfl, trivial⟩, by rw [ht]; exact h.1, h.2.1, zFr.rf⟩, h.2.2.F ht⟩) h.2.2.2.2 dX5_saidAt_18

set_option maxHeartbeats 4000000 in
set_option maxRecDepth 100000 in
theorem zc_X5_keepsTrace (l : Launch) (D : va_G) (k : Nat → ClassId) (Γ : Nat → Option Nat) (L : List Nat) (F : Nat → va_E) (sz : Nat) (th : Nat) (i : Int32) (wh : Int32) (hth : Γ th = some 5) : Met l yX5_keepsTrace zwX5_keepsTrace ({ frames := 0, cells := 0, slots := 0, locals := 0 }) (va_Pc [.ref th, .int i, .int wh] (zP D k Γ L F sz)) (va_Qi (fun (r : Int32) (u : Nat → va_E) => F = u ∧ zB 0 1 r ∧ (r ≠ 0 → zB 0 399 i) ∧ (r ≠ 0 → zB 0 3 wh) ∧ True) (zQ D k Γ L F []) (zA L sz)) 0 0 (zA L sz) := by
  refine Met.ofW (cc := cX5_keepsTrace) (maxL := 3) (ret := (some .boolean)) (by decide) rfl ?_
  intro p e s m args below meth c s₁ B hml hv
  obtain ⟨rfl, hsz, hP, hK, hLn, hE, hI⟩ := hv
  have hx := B.exec
  have hb := B.bytes
  have hr := B.returns
  have hg : ∀ w ∈ zG, w.before _ s = true := fun w h9 => atoms_spec (ws := zwX5_keepsTrace) B.pre w (List.mem_cons_of_mem _ h9)
  have hown : s.vm.findClass RX5 = some m.cls := findClass_of_methodNamed B.named
  have hlocks := B.notSynchronized
  subst hsz
  have Z : zC p m c cX5_keepsTrace 3 s _ zG RX5 D k L := ⟨⟨hx, hb, hml, hown, hg⟩, hK, hLn, hE⟩
  have h : zH D k Γ L s F s.heap [] := ⟨hP, hI, va_S.rf⟩
  have hl := lv_entry ([.ref th, .int i, .int wh]) (n := 3) (Nat.le_of_ble_eq_true rfl)
  rw [lg_entry_eq]
  generalize (lg_sl ([.ref th, .int i, .int wh]) ++ List.replicate (3 - (lg_sl ([.ref th, .int i, .int wh])).length) Slot.unset).toArray = ls at hl ⊢
  have hl : lv_has ls 3 [(0, .ref th), (1, .int i), (2, .int wh)] := hl
  clear hP hK hLn hE hI
  generalize hargs : ([.ref th, .int i, .int wh] : List Value).toArray = args at *
  refine z_start (fun R Q hRf hRl hQ => ?_)
  have hRf : R.frames = 0 := hRf
  have hRl : R.locals = 0 := hRl
  refine lv_iload_n hx hb dX5_keepsTrace_0 rfl (lv_at hl 1 rfl) ?_
  refine lv_if_lt (tgt := 32) hx hb dX5_keepsTrace_1 (by decide) (fun c_1 => ?_) (fun c_1 => ?_)
  · have c_1 := z_lt c_1
    have bi_2 : zB (-2147483648) (-1) i := zB.ltL c_1 (zB.all i) (zBc 0 0 (by decide)) (by decide)
    refine lv_iconst (v := 0) hx hb dX5_keepsTrace_32 (by decide) ?_
    subst hQ
    exact W.zret (v := 0) hx hb hr (by decide) (fun t ht hW => ⟨⟨0, F, rfl, ⟨rfl, (zB.of ⟨by decide, by decide⟩), (fun h9 => absurd rfl h9), (fun h9 => absurd rfl h9), trivial⟩, by rw [ht]; exact h.1, h.2.1, zFr.rf⟩, h.2.2.F ht⟩) h.2.2.2.2 dX5_keepsTrace_33
  · have c_1 := z_nlt c_1
    have bi_3 : zB 0 2147483647 i := zB.leR c_1 (zBc 0 0 (by decide)) (zB.all i) (by decide)
    refine lv_iload_n hx hb dX5_keepsTrace_4 rfl (lv_at hl 1 rfl) ?_
    refine lv_aload_n hx hb dX5_keepsTrace_5 rfl (lv_at hl 0 rfl) ?_
    refine zt_geti (t := 5) (C := RX5) (T := TX5) (N := 19) Z h hth zin_5 rfl 4 rfl ⟨by decide, rfl⟩ (zm_RX5 (List.mem_of_getElem? (i := 9) rfl)) (fun _ h9 => h9) dX5_keepsTrace_6 (fun x_4 kx_4 bx_4 => ?_)
    refine lv_icmp_ge (tgt := 32) hx hb dX5_keepsTrace_9 (by decide) (fun c_5 => ?_) (fun c_5 => ?_)
    · have c_5 := z_le c_5
      refine lv_iconst (v := 0) hx hb dX5_keepsTrace_32 (by decide) ?_
      subst hQ
      exact W.zret (v := 0) hx hb hr (by decide) (fun t ht hW => ⟨⟨0, F, rfl, ⟨rfl, (zB.of ⟨by decide, by decide⟩), (fun h9 => absurd rfl h9), (fun h9 => absurd rfl h9), trivial⟩, by rw [ht]; exact h.1, h.2.1, zFr.rf⟩, h.2.2.F ht⟩) h.2.2.2.2 dX5_keepsTrace_33
    · have c_5 := z_nle c_5
      have bi_6 : zB 0 4000000 i := zB.ltL c_5 bi_3 bx_4 (by decide)
      have bx_4_7 : zB 1 4000001 x_4 := zB.ltR c_5 bi_3 bx_4 (by decide)
      refine lv_iload_n hx hb dX5_keepsTrace_12 rfl (lv_at hl 1 rfl) ?_
      refine lv_sipush (v := 400) hx hb dX5_keepsTrace_13 (by decide) ?_
      refine lv_icmp_ge (tgt := 32) hx hb dX5_keepsTrace_16 (by decide) (fun c_8 => ?_) (fun c_8 => ?_)
      · have c_8 := z_le c_8
        have bi_9 : zB 400 4000000 i := zB.leR c_8 (zBc 400 400 (by decide)) bi_6 (by decide)
        refine lv_iconst (v := 0) hx hb dX5_keepsTrace_32 (by decide) ?_
        subst hQ
        exact W.zret (v := 0) hx hb hr (by decide) (fun t ht hW => ⟨⟨0, F, rfl, ⟨rfl, (zB.of ⟨by decide, by decide⟩), (fun h9 => absurd rfl h9), (fun h9 => absurd rfl h9), trivial⟩, by rw [ht]; exact h.1, h.2.1, zFr.rf⟩, h.2.2.F ht⟩) h.2.2.2.2 dX5_keepsTrace_33
      · have c_8 := z_nle c_8
        have bi_10 : zB 0 399 i := zB.ltL c_8 bi_6 (zBc 400 400 (by decide)) (by decide)
        refine lv_iload_n hx hb dX5_keepsTrace_19 rfl (lv_at hl 2 rfl) ?_
        refine lv_if_lt (tgt := 32) hx hb dX5_keepsTrace_20 (by decide) (fun c_11 => ?_) (fun c_11 => ?_)
        · have c_11 := z_lt c_11
          have bwh_12 : zB (-2147483648) (-1) wh := zB.ltL c_11 (zB.all wh) (zBc 0 0 (by decide)) (by decide)
          refine lv_iconst (v := 0) hx hb dX5_keepsTrace_32 (by decide) ?_
          subst hQ
          exact W.zret (v := 0) hx hb hr (by decide) (fun t ht hW => ⟨⟨0, F, rfl, ⟨rfl, (zB.of ⟨by decide, by decide⟩), (fun h9 => absurd rfl h9), (fun h9 => absurd rfl h9), trivial⟩, by rw [ht]; exact h.1, h.2.1, zFr.rf⟩, h.2.2.F ht⟩) h.2.2.2.2 dX5_keepsTrace_33
        · have c_11 := z_nlt c_11
          have bwh_13 : zB 0 2147483647 wh := zB.leR c_11 (zBc 0 0 (by decide)) (zB.all wh) (by decide)
          refine lv_iload_n hx hb dX5_keepsTrace_23 rfl (lv_at hl 2 rfl) ?_
          refine lv_iconst (v := 4) hx hb dX5_keepsTrace_24 (by decide) ?_
          refine lv_icmp_ge (tgt := 32) hx hb dX5_keepsTrace_25 (by decide) (fun c_14 => ?_) (fun c_14 => ?_)
          · have c_14 := z_le c_14
            have bwh_15 : zB 4 2147483647 wh := zB.leR c_14 (zBc 4 4 (by decide)) bwh_13 (by decide)
            refine lv_iconst (v := 0) hx hb dX5_keepsTrace_32 (by decide) ?_
            subst hQ
            exact W.zret (v := 0) hx hb hr (by decide) (fun t ht hW => ⟨⟨0, F, rfl, ⟨rfl, (zB.of ⟨by decide, by decide⟩), (fun h9 => absurd rfl h9), (fun h9 => absurd rfl h9), trivial⟩, by rw [ht]; exact h.1, h.2.1, zFr.rf⟩, h.2.2.F ht⟩) h.2.2.2.2 dX5_keepsTrace_33
          · have c_14 := z_nle c_14
            have bwh_16 : zB 0 3 wh := zB.ltL c_14 bwh_13 (zBc 4 4 (by decide)) (by decide)
            refine lv_iconst (v := 1) hx hb dX5_keepsTrace_28 (by decide) ?_
            refine lv_goto (tgt := 33) hx hb dX5_keepsTrace_29 (by decide) ?_
            subst hQ
            exact W.zret (v := 1) hx hb hr (by decide) (fun t ht hW => ⟨⟨1, F, rfl, ⟨rfl, (zB.of ⟨by decide, by decide⟩), (fun _ => bi_10), (fun _ => bwh_16), trivial⟩, by rw [ht]; exact h.1, h.2.1, zFr.rf⟩, h.2.2.F ht⟩) h.2.2.2.2 dX5_keepsTrace_33

set_option maxHeartbeats 4000000 in
set_option maxRecDepth 100000 in
theorem zc_X5_traceAt (l : Launch) (D : va_G) (k : Nat → ClassId) (Γ : Nat → Option Nat) (L : List Nat) (F : Nat → va_E) (sz : Nat) (th : Nat) (i : Int32) (wh : Int32) (hth : Γ th = some 5) : Met l yX5_traceAt zwX5_traceAt ({ frames := 1, cells := 0, slots := 0, locals := 22 }) (va_Pc [.ref th, .int i, .int wh] (zP D k Γ L F sz)) (va_Qi (fun (r : Int32) (u : Nat → va_E) => F = u ∧ True) (zQ D k Γ L F []) (zA L sz)) 0 0 (zA L sz) := by
  refine Met.ofW (cc := cX5_traceAt) (maxL := 3) (ret := (some .int)) (by decide) rfl ?_
  intro p e s m args below meth c s₁ B hml hv
  obtain ⟨rfl, hsz, hP, hK, hLn, hE, hI⟩ := hv
  have hx := B.exec
  have hb := B.bytes
  have hr := B.returns
  have hg : ∀ w ∈ zG, w.before _ s = true := fun w h9 => atoms_spec (ws := zwX5_traceAt) B.pre w (List.mem_cons_of_mem _ h9)
  have hown : s.vm.findClass RX5 = some m.cls := findClass_of_methodNamed B.named
  have hlocks := B.notSynchronized
  subst hsz
  have Z : zC p m c cX5_traceAt 3 s _ zG RX5 D k L := ⟨⟨hx, hb, hml, hown, hg⟩, hK, hLn, hE⟩
  have h : zH D k Γ L s F s.heap [] := ⟨hP, hI, va_S.rf⟩
  have hl := lv_entry ([.ref th, .int i, .int wh]) (n := 3) (Nat.le_of_ble_eq_true rfl)
  rw [lg_entry_eq]
  generalize (lg_sl ([.ref th, .int i, .int wh]) ++ List.replicate (3 - (lg_sl ([.ref th, .int i, .int wh])).length) Slot.unset).toArray = ls at hl ⊢
  have hl : lv_has ls 3 [(0, .ref th), (1, .int i), (2, .int wh)] := hl
  clear hP hK hLn hE hI
  generalize hargs : ([.ref th, .int i, .int wh] : List Value).toArray = args at *
  refine z_start (fun R Q hRf hRl hQ => ?_)
  have hRf : R.frames = 1 := hRf
  have hRl : R.locals = 22 := hRl
  refine lv_aload_n hx hb dX5_traceAt_0 rfl (lv_at hl 0 rfl) ?_
  refine lv_iload_n hx hb dX5_traceAt_1 rfl (lv_at hl 1 rfl) ?_
  refine lv_iload_n hx hb dX5_traceAt_2 rfl (lv_at hl 2 rfl) ?_
  refine zk_Vi (As := [.int i, .int wh]) (rest := []) (bytes := cX5_keepsTrace) (maxL := 3) (ret := (some .boolean)) Z h (zc_X5_keepsTrace l D k Γ L F s.heap.size th i wh hth) (cwV 2 hg zv_RX5_127 rfl rfl rfl zd_X5_keepsTrace ⟨z_leR hRf (by decide), z_leR hRl (by decide)⟩) hth (by decide) rfl rfl hl.1 rfl (Nat.le_of_ble_eq_true rfl) dX5_traceAt_3 ⟨Nat.zero_le _, Nat.zero_le _⟩ (fun r_1 F_2 H locs w_3 h hfF_2 => ?_)
  obtain ⟨rfl, br_1, q_4, q_5, -⟩ := w_3
  refine lv_if_eq (tgt := 22) hx hb dX5_traceAt_6 (by decide) (fun c_6 => ?_) (fun c_6 => ?_)
  · have c_6 := z_eq c_6
    have br_1_7 : zB 0 0 r_1 := zB.eqL (a := 0) (b := 0) c_6 (zBc 0 0 (by decide))
    refine lv_iconst (v := 0) hx hb dX5_traceAt_22 (by decide) ?_
    subst hQ
    exact W.iret (v := 0) hx hb hr (fun t ht hW => ⟨⟨0, F, rfl, ⟨rfl, trivial⟩, by rw [ht]; exact h.1, h.2.1, zFr.rf⟩, h.2.2.F ht⟩) h.2.2.2.2 dX5_traceAt_23
  · have bi_8 : zB 0 399 i := q_4 c_6
    have bwh_9 : zB 0 3 wh := q_5 c_6
    have c_6 := z_ne c_6
    have br_1_10 : zB 1 1 r_1 := zB.neLo c_6 br_1 (zBc 0 0 (by decide)) (by decide)
    refine lv_aload_n hx hb dX5_traceAt_9 rfl (lv_at hl 0 rfl) ?_
    refine zt_getr (t := 5) (C := RX5) (T := TX5) (N := 19) Z h hth zin_5 rfl 8 rfl ⟨by decide, rfl⟩ (zm_RX5 (List.mem_of_getElem? (i := 50) rfl)) (fun _ h9 => h9) dX5_traceAt_10 (fun a_11 ka_11 ha_11 => ?_)
    refine lv_iload_n hx hb dX5_traceAt_13 rfl (lv_at hl 1 rfl) ?_
    refine lv_iconst (v := 4) hx hb dX5_traceAt_14 (by decide) ?_
    refine lv_imul hx hb dX5_traceAt_15 ?_
    refine zi_mul bi_8 ((zBc 4 4 (by decide)).w ⟨by decide, by decide⟩ : zB 0 4 _) (by decide) (fun x_12 bx_12 tx_12 => ?_)
    have bx_12 : zB 0 1596 x_12 := bx_12
    refine lv_iload_n hx hb dX5_traceAt_16 rfl (lv_at hl 2 rfl) ?_
    refine lv_iadd hx hb dX5_traceAt_17 ?_
    refine zi_add (lo := 0) (hi := 1599) bx_12 bwh_9 (by decide) (fun x_13 bx_13 tx_13 => ?_)
    refine zt_ialde (t := 109) Z h ha_11 ⟨by decide, rfl⟩ bx_13 ⟨by decide, by decide⟩ dX5_traceAt_18 (fun x_14 ex_14 bx_14 => ?_)
    refine lv_goto (tgt := 23) hx hb dX5_traceAt_19 (by decide) ?_
    subst hQ
    exact W.iret (v := x_14) hx hb hr (fun t ht hW => ⟨⟨x_14, F, rfl, ⟨rfl, trivial⟩, by rw [ht]; exact h.1, h.2.1, zFr.rf⟩, h.2.2.F ht⟩) h.2.2.2.2 dX5_traceAt_23

set_option maxHeartbeats 4000000 in
set_option maxRecDepth 100000 in
theorem zc_X5_firstCallsPlace (l : Launch) (D : va_G) (k : Nat → ClassId) (Γ : Nat → Option Nat) (L : List Nat) (F : Nat → va_E) (sz : Nat) (th : Nat) (q : Int32) (hth : Γ th = some 5) : Met l yX5_firstCallsPlace zwX5_firstCallsPlace ({ frames := 0, cells := 0, slots := 0, locals := 0 }) (va_Pc [.ref th, .int q] (zP D k Γ L F sz)) (va_Qi (fun (r : Int32) (u : Nat → va_E) => F = u ∧ True) (zQ D k Γ L F []) (zA L sz)) 0 0 (zA L sz) := by
  refine Met.ofW (cc := cX5_firstCallsPlace) (maxL := 2) (ret := (some .int)) (by decide) rfl ?_
  intro p e s m args below meth c s₁ B hml hv
  obtain ⟨rfl, hsz, hP, hK, hLn, hE, hI⟩ := hv
  have hx := B.exec
  have hb := B.bytes
  have hr := B.returns
  have hg : ∀ w ∈ zG, w.before _ s = true := fun w h9 => atoms_spec (ws := zwX5_firstCallsPlace) B.pre w (List.mem_cons_of_mem _ h9)
  have hown : s.vm.findClass RX5 = some m.cls := findClass_of_methodNamed B.named
  have hlocks := B.notSynchronized
  subst hsz
  have Z : zC p m c cX5_firstCallsPlace 2 s _ zG RX5 D k L := ⟨⟨hx, hb, hml, hown, hg⟩, hK, hLn, hE⟩
  have h : zH D k Γ L s F s.heap [] := ⟨hP, hI, va_S.rf⟩
  have hl := lv_entry ([.ref th, .int q]) (n := 2) (Nat.le_of_ble_eq_true rfl)
  rw [lg_entry_eq]
  generalize (lg_sl ([.ref th, .int q]) ++ List.replicate (2 - (lg_sl ([.ref th, .int q])).length) Slot.unset).toArray = ls at hl ⊢
  have hl : lv_has ls 2 [(0, .ref th), (1, .int q)] := hl
  clear hP hK hLn hE hI
  generalize hargs : ([.ref th, .int q] : List Value).toArray = args at *
  refine z_start (fun R Q hRf hRl hQ => ?_)
  have hRf : R.frames = 0 := hRf
  have hRl : R.locals = 0 := hRl
  refine lv_iload_n hx hb dX5_firstCallsPlace_0 rfl (lv_at hl 1 rfl) ?_
  refine lv_if_lt (tgt := 19) hx hb dX5_firstCallsPlace_1 (by decide) (fun c_1 => ?_) (fun c_1 => ?_)
  · have c_1 := z_lt c_1
    have bq_2 : zB (-2147483648) (-1) q := zB.ltL c_1 (zB.all q) (zBc 0 0 (by decide)) (by decide)
    refine lv_iconst (v := 0) hx hb dX5_firstCallsPlace_19 (by decide) ?_
    subst hQ
    exact W.iret (v := 0) hx hb hr (fun t ht hW => ⟨⟨0, F, rfl, ⟨rfl, trivial⟩, by rw [ht]; exact h.1, h.2.1, zFr.rf⟩, h.2.2.F ht⟩) h.2.2.2.2 dX5_firstCallsPlace_20
  · have c_1 := z_nlt c_1
    have bq_3 : zB 0 2147483647 q := zB.leR c_1 (zBc 0 0 (by decide)) (zB.all q) (by decide)
    refine lv_iload_n hx hb dX5_firstCallsPlace_4 rfl (lv_at hl 1 rfl) ?_
    refine lv_bipush (v := 8) hx hb dX5_firstCallsPlace_5 (by decide) ?_
    refine lv_icmp_ge (tgt := 19) hx hb dX5_firstCallsPlace_7 (by decide) (fun c_4 => ?_) (fun c_4 => ?_)
    · have c_4 := z_le c_4
      have bq_5 : zB 8 2147483647 q := zB.leR c_4 (zBc 8 8 (by decide)) bq_3 (by decide)
      refine lv_iconst (v := 0) hx hb dX5_firstCallsPlace_19 (by decide) ?_
      subst hQ
      exact W.iret (v := 0) hx hb hr (fun t ht hW => ⟨⟨0, F, rfl, ⟨rfl, trivial⟩, by rw [ht]; exact h.1, h.2.1, zFr.rf⟩, h.2.2.F ht⟩) h.2.2.2.2 dX5_firstCallsPlace_20
    · have c_4 := z_nle c_4
      have bq_6 : zB 0 7 q := zB.ltL c_4 bq_3 (zBc 8 8 (by decide)) (by decide)
      refine lv_aload_n hx hb dX5_firstCallsPlace_10 rfl (lv_at hl 0 rfl) ?_
      refine zt_getr (t := 5) (C := RX5) (T := TX5) (N := 19) Z h hth zin_5 rfl 9 rfl ⟨by decide, rfl⟩ (zm_RX5 (List.mem_of_getElem? (i := 52) rfl)) (fun _ h9 => h9) dX5_firstCallsPlace_11 (fun a_7 ka_7 ha_7 => ?_)
      refine lv_iload_n hx hb dX5_firstCallsPlace_14 rfl (lv_at hl 1 rfl) ?_
      refine zt_ialde (t := 110) Z h ha_7 ⟨by decide, rfl⟩ bq_6 ⟨by decide, by decide⟩ dX5_firstCallsPlace_15 (fun x_8 ex_8 bx_8 => ?_)
      refine lv_goto (tgt := 20) hx hb dX5_firstCallsPlace_16 (by decide) ?_
      subst hQ
      exact W.iret (v := x_8) hx hb hr (fun t ht hW => ⟨⟨x_8, F, rfl, ⟨rfl, trivial⟩, by rw [ht]; exact h.1, h.2.1, zFr.rf⟩, h.2.2.F ht⟩) h.2.2.2.2 dX5_firstCallsPlace_20

set_option maxHeartbeats 4000000 in
set_option maxRecDepth 100000 in
theorem zc_X5_tellsLike (l : Launch) (D : va_G) (k : Nat → ClassId) (Γ : Nat → Option Nat) (L : List Nat) (F : Nat → va_E) (sz : Nat) (th : Nat) (ot : Nat) (hth : Γ th = some 5) (hot : Γ ot = some 5) : Met l yX5_tellsLike zwX5_tellsLike ({ frames := 0, cells := 0, slots := 0, locals := 0 }) (va_Pc [.ref th, .ref ot] (zP D k Γ L F sz)) (va_Qi (fun (r : Int32) (u : Nat → va_E) => F = u ∧ zB 0 1 r ∧ True) (zQ D k Γ L F []) (zA L sz)) 0 0 (zA L sz) := by
  refine Met.ofW (cc := cX5_tellsLike) (maxL := 3) (ret := (some .boolean)) (by decide) rfl ?_
  intro p e s m args below meth c s₁ B hml hv
  obtain ⟨rfl, hsz, hP, hK, hLn, hE, hI⟩ := hv
  have hx := B.exec
  have hb := B.bytes
  have hr := B.returns
  have hg : ∀ w ∈ zG, w.before _ s = true := fun w h9 => atoms_spec (ws := zwX5_tellsLike) B.pre w (List.mem_cons_of_mem _ h9)
  have hown : s.vm.findClass RX5 = some m.cls := findClass_of_methodNamed B.named
  have hlocks := B.notSynchronized
  subst hsz
  have Z : zC p m c cX5_tellsLike 3 s _ zG RX5 D k L := ⟨⟨hx, hb, hml, hown, hg⟩, hK, hLn, hE⟩
  have h : zH D k Γ L s F s.heap [] := ⟨hP, hI, va_S.rf⟩
  have hl := lv_entry ([.ref th, .ref ot]) (n := 3) (Nat.le_of_ble_eq_true rfl)
  rw [lg_entry_eq]
  generalize (lg_sl ([.ref th, .ref ot]) ++ List.replicate (3 - (lg_sl ([.ref th, .ref ot])).length) Slot.unset).toArray = ls at hl ⊢
  have hl : lv_has ls 3 [(0, .ref th), (1, .ref ot)] := hl
  clear hP hK hLn hE hI
  generalize hargs : ([.ref th, .ref ot] : List Value).toArray = args at *
  refine z_start (fun R Q hRf hRl hQ => ?_)
  have hRf : R.frames = 0 := hRf
  have hRl : R.locals = 0 := hRl
  refine lv_aload_n hx hb dX5_tellsLike_0 rfl (lv_at hl 0 rfl) ?_
  refine zt_geti (t := 5) (C := RX5) (T := TX5) (N := 19) Z h hth zin_5 rfl 0 rfl ⟨by decide, rfl⟩ (zm_RX5 (List.mem_of_getElem? (i := 5) rfl)) (fun _ h9 => h9) dX5_tellsLike_1 (fun x_1 kx_1 bx_1 => ?_)
  refine lv_aload_n hx hb dX5_tellsLike_4 rfl (lv_at hl 1 rfl) ?_
  refine zt_geti (t := 5) (C := RX5) (T := TX5) (N := 19) Z h hot zin_5 rfl 0 rfl ⟨by decide, rfl⟩ (zm_RX5 (List.mem_of_getElem? (i := 5) rfl)) (fun _ h9 => h9) dX5_tellsLike_5 (fun x_2 kx_2 bx_2 => ?_)
  refine lv_icmp_ne (tgt := 33) hx hb dX5_tellsLike_8 (by decide) (fun c_3 => ?_) (fun c_3 => ?_)
  · have c_3 := z_ne c_3
    refine lv_iconst (v := 0) hx hb dX5_tellsLike_33 (by decide) ?_
    subst hQ
    exact W.zret (v := 0) hx hb hr (by decide) (fun t ht hW => ⟨⟨0, F, rfl, ⟨rfl, (zB.of ⟨by decide, by decide⟩), trivial⟩, by rw [ht]; exact h.1, h.2.1, zFr.rf⟩, h.2.2.F ht⟩) h.2.2.2.2 dX5_tellsLike_34
  · have c_3 := z_eq c_3
    refine lv_aload_n hx hb dX5_tellsLike_11 rfl (lv_at hl 0 rfl) ?_
    refine zt_geti (t := 5) (C := RX5) (T := TX5) (N := 19) Z h hth zin_5 rfl 1 rfl ⟨by decide, rfl⟩ (zm_RX5 (List.mem_of_getElem? (i := 6) rfl)) (fun _ h9 => h9) dX5_tellsLike_12 (fun x_4 kx_4 bx_4 => ?_)
    refine lv_aload_n hx hb dX5_tellsLike_15 rfl (lv_at hl 1 rfl) ?_
    refine zt_geti (t := 5) (C := RX5) (T := TX5) (N := 19) Z h hot zin_5 rfl 1 rfl ⟨by decide, rfl⟩ (zm_RX5 (List.mem_of_getElem? (i := 6) rfl)) (fun _ h9 => h9) dX5_tellsLike_16 (fun x_5 kx_5 bx_5 => ?_)
    refine lv_icmp_ne (tgt := 33) hx hb dX5_tellsLike_19 (by decide) (fun c_6 => ?_) (fun c_6 => ?_)
    · have c_6 := z_ne c_6
      refine lv_iconst (v := 0) hx hb dX5_tellsLike_33 (by decide) ?_
      subst hQ
      exact W.zret (v := 0) hx hb hr (by decide) (fun t ht hW => ⟨⟨0, F, rfl, ⟨rfl, (zB.of ⟨by decide, by decide⟩), trivial⟩, by rw [ht]; exact h.1, h.2.1, zFr.rf⟩, h.2.2.F ht⟩) h.2.2.2.2 dX5_tellsLike_34
    · have c_6 := z_eq c_6
      refine lv_aload_n hx hb dX5_tellsLike_22 rfl (lv_at hl 0 rfl) ?_
      refine zt_geti (t := 5) (C := RX5) (T := TX5) (N := 19) Z h hth zin_5 rfl 3 rfl ⟨by decide, rfl⟩ (zm_RX5 (List.mem_of_getElem? (i := 8) rfl)) (fun _ h9 => h9) dX5_tellsLike_23 (fun x_7 kx_7 bx_7 => ?_)
      refine lv_aload_n hx hb dX5_tellsLike_26 rfl (lv_at hl 1 rfl) ?_
      refine zt_geti (t := 5) (C := RX5) (T := TX5) (N := 19) Z h hot zin_5 rfl 3 rfl ⟨by decide, rfl⟩ (zm_RX5 (List.mem_of_getElem? (i := 8) rfl)) (fun _ h9 => h9) dX5_tellsLike_27 (fun x_8 kx_8 bx_8 => ?_)
      refine lv_icmp_eq (tgt := 35) hx hb dX5_tellsLike_30 (by decide) (fun c_9 => ?_) (fun c_9 => ?_)
      · have c_9 := z_eq c_9
        refine lv_iconst (v := 0) hx hb dX5_tellsLike_35 (by decide) ?_
        refine lv_istore_n (lv' := [(2, .int 0), (0, .ref th), (1, .ref ot)]) hx hb dX5_tellsLike_36 rfl hl (by decide) rfl (fun ls hl => ?_)
        have j_j37_10 : ∀ (n : Nat) (ls : Array Slot) (y2_j37_10 : Int32), lv_has ls 3 [(2, .int y2_j37_10), (0, .ref th), (1, .ref ot)] → zB 0 60 y2_j37_10 → (2147483647 - y2_j37_10.toInt).toNat = n → W p l e R s m args below meth c s.heap [] 0 0 Q (F0 m 37 ls []) := by
          intro n
          induction n using Nat.strongRecOn with
          | _ n ih_j37_10 =>
            intro ls y2_j37_10 hl by2_j37_10 hn_j37_10
            refine lv_iload_n hx hb dX5_tellsLike_37 rfl (lv_at hl 0 rfl) ?_
            refine lv_aload_n hx hb dX5_tellsLike_38 rfl (lv_at hl 1 rfl) ?_
            refine zt_getk (t := 5) (C := RX5) (T := TX5) (N := 19) Z h hth zin_5 rfl 3 kx_7 ⟨by decide, rfl, by decide⟩ (zm_RX5 (List.mem_of_getElem? (i := 8) rfl)) (fun _ h9 => h9) dX5_tellsLike_39 ?_
            refine lv_icmp_ge (tgt := 77) hx hb dX5_tellsLike_42 (by decide) (fun c_11 => ?_) (fun c_11 => ?_)
            · have c_11 := z_le c_11
              have bx_7_12 : zB 0 60 x_7 := zB.leL c_11 bx_7 by2_j37_10 (by decide)
              refine lv_iconst (v := 1) hx hb dX5_tellsLike_77 (by decide) ?_
              subst hQ
              exact W.zret (v := 1) hx hb hr (by decide) (fun t ht hW => ⟨⟨1, F, rfl, ⟨rfl, (zB.of ⟨by decide, by decide⟩), trivial⟩, by rw [ht]; exact h.1, h.2.1, zFr.rf⟩, h.2.2.F ht⟩) h.2.2.2.2 dX5_tellsLike_78
            · have c_11 := z_nle c_11
              have bx_7_13 : zB 1 4000001 x_7 := zB.ltR c_11 by2_j37_10 bx_7 (by decide)
              refine lv_iload_n hx hb dX5_tellsLike_45 rfl (lv_at hl 0 rfl) ?_
              refine lv_aload_n hx hb dX5_tellsLike_46 rfl (lv_at hl 1 rfl) ?_
              refine zt_getr (t := 5) (C := RX5) (T := TX5) (N := 19) Z h hth zin_5 rfl 7 rfl ⟨by decide, rfl⟩ (zm_RX5 (List.mem_of_getElem? (i := 40) rfl)) (fun _ h9 => h9) dX5_tellsLike_47 (fun a_14 ka_14 ha_14 => ?_)
              refine zt_alen (t := 108) Z h ha_14 ⟨by decide, rfl⟩ (by decide) (v := 60) rfl dX5_tellsLike_50 ?_
              refine lv_icmp_ge (tgt := 77) hx hb dX5_tellsLike_51 (by decide) (fun c_15 => ?_) (fun c_15 => ?_)
              · have c_15 := z_le c_15
                have by2_j37_10_16 : zB 60 60 y2_j37_10 := zB.leR c_15 (zBc 60 60 (by decide)) by2_j37_10 (by decide)
                refine lv_iconst (v := 1) hx hb dX5_tellsLike_77 (by decide) ?_
                subst hQ
                exact W.zret (v := 1) hx hb hr (by decide) (fun t ht hW => ⟨⟨1, F, rfl, ⟨rfl, (zB.of ⟨by decide, by decide⟩), trivial⟩, by rw [ht]; exact h.1, h.2.1, zFr.rf⟩, h.2.2.F ht⟩) h.2.2.2.2 dX5_tellsLike_78
              · have c_15 := z_nle c_15
                have by2_j37_10_17 : zB 0 59 y2_j37_10 := zB.ltL c_15 by2_j37_10 (zBc 60 60 (by decide)) (by decide)
                refine lv_aload_n hx hb dX5_tellsLike_54 rfl (lv_at hl 1 rfl) ?_
                refine zt_getk (t := 5) (C := RX5) (T := TX5) (N := 19) Z h hth zin_5 rfl 7 ka_14 ⟨by decide, rfl, by decide⟩ (zm_RX5 (List.mem_of_getElem? (i := 40) rfl)) (fun _ h9 => h9) dX5_tellsLike_55 ?_
                refine lv_iload_n hx hb dX5_tellsLike_58 rfl (lv_at hl 0 rfl) ?_
                refine zt_ialde (t := 108) Z h ha_14 ⟨by decide, rfl⟩ by2_j37_10_17 ⟨by decide, by decide⟩ dX5_tellsLike_59 (fun x_18 ex_18 bx_18 => ?_)
                refine lv_aload_n hx hb dX5_tellsLike_60 rfl (lv_at hl 2 rfl) ?_
                refine zt_getr (t := 5) (C := RX5) (T := TX5) (N := 19) Z h hot zin_5 rfl 7 rfl ⟨by decide, rfl⟩ (zm_RX5 (List.mem_of_getElem? (i := 40) rfl)) (fun _ h9 => h9) dX5_tellsLike_61 (fun a_19 ka_19 ha_19 => ?_)
                refine lv_iload_n hx hb dX5_tellsLike_64 rfl (lv_at hl 0 rfl) ?_
                refine zt_ialde (t := 108) Z h ha_19 ⟨by decide, rfl⟩ by2_j37_10_17 ⟨by decide, by decide⟩ dX5_tellsLike_65 (fun x_20 ex_20 bx_20 => ?_)
                refine lv_icmp_eq (tgt := 71) hx hb dX5_tellsLike_66 (by decide) (fun c_21 => ?_) (fun c_21 => ?_)
                · have c_21 := z_eq c_21
                  obtain ⟨x_22, ex_22, bx_22, tx_22⟩ := z_inc (n := 1) (lo := 1) (hi := 60) by2_j37_10_17 (by decide)
                  refine lv_iinc (v := x_22) (lv' := [(2, .int x_22), (0, .ref th), (1, .ref ot)]) hx hb dX5_tellsLike_71 hl (k := 0) rfl ex_22 (by decide) rfl (fun ls hl => ?_)
                  refine lv_goto (tgt := 37) hx hb dX5_tellsLike_74 (by decide) ?_
                  exact ih_j37_10 _ (by have := bx_22.1; have := bx_22.2; have := bx_1.1; have := bx_1.2; have := bx_2.1; have := bx_2.2; have := bx_4.1; have := bx_4.2; have := bx_5.1; have := bx_5.2; have := bx_7_13.1; have := bx_7_13.2; have := bx_8.1; have := bx_8.2; have : (60 : Int32).toInt = 60 := (by decide); have := by2_j37_10.1; have := by2_j37_10.2; omega) ls x_22 (lv_sub hl [0, 1, 2] rfl) (bx_22.w ⟨by decide, by decide⟩) rfl
                · have c_21 := z_ne c_21
                  refine lv_iconst (v := 0) hx hb dX5_tellsLike_69 (by decide) ?_
                  subst hQ
                  exact W.zret (v := 0) hx hb hr (by decide) (fun t ht hW => ⟨⟨0, F, rfl, ⟨rfl, (zB.of ⟨by decide, by decide⟩), trivial⟩, by rw [ht]; exact h.1, h.2.1, zFr.rf⟩, h.2.2.F ht⟩) h.2.2.2.2 dX5_tellsLike_70
        exact j_j37_10 _ ls 0 (lv_sub hl [0, 1, 2] rfl) (zB.of ⟨by decide, by decide⟩) rfl
      · have c_9 := z_ne c_9
        refine lv_iconst (v := 0) hx hb dX5_tellsLike_33 (by decide) ?_
        subst hQ
        exact W.zret (v := 0) hx hb hr (by decide) (fun t ht hW => ⟨⟨0, F, rfl, ⟨rfl, (zB.of ⟨by decide, by decide⟩), trivial⟩, by rw [ht]; exact h.1, h.2.1, zFr.rf⟩, h.2.2.F ht⟩) h.2.2.2.2 dX5_tellsLike_34

set_option maxHeartbeats 4000000 in
set_option maxRecDepth 100000 in
theorem zc_X5_push (l : Launch) (D : va_G) (k : Nat → ClassId) (Γ : Nat → Option Nat) (L : List Nat) (F : Nat → va_E) (sz : Nat) (th : Nat) (nu : Int32) (hth : Γ th = some 5) : Met l yX5_push zwX5_push ({ frames := 0, cells := 0, slots := 0, locals := 0 }) (va_Pc [.ref th, .int nu] (zP D k Γ L F sz)) (va_Qv (fun (u : Nat → va_E) => True) (zQ D k Γ L F [518, 11200]) (zA L sz)) 0 0 (zA L sz) := by
  refine Met.ofW (cc := cX5_push) (maxL := 2) (ret := none) (by decide) rfl ?_
  intro p e s m args below meth c s₁ B hml hv
  obtain ⟨rfl, hsz, hP, hK, hLn, hE, hI⟩ := hv
  have hx := B.exec
  have hb := B.bytes
  have hr := B.returns
  have hg : ∀ w ∈ zG, w.before _ s = true := fun w h9 => atoms_spec (ws := zwX5_push) B.pre w (List.mem_cons_of_mem _ h9)
  have hown : s.vm.findClass RX5 = some m.cls := findClass_of_methodNamed B.named
  have hlocks := B.notSynchronized
  subst hsz
  have Z : zC p m c cX5_push 2 s _ zG RX5 D k L := ⟨⟨hx, hb, hml, hown, hg⟩, hK, hLn, hE⟩
  have h : zH D k Γ L s F s.heap [] := ⟨hP, hI, va_S.rf⟩
  have hl := lv_entry ([.ref th, .int nu]) (n := 2) (Nat.le_of_ble_eq_true rfl)
  rw [lg_entry_eq]
  generalize (lg_sl ([.ref th, .int nu]) ++ List.replicate (2 - (lg_sl ([.ref th, .int nu])).length) Slot.unset).toArray = ls at hl ⊢
  have hl : lv_has ls 2 [(0, .ref th), (1, .int nu)] := hl
  clear hP hK hLn hE hI
  generalize hargs : ([.ref th, .int nu] : List Value).toArray = args at *
  refine z_start (fun R Q hRf hRl hQ => ?_)
  have hRf : R.frames = 0 := hRf
  have hRl : R.locals = 0 := hRl
  refine lv_aload_n hx hb dX5_push_0 rfl (lv_at hl 0 rfl) ?_
  refine zt_geti (t := 5) (C := RX5) (T := TX5) (N := 19) Z h hth zin_5 rfl 18 rfl ⟨by decide, rfl⟩ (zm_RX5 (List.mem_of_getElem? (i := 13) rfl)) (fun _ h9 => h9) dX5_push_1 (fun x_1 kx_1 bx_1 => ?_)
  refine lv_if_lt (tgt := 39) hx hb dX5_push_4 (by decide) (fun c_2 => ?_) (fun c_2 => ?_)
  · have c_2 := z_lt c_2
    have bx_1_3 : zB (-2147483648) (-1) x_1 := zB.ltL c_2 bx_1 (zBc 0 0 (by decide)) (by decide)
    subst hQ
    exact W.vret hx hb hr (fun t ht hW => ⟨⟨F, rfl, trivial, by rw [ht]; exact h.1, h.2.1, zFr.rf⟩, h.2.2.F ht⟩) h.2.2.2.2 dX5_push_39
  · have c_2 := z_nlt c_2
    have bx_1_4 : zB 0 2147483647 x_1 := zB.leR c_2 (zBc 0 0 (by decide)) bx_1 (by decide)
    refine lv_aload_n hx hb dX5_push_7 rfl (lv_at hl 0 rfl) ?_
    refine zt_getk (t := 5) (C := RX5) (T := TX5) (N := 19) Z h hth zin_5 rfl 18 kx_1 ⟨by decide, rfl, by decide⟩ (zm_RX5 (List.mem_of_getElem? (i := 13) rfl)) (fun _ h9 => h9) dX5_push_8 ?_
    refine lv_aload_n hx hb dX5_push_11 rfl (lv_at hl 0 rfl) ?_
    refine zt_getr (t := 5) (C := RX5) (T := TX5) (N := 19) Z h hth zin_5 rfl 17 rfl ⟨by decide, rfl⟩ (zm_RX5 (List.mem_of_getElem? (i := 118) rfl)) (fun _ h9 => h9) dX5_push_12 (fun a_5 ka_5 ha_5 => ?_)
    refine zt_alen (t := 112) Z h ha_5 ⟨by decide, rfl⟩ (by decide) (v := 288) rfl dX5_push_15 ?_
    refine lv_icmp_ge (tgt := 39) hx hb dX5_push_16 (by decide) (fun c_6 => ?_) (fun c_6 => ?_)
    · have c_6 := z_le c_6
      have bx_1_7 : zB 288 2147483647 x_1 := zB.leR c_6 (zBc 288 288 (by decide)) bx_1_4 (by decide)
      subst hQ
      exact W.vret hx hb hr (fun t ht hW => ⟨⟨F, rfl, trivial, by rw [ht]; exact h.1, h.2.1, zFr.rf⟩, h.2.2.F ht⟩) h.2.2.2.2 dX5_push_39
    · have c_6 := z_nle c_6
      have bx_1_8 : zB 0 287 x_1 := zB.ltL c_6 bx_1_4 (zBc 288 288 (by decide)) (by decide)
      refine lv_aload_n hx hb dX5_push_19 rfl (lv_at hl 0 rfl) ?_
      refine zt_getk (t := 5) (C := RX5) (T := TX5) (N := 19) Z h hth zin_5 rfl 17 ka_5 ⟨by decide, rfl, by decide⟩ (zm_RX5 (List.mem_of_getElem? (i := 118) rfl)) (fun _ h9 => h9) dX5_push_20 ?_
      refine lv_aload_n hx hb dX5_push_23 rfl (lv_at hl 0 rfl) ?_
      refine zt_getk (t := 5) (C := RX5) (T := TX5) (N := 19) Z h hth zin_5 rfl 18 kx_1 ⟨by decide, rfl, by decide⟩ (zm_RX5 (List.mem_of_getElem? (i := 13) rfl)) (fun _ h9 => h9) dX5_push_24 ?_
      refine lv_iload_n hx hb dX5_push_27 rfl (lv_at hl 1 rfl) ?_
      refine zt_iast (t := 112) Z h ha_5 ⟨by decide, rfl⟩ bx_1_8 ⟨by decide, by decide⟩ (zB.all nu) dX5_push_28 (fun H locs F_9 h hfF_9 => ?_)
      refine lv_aload_n hx hb dX5_push_29 rfl (lv_at hl 0 rfl) ?_
      refine lv_dup hx hb dX5_push_30 rfl ?_
      refine zt_getk (t := 5) (C := RX5) (T := TX5) (N := 19) Z h hth zin_5 rfl 18 (hfF_9.f hth 18 ⟨by decide, by decide⟩ kx_1) ⟨by decide, rfl, by decide⟩ (zm_RX5 (List.mem_of_getElem? (i := 13) rfl)) (fun _ h9 => h9) dX5_push_31 ?_
      refine lv_iconst (v := 1) hx hb dX5_push_34 (by decide) ?_
      refine lv_iadd hx hb dX5_push_35 ?_
      refine zi_add (lo := 1) (hi := 288) bx_1_8 (zBc 1 1 (by decide)) (by decide) (fun x_10 bx_10 tx_10 => ?_)
      refine zt_put (t := 5) (C := RX5) (T := TX5) (N := 19) (v := .int x_10) Z h hth zin_5 tyX5 tyX5_ok nmX5 rfl 18 rfl ⟨by decide, rfl⟩ (zm_RX5 (List.mem_of_getElem? (i := 13) rfl)) (fun _ h9 => h9) rfl (zV.i (bx_10.w ⟨by decide, by decide⟩)) rfl rfl dX5_push_36 (fun H locs F_11 h hfF_11 kF_11 => ?_)
      subst hQ
      exact W.vret hx hb hr (fun t ht hW => ⟨⟨F_11, rfl, trivial, by rw [ht]; exact h.1, h.2.1, ((hfF_9.w (by decide)).trans hfF_11 (by decide))⟩, h.2.2.F ht⟩) h.2.2.2.2 dX5_push_39

set_option maxHeartbeats 4000000 in
set_option maxRecDepth 100000 in
theorem zc_X5_pop (l : Launch) (D : va_G) (k : Nat → ClassId) (Γ : Nat → Option Nat) (L : List Nat) (F : Nat → va_E) (sz : Nat) (th : Nat) (hth : Γ th = some 5) : Met l yX5_pop zwX5_pop ({ frames := 0, cells := 0, slots := 0, locals := 0 }) (va_Pc [.ref th] (zP D k Γ L F sz)) (va_Qi (fun (r : Int32) (u : Nat → va_E) => True) (zQ D k Γ L F [518]) (zA L sz)) 0 0 (zA L sz) := by
  refine Met.ofW (cc := cX5_pop) (maxL := 1) (ret := (some .int)) (by decide) rfl ?_
  intro p e s m args below meth c s₁ B hml hv
  obtain ⟨rfl, hsz, hP, hK, hLn, hE, hI⟩ := hv
  have hx := B.exec
  have hb := B.bytes
  have hr := B.returns
  have hg : ∀ w ∈ zG, w.before _ s = true := fun w h9 => atoms_spec (ws := zwX5_pop) B.pre w (List.mem_cons_of_mem _ h9)
  have hown : s.vm.findClass RX5 = some m.cls := findClass_of_methodNamed B.named
  have hlocks := B.notSynchronized
  subst hsz
  have Z : zC p m c cX5_pop 1 s _ zG RX5 D k L := ⟨⟨hx, hb, hml, hown, hg⟩, hK, hLn, hE⟩
  have h : zH D k Γ L s F s.heap [] := ⟨hP, hI, va_S.rf⟩
  have hl := lv_entry ([.ref th]) (n := 1) (Nat.le_of_ble_eq_true rfl)
  rw [lg_entry_eq]
  generalize (lg_sl ([.ref th]) ++ List.replicate (1 - (lg_sl ([.ref th])).length) Slot.unset).toArray = ls at hl ⊢
  have hl : lv_has ls 1 [(0, .ref th)] := hl
  clear hP hK hLn hE hI
  generalize hargs : ([.ref th] : List Value).toArray = args at *
  refine z_start (fun R Q hRf hRl hQ => ?_)
  have hRf : R.frames = 0 := hRf
  have hRl : R.locals = 0 := hRl
  refine lv_aload_n hx hb dX5_pop_0 rfl (lv_at hl 0 rfl) ?_
  refine zt_geti (t := 5) (C := RX5) (T := TX5) (N := 19) Z h hth zin_5 rfl 18 rfl ⟨by decide, rfl⟩ (zm_RX5 (List.mem_of_getElem? (i := 13) rfl)) (fun _ h9 => h9) dX5_pop_1 (fun x_1 kx_1 bx_1 => ?_)
  refine lv_if_le (tgt := 19) hx hb dX5_pop_4 (by decide) (fun c_2 => ?_) (fun c_2 => ?_)
  · have c_2 := z_le c_2
    have bx_1_3 : zB (-2147483648) 0 x_1 := zB.leL c_2 bx_1 (zBc 0 0 (by decide)) (by decide)
    refine lv_iconst (v := 0) hx hb dX5_pop_19 (by decide) ?_
    subst hQ
    exact W.iret (v := 0) hx hb hr (fun t ht hW => ⟨⟨0, F, rfl, trivial, by rw [ht]; exact h.1, h.2.1, zFr.rf⟩, h.2.2.F ht⟩) h.2.2.2.2 dX5_pop_20
  · have c_2 := z_nle c_2
    have bx_1_4 : zB 1 2147483647 x_1 := zB.ltR c_2 (zBc 0 0 (by decide)) bx_1 (by decide)
    refine lv_aload_n hx hb dX5_pop_7 rfl (lv_at hl 0 rfl) ?_
    refine zt_getk (t := 5) (C := RX5) (T := TX5) (N := 19) Z h hth zin_5 rfl 18 kx_1 ⟨by decide, rfl, by decide⟩ (zm_RX5 (List.mem_of_getElem? (i := 13) rfl)) (fun _ h9 => h9) dX5_pop_8 ?_
    refine lv_aload_n hx hb dX5_pop_11 rfl (lv_at hl 0 rfl) ?_
    refine zt_getr (t := 5) (C := RX5) (T := TX5) (N := 19) Z h hth zin_5 rfl 17 rfl ⟨by decide, rfl⟩ (zm_RX5 (List.mem_of_getElem? (i := 118) rfl)) (fun _ h9 => h9) dX5_pop_12 (fun a_5 ka_5 ha_5 => ?_)
    refine zt_alen (t := 112) Z h ha_5 ⟨by decide, rfl⟩ (by decide) (v := 288) rfl dX5_pop_15 ?_
    refine lv_icmp_le (tgt := 21) hx hb dX5_pop_16 (by decide) (fun c_6 => ?_) (fun c_6 => ?_)
    · have c_6 := z_le c_6
      have bx_1_7 : zB 1 288 x_1 := zB.leL c_6 bx_1_4 (zBc 288 288 (by decide)) (by decide)
      refine lv_aload_n hx hb dX5_pop_21 rfl (lv_at hl 0 rfl) ?_
      refine lv_dup hx hb dX5_pop_22 rfl ?_
      refine zt_getk (t := 5) (C := RX5) (T := TX5) (N := 19) Z h hth zin_5 rfl 18 kx_1 ⟨by decide, rfl, by decide⟩ (zm_RX5 (List.mem_of_getElem? (i := 13) rfl)) (fun _ h9 => h9) dX5_pop_23 ?_
      refine lv_iconst (v := 1) hx hb dX5_pop_26 (by decide) ?_
      refine lv_isub hx hb dX5_pop_27 ?_
      refine zi_sub (lo := 0) (hi := 287) bx_1_7 (zBc 1 1 (by decide)) (by decide) (fun x_8 bx_8 tx_8 => ?_)
      refine zt_put (t := 5) (C := RX5) (T := TX5) (N := 19) (v := .int x_8) Z h hth zin_5 tyX5 tyX5_ok nmX5 rfl 18 rfl ⟨by decide, rfl⟩ (zm_RX5 (List.mem_of_getElem? (i := 13) rfl)) (fun _ h9 => h9) rfl (zV.i (bx_8.w ⟨by decide, by decide⟩)) rfl rfl dX5_pop_28 (fun H locs F_9 h hfF_9 kF_9 => ?_)
      refine lv_aload_n hx hb dX5_pop_31 rfl (lv_at hl 0 rfl) ?_
      refine zt_getk (t := 5) (C := RX5) (T := TX5) (N := 19) Z h hth zin_5 rfl 17 (hfF_9.f hth 17 ⟨by decide, by decide⟩ ka_5) ⟨by decide, rfl, by decide⟩ (zm_RX5 (List.mem_of_getElem? (i := 118) rfl)) (fun _ h9 => h9) dX5_pop_32 ?_
      refine lv_aload_n hx hb dX5_pop_35 rfl (lv_at hl 0 rfl) ?_
      refine zt_getk (t := 5) (C := RX5) (T := TX5) (N := 19) Z h hth zin_5 rfl 18 kF_9 ⟨by decide, rfl, by decide⟩ (zm_RX5 (List.mem_of_getElem? (i := 13) rfl)) (fun _ h9 => h9) dX5_pop_36 ?_
      refine zt_ialde (t := 112) Z h ha_5 ⟨by decide, rfl⟩ bx_8 ⟨by decide, by decide⟩ dX5_pop_39 (fun x_10 ex_10 bx_10 => ?_)
      subst hQ
      exact W.iret (v := x_10) hx hb hr (fun t ht hW => ⟨⟨x_10, F_9, rfl, trivial, by rw [ht]; exact h.1, h.2.1, hfF_9⟩, h.2.2.F ht⟩) h.2.2.2.2 dX5_pop_40
    · have c_6 := z_nle c_6
      have bx_1_11 : zB 289 2147483647 x_1 := zB.ltR c_6 (zBc 288 288 (by decide)) bx_1_4 (by decide)
      refine lv_iconst (v := 0) hx hb dX5_pop_19 (by decide) ?_
      subst hQ
      exact W.iret (v := 0) hx hb hr (fun t ht hW => ⟨⟨0, F, rfl, trivial, by rw [ht]; exact h.1, h.2.1, zFr.rf⟩, h.2.2.F ht⟩) h.2.2.2.2 dX5_pop_20

set_option maxHeartbeats 4000000 in
set_option maxRecDepth 100000 in
theorem zc_X5_setPlace (l : Launch) (D : va_G) (k : Nat → ClassId) (Γ : Nat → Option Nat) (L : List Nat) (F : Nat → va_E) (sz : Nat) (th : Nat) (q : Int32) (to : Int32) (hth : Γ th = some 5) : Met l yX5_setPlace zwX5_setPlace ({ frames := 0, cells := 0, slots := 0, locals := 0 }) (va_Pc [.ref th, .int q, .int to] (zP D k Γ L F sz)) (va_Qv (fun (u : Nat → va_E) => True) (zQ D k Γ L F [11000]) (zA L sz)) 0 0 (zA L sz) := by
  refine Met.ofW (cc := cX5_setPlace) (maxL := 4) (ret := none) (by decide) rfl ?_
  intro p e s m args below meth c s₁ B hml hv
  obtain ⟨rfl, hsz, hP, hK, hLn, hE, hI⟩ := hv
  have hx := B.exec
  have hb := B.bytes
  have hr := B.returns
  have hg : ∀ w ∈ zG, w.before _ s = true := fun w h9 => atoms_spec (ws := zwX5_setPlace) B.pre w (List.mem_cons_of_mem _ h9)
  have hown : s.vm.findClass RX5 = some m.cls := findClass_of_methodNamed B.named
  have hlocks := B.notSynchronized
  subst hsz
  have Z : zC p m c cX5_setPlace 4 s _ zG RX5 D k L := ⟨⟨hx, hb, hml, hown, hg⟩, hK, hLn, hE⟩
  have h : zH D k Γ L s F s.heap [] := ⟨hP, hI, va_S.rf⟩
  have hl := lv_entry ([.ref th, .int q, .int to]) (n := 4) (Nat.le_of_ble_eq_true rfl)
  rw [lg_entry_eq]
  generalize (lg_sl ([.ref th, .int q, .int to]) ++ List.replicate (4 - (lg_sl ([.ref th, .int q, .int to])).length) Slot.unset).toArray = ls at hl ⊢
  have hl : lv_has ls 4 [(0, .ref th), (1, .int q), (2, .int to)] := hl
  clear hP hK hLn hE hI
  generalize hargs : ([.ref th, .int q, .int to] : List Value).toArray = args at *
  refine z_start (fun R Q hRf hRl hQ => ?_)
  have hRf : R.frames = 0 := hRf
  have hRl : R.locals = 0 := hRl
  refine lv_aload_n hx hb dX5_setPlace_0 rfl (lv_at hl 0 rfl) ?_
  refine zt_geti (t := 5) (C := RX5) (T := TX5) (N := 19) Z h hth zin_5 rfl 15 rfl ⟨by decide, rfl⟩ (zm_RX5 (List.mem_of_getElem? (i := 12) rfl)) (fun _ h9 => h9) dX5_setPlace_1 (fun x_1 kx_1 bx_1 => ?_)
  refine lv_iconst (v := 1) hx hb dX5_setPlace_4 (by decide) ?_
  refine lv_isub hx hb dX5_setPlace_5 ?_
  refine zi_sub (lo := (-1)) (hi := 7) bx_1 (zBc 1 1 (by decide)) (by decide) (fun x_2 bx_2 tx_2 => ?_)
  refine lv_bipush (v := 8) hx hb dX5_setPlace_6 (by decide) ?_
  refine lv_imul hx hb dX5_setPlace_8 ?_
  refine zi_any (fun x_3 bx_3 ex_3 => ?_)
  refine lv_iload_n hx hb dX5_setPlace_9 rfl (lv_at hl 1 rfl) ?_
  refine lv_iadd hx hb dX5_setPlace_10 ?_
  refine zi_any (fun x_4 bx_4 ex_4 => ?_)
  refine lv_istore_n (lv' := [(3, .int x_4), (0, .ref th), (1, .int q), (2, .int to)]) hx hb dX5_setPlace_11 rfl hl (by decide) rfl (fun ls hl => ?_)
  refine lv_iload_n hx hb dX5_setPlace_12 rfl (lv_at hl 0 rfl) ?_
  refine lv_if_lt (tgt := 32) hx hb dX5_setPlace_13 (by decide) (fun c_5 => ?_) (fun c_5 => ?_)
  · have c_5 := z_lt c_5
    have bx_4_6 : zB (-2147483648) (-1) x_4 := zB.ltL c_5 bx_4 (zBc 0 0 (by decide)) (by decide)
    subst hQ
    exact W.vret hx hb hr (fun t ht hW => ⟨⟨F, rfl, trivial, by rw [ht]; exact h.1, h.2.1, zFr.rf⟩, h.2.2.F ht⟩) h.2.2.2.2 dX5_setPlace_32
  · have c_5 := z_nlt c_5
    have bx_4_7 : zB 0 2147483647 x_4 := zB.leR c_5 (zBc 0 0 (by decide)) bx_4 (by decide)
    refine lv_iload_n hx hb dX5_setPlace_16 rfl (lv_at hl 0 rfl) ?_
    refine lv_aload_n hx hb dX5_setPlace_17 rfl (lv_at hl 1 rfl) ?_
    refine zt_getr (t := 5) (C := RX5) (T := TX5) (N := 19) Z h hth zin_5 rfl 9 rfl ⟨by decide, rfl⟩ (zm_RX5 (List.mem_of_getElem? (i := 52) rfl)) (fun _ h9 => h9) dX5_setPlace_18 (fun a_8 ka_8 ha_8 => ?_)
    refine zt_alen (t := 110) Z h ha_8 ⟨by decide, rfl⟩ (by decide) (v := 64) rfl dX5_setPlace_21 ?_
    refine lv_icmp_ge (tgt := 32) hx hb dX5_setPlace_22 (by decide) (fun c_9 => ?_) (fun c_9 => ?_)
    · have c_9 := z_le c_9
      have bx_4_10 : zB 64 2147483647 x_4 := zB.leR c_9 (zBc 64 64 (by decide)) bx_4_7 (by decide)
      subst hQ
      exact W.vret hx hb hr (fun t ht hW => ⟨⟨F, rfl, trivial, by rw [ht]; exact h.1, h.2.1, zFr.rf⟩, h.2.2.F ht⟩) h.2.2.2.2 dX5_setPlace_32
    · have c_9 := z_nle c_9
      have bx_4_11 : zB 0 63 x_4 := zB.ltL c_9 bx_4_7 (zBc 64 64 (by decide)) (by decide)
      refine lv_aload_n hx hb dX5_setPlace_25 rfl (lv_at hl 1 rfl) ?_
      refine zt_getk (t := 5) (C := RX5) (T := TX5) (N := 19) Z h hth zin_5 rfl 9 ka_8 ⟨by decide, rfl, by decide⟩ (zm_RX5 (List.mem_of_getElem? (i := 52) rfl)) (fun _ h9 => h9) dX5_setPlace_26 ?_
      refine lv_iload_n hx hb dX5_setPlace_29 rfl (lv_at hl 0 rfl) ?_
      refine lv_iload_n hx hb dX5_setPlace_30 rfl (lv_at hl 3 rfl) ?_
      refine zt_iast (t := 110) Z h ha_8 ⟨by decide, rfl⟩ bx_4_11 ⟨by decide, by decide⟩ (zB.all to) dX5_setPlace_31 (fun H locs F_12 h hfF_12 => ?_)
      subst hQ
      exact W.vret hx hb hr (fun t ht hW => ⟨⟨F_12, rfl, trivial, by rw [ht]; exact h.1, h.2.1, hfF_12⟩, h.2.2.F ht⟩) h.2.2.2.2 dX5_setPlace_32

set_option maxHeartbeats 4000000 in
set_option maxRecDepth 100000 in
theorem zc_X5_placeNow (l : Launch) (D : va_G) (k : Nat → ClassId) (Γ : Nat → Option Nat) (L : List Nat) (F : Nat → va_E) (sz : Nat) (th : Nat) (q : Int32) (hth : Γ th = some 5) : Met l yX5_placeNow zwX5_placeNow ({ frames := 0, cells := 0, slots := 0, locals := 0 }) (va_Pc [.ref th, .int q] (zP D k Γ L F sz)) (va_Qi (fun (r : Int32) (u : Nat → va_E) => F = u ∧ True) (zQ D k Γ L F []) (zA L sz)) 0 0 (zA L sz) := by
  refine Met.ofW (cc := cX5_placeNow) (maxL := 3) (ret := (some .int)) (by decide) rfl ?_
  intro p e s m args below meth c s₁ B hml hv
  obtain ⟨rfl, hsz, hP, hK, hLn, hE, hI⟩ := hv
  have hx := B.exec
  have hb := B.bytes
  have hr := B.returns
  have hg : ∀ w ∈ zG, w.before _ s = true := fun w h9 => atoms_spec (ws := zwX5_placeNow) B.pre w (List.mem_cons_of_mem _ h9)
  have hown : s.vm.findClass RX5 = some m.cls := findClass_of_methodNamed B.named
  have hlocks := B.notSynchronized
  subst hsz
  have Z : zC p m c cX5_placeNow 3 s _ zG RX5 D k L := ⟨⟨hx, hb, hml, hown, hg⟩, hK, hLn, hE⟩
  have h : zH D k Γ L s F s.heap [] := ⟨hP, hI, va_S.rf⟩
  have hl := lv_entry ([.ref th, .int q]) (n := 3) (Nat.le_of_ble_eq_true rfl)
  rw [lg_entry_eq]
  generalize (lg_sl ([.ref th, .int q]) ++ List.replicate (3 - (lg_sl ([.ref th, .int q])).length) Slot.unset).toArray = ls at hl ⊢
  have hl : lv_has ls 3 [(0, .ref th), (1, .int q)] := hl
  clear hP hK hLn hE hI
  generalize hargs : ([.ref th, .int q] : List Value).toArray = args at *
  refine z_start (fun R Q hRf hRl hQ => ?_)
  have hRf : R.frames = 0 := hRf
  have hRl : R.locals = 0 := hRl
  refine lv_aload_n hx hb dX5_placeNow_0 rfl (lv_at hl 0 rfl) ?_
  refine zt_geti (t := 5) (C := RX5) (T := TX5) (N := 19) Z h hth zin_5 rfl 15 rfl ⟨by decide, rfl⟩ (zm_RX5 (List.mem_of_getElem? (i := 12) rfl)) (fun _ h9 => h9) dX5_placeNow_1 (fun x_1 kx_1 bx_1 => ?_)
  refine lv_iconst (v := 1) hx hb dX5_placeNow_4 (by decide) ?_
  refine lv_isub hx hb dX5_placeNow_5 ?_
  refine zi_sub (lo := (-1)) (hi := 7) bx_1 (zBc 1 1 (by decide)) (by decide) (fun x_2 bx_2 tx_2 => ?_)
  refine lv_bipush (v := 8) hx hb dX5_placeNow_6 (by decide) ?_
  refine lv_imul hx hb dX5_placeNow_8 ?_
  refine zi_any (fun x_3 bx_3 ex_3 => ?_)
  refine lv_iload_n hx hb dX5_placeNow_9 rfl (lv_at hl 1 rfl) ?_
  refine lv_iadd hx hb dX5_placeNow_10 ?_
  refine zi_any (fun x_4 bx_4 ex_4 => ?_)
  refine lv_istore_n (lv' := [(2, .int x_4), (0, .ref th), (1, .int q)]) hx hb dX5_placeNow_11 rfl hl (by decide) rfl (fun ls hl => ?_)
  refine lv_iload_n hx hb dX5_placeNow_12 rfl (lv_at hl 0 rfl) ?_
  refine lv_if_lt (tgt := 34) hx hb dX5_placeNow_13 (by decide) (fun c_5 => ?_) (fun c_5 => ?_)
  · have c_5 := z_lt c_5
    have bx_4_6 : zB (-2147483648) (-1) x_4 := zB.ltL c_5 bx_4 (zBc 0 0 (by decide)) (by decide)
    refine lv_iconst (v := 0) hx hb dX5_placeNow_34 (by decide) ?_
    subst hQ
    exact W.iret (v := 0) hx hb hr (fun t ht hW => ⟨⟨0, F, rfl, ⟨rfl, trivial⟩, by rw [ht]; exact h.1, h.2.1, zFr.rf⟩, h.2.2.F ht⟩) h.2.2.2.2 dX5_placeNow_35
  · have c_5 := z_nlt c_5
    have bx_4_7 : zB 0 2147483647 x_4 := zB.leR c_5 (zBc 0 0 (by decide)) bx_4 (by decide)
    refine lv_iload_n hx hb dX5_placeNow_16 rfl (lv_at hl 0 rfl) ?_
    refine lv_aload_n hx hb dX5_placeNow_17 rfl (lv_at hl 1 rfl) ?_
    refine zt_getr (t := 5) (C := RX5) (T := TX5) (N := 19) Z h hth zin_5 rfl 9 rfl ⟨by decide, rfl⟩ (zm_RX5 (List.mem_of_getElem? (i := 52) rfl)) (fun _ h9 => h9) dX5_placeNow_18 (fun a_8 ka_8 ha_8 => ?_)
    refine zt_alen (t := 110) Z h ha_8 ⟨by decide, rfl⟩ (by decide) (v := 64) rfl dX5_placeNow_21 ?_
    refine lv_icmp_ge (tgt := 34) hx hb dX5_placeNow_22 (by decide) (fun c_9 => ?_) (fun c_9 => ?_)
    · have c_9 := z_le c_9
      have bx_4_10 : zB 64 2147483647 x_4 := zB.leR c_9 (zBc 64 64 (by decide)) bx_4_7 (by decide)
      refine lv_iconst (v := 0) hx hb dX5_placeNow_34 (by decide) ?_
      subst hQ
      exact W.iret (v := 0) hx hb hr (fun t ht hW => ⟨⟨0, F, rfl, ⟨rfl, trivial⟩, by rw [ht]; exact h.1, h.2.1, zFr.rf⟩, h.2.2.F ht⟩) h.2.2.2.2 dX5_placeNow_35
    · have c_9 := z_nle c_9
      have bx_4_11 : zB 0 63 x_4 := zB.ltL c_9 bx_4_7 (zBc 64 64 (by decide)) (by decide)
      refine lv_aload_n hx hb dX5_placeNow_25 rfl (lv_at hl 1 rfl) ?_
      refine zt_getk (t := 5) (C := RX5) (T := TX5) (N := 19) Z h hth zin_5 rfl 9 ka_8 ⟨by decide, rfl, by decide⟩ (zm_RX5 (List.mem_of_getElem? (i := 52) rfl)) (fun _ h9 => h9) dX5_placeNow_26 ?_
      refine lv_iload_n hx hb dX5_placeNow_29 rfl (lv_at hl 0 rfl) ?_
      refine zt_ialde (t := 110) Z h ha_8 ⟨by decide, rfl⟩ bx_4_11 ⟨by decide, by decide⟩ dX5_placeNow_30 (fun x_12 ex_12 bx_12 => ?_)
      refine lv_goto (tgt := 35) hx hb dX5_placeNow_31 (by decide) ?_
      subst hQ
      exact W.iret (v := x_12) hx hb hr (fun t ht hW => ⟨⟨x_12, F, rfl, ⟨rfl, trivial⟩, by rw [ht]; exact h.1, h.2.1, zFr.rf⟩, h.2.2.F ht⟩) h.2.2.2.2 dX5_placeNow_35

set_option maxHeartbeats 4000000 in
set_option maxRecDepth 100000 in
theorem zc_X5_note (l : Launch) (D : va_G) (k : Nat → ClassId) (Γ : Nat → Option Nat) (L : List Nat) (F : Nat → va_E) (sz : Nat) (th : Nat) (li : Int32) (q : Int32) (ah : Int32) (then_ : Int32) (tc : Int32) (hth : Γ th = some 5) (ktc : zfld F th 4 = .int tc) (btc : zB 0 4000000 tc) : Met l yX5_note zwX5_note ({ frames := 0, cells := 0, slots := 0, locals := 0 }) (va_Pc [.ref th, .int li, .int q, .int ah, .int then_] (zP D k Γ L F sz)) (va_Qv (fun (u : Nat → va_E) => (∃ (t9 : Int32), zfld u th 4 = .int t9 ∧ zB 0 4000001 t9 ∧ (t9.toInt ≤ tc.toInt + 1)) ∧ True) (zQ D k Γ L F [504, 10900]) (zA L sz)) 0 0 (zA L sz) := by
  refine Met.ofW (cc := cX5_note) (maxL := 6) (ret := none) (by decide) rfl ?_
  intro p e s m args below meth c s₁ B hml hv
  obtain ⟨rfl, hsz, hP, hK, hLn, hE, hI⟩ := hv
  have hx := B.exec
  have hb := B.bytes
  have hr := B.returns
  have hg : ∀ w ∈ zG, w.before _ s = true := fun w h9 => atoms_spec (ws := zwX5_note) B.pre w (List.mem_cons_of_mem _ h9)
  have hown : s.vm.findClass RX5 = some m.cls := findClass_of_methodNamed B.named
  have hlocks := B.notSynchronized
  subst hsz
  have Z : zC p m c cX5_note 6 s _ zG RX5 D k L := ⟨⟨hx, hb, hml, hown, hg⟩, hK, hLn, hE⟩
  have h : zH D k Γ L s F s.heap [] := ⟨hP, hI, va_S.rf⟩
  have hl := lv_entry ([.ref th, .int li, .int q, .int ah, .int then_]) (n := 6) (Nat.le_of_ble_eq_true rfl)
  rw [lg_entry_eq]
  generalize (lg_sl ([.ref th, .int li, .int q, .int ah, .int then_]) ++ List.replicate (6 - (lg_sl ([.ref th, .int li, .int q, .int ah, .int then_])).length) Slot.unset).toArray = ls at hl ⊢
  have hl : lv_has ls 6 [(0, .ref th), (1, .int li), (2, .int q), (3, .int ah), (4, .int then_)] := hl
  clear hP hK hLn hE hI
  generalize hargs : ([.ref th, .int li, .int q, .int ah, .int then_] : List Value).toArray = args at *
  refine z_start (fun R Q hRf hRl hQ => ?_)
  have hRf : R.frames = 0 := hRf
  have hRl : R.locals = 0 := hRl
  refine lv_aload_n hx hb dX5_note_0 rfl (lv_at hl 0 rfl) ?_
  refine zt_getk (t := 5) (C := RX5) (T := TX5) (N := 19) Z h hth zin_5 rfl 4 ktc ⟨by decide, rfl, by decide⟩ (zm_RX5 (List.mem_of_getElem? (i := 9) rfl)) (fun _ h9 => h9) dX5_note_1 ?_
  refine lv_sipush (v := 400) hx hb dX5_note_4 (by decide) ?_
  refine lv_icmp_ge (tgt := 57) hx hb dX5_note_7 (by decide) (fun c_1 => ?_) (fun c_1 => ?_)
  · have c_1 := z_le c_1
    have btc_2 : zB 400 4000000 tc := zB.leR c_1 (zBc 400 400 (by decide)) btc (by decide)
    refine lv_aload_n hx hb dX5_note_57 rfl (lv_at hl 0 rfl) ?_
    refine lv_dup hx hb dX5_note_58 rfl ?_
    refine zt_getk (t := 5) (C := RX5) (T := TX5) (N := 19) Z h hth zin_5 rfl 4 ktc ⟨by decide, rfl, by decide⟩ (zm_RX5 (List.mem_of_getElem? (i := 9) rfl)) (fun _ h9 => h9) dX5_note_59 ?_
    refine lv_iconst (v := 1) hx hb dX5_note_62 (by decide) ?_
    refine lv_iadd hx hb dX5_note_63 ?_
    refine zi_add (lo := 401) (hi := 4000001) btc_2 (zBc 1 1 (by decide)) (by decide) (fun x_3 bx_3 tx_3 => ?_)
    refine zt_put (t := 5) (C := RX5) (T := TX5) (N := 19) (v := .int x_3) Z h hth zin_5 tyX5 tyX5_ok nmX5 rfl 4 rfl ⟨by decide, rfl⟩ (zm_RX5 (List.mem_of_getElem? (i := 9) rfl)) (fun _ h9 => h9) rfl (zV.i (bx_3.w ⟨by decide, by decide⟩)) rfl rfl dX5_note_64 (fun H locs F_4 h hfF_4 kF_4 => ?_)
    subst hQ
    exact W.vret hx hb hr (fun t ht hW => ⟨⟨F_4, rfl, ⟨⟨x_3, kF_4, (bx_3.w ⟨by decide, by decide⟩), (by have := (zB.all li).1; have := (zB.all li).2; have := (zB.all q).1; have := (zB.all q).2; have := (zB.all ah).1; have := (zB.all ah).2; have := (zB.all then_).1; have := (zB.all then_).2; have := bx_3.1; have := bx_3.2; have : (1 : Int32).toInt = 1 := (by decide); have : (400 : Int32).toInt = 400 := (by decide); omega)⟩, trivial⟩, by rw [ht]; exact h.1, h.2.1, (hfF_4.w (by decide))⟩, h.2.2.F ht⟩) h.2.2.2.2 dX5_note_67
  · have c_1 := z_nle c_1
    have btc_5 : zB 0 399 tc := zB.ltL c_1 btc (zBc 400 400 (by decide)) (by decide)
    refine lv_aload_n hx hb dX5_note_10 rfl (lv_at hl 0 rfl) ?_
    refine zt_getk (t := 5) (C := RX5) (T := TX5) (N := 19) Z h hth zin_5 rfl 4 ktc ⟨by decide, rfl, by decide⟩ (zm_RX5 (List.mem_of_getElem? (i := 9) rfl)) (fun _ h9 => h9) dX5_note_11 ?_
    refine lv_iconst (v := 4) hx hb dX5_note_14 (by decide) ?_
    refine lv_imul hx hb dX5_note_15 ?_
    refine zi_mul btc_5 ((zBc 4 4 (by decide)).w ⟨by decide, by decide⟩ : zB 0 4 _) (by decide) (fun x_6 bx_6 tx_6 => ?_)
    have bx_6 : zB 0 1596 x_6 := bx_6
    refine lv_istore (lv' := [(5, .int x_6), (0, .ref th), (1, .int li), (2, .int q), (3, .int ah), (4, .int then_)]) hx hb dX5_note_16 hl (by decide) rfl (fun ls hl => ?_)
    refine lv_aload_n hx hb dX5_note_18 rfl (lv_at hl 1 rfl) ?_
    refine zt_getr (t := 5) (C := RX5) (T := TX5) (N := 19) Z h hth zin_5 rfl 8 rfl ⟨by decide, rfl⟩ (zm_RX5 (List.mem_of_getElem? (i := 50) rfl)) (fun _ h9 => h9) dX5_note_19 (fun a_7 ka_7 ha_7 => ?_)
    refine lv_iload hx hb dX5_note_22 (lv_at hl 0 rfl) ?_
    refine lv_iload_n hx hb dX5_note_24 rfl (lv_at hl 2 rfl) ?_
    refine zt_iast (t := 109) Z h ha_7 ⟨by decide, rfl⟩ bx_6 ⟨by decide, by decide⟩ (zB.all li) dX5_note_25 (fun H locs F_8 h hfF_8 => ?_)
    refine lv_aload_n hx hb dX5_note_26 rfl (lv_at hl 1 rfl) ?_
    refine zt_getk (t := 5) (C := RX5) (T := TX5) (N := 19) Z h hth zin_5 rfl 8 (hfF_8.f hth 8 ⟨by decide, by decide⟩ ka_7) ⟨by decide, rfl, by decide⟩ (zm_RX5 (List.mem_of_getElem? (i := 50) rfl)) (fun _ h9 => h9) dX5_note_27 ?_
    refine lv_iload hx hb dX5_note_30 (lv_at hl 0 rfl) ?_
    refine lv_iconst (v := 1) hx hb dX5_note_32 (by decide) ?_
    refine lv_iadd hx hb dX5_note_33 ?_
    refine zi_add (lo := 1) (hi := 1597) bx_6 (zBc 1 1 (by decide)) (by decide) (fun x_9 bx_9 tx_9 => ?_)
    refine lv_iload_n hx hb dX5_note_34 rfl (lv_at hl 3 rfl) ?_
    refine zt_iast (t := 109) Z h ha_7 ⟨by decide, rfl⟩ bx_9 ⟨by decide, by decide⟩ (zB.all q) dX5_note_35 (fun H locs F_10 h hfF_10 => ?_)
    refine lv_aload_n hx hb dX5_note_36 rfl (lv_at hl 1 rfl) ?_
    refine zt_getk (t := 5) (C := RX5) (T := TX5) (N := 19) Z h hth zin_5 rfl 8 (hfF_10.f hth 8 ⟨by decide, by decide⟩ (hfF_8.f hth 8 ⟨by decide, by decide⟩ ka_7)) ⟨by decide, rfl, by decide⟩ (zm_RX5 (List.mem_of_getElem? (i := 50) rfl)) (fun _ h9 => h9) dX5_note_37 ?_
    refine lv_iload hx hb dX5_note_40 (lv_at hl 0 rfl) ?_
    refine lv_iconst (v := 2) hx hb dX5_note_42 (by decide) ?_
    refine lv_iadd hx hb dX5_note_43 ?_
    refine zi_add (lo := 2) (hi := 1598) bx_6 (zBc 2 2 (by decide)) (by decide) (fun x_11 bx_11 tx_11 => ?_)
    refine lv_iload_n hx hb dX5_note_44 rfl (lv_at hl 4 rfl) ?_
    refine zt_iast (t := 109) Z h ha_7 ⟨by decide, rfl⟩ bx_11 ⟨by decide, by decide⟩ (zB.all ah) dX5_note_45 (fun H locs F_12 h hfF_12 => ?_)
    refine lv_aload_n hx hb dX5_note_46 rfl (lv_at hl 1 rfl) ?_
    refine zt_getk (t := 5) (C := RX5) (T := TX5) (N := 19) Z h hth zin_5 rfl 8 (hfF_12.f hth 8 ⟨by decide, by decide⟩ (hfF_10.f hth 8 ⟨by decide, by decide⟩ (hfF_8.f hth 8 ⟨by decide, by decide⟩ ka_7))) ⟨by decide, rfl, by decide⟩ (zm_RX5 (List.mem_of_getElem? (i := 50) rfl)) (fun _ h9 => h9) dX5_note_47 ?_
    refine lv_iload hx hb dX5_note_50 (lv_at hl 0 rfl) ?_
    refine lv_iconst (v := 3) hx hb dX5_note_52 (by decide) ?_
    refine lv_iadd hx hb dX5_note_53 ?_
    refine zi_add (lo := 3) (hi := 1599) bx_6 (zBc 3 3 (by decide)) (by decide) (fun x_13 bx_13 tx_13 => ?_)
    refine lv_iload hx hb dX5_note_54 (lv_at hl 5 rfl) ?_
    refine zt_iast (t := 109) Z h ha_7 ⟨by decide, rfl⟩ bx_13 ⟨by decide, by decide⟩ (zB.all then_) dX5_note_56 (fun H locs F_14 h hfF_14 => ?_)
    refine lv_aload_n hx hb dX5_note_57 rfl (lv_at hl 1 rfl) ?_
    refine lv_dup hx hb dX5_note_58 rfl ?_
    refine zt_getk (t := 5) (C := RX5) (T := TX5) (N := 19) Z h hth zin_5 rfl 4 (hfF_14.f hth 4 ⟨by decide, by decide⟩ (hfF_12.f hth 4 ⟨by decide, by decide⟩ (hfF_10.f hth 4 ⟨by decide, by decide⟩ (hfF_8.f hth 4 ⟨by decide, by decide⟩ ktc)))) ⟨by decide, rfl, by decide⟩ (zm_RX5 (List.mem_of_getElem? (i := 9) rfl)) (fun _ h9 => h9) dX5_note_59 ?_
    refine lv_iconst (v := 1) hx hb dX5_note_62 (by decide) ?_
    refine lv_iadd hx hb dX5_note_63 ?_
    refine zi_add (lo := 1) (hi := 400) btc_5 (zBc 1 1 (by decide)) (by decide) (fun x_15 bx_15 tx_15 => ?_)
    refine zt_put (t := 5) (C := RX5) (T := TX5) (N := 19) (v := .int x_15) Z h hth zin_5 tyX5 tyX5_ok nmX5 rfl 4 rfl ⟨by decide, rfl⟩ (zm_RX5 (List.mem_of_getElem? (i := 9) rfl)) (fun _ h9 => h9) rfl (zV.i (bx_15.w ⟨by decide, by decide⟩)) rfl rfl dX5_note_64 (fun H locs F_16 h hfF_16 kF_16 => ?_)
    subst hQ
    exact W.vret hx hb hr (fun t ht hW => ⟨⟨F_16, rfl, ⟨⟨x_15, kF_16, (bx_15.w ⟨by decide, by decide⟩), (by have := bx_6.1; have := bx_6.2; have := (zB.all li).1; have := (zB.all li).2; have := (zB.all q).1; have := (zB.all q).2; have := (zB.all ah).1; have := (zB.all ah).2; have := (zB.all then_).1; have := (zB.all then_).2; have := bx_15.1; have := bx_15.2; have : (1 : Int32).toInt = 1 := (by decide); have : (2 : Int32).toInt = 2 := (by decide); have : (3 : Int32).toInt = 3 := (by decide); have : (4 : Int32).toInt = 4 := (by decide); have : (400 : Int32).toInt = 400 := (by decide); omega)⟩, trivial⟩, by rw [ht]; exact h.1, h.2.1, (((((hfF_8.w (by decide)).trans hfF_10 (by decide)).trans hfF_12 (by decide)).trans hfF_14 (by decide)).trans hfF_16 (by decide))⟩, h.2.2.F ht⟩) h.2.2.2.2 dX5_note_67

set_option maxHeartbeats 4000000 in
set_option maxRecDepth 100000 in
theorem zc_X5_stop (l : Launch) (D : va_G) (k : Nat → ClassId) (Γ : Nat → Option Nat) (L : List Nat) (F : Nat → va_E) (sz : Nat) (th : Nat) (how : Int32) (hth : Γ th = some 5) : Met l yX5_stop zwX5_stop ({ frames := 0, cells := 0, slots := 0, locals := 0 }) (va_Pc [.ref th, .int how] (zP D k Γ L F sz)) (va_Qv (fun (u : Nat → va_E) => (∃ x, zfld u th 13 = .int x ∧ zB 0 0 x) ∧ True) (zQ D k Γ L F [500, 513]) (zA L sz)) 0 0 (zA L sz) := by
  refine Met.ofW (cc := cX5_stop) (maxL := 2) (ret := none) (by decide) rfl ?_
  intro p e s m args below meth c s₁ B hml hv
  obtain ⟨rfl, hsz, hP, hK, hLn, hE, hI⟩ := hv
  have hx := B.exec
  have hb := B.bytes
  have hr := B.returns
  have hg : ∀ w ∈ zG, w.before _ s = true := fun w h9 => atoms_spec (ws := zwX5_stop) B.pre w (List.mem_cons_of_mem _ h9)
  have hown : s.vm.findClass RX5 = some m.cls := findClass_of_methodNamed B.named
  have hlocks := B.notSynchronized
  subst hsz
  have Z : zC p m c cX5_stop 2 s _ zG RX5 D k L := ⟨⟨hx, hb, hml, hown, hg⟩, hK, hLn, hE⟩
  have h : zH D k Γ L s F s.heap [] := ⟨hP, hI, va_S.rf⟩
  have hl := lv_entry ([.ref th, .int how]) (n := 2) (Nat.le_of_ble_eq_true rfl)
  rw [lg_entry_eq]
  generalize (lg_sl ([.ref th, .int how]) ++ List.replicate (2 - (lg_sl ([.ref th, .int how])).length) Slot.unset).toArray = ls at hl ⊢
  have hl : lv_has ls 2 [(0, .ref th), (1, .int how)] := hl
  clear hP hK hLn hE hI
  generalize hargs : ([.ref th, .int how] : List Value).toArray = args at *
  refine z_start (fun R Q hRf hRl hQ => ?_)
  have hRf : R.frames = 0 := hRf
  have hRl : R.locals = 0 := hRl
  refine lv_aload_n hx hb dX5_stop_0 rfl (lv_at hl 0 rfl) ?_
  refine lv_iload_n hx hb dX5_stop_1 rfl (lv_at hl 1 rfl) ?_
  refine zt_put (t := 5) (C := RX5) (T := TX5) (N := 19) (v := .int how) Z h hth zin_5 tyX5 tyX5_ok nmX5 rfl 0 rfl ⟨by decide, rfl⟩ (zm_RX5 (List.mem_of_getElem? (i := 5) rfl)) (fun _ h9 => h9) rfl (zV.i (zB.all how)) rfl rfl dX5_stop_2 (fun H locs F_1 h hfF_1 kF_1 => ?_)
  refine lv_aload_n hx hb dX5_stop_5 rfl (lv_at hl 0 rfl) ?_
  refine lv_iconst (v := 0) hx hb dX5_stop_6 (by decide) ?_
  refine zt_put (t := 5) (C := RX5) (T := TX5) (N := 19) (v := .int 0) Z h hth zin_5 tyX5 tyX5_ok nmX5 rfl 13 rfl ⟨by decide, rfl⟩ (zm_RX5 (List.mem_of_getElem? (i := 14) rfl)) (fun _ h9 => h9) rfl (zV.i (zB.of ⟨by decide, by decide⟩)) rfl rfl dX5_stop_7 (fun H locs F_2 h hfF_2 kF_2 => ?_)
  subst hQ
  exact W.vret hx hb hr (fun t ht hW => ⟨⟨F_2, rfl, ⟨⟨0, kF_2, (zB.of ⟨by decide, by decide⟩)⟩, trivial⟩, by rw [ht]; exact h.1, h.2.1, ((hfF_1.w (by decide)).trans hfF_2 (by decide))⟩, h.2.2.F ht⟩) h.2.2.2.2 dX5_stop_10

set_option maxHeartbeats 4000000 in
set_option maxRecDepth 100000 in
theorem zc_X5_spendStep (l : Launch) (D : va_G) (k : Nat → ClassId) (Γ : Nat → Option Nat) (L : List Nat) (F : Nat → va_E) (sz : Nat) (th : Nat) (hth : Γ th = some 5) : Met l yX5_spendStep zwX5_spendStep ({ frames := 1, cells := 0, slots := 0, locals := 21 }) (va_Pc [.ref th] (zP D k Γ L F sz)) (va_Qi (fun (r : Int32) (u : Nat → va_E) => zB 0 1 r ∧ True) (zQ D k Γ L F [500, 502, 513]) (zA L sz)) 0 0 (zA L sz) := by
  refine Met.ofW (cc := cX5_spendStep) (maxL := 1) (ret := (some .boolean)) (by decide) rfl ?_
  intro p e s m args below meth c s₁ B hml hv
  obtain ⟨rfl, hsz, hP, hK, hLn, hE, hI⟩ := hv
  have hx := B.exec
  have hb := B.bytes
  have hr := B.returns
  have hg : ∀ w ∈ zG, w.before _ s = true := fun w h9 => atoms_spec (ws := zwX5_spendStep) B.pre w (List.mem_cons_of_mem _ h9)
  have hown : s.vm.findClass RX5 = some m.cls := findClass_of_methodNamed B.named
  have hlocks := B.notSynchronized
  subst hsz
  have Z : zC p m c cX5_spendStep 1 s _ zG RX5 D k L := ⟨⟨hx, hb, hml, hown, hg⟩, hK, hLn, hE⟩
  have h : zH D k Γ L s F s.heap [] := ⟨hP, hI, va_S.rf⟩
  have hl := lv_entry ([.ref th]) (n := 1) (Nat.le_of_ble_eq_true rfl)
  rw [lg_entry_eq]
  generalize (lg_sl ([.ref th]) ++ List.replicate (1 - (lg_sl ([.ref th])).length) Slot.unset).toArray = ls at hl ⊢
  have hl : lv_has ls 1 [(0, .ref th)] := hl
  clear hP hK hLn hE hI
  generalize hargs : ([.ref th] : List Value).toArray = args at *
  refine z_start (fun R Q hRf hRl hQ => ?_)
  have hRf : R.frames = 1 := hRf
  have hRl : R.locals = 21 := hRl
  refine lv_aload_n hx hb dX5_spendStep_0 rfl (lv_at hl 0 rfl) ?_
  refine zt_geti (t := 5) (C := RX5) (T := TX5) (N := 19) Z h hth zin_5 rfl 2 rfl ⟨by decide, rfl⟩ (zm_RX5 (List.mem_of_getElem? (i := 7) rfl)) (fun _ h9 => h9) dX5_spendStep_1 (fun x_1 kx_1 bx_1 => ?_)
  refine lv_aload_n hx hb dX5_spendStep_4 rfl (lv_at hl 0 rfl) ?_
  refine zt_geti (t := 5) (C := RX5) (T := TX5) (N := 19) Z h hth zin_5 rfl 12 rfl ⟨by decide, rfl⟩ (zm_RX5 (List.mem_of_getElem? (i := 3) rfl)) (fun _ h9 => h9) dX5_spendStep_5 (fun x_2 kx_2 bx_2 => ?_)
  refine lv_icmp_lt (tgt := 18) hx hb dX5_spendStep_8 (by decide) (fun c_3 => ?_) (fun c_3 => ?_)
  · have c_3 := z_lt c_3
    have bx_1_4 : zB (-2147483648) 2147483646 x_1 := zB.ltL c_3 bx_1 bx_2 (by decide)
    have bx_2_5 : zB (-2147483647) 2147483647 x_2 := zB.ltR c_3 bx_1 bx_2 (by decide)
    refine lv_aload_n hx hb dX5_spendStep_18 rfl (lv_at hl 0 rfl) ?_
    refine lv_dup hx hb dX5_spendStep_19 rfl ?_
    refine zt_getk (t := 5) (C := RX5) (T := TX5) (N := 19) Z h hth zin_5 rfl 2 kx_1 ⟨by decide, rfl, by decide⟩ (zm_RX5 (List.mem_of_getElem? (i := 7) rfl)) (fun _ h9 => h9) dX5_spendStep_20 ?_
    refine lv_iconst (v := 1) hx hb dX5_spendStep_23 (by decide) ?_
    refine lv_iadd hx hb dX5_spendStep_24 ?_
    refine zi_add (lo := (-2147483647)) (hi := 2147483647) bx_1_4 (zBc 1 1 (by decide)) (by decide) (fun x_6 bx_6 tx_6 => ?_)
    refine zt_put (t := 5) (C := RX5) (T := TX5) (N := 19) (v := .int x_6) Z h hth zin_5 tyX5 tyX5_ok nmX5 rfl 2 rfl ⟨by decide, rfl⟩ (zm_RX5 (List.mem_of_getElem? (i := 7) rfl)) (fun _ h9 => h9) rfl (zV.i (bx_6.w ⟨by decide, by decide⟩)) rfl rfl dX5_spendStep_25 (fun H locs F_7 h hfF_7 kF_7 => ?_)
    refine lv_iconst (v := 1) hx hb dX5_spendStep_28 (by decide) ?_
    subst hQ
    exact W.zret (v := 1) hx hb hr (by decide) (fun t ht hW => ⟨⟨1, F_7, rfl, ⟨(zB.of ⟨by decide, by decide⟩), trivial⟩, by rw [ht]; exact h.1, h.2.1, (hfF_7.w (by decide))⟩, h.2.2.F ht⟩) h.2.2.2.2 dX5_spendStep_29
  · have c_3 := z_nlt c_3
    refine lv_aload_n hx hb dX5_spendStep_11 rfl (lv_at hl 0 rfl) ?_
    refine lv_iconst (v := 1) hx hb dX5_spendStep_12 (by decide) ?_
    refine zk_Vv (As := [.int 1]) (rest := []) (bytes := cX5_stop) (maxL := 2) (ret := none) Z h (zc_X5_stop l D k Γ L F s.heap.size th 1 hth) (cwV 1 hg zv_RX5_168 rfl rfl rfl zd_X5_stop ⟨z_leR hRf (by decide), z_leR hRl (by decide)⟩) hth (by decide) rfl rfl hl.1 rfl (Nat.le_of_ble_eq_true rfl) dX5_spendStep_13 ⟨Nat.zero_le _, Nat.zero_le _⟩ (fun F_8 H locs w_9 h hfF_8 => ?_)
    obtain ⟨⟨x_11, kx_11, bx_11⟩, -⟩ := w_9
    refine lv_iconst (v := 0) hx hb dX5_spendStep_16 (by decide) ?_
    subst hQ
    exact W.zret (v := 0) hx hb hr (by decide) (fun t ht hW => ⟨⟨0, F_8, rfl, ⟨(zB.of ⟨by decide, by decide⟩), trivial⟩, by rw [ht]; exact h.1, h.2.1, (hfF_8.w (by decide))⟩, h.2.2.F ht⟩) h.2.2.2.2 dX5_spendStep_17

set_option maxHeartbeats 4000000 in
set_option maxRecDepth 100000 in
theorem zc_X5_begin (l : Launch) (D : va_G) (k : Nat → ClassId) (Γ : Nat → Option Nat) (L : List Nat) (F : Nat → va_E) (sz : Nat) (th : Nat) (li : Int32) (hth : Γ th = some 5) : Met l yX5_begin zwX5_begin ({ frames := 2, cells := 0, slots := 0, locals := 41 }) (va_Pc [.ref th, .int li] (zP D k Γ L F sz)) (va_Qv (fun (u : Nat → va_E) => True) (zQ D k Γ L F [500, 502, 506, 513]) (zA L sz)) 0 0 (zA L sz) := by
  refine Met.ofW (cc := cX5_begin) (maxL := 2) (ret := none) (by decide) rfl ?_
  intro p e s m args below meth c s₁ B hml hv
  obtain ⟨rfl, hsz, hP, hK, hLn, hE, hI⟩ := hv
  have hx := B.exec
  have hb := B.bytes
  have hr := B.returns
  have hg : ∀ w ∈ zG, w.before _ s = true := fun w h9 => atoms_spec (ws := zwX5_begin) B.pre w (List.mem_cons_of_mem _ h9)
  have hown : s.vm.findClass RX5 = some m.cls := findClass_of_methodNamed B.named
  have hlocks := B.notSynchronized
  subst hsz
  have Z : zC p m c cX5_begin 2 s _ zG RX5 D k L := ⟨⟨hx, hb, hml, hown, hg⟩, hK, hLn, hE⟩
  have h : zH D k Γ L s F s.heap [] := ⟨hP, hI, va_S.rf⟩
  have hl := lv_entry ([.ref th, .int li]) (n := 2) (Nat.le_of_ble_eq_true rfl)
  rw [lg_entry_eq]
  generalize (lg_sl ([.ref th, .int li]) ++ List.replicate (2 - (lg_sl ([.ref th, .int li])).length) Slot.unset).toArray = ls at hl ⊢
  have hl : lv_has ls 2 [(0, .ref th), (1, .int li)] := hl
  clear hP hK hLn hE hI
  generalize hargs : ([.ref th, .int li] : List Value).toArray = args at *
  refine z_start (fun R Q hRf hRl hQ => ?_)
  have hRf : R.frames = 2 := hRf
  have hRl : R.locals = 41 := hRl
  refine lv_aload_n hx hb dX5_begin_0 rfl (lv_at hl 0 rfl) ?_
  refine zk_Vi (As := []) (rest := []) (bytes := cX5_spendStep) (maxL := 1) (ret := (some .boolean)) Z h (zc_X5_spendStep l D k Γ L F s.heap.size th hth) (cwV 0 hg zv_RX5_164 rfl rfl rfl zd_X5_spendStep ⟨z_leR hRf (by decide), z_leR hRl (by decide)⟩) hth (by decide) rfl rfl hl.1 rfl (Nat.le_of_ble_eq_true rfl) dX5_begin_1 ⟨Nat.zero_le _, Nat.zero_le _⟩ (fun r_1 F_2 H locs w_3 h hfF_2 => ?_)
  obtain ⟨br_1, -⟩ := w_3
  refine lv_if_eq (tgt := 19) hx hb dX5_begin_4 (by decide) (fun c_4 => ?_) (fun c_4 => ?_)
  · have c_4 := z_eq c_4
    have br_1_5 : zB 0 0 r_1 := zB.eqL (a := 0) (b := 0) c_4 (zBc 0 0 (by decide))
    subst hQ
    exact W.vret hx hb hr (fun t ht hW => ⟨⟨F_2, rfl, trivial, by rw [ht]; exact h.1, h.2.1, (hfF_2.w (by decide))⟩, h.2.2.F ht⟩) h.2.2.2.2 dX5_begin_19
  · have c_4 := z_ne c_4
    have br_1_6 : zB 1 1 r_1 := zB.neLo c_4 br_1 (zBc 0 0 (by decide)) (by decide)
    refine lv_aload_n hx hb dX5_begin_7 rfl (lv_at hl 0 rfl) ?_
    refine lv_dup hx hb dX5_begin_8 rfl ?_
    refine zt_getl (t := 5) (C := RX5) (T := TX5) (N := 19) Z h hth zin_5 rfl 6 rfl ⟨by decide, rfl⟩ (zm_RX5 (List.mem_of_getElem? (i := 11) rfl)) (fun _ h9 => h9) dX5_begin_9 (fun g_7 kg_7 => ?_)
    refine lv_lconst (v := 1) hx hb dX5_begin_12 (by decide) ?_
    refine lv_iload_n hx hb dX5_begin_13 rfl (lv_at hl 1 rfl) ?_
    refine lv_lshl hx hb dX5_begin_14 rfl ?_
    refine lv_topl (fun g_8 _ => ?_)
    refine lv_lor hx hb dX5_begin_15 ?_
    refine lv_topl (fun g_9 _ => ?_)
    refine zt_put (t := 5) (C := RX5) (T := TX5) (N := 19) (v := .long g_9) Z h hth zin_5 tyX5 tyX5_ok nmX5 rfl 6 rfl ⟨by decide, rfl⟩ (zm_RX5 (List.mem_of_getElem? (i := 11) rfl)) (fun _ h9 => h9) rfl zV.l rfl rfl dX5_begin_16 (fun H locs F_10 h hfF_10 kF_10 => ?_)
    subst hQ
    exact W.vret hx hb hr (fun t ht hW => ⟨⟨F_10, rfl, trivial, by rw [ht]; exact h.1, h.2.1, ((hfF_2.w (by decide)).trans hfF_10 (by decide))⟩, h.2.2.F ht⟩) h.2.2.2.2 dX5_begin_19

set_option maxHeartbeats 4000000 in
set_option maxRecDepth 100000 in
theorem zc_X5_again (l : Launch) (D : va_G) (k : Nat → ClassId) (Γ : Nat → Option Nat) (L : List Nat) (F : Nat → va_E) (sz : Nat) (th : Nat) (te : Int32) (hth : Γ th = some 5) : Met l yX5_again zwX5_again ({ frames := 2, cells := 0, slots := 0, locals := 41 }) (va_Pc [.ref th, .int te] (zP D k Γ L F sz)) (va_Qv (fun (u : Nat → va_E) => True) (zQ D k Γ L F [500, 502, 513, 514]) (zA L sz)) 0 0 (zA L sz) := by
  refine Met.ofW (cc := cX5_again) (maxL := 2) (ret := none) (by decide) rfl ?_
  intro p e s m args below meth c s₁ B hml hv
  obtain ⟨rfl, hsz, hP, hK, hLn, hE, hI⟩ := hv
  have hx := B.exec
  have hb := B.bytes
  have hr := B.returns
  have hg : ∀ w ∈ zG, w.before _ s = true := fun w h9 => atoms_spec (ws := zwX5_again) B.pre w (List.mem_cons_of_mem _ h9)
  have hown : s.vm.findClass RX5 = some m.cls := findClass_of_methodNamed B.named
  have hlocks := B.notSynchronized
  subst hsz
  have Z : zC p m c cX5_again 2 s _ zG RX5 D k L := ⟨⟨hx, hb, hml, hown, hg⟩, hK, hLn, hE⟩
  have h : zH D k Γ L s F s.heap [] := ⟨hP, hI, va_S.rf⟩
  have hl := lv_entry ([.ref th, .int te]) (n := 2) (Nat.le_of_ble_eq_true rfl)
  rw [lg_entry_eq]
  generalize (lg_sl ([.ref th, .int te]) ++ List.replicate (2 - (lg_sl ([.ref th, .int te])).length) Slot.unset).toArray = ls at hl ⊢
  have hl : lv_has ls 2 [(0, .ref th), (1, .int te)] := hl
  clear hP hK hLn hE hI
  generalize hargs : ([.ref th, .int te] : List Value).toArray = args at *
  refine z_start (fun R Q hRf hRl hQ => ?_)
  have hRf : R.frames = 2 := hRf
  have hRl : R.locals = 41 := hRl
  refine lv_aload_n hx hb dX5_again_0 rfl (lv_at hl 0 rfl) ?_
  refine zt_geti (t := 5) (C := RX5) (T := TX5) (N := 19) Z h hth zin_5 rfl 11 rfl ⟨by decide, rfl⟩ (zm_RX5 (List.mem_of_getElem? (i := 4) rfl)) (fun _ h9 => h9) dX5_again_1 (fun x_1 kx_1 bx_1 => ?_)
  refine lv_iconst (v := 2) hx hb dX5_again_4 (by decide) ?_
  refine lv_icmp_eq (tgt := 20) hx hb dX5_again_5 (by decide) (fun c_2 => ?_) (fun c_2 => ?_)
  · have c_2 := z_eq c_2
    have bx_1_3 : zB 2 2 x_1 := zB.eqL (a := 0) (b := 0) c_2 (zBc 2 2 (by decide))
    subst hQ
    exact W.vret hx hb hr (fun t ht hW => ⟨⟨F, rfl, trivial, by rw [ht]; exact h.1, h.2.1, zFr.rf⟩, h.2.2.F ht⟩) h.2.2.2.2 dX5_again_20
  · have c_2 := z_ne c_2
    refine lv_aload_n hx hb dX5_again_8 rfl (lv_at hl 0 rfl) ?_
    refine zk_Vi (As := []) (rest := []) (bytes := cX5_spendStep) (maxL := 1) (ret := (some .boolean)) Z h (zc_X5_spendStep l D k Γ L F s.heap.size th hth) (cwV 0 hg zv_RX5_164 rfl rfl rfl zd_X5_spendStep ⟨z_leR hRf (by decide), z_leR hRl (by decide)⟩) hth (by decide) rfl rfl hl.1 rfl (Nat.le_of_ble_eq_true rfl) dX5_again_9 ⟨Nat.zero_le _, Nat.zero_le _⟩ (fun r_4 F_5 H locs w_6 h hfF_5 => ?_)
    obtain ⟨br_4, -⟩ := w_6
    refine lv_if_eq (tgt := 20) hx hb dX5_again_12 (by decide) (fun c_7 => ?_) (fun c_7 => ?_)
    · have c_7 := z_eq c_7
      have br_4_8 : zB 0 0 r_4 := zB.eqL (a := 0) (b := 0) c_7 (zBc 0 0 (by decide))
      subst hQ
      exact W.vret hx hb hr (fun t ht hW => ⟨⟨F_5, rfl, trivial, by rw [ht]; exact h.1, h.2.1, (hfF_5.w (by decide))⟩, h.2.2.F ht⟩) h.2.2.2.2 dX5_again_20
    · have c_7 := z_ne c_7
      have br_4_9 : zB 1 1 r_4 := zB.neLo c_7 br_4 (zBc 0 0 (by decide)) (by decide)
      refine lv_aload_n hx hb dX5_again_15 rfl (lv_at hl 0 rfl) ?_
      refine lv_iload_n hx hb dX5_again_16 rfl (lv_at hl 1 rfl) ?_
      refine zt_put (t := 5) (C := RX5) (T := TX5) (N := 19) (v := .int te) Z h hth zin_5 tyX5 tyX5_ok nmX5 rfl 14 rfl ⟨by decide, rfl⟩ (zm_RX5 (List.mem_of_getElem? (i := 31) rfl)) (fun _ h9 => h9) rfl (zV.i (zB.all te)) rfl rfl dX5_again_17 (fun H locs F_10 h hfF_10 kF_10 => ?_)
      subst hQ
      exact W.vret hx hb hr (fun t ht hW => ⟨⟨F_10, rfl, trivial, by rw [ht]; exact h.1, h.2.1, ((hfF_5.w (by decide)).trans hfF_10 (by decide))⟩, h.2.2.F ht⟩) h.2.2.2.2 dX5_again_20

set_option maxHeartbeats 4000000 in
set_option maxRecDepth 100000 in
theorem zc_X5_branch (l : Launch) (D : va_G) (k : Nat → ClassId) (Γ : Nat → Option Nat) (L : List Nat) (F : Nat → va_E) (sz : Nat) (th : Nat) (ot : Int32) (li : Int32) (tc : Int32) (hth : Γ th = some 5) (ktc : zfld F th 4 = .int tc) (btc : zB 0 4000000 tc) : Met l yX5_branch zwX5_branch ({ frames := 1, cells := 0, slots := 0, locals := 25 }) (va_Pc [.ref th, .int ot, .int li] (zP D k Γ L F sz)) (va_Qv (fun (u : Nat → va_E) => (∃ (t9 : Int32), zfld u th 4 = .int t9 ∧ zB 0 4000001 t9 ∧ (t9.toInt ≤ tc.toInt + 1)) ∧ True) (zQ D k Γ L F [504, 514, 518, 10900]) (zA L sz)) 0 0 (zA L sz) := by
  refine Met.ofW (cc := cX5_branch) (maxL := 4) (ret := none) (by decide) rfl ?_
  intro p e s m args below meth c s₁ B hml hv
  obtain ⟨rfl, hsz, hP, hK, hLn, hE, hI⟩ := hv
  have hx := B.exec
  have hb := B.bytes
  have hr := B.returns
  have hg : ∀ w ∈ zG, w.before _ s = true := fun w h9 => atoms_spec (ws := zwX5_branch) B.pre w (List.mem_cons_of_mem _ h9)
  have hown : s.vm.findClass RX5 = some m.cls := findClass_of_methodNamed B.named
  have hlocks := B.notSynchronized
  subst hsz
  have Z : zC p m c cX5_branch 4 s _ zG RX5 D k L := ⟨⟨hx, hb, hml, hown, hg⟩, hK, hLn, hE⟩
  have h : zH D k Γ L s F s.heap [] := ⟨hP, hI, va_S.rf⟩
  have hl := lv_entry ([.ref th, .int ot, .int li]) (n := 4) (Nat.le_of_ble_eq_true rfl)
  rw [lg_entry_eq]
  generalize (lg_sl ([.ref th, .int ot, .int li]) ++ List.replicate (4 - (lg_sl ([.ref th, .int ot, .int li])).length) Slot.unset).toArray = ls at hl ⊢
  have hl : lv_has ls 4 [(0, .ref th), (1, .int ot), (2, .int li)] := hl
  clear hP hK hLn hE hI
  generalize hargs : ([.ref th, .int ot, .int li] : List Value).toArray = args at *
  refine z_start (fun R Q hRf hRl hQ => ?_)
  have hRf : R.frames = 1 := hRf
  have hRl : R.locals = 25 := hRl
  refine lv_aload_n hx hb dX5_branch_0 rfl (lv_at hl 0 rfl) ?_
  refine zk_Vi (As := []) (rest := []) (bytes := cX5_pop) (maxL := 1) (ret := (some .int)) Z h (zc_X5_pop l D k Γ L F s.heap.size th hth) (cwV 0 hg zv_RX5_160 rfl rfl rfl zd_X5_pop ⟨z_leR hRf (by decide), z_leR hRl (by decide)⟩) hth (by decide) rfl rfl hl.1 rfl (Nat.le_of_ble_eq_true rfl) dX5_branch_1 ⟨Nat.zero_le _, Nat.zero_le _⟩ (fun r_1 F_2 H locs w_3 h hfF_2 => ?_)
  have br_1 := zB.all r_1
  refine lv_istore_n (lv' := [(3, .int r_1), (0, .ref th), (1, .int ot), (2, .int li)]) hx hb dX5_branch_4 rfl hl (by decide) rfl (fun ls hl => ?_)
  refine lv_aload_n hx hb dX5_branch_5 rfl (lv_at hl 1 rfl) ?_
  refine lv_iload_n hx hb dX5_branch_6 rfl (lv_at hl 3 rfl) ?_
  refine lv_iconst (v := (-1)) hx hb dX5_branch_7 (by decide) ?_
  refine lv_iconst (v := 0) hx hb dX5_branch_8 (by decide) ?_
  refine lv_iload_n hx hb dX5_branch_9 rfl (lv_at hl 0 rfl) ?_
  refine zk_Vv (As := [.int li, .int (-1), .int 0, .int r_1]) (rest := []) (bytes := cX5_note) (maxL := 6) (ret := none) Z h (zc_X5_note l D k Γ L F_2 H.size th li (-1) 0 r_1 tc hth (hfF_2.f hth 4 ⟨by decide, by decide⟩ ktc) btc) (cwV 4 hg zv_RX5_183 rfl rfl rfl zd_X5_note ⟨z_leR hRf (by decide), z_leR hRl (by decide)⟩) hth (by decide) rfl rfl hl.1 rfl (Nat.le_of_ble_eq_true rfl) dX5_branch_10 ⟨Nat.zero_le _, Nat.zero_le _⟩ (fun F_4 H locs w_5 h hfF_4 => ?_)
  obtain ⟨⟨x_7, kx_7, bx_7, q_6⟩, -⟩ := w_5
  refine lv_iload_n hx hb dX5_branch_13 rfl (lv_at hl 0 rfl) ?_
  refine lv_if_ne (tgt := 22) hx hb dX5_branch_14 (by decide) (fun c_8 => ?_) (fun c_8 => ?_)
  · have c_8 := z_ne c_8
    subst hQ
    exact W.vret hx hb hr (fun t ht hW => ⟨⟨F_4, rfl, ⟨⟨x_7, kx_7, bx_7, (by have := br_1.1; have := br_1.2; have := (zB.all ot).1; have := (zB.all ot).2; have := (zB.all li).1; have := (zB.all li).2; have := bx_7.1; have := bx_7.2; have : (0 : Int32).toInt = 0 := (by decide); omega)⟩, trivial⟩, by rw [ht]; exact h.1, h.2.1, ((hfF_2.w (by decide)).trans hfF_4 (by decide))⟩, h.2.2.F ht⟩) h.2.2.2.2 dX5_branch_22
  · have c_8 := z_eq c_8
    have br_1_9 : zB 0 0 r_1 := zB.eqL (a := 0) (b := 0) c_8 (zBc 0 0 (by decide))
    refine lv_aload_n hx hb dX5_branch_17 rfl (lv_at hl 1 rfl) ?_
    refine lv_iload_n hx hb dX5_branch_18 rfl (lv_at hl 2 rfl) ?_
    refine zt_put (t := 5) (C := RX5) (T := TX5) (N := 19) (v := .int ot) Z h hth zin_5 tyX5 tyX5_ok nmX5 rfl 14 rfl ⟨by decide, rfl⟩ (zm_RX5 (List.mem_of_getElem? (i := 31) rfl)) (fun _ h9 => h9) rfl (zV.i (zB.all ot)) rfl rfl dX5_branch_19 (fun H locs F_10 h hfF_10 kF_10 => ?_)
    subst hQ
    exact W.vret hx hb hr (fun t ht hW => ⟨⟨F_10, rfl, ⟨⟨x_7, (hfF_10.f hth 4 ⟨by decide, by decide⟩ kx_7), bx_7, (by have := br_1_9.1; have := br_1_9.2; have := (zB.all ot).1; have := (zB.all ot).2; have := (zB.all li).1; have := (zB.all li).2; have := bx_7.1; have := bx_7.2; have : (0 : Int32).toInt = 0 := (by decide); omega)⟩, trivial⟩, by rw [ht]; exact h.1, h.2.1, (((hfF_2.w (by decide)).trans hfF_4 (by decide)).trans hfF_10 (by decide))⟩, h.2.2.F ht⟩) h.2.2.2.2 dX5_branch_22

set_option maxHeartbeats 4000000 in
set_option maxRecDepth 100000 in
theorem zc_X5_leave (l : Launch) (D : va_G) (k : Nat → ClassId) (Γ : Nat → Option Nat) (L : List Nat) (F : Nat → va_E) (sz : Nat) (th : Nat) (wi : Int32) (dp : Int32) (hth : Γ th = some 5) (kdp : zfld F th 15 = .int dp) (bdp : zB 1 8 dp) : Met l yX5_leave zwX5_leave ({ frames := 1, cells := 0, slots := 0, locals := 21 }) (va_Pc [.ref th, .int wi] (zP D k Γ L F sz)) (va_Qv (fun (u : Nat → va_E) => (∃ (g9 : Int32) (d9 : Int32), zfld u th 13 = .int g9 ∧ zB 0 1 g9 ∧ zfld u th 15 = .int d9 ∧ zB 0 8 d9 ∧ (g9.toInt ≠ 0 → 1 ≤ d9.toInt)) ∧ True) (zQ D k Γ L F [500, 501, 513, 514, 515, 518, 11200]) (zA L sz)) 0 0 (zA L sz) := by
  refine Met.ofW (cc := cX5_leave) (maxL := 2) (ret := none) (by decide) rfl ?_
  intro p e s m args below meth c s₁ B hml hv
  obtain ⟨rfl, hsz, hP, hK, hLn, hE, hI⟩ := hv
  have hx := B.exec
  have hb := B.bytes
  have hr := B.returns
  have hg : ∀ w ∈ zG, w.before _ s = true := fun w h9 => atoms_spec (ws := zwX5_leave) B.pre w (List.mem_cons_of_mem _ h9)
  have hown : s.vm.findClass RX5 = some m.cls := findClass_of_methodNamed B.named
  have hlocks := B.notSynchronized
  subst hsz
  have Z : zC p m c cX5_leave 2 s _ zG RX5 D k L := ⟨⟨hx, hb, hml, hown, hg⟩, hK, hLn, hE⟩
  have h : zH D k Γ L s F s.heap [] := ⟨hP, hI, va_S.rf⟩
  have hl := lv_entry ([.ref th, .int wi]) (n := 2) (Nat.le_of_ble_eq_true rfl)
  rw [lg_entry_eq]
  generalize (lg_sl ([.ref th, .int wi]) ++ List.replicate (2 - (lg_sl ([.ref th, .int wi])).length) Slot.unset).toArray = ls at hl ⊢
  have hl : lv_has ls 2 [(0, .ref th), (1, .int wi)] := hl
  clear hP hK hLn hE hI
  generalize hargs : ([.ref th, .int wi] : List Value).toArray = args at *
  refine z_start (fun R Q hRf hRl hQ => ?_)
  have hRf : R.frames = 1 := hRf
  have hRl : R.locals = 21 := hRl
  refine lv_aload_n hx hb dX5_leave_0 rfl (lv_at hl 0 rfl) ?_
  refine lv_dup hx hb dX5_leave_1 rfl ?_
  refine zt_getk (t := 5) (C := RX5) (T := TX5) (N := 19) Z h hth zin_5 rfl 15 kdp ⟨by decide, rfl, by decide⟩ (zm_RX5 (List.mem_of_getElem? (i := 12) rfl)) (fun _ h9 => h9) dX5_leave_2 ?_
  refine lv_iconst (v := 1) hx hb dX5_leave_5 (by decide) ?_
  refine lv_isub hx hb dX5_leave_6 ?_
  refine zi_sub (lo := 0) (hi := 7) bdp (zBc 1 1 (by decide)) (by decide) (fun x_1 bx_1 tx_1 => ?_)
  refine zt_put (t := 5) (C := RX5) (T := TX5) (N := 19) (v := .int x_1) Z h hth zin_5 tyX5 tyX5_ok nmX5 rfl 15 rfl ⟨by decide, rfl⟩ (zm_RX5 (List.mem_of_getElem? (i := 12) rfl)) (fun _ h9 => h9) rfl (zV.i (bx_1.w ⟨by decide, by decide⟩)) rfl rfl dX5_leave_7 (fun H locs F_2 h hfF_2 kF_2 => ?_)
  refine lv_aload_n hx hb dX5_leave_10 rfl (lv_at hl 0 rfl) ?_
  refine zt_getk (t := 5) (C := RX5) (T := TX5) (N := 19) Z h hth zin_5 rfl 15 kF_2 ⟨by decide, rfl, by decide⟩ (zm_RX5 (List.mem_of_getElem? (i := 12) rfl)) (fun _ h9 => h9) dX5_leave_11 ?_
  refine lv_if_le (tgt := 29) hx hb dX5_leave_14 (by decide) (fun c_3 => ?_) (fun c_3 => ?_)
  · have c_3 := z_le c_3
    have bx_1_4 : zB 0 0 x_1 := zB.leL c_3 bx_1 (zBc 0 0 (by decide)) (by decide)
    refine lv_aload_n hx hb dX5_leave_29 rfl (lv_at hl 0 rfl) ?_
    refine lv_iload_n hx hb dX5_leave_30 rfl (lv_at hl 1 rfl) ?_
    refine zt_put (t := 5) (C := RX5) (T := TX5) (N := 19) (v := .int wi) Z h hth zin_5 tyX5 tyX5_ok nmX5 rfl 1 rfl ⟨by decide, rfl⟩ (zm_RX5 (List.mem_of_getElem? (i := 6) rfl)) (fun _ h9 => h9) rfl (zV.i (zB.all wi)) rfl rfl dX5_leave_31 (fun H locs F_5 h hfF_5 kF_5 => ?_)
    refine lv_aload_n hx hb dX5_leave_34 rfl (lv_at hl 0 rfl) ?_
    refine lv_iconst (v := 0) hx hb dX5_leave_35 (by decide) ?_
    refine zk_Vv (As := [.int 0]) (rest := []) (bytes := cX5_stop) (maxL := 2) (ret := none) Z h (zc_X5_stop l D k Γ L F_5 H.size th 0 hth) (cwV 1 hg zv_RX5_168 rfl rfl rfl zd_X5_stop ⟨z_leR hRf (by decide), z_leR hRl (by decide)⟩) hth (by decide) rfl rfl hl.1 rfl (Nat.le_of_ble_eq_true rfl) dX5_leave_36 ⟨Nat.zero_le _, Nat.zero_le _⟩ (fun F_6 H locs w_7 h hfF_6 => ?_)
    obtain ⟨⟨x_9, kx_9, bx_9⟩, -⟩ := w_7
    subst hQ
    exact W.vret hx hb hr (fun t ht hW => ⟨⟨F_6, rfl, ⟨⟨x_9, x_1, kx_9, (bx_9.w ⟨by decide, by decide⟩), (hfF_6.f hth 15 ⟨by decide, by decide⟩ (hfF_5.f hth 15 ⟨by decide, by decide⟩ kF_2)), (bx_1_4.w ⟨by decide, by decide⟩), (by have := (zB.all wi).1; have := (zB.all wi).2; have := bx_9.1; have := bx_9.2; have := bx_1_4.1; have := bx_1_4.2; have : (0 : Int32).toInt = 0 := (by decide); have : (1 : Int32).toInt = 1 := (by decide); omega)⟩, trivial⟩, by rw [ht]; exact h.1, h.2.1, (((hfF_2.w (by decide)).trans hfF_5 (by decide)).trans hfF_6 (by decide))⟩, h.2.2.F ht⟩) h.2.2.2.2 dX5_leave_39
  · have c_3 := z_nle c_3
    have bx_1_10 : zB 1 7 x_1 := zB.ltR c_3 (zBc 0 0 (by decide)) bx_1 (by decide)
    refine lv_aload_n hx hb dX5_leave_17 rfl (lv_at hl 0 rfl) ?_
    refine zt_getk (t := 5) (C := RX5) (T := TX5) (N := 19) Z h hth zin_5 rfl 15 kF_2 ⟨by decide, rfl, by decide⟩ (zm_RX5 (List.mem_of_getElem? (i := 12) rfl)) (fun _ h9 => h9) dX5_leave_18 ?_
    refine lv_aload_n hx hb dX5_leave_21 rfl (lv_at hl 0 rfl) ?_
    refine zt_getr (t := 5) (C := RX5) (T := TX5) (N := 19) Z h hth zin_5 rfl 16 rfl ⟨by decide, rfl⟩ (zm_RX5 (List.mem_of_getElem? (i := 96) rfl)) (fun _ h9 => h9) dX5_leave_22 (fun a_11 ka_11 ha_11 => ?_)
    refine zt_alen (t := 111) Z h ha_11 ⟨by decide, rfl⟩ (by decide) (v := 8) rfl dX5_leave_25 ?_
    refine lv_icmp_lt (tgt := 40) hx hb dX5_leave_26 (by decide) (fun c_12 => ?_) (fun c_12 => ?_)
    · have c_12 := z_lt c_12
      refine lv_aload_n hx hb dX5_leave_40 rfl (lv_at hl 0 rfl) ?_
      refine lv_aload_n hx hb dX5_leave_41 rfl (lv_at hl 0 rfl) ?_
      refine zt_getk (t := 5) (C := RX5) (T := TX5) (N := 19) Z h hth zin_5 rfl 16 ka_11 ⟨by decide, rfl, by decide⟩ (zm_RX5 (List.mem_of_getElem? (i := 96) rfl)) (fun _ h9 => h9) dX5_leave_42 ?_
      refine lv_aload_n hx hb dX5_leave_45 rfl (lv_at hl 0 rfl) ?_
      refine zt_getk (t := 5) (C := RX5) (T := TX5) (N := 19) Z h hth zin_5 rfl 15 kF_2 ⟨by decide, rfl, by decide⟩ (zm_RX5 (List.mem_of_getElem? (i := 12) rfl)) (fun _ h9 => h9) dX5_leave_46 ?_
      refine zt_ialde (t := 111) Z h ha_11 ⟨by decide, rfl⟩ bx_1_10 ⟨by decide, by decide⟩ dX5_leave_49 (fun x_13 ex_13 bx_13 => ?_)
      refine zt_put (t := 5) (C := RX5) (T := TX5) (N := 19) (v := .int x_13) Z h hth zin_5 tyX5 tyX5_ok nmX5 rfl 14 rfl ⟨by decide, rfl⟩ (zm_RX5 (List.mem_of_getElem? (i := 31) rfl)) (fun _ h9 => h9) rfl (zV.i bx_13) rfl rfl dX5_leave_50 (fun H locs F_14 h hfF_14 kF_14 => ?_)
      refine lv_aload_n hx hb dX5_leave_53 rfl (lv_at hl 0 rfl) ?_
      refine lv_iload_n hx hb dX5_leave_54 rfl (lv_at hl 1 rfl) ?_
      refine zk_Vv (As := [.int wi]) (rest := []) (bytes := cX5_push) (maxL := 2) (ret := none) Z h (zc_X5_push l D k Γ L F_14 H.size th wi hth) (cwV 1 hg zv_RX5_76 rfl rfl rfl zd_X5_push ⟨z_leR hRf (by decide), z_leR hRl (by decide)⟩) hth (by decide) rfl rfl hl.1 rfl (Nat.le_of_ble_eq_true rfl) dX5_leave_55 ⟨Nat.zero_le _, Nat.zero_le _⟩ (fun F_15 H locs w_16 h hfF_15 => ?_)
      obtain ⟨x_17, kx_17, bx_17⟩ := z_learn (j := 13) (lo := 0) (hi := 1) h hth (by decide) rfl
      subst hQ
      exact W.vret hx hb hr (fun t ht hW => ⟨⟨F_15, rfl, ⟨⟨x_17, x_1, kx_17, bx_17, (hfF_15.f hth 15 ⟨by decide, by decide⟩ (hfF_14.f hth 15 ⟨by decide, by decide⟩ kF_2)), (bx_1_10.w ⟨by decide, by decide⟩), (by have := (zB.all wi).1; have := (zB.all wi).2; have := bx_17.1; have := bx_17.2; have := bx_1_10.1; have := bx_1_10.2; have := bx_13.1; have := bx_13.2; have : (0 : Int32).toInt = 0 := (by decide); have : (1 : Int32).toInt = 1 := (by decide); have : (8 : Int32).toInt = 8 := (by decide); omega)⟩, trivial⟩, by rw [ht]; exact h.1, h.2.1, (((hfF_2.w (by decide)).trans hfF_14 (by decide)).trans hfF_15 (by decide))⟩, h.2.2.F ht⟩) h.2.2.2.2 dX5_leave_58
    · have c_12 := z_nlt c_12
      exact zB.noLe c_12 (zBc 8 8 (by decide)) bx_1_10 (by decide)

set_option maxHeartbeats 4000000 in
set_option maxRecDepth 100000 in
theorem zc_X5_giveBack (l : Launch) (D : va_G) (k : Nat → ClassId) (Γ : Nat → Option Nat) (L : List Nat) (F : Nat → va_E) (sz : Nat) (th : Nat) (li : Int32) (tc : Int32) (dp : Int32) (hth : Γ th = some 5) (ktc : zfld F th 4 = .int tc) (btc : zB 0 4000000 tc) (kdp : zfld F th 15 = .int dp) (bdp : zB 1 8 dp) : Met l yX5_giveBack zwX5_giveBack ({ frames := 2, cells := 0, slots := 0, locals := 42 }) (va_Pc [.ref th, .int li] (zP D k Γ L F sz)) (va_Qv (fun (u : Nat → va_E) => (∃ (t9 : Int32), zfld u th 4 = .int t9 ∧ zB 0 4000001 t9 ∧ (t9.toInt ≤ tc.toInt + 1)) ∧ (∃ (g9 : Int32) (d9 : Int32), zfld u th 13 = .int g9 ∧ zB 0 1 g9 ∧ zfld u th 15 = .int d9 ∧ zB 0 8 d9 ∧ (g9.toInt ≠ 0 → 1 ≤ d9.toInt)) ∧ True) (zQ D k Γ L F [500, 501, 504, 513, 514, 515, 518, 10900, 11200]) (zA L sz)) 0 0 (zA L sz) := by
  refine Met.ofW (cc := cX5_giveBack) (maxL := 3) (ret := none) (by decide) rfl ?_
  intro p e s m args below meth c s₁ B hml hv
  obtain ⟨rfl, hsz, hP, hK, hLn, hE, hI⟩ := hv
  have hx := B.exec
  have hb := B.bytes
  have hr := B.returns
  have hg : ∀ w ∈ zG, w.before _ s = true := fun w h9 => atoms_spec (ws := zwX5_giveBack) B.pre w (List.mem_cons_of_mem _ h9)
  have hown : s.vm.findClass RX5 = some m.cls := findClass_of_methodNamed B.named
  have hlocks := B.notSynchronized
  subst hsz
  have Z : zC p m c cX5_giveBack 3 s _ zG RX5 D k L := ⟨⟨hx, hb, hml, hown, hg⟩, hK, hLn, hE⟩
  have h : zH D k Γ L s F s.heap [] := ⟨hP, hI, va_S.rf⟩
  have hl := lv_entry ([.ref th, .int li]) (n := 3) (Nat.le_of_ble_eq_true rfl)
  rw [lg_entry_eq]
  generalize (lg_sl ([.ref th, .int li]) ++ List.replicate (3 - (lg_sl ([.ref th, .int li])).length) Slot.unset).toArray = ls at hl ⊢
  have hl : lv_has ls 3 [(0, .ref th), (1, .int li)] := hl
  clear hP hK hLn hE hI
  generalize hargs : ([.ref th, .int li] : List Value).toArray = args at *
  refine z_start (fun R Q hRf hRl hQ => ?_)
  have hRf : R.frames = 2 := hRf
  have hRl : R.locals = 42 := hRl
  refine lv_aload_n hx hb dX5_giveBack_0 rfl (lv_at hl 0 rfl) ?_
  refine zk_Vi (As := []) (rest := []) (bytes := cX5_pop) (maxL := 1) (ret := (some .int)) Z h (zc_X5_pop l D k Γ L F s.heap.size th hth) (cwV 0 hg zv_RX5_160 rfl rfl rfl zd_X5_pop ⟨z_leR hRf (by decide), z_leR hRl (by decide)⟩) hth (by decide) rfl rfl hl.1 rfl (Nat.le_of_ble_eq_true rfl) dX5_giveBack_1 ⟨Nat.zero_le _, Nat.zero_le _⟩ (fun r_1 F_2 H locs w_3 h hfF_2 => ?_)
  have br_1 := zB.all r_1
  refine lv_istore_n (lv' := [(2, .int r_1), (0, .ref th), (1, .int li)]) hx hb dX5_giveBack_4 rfl hl (by decide) rfl (fun ls hl => ?_)
  refine lv_aload_n hx hb dX5_giveBack_5 rfl (lv_at hl 1 rfl) ?_
  refine lv_iload_n hx hb dX5_giveBack_6 rfl (lv_at hl 2 rfl) ?_
  refine lv_iconst (v := (-1)) hx hb dX5_giveBack_7 (by decide) ?_
  refine lv_iconst (v := 0) hx hb dX5_giveBack_8 (by decide) ?_
  refine lv_iload_n hx hb dX5_giveBack_9 rfl (lv_at hl 0 rfl) ?_
  refine zk_Vv (As := [.int li, .int (-1), .int 0, .int r_1]) (rest := []) (bytes := cX5_note) (maxL := 6) (ret := none) Z h (zc_X5_note l D k Γ L F_2 H.size th li (-1) 0 r_1 tc hth (hfF_2.f hth 4 ⟨by decide, by decide⟩ ktc) btc) (cwV 4 hg zv_RX5_183 rfl rfl rfl zd_X5_note ⟨z_leR hRf (by decide), z_leR hRl (by decide)⟩) hth (by decide) rfl rfl hl.1 rfl (Nat.le_of_ble_eq_true rfl) dX5_giveBack_10 ⟨Nat.zero_le _, Nat.zero_le _⟩ (fun F_4 H locs w_5 h hfF_4 => ?_)
  obtain ⟨⟨x_7, kx_7, bx_7, q_6⟩, -⟩ := w_5
  refine lv_aload_n hx hb dX5_giveBack_13 rfl (lv_at hl 1 rfl) ?_
  refine lv_iload_n hx hb dX5_giveBack_14 rfl (lv_at hl 0 rfl) ?_
  refine zk_Vv (As := [.int r_1]) (rest := []) (bytes := cX5_leave) (maxL := 2) (ret := none) Z h (zc_X5_leave l D k Γ L F_4 H.size th r_1 dp hth (hfF_4.f hth 15 ⟨by decide, by decide⟩ (hfF_2.f hth 15 ⟨by decide, by decide⟩ kdp)) bdp) (cwV 1 hg zv_RX5_154 rfl rfl rfl zd_X5_leave ⟨z_leR hRf (by decide), z_leR hRl (by decide)⟩) hth (by decide) rfl rfl hl.1 rfl (Nat.le_of_ble_eq_true rfl) dX5_giveBack_15 ⟨Nat.zero_le _, Nat.zero_le _⟩ (fun F_8 H locs w_9 h hfF_8 => ?_)
  obtain ⟨⟨x_11, x_12, kx_11, bx_11, kx_12, bx_12, q_10⟩, -⟩ := w_9
  subst hQ
  exact W.vret hx hb hr (fun t ht hW => ⟨⟨F_8, rfl, ⟨⟨x_7, (hfF_8.f hth 4 ⟨by decide, by decide⟩ kx_7), bx_7, (by have := br_1.1; have := br_1.2; have := (zB.all li).1; have := (zB.all li).2; have := bx_7.1; have := bx_7.2; have := bx_12.1; have := bx_12.2; have := bx_11.1; have := bx_11.2; omega)⟩, ⟨x_11, x_12, kx_11, bx_11, kx_12, bx_12, (by have := br_1.1; have := br_1.2; have := (zB.all li).1; have := (zB.all li).2; have := bx_11.1; have := bx_11.2; have := bx_12.1; have := bx_12.2; have := bx_7.1; have := bx_7.2; omega)⟩, trivial⟩, by rw [ht]; exact h.1, h.2.1, (((hfF_2.w (by decide)).trans hfF_4 (by decide)).trans hfF_8 (by decide))⟩, h.2.2.F ht⟩) h.2.2.2.2 dX5_giveBack_18

set_option maxHeartbeats 4000000 in
set_option maxRecDepth 100000 in
theorem zc_X5_say (l : Launch) (D : va_G) (k : Nat → ClassId) (Γ : Nat → Option Nat) (L : List Nat) (F : Nat → va_E) (sz : Nat) (th : Nat) (li : Int32) (sc : Int32) (tc : Int32) (hth : Γ th = some 5) (ksc : zfld F th 3 = .int sc) (bsc : zB 0 4000000 sc) (ktc : zfld F th 4 = .int tc) (btc : zB 0 4000000 tc) : Met l yX5_say zwX5_say ({ frames := 1, cells := 0, slots := 0, locals := 25 }) (va_Pc [.ref th, .int li] (zP D k Γ L F sz)) (va_Qv (fun (u : Nat → va_E) => (∃ (s9 : Int32), zfld u th 3 = .int s9 ∧ zB 0 4000001 s9 ∧ (s9.toInt ≤ sc.toInt + 1)) ∧ (∃ (t9 : Int32), zfld u th 4 = .int t9 ∧ zB 0 4000001 t9 ∧ (t9.toInt ≤ tc.toInt + 1)) ∧ True) (zQ D k Γ L F [503, 504, 518, 10800, 10900]) (zA L sz)) 0 0 (zA L sz) := by
  refine Met.ofW (cc := cX5_say) (maxL := 3) (ret := none) (by decide) rfl ?_
  intro p e s m args below meth c s₁ B hml hv
  obtain ⟨rfl, hsz, hP, hK, hLn, hE, hI⟩ := hv
  have hx := B.exec
  have hb := B.bytes
  have hr := B.returns
  have hg : ∀ w ∈ zG, w.before _ s = true := fun w h9 => atoms_spec (ws := zwX5_say) B.pre w (List.mem_cons_of_mem _ h9)
  have hown : s.vm.findClass RX5 = some m.cls := findClass_of_methodNamed B.named
  have hlocks := B.notSynchronized
  subst hsz
  have Z : zC p m c cX5_say 3 s _ zG RX5 D k L := ⟨⟨hx, hb, hml, hown, hg⟩, hK, hLn, hE⟩
  have h : zH D k Γ L s F s.heap [] := ⟨hP, hI, va_S.rf⟩
  have hl := lv_entry ([.ref th, .int li]) (n := 3) (Nat.le_of_ble_eq_true rfl)
  rw [lg_entry_eq]
  generalize (lg_sl ([.ref th, .int li]) ++ List.replicate (3 - (lg_sl ([.ref th, .int li])).length) Slot.unset).toArray = ls at hl ⊢
  have hl : lv_has ls 3 [(0, .ref th), (1, .int li)] := hl
  clear hP hK hLn hE hI
  generalize hargs : ([.ref th, .int li] : List Value).toArray = args at *
  refine z_start (fun R Q hRf hRl hQ => ?_)
  have hRf : R.frames = 1 := hRf
  have hRl : R.locals = 25 := hRl
  refine lv_aload_n hx hb dX5_say_0 rfl (lv_at hl 0 rfl) ?_
  refine zk_Vi (As := []) (rest := []) (bytes := cX5_pop) (maxL := 1) (ret := (some .int)) Z h (zc_X5_pop l D k Γ L F s.heap.size th hth) (cwV 0 hg zv_RX5_160 rfl rfl rfl zd_X5_pop ⟨z_leR hRf (by decide), z_leR hRl (by decide)⟩) hth (by decide) rfl rfl hl.1 rfl (Nat.le_of_ble_eq_true rfl) dX5_say_1 ⟨Nat.zero_le _, Nat.zero_le _⟩ (fun r_1 F_2 H locs w_3 h hfF_2 => ?_)
  have br_1 := zB.all r_1
  refine lv_istore_n (lv' := [(2, .int r_1), (0, .ref th), (1, .int li)]) hx hb dX5_say_4 rfl hl (by decide) rfl (fun ls hl => ?_)
  refine lv_aload_n hx hb dX5_say_5 rfl (lv_at hl 1 rfl) ?_
  refine zt_getk (t := 5) (C := RX5) (T := TX5) (N := 19) Z h hth zin_5 rfl 3 (hfF_2.f hth 3 ⟨by decide, by decide⟩ ksc) ⟨by decide, rfl, by decide⟩ (zm_RX5 (List.mem_of_getElem? (i := 8) rfl)) (fun _ h9 => h9) dX5_say_6 ?_
  refine lv_aload_n hx hb dX5_say_9 rfl (lv_at hl 1 rfl) ?_
  refine zt_getr (t := 5) (C := RX5) (T := TX5) (N := 19) Z h hth zin_5 rfl 7 rfl ⟨by decide, rfl⟩ (zm_RX5 (List.mem_of_getElem? (i := 40) rfl)) (fun _ h9 => h9) dX5_say_10 (fun a_4 ka_4 ha_4 => ?_)
  refine zt_alen (t := 108) Z h ha_4 ⟨by decide, rfl⟩ (by decide) (v := 60) rfl dX5_say_13 ?_
  refine lv_icmp_ge (tgt := 27) hx hb dX5_say_14 (by decide) (fun c_5 => ?_) (fun c_5 => ?_)
  · have c_5 := z_le c_5
    have bsc_6 : zB 60 4000000 sc := zB.leR c_5 (zBc 60 60 (by decide)) bsc (by decide)
    refine lv_aload_n hx hb dX5_say_27 rfl (lv_at hl 1 rfl) ?_
    refine lv_dup hx hb dX5_say_28 rfl ?_
    refine zt_getk (t := 5) (C := RX5) (T := TX5) (N := 19) Z h hth zin_5 rfl 3 (hfF_2.f hth 3 ⟨by decide, by decide⟩ ksc) ⟨by decide, rfl, by decide⟩ (zm_RX5 (List.mem_of_getElem? (i := 8) rfl)) (fun _ h9 => h9) dX5_say_29 ?_
    refine lv_iconst (v := 1) hx hb dX5_say_32 (by decide) ?_
    refine lv_iadd hx hb dX5_say_33 ?_
    refine zi_add (lo := 61) (hi := 4000001) bsc_6 (zBc 1 1 (by decide)) (by decide) (fun x_7 bx_7 tx_7 => ?_)
    refine zt_put (t := 5) (C := RX5) (T := TX5) (N := 19) (v := .int x_7) Z h hth zin_5 tyX5 tyX5_ok nmX5 rfl 3 rfl ⟨by decide, rfl⟩ (zm_RX5 (List.mem_of_getElem? (i := 8) rfl)) (fun _ h9 => h9) rfl (zV.i (bx_7.w ⟨by decide, by decide⟩)) rfl rfl dX5_say_34 (fun H locs F_8 h hfF_8 kF_8 => ?_)
    refine lv_aload_n hx hb dX5_say_37 rfl (lv_at hl 1 rfl) ?_
    refine lv_iload_n hx hb dX5_say_38 rfl (lv_at hl 2 rfl) ?_
    refine lv_iconst (v := (-1)) hx hb dX5_say_39 (by decide) ?_
    refine lv_iconst (v := 0) hx hb dX5_say_40 (by decide) ?_
    refine lv_iload_n hx hb dX5_say_41 rfl (lv_at hl 0 rfl) ?_
    refine zk_Vv (As := [.int li, .int (-1), .int 0, .int r_1]) (rest := []) (bytes := cX5_note) (maxL := 6) (ret := none) Z h (zc_X5_note l D k Γ L F_8 H.size th li (-1) 0 r_1 tc hth (hfF_8.f hth 4 ⟨by decide, by decide⟩ (hfF_2.f hth 4 ⟨by decide, by decide⟩ ktc)) btc) (cwV 4 hg zv_RX5_183 rfl rfl rfl zd_X5_note ⟨z_leR hRf (by decide), z_leR hRl (by decide)⟩) hth (by decide) rfl rfl hl.1 rfl (Nat.le_of_ble_eq_true rfl) dX5_say_42 ⟨Nat.zero_le _, Nat.zero_le _⟩ (fun F_9 H locs w_10 h hfF_9 => ?_)
    obtain ⟨⟨x_12, kx_12, bx_12, q_11⟩, -⟩ := w_10
    subst hQ
    exact W.vret hx hb hr (fun t ht hW => ⟨⟨F_9, rfl, ⟨⟨x_7, (hfF_9.f hth 3 ⟨by decide, by decide⟩ kF_8), (bx_7.w ⟨by decide, by decide⟩), (by have := br_1.1; have := br_1.2; have := (zB.all li).1; have := (zB.all li).2; have := bx_7.1; have := bx_7.2; have := bx_12.1; have := bx_12.2; have : (1 : Int32).toInt = 1 := (by decide); have : (60 : Int32).toInt = 60 := (by decide); omega)⟩, ⟨x_12, kx_12, bx_12, (by have := br_1.1; have := br_1.2; have := (zB.all li).1; have := (zB.all li).2; have := bx_12.1; have := bx_12.2; have := bx_7.1; have := bx_7.2; have : (1 : Int32).toInt = 1 := (by decide); have : (60 : Int32).toInt = 60 := (by decide); omega)⟩, trivial⟩, by rw [ht]; exact h.1, h.2.1, (((hfF_2.w (by decide)).trans hfF_8 (by decide)).trans hfF_9 (by decide))⟩, h.2.2.F ht⟩) h.2.2.2.2 dX5_say_45
  · have c_5 := z_nle c_5
    have bsc_13 : zB 0 59 sc := zB.ltL c_5 bsc (zBc 60 60 (by decide)) (by decide)
    refine lv_aload_n hx hb dX5_say_17 rfl (lv_at hl 1 rfl) ?_
    refine zt_getk (t := 5) (C := RX5) (T := TX5) (N := 19) Z h hth zin_5 rfl 7 ka_4 ⟨by decide, rfl, by decide⟩ (zm_RX5 (List.mem_of_getElem? (i := 40) rfl)) (fun _ h9 => h9) dX5_say_18 ?_
    refine lv_aload_n hx hb dX5_say_21 rfl (lv_at hl 1 rfl) ?_
    refine zt_getk (t := 5) (C := RX5) (T := TX5) (N := 19) Z h hth zin_5 rfl 3 (hfF_2.f hth 3 ⟨by decide, by decide⟩ ksc) ⟨by decide, rfl, by decide⟩ (zm_RX5 (List.mem_of_getElem? (i := 8) rfl)) (fun _ h9 => h9) dX5_say_22 ?_
    refine lv_iload_n hx hb dX5_say_25 rfl (lv_at hl 0 rfl) ?_
    refine zt_iast (t := 108) Z h ha_4 ⟨by decide, rfl⟩ bsc_13 ⟨by decide, by decide⟩ br_1 dX5_say_26 (fun H locs F_14 h hfF_14 => ?_)
    refine lv_aload_n hx hb dX5_say_27 rfl (lv_at hl 1 rfl) ?_
    refine lv_dup hx hb dX5_say_28 rfl ?_
    refine zt_getk (t := 5) (C := RX5) (T := TX5) (N := 19) Z h hth zin_5 rfl 3 (hfF_14.f hth 3 ⟨by decide, by decide⟩ (hfF_2.f hth 3 ⟨by decide, by decide⟩ ksc)) ⟨by decide, rfl, by decide⟩ (zm_RX5 (List.mem_of_getElem? (i := 8) rfl)) (fun _ h9 => h9) dX5_say_29 ?_
    refine lv_iconst (v := 1) hx hb dX5_say_32 (by decide) ?_
    refine lv_iadd hx hb dX5_say_33 ?_
    refine zi_add (lo := 1) (hi := 60) bsc_13 (zBc 1 1 (by decide)) (by decide) (fun x_15 bx_15 tx_15 => ?_)
    refine zt_put (t := 5) (C := RX5) (T := TX5) (N := 19) (v := .int x_15) Z h hth zin_5 tyX5 tyX5_ok nmX5 rfl 3 rfl ⟨by decide, rfl⟩ (zm_RX5 (List.mem_of_getElem? (i := 8) rfl)) (fun _ h9 => h9) rfl (zV.i (bx_15.w ⟨by decide, by decide⟩)) rfl rfl dX5_say_34 (fun H locs F_16 h hfF_16 kF_16 => ?_)
    refine lv_aload_n hx hb dX5_say_37 rfl (lv_at hl 1 rfl) ?_
    refine lv_iload_n hx hb dX5_say_38 rfl (lv_at hl 2 rfl) ?_
    refine lv_iconst (v := (-1)) hx hb dX5_say_39 (by decide) ?_
    refine lv_iconst (v := 0) hx hb dX5_say_40 (by decide) ?_
    refine lv_iload_n hx hb dX5_say_41 rfl (lv_at hl 0 rfl) ?_
    refine zk_Vv (As := [.int li, .int (-1), .int 0, .int r_1]) (rest := []) (bytes := cX5_note) (maxL := 6) (ret := none) Z h (zc_X5_note l D k Γ L F_16 H.size th li (-1) 0 r_1 tc hth (hfF_16.f hth 4 ⟨by decide, by decide⟩ (hfF_14.f hth 4 ⟨by decide, by decide⟩ (hfF_2.f hth 4 ⟨by decide, by decide⟩ ktc))) btc) (cwV 4 hg zv_RX5_183 rfl rfl rfl zd_X5_note ⟨z_leR hRf (by decide), z_leR hRl (by decide)⟩) hth (by decide) rfl rfl hl.1 rfl (Nat.le_of_ble_eq_true rfl) dX5_say_42 ⟨Nat.zero_le _, Nat.zero_le _⟩ (fun F_17 H locs w_18 h hfF_17 => ?_)
    obtain ⟨⟨x_20, kx_20, bx_20, q_19⟩, -⟩ := w_18
    subst hQ
    exact W.vret hx hb hr (fun t ht hW => ⟨⟨F_17, rfl, ⟨⟨x_15, (hfF_17.f hth 3 ⟨by decide, by decide⟩ kF_16), (bx_15.w ⟨by decide, by decide⟩), (by have := br_1.1; have := br_1.2; have := (zB.all li).1; have := (zB.all li).2; have := bx_15.1; have := bx_15.2; have := bx_20.1; have := bx_20.2; have : (1 : Int32).toInt = 1 := (by decide); have : (60 : Int32).toInt = 60 := (by decide); omega)⟩, ⟨x_20, kx_20, bx_20, (by have := br_1.1; have := br_1.2; have := (zB.all li).1; have := (zB.all li).2; have := bx_20.1; have := bx_20.2; have := bx_15.1; have := bx_15.2; have : (1 : Int32).toInt = 1 := (by decide); have : (60 : Int32).toInt = 60 := (by decide); omega)⟩, trivial⟩, by rw [ht]; exact h.1, h.2.1, ((((hfF_2.w (by decide)).trans hfF_14 (by decide)).trans hfF_16 (by decide)).trans hfF_17 (by decide))⟩, h.2.2.F ht⟩) h.2.2.2.2 dX5_say_45

set_option maxHeartbeats 4000000 in
set_option maxRecDepth 100000 in
theorem zc_X5_set (l : Launch) (D : va_G) (k : Nat → ClassId) (Γ : Nat → Option Nat) (L : List Nat) (F : Nat → va_E) (sz : Nat) (th : Nat) (q : Int32) (li : Int32) (tc : Int32) (hth : Γ th = some 5) (ktc : zfld F th 4 = .int tc) (btc : zB 0 4000000 tc) : Met l yX5_set zwX5_set ({ frames := 1, cells := 0, slots := 0, locals := 25 }) (va_Pc [.ref th, .int q, .int li] (zP D k Γ L F sz)) (va_Qv (fun (u : Nat → va_E) => (∃ (t9 : Int32), zfld u th 4 = .int t9 ∧ zB 0 4000001 t9 ∧ (t9.toInt ≤ tc.toInt + 1)) ∧ True) (zQ D k Γ L F [504, 518, 10900, 11000]) (zA L sz)) 0 0 (zA L sz) := by
  refine Met.ofW (cc := cX5_set) (maxL := 4) (ret := none) (by decide) rfl ?_
  intro p e s m args below meth c s₁ B hml hv
  obtain ⟨rfl, hsz, hP, hK, hLn, hE, hI⟩ := hv
  have hx := B.exec
  have hb := B.bytes
  have hr := B.returns
  have hg : ∀ w ∈ zG, w.before _ s = true := fun w h9 => atoms_spec (ws := zwX5_set) B.pre w (List.mem_cons_of_mem _ h9)
  have hown : s.vm.findClass RX5 = some m.cls := findClass_of_methodNamed B.named
  have hlocks := B.notSynchronized
  subst hsz
  have Z : zC p m c cX5_set 4 s _ zG RX5 D k L := ⟨⟨hx, hb, hml, hown, hg⟩, hK, hLn, hE⟩
  have h : zH D k Γ L s F s.heap [] := ⟨hP, hI, va_S.rf⟩
  have hl := lv_entry ([.ref th, .int q, .int li]) (n := 4) (Nat.le_of_ble_eq_true rfl)
  rw [lg_entry_eq]
  generalize (lg_sl ([.ref th, .int q, .int li]) ++ List.replicate (4 - (lg_sl ([.ref th, .int q, .int li])).length) Slot.unset).toArray = ls at hl ⊢
  have hl : lv_has ls 4 [(0, .ref th), (1, .int q), (2, .int li)] := hl
  clear hP hK hLn hE hI
  generalize hargs : ([.ref th, .int q, .int li] : List Value).toArray = args at *
  refine z_start (fun R Q hRf hRl hQ => ?_)
  have hRf : R.frames = 1 := hRf
  have hRl : R.locals = 25 := hRl
  refine lv_aload_n hx hb dX5_set_0 rfl (lv_at hl 0 rfl) ?_
  refine zk_Vi (As := []) (rest := []) (bytes := cX5_pop) (maxL := 1) (ret := (some .int)) Z h (zc_X5_pop l D k Γ L F s.heap.size th hth) (cwV 0 hg zv_RX5_160 rfl rfl rfl zd_X5_pop ⟨z_leR hRf (by decide), z_leR hRl (by decide)⟩) hth (by decide) rfl rfl hl.1 rfl (Nat.le_of_ble_eq_true rfl) dX5_set_1 ⟨Nat.zero_le _, Nat.zero_le _⟩ (fun r_1 F_2 H locs w_3 h hfF_2 => ?_)
  have br_1 := zB.all r_1
  refine lv_istore_n (lv' := [(3, .int r_1), (0, .ref th), (1, .int q), (2, .int li)]) hx hb dX5_set_4 rfl hl (by decide) rfl (fun ls hl => ?_)
  refine lv_aload_n hx hb dX5_set_5 rfl (lv_at hl 1 rfl) ?_
  refine lv_iload_n hx hb dX5_set_6 rfl (lv_at hl 3 rfl) ?_
  refine lv_iload_n hx hb dX5_set_7 rfl (lv_at hl 2 rfl) ?_
  refine lv_aload_n hx hb dX5_set_8 rfl (lv_at hl 1 rfl) ?_
  refine lv_iload_n hx hb dX5_set_9 rfl (lv_at hl 2 rfl) ?_
  refine zk_Vi (As := [.int q]) (rest := [.int q, .int li, .ref th]) (bytes := cX5_placeNow) (maxL := 3) (ret := (some .int)) Z h (zc_X5_placeNow l D k Γ L F_2 H.size th q hth) (cwV 1 hg zv_RX5_134 rfl rfl rfl zd_X5_placeNow ⟨z_leR hRf (by decide), z_leR hRl (by decide)⟩) hth (by decide) rfl rfl hl.1 rfl (Nat.le_of_ble_eq_true rfl) dX5_set_10 ⟨Nat.zero_le _, Nat.zero_le _⟩ (fun r_4 F_5 H locs w_6 h hfF_5 => ?_)
  obtain ⟨rfl, -⟩ := w_6
  have br_4 := zB.all r_4
  refine lv_iload_n hx hb dX5_set_13 rfl (lv_at hl 0 rfl) ?_
  refine zk_Vv (As := [.int li, .int q, .int r_4, .int r_1]) (rest := []) (bytes := cX5_note) (maxL := 6) (ret := none) Z h (zc_X5_note l D k Γ L F_2 H.size th li q r_4 r_1 tc hth (hfF_2.f hth 4 ⟨by decide, by decide⟩ ktc) btc) (cwV 4 hg zv_RX5_183 rfl rfl rfl zd_X5_note ⟨z_leR hRf (by decide), z_leR hRl (by decide)⟩) hth (by decide) rfl rfl hl.1 rfl (Nat.le_of_ble_eq_true rfl) dX5_set_14 ⟨Nat.zero_le _, Nat.zero_le _⟩ (fun F_7 H locs w_8 h hfF_7 => ?_)
  obtain ⟨⟨x_10, kx_10, bx_10, q_9⟩, -⟩ := w_8
  refine lv_aload_n hx hb dX5_set_17 rfl (lv_at hl 1 rfl) ?_
  refine lv_iload_n hx hb dX5_set_18 rfl (lv_at hl 2 rfl) ?_
  refine lv_iload_n hx hb dX5_set_19 rfl (lv_at hl 0 rfl) ?_
  refine zk_Vv (As := [.int q, .int r_1]) (rest := []) (bytes := cX5_setPlace) (maxL := 4) (ret := none) Z h (zc_X5_setPlace l D k Γ L F_7 H.size th q r_1 hth) (cwV 2 hg zv_RX5_174 rfl rfl rfl zd_X5_setPlace ⟨z_leR hRf (by decide), z_leR hRl (by decide)⟩) hth (by decide) rfl rfl hl.1 rfl (Nat.le_of_ble_eq_true rfl) dX5_set_20 ⟨Nat.zero_le _, Nat.zero_le _⟩ (fun F_11 H locs w_12 h hfF_11 => ?_)
  subst hQ
  exact W.vret hx hb hr (fun t ht hW => ⟨⟨F_11, rfl, ⟨⟨x_10, (hfF_11.f hth 4 ⟨by decide, by decide⟩ kx_10), bx_10, (by have := br_1.1; have := br_1.2; have := (zB.all q).1; have := (zB.all q).2; have := (zB.all li).1; have := (zB.all li).2; have := bx_10.1; have := bx_10.2; omega)⟩, trivial⟩, by rw [ht]; exact h.1, h.2.1, (((hfF_2.w (by decide)).trans hfF_7 (by decide)).trans hfF_11 (by decide))⟩, h.2.2.F ht⟩) h.2.2.2.2 dX5_set_23

set_option maxHeartbeats 4000000 in
set_option maxRecDepth 100000 in
theorem zc_X5_enter (l : Launch) (D : va_G) (k : Nat → ClassId) (Γ : Nat → Option Nat) (L : List Nat) (F : Nat → va_E) (sz : Nat) (th : Nat) (f : Int32) (dp : Int32) (pr : Nat) (hth : Γ th = some 5) (kdp : zfld F th 15 = .int dp) (bdp : zB 1 8 dp) (kpr : zfld F th 10 = .ref pr) (hpr : Γ pr = some 6) : Met l yX5_enter zwX5_enter ({ frames := 1, cells := 0, slots := 0, locals := 40 }) (va_Pc [.ref th, .int f] (zP D k Γ L F sz)) (va_Qv (fun (u : Nat → va_E) => (∃ (g9 : Int32) (d9 : Int32), zfld u th 13 = .int g9 ∧ zB 0 1 g9 ∧ zfld u th 15 = .int d9 ∧ zB 0 8 d9 ∧ (g9.toInt ≠ 0 → 1 ≤ d9.toInt)) ∧ True) (zQ D k Γ L F [500, 505, 513, 514, 515, 518, 11000, 11100]) (zA L sz)) 0 0 (zA L sz) := by
  refine Met.ofW (cc := cX5_enter) (maxL := 4) (ret := none) (by decide) rfl ?_
  intro p e s m args below meth c s₁ B hml hv
  obtain ⟨rfl, hsz, hP, hK, hLn, hE, hI⟩ := hv
  have hx := B.exec
  have hb := B.bytes
  have hr := B.returns
  have hg : ∀ w ∈ zG, w.before _ s = true := fun w h9 => atoms_spec (ws := zwX5_enter) B.pre w (List.mem_cons_of_mem _ h9)
  have hown : s.vm.findClass RX5 = some m.cls := findClass_of_methodNamed B.named
  have hlocks := B.notSynchronized
  subst hsz
  have Z : zC p m c cX5_enter 4 s _ zG RX5 D k L := ⟨⟨hx, hb, hml, hown, hg⟩, hK, hLn, hE⟩
  have h : zH D k Γ L s F s.heap [] := ⟨hP, hI, va_S.rf⟩
  have hl := lv_entry ([.ref th, .int f]) (n := 4) (Nat.le_of_ble_eq_true rfl)
  rw [lg_entry_eq]
  generalize (lg_sl ([.ref th, .int f]) ++ List.replicate (4 - (lg_sl ([.ref th, .int f])).length) Slot.unset).toArray = ls at hl ⊢
  have hl : lv_has ls 4 [(0, .ref th), (1, .int f)] := hl
  clear hP hK hLn hE hI
  generalize hargs : ([.ref th, .int f] : List Value).toArray = args at *
  refine z_start (fun R Q hRf hRl hQ => ?_)
  have hRf : R.frames = 1 := hRf
  have hRl : R.locals = 40 := hRl
  refine lv_aload_n hx hb dX5_enter_0 rfl (lv_at hl 0 rfl) ?_
  refine zt_getk (t := 5) (C := RX5) (T := TX5) (N := 19) Z h hth zin_5 rfl 15 kdp ⟨by decide, rfl, by decide⟩ (zm_RX5 (List.mem_of_getElem? (i := 12) rfl)) (fun _ h9 => h9) dX5_enter_1 ?_
  refine lv_bipush (v := 8) hx hb dX5_enter_4 (by decide) ?_
  refine lv_icmp_lt (tgt := 15) hx hb dX5_enter_6 (by decide) (fun c_1 => ?_) (fun c_1 => ?_)
  · have c_1 := z_lt c_1
    have bdp_2 : zB 1 7 dp := zB.ltL c_1 bdp (zBc 8 8 (by decide)) (by decide)
    refine lv_aload_n hx hb dX5_enter_15 rfl (lv_at hl 0 rfl) ?_
    refine zt_getk (t := 5) (C := RX5) (T := TX5) (N := 19) Z h hth zin_5 rfl 10 kpr ⟨by decide, rfl, by decide⟩ (zm_RX5 (List.mem_of_getElem? (i := 2) rfl)) (fun _ h9 => h9) dX5_enter_16 ?_
    refine lv_iload_n hx hb dX5_enter_19 rfl (lv_at hl 1 rfl) ?_
    refine zk_Vi (As := [.int f]) (rest := []) (bytes := cX6_hasFunction) (maxL := 2) (ret := (some .boolean)) Z h (zc_X6_hasFunction l D k Γ L F s.heap.size pr f hpr) (cwV 1 hg zv_RX5_70 rfl rfl rfl zd_X6_hasFunction ⟨z_leR hRf (by decide), z_leR hRl (by decide)⟩) hpr (by decide) rfl rfl hl.1 rfl (Nat.le_of_ble_eq_true rfl) dX5_enter_20 ⟨Nat.zero_le _, Nat.zero_le _⟩ (fun r_3 F_4 H locs w_5 h hfF_4 => ?_)
    obtain ⟨rfl, br_3, q_6, q_7, -⟩ := w_5
    refine lv_if_ne (tgt := 27) hx hb dX5_enter_23 (by decide) (fun c_8 => ?_) (fun c_8 => ?_)
    · have bf_9 : zB 0 9 f := q_6 c_8
      obtain ⟨x_10, kx_10, bx_10, q_11⟩ := q_7 c_8
      have c_8 := z_ne c_8
      have br_3_12 : zB 1 1 r_3 := zB.neLo c_8 br_3 (zBc 0 0 (by decide)) (by decide)
      refine lv_aload_n hx hb dX5_enter_27 rfl (lv_at hl 0 rfl) ?_
      refine zt_getk (t := 5) (C := RX5) (T := TX5) (N := 19) Z h hth zin_5 rfl 10 kpr ⟨by decide, rfl, by decide⟩ (zm_RX5 (List.mem_of_getElem? (i := 2) rfl)) (fun _ h9 => h9) dX5_enter_28 ?_
      refine zt_getr (t := 6) (C := RX6) (T := TX6) (N := 6) Z h hpr zin_6 rfl 2 rfl ⟨by decide, rfl⟩ (zm_RX5 (List.mem_of_getElem? (i := 20) rfl)) (fun _ h9 => h9) dX5_enter_31 (fun a_13 ka_13 ha_13 => ?_)
      refine lv_iload_n hx hb dX5_enter_34 rfl (lv_at hl 1 rfl) ?_
      refine zt_aald (t := 104) (t1 := 2) Z h ha_13 ⟨by decide, rfl⟩ (by decide) bf_9 ⟨by decide, by decide⟩ dX5_enter_35 (fun a_14 ha_14 => ?_)
      refine lv_astore_n (lv' := [(2, .ref a_14), (0, .ref th), (1, .int f)]) hx hb dX5_enter_36 rfl hl (by decide) rfl (fun ls hl => ?_)
      refine lv_aload_n hx hb dX5_enter_37 rfl (lv_at hl 1 rfl) ?_
      refine zt_getr (t := 5) (C := RX5) (T := TX5) (N := 19) Z h hth zin_5 rfl 16 rfl ⟨by decide, rfl⟩ (zm_RX5 (List.mem_of_getElem? (i := 96) rfl)) (fun _ h9 => h9) dX5_enter_38 (fun a_15 ka_15 ha_15 => ?_)
      refine lv_aload_n hx hb dX5_enter_41 rfl (lv_at hl 1 rfl) ?_
      refine zt_getk (t := 5) (C := RX5) (T := TX5) (N := 19) Z h hth zin_5 rfl 15 kdp ⟨by decide, rfl, by decide⟩ (zm_RX5 (List.mem_of_getElem? (i := 12) rfl)) (fun _ h9 => h9) dX5_enter_42 ?_
      refine lv_aload_n hx hb dX5_enter_45 rfl (lv_at hl 1 rfl) ?_
      refine zt_geti (t := 5) (C := RX5) (T := TX5) (N := 19) Z h hth zin_5 rfl 14 rfl ⟨by decide, rfl⟩ (zm_RX5 (List.mem_of_getElem? (i := 31) rfl)) (fun _ h9 => h9) dX5_enter_46 (fun x_16 kx_16 bx_16 => ?_)
      refine zt_iast (t := 111) Z h ha_15 ⟨by decide, rfl⟩ bdp_2 ⟨by decide, by decide⟩ bx_16 dX5_enter_49 (fun H locs F_17 h hfF_17 => ?_)
      refine lv_aload_n hx hb dX5_enter_50 rfl (lv_at hl 1 rfl) ?_
      refine lv_dup hx hb dX5_enter_51 rfl ?_
      refine zt_getk (t := 5) (C := RX5) (T := TX5) (N := 19) Z h hth zin_5 rfl 15 (hfF_17.f hth 15 ⟨by decide, by decide⟩ kdp) ⟨by decide, rfl, by decide⟩ (zm_RX5 (List.mem_of_getElem? (i := 12) rfl)) (fun _ h9 => h9) dX5_enter_52 ?_
      refine lv_iconst (v := 1) hx hb dX5_enter_55 (by decide) ?_
      refine lv_iadd hx hb dX5_enter_56 ?_
      refine zi_add (lo := 2) (hi := 8) bdp_2 (zBc 1 1 (by decide)) (by decide) (fun x_18 bx_18 tx_18 => ?_)
      refine zt_put (t := 5) (C := RX5) (T := TX5) (N := 19) (v := .int x_18) Z h hth zin_5 tyX5 tyX5_ok nmX5 rfl 15 rfl ⟨by decide, rfl⟩ (zm_RX5 (List.mem_of_getElem? (i := 12) rfl)) (fun _ h9 => h9) rfl (zV.i (bx_18.w ⟨by decide, by decide⟩)) rfl rfl dX5_enter_57 (fun H locs F_19 h hfF_19 kF_19 => ?_)
      refine lv_aload_n hx hb dX5_enter_60 rfl (lv_at hl 1 rfl) ?_
      refine lv_aload_n hx hb dX5_enter_61 rfl (lv_at hl 1 rfl) ?_
      refine zt_geti (t := 5) (C := RX5) (T := TX5) (N := 19) Z h hth zin_5 rfl 5 rfl ⟨by decide, rfl⟩ (zm_RX5 (List.mem_of_getElem? (i := 10) rfl)) (fun _ h9 => h9) dX5_enter_62 (fun x_20 kx_20 bx_20 => ?_)
      refine lv_aload_n hx hb dX5_enter_65 rfl (lv_at hl 1 rfl) ?_
      refine zt_getk (t := 5) (C := RX5) (T := TX5) (N := 19) Z h hth zin_5 rfl 15 kF_19 ⟨by decide, rfl, by decide⟩ (zm_RX5 (List.mem_of_getElem? (i := 12) rfl)) (fun _ h9 => h9) dX5_enter_66 ?_
      refine va_mmax hx hb (by rw [hml]; exact hl.1.symm) hown (hg _ (zm_RX5 (List.mem_of_getElem? (i := 97) rfl))) (hg _ (zm_RX5 (List.mem_of_getElem? (i := 98) rfl))) (hg _ (zm_RX5 (List.mem_of_getElem? (i := 24) rfl))) (hg _ (zm_RX5 (List.mem_of_getElem? (i := 99) rfl))) (z_leR hRf (by decide)) (z_leR hRl (Nat.le_of_ble_eq_true rfl)) (Nat.zero_le _) (Nat.zero_le _) dX5_enter_69 ?_
      refine zi_max (lo := 2) (hi := 2147483647) bx_20 bx_18 (by decide) (fun x_21 bx_21 tx_21 => ?_)
      refine zt_put (t := 5) (C := RX5) (T := TX5) (N := 19) (v := .int x_21) Z h hth zin_5 tyX5 tyX5_ok nmX5 rfl 5 rfl ⟨by decide, rfl⟩ (zm_RX5 (List.mem_of_getElem? (i := 10) rfl)) (fun _ h9 => h9) rfl (zV.i (bx_21.w ⟨by decide, by decide⟩)) rfl rfl dX5_enter_72 (fun H locs F_22 h hfF_22 kF_22 => ?_)
      refine lv_iconst (v := 0) hx hb dX5_enter_75 (by decide) ?_
      refine lv_istore_n (lv' := [(3, .int 0), (2, .ref a_14), (0, .ref th), (1, .int f)]) hx hb dX5_enter_76 rfl hl (by decide) rfl (fun ls hl => ?_)
      have j_j77_23 : ∀ (n : Nat) (ls : Array Slot) (y3_j77_23 : Int32) (F_24 : Nat → va_E) (H : Heap) (locs : List Loc), lv_has ls 4 [(3, .int y3_j77_23), (2, .ref a_14), (0, .ref th)] → zB 0 8 y3_j77_23 → zH D k Γ L s F_24 H locs → zFr Γ [11000] F_22 F_24 → (2147483647 - y3_j77_23.toInt).toNat = n → W p l e R s m args below meth c H locs 0 0 Q (F0 m 77 ls []) := by
        intro n
        induction n using Nat.strongRecOn with
        | _ n ih_j77_23 =>
          intro ls y3_j77_23 F_24 H locs hl by3_j77_23 h hfF_24 hn_j77_23
          refine lv_iload_n hx hb dX5_enter_77 rfl (lv_at hl 0 rfl) ?_
          refine lv_bipush (v := 8) hx hb dX5_enter_78 (by decide) ?_
          refine lv_icmp_ge (tgt := 95) hx hb dX5_enter_80 (by decide) (fun c_25 => ?_) (fun c_25 => ?_)
          · have c_25 := z_le c_25
            have by3_j77_23_26 : zB 8 8 y3_j77_23 := zB.leR c_25 (zBc 8 8 (by decide)) by3_j77_23 (by decide)
            refine lv_aload_n hx hb dX5_enter_95 rfl (lv_at hl 1 rfl) ?_
            refine zt_geti (t := 2) (C := RX2) (T := TX2) (N := 9) Z h ha_14 zin_2 rfl 7 rfl ⟨by decide, rfl⟩ (zm_RX5 (List.mem_of_getElem? (i := 21) rfl)) (fun _ h9 => h9) dX5_enter_96 (fun x_27 kx_27 bx_27 => ?_)
            refine lv_iconst (v := 1) hx hb dX5_enter_99 (by decide) ?_
            refine lv_isub hx hb dX5_enter_100 ?_
            refine zi_sub (lo := (-1)) (hi := 2) bx_27 (zBc 1 1 (by decide)) (by decide) (fun x_28 bx_28 tx_28 => ?_)
            refine lv_istore_n (lv' := [(3, .int x_28), (2, .ref a_14), (0, .ref th)]) hx hb dX5_enter_101 rfl hl (by decide) rfl (fun ls hl => ?_)
            have j_j102_29 : ∀ (n : Nat) (ls : Array Slot) (y3_j102_29 : Int32) (F_30 : Nat → va_E) (H : Heap) (locs : List Loc), lv_has ls 4 [(3, .int y3_j102_29), (2, .ref a_14), (0, .ref th)] → zB (-1) 2 y3_j102_29 → zH D k Γ L s F_30 H locs → zFr Γ [518, 11000] F_24 F_30 → (y3_j102_29.toInt + 2147483648).toNat = n → W p l e R s m args below meth c H locs 0 0 Q (F0 m 102 ls []) := by
              intro n
              induction n using Nat.strongRecOn with
              | _ n ih_j102_29 =>
                intro ls y3_j102_29 F_30 H locs hl by3_j102_29 h hfF_30 hn_j102_29
                refine lv_iload_n hx hb dX5_enter_102 rfl (lv_at hl 0 rfl) ?_
                refine lv_if_lt (tgt := 125) hx hb dX5_enter_103 (by decide) (fun c_31 => ?_) (fun c_31 => ?_)
                · have c_31 := z_lt c_31
                  have by3_j102_29_32 : zB (-1) (-1) y3_j102_29 := zB.ltL c_31 by3_j102_29 (zBc 0 0 (by decide)) (by decide)
                  refine lv_aload_n hx hb dX5_enter_125 rfl (lv_at hl 2 rfl) ?_
                  refine lv_aload_n hx hb dX5_enter_126 rfl (lv_at hl 1 rfl) ?_
                  refine zt_geti (t := 2) (C := RX2) (T := TX2) (N := 9) Z h ha_14 zin_2 rfl 5 rfl ⟨by decide, rfl⟩ (zm_RX5 (List.mem_of_getElem? (i := 104) rfl)) (fun _ h9 => h9) dX5_enter_127 (fun x_33 kx_33 bx_33 => ?_)
                  refine zt_put (t := 5) (C := RX5) (T := TX5) (N := 19) (v := .int x_33) Z h hth zin_5 tyX5 tyX5_ok nmX5 rfl 14 rfl ⟨by decide, rfl⟩ (zm_RX5 (List.mem_of_getElem? (i := 31) rfl)) (fun _ h9 => h9) rfl (zV.i bx_33) rfl rfl dX5_enter_130 (fun H locs F_34 h hfF_34 kF_34 => ?_)
                  obtain ⟨x_35, kx_35, bx_35⟩ := z_learn (j := 13) (lo := 0) (hi := 1) h hth (by decide) rfl
                  subst hQ
                  exact W.vret hx hb hr (fun t ht hW => ⟨⟨F_34, rfl, ⟨⟨x_35, x_18, kx_35, bx_35, (hfF_34.f hth 15 ⟨by decide, by decide⟩ (hfF_30.f hth 15 ⟨by decide, by decide⟩ (hfF_24.f hth 15 ⟨by decide, by decide⟩ (hfF_22.f hth 15 ⟨by decide, by decide⟩ kF_19)))), (bx_18.w ⟨by decide, by decide⟩), (by have := by3_j102_29_32.1; have := by3_j102_29_32.2; have := bx_35.1; have := bx_35.2; have := bx_18.1; have := bx_18.2; have := bx_10.1; have := bx_10.2; have := bx_33.1; have := bx_33.2; have := bx_21.1; have := bx_21.2; have := bx_27.1; have := bx_27.2; have : (0 : Int32).toInt = 0 := (by decide); have : (1 : Int32).toInt = 1 := (by decide); have : (8 : Int32).toInt = 8 := (by decide); omega)⟩, trivial⟩, by rw [ht]; exact h.1, h.2.1, ((((((hfF_17.w (by decide)).trans hfF_19 (by decide)).trans hfF_22 (by decide)).trans hfF_24 (by decide)).trans hfF_30 (by decide)).trans hfF_34 (by decide))⟩, h.2.2.F ht⟩) h.2.2.2.2 dX5_enter_133
                · have c_31 := z_nlt c_31
                  have by3_j102_29_36 : zB 0 2 y3_j102_29 := zB.leR c_31 (zBc 0 0 (by decide)) by3_j102_29 (by decide)
                  refine lv_aload_n hx hb dX5_enter_106 rfl (lv_at hl 2 rfl) ?_
                  refine lv_aload_n hx hb dX5_enter_107 rfl (lv_at hl 1 rfl) ?_
                  refine lv_iload_n hx hb dX5_enter_108 rfl (lv_at hl 0 rfl) ?_
                  refine zk_Vi (As := [.int y3_j102_29]) (rest := [.ref th]) (bytes := cX2_placeAt) (maxL := 2) (ret := (some .int)) Z h (zc_X2_placeAt l D k Γ L F_30 H.size a_14 y3_j102_29 ha_14) (cwV 1 hg zv_RX5_177 rfl rfl rfl zd_X2_placeAt ⟨z_leR hRf (by decide), z_leR hRl (by decide)⟩) ha_14 (by decide) rfl rfl hl.1 rfl (Nat.le_of_ble_eq_true rfl) dX5_enter_109 ⟨Nat.zero_le _, Nat.zero_le _⟩ (fun r_37 F_38 H locs w_39 h hfF_38 => ?_)
                  obtain ⟨rfl, -⟩ := w_39
                  have br_37 := zB.all r_37
                  refine lv_aload_n hx hb dX5_enter_112 rfl (lv_at hl 2 rfl) ?_
                  refine zk_Vi (As := []) (rest := [.int r_37, .ref th]) (bytes := cX5_pop) (maxL := 1) (ret := (some .int)) Z h (zc_X5_pop l D k Γ L F_30 H.size th hth) (cwV 0 hg zv_RX5_160 rfl rfl rfl zd_X5_pop ⟨z_leR hRf (by decide), z_leR hRl (by decide)⟩) hth (by decide) rfl rfl hl.1 rfl (Nat.le_of_ble_eq_true rfl) dX5_enter_113 ⟨Nat.zero_le _, Nat.zero_le _⟩ (fun r_40 F_41 H locs w_42 h hfF_41 => ?_)
                  have br_40 := zB.all r_40
                  refine zk_Vv (As := [.int r_37, .int r_40]) (rest := []) (bytes := cX5_setPlace) (maxL := 4) (ret := none) Z h (zc_X5_setPlace l D k Γ L F_41 H.size th r_37 r_40 hth) (cwV 2 hg zv_RX5_174 rfl rfl rfl zd_X5_setPlace ⟨z_leR hRf (by decide), z_leR hRl (by decide)⟩) hth (by decide) rfl rfl hl.1 rfl (Nat.le_of_ble_eq_true rfl) dX5_enter_116 ⟨Nat.zero_le _, Nat.zero_le _⟩ (fun F_43 H locs w_44 h hfF_43 => ?_)
                  obtain ⟨x_45, ex_45, bx_45, tx_45⟩ := z_inc (n := (-1)) (lo := (-1)) (hi := 1) by3_j102_29_36 (by decide)
                  refine lv_iinc (v := x_45) (lv' := [(3, .int x_45), (2, .ref a_14), (0, .ref th)]) hx hb dX5_enter_119 hl (k := 0) rfl ex_45 (by decide) rfl (fun ls hl => ?_)
                  refine lv_goto (tgt := 102) hx hb dX5_enter_122 (by decide) ?_
                  exact ih_j102_29 _ (by have := bx_45.1; have := bx_45.2; have := bx_18.1; have := bx_18.2; have := bx_10.1; have := bx_10.2; have := bx_16.1; have := bx_16.2; have := bx_21.1; have := bx_21.2; have := bx_27.1; have := bx_27.2; have : (0 : Int32).toInt = 0 := (by decide); have : (1 : Int32).toInt = 1 := (by decide); have : (8 : Int32).toInt = 8 := (by decide); have := by3_j102_29.1; have := by3_j102_29.2; omega) ls x_45 F_43 H locs (lv_sub hl [0, 1, 2] rfl) (bx_45.w ⟨by decide, by decide⟩) h ((hfF_30.trans hfF_41 (by decide)).trans hfF_43 (by decide)) rfl
            exact j_j102_29 _ ls x_28 F_24 H locs (lv_sub hl [0, 1, 2] rfl) bx_28 h zFr.rf rfl
          · have c_25 := z_nle c_25
            have by3_j77_23_46 : zB 0 7 y3_j77_23 := zB.ltL c_25 by3_j77_23 (zBc 8 8 (by decide)) (by decide)
            refine lv_aload_n hx hb dX5_enter_83 rfl (lv_at hl 2 rfl) ?_
            refine lv_iload_n hx hb dX5_enter_84 rfl (lv_at hl 0 rfl) ?_
            refine lv_iconst (v := 0) hx hb dX5_enter_85 (by decide) ?_
            refine zk_Vv (As := [.int y3_j77_23, .int 0]) (rest := []) (bytes := cX5_setPlace) (maxL := 4) (ret := none) Z h (zc_X5_setPlace l D k Γ L F_24 H.size th y3_j77_23 0 hth) (cwV 2 hg zv_RX5_174 rfl rfl rfl zd_X5_setPlace ⟨z_leR hRf (by decide), z_leR hRl (by decide)⟩) hth (by decide) rfl rfl hl.1 rfl (Nat.le_of_ble_eq_true rfl) dX5_enter_86 ⟨Nat.zero_le _, Nat.zero_le _⟩ (fun F_47 H locs w_48 h hfF_47 => ?_)
            obtain ⟨x_49, ex_49, bx_49, tx_49⟩ := z_inc (n := 1) (lo := 1) (hi := 8) by3_j77_23_46 (by decide)
            refine lv_iinc (v := x_49) (lv' := [(3, .int x_49), (2, .ref a_14), (0, .ref th)]) hx hb dX5_enter_89 hl (k := 0) rfl ex_49 (by decide) rfl (fun ls hl => ?_)
            refine lv_goto (tgt := 77) hx hb dX5_enter_92 (by decide) ?_
            exact ih_j77_23 _ (by have := bx_49.1; have := bx_49.2; have := bx_18.1; have := bx_18.2; have := bx_10.1; have := bx_10.2; have := bx_16.1; have := bx_16.2; have := bx_21.1; have := bx_21.2; have : (0 : Int32).toInt = 0 := (by decide); have : (1 : Int32).toInt = 1 := (by decide); have : (8 : Int32).toInt = 8 := (by decide); have := by3_j77_23.1; have := by3_j77_23.2; omega) ls x_49 F_47 H locs (lv_sub hl [0, 1, 2] rfl) (bx_49.w ⟨by decide, by decide⟩) h (hfF_24.trans hfF_47 (by decide)) rfl
      exact j_j77_23 _ ls 0 F_22 H locs (lv_sub hl [0, 1, 2] rfl) (zB.of ⟨by decide, by decide⟩) h zFr.rf rfl
    · have c_8 := z_eq c_8
      have br_3_50 : zB 0 0 r_3 := zB.eqL (a := 0) (b := 0) c_8 (zBc 0 0 (by decide))
      obtain ⟨x_51, kx_51, bx_51⟩ := z_learn (j := 13) (lo := 0) (hi := 1) h hth (by decide) rfl
      subst hQ
      exact W.vret hx hb hr (fun t ht hW => ⟨⟨F, rfl, ⟨⟨x_51, dp, kx_51, bx_51, kdp, (bdp_2.w ⟨by decide, by decide⟩), (by have := (zB.all f).1; have := (zB.all f).2; have := bx_51.1; have := bx_51.2; have := bdp_2.1; have := bdp_2.2; have : (0 : Int32).toInt = 0 := (by decide); have : (8 : Int32).toInt = 8 := (by decide); omega)⟩, trivial⟩, by rw [ht]; exact h.1, h.2.1, zFr.rf⟩, h.2.2.F ht⟩) h.2.2.2.2 dX5_enter_26
  · have c_1 := z_nlt c_1
    have bdp_52 : zB 8 8 dp := zB.leR c_1 (zBc 8 8 (by decide)) bdp (by decide)
    refine lv_aload_n hx hb dX5_enter_9 rfl (lv_at hl 0 rfl) ?_
    refine lv_iconst (v := 2) hx hb dX5_enter_10 (by decide) ?_
    refine zk_Vv (As := [.int 2]) (rest := []) (bytes := cX5_stop) (maxL := 2) (ret := none) Z h (zc_X5_stop l D k Γ L F s.heap.size th 2 hth) (cwV 1 hg zv_RX5_168 rfl rfl rfl zd_X5_stop ⟨z_leR hRf (by decide), z_leR hRl (by decide)⟩) hth (by decide) rfl rfl hl.1 rfl (Nat.le_of_ble_eq_true rfl) dX5_enter_11 ⟨Nat.zero_le _, Nat.zero_le _⟩ (fun F_53 H locs w_54 h hfF_53 => ?_)
    obtain ⟨⟨x_56, kx_56, bx_56⟩, -⟩ := w_54
    subst hQ
    exact W.vret hx hb hr (fun t ht hW => ⟨⟨F_53, rfl, ⟨⟨x_56, dp, kx_56, (bx_56.w ⟨by decide, by decide⟩), (hfF_53.f hth 15 ⟨by decide, by decide⟩ kdp), (bdp_52.w ⟨by decide, by decide⟩), (by have := (zB.all f).1; have := (zB.all f).2; have := bx_56.1; have := bx_56.2; have := bdp_52.1; have := bdp_52.2; have : (8 : Int32).toInt = 8 := (by decide); omega)⟩, trivial⟩, by rw [ht]; exact h.1, h.2.1, (hfF_53.w (by decide))⟩, h.2.2.F ht⟩) h.2.2.2.2 dX5_enter_14

set_option maxHeartbeats 4000000 in
set_option maxRecDepth 100000 in
theorem zc_X5_enterB (l : Launch) (D : va_G) (k : Nat → ClassId) (Γ : Nat → Option Nat) (L : List Nat) (F : Nat → va_E) (sz : Nat) (th : Nat) (f : Int32) (dp : Int32) (pr : Nat) (fc : Int32) (hth : Γ th = some 5) (bf : zB 0 9 f) (kdp : zfld F th 15 = .int dp) (bdp : zB 0 0 dp) (kpr : zfld F th 10 = .ref pr) (hpr : Γ pr = some 6) (kfc : zfld F pr 4 = .int fc) (bfc : zB 0 10 fc) (hr0 : f.toInt < fc.toInt) : Met l yX5_enter zwX5_enter ({ frames := 1, cells := 0, slots := 0, locals := 40 }) (va_Pc [.ref th, .int f] (zP D k Γ L F sz)) (va_Qv (fun (u : Nat → va_E) => (∃ (g9 : Int32) (d9 : Int32), zfld u th 13 = .int g9 ∧ zB 0 1 g9 ∧ zfld u th 15 = .int d9 ∧ zB 0 8 d9 ∧ (g9.toInt ≠ 0 → 1 ≤ d9.toInt)) ∧ True) (zQ D k Γ L F [500, 505, 513, 514, 515, 518, 11000, 11100]) (zA L sz)) 0 0 (zA L sz) := by
  refine Met.ofW (cc := cX5_enter) (maxL := 4) (ret := none) (by decide) rfl ?_
  intro p e s m args below meth c s₁ B hml hv
  obtain ⟨rfl, hsz, hP, hK, hLn, hE, hI⟩ := hv
  have hx := B.exec
  have hb := B.bytes
  have hr := B.returns
  have hg : ∀ w ∈ zG, w.before _ s = true := fun w h9 => atoms_spec (ws := zwX5_enter) B.pre w (List.mem_cons_of_mem _ h9)
  have hown : s.vm.findClass RX5 = some m.cls := findClass_of_methodNamed B.named
  have hlocks := B.notSynchronized
  subst hsz
  have Z : zC p m c cX5_enter 4 s _ zG RX5 D k L := ⟨⟨hx, hb, hml, hown, hg⟩, hK, hLn, hE⟩
  have h : zH D k Γ L s F s.heap [] := ⟨hP, hI, va_S.rf⟩
  have hl := lv_entry ([.ref th, .int f]) (n := 4) (Nat.le_of_ble_eq_true rfl)
  rw [lg_entry_eq]
  generalize (lg_sl ([.ref th, .int f]) ++ List.replicate (4 - (lg_sl ([.ref th, .int f])).length) Slot.unset).toArray = ls at hl ⊢
  have hl : lv_has ls 4 [(0, .ref th), (1, .int f)] := hl
  clear hP hK hLn hE hI
  generalize hargs : ([.ref th, .int f] : List Value).toArray = args at *
  refine z_start (fun R Q hRf hRl hQ => ?_)
  have hRf : R.frames = 1 := hRf
  have hRl : R.locals = 40 := hRl
  refine lv_aload_n hx hb dX5_enter_0 rfl (lv_at hl 0 rfl) ?_
  refine zt_getk (t := 5) (C := RX5) (T := TX5) (N := 19) Z h hth zin_5 rfl 15 kdp ⟨by decide, rfl, by decide⟩ (zm_RX5 (List.mem_of_getElem? (i := 12) rfl)) (fun _ h9 => h9) dX5_enter_1 ?_
  refine lv_bipush (v := 8) hx hb dX5_enter_4 (by decide) ?_
  refine lv_icmp_lt (tgt := 15) hx hb dX5_enter_6 (by decide) (fun c_1 => ?_) (fun c_1 => ?_)
  · have c_1 := z_lt c_1
    refine lv_aload_n hx hb dX5_enter_15 rfl (lv_at hl 0 rfl) ?_
    refine zt_getk (t := 5) (C := RX5) (T := TX5) (N := 19) Z h hth zin_5 rfl 10 kpr ⟨by decide, rfl, by decide⟩ (zm_RX5 (List.mem_of_getElem? (i := 2) rfl)) (fun _ h9 => h9) dX5_enter_16 ?_
    refine lv_iload_n hx hb dX5_enter_19 rfl (lv_at hl 1 rfl) ?_
    refine zk_Vi (As := [.int f]) (rest := []) (bytes := cX6_hasFunction) (maxL := 2) (ret := (some .boolean)) Z h (zc_X6_hasFunctionB l D k Γ L F s.heap.size pr f fc hpr bf kfc bfc (by have := bf.1; have := bf.2; have := bfc.1; have := bfc.2; have := bdp.1; have := bdp.2; have : (8 : Int32).toInt = 8 := (by decide); omega)) (cwV 1 hg zv_RX5_70 rfl rfl rfl zd_X6_hasFunction ⟨z_leR hRf (by decide), z_leR hRl (by decide)⟩) hpr (by decide) rfl rfl hl.1 rfl (Nat.le_of_ble_eq_true rfl) dX5_enter_20 ⟨Nat.zero_le _, Nat.zero_le _⟩ (fun r_2 F_3 H locs w_4 h hfF_3 => ?_)
    obtain ⟨rfl, br_2, -⟩ := w_4
    refine lv_if_ne (tgt := 27) hx hb dX5_enter_23 (by decide) (fun c_5 => ?_) (fun c_5 => ?_)
    · have c_5 := z_ne c_5
      refine lv_aload_n hx hb dX5_enter_27 rfl (lv_at hl 0 rfl) ?_
      refine zt_getk (t := 5) (C := RX5) (T := TX5) (N := 19) Z h hth zin_5 rfl 10 kpr ⟨by decide, rfl, by decide⟩ (zm_RX5 (List.mem_of_getElem? (i := 2) rfl)) (fun _ h9 => h9) dX5_enter_28 ?_
      refine zt_getr (t := 6) (C := RX6) (T := TX6) (N := 6) Z h hpr zin_6 rfl 2 rfl ⟨by decide, rfl⟩ (zm_RX5 (List.mem_of_getElem? (i := 20) rfl)) (fun _ h9 => h9) dX5_enter_31 (fun a_6 ka_6 ha_6 => ?_)
      refine lv_iload_n hx hb dX5_enter_34 rfl (lv_at hl 1 rfl) ?_
      refine zt_aald (t := 104) (t1 := 2) Z h ha_6 ⟨by decide, rfl⟩ (by decide) bf ⟨by decide, by decide⟩ dX5_enter_35 (fun a_7 ha_7 => ?_)
      refine lv_astore_n (lv' := [(2, .ref a_7), (0, .ref th), (1, .int f)]) hx hb dX5_enter_36 rfl hl (by decide) rfl (fun ls hl => ?_)
      refine lv_aload_n hx hb dX5_enter_37 rfl (lv_at hl 1 rfl) ?_
      refine zt_getr (t := 5) (C := RX5) (T := TX5) (N := 19) Z h hth zin_5 rfl 16 rfl ⟨by decide, rfl⟩ (zm_RX5 (List.mem_of_getElem? (i := 96) rfl)) (fun _ h9 => h9) dX5_enter_38 (fun a_8 ka_8 ha_8 => ?_)
      refine lv_aload_n hx hb dX5_enter_41 rfl (lv_at hl 1 rfl) ?_
      refine zt_getk (t := 5) (C := RX5) (T := TX5) (N := 19) Z h hth zin_5 rfl 15 kdp ⟨by decide, rfl, by decide⟩ (zm_RX5 (List.mem_of_getElem? (i := 12) rfl)) (fun _ h9 => h9) dX5_enter_42 ?_
      refine lv_aload_n hx hb dX5_enter_45 rfl (lv_at hl 1 rfl) ?_
      refine zt_geti (t := 5) (C := RX5) (T := TX5) (N := 19) Z h hth zin_5 rfl 14 rfl ⟨by decide, rfl⟩ (zm_RX5 (List.mem_of_getElem? (i := 31) rfl)) (fun _ h9 => h9) dX5_enter_46 (fun x_9 kx_9 bx_9 => ?_)
      refine zt_iast (t := 111) Z h ha_8 ⟨by decide, rfl⟩ bdp ⟨by decide, by decide⟩ bx_9 dX5_enter_49 (fun H locs F_10 h hfF_10 => ?_)
      refine lv_aload_n hx hb dX5_enter_50 rfl (lv_at hl 1 rfl) ?_
      refine lv_dup hx hb dX5_enter_51 rfl ?_
      refine zt_getk (t := 5) (C := RX5) (T := TX5) (N := 19) Z h hth zin_5 rfl 15 (hfF_10.f hth 15 ⟨by decide, by decide⟩ kdp) ⟨by decide, rfl, by decide⟩ (zm_RX5 (List.mem_of_getElem? (i := 12) rfl)) (fun _ h9 => h9) dX5_enter_52 ?_
      refine lv_iconst (v := 1) hx hb dX5_enter_55 (by decide) ?_
      refine lv_iadd hx hb dX5_enter_56 ?_
      refine zi_add (lo := 1) (hi := 1) bdp (zBc 1 1 (by decide)) (by decide) (fun x_11 bx_11 tx_11 => ?_)
      refine zt_put (t := 5) (C := RX5) (T := TX5) (N := 19) (v := .int x_11) Z h hth zin_5 tyX5 tyX5_ok nmX5 rfl 15 rfl ⟨by decide, rfl⟩ (zm_RX5 (List.mem_of_getElem? (i := 12) rfl)) (fun _ h9 => h9) rfl (zV.i (bx_11.w ⟨by decide, by decide⟩)) rfl rfl dX5_enter_57 (fun H locs F_12 h hfF_12 kF_12 => ?_)
      refine lv_aload_n hx hb dX5_enter_60 rfl (lv_at hl 1 rfl) ?_
      refine lv_aload_n hx hb dX5_enter_61 rfl (lv_at hl 1 rfl) ?_
      refine zt_geti (t := 5) (C := RX5) (T := TX5) (N := 19) Z h hth zin_5 rfl 5 rfl ⟨by decide, rfl⟩ (zm_RX5 (List.mem_of_getElem? (i := 10) rfl)) (fun _ h9 => h9) dX5_enter_62 (fun x_13 kx_13 bx_13 => ?_)
      refine lv_aload_n hx hb dX5_enter_65 rfl (lv_at hl 1 rfl) ?_
      refine zt_getk (t := 5) (C := RX5) (T := TX5) (N := 19) Z h hth zin_5 rfl 15 kF_12 ⟨by decide, rfl, by decide⟩ (zm_RX5 (List.mem_of_getElem? (i := 12) rfl)) (fun _ h9 => h9) dX5_enter_66 ?_
      refine va_mmax hx hb (by rw [hml]; exact hl.1.symm) hown (hg _ (zm_RX5 (List.mem_of_getElem? (i := 97) rfl))) (hg _ (zm_RX5 (List.mem_of_getElem? (i := 98) rfl))) (hg _ (zm_RX5 (List.mem_of_getElem? (i := 24) rfl))) (hg _ (zm_RX5 (List.mem_of_getElem? (i := 99) rfl))) (z_leR hRf (by decide)) (z_leR hRl (Nat.le_of_ble_eq_true rfl)) (Nat.zero_le _) (Nat.zero_le _) dX5_enter_69 ?_
      refine zi_max (lo := 1) (hi := 2147483647) bx_13 bx_11 (by decide) (fun x_14 bx_14 tx_14 => ?_)
      refine zt_put (t := 5) (C := RX5) (T := TX5) (N := 19) (v := .int x_14) Z h hth zin_5 tyX5 tyX5_ok nmX5 rfl 5 rfl ⟨by decide, rfl⟩ (zm_RX5 (List.mem_of_getElem? (i := 10) rfl)) (fun _ h9 => h9) rfl (zV.i (bx_14.w ⟨by decide, by decide⟩)) rfl rfl dX5_enter_72 (fun H locs F_15 h hfF_15 kF_15 => ?_)
      refine lv_iconst (v := 0) hx hb dX5_enter_75 (by decide) ?_
      refine lv_istore_n (lv' := [(3, .int 0), (2, .ref a_7), (0, .ref th), (1, .int f)]) hx hb dX5_enter_76 rfl hl (by decide) rfl (fun ls hl => ?_)
      have j_j77_16 : ∀ (n : Nat) (ls : Array Slot) (y3_j77_16 : Int32) (F_17 : Nat → va_E) (H : Heap) (locs : List Loc), lv_has ls 4 [(3, .int y3_j77_16), (2, .ref a_7), (0, .ref th)] → zB 0 8 y3_j77_16 → zH D k Γ L s F_17 H locs → zFr Γ [11000] F_15 F_17 → (2147483647 - y3_j77_16.toInt).toNat = n → W p l e R s m args below meth c H locs 0 0 Q (F0 m 77 ls []) := by
        intro n
        induction n using Nat.strongRecOn with
        | _ n ih_j77_16 =>
          intro ls y3_j77_16 F_17 H locs hl by3_j77_16 h hfF_17 hn_j77_16
          refine lv_iload_n hx hb dX5_enter_77 rfl (lv_at hl 0 rfl) ?_
          refine lv_bipush (v := 8) hx hb dX5_enter_78 (by decide) ?_
          refine lv_icmp_ge (tgt := 95) hx hb dX5_enter_80 (by decide) (fun c_18 => ?_) (fun c_18 => ?_)
          · have c_18 := z_le c_18
            have by3_j77_16_19 : zB 8 8 y3_j77_16 := zB.leR c_18 (zBc 8 8 (by decide)) by3_j77_16 (by decide)
            refine lv_aload_n hx hb dX5_enter_95 rfl (lv_at hl 1 rfl) ?_
            refine zt_geti (t := 2) (C := RX2) (T := TX2) (N := 9) Z h ha_7 zin_2 rfl 7 rfl ⟨by decide, rfl⟩ (zm_RX5 (List.mem_of_getElem? (i := 21) rfl)) (fun _ h9 => h9) dX5_enter_96 (fun x_20 kx_20 bx_20 => ?_)
            refine lv_iconst (v := 1) hx hb dX5_enter_99 (by decide) ?_
            refine lv_isub hx hb dX5_enter_100 ?_
            refine zi_sub (lo := (-1)) (hi := 2) bx_20 (zBc 1 1 (by decide)) (by decide) (fun x_21 bx_21 tx_21 => ?_)
            refine lv_istore_n (lv' := [(3, .int x_21), (2, .ref a_7), (0, .ref th)]) hx hb dX5_enter_101 rfl hl (by decide) rfl (fun ls hl => ?_)
            have j_j102_22 : ∀ (n : Nat) (ls : Array Slot) (y3_j102_22 : Int32) (F_23 : Nat → va_E) (H : Heap) (locs : List Loc), lv_has ls 4 [(3, .int y3_j102_22), (2, .ref a_7), (0, .ref th)] → zB (-1) 2 y3_j102_22 → zH D k Γ L s F_23 H locs → zFr Γ [518, 11000] F_17 F_23 → (y3_j102_22.toInt + 2147483648).toNat = n → W p l e R s m args below meth c H locs 0 0 Q (F0 m 102 ls []) := by
              intro n
              induction n using Nat.strongRecOn with
              | _ n ih_j102_22 =>
                intro ls y3_j102_22 F_23 H locs hl by3_j102_22 h hfF_23 hn_j102_22
                refine lv_iload_n hx hb dX5_enter_102 rfl (lv_at hl 0 rfl) ?_
                refine lv_if_lt (tgt := 125) hx hb dX5_enter_103 (by decide) (fun c_24 => ?_) (fun c_24 => ?_)
                · have c_24 := z_lt c_24
                  have by3_j102_22_25 : zB (-1) (-1) y3_j102_22 := zB.ltL c_24 by3_j102_22 (zBc 0 0 (by decide)) (by decide)
                  refine lv_aload_n hx hb dX5_enter_125 rfl (lv_at hl 2 rfl) ?_
                  refine lv_aload_n hx hb dX5_enter_126 rfl (lv_at hl 1 rfl) ?_
                  refine zt_geti (t := 2) (C := RX2) (T := TX2) (N := 9) Z h ha_7 zin_2 rfl 5 rfl ⟨by decide, rfl⟩ (zm_RX5 (List.mem_of_getElem? (i := 104) rfl)) (fun _ h9 => h9) dX5_enter_127 (fun x_26 kx_26 bx_26 => ?_)
                  refine zt_put (t := 5) (C := RX5) (T := TX5) (N := 19) (v := .int x_26) Z h hth zin_5 tyX5 tyX5_ok nmX5 rfl 14 rfl ⟨by decide, rfl⟩ (zm_RX5 (List.mem_of_getElem? (i := 31) rfl)) (fun _ h9 => h9) rfl (zV.i bx_26) rfl rfl dX5_enter_130 (fun H locs F_27 h hfF_27 kF_27 => ?_)
                  obtain ⟨x_28, kx_28, bx_28⟩ := z_learn (j := 13) (lo := 0) (hi := 1) h hth (by decide) rfl
                  subst hQ
                  exact W.vret hx hb hr (fun t ht hW => ⟨⟨F_27, rfl, ⟨⟨x_28, x_11, kx_28, bx_28, (hfF_27.f hth 15 ⟨by decide, by decide⟩ (hfF_23.f hth 15 ⟨by decide, by decide⟩ (hfF_17.f hth 15 ⟨by decide, by decide⟩ (hfF_15.f hth 15 ⟨by decide, by decide⟩ kF_12)))), (bx_11.w ⟨by decide, by decide⟩), (by have := by3_j102_22_25.1; have := by3_j102_22_25.2; have := bx_28.1; have := bx_28.2; have := bx_11.1; have := bx_11.2; have := bfc.1; have := bfc.2; have := bx_26.1; have := bx_26.2; have := bx_14.1; have := bx_14.2; have := bx_20.1; have := bx_20.2; have : (0 : Int32).toInt = 0 := (by decide); have : (1 : Int32).toInt = 1 := (by decide); have : (8 : Int32).toInt = 8 := (by decide); omega)⟩, trivial⟩, by rw [ht]; exact h.1, h.2.1, ((((((hfF_10.w (by decide)).trans hfF_12 (by decide)).trans hfF_15 (by decide)).trans hfF_17 (by decide)).trans hfF_23 (by decide)).trans hfF_27 (by decide))⟩, h.2.2.F ht⟩) h.2.2.2.2 dX5_enter_133
                · have c_24 := z_nlt c_24
                  have by3_j102_22_29 : zB 0 2 y3_j102_22 := zB.leR c_24 (zBc 0 0 (by decide)) by3_j102_22 (by decide)
                  refine lv_aload_n hx hb dX5_enter_106 rfl (lv_at hl 2 rfl) ?_
                  refine lv_aload_n hx hb dX5_enter_107 rfl (lv_at hl 1 rfl) ?_
                  refine lv_iload_n hx hb dX5_enter_108 rfl (lv_at hl 0 rfl) ?_
                  refine zk_Vi (As := [.int y3_j102_22]) (rest := [.ref th]) (bytes := cX2_placeAt) (maxL := 2) (ret := (some .int)) Z h (zc_X2_placeAt l D k Γ L F_23 H.size a_7 y3_j102_22 ha_7) (cwV 1 hg zv_RX5_177 rfl rfl rfl zd_X2_placeAt ⟨z_leR hRf (by decide), z_leR hRl (by decide)⟩) ha_7 (by decide) rfl rfl hl.1 rfl (Nat.le_of_ble_eq_true rfl) dX5_enter_109 ⟨Nat.zero_le _, Nat.zero_le _⟩ (fun r_30 F_31 H locs w_32 h hfF_31 => ?_)
                  obtain ⟨rfl, -⟩ := w_32
                  have br_30 := zB.all r_30
                  refine lv_aload_n hx hb dX5_enter_112 rfl (lv_at hl 2 rfl) ?_
                  refine zk_Vi (As := []) (rest := [.int r_30, .ref th]) (bytes := cX5_pop) (maxL := 1) (ret := (some .int)) Z h (zc_X5_pop l D k Γ L F_23 H.size th hth) (cwV 0 hg zv_RX5_160 rfl rfl rfl zd_X5_pop ⟨z_leR hRf (by decide), z_leR hRl (by decide)⟩) hth (by decide) rfl rfl hl.1 rfl (Nat.le_of_ble_eq_true rfl) dX5_enter_113 ⟨Nat.zero_le _, Nat.zero_le _⟩ (fun r_33 F_34 H locs w_35 h hfF_34 => ?_)
                  have br_33 := zB.all r_33
                  refine zk_Vv (As := [.int r_30, .int r_33]) (rest := []) (bytes := cX5_setPlace) (maxL := 4) (ret := none) Z h (zc_X5_setPlace l D k Γ L F_34 H.size th r_30 r_33 hth) (cwV 2 hg zv_RX5_174 rfl rfl rfl zd_X5_setPlace ⟨z_leR hRf (by decide), z_leR hRl (by decide)⟩) hth (by decide) rfl rfl hl.1 rfl (Nat.le_of_ble_eq_true rfl) dX5_enter_116 ⟨Nat.zero_le _, Nat.zero_le _⟩ (fun F_36 H locs w_37 h hfF_36 => ?_)
                  obtain ⟨x_38, ex_38, bx_38, tx_38⟩ := z_inc (n := (-1)) (lo := (-1)) (hi := 1) by3_j102_22_29 (by decide)
                  refine lv_iinc (v := x_38) (lv' := [(3, .int x_38), (2, .ref a_7), (0, .ref th)]) hx hb dX5_enter_119 hl (k := 0) rfl ex_38 (by decide) rfl (fun ls hl => ?_)
                  refine lv_goto (tgt := 102) hx hb dX5_enter_122 (by decide) ?_
                  exact ih_j102_22 _ (by have := bx_38.1; have := bx_38.2; have := bx_11.1; have := bx_11.2; have := bfc.1; have := bfc.2; have := bx_9.1; have := bx_9.2; have := bx_14.1; have := bx_14.2; have := bx_20.1; have := bx_20.2; have : (0 : Int32).toInt = 0 := (by decide); have : (1 : Int32).toInt = 1 := (by decide); have : (8 : Int32).toInt = 8 := (by decide); have := by3_j102_22.1; have := by3_j102_22.2; omega) ls x_38 F_36 H locs (lv_sub hl [0, 1, 2] rfl) (bx_38.w ⟨by decide, by decide⟩) h ((hfF_23.trans hfF_34 (by decide)).trans hfF_36 (by decide)) rfl
            exact j_j102_22 _ ls x_21 F_17 H locs (lv_sub hl [0, 1, 2] rfl) bx_21 h zFr.rf rfl
          · have c_18 := z_nle c_18
            have by3_j77_16_39 : zB 0 7 y3_j77_16 := zB.ltL c_18 by3_j77_16 (zBc 8 8 (by decide)) (by decide)
            refine lv_aload_n hx hb dX5_enter_83 rfl (lv_at hl 2 rfl) ?_
            refine lv_iload_n hx hb dX5_enter_84 rfl (lv_at hl 0 rfl) ?_
            refine lv_iconst (v := 0) hx hb dX5_enter_85 (by decide) ?_
            refine zk_Vv (As := [.int y3_j77_16, .int 0]) (rest := []) (bytes := cX5_setPlace) (maxL := 4) (ret := none) Z h (zc_X5_setPlace l D k Γ L F_17 H.size th y3_j77_16 0 hth) (cwV 2 hg zv_RX5_174 rfl rfl rfl zd_X5_setPlace ⟨z_leR hRf (by decide), z_leR hRl (by decide)⟩) hth (by decide) rfl rfl hl.1 rfl (Nat.le_of_ble_eq_true rfl) dX5_enter_86 ⟨Nat.zero_le _, Nat.zero_le _⟩ (fun F_40 H locs w_41 h hfF_40 => ?_)
            obtain ⟨x_42, ex_42, bx_42, tx_42⟩ := z_inc (n := 1) (lo := 1) (hi := 8) by3_j77_16_39 (by decide)
            refine lv_iinc (v := x_42) (lv' := [(3, .int x_42), (2, .ref a_7), (0, .ref th)]) hx hb dX5_enter_89 hl (k := 0) rfl ex_42 (by decide) rfl (fun ls hl => ?_)
            refine lv_goto (tgt := 77) hx hb dX5_enter_92 (by decide) ?_
            exact ih_j77_16 _ (by have := bx_42.1; have := bx_42.2; have := bx_11.1; have := bx_11.2; have := bfc.1; have := bfc.2; have := bx_9.1; have := bx_9.2; have := bx_14.1; have := bx_14.2; have : (0 : Int32).toInt = 0 := (by decide); have : (1 : Int32).toInt = 1 := (by decide); have : (8 : Int32).toInt = 8 := (by decide); have := by3_j77_16.1; have := by3_j77_16.2; omega) ls x_42 F_40 H locs (lv_sub hl [0, 1, 2] rfl) (bx_42.w ⟨by decide, by decide⟩) h (hfF_17.trans hfF_40 (by decide)) rfl
      exact j_j77_16 _ ls 0 F_15 H locs (lv_sub hl [0, 1, 2] rfl) (zB.of ⟨by decide, by decide⟩) h zFr.rf rfl
    · have c_5 := z_eq c_5
      exact zB.noEq c_5 br_2 (zBc 0 0 (by decide)) (by decide)
  · have c_1 := z_nlt c_1
    exact zB.noLe c_1 (zBc 8 8 (by decide)) bdp (by decide)

set_option maxHeartbeats 4000000 in
set_option maxRecDepth 100000 in
theorem zc_X5_reckon (l : Launch) (D : va_G) (k : Nat → ClassId) (Γ : Nat → Option Nat) (L : List Nat) (F : Nat → va_E) (sz : Nat) (th : Nat) (ac : Int32) (hth : Γ th = some 5) : Met l yX5_reckon zwX5_reckon ({ frames := 1, cells := 0, slots := 0, locals := 21 }) (va_Pc [.ref th, .int ac] (zP D k Γ L F sz)) (va_Qv (fun (u : Nat → va_E) => True) (zQ D k Γ L F [518, 11200]) (zA L sz)) 0 0 (zA L sz) := by
  refine Met.ofW (cc := cX5_reckon) (maxL := 4) (ret := none) (by decide) rfl ?_
  intro p e s m args below meth c s₁ B hml hv
  obtain ⟨rfl, hsz, hP, hK, hLn, hE, hI⟩ := hv
  have hx := B.exec
  have hb := B.bytes
  have hr := B.returns
  have hg : ∀ w ∈ zG, w.before _ s = true := fun w h9 => atoms_spec (ws := zwX5_reckon) B.pre w (List.mem_cons_of_mem _ h9)
  have hown : s.vm.findClass RX5 = some m.cls := findClass_of_methodNamed B.named
  have hlocks := B.notSynchronized
  subst hsz
  have Z : zC p m c cX5_reckon 4 s _ zG RX5 D k L := ⟨⟨hx, hb, hml, hown, hg⟩, hK, hLn, hE⟩
  have h : zH D k Γ L s F s.heap [] := ⟨hP, hI, va_S.rf⟩
  have hl := lv_entry ([.ref th, .int ac]) (n := 4) (Nat.le_of_ble_eq_true rfl)
  rw [lg_entry_eq]
  generalize (lg_sl ([.ref th, .int ac]) ++ List.replicate (4 - (lg_sl ([.ref th, .int ac])).length) Slot.unset).toArray = ls at hl ⊢
  have hl : lv_has ls 4 [(0, .ref th), (1, .int ac)] := hl
  clear hP hK hLn hE hI
  generalize hargs : ([.ref th, .int ac] : List Value).toArray = args at *
  refine z_start (fun R Q hRf hRl hQ => ?_)
  have hRf : R.frames = 1 := hRf
  have hRl : R.locals = 21 := hRl
  refine lv_aload_n hx hb dX5_reckon_0 rfl (lv_at hl 0 rfl) ?_
  refine zk_Vi (As := []) (rest := []) (bytes := cX5_pop) (maxL := 1) (ret := (some .int)) Z h (zc_X5_pop l D k Γ L F s.heap.size th hth) (cwV 0 hg zv_RX5_160 rfl rfl rfl zd_X5_pop ⟨z_leR hRf (by decide), z_leR hRl (by decide)⟩) hth (by decide) rfl rfl hl.1 rfl (Nat.le_of_ble_eq_true rfl) dX5_reckon_1 ⟨Nat.zero_le _, Nat.zero_le _⟩ (fun r_1 F_2 H locs w_3 h hfF_2 => ?_)
  have br_1 := zB.all r_1
  refine lv_istore_n (lv' := [(2, .int r_1), (0, .ref th), (1, .int ac)]) hx hb dX5_reckon_4 rfl hl (by decide) rfl (fun ls hl => ?_)
  refine lv_aload_n hx hb dX5_reckon_5 rfl (lv_at hl 1 rfl) ?_
  refine zk_Vi (As := []) (rest := []) (bytes := cX5_pop) (maxL := 1) (ret := (some .int)) Z h (zc_X5_pop l D k Γ L F_2 H.size th hth) (cwV 0 hg zv_RX5_160 rfl rfl rfl zd_X5_pop ⟨z_leR hRf (by decide), z_leR hRl (by decide)⟩) hth (by decide) rfl rfl hl.1 rfl (Nat.le_of_ble_eq_true rfl) dX5_reckon_6 ⟨Nat.zero_le _, Nat.zero_le _⟩ (fun r_4 F_5 H locs w_6 h hfF_5 => ?_)
  have br_4 := zB.all r_4
  refine lv_istore_n (lv' := [(3, .int r_4), (2, .int r_1), (0, .ref th), (1, .int ac)]) hx hb dX5_reckon_9 rfl hl (by decide) rfl (fun ls hl => ?_)
  refine lv_iload_n hx hb dX5_reckon_10 rfl (lv_at hl 3 rfl) ?_
  by_cases c_7 : ac = 3
  · refine lv_tableIn (off := 33) (tgt := 44) hx hb dX5_reckon_11 (by rw [c_7]; decide) (by rw [c_7]; decide) (by rw [c_7]; rfl) (by decide) ?_
    have bac_7 : zB 3 3 ac := by rw [c_7]; exact zBc _ _ (by decide)
    refine lv_aload_n hx hb dX5_reckon_44 rfl (lv_at hl 2 rfl) ?_
    refine lv_iload_n hx hb dX5_reckon_45 rfl (lv_at hl 0 rfl) ?_
    refine lv_iload_n hx hb dX5_reckon_46 rfl (lv_at hl 1 rfl) ?_
    refine lv_iadd hx hb dX5_reckon_47 ?_
    refine zi_any (fun x_9 bx_9 ex_9 => ?_)
    refine zk_Vv (As := [.int x_9]) (rest := []) (bytes := cX5_push) (maxL := 2) (ret := none) Z h (zc_X5_push l D k Γ L F_5 H.size th x_9 hth) (cwV 1 hg zv_RX5_76 rfl rfl rfl zd_X5_push ⟨z_leR hRf (by decide), z_leR hRl (by decide)⟩) hth (by decide) rfl rfl hl.1 rfl (Nat.le_of_ble_eq_true rfl) dX5_reckon_48 ⟨Nat.zero_le _, Nat.zero_le _⟩ (fun F_10 H locs w_11 h hfF_10 => ?_)
    refine lv_goto (tgt := 162) hx hb dX5_reckon_51 (by decide) ?_
    subst hQ
    exact W.vret hx hb hr (fun t ht hW => ⟨⟨F_10, rfl, trivial, by rw [ht]; exact h.1, h.2.1, (((hfF_2.w (by decide)).trans hfF_5 (by decide)).trans hfF_10 (by decide))⟩, h.2.2.F ht⟩) h.2.2.2.2 dX5_reckon_162
  · by_cases c_12 : ac = 4
    · refine lv_tableIn (off := 43) (tgt := 54) hx hb dX5_reckon_11 (by rw [c_12]; decide) (by rw [c_12]; decide) (by rw [c_12]; rfl) (by decide) ?_
      have bac_12 : zB 4 4 ac := by rw [c_12]; exact zBc _ _ (by decide)
      refine lv_aload_n hx hb dX5_reckon_54 rfl (lv_at hl 2 rfl) ?_
      refine lv_aload_n hx hb dX5_reckon_55 rfl (lv_at hl 2 rfl) ?_
      refine zt_geti (t := 5) (C := RX5) (T := TX5) (N := 19) Z h hth zin_5 rfl 11 rfl ⟨by decide, rfl⟩ (zm_RX5 (List.mem_of_getElem? (i := 4) rfl)) (fun _ h9 => h9) dX5_reckon_56 (fun x_14 kx_14 bx_14 => ?_)
      refine lv_iconst (v := 1) hx hb dX5_reckon_59 (by decide) ?_
      refine lv_icmp_ne (tgt := 69) hx hb dX5_reckon_60 (by decide) (fun c_15 => ?_) (fun c_15 => ?_)
      · have c_15 := z_ne c_15
        refine lv_iload_n hx hb dX5_reckon_69 rfl (lv_at hl 0 rfl) ?_
        refine lv_iload_n hx hb dX5_reckon_70 rfl (lv_at hl 1 rfl) ?_
        refine lv_isub hx hb dX5_reckon_71 ?_
        refine zi_any (fun x_16 bx_16 ex_16 => ?_)
        refine zk_Vv (As := [.int x_16]) (rest := []) (bytes := cX5_push) (maxL := 2) (ret := none) Z h (zc_X5_push l D k Γ L F_5 H.size th x_16 hth) (cwV 1 hg zv_RX5_76 rfl rfl rfl zd_X5_push ⟨z_leR hRf (by decide), z_leR hRl (by decide)⟩) hth (by decide) rfl rfl hl.1 rfl (Nat.le_of_ble_eq_true rfl) dX5_reckon_72 ⟨Nat.zero_le _, Nat.zero_le _⟩ (fun F_17 H locs w_18 h hfF_17 => ?_)
        refine lv_goto (tgt := 162) hx hb dX5_reckon_75 (by decide) ?_
        subst hQ
        exact W.vret hx hb hr (fun t ht hW => ⟨⟨F_17, rfl, trivial, by rw [ht]; exact h.1, h.2.1, (((hfF_2.w (by decide)).trans hfF_5 (by decide)).trans hfF_17 (by decide))⟩, h.2.2.F ht⟩) h.2.2.2.2 dX5_reckon_162
      · have c_15 := z_eq c_15
        have bx_14_19 : zB 1 1 x_14 := zB.eqL (a := 0) (b := 0) c_15 (zBc 1 1 (by decide))
        refine lv_iload_n hx hb dX5_reckon_63 rfl (lv_at hl 1 rfl) ?_
        refine lv_iload_n hx hb dX5_reckon_64 rfl (lv_at hl 0 rfl) ?_
        refine lv_isub hx hb dX5_reckon_65 ?_
        refine zi_any (fun x_20 bx_20 ex_20 => ?_)
        refine lv_goto (tgt := 72) hx hb dX5_reckon_66 (by decide) ?_
        refine zk_Vv (As := [.int x_20]) (rest := []) (bytes := cX5_push) (maxL := 2) (ret := none) Z h (zc_X5_push l D k Γ L F_5 H.size th x_20 hth) (cwV 1 hg zv_RX5_76 rfl rfl rfl zd_X5_push ⟨z_leR hRf (by decide), z_leR hRl (by decide)⟩) hth (by decide) rfl rfl hl.1 rfl (Nat.le_of_ble_eq_true rfl) dX5_reckon_72 ⟨Nat.zero_le _, Nat.zero_le _⟩ (fun F_21 H locs w_22 h hfF_21 => ?_)
        refine lv_goto (tgt := 162) hx hb dX5_reckon_75 (by decide) ?_
        subst hQ
        exact W.vret hx hb hr (fun t ht hW => ⟨⟨F_21, rfl, trivial, by rw [ht]; exact h.1, h.2.1, (((hfF_2.w (by decide)).trans hfF_5 (by decide)).trans hfF_21 (by decide))⟩, h.2.2.F ht⟩) h.2.2.2.2 dX5_reckon_162
    · by_cases c_23 : ac = 5
      · refine lv_tableIn (off := 67) (tgt := 78) hx hb dX5_reckon_11 (by rw [c_23]; decide) (by rw [c_23]; decide) (by rw [c_23]; rfl) (by decide) ?_
        have bac_23 : zB 5 5 ac := by rw [c_23]; exact zBc _ _ (by decide)
        refine lv_aload_n hx hb dX5_reckon_78 rfl (lv_at hl 2 rfl) ?_
        refine lv_aload_n hx hb dX5_reckon_79 rfl (lv_at hl 2 rfl) ?_
        refine zt_geti (t := 5) (C := RX5) (T := TX5) (N := 19) Z h hth zin_5 rfl 11 rfl ⟨by decide, rfl⟩ (zm_RX5 (List.mem_of_getElem? (i := 4) rfl)) (fun _ h9 => h9) dX5_reckon_80 (fun x_25 kx_25 bx_25 => ?_)
        refine lv_iconst (v := 3) hx hb dX5_reckon_83 (by decide) ?_
        refine lv_icmp_ne (tgt := 93) hx hb dX5_reckon_84 (by decide) (fun c_26 => ?_) (fun c_26 => ?_)
        · have c_26 := z_ne c_26
          refine lv_iload_n hx hb dX5_reckon_93 rfl (lv_at hl 0 rfl) ?_
          refine lv_iload_n hx hb dX5_reckon_94 rfl (lv_at hl 1 rfl) ?_
          refine lv_imul hx hb dX5_reckon_95 ?_
          refine zi_any (fun x_27 bx_27 ex_27 => ?_)
          refine zk_Vv (As := [.int x_27]) (rest := []) (bytes := cX5_push) (maxL := 2) (ret := none) Z h (zc_X5_push l D k Γ L F_5 H.size th x_27 hth) (cwV 1 hg zv_RX5_76 rfl rfl rfl zd_X5_push ⟨z_leR hRf (by decide), z_leR hRl (by decide)⟩) hth (by decide) rfl rfl hl.1 rfl (Nat.le_of_ble_eq_true rfl) dX5_reckon_96 ⟨Nat.zero_le _, Nat.zero_le _⟩ (fun F_28 H locs w_29 h hfF_28 => ?_)
          refine lv_goto (tgt := 162) hx hb dX5_reckon_99 (by decide) ?_
          subst hQ
          exact W.vret hx hb hr (fun t ht hW => ⟨⟨F_28, rfl, trivial, by rw [ht]; exact h.1, h.2.1, (((hfF_2.w (by decide)).trans hfF_5 (by decide)).trans hfF_28 (by decide))⟩, h.2.2.F ht⟩) h.2.2.2.2 dX5_reckon_162
        · have c_26 := z_eq c_26
          have bx_25_30 : zB 3 3 x_25 := zB.eqL (a := 0) (b := 0) c_26 (zBc 3 3 (by decide))
          refine lv_iload_n hx hb dX5_reckon_87 rfl (lv_at hl 0 rfl) ?_
          refine lv_iload_n hx hb dX5_reckon_88 rfl (lv_at hl 1 rfl) ?_
          refine lv_iadd hx hb dX5_reckon_89 ?_
          refine zi_any (fun x_31 bx_31 ex_31 => ?_)
          refine lv_goto (tgt := 96) hx hb dX5_reckon_90 (by decide) ?_
          refine zk_Vv (As := [.int x_31]) (rest := []) (bytes := cX5_push) (maxL := 2) (ret := none) Z h (zc_X5_push l D k Γ L F_5 H.size th x_31 hth) (cwV 1 hg zv_RX5_76 rfl rfl rfl zd_X5_push ⟨z_leR hRf (by decide), z_leR hRl (by decide)⟩) hth (by decide) rfl rfl hl.1 rfl (Nat.le_of_ble_eq_true rfl) dX5_reckon_96 ⟨Nat.zero_le _, Nat.zero_le _⟩ (fun F_32 H locs w_33 h hfF_32 => ?_)
          refine lv_goto (tgt := 162) hx hb dX5_reckon_99 (by decide) ?_
          subst hQ
          exact W.vret hx hb hr (fun t ht hW => ⟨⟨F_32, rfl, trivial, by rw [ht]; exact h.1, h.2.1, (((hfF_2.w (by decide)).trans hfF_5 (by decide)).trans hfF_32 (by decide))⟩, h.2.2.F ht⟩) h.2.2.2.2 dX5_reckon_162
      · by_cases c_34 : ac = 6
        · refine lv_tableIn (off := 91) (tgt := 102) hx hb dX5_reckon_11 (by rw [c_34]; decide) (by rw [c_34]; decide) (by rw [c_34]; rfl) (by decide) ?_
          have bac_34 : zB 6 6 ac := by rw [c_34]; exact zBc _ _ (by decide)
          refine lv_aload_n hx hb dX5_reckon_102 rfl (lv_at hl 2 rfl) ?_
          refine lv_iload_n hx hb dX5_reckon_103 rfl (lv_at hl 0 rfl) ?_
          refine lv_iload_n hx hb dX5_reckon_104 rfl (lv_at hl 1 rfl) ?_
          refine lv_icmp_lt (tgt := 120) hx hb dX5_reckon_105 (by decide) (fun c_36 => ?_) (fun c_36 => ?_)
          · have c_36 := z_lt c_36
            have br_4_37 : zB (-2147483648) 2147483646 r_4 := zB.ltL c_36 br_4 br_1 (by decide)
            have br_1_38 : zB (-2147483647) 2147483647 r_1 := zB.ltR c_36 br_4 br_1 (by decide)
            refine lv_iconst (v := 1) hx hb dX5_reckon_120 (by decide) ?_
            refine lv_goto (tgt := 125) hx hb dX5_reckon_121 (by decide) ?_
            refine zk_Vv (As := [.int 1]) (rest := []) (bytes := cX5_push) (maxL := 2) (ret := none) Z h (zc_X5_push l D k Γ L F_5 H.size th 1 hth) (cwV 1 hg zv_RX5_76 rfl rfl rfl zd_X5_push ⟨z_leR hRf (by decide), z_leR hRl (by decide)⟩) hth (by decide) rfl rfl hl.1 rfl (Nat.le_of_ble_eq_true rfl) dX5_reckon_125 ⟨Nat.zero_le _, Nat.zero_le _⟩ (fun F_39 H locs w_40 h hfF_39 => ?_)
            refine lv_goto (tgt := 162) hx hb dX5_reckon_128 (by decide) ?_
            subst hQ
            exact W.vret hx hb hr (fun t ht hW => ⟨⟨F_39, rfl, trivial, by rw [ht]; exact h.1, h.2.1, (((hfF_2.w (by decide)).trans hfF_5 (by decide)).trans hfF_39 (by decide))⟩, h.2.2.F ht⟩) h.2.2.2.2 dX5_reckon_162
          · have c_36 := z_nlt c_36
            refine lv_aload_n hx hb dX5_reckon_108 rfl (lv_at hl 2 rfl) ?_
            refine zt_geti (t := 5) (C := RX5) (T := TX5) (N := 19) Z h hth zin_5 rfl 11 rfl ⟨by decide, rfl⟩ (zm_RX5 (List.mem_of_getElem? (i := 4) rfl)) (fun _ h9 => h9) dX5_reckon_109 (fun x_41 kx_41 bx_41 => ?_)
            refine lv_if_ne (tgt := 124) hx hb dX5_reckon_112 (by decide) (fun c_42 => ?_) (fun c_42 => ?_)
            · have c_42 := z_ne c_42
              refine lv_iconst (v := 0) hx hb dX5_reckon_124 (by decide) ?_
              refine zk_Vv (As := [.int 0]) (rest := []) (bytes := cX5_push) (maxL := 2) (ret := none) Z h (zc_X5_push l D k Γ L F_5 H.size th 0 hth) (cwV 1 hg zv_RX5_76 rfl rfl rfl zd_X5_push ⟨z_leR hRf (by decide), z_leR hRl (by decide)⟩) hth (by decide) rfl rfl hl.1 rfl (Nat.le_of_ble_eq_true rfl) dX5_reckon_125 ⟨Nat.zero_le _, Nat.zero_le _⟩ (fun F_43 H locs w_44 h hfF_43 => ?_)
              refine lv_goto (tgt := 162) hx hb dX5_reckon_128 (by decide) ?_
              subst hQ
              exact W.vret hx hb hr (fun t ht hW => ⟨⟨F_43, rfl, trivial, by rw [ht]; exact h.1, h.2.1, (((hfF_2.w (by decide)).trans hfF_5 (by decide)).trans hfF_43 (by decide))⟩, h.2.2.F ht⟩) h.2.2.2.2 dX5_reckon_162
            · have c_42 := z_eq c_42
              have bx_41_45 : zB 0 0 x_41 := zB.eqL (a := 0) (b := 0) c_42 (zBc 0 0 (by decide))
              refine lv_iload_n hx hb dX5_reckon_115 rfl (lv_at hl 0 rfl) ?_
              refine lv_iload_n hx hb dX5_reckon_116 rfl (lv_at hl 1 rfl) ?_
              refine lv_icmp_ne (tgt := 124) hx hb dX5_reckon_117 (by decide) (fun c_46 => ?_) (fun c_46 => ?_)
              · have c_46 := z_ne c_46
                refine lv_iconst (v := 0) hx hb dX5_reckon_124 (by decide) ?_
                refine zk_Vv (As := [.int 0]) (rest := []) (bytes := cX5_push) (maxL := 2) (ret := none) Z h (zc_X5_push l D k Γ L F_5 H.size th 0 hth) (cwV 1 hg zv_RX5_76 rfl rfl rfl zd_X5_push ⟨z_leR hRf (by decide), z_leR hRl (by decide)⟩) hth (by decide) rfl rfl hl.1 rfl (Nat.le_of_ble_eq_true rfl) dX5_reckon_125 ⟨Nat.zero_le _, Nat.zero_le _⟩ (fun F_47 H locs w_48 h hfF_47 => ?_)
                refine lv_goto (tgt := 162) hx hb dX5_reckon_128 (by decide) ?_
                subst hQ
                exact W.vret hx hb hr (fun t ht hW => ⟨⟨F_47, rfl, trivial, by rw [ht]; exact h.1, h.2.1, (((hfF_2.w (by decide)).trans hfF_5 (by decide)).trans hfF_47 (by decide))⟩, h.2.2.F ht⟩) h.2.2.2.2 dX5_reckon_162
              · have c_46 := z_eq c_46
                refine lv_iconst (v := 1) hx hb dX5_reckon_120 (by decide) ?_
                refine lv_goto (tgt := 125) hx hb dX5_reckon_121 (by decide) ?_
                refine zk_Vv (As := [.int 1]) (rest := []) (bytes := cX5_push) (maxL := 2) (ret := none) Z h (zc_X5_push l D k Γ L F_5 H.size th 1 hth) (cwV 1 hg zv_RX5_76 rfl rfl rfl zd_X5_push ⟨z_leR hRf (by decide), z_leR hRl (by decide)⟩) hth (by decide) rfl rfl hl.1 rfl (Nat.le_of_ble_eq_true rfl) dX5_reckon_125 ⟨Nat.zero_le _, Nat.zero_le _⟩ (fun F_49 H locs w_50 h hfF_49 => ?_)
                refine lv_goto (tgt := 162) hx hb dX5_reckon_128 (by decide) ?_
                subst hQ
                exact W.vret hx hb hr (fun t ht hW => ⟨⟨F_49, rfl, trivial, by rw [ht]; exact h.1, h.2.1, (((hfF_2.w (by decide)).trans hfF_5 (by decide)).trans hfF_49 (by decide))⟩, h.2.2.F ht⟩) h.2.2.2.2 dX5_reckon_162
        · by_cases c_51 : ac = 7
          · refine lv_tableIn (off := 120) (tgt := 131) hx hb dX5_reckon_11 (by rw [c_51]; decide) (by rw [c_51]; decide) (by rw [c_51]; rfl) (by decide) ?_
            have bac_51 : zB 7 7 ac := by rw [c_51]; exact zBc _ _ (by decide)
            refine lv_aload_n hx hb dX5_reckon_131 rfl (lv_at hl 2 rfl) ?_
            refine lv_iload_n hx hb dX5_reckon_132 rfl (lv_at hl 0 rfl) ?_
            refine lv_iload_n hx hb dX5_reckon_133 rfl (lv_at hl 1 rfl) ?_
            refine lv_icmp_le (tgt := 141) hx hb dX5_reckon_134 (by decide) (fun c_53 => ?_) (fun c_53 => ?_)
            · have c_53 := z_le c_53
              refine lv_iconst (v := 0) hx hb dX5_reckon_141 (by decide) ?_
              refine zk_Vv (As := [.int 0]) (rest := []) (bytes := cX5_push) (maxL := 2) (ret := none) Z h (zc_X5_push l D k Γ L F_5 H.size th 0 hth) (cwV 1 hg zv_RX5_76 rfl rfl rfl zd_X5_push ⟨z_leR hRf (by decide), z_leR hRl (by decide)⟩) hth (by decide) rfl rfl hl.1 rfl (Nat.le_of_ble_eq_true rfl) dX5_reckon_142 ⟨Nat.zero_le _, Nat.zero_le _⟩ (fun F_54 H locs w_55 h hfF_54 => ?_)
              refine lv_goto (tgt := 162) hx hb dX5_reckon_145 (by decide) ?_
              subst hQ
              exact W.vret hx hb hr (fun t ht hW => ⟨⟨F_54, rfl, trivial, by rw [ht]; exact h.1, h.2.1, (((hfF_2.w (by decide)).trans hfF_5 (by decide)).trans hfF_54 (by decide))⟩, h.2.2.F ht⟩) h.2.2.2.2 dX5_reckon_162
            · have c_53 := z_nle c_53
              have br_1_56 : zB (-2147483648) 2147483646 r_1 := zB.ltL c_53 br_1 br_4 (by decide)
              have br_4_57 : zB (-2147483647) 2147483647 r_4 := zB.ltR c_53 br_1 br_4 (by decide)
              refine lv_iconst (v := 1) hx hb dX5_reckon_137 (by decide) ?_
              refine lv_goto (tgt := 142) hx hb dX5_reckon_138 (by decide) ?_
              refine zk_Vv (As := [.int 1]) (rest := []) (bytes := cX5_push) (maxL := 2) (ret := none) Z h (zc_X5_push l D k Γ L F_5 H.size th 1 hth) (cwV 1 hg zv_RX5_76 rfl rfl rfl zd_X5_push ⟨z_leR hRf (by decide), z_leR hRl (by decide)⟩) hth (by decide) rfl rfl hl.1 rfl (Nat.le_of_ble_eq_true rfl) dX5_reckon_142 ⟨Nat.zero_le _, Nat.zero_le _⟩ (fun F_58 H locs w_59 h hfF_58 => ?_)
              refine lv_goto (tgt := 162) hx hb dX5_reckon_145 (by decide) ?_
              subst hQ
              exact W.vret hx hb hr (fun t ht hW => ⟨⟨F_58, rfl, trivial, by rw [ht]; exact h.1, h.2.1, (((hfF_2.w (by decide)).trans hfF_5 (by decide)).trans hfF_58 (by decide))⟩, h.2.2.F ht⟩) h.2.2.2.2 dX5_reckon_162
          · have nc_7 : ac.toInt ≠ 3 := z_nev c_7 (by decide)
            have nc_12 : ac.toInt ≠ 4 := z_nev c_12 (by decide)
            have nc_23 : ac.toInt ≠ 5 := z_nev c_23 (by decide)
            have nc_34 : ac.toInt ≠ 6 := z_nev c_34 (by decide)
            have nc_51 : ac.toInt ≠ 7 := z_nev c_51 (by decide)
            refine lv_tableOut (tgt := 148) hx hb dX5_reckon_11 (by have := (zB.all ac).1; have := (zB.all ac).2; omega) (by decide) ?_
            refine lv_aload_n hx hb dX5_reckon_148 rfl (lv_at hl 2 rfl) ?_
            refine lv_iload_n hx hb dX5_reckon_149 rfl (lv_at hl 0 rfl) ?_
            refine lv_iload_n hx hb dX5_reckon_150 rfl (lv_at hl 1 rfl) ?_
            refine lv_icmp_ne (tgt := 158) hx hb dX5_reckon_151 (by decide) (fun c_60 => ?_) (fun c_60 => ?_)
            · have c_60 := z_ne c_60
              refine lv_iconst (v := 0) hx hb dX5_reckon_158 (by decide) ?_
              refine zk_Vv (As := [.int 0]) (rest := []) (bytes := cX5_push) (maxL := 2) (ret := none) Z h (zc_X5_push l D k Γ L F_5 H.size th 0 hth) (cwV 1 hg zv_RX5_76 rfl rfl rfl zd_X5_push ⟨z_leR hRf (by decide), z_leR hRl (by decide)⟩) hth (by decide) rfl rfl hl.1 rfl (Nat.le_of_ble_eq_true rfl) dX5_reckon_159 ⟨Nat.zero_le _, Nat.zero_le _⟩ (fun F_61 H locs w_62 h hfF_61 => ?_)
              subst hQ
              exact W.vret hx hb hr (fun t ht hW => ⟨⟨F_61, rfl, trivial, by rw [ht]; exact h.1, h.2.1, (((hfF_2.w (by decide)).trans hfF_5 (by decide)).trans hfF_61 (by decide))⟩, h.2.2.F ht⟩) h.2.2.2.2 dX5_reckon_162
            · have c_60 := z_eq c_60
              refine lv_iconst (v := 1) hx hb dX5_reckon_154 (by decide) ?_
              refine lv_goto (tgt := 159) hx hb dX5_reckon_155 (by decide) ?_
              refine zk_Vv (As := [.int 1]) (rest := []) (bytes := cX5_push) (maxL := 2) (ret := none) Z h (zc_X5_push l D k Γ L F_5 H.size th 1 hth) (cwV 1 hg zv_RX5_76 rfl rfl rfl zd_X5_push ⟨z_leR hRf (by decide), z_leR hRl (by decide)⟩) hth (by decide) rfl rfl hl.1 rfl (Nat.le_of_ble_eq_true rfl) dX5_reckon_159 ⟨Nat.zero_le _, Nat.zero_le _⟩ (fun F_63 H locs w_64 h hfF_63 => ?_)
              subst hQ
              exact W.vret hx hb hr (fun t ht hW => ⟨⟨F_63, rfl, trivial, by rw [ht]; exact h.1, h.2.1, (((hfF_2.w (by decide)).trans hfF_5 (by decide)).trans hfF_63 (by decide))⟩, h.2.2.F ht⟩) h.2.2.2.2 dX5_reckon_162

set_option maxHeartbeats 4000000 in
set_option maxRecDepth 100000 in
theorem zc_X5_obey (l : Launch) (D : va_G) (k : Nat → ClassId) (Γ : Nat → Option Nat) (L : List Nat) (F : Nat → va_E) (sz : Nat) (th : Nat) (ac : Int32) (nu : Int32) (li : Int32) (sc : Int32) (tc : Int32) (dp : Int32) (pr : Nat) (hth : Γ th = some 5) (ksc : zfld F th 3 = .int sc) (bsc : zB 0 4000000 sc) (ktc : zfld F th 4 = .int tc) (btc : zB 0 4000000 tc) (kdp : zfld F th 15 = .int dp) (bdp : zB 1 8 dp) (kpr : zfld F th 10 = .ref pr) (hpr : Γ pr = some 6) : Met l yX5_obey zwX5_obey ({ frames := 3, cells := 0, slots := 0, locals := 64 }) (va_Pc [.ref th, .int ac, .int nu, .int li] (zP D k Γ L F sz)) (va_Qv (fun (u : Nat → va_E) => (∃ (s9 : Int32), zfld u th 3 = .int s9 ∧ zB 0 4000001 s9 ∧ (s9.toInt ≤ sc.toInt + 1)) ∧ (∃ (t9 : Int32), zfld u th 4 = .int t9 ∧ zB 0 4000001 t9 ∧ (t9.toInt ≤ tc.toInt + 1)) ∧ (∃ (g9 : Int32) (d9 : Int32), zfld u th 13 = .int g9 ∧ zB 0 1 g9 ∧ zfld u th 15 = .int d9 ∧ zB 0 8 d9 ∧ (g9.toInt ≠ 0 → 1 ≤ d9.toInt)) ∧ True) (zQ D k Γ L F [500, 501, 502, 503, 504, 505, 506, 513, 514, 515, 518, 10800, 10900, 11000, 11100, 11200]) (zA L sz)) 0 0 (zA L sz) := by
  refine Met.ofW (cc := cX5_obey) (maxL := 4) (ret := none) (by decide) rfl ?_
  intro p e s m args below meth c s₁ B hml hv
  obtain ⟨rfl, hsz, hP, hK, hLn, hE, hI⟩ := hv
  have hx := B.exec
  have hb := B.bytes
  have hr := B.returns
  have hg : ∀ w ∈ zG, w.before _ s = true := fun w h9 => atoms_spec (ws := zwX5_obey) B.pre w (List.mem_cons_of_mem _ h9)
  have hown : s.vm.findClass RX5 = some m.cls := findClass_of_methodNamed B.named
  have hlocks := B.notSynchronized
  subst hsz
  have Z : zC p m c cX5_obey 4 s _ zG RX5 D k L := ⟨⟨hx, hb, hml, hown, hg⟩, hK, hLn, hE⟩
  have h : zH D k Γ L s F s.heap [] := ⟨hP, hI, va_S.rf⟩
  have hl := lv_entry ([.ref th, .int ac, .int nu, .int li]) (n := 4) (Nat.le_of_ble_eq_true rfl)
  rw [lg_entry_eq]
  generalize (lg_sl ([.ref th, .int ac, .int nu, .int li]) ++ List.replicate (4 - (lg_sl ([.ref th, .int ac, .int nu, .int li])).length) Slot.unset).toArray = ls at hl ⊢
  have hl : lv_has ls 4 [(0, .ref th), (1, .int ac), (2, .int nu), (3, .int li)] := hl
  clear hP hK hLn hE hI
  generalize hargs : ([.ref th, .int ac, .int nu, .int li] : List Value).toArray = args at *
  refine z_start (fun R Q hRf hRl hQ => ?_)
  have hRf : R.frames = 3 := hRf
  have hRl : R.locals = 64 := hRl
  refine lv_iload_n hx hb dX5_obey_0 rfl (lv_at hl 1 rfl) ?_
  by_cases c_1 : ac = 0
  · refine lv_tableIn (off := 83) (tgt := 84) hx hb dX5_obey_1 (by rw [c_1]; decide) (by rw [c_1]; decide) (by rw [c_1]; rfl) (by decide) ?_
    have bac_1 : zB 0 0 ac := by rw [c_1]; exact zBc _ _ (by decide)
    refine lv_aload_n hx hb dX5_obey_84 rfl (lv_at hl 0 rfl) ?_
    refine lv_iload_n hx hb dX5_obey_85 rfl (lv_at hl 3 rfl) ?_
    refine zk_Vv (As := [.int li]) (rest := []) (bytes := cX5_begin) (maxL := 2) (ret := none) Z h (zc_X5_begin l D k Γ L F s.heap.size th li hth) (cwV 1 hg zv_RX5_131 rfl rfl rfl zd_X5_begin ⟨z_leR hRf (by decide), z_leR hRl (by decide)⟩) hth (by decide) rfl rfl hl.1 rfl (Nat.le_of_ble_eq_true rfl) dX5_obey_86 ⟨Nat.zero_le _, Nat.zero_le _⟩ (fun F_3 H locs w_4 h hfF_3 => ?_)
    refine lv_goto (tgt := 183) hx hb dX5_obey_89 (by decide) ?_
    obtain ⟨x_5, kx_5, bx_5⟩ := z_learn (j := 13) (lo := 0) (hi := 1) h hth (by decide) rfl
    subst hQ
    exact W.vret hx hb hr (fun t ht hW => ⟨⟨F_3, rfl, ⟨⟨sc, (hfF_3.f hth 3 ⟨by decide, by decide⟩ ksc), (bsc.w ⟨by decide, by decide⟩), (by have := bac_1.1; have := bac_1.2; have := (zB.all nu).1; have := (zB.all nu).2; have := (zB.all li).1; have := (zB.all li).2; have := bsc.1; have := bsc.2; have := btc.1; have := btc.2; have := bdp.1; have := bdp.2; omega)⟩, ⟨tc, (hfF_3.f hth 4 ⟨by decide, by decide⟩ ktc), (btc.w ⟨by decide, by decide⟩), (by have := bac_1.1; have := bac_1.2; have := (zB.all nu).1; have := (zB.all nu).2; have := (zB.all li).1; have := (zB.all li).2; have := btc.1; have := btc.2; have := bsc.1; have := bsc.2; have := bdp.1; have := bdp.2; omega)⟩, ⟨x_5, dp, kx_5, bx_5, (hfF_3.f hth 15 ⟨by decide, by decide⟩ kdp), (bdp.w ⟨by decide, by decide⟩), (by have := bac_1.1; have := bac_1.2; have := (zB.all nu).1; have := (zB.all nu).2; have := (zB.all li).1; have := (zB.all li).2; have := bx_5.1; have := bx_5.2; have := bdp.1; have := bdp.2; have := bsc.1; have := bsc.2; have := btc.1; have := btc.2; omega)⟩, trivial⟩, by rw [ht]; exact h.1, h.2.1, (hfF_3.w (by decide))⟩, h.2.2.F ht⟩) h.2.2.2.2 dX5_obey_183
  · by_cases c_6 : ac = 1
    · refine lv_tableIn (off := 91) (tgt := 92) hx hb dX5_obey_1 (by rw [c_6]; decide) (by rw [c_6]; decide) (by rw [c_6]; rfl) (by decide) ?_
      have bac_6 : zB 1 1 ac := by rw [c_6]; exact zBc _ _ (by decide)
      refine lv_aload_n hx hb dX5_obey_92 rfl (lv_at hl 0 rfl) ?_
      refine lv_iload_n hx hb dX5_obey_93 rfl (lv_at hl 2 rfl) ?_
      refine zk_Vv (As := [.int nu]) (rest := []) (bytes := cX5_push) (maxL := 2) (ret := none) Z h (zc_X5_push l D k Γ L F s.heap.size th nu hth) (cwV 1 hg zv_RX5_76 rfl rfl rfl zd_X5_push ⟨z_leR hRf (by decide), z_leR hRl (by decide)⟩) hth (by decide) rfl rfl hl.1 rfl (Nat.le_of_ble_eq_true rfl) dX5_obey_94 ⟨Nat.zero_le _, Nat.zero_le _⟩ (fun F_8 H locs w_9 h hfF_8 => ?_)
      refine lv_goto (tgt := 183) hx hb dX5_obey_97 (by decide) ?_
      obtain ⟨x_10, kx_10, bx_10⟩ := z_learn (j := 13) (lo := 0) (hi := 1) h hth (by decide) rfl
      subst hQ
      exact W.vret hx hb hr (fun t ht hW => ⟨⟨F_8, rfl, ⟨⟨sc, (hfF_8.f hth 3 ⟨by decide, by decide⟩ ksc), (bsc.w ⟨by decide, by decide⟩), (by have := bac_6.1; have := bac_6.2; have := (zB.all nu).1; have := (zB.all nu).2; have := (zB.all li).1; have := (zB.all li).2; have := bsc.1; have := bsc.2; have := btc.1; have := btc.2; have := bdp.1; have := bdp.2; omega)⟩, ⟨tc, (hfF_8.f hth 4 ⟨by decide, by decide⟩ ktc), (btc.w ⟨by decide, by decide⟩), (by have := bac_6.1; have := bac_6.2; have := (zB.all nu).1; have := (zB.all nu).2; have := (zB.all li).1; have := (zB.all li).2; have := btc.1; have := btc.2; have := bsc.1; have := bsc.2; have := bdp.1; have := bdp.2; omega)⟩, ⟨x_10, dp, kx_10, bx_10, (hfF_8.f hth 15 ⟨by decide, by decide⟩ kdp), (bdp.w ⟨by decide, by decide⟩), (by have := bac_6.1; have := bac_6.2; have := (zB.all nu).1; have := (zB.all nu).2; have := (zB.all li).1; have := (zB.all li).2; have := bx_10.1; have := bx_10.2; have := bdp.1; have := bdp.2; have := bsc.1; have := bsc.2; have := btc.1; have := btc.2; omega)⟩, trivial⟩, by rw [ht]; exact h.1, h.2.1, (hfF_8.w (by decide))⟩, h.2.2.F ht⟩) h.2.2.2.2 dX5_obey_183
    · by_cases c_11 : ac = 2
      · refine lv_tableIn (off := 99) (tgt := 100) hx hb dX5_obey_1 (by rw [c_11]; decide) (by rw [c_11]; decide) (by rw [c_11]; rfl) (by decide) ?_
        have bac_11 : zB 2 2 ac := by rw [c_11]; exact zBc _ _ (by decide)
        refine lv_aload_n hx hb dX5_obey_100 rfl (lv_at hl 0 rfl) ?_
        refine lv_aload_n hx hb dX5_obey_101 rfl (lv_at hl 0 rfl) ?_
        refine lv_iload_n hx hb dX5_obey_102 rfl (lv_at hl 2 rfl) ?_
        refine zk_Vi (As := [.int nu]) (rest := [.ref th]) (bytes := cX5_placeNow) (maxL := 3) (ret := (some .int)) Z h (zc_X5_placeNow l D k Γ L F s.heap.size th nu hth) (cwV 1 hg zv_RX5_134 rfl rfl rfl zd_X5_placeNow ⟨z_leR hRf (by decide), z_leR hRl (by decide)⟩) hth (by decide) rfl rfl hl.1 rfl (Nat.le_of_ble_eq_true rfl) dX5_obey_103 ⟨Nat.zero_le _, Nat.zero_le _⟩ (fun r_13 F_14 H locs w_15 h hfF_14 => ?_)
        obtain ⟨rfl, -⟩ := w_15
        have br_13 := zB.all r_13
        refine zk_Vv (As := [.int r_13]) (rest := []) (bytes := cX5_push) (maxL := 2) (ret := none) Z h (zc_X5_push l D k Γ L F H.size th r_13 hth) (cwV 1 hg zv_RX5_76 rfl rfl rfl zd_X5_push ⟨z_leR hRf (by decide), z_leR hRl (by decide)⟩) hth (by decide) rfl rfl hl.1 rfl (Nat.le_of_ble_eq_true rfl) dX5_obey_106 ⟨Nat.zero_le _, Nat.zero_le _⟩ (fun F_16 H locs w_17 h hfF_16 => ?_)
        refine lv_goto (tgt := 183) hx hb dX5_obey_109 (by decide) ?_
        obtain ⟨x_18, kx_18, bx_18⟩ := z_learn (j := 13) (lo := 0) (hi := 1) h hth (by decide) rfl
        subst hQ
        exact W.vret hx hb hr (fun t ht hW => ⟨⟨F_16, rfl, ⟨⟨sc, (hfF_16.f hth 3 ⟨by decide, by decide⟩ ksc), (bsc.w ⟨by decide, by decide⟩), (by have := bac_11.1; have := bac_11.2; have := (zB.all nu).1; have := (zB.all nu).2; have := (zB.all li).1; have := (zB.all li).2; have := bsc.1; have := bsc.2; have := btc.1; have := btc.2; have := bdp.1; have := bdp.2; omega)⟩, ⟨tc, (hfF_16.f hth 4 ⟨by decide, by decide⟩ ktc), (btc.w ⟨by decide, by decide⟩), (by have := bac_11.1; have := bac_11.2; have := (zB.all nu).1; have := (zB.all nu).2; have := (zB.all li).1; have := (zB.all li).2; have := btc.1; have := btc.2; have := bsc.1; have := bsc.2; have := bdp.1; have := bdp.2; omega)⟩, ⟨x_18, dp, kx_18, bx_18, (hfF_16.f hth 15 ⟨by decide, by decide⟩ kdp), (bdp.w ⟨by decide, by decide⟩), (by have := bac_11.1; have := bac_11.2; have := (zB.all nu).1; have := (zB.all nu).2; have := (zB.all li).1; have := (zB.all li).2; have := bx_18.1; have := bx_18.2; have := bdp.1; have := bdp.2; have := bsc.1; have := bsc.2; have := btc.1; have := btc.2; omega)⟩, trivial⟩, by rw [ht]; exact h.1, h.2.1, (hfF_16.w (by decide))⟩, h.2.2.F ht⟩) h.2.2.2.2 dX5_obey_183
      · by_cases c_19 : ac = 3
        · refine lv_tableIn (off := 177) (tgt := 178) hx hb dX5_obey_1 (by rw [c_19]; decide) (by rw [c_19]; decide) (by rw [c_19]; rfl) (by decide) ?_
          have bac_19 : zB 3 3 ac := by rw [c_19]; exact zBc _ _ (by decide)
          refine lv_aload_n hx hb dX5_obey_178 rfl (lv_at hl 0 rfl) ?_
          refine lv_iload_n hx hb dX5_obey_179 rfl (lv_at hl 1 rfl) ?_
          refine zk_Vv (As := [.int ac]) (rest := []) (bytes := cX5_reckon) (maxL := 4) (ret := none) Z h (zc_X5_reckon l D k Γ L F s.heap.size th ac hth) (cwV 1 hg zv_RX5_157 rfl rfl rfl zd_X5_reckon ⟨z_leR hRf (by decide), z_leR hRl (by decide)⟩) hth (by decide) rfl rfl hl.1 rfl (Nat.le_of_ble_eq_true rfl) dX5_obey_180 ⟨Nat.zero_le _, Nat.zero_le _⟩ (fun F_21 H locs w_22 h hfF_21 => ?_)
          obtain ⟨x_23, kx_23, bx_23⟩ := z_learn (j := 13) (lo := 0) (hi := 1) h hth (by decide) rfl
          subst hQ
          exact W.vret hx hb hr (fun t ht hW => ⟨⟨F_21, rfl, ⟨⟨sc, (hfF_21.f hth 3 ⟨by decide, by decide⟩ ksc), (bsc.w ⟨by decide, by decide⟩), (by have := bac_19.1; have := bac_19.2; have := (zB.all nu).1; have := (zB.all nu).2; have := (zB.all li).1; have := (zB.all li).2; have := bsc.1; have := bsc.2; have := btc.1; have := btc.2; have := bdp.1; have := bdp.2; omega)⟩, ⟨tc, (hfF_21.f hth 4 ⟨by decide, by decide⟩ ktc), (btc.w ⟨by decide, by decide⟩), (by have := bac_19.1; have := bac_19.2; have := (zB.all nu).1; have := (zB.all nu).2; have := (zB.all li).1; have := (zB.all li).2; have := btc.1; have := btc.2; have := bsc.1; have := bsc.2; have := bdp.1; have := bdp.2; omega)⟩, ⟨x_23, dp, kx_23, bx_23, (hfF_21.f hth 15 ⟨by decide, by decide⟩ kdp), (bdp.w ⟨by decide, by decide⟩), (by have := bac_19.1; have := bac_19.2; have := (zB.all nu).1; have := (zB.all nu).2; have := (zB.all li).1; have := (zB.all li).2; have := bx_23.1; have := bx_23.2; have := bdp.1; have := bdp.2; have := bsc.1; have := bsc.2; have := btc.1; have := btc.2; omega)⟩, trivial⟩, by rw [ht]; exact h.1, h.2.1, (hfF_21.w (by decide))⟩, h.2.2.F ht⟩) h.2.2.2.2 dX5_obey_183
        · by_cases c_24 : ac = 4
          · refine lv_tableIn (off := 177) (tgt := 178) hx hb dX5_obey_1 (by rw [c_24]; decide) (by rw [c_24]; decide) (by rw [c_24]; rfl) (by decide) ?_
            have bac_24 : zB 4 4 ac := by rw [c_24]; exact zBc _ _ (by decide)
            refine lv_aload_n hx hb dX5_obey_178 rfl (lv_at hl 0 rfl) ?_
            refine lv_iload_n hx hb dX5_obey_179 rfl (lv_at hl 1 rfl) ?_
            refine zk_Vv (As := [.int ac]) (rest := []) (bytes := cX5_reckon) (maxL := 4) (ret := none) Z h (zc_X5_reckon l D k Γ L F s.heap.size th ac hth) (cwV 1 hg zv_RX5_157 rfl rfl rfl zd_X5_reckon ⟨z_leR hRf (by decide), z_leR hRl (by decide)⟩) hth (by decide) rfl rfl hl.1 rfl (Nat.le_of_ble_eq_true rfl) dX5_obey_180 ⟨Nat.zero_le _, Nat.zero_le _⟩ (fun F_26 H locs w_27 h hfF_26 => ?_)
            obtain ⟨x_28, kx_28, bx_28⟩ := z_learn (j := 13) (lo := 0) (hi := 1) h hth (by decide) rfl
            subst hQ
            exact W.vret hx hb hr (fun t ht hW => ⟨⟨F_26, rfl, ⟨⟨sc, (hfF_26.f hth 3 ⟨by decide, by decide⟩ ksc), (bsc.w ⟨by decide, by decide⟩), (by have := bac_24.1; have := bac_24.2; have := (zB.all nu).1; have := (zB.all nu).2; have := (zB.all li).1; have := (zB.all li).2; have := bsc.1; have := bsc.2; have := btc.1; have := btc.2; have := bdp.1; have := bdp.2; omega)⟩, ⟨tc, (hfF_26.f hth 4 ⟨by decide, by decide⟩ ktc), (btc.w ⟨by decide, by decide⟩), (by have := bac_24.1; have := bac_24.2; have := (zB.all nu).1; have := (zB.all nu).2; have := (zB.all li).1; have := (zB.all li).2; have := btc.1; have := btc.2; have := bsc.1; have := bsc.2; have := bdp.1; have := bdp.2; omega)⟩, ⟨x_28, dp, kx_28, bx_28, (hfF_26.f hth 15 ⟨by decide, by decide⟩ kdp), (bdp.w ⟨by decide, by decide⟩), (by have := bac_24.1; have := bac_24.2; have := (zB.all nu).1; have := (zB.all nu).2; have := (zB.all li).1; have := (zB.all li).2; have := bx_28.1; have := bx_28.2; have := bdp.1; have := bdp.2; have := bsc.1; have := bsc.2; have := btc.1; have := btc.2; omega)⟩, trivial⟩, by rw [ht]; exact h.1, h.2.1, (hfF_26.w (by decide))⟩, h.2.2.F ht⟩) h.2.2.2.2 dX5_obey_183
          · by_cases c_29 : ac = 5
            · refine lv_tableIn (off := 177) (tgt := 178) hx hb dX5_obey_1 (by rw [c_29]; decide) (by rw [c_29]; decide) (by rw [c_29]; rfl) (by decide) ?_
              have bac_29 : zB 5 5 ac := by rw [c_29]; exact zBc _ _ (by decide)
              refine lv_aload_n hx hb dX5_obey_178 rfl (lv_at hl 0 rfl) ?_
              refine lv_iload_n hx hb dX5_obey_179 rfl (lv_at hl 1 rfl) ?_
              refine zk_Vv (As := [.int ac]) (rest := []) (bytes := cX5_reckon) (maxL := 4) (ret := none) Z h (zc_X5_reckon l D k Γ L F s.heap.size th ac hth) (cwV 1 hg zv_RX5_157 rfl rfl rfl zd_X5_reckon ⟨z_leR hRf (by decide), z_leR hRl (by decide)⟩) hth (by decide) rfl rfl hl.1 rfl (Nat.le_of_ble_eq_true rfl) dX5_obey_180 ⟨Nat.zero_le _, Nat.zero_le _⟩ (fun F_31 H locs w_32 h hfF_31 => ?_)
              obtain ⟨x_33, kx_33, bx_33⟩ := z_learn (j := 13) (lo := 0) (hi := 1) h hth (by decide) rfl
              subst hQ
              exact W.vret hx hb hr (fun t ht hW => ⟨⟨F_31, rfl, ⟨⟨sc, (hfF_31.f hth 3 ⟨by decide, by decide⟩ ksc), (bsc.w ⟨by decide, by decide⟩), (by have := bac_29.1; have := bac_29.2; have := (zB.all nu).1; have := (zB.all nu).2; have := (zB.all li).1; have := (zB.all li).2; have := bsc.1; have := bsc.2; have := btc.1; have := btc.2; have := bdp.1; have := bdp.2; omega)⟩, ⟨tc, (hfF_31.f hth 4 ⟨by decide, by decide⟩ ktc), (btc.w ⟨by decide, by decide⟩), (by have := bac_29.1; have := bac_29.2; have := (zB.all nu).1; have := (zB.all nu).2; have := (zB.all li).1; have := (zB.all li).2; have := btc.1; have := btc.2; have := bsc.1; have := bsc.2; have := bdp.1; have := bdp.2; omega)⟩, ⟨x_33, dp, kx_33, bx_33, (hfF_31.f hth 15 ⟨by decide, by decide⟩ kdp), (bdp.w ⟨by decide, by decide⟩), (by have := bac_29.1; have := bac_29.2; have := (zB.all nu).1; have := (zB.all nu).2; have := (zB.all li).1; have := (zB.all li).2; have := bx_33.1; have := bx_33.2; have := bdp.1; have := bdp.2; have := bsc.1; have := bsc.2; have := btc.1; have := btc.2; omega)⟩, trivial⟩, by rw [ht]; exact h.1, h.2.1, (hfF_31.w (by decide))⟩, h.2.2.F ht⟩) h.2.2.2.2 dX5_obey_183
            · by_cases c_34 : ac = 6
              · refine lv_tableIn (off := 177) (tgt := 178) hx hb dX5_obey_1 (by rw [c_34]; decide) (by rw [c_34]; decide) (by rw [c_34]; rfl) (by decide) ?_
                have bac_34 : zB 6 6 ac := by rw [c_34]; exact zBc _ _ (by decide)
                refine lv_aload_n hx hb dX5_obey_178 rfl (lv_at hl 0 rfl) ?_
                refine lv_iload_n hx hb dX5_obey_179 rfl (lv_at hl 1 rfl) ?_
                refine zk_Vv (As := [.int ac]) (rest := []) (bytes := cX5_reckon) (maxL := 4) (ret := none) Z h (zc_X5_reckon l D k Γ L F s.heap.size th ac hth) (cwV 1 hg zv_RX5_157 rfl rfl rfl zd_X5_reckon ⟨z_leR hRf (by decide), z_leR hRl (by decide)⟩) hth (by decide) rfl rfl hl.1 rfl (Nat.le_of_ble_eq_true rfl) dX5_obey_180 ⟨Nat.zero_le _, Nat.zero_le _⟩ (fun F_36 H locs w_37 h hfF_36 => ?_)
                obtain ⟨x_38, kx_38, bx_38⟩ := z_learn (j := 13) (lo := 0) (hi := 1) h hth (by decide) rfl
                subst hQ
                exact W.vret hx hb hr (fun t ht hW => ⟨⟨F_36, rfl, ⟨⟨sc, (hfF_36.f hth 3 ⟨by decide, by decide⟩ ksc), (bsc.w ⟨by decide, by decide⟩), (by have := bac_34.1; have := bac_34.2; have := (zB.all nu).1; have := (zB.all nu).2; have := (zB.all li).1; have := (zB.all li).2; have := bsc.1; have := bsc.2; have := btc.1; have := btc.2; have := bdp.1; have := bdp.2; omega)⟩, ⟨tc, (hfF_36.f hth 4 ⟨by decide, by decide⟩ ktc), (btc.w ⟨by decide, by decide⟩), (by have := bac_34.1; have := bac_34.2; have := (zB.all nu).1; have := (zB.all nu).2; have := (zB.all li).1; have := (zB.all li).2; have := btc.1; have := btc.2; have := bsc.1; have := bsc.2; have := bdp.1; have := bdp.2; omega)⟩, ⟨x_38, dp, kx_38, bx_38, (hfF_36.f hth 15 ⟨by decide, by decide⟩ kdp), (bdp.w ⟨by decide, by decide⟩), (by have := bac_34.1; have := bac_34.2; have := (zB.all nu).1; have := (zB.all nu).2; have := (zB.all li).1; have := (zB.all li).2; have := bx_38.1; have := bx_38.2; have := bdp.1; have := bdp.2; have := bsc.1; have := bsc.2; have := btc.1; have := btc.2; omega)⟩, trivial⟩, by rw [ht]; exact h.1, h.2.1, (hfF_36.w (by decide))⟩, h.2.2.F ht⟩) h.2.2.2.2 dX5_obey_183
              · by_cases c_39 : ac = 7
                · refine lv_tableIn (off := 177) (tgt := 178) hx hb dX5_obey_1 (by rw [c_39]; decide) (by rw [c_39]; decide) (by rw [c_39]; rfl) (by decide) ?_
                  have bac_39 : zB 7 7 ac := by rw [c_39]; exact zBc _ _ (by decide)
                  refine lv_aload_n hx hb dX5_obey_178 rfl (lv_at hl 0 rfl) ?_
                  refine lv_iload_n hx hb dX5_obey_179 rfl (lv_at hl 1 rfl) ?_
                  refine zk_Vv (As := [.int ac]) (rest := []) (bytes := cX5_reckon) (maxL := 4) (ret := none) Z h (zc_X5_reckon l D k Γ L F s.heap.size th ac hth) (cwV 1 hg zv_RX5_157 rfl rfl rfl zd_X5_reckon ⟨z_leR hRf (by decide), z_leR hRl (by decide)⟩) hth (by decide) rfl rfl hl.1 rfl (Nat.le_of_ble_eq_true rfl) dX5_obey_180 ⟨Nat.zero_le _, Nat.zero_le _⟩ (fun F_41 H locs w_42 h hfF_41 => ?_)
                  obtain ⟨x_43, kx_43, bx_43⟩ := z_learn (j := 13) (lo := 0) (hi := 1) h hth (by decide) rfl
                  subst hQ
                  exact W.vret hx hb hr (fun t ht hW => ⟨⟨F_41, rfl, ⟨⟨sc, (hfF_41.f hth 3 ⟨by decide, by decide⟩ ksc), (bsc.w ⟨by decide, by decide⟩), (by have := bac_39.1; have := bac_39.2; have := (zB.all nu).1; have := (zB.all nu).2; have := (zB.all li).1; have := (zB.all li).2; have := bsc.1; have := bsc.2; have := btc.1; have := btc.2; have := bdp.1; have := bdp.2; omega)⟩, ⟨tc, (hfF_41.f hth 4 ⟨by decide, by decide⟩ ktc), (btc.w ⟨by decide, by decide⟩), (by have := bac_39.1; have := bac_39.2; have := (zB.all nu).1; have := (zB.all nu).2; have := (zB.all li).1; have := (zB.all li).2; have := btc.1; have := btc.2; have := bsc.1; have := bsc.2; have := bdp.1; have := bdp.2; omega)⟩, ⟨x_43, dp, kx_43, bx_43, (hfF_41.f hth 15 ⟨by decide, by decide⟩ kdp), (bdp.w ⟨by decide, by decide⟩), (by have := bac_39.1; have := bac_39.2; have := (zB.all nu).1; have := (zB.all nu).2; have := (zB.all li).1; have := (zB.all li).2; have := bx_43.1; have := bx_43.2; have := bdp.1; have := bdp.2; have := bsc.1; have := bsc.2; have := btc.1; have := btc.2; omega)⟩, trivial⟩, by rw [ht]; exact h.1, h.2.1, (hfF_41.w (by decide))⟩, h.2.2.F ht⟩) h.2.2.2.2 dX5_obey_183
                · by_cases c_44 : ac = 8
                  · refine lv_tableIn (off := 177) (tgt := 178) hx hb dX5_obey_1 (by rw [c_44]; decide) (by rw [c_44]; decide) (by rw [c_44]; rfl) (by decide) ?_
                    have bac_44 : zB 8 8 ac := by rw [c_44]; exact zBc _ _ (by decide)
                    refine lv_aload_n hx hb dX5_obey_178 rfl (lv_at hl 0 rfl) ?_
                    refine lv_iload_n hx hb dX5_obey_179 rfl (lv_at hl 1 rfl) ?_
                    refine zk_Vv (As := [.int ac]) (rest := []) (bytes := cX5_reckon) (maxL := 4) (ret := none) Z h (zc_X5_reckon l D k Γ L F s.heap.size th ac hth) (cwV 1 hg zv_RX5_157 rfl rfl rfl zd_X5_reckon ⟨z_leR hRf (by decide), z_leR hRl (by decide)⟩) hth (by decide) rfl rfl hl.1 rfl (Nat.le_of_ble_eq_true rfl) dX5_obey_180 ⟨Nat.zero_le _, Nat.zero_le _⟩ (fun F_46 H locs w_47 h hfF_46 => ?_)
                    obtain ⟨x_48, kx_48, bx_48⟩ := z_learn (j := 13) (lo := 0) (hi := 1) h hth (by decide) rfl
                    subst hQ
                    exact W.vret hx hb hr (fun t ht hW => ⟨⟨F_46, rfl, ⟨⟨sc, (hfF_46.f hth 3 ⟨by decide, by decide⟩ ksc), (bsc.w ⟨by decide, by decide⟩), (by have := bac_44.1; have := bac_44.2; have := (zB.all nu).1; have := (zB.all nu).2; have := (zB.all li).1; have := (zB.all li).2; have := bsc.1; have := bsc.2; have := btc.1; have := btc.2; have := bdp.1; have := bdp.2; omega)⟩, ⟨tc, (hfF_46.f hth 4 ⟨by decide, by decide⟩ ktc), (btc.w ⟨by decide, by decide⟩), (by have := bac_44.1; have := bac_44.2; have := (zB.all nu).1; have := (zB.all nu).2; have := (zB.all li).1; have := (zB.all li).2; have := btc.1; have := btc.2; have := bsc.1; have := bsc.2; have := bdp.1; have := bdp.2; omega)⟩, ⟨x_48, dp, kx_48, bx_48, (hfF_46.f hth 15 ⟨by decide, by decide⟩ kdp), (bdp.w ⟨by decide, by decide⟩), (by have := bac_44.1; have := bac_44.2; have := (zB.all nu).1; have := (zB.all nu).2; have := (zB.all li).1; have := (zB.all li).2; have := bx_48.1; have := bx_48.2; have := bdp.1; have := bdp.2; have := bsc.1; have := bsc.2; have := btc.1; have := btc.2; omega)⟩, trivial⟩, by rw [ht]; exact h.1, h.2.1, (hfF_46.w (by decide))⟩, h.2.2.F ht⟩) h.2.2.2.2 dX5_obey_183
                  · by_cases c_49 : ac = 9
                    · refine lv_tableIn (off := 111) (tgt := 112) hx hb dX5_obey_1 (by rw [c_49]; decide) (by rw [c_49]; decide) (by rw [c_49]; rfl) (by decide) ?_
                      have bac_49 : zB 9 9 ac := by rw [c_49]; exact zBc _ _ (by decide)
                      refine lv_aload_n hx hb dX5_obey_112 rfl (lv_at hl 0 rfl) ?_
                      refine lv_iload_n hx hb dX5_obey_113 rfl (lv_at hl 2 rfl) ?_
                      refine zk_Vv (As := [.int nu]) (rest := []) (bytes := cX5_enter) (maxL := 4) (ret := none) Z h (zc_X5_enter l D k Γ L F s.heap.size th nu dp pr hth kdp bdp kpr hpr) (cwV 1 hg zv_RX5_95 rfl rfl rfl zd_X5_enter ⟨z_leR hRf (by decide), z_leR hRl (by decide)⟩) hth (by decide) rfl rfl hl.1 rfl (Nat.le_of_ble_eq_true rfl) dX5_obey_114 ⟨Nat.zero_le _, Nat.zero_le _⟩ (fun F_51 H locs w_52 h hfF_51 => ?_)
                      obtain ⟨⟨x_54, x_55, kx_54, bx_54, kx_55, bx_55, q_53⟩, -⟩ := w_52
                      refine lv_goto (tgt := 183) hx hb dX5_obey_117 (by decide) ?_
                      subst hQ
                      exact W.vret hx hb hr (fun t ht hW => ⟨⟨F_51, rfl, ⟨⟨sc, (hfF_51.f hth 3 ⟨by decide, by decide⟩ ksc), (bsc.w ⟨by decide, by decide⟩), (by have := bac_49.1; have := bac_49.2; have := (zB.all nu).1; have := (zB.all nu).2; have := (zB.all li).1; have := (zB.all li).2; have := bsc.1; have := bsc.2; have := btc.1; have := btc.2; have := bx_55.1; have := bx_55.2; have := bx_54.1; have := bx_54.2; omega)⟩, ⟨tc, (hfF_51.f hth 4 ⟨by decide, by decide⟩ ktc), (btc.w ⟨by decide, by decide⟩), (by have := bac_49.1; have := bac_49.2; have := (zB.all nu).1; have := (zB.all nu).2; have := (zB.all li).1; have := (zB.all li).2; have := btc.1; have := btc.2; have := bsc.1; have := bsc.2; have := bx_55.1; have := bx_55.2; have := bx_54.1; have := bx_54.2; omega)⟩, ⟨x_54, x_55, kx_54, bx_54, kx_55, bx_55, (by have := bac_49.1; have := bac_49.2; have := (zB.all nu).1; have := (zB.all nu).2; have := (zB.all li).1; have := (zB.all li).2; have := bx_54.1; have := bx_54.2; have := bx_55.1; have := bx_55.2; have := bsc.1; have := bsc.2; have := btc.1; have := btc.2; omega)⟩, trivial⟩, by rw [ht]; exact h.1, h.2.1, (hfF_51.w (by decide))⟩, h.2.2.F ht⟩) h.2.2.2.2 dX5_obey_183
                    · by_cases c_56 : ac = 10
                      · refine lv_tableIn (off := 119) (tgt := 120) hx hb dX5_obey_1 (by rw [c_56]; decide) (by rw [c_56]; decide) (by rw [c_56]; rfl) (by decide) ?_
                        have bac_56 : zB 10 10 ac := by rw [c_56]; exact zBc _ _ (by decide)
                        refine lv_aload_n hx hb dX5_obey_120 rfl (lv_at hl 0 rfl) ?_
                        refine lv_iload_n hx hb dX5_obey_121 rfl (lv_at hl 2 rfl) ?_
                        refine lv_iload_n hx hb dX5_obey_122 rfl (lv_at hl 3 rfl) ?_
                        refine zk_Vv (As := [.int nu, .int li]) (rest := []) (bytes := cX5_set) (maxL := 4) (ret := none) Z h (zc_X5_set l D k Γ L F s.heap.size th nu li tc hth ktc btc) (cwV 2 hg zv_RX5_138 rfl rfl rfl zd_X5_set ⟨z_leR hRf (by decide), z_leR hRl (by decide)⟩) hth (by decide) rfl rfl hl.1 rfl (Nat.le_of_ble_eq_true rfl) dX5_obey_123 ⟨Nat.zero_le _, Nat.zero_le _⟩ (fun F_58 H locs w_59 h hfF_58 => ?_)
                        obtain ⟨⟨x_61, kx_61, bx_61, q_60⟩, -⟩ := w_59
                        refine lv_goto (tgt := 183) hx hb dX5_obey_126 (by decide) ?_
                        obtain ⟨x_62, kx_62, bx_62⟩ := z_learn (j := 13) (lo := 0) (hi := 1) h hth (by decide) rfl
                        subst hQ
                        exact W.vret hx hb hr (fun t ht hW => ⟨⟨F_58, rfl, ⟨⟨sc, (hfF_58.f hth 3 ⟨by decide, by decide⟩ ksc), (bsc.w ⟨by decide, by decide⟩), (by have := bac_56.1; have := bac_56.2; have := (zB.all nu).1; have := (zB.all nu).2; have := (zB.all li).1; have := (zB.all li).2; have := bsc.1; have := bsc.2; have := bx_61.1; have := bx_61.2; have := bdp.1; have := bdp.2; omega)⟩, ⟨x_61, kx_61, bx_61, (by have := bac_56.1; have := bac_56.2; have := (zB.all nu).1; have := (zB.all nu).2; have := (zB.all li).1; have := (zB.all li).2; have := bx_61.1; have := bx_61.2; have := bsc.1; have := bsc.2; have := bdp.1; have := bdp.2; omega)⟩, ⟨x_62, dp, kx_62, bx_62, (hfF_58.f hth 15 ⟨by decide, by decide⟩ kdp), (bdp.w ⟨by decide, by decide⟩), (by have := bac_56.1; have := bac_56.2; have := (zB.all nu).1; have := (zB.all nu).2; have := (zB.all li).1; have := (zB.all li).2; have := bx_62.1; have := bx_62.2; have := bdp.1; have := bdp.2; have := bsc.1; have := bsc.2; have := bx_61.1; have := bx_61.2; omega)⟩, trivial⟩, by rw [ht]; exact h.1, h.2.1, (hfF_58.w (by decide))⟩, h.2.2.F ht⟩) h.2.2.2.2 dX5_obey_183
                      · by_cases c_63 : ac = 11
                        · refine lv_tableIn (off := 128) (tgt := 129) hx hb dX5_obey_1 (by rw [c_63]; decide) (by rw [c_63]; decide) (by rw [c_63]; rfl) (by decide) ?_
                          have bac_63 : zB 11 11 ac := by rw [c_63]; exact zBc _ _ (by decide)
                          refine lv_aload_n hx hb dX5_obey_129 rfl (lv_at hl 0 rfl) ?_
                          refine lv_iload_n hx hb dX5_obey_130 rfl (lv_at hl 3 rfl) ?_
                          refine zk_Vv (As := [.int li]) (rest := []) (bytes := cX5_say) (maxL := 3) (ret := none) Z h (zc_X5_say l D k Γ L F s.heap.size th li sc tc hth ksc bsc ktc btc) (cwV 1 hg zv_RX5_142 rfl rfl rfl zd_X5_say ⟨z_leR hRf (by decide), z_leR hRl (by decide)⟩) hth (by decide) rfl rfl hl.1 rfl (Nat.le_of_ble_eq_true rfl) dX5_obey_131 ⟨Nat.zero_le _, Nat.zero_le _⟩ (fun F_65 H locs w_66 h hfF_65 => ?_)
                          obtain ⟨⟨x_68, kx_68, bx_68, q_67⟩, ⟨x_70, kx_70, bx_70, q_69⟩, -⟩ := w_66
                          refine lv_goto (tgt := 183) hx hb dX5_obey_134 (by decide) ?_
                          obtain ⟨x_71, kx_71, bx_71⟩ := z_learn (j := 13) (lo := 0) (hi := 1) h hth (by decide) rfl
                          subst hQ
                          exact W.vret hx hb hr (fun t ht hW => ⟨⟨F_65, rfl, ⟨⟨x_68, kx_68, bx_68, (by have := bac_63.1; have := bac_63.2; have := (zB.all nu).1; have := (zB.all nu).2; have := (zB.all li).1; have := (zB.all li).2; have := bx_68.1; have := bx_68.2; have := bx_70.1; have := bx_70.2; have := bdp.1; have := bdp.2; omega)⟩, ⟨x_70, kx_70, bx_70, (by have := bac_63.1; have := bac_63.2; have := (zB.all nu).1; have := (zB.all nu).2; have := (zB.all li).1; have := (zB.all li).2; have := bx_70.1; have := bx_70.2; have := bx_68.1; have := bx_68.2; have := bdp.1; have := bdp.2; omega)⟩, ⟨x_71, dp, kx_71, bx_71, (hfF_65.f hth 15 ⟨by decide, by decide⟩ kdp), (bdp.w ⟨by decide, by decide⟩), (by have := bac_63.1; have := bac_63.2; have := (zB.all nu).1; have := (zB.all nu).2; have := (zB.all li).1; have := (zB.all li).2; have := bx_71.1; have := bx_71.2; have := bdp.1; have := bdp.2; have := bx_68.1; have := bx_68.2; have := bx_70.1; have := bx_70.2; omega)⟩, trivial⟩, by rw [ht]; exact h.1, h.2.1, (hfF_65.w (by decide))⟩, h.2.2.F ht⟩) h.2.2.2.2 dX5_obey_183
                        · by_cases c_72 : ac = 12
                          · refine lv_tableIn (off := 136) (tgt := 137) hx hb dX5_obey_1 (by rw [c_72]; decide) (by rw [c_72]; decide) (by rw [c_72]; rfl) (by decide) ?_
                            have bac_72 : zB 12 12 ac := by rw [c_72]; exact zBc _ _ (by decide)
                            refine lv_aload_n hx hb dX5_obey_137 rfl (lv_at hl 0 rfl) ?_
                            refine lv_iload_n hx hb dX5_obey_138 rfl (lv_at hl 3 rfl) ?_
                            refine zk_Vv (As := [.int li]) (rest := []) (bytes := cX5_giveBack) (maxL := 3) (ret := none) Z h (zc_X5_giveBack l D k Γ L F s.heap.size th li tc dp hth ktc btc kdp bdp) (cwV 1 hg zv_RX5_145 rfl rfl rfl zd_X5_giveBack ⟨z_leR hRf (by decide), z_leR hRl (by decide)⟩) hth (by decide) rfl rfl hl.1 rfl (Nat.le_of_ble_eq_true rfl) dX5_obey_139 ⟨Nat.zero_le _, Nat.zero_le _⟩ (fun F_74 H locs w_75 h hfF_74 => ?_)
                            obtain ⟨⟨x_77, kx_77, bx_77, q_76⟩, ⟨x_79, x_80, kx_79, bx_79, kx_80, bx_80, q_78⟩, -⟩ := w_75
                            refine lv_goto (tgt := 183) hx hb dX5_obey_142 (by decide) ?_
                            subst hQ
                            exact W.vret hx hb hr (fun t ht hW => ⟨⟨F_74, rfl, ⟨⟨sc, (hfF_74.f hth 3 ⟨by decide, by decide⟩ ksc), (bsc.w ⟨by decide, by decide⟩), (by have := bac_72.1; have := bac_72.2; have := (zB.all nu).1; have := (zB.all nu).2; have := (zB.all li).1; have := (zB.all li).2; have := bsc.1; have := bsc.2; have := bx_77.1; have := bx_77.2; have := bx_80.1; have := bx_80.2; have := bx_79.1; have := bx_79.2; omega)⟩, ⟨x_77, kx_77, bx_77, (by have := bac_72.1; have := bac_72.2; have := (zB.all nu).1; have := (zB.all nu).2; have := (zB.all li).1; have := (zB.all li).2; have := bx_77.1; have := bx_77.2; have := bsc.1; have := bsc.2; have := bx_80.1; have := bx_80.2; have := bx_79.1; have := bx_79.2; omega)⟩, ⟨x_79, x_80, kx_79, bx_79, kx_80, bx_80, (by have := bac_72.1; have := bac_72.2; have := (zB.all nu).1; have := (zB.all nu).2; have := (zB.all li).1; have := (zB.all li).2; have := bx_79.1; have := bx_79.2; have := bx_80.1; have := bx_80.2; have := bsc.1; have := bsc.2; have := bx_77.1; have := bx_77.2; omega)⟩, trivial⟩, by rw [ht]; exact h.1, h.2.1, (hfF_74.w (by decide))⟩, h.2.2.F ht⟩) h.2.2.2.2 dX5_obey_183
                          · by_cases c_81 : ac = 13
                            · refine lv_tableIn (off := 144) (tgt := 145) hx hb dX5_obey_1 (by rw [c_81]; decide) (by rw [c_81]; decide) (by rw [c_81]; rfl) (by decide) ?_
                              have bac_81 : zB 13 13 ac := by rw [c_81]; exact zBc _ _ (by decide)
                              refine lv_aload_n hx hb dX5_obey_145 rfl (lv_at hl 0 rfl) ?_
                              refine lv_iload_n hx hb dX5_obey_146 rfl (lv_at hl 2 rfl) ?_
                              refine lv_iload_n hx hb dX5_obey_147 rfl (lv_at hl 3 rfl) ?_
                              refine zk_Vv (As := [.int nu, .int li]) (rest := []) (bytes := cX5_branch) (maxL := 4) (ret := none) Z h (zc_X5_branch l D k Γ L F s.heap.size th nu li tc hth ktc btc) (cwV 2 hg zv_RX5_148 rfl rfl rfl zd_X5_branch ⟨z_leR hRf (by decide), z_leR hRl (by decide)⟩) hth (by decide) rfl rfl hl.1 rfl (Nat.le_of_ble_eq_true rfl) dX5_obey_148 ⟨Nat.zero_le _, Nat.zero_le _⟩ (fun F_83 H locs w_84 h hfF_83 => ?_)
                              obtain ⟨⟨x_86, kx_86, bx_86, q_85⟩, -⟩ := w_84
                              refine lv_goto (tgt := 183) hx hb dX5_obey_151 (by decide) ?_
                              obtain ⟨x_87, kx_87, bx_87⟩ := z_learn (j := 13) (lo := 0) (hi := 1) h hth (by decide) rfl
                              subst hQ
                              exact W.vret hx hb hr (fun t ht hW => ⟨⟨F_83, rfl, ⟨⟨sc, (hfF_83.f hth 3 ⟨by decide, by decide⟩ ksc), (bsc.w ⟨by decide, by decide⟩), (by have := bac_81.1; have := bac_81.2; have := (zB.all nu).1; have := (zB.all nu).2; have := (zB.all li).1; have := (zB.all li).2; have := bsc.1; have := bsc.2; have := bx_86.1; have := bx_86.2; have := bdp.1; have := bdp.2; omega)⟩, ⟨x_86, kx_86, bx_86, (by have := bac_81.1; have := bac_81.2; have := (zB.all nu).1; have := (zB.all nu).2; have := (zB.all li).1; have := (zB.all li).2; have := bx_86.1; have := bx_86.2; have := bsc.1; have := bsc.2; have := bdp.1; have := bdp.2; omega)⟩, ⟨x_87, dp, kx_87, bx_87, (hfF_83.f hth 15 ⟨by decide, by decide⟩ kdp), (bdp.w ⟨by decide, by decide⟩), (by have := bac_81.1; have := bac_81.2; have := (zB.all nu).1; have := (zB.all nu).2; have := (zB.all li).1; have := (zB.all li).2; have := bx_87.1; have := bx_87.2; have := bdp.1; have := bdp.2; have := bsc.1; have := bsc.2; have := bx_86.1; have := bx_86.2; omega)⟩, trivial⟩, by rw [ht]; exact h.1, h.2.1, (hfF_83.w (by decide))⟩, h.2.2.F ht⟩) h.2.2.2.2 dX5_obey_183
                            · by_cases c_88 : ac = 14
                              · refine lv_tableIn (off := 153) (tgt := 154) hx hb dX5_obey_1 (by rw [c_88]; decide) (by rw [c_88]; decide) (by rw [c_88]; rfl) (by decide) ?_
                                have bac_88 : zB 14 14 ac := by rw [c_88]; exact zBc _ _ (by decide)
                                refine lv_aload_n hx hb dX5_obey_154 rfl (lv_at hl 0 rfl) ?_
                                refine lv_iload_n hx hb dX5_obey_155 rfl (lv_at hl 2 rfl) ?_
                                refine zk_Vv (As := [.int nu]) (rest := []) (bytes := cX5_again) (maxL := 2) (ret := none) Z h (zc_X5_again l D k Γ L F s.heap.size th nu hth) (cwV 1 hg zv_RX5_151 rfl rfl rfl zd_X5_again ⟨z_leR hRf (by decide), z_leR hRl (by decide)⟩) hth (by decide) rfl rfl hl.1 rfl (Nat.le_of_ble_eq_true rfl) dX5_obey_156 ⟨Nat.zero_le _, Nat.zero_le _⟩ (fun F_90 H locs w_91 h hfF_90 => ?_)
                                refine lv_goto (tgt := 183) hx hb dX5_obey_159 (by decide) ?_
                                obtain ⟨x_92, kx_92, bx_92⟩ := z_learn (j := 13) (lo := 0) (hi := 1) h hth (by decide) rfl
                                subst hQ
                                exact W.vret hx hb hr (fun t ht hW => ⟨⟨F_90, rfl, ⟨⟨sc, (hfF_90.f hth 3 ⟨by decide, by decide⟩ ksc), (bsc.w ⟨by decide, by decide⟩), (by have := bac_88.1; have := bac_88.2; have := (zB.all nu).1; have := (zB.all nu).2; have := (zB.all li).1; have := (zB.all li).2; have := bsc.1; have := bsc.2; have := btc.1; have := btc.2; have := bdp.1; have := bdp.2; omega)⟩, ⟨tc, (hfF_90.f hth 4 ⟨by decide, by decide⟩ ktc), (btc.w ⟨by decide, by decide⟩), (by have := bac_88.1; have := bac_88.2; have := (zB.all nu).1; have := (zB.all nu).2; have := (zB.all li).1; have := (zB.all li).2; have := btc.1; have := btc.2; have := bsc.1; have := bsc.2; have := bdp.1; have := bdp.2; omega)⟩, ⟨x_92, dp, kx_92, bx_92, (hfF_90.f hth 15 ⟨by decide, by decide⟩ kdp), (bdp.w ⟨by decide, by decide⟩), (by have := bac_88.1; have := bac_88.2; have := (zB.all nu).1; have := (zB.all nu).2; have := (zB.all li).1; have := (zB.all li).2; have := bx_92.1; have := bx_92.2; have := bdp.1; have := bdp.2; have := bsc.1; have := bsc.2; have := btc.1; have := btc.2; omega)⟩, trivial⟩, by rw [ht]; exact h.1, h.2.1, (hfF_90.w (by decide))⟩, h.2.2.F ht⟩) h.2.2.2.2 dX5_obey_183
                              · by_cases c_93 : ac = 15
                                · refine lv_tableIn (off := 161) (tgt := 162) hx hb dX5_obey_1 (by rw [c_93]; decide) (by rw [c_93]; decide) (by rw [c_93]; rfl) (by decide) ?_
                                  have bac_93 : zB 15 15 ac := by rw [c_93]; exact zBc _ _ (by decide)
                                  refine lv_aload_n hx hb dX5_obey_162 rfl (lv_at hl 0 rfl) ?_
                                  refine lv_iload_n hx hb dX5_obey_163 rfl (lv_at hl 2 rfl) ?_
                                  refine zt_put (t := 5) (C := RX5) (T := TX5) (N := 19) (v := .int nu) Z h hth zin_5 tyX5 tyX5_ok nmX5 rfl 14 rfl ⟨by decide, rfl⟩ (zm_RX5 (List.mem_of_getElem? (i := 31) rfl)) (fun _ h9 => h9) rfl (zV.i (zB.all nu)) rfl rfl dX5_obey_164 (fun H locs F_95 h hfF_95 kF_95 => ?_)
                                  refine lv_goto (tgt := 183) hx hb dX5_obey_167 (by decide) ?_
                                  obtain ⟨x_96, kx_96, bx_96⟩ := z_learn (j := 13) (lo := 0) (hi := 1) h hth (by decide) rfl
                                  subst hQ
                                  exact W.vret hx hb hr (fun t ht hW => ⟨⟨F_95, rfl, ⟨⟨sc, (hfF_95.f hth 3 ⟨by decide, by decide⟩ ksc), (bsc.w ⟨by decide, by decide⟩), (by have := bac_93.1; have := bac_93.2; have := (zB.all nu).1; have := (zB.all nu).2; have := (zB.all li).1; have := (zB.all li).2; have := bsc.1; have := bsc.2; have := btc.1; have := btc.2; have := bdp.1; have := bdp.2; omega)⟩, ⟨tc, (hfF_95.f hth 4 ⟨by decide, by decide⟩ ktc), (btc.w ⟨by decide, by decide⟩), (by have := bac_93.1; have := bac_93.2; have := (zB.all nu).1; have := (zB.all nu).2; have := (zB.all li).1; have := (zB.all li).2; have := btc.1; have := btc.2; have := bsc.1; have := bsc.2; have := bdp.1; have := bdp.2; omega)⟩, ⟨x_96, dp, kx_96, bx_96, (hfF_95.f hth 15 ⟨by decide, by decide⟩ kdp), (bdp.w ⟨by decide, by decide⟩), (by have := bac_93.1; have := bac_93.2; have := (zB.all nu).1; have := (zB.all nu).2; have := (zB.all li).1; have := (zB.all li).2; have := bx_96.1; have := bx_96.2; have := bdp.1; have := bdp.2; have := bsc.1; have := bsc.2; have := btc.1; have := btc.2; omega)⟩, trivial⟩, by rw [ht]; exact h.1, h.2.1, (hfF_95.w (by decide))⟩, h.2.2.F ht⟩) h.2.2.2.2 dX5_obey_183
                                · by_cases c_97 : ac = 16
                                  · refine lv_tableIn (off := 169) (tgt := 170) hx hb dX5_obey_1 (by rw [c_97]; decide) (by rw [c_97]; decide) (by rw [c_97]; rfl) (by decide) ?_
                                    have bac_97 : zB 16 16 ac := by rw [c_97]; exact zBc _ _ (by decide)
                                    refine lv_aload_n hx hb dX5_obey_170 rfl (lv_at hl 0 rfl) ?_
                                    refine lv_iconst (v := 0) hx hb dX5_obey_171 (by decide) ?_
                                    refine zk_Vv (As := [.int 0]) (rest := []) (bytes := cX5_leave) (maxL := 2) (ret := none) Z h (zc_X5_leave l D k Γ L F s.heap.size th 0 dp hth kdp bdp) (cwV 1 hg zv_RX5_154 rfl rfl rfl zd_X5_leave ⟨z_leR hRf (by decide), z_leR hRl (by decide)⟩) hth (by decide) rfl rfl hl.1 rfl (Nat.le_of_ble_eq_true rfl) dX5_obey_172 ⟨Nat.zero_le _, Nat.zero_le _⟩ (fun F_99 H locs w_100 h hfF_99 => ?_)
                                    obtain ⟨⟨x_102, x_103, kx_102, bx_102, kx_103, bx_103, q_101⟩, -⟩ := w_100
                                    refine lv_goto (tgt := 183) hx hb dX5_obey_175 (by decide) ?_
                                    subst hQ
                                    exact W.vret hx hb hr (fun t ht hW => ⟨⟨F_99, rfl, ⟨⟨sc, (hfF_99.f hth 3 ⟨by decide, by decide⟩ ksc), (bsc.w ⟨by decide, by decide⟩), (by have := bac_97.1; have := bac_97.2; have := (zB.all nu).1; have := (zB.all nu).2; have := (zB.all li).1; have := (zB.all li).2; have := bsc.1; have := bsc.2; have := btc.1; have := btc.2; have := bx_103.1; have := bx_103.2; have := bx_102.1; have := bx_102.2; omega)⟩, ⟨tc, (hfF_99.f hth 4 ⟨by decide, by decide⟩ ktc), (btc.w ⟨by decide, by decide⟩), (by have := bac_97.1; have := bac_97.2; have := (zB.all nu).1; have := (zB.all nu).2; have := (zB.all li).1; have := (zB.all li).2; have := btc.1; have := btc.2; have := bsc.1; have := bsc.2; have := bx_103.1; have := bx_103.2; have := bx_102.1; have := bx_102.2; omega)⟩, ⟨x_102, x_103, kx_102, bx_102, kx_103, bx_103, (by have := bac_97.1; have := bac_97.2; have := (zB.all nu).1; have := (zB.all nu).2; have := (zB.all li).1; have := (zB.all li).2; have := bx_102.1; have := bx_102.2; have := bx_103.1; have := bx_103.2; have := bsc.1; have := bsc.2; have := btc.1; have := btc.2; omega)⟩, trivial⟩, by rw [ht]; exact h.1, h.2.1, (hfF_99.w (by decide))⟩, h.2.2.F ht⟩) h.2.2.2.2 dX5_obey_183
                                  · have nc_1 : ac.toInt ≠ 0 := z_nev c_1 (by decide)
                                    have nc_6 : ac.toInt ≠ 1 := z_nev c_6 (by decide)
                                    have nc_11 : ac.toInt ≠ 2 := z_nev c_11 (by decide)
                                    have nc_19 : ac.toInt ≠ 3 := z_nev c_19 (by decide)
                                    have nc_24 : ac.toInt ≠ 4 := z_nev c_24 (by decide)
                                    have nc_29 : ac.toInt ≠ 5 := z_nev c_29 (by decide)
                                    have nc_34 : ac.toInt ≠ 6 := z_nev c_34 (by decide)
                                    have nc_39 : ac.toInt ≠ 7 := z_nev c_39 (by decide)
                                    have nc_44 : ac.toInt ≠ 8 := z_nev c_44 (by decide)
                                    have nc_49 : ac.toInt ≠ 9 := z_nev c_49 (by decide)
                                    have nc_56 : ac.toInt ≠ 10 := z_nev c_56 (by decide)
                                    have nc_63 : ac.toInt ≠ 11 := z_nev c_63 (by decide)
                                    have nc_72 : ac.toInt ≠ 12 := z_nev c_72 (by decide)
                                    have nc_81 : ac.toInt ≠ 13 := z_nev c_81 (by decide)
                                    have nc_88 : ac.toInt ≠ 14 := z_nev c_88 (by decide)
                                    have nc_93 : ac.toInt ≠ 15 := z_nev c_93 (by decide)
                                    have nc_97 : ac.toInt ≠ 16 := z_nev c_97 (by decide)
                                    refine lv_tableOut (tgt := 178) hx hb dX5_obey_1 (by have := (zB.all ac).1; have := (zB.all ac).2; omega) (by decide) ?_
                                    refine lv_aload_n hx hb dX5_obey_178 rfl (lv_at hl 0 rfl) ?_
                                    refine lv_iload_n hx hb dX5_obey_179 rfl (lv_at hl 1 rfl) ?_
                                    refine zk_Vv (As := [.int ac]) (rest := []) (bytes := cX5_reckon) (maxL := 4) (ret := none) Z h (zc_X5_reckon l D k Γ L F s.heap.size th ac hth) (cwV 1 hg zv_RX5_157 rfl rfl rfl zd_X5_reckon ⟨z_leR hRf (by decide), z_leR hRl (by decide)⟩) hth (by decide) rfl rfl hl.1 rfl (Nat.le_of_ble_eq_true rfl) dX5_obey_180 ⟨Nat.zero_le _, Nat.zero_le _⟩ (fun F_104 H locs w_105 h hfF_104 => ?_)
                                    obtain ⟨x_106, kx_106, bx_106⟩ := z_learn (j := 13) (lo := 0) (hi := 1) h hth (by decide) rfl
                                    subst hQ
                                    exact W.vret hx hb hr (fun t ht hW => ⟨⟨F_104, rfl, ⟨⟨sc, (hfF_104.f hth 3 ⟨by decide, by decide⟩ ksc), (bsc.w ⟨by decide, by decide⟩), (by have := (zB.all ac).1; have := (zB.all ac).2; have := (zB.all nu).1; have := (zB.all nu).2; have := (zB.all li).1; have := (zB.all li).2; have := bsc.1; have := bsc.2; have := btc.1; have := btc.2; have := bdp.1; have := bdp.2; omega)⟩, ⟨tc, (hfF_104.f hth 4 ⟨by decide, by decide⟩ ktc), (btc.w ⟨by decide, by decide⟩), (by have := (zB.all ac).1; have := (zB.all ac).2; have := (zB.all nu).1; have := (zB.all nu).2; have := (zB.all li).1; have := (zB.all li).2; have := btc.1; have := btc.2; have := bsc.1; have := bsc.2; have := bdp.1; have := bdp.2; omega)⟩, ⟨x_106, dp, kx_106, bx_106, (hfF_104.f hth 15 ⟨by decide, by decide⟩ kdp), (bdp.w ⟨by decide, by decide⟩), (by have := (zB.all ac).1; have := (zB.all ac).2; have := (zB.all nu).1; have := (zB.all nu).2; have := (zB.all li).1; have := (zB.all li).2; have := bx_106.1; have := bx_106.2; have := bdp.1; have := bdp.2; have := bsc.1; have := bsc.2; have := btc.1; have := btc.2; omega)⟩, trivial⟩, by rw [ht]; exact h.1, h.2.1, (hfF_104.w (by decide))⟩, h.2.2.F ht⟩) h.2.2.2.2 dX5_obey_183

set_option maxHeartbeats 4000000 in
set_option maxRecDepth 100000 in
theorem zc_X5_start (l : Launch) (D : va_G) (k : Nat → ClassId) (Γ : Nat → Option Nat) (L : List Nat) (F : Nat → va_E) (sz : Nat) (th : Nat) (p_ : Nat) (fu : Int32) (ru : Int32) (hth : Γ th = some 5) (hp_ : Γ p_ = some 6) : Met l yX5_start zwX5_start ({ frames := 0, cells := 0, slots := 0, locals := 0 }) (va_Pc [.ref th, .ref p_, .int fu, .int ru] (zP D k Γ L F sz)) (va_Qv (fun (u : Nat → va_E) => (∃ x, zfld u th 3 = .int x ∧ zB 0 0 x) ∧ (∃ x, zfld u th 4 = .int x ∧ zB 0 0 x) ∧ (∃ x, zfld u th 15 = .int x ∧ zB 0 0 x) ∧ zfld u th 10 = .ref p_ ∧ True) (zQ D k Γ L F [500, 501, 502, 503, 504, 505, 506, 510, 511, 512, 513, 514, 515, 518, 11000]) (zA L sz)) 0 0 (zA L sz) := by
  refine Met.ofW (cc := cX5_start) (maxL := 4) (ret := none) (by decide) rfl ?_
  intro p e s m args below meth c s₁ B hml hv
  obtain ⟨rfl, hsz, hP, hK, hLn, hE, hI⟩ := hv
  have hx := B.exec
  have hb := B.bytes
  have hr := B.returns
  have hg : ∀ w ∈ zG, w.before _ s = true := fun w h9 => atoms_spec (ws := zwX5_start) B.pre w (List.mem_cons_of_mem _ h9)
  have hown : s.vm.findClass RX5 = some m.cls := findClass_of_methodNamed B.named
  have hlocks := B.notSynchronized
  subst hsz
  have Z : zC p m c cX5_start 4 s _ zG RX5 D k L := ⟨⟨hx, hb, hml, hown, hg⟩, hK, hLn, hE⟩
  have h : zH D k Γ L s F s.heap [] := ⟨hP, hI, va_S.rf⟩
  have hl := lv_entry ([.ref th, .ref p_, .int fu, .int ru]) (n := 4) (Nat.le_of_ble_eq_true rfl)
  rw [lg_entry_eq]
  generalize (lg_sl ([.ref th, .ref p_, .int fu, .int ru]) ++ List.replicate (4 - (lg_sl ([.ref th, .ref p_, .int fu, .int ru])).length) Slot.unset).toArray = ls at hl ⊢
  have hl : lv_has ls 4 [(0, .ref th), (1, .ref p_), (2, .int fu), (3, .int ru)] := hl
  clear hP hK hLn hE hI
  generalize hargs : ([.ref th, .ref p_, .int fu, .int ru] : List Value).toArray = args at *
  refine z_start (fun R Q hRf hRl hQ => ?_)
  have hRf : R.frames = 0 := hRf
  have hRl : R.locals = 0 := hRl
  refine lv_aload_n hx hb dX5_start_0 rfl (lv_at hl 0 rfl) ?_
  refine lv_aload_n hx hb dX5_start_1 rfl (lv_at hl 1 rfl) ?_
  refine zt_put (t := 5) (C := RX5) (T := TX5) (N := 19) (v := .ref p_) Z h hth zin_5 tyX5 tyX5_ok nmX5 rfl 10 rfl ⟨by decide, rfl⟩ (zm_RX5 (List.mem_of_getElem? (i := 2) rfl)) (fun _ h9 => h9) rfl trivial rfl rfl dX5_start_2 (fun H locs F_1 h hfF_1 kF_1 => ?_)
  refine lv_aload_n hx hb dX5_start_5 rfl (lv_at hl 0 rfl) ?_
  refine lv_iload_n hx hb dX5_start_6 rfl (lv_at hl 2 rfl) ?_
  refine zt_put (t := 5) (C := RX5) (T := TX5) (N := 19) (v := .int fu) Z h hth zin_5 tyX5 tyX5_ok nmX5 rfl 12 rfl ⟨by decide, rfl⟩ (zm_RX5 (List.mem_of_getElem? (i := 3) rfl)) (fun _ h9 => h9) rfl (zV.i (zB.all fu)) rfl rfl dX5_start_7 (fun H locs F_2 h hfF_2 kF_2 => ?_)
  refine lv_aload_n hx hb dX5_start_10 rfl (lv_at hl 0 rfl) ?_
  refine lv_iload_n hx hb dX5_start_11 rfl (lv_at hl 3 rfl) ?_
  refine zt_put (t := 5) (C := RX5) (T := TX5) (N := 19) (v := .int ru) Z h hth zin_5 tyX5 tyX5_ok nmX5 rfl 11 rfl ⟨by decide, rfl⟩ (zm_RX5 (List.mem_of_getElem? (i := 4) rfl)) (fun _ h9 => h9) rfl (zV.i (zB.all ru)) rfl rfl dX5_start_12 (fun H locs F_3 h hfF_3 kF_3 => ?_)
  refine lv_aload_n hx hb dX5_start_15 rfl (lv_at hl 0 rfl) ?_
  refine lv_iconst (v := 1) hx hb dX5_start_16 (by decide) ?_
  refine zt_put (t := 5) (C := RX5) (T := TX5) (N := 19) (v := .int 1) Z h hth zin_5 tyX5 tyX5_ok nmX5 rfl 0 rfl ⟨by decide, rfl⟩ (zm_RX5 (List.mem_of_getElem? (i := 5) rfl)) (fun _ h9 => h9) rfl (zV.i (zB.of ⟨by decide, by decide⟩)) rfl rfl dX5_start_17 (fun H locs F_4 h hfF_4 kF_4 => ?_)
  refine lv_aload_n hx hb dX5_start_20 rfl (lv_at hl 0 rfl) ?_
  refine lv_iconst (v := 0) hx hb dX5_start_21 (by decide) ?_
  refine zt_put (t := 5) (C := RX5) (T := TX5) (N := 19) (v := .int 0) Z h hth zin_5 tyX5 tyX5_ok nmX5 rfl 1 rfl ⟨by decide, rfl⟩ (zm_RX5 (List.mem_of_getElem? (i := 6) rfl)) (fun _ h9 => h9) rfl (zV.i (zB.of ⟨by decide, by decide⟩)) rfl rfl dX5_start_22 (fun H locs F_5 h hfF_5 kF_5 => ?_)
  refine lv_aload_n hx hb dX5_start_25 rfl (lv_at hl 0 rfl) ?_
  refine lv_iconst (v := 0) hx hb dX5_start_26 (by decide) ?_
  refine zt_put (t := 5) (C := RX5) (T := TX5) (N := 19) (v := .int 0) Z h hth zin_5 tyX5 tyX5_ok nmX5 rfl 2 rfl ⟨by decide, rfl⟩ (zm_RX5 (List.mem_of_getElem? (i := 7) rfl)) (fun _ h9 => h9) rfl (zV.i (zB.of ⟨by decide, by decide⟩)) rfl rfl dX5_start_27 (fun H locs F_6 h hfF_6 kF_6 => ?_)
  refine lv_aload_n hx hb dX5_start_30 rfl (lv_at hl 0 rfl) ?_
  refine lv_iconst (v := 0) hx hb dX5_start_31 (by decide) ?_
  refine zt_put (t := 5) (C := RX5) (T := TX5) (N := 19) (v := .int 0) Z h hth zin_5 tyX5 tyX5_ok nmX5 rfl 3 rfl ⟨by decide, rfl⟩ (zm_RX5 (List.mem_of_getElem? (i := 8) rfl)) (fun _ h9 => h9) rfl (zV.i (zB.of ⟨by decide, by decide⟩)) rfl rfl dX5_start_32 (fun H locs F_7 h hfF_7 kF_7 => ?_)
  refine lv_aload_n hx hb dX5_start_35 rfl (lv_at hl 0 rfl) ?_
  refine lv_iconst (v := 0) hx hb dX5_start_36 (by decide) ?_
  refine zt_put (t := 5) (C := RX5) (T := TX5) (N := 19) (v := .int 0) Z h hth zin_5 tyX5 tyX5_ok nmX5 rfl 4 rfl ⟨by decide, rfl⟩ (zm_RX5 (List.mem_of_getElem? (i := 9) rfl)) (fun _ h9 => h9) rfl (zV.i (zB.of ⟨by decide, by decide⟩)) rfl rfl dX5_start_37 (fun H locs F_8 h hfF_8 kF_8 => ?_)
  refine lv_aload_n hx hb dX5_start_40 rfl (lv_at hl 0 rfl) ?_
  refine lv_iconst (v := 0) hx hb dX5_start_41 (by decide) ?_
  refine zt_put (t := 5) (C := RX5) (T := TX5) (N := 19) (v := .int 0) Z h hth zin_5 tyX5 tyX5_ok nmX5 rfl 5 rfl ⟨by decide, rfl⟩ (zm_RX5 (List.mem_of_getElem? (i := 10) rfl)) (fun _ h9 => h9) rfl (zV.i (zB.of ⟨by decide, by decide⟩)) rfl rfl dX5_start_42 (fun H locs F_9 h hfF_9 kF_9 => ?_)
  refine lv_aload_n hx hb dX5_start_45 rfl (lv_at hl 0 rfl) ?_
  refine lv_lconst (v := 0) hx hb dX5_start_46 (by decide) ?_
  refine zt_put (t := 5) (C := RX5) (T := TX5) (N := 19) (v := .long 0) Z h hth zin_5 tyX5 tyX5_ok nmX5 rfl 6 rfl ⟨by decide, rfl⟩ (zm_RX5 (List.mem_of_getElem? (i := 11) rfl)) (fun _ h9 => h9) rfl zV.l rfl rfl dX5_start_47 (fun H locs F_10 h hfF_10 kF_10 => ?_)
  refine lv_aload_n hx hb dX5_start_50 rfl (lv_at hl 0 rfl) ?_
  refine lv_iconst (v := 0) hx hb dX5_start_51 (by decide) ?_
  refine zt_put (t := 5) (C := RX5) (T := TX5) (N := 19) (v := .int 0) Z h hth zin_5 tyX5 tyX5_ok nmX5 rfl 15 rfl ⟨by decide, rfl⟩ (zm_RX5 (List.mem_of_getElem? (i := 12) rfl)) (fun _ h9 => h9) rfl (zV.i (zB.of ⟨by decide, by decide⟩)) rfl rfl dX5_start_52 (fun H locs F_11 h hfF_11 kF_11 => ?_)
  refine lv_aload_n hx hb dX5_start_55 rfl (lv_at hl 0 rfl) ?_
  refine lv_iconst (v := 0) hx hb dX5_start_56 (by decide) ?_
  refine zt_put (t := 5) (C := RX5) (T := TX5) (N := 19) (v := .int 0) Z h hth zin_5 tyX5 tyX5_ok nmX5 rfl 18 rfl ⟨by decide, rfl⟩ (zm_RX5 (List.mem_of_getElem? (i := 13) rfl)) (fun _ h9 => h9) rfl (zV.i (zB.of ⟨by decide, by decide⟩)) rfl rfl dX5_start_57 (fun H locs F_12 h hfF_12 kF_12 => ?_)
  refine lv_aload_n hx hb dX5_start_60 rfl (lv_at hl 0 rfl) ?_
  refine lv_iconst (v := 1) hx hb dX5_start_61 (by decide) ?_
  refine zt_put (t := 5) (C := RX5) (T := TX5) (N := 19) (v := .int 1) Z h hth zin_5 tyX5 tyX5_ok nmX5 rfl 13 rfl ⟨by decide, rfl⟩ (zm_RX5 (List.mem_of_getElem? (i := 14) rfl)) (fun _ h9 => h9) rfl (zV.i (zB.of ⟨by decide, by decide⟩)) rfl rfl dX5_start_62 (fun H locs F_13 h hfF_13 kF_13 => ?_)
  subst hQ
  exact W.vret hx hb hr (fun t ht hW => ⟨⟨F_13, rfl, ⟨⟨0, (hfF_13.f hth 3 ⟨by decide, by decide⟩ (hfF_12.f hth 3 ⟨by decide, by decide⟩ (hfF_11.f hth 3 ⟨by decide, by decide⟩ (hfF_10.f hth 3 ⟨by decide, by decide⟩ (hfF_9.f hth 3 ⟨by decide, by decide⟩ (hfF_8.f hth 3 ⟨by decide, by decide⟩ kF_7)))))), (zB.of ⟨by decide, by decide⟩)⟩, ⟨0, (hfF_13.f hth 4 ⟨by decide, by decide⟩ (hfF_12.f hth 4 ⟨by decide, by decide⟩ (hfF_11.f hth 4 ⟨by decide, by decide⟩ (hfF_10.f hth 4 ⟨by decide, by decide⟩ (hfF_9.f hth 4 ⟨by decide, by decide⟩ kF_8))))), (zB.of ⟨by decide, by decide⟩)⟩, ⟨0, (hfF_13.f hth 15 ⟨by decide, by decide⟩ (hfF_12.f hth 15 ⟨by decide, by decide⟩ kF_11)), (zB.of ⟨by decide, by decide⟩)⟩, (hfF_13.f hth 10 ⟨by decide, by decide⟩ (hfF_12.f hth 10 ⟨by decide, by decide⟩ (hfF_11.f hth 10 ⟨by decide, by decide⟩ (hfF_10.f hth 10 ⟨by decide, by decide⟩ (hfF_9.f hth 10 ⟨by decide, by decide⟩ (hfF_8.f hth 10 ⟨by decide, by decide⟩ (hfF_7.f hth 10 ⟨by decide, by decide⟩ (hfF_6.f hth 10 ⟨by decide, by decide⟩ (hfF_5.f hth 10 ⟨by decide, by decide⟩ (hfF_4.f hth 10 ⟨by decide, by decide⟩ (hfF_3.f hth 10 ⟨by decide, by decide⟩ (hfF_2.f hth 10 ⟨by decide, by decide⟩ kF_1)))))))))))), trivial⟩, by rw [ht]; exact h.1, h.2.1, (((((((((((((hfF_1.w (by decide)).trans hfF_2 (by decide)).trans hfF_3 (by decide)).trans hfF_4 (by decide)).trans hfF_5 (by decide)).trans hfF_6 (by decide)).trans hfF_7 (by decide)).trans hfF_8 (by decide)).trans hfF_9 (by decide)).trans hfF_10 (by decide)).trans hfF_11 (by decide)).trans hfF_12 (by decide)).trans hfF_13 (by decide))⟩, h.2.2.F ht⟩) h.2.2.2.2 dX5_start_65

set_option maxHeartbeats 4000000 in
set_option maxRecDepth 100000 in
theorem zc_X5_finish (l : Launch) (D : va_G) (k : Nat → ClassId) (Γ : Nat → Option Nat) (L : List Nat) (F : Nat → va_E) (sz : Nat) (th : Nat) (f : Int32) (x : Int32) (y : Int32) (z : Int32) (pr : Nat) (sc : Int32) (tc : Int32) (dp : Int32) (hth : Γ th = some 5) (kpr : zfld F th 10 = .ref pr) (hpr : Γ pr = some 6) (ksc : zfld F th 3 = .int sc) (bsc : zB 0 0 sc) (ktc : zfld F th 4 = .int tc) (btc : zB 0 0 tc) (kdp : zfld F th 15 = .int dp) (bdp : zB 0 0 dp) : Met l yX5_finish zwX5_finish ({ frames := 4, cells := 0, slots := 0, locals := 87 }) (va_Pc [.ref th, .int f, .int x, .int y, .int z] (zP D k Γ L F sz)) (va_Qv (fun (u : Nat → va_E) => True) (zQ D k Γ L F [500, 501, 502, 503, 504, 505, 506, 513, 514, 515, 518, 10800, 10900, 11000, 11100, 11200]) (zA L sz)) 0 0 (zA L sz) := by
  refine Met.ofW (cc := cX5_finish) (maxL := 8) (ret := none) (by decide) rfl ?_
  intro p e s m args below meth c s₁ B hml hv
  obtain ⟨rfl, hsz, hP, hK, hLn, hE, hI⟩ := hv
  have hx := B.exec
  have hb := B.bytes
  have hr := B.returns
  have hg : ∀ w ∈ zG, w.before _ s = true := fun w h9 => atoms_spec (ws := zwX5_finish) B.pre w (List.mem_cons_of_mem _ h9)
  have hown : s.vm.findClass RX5 = some m.cls := findClass_of_methodNamed B.named
  have hlocks := B.notSynchronized
  subst hsz
  have Z : zC p m c cX5_finish 8 s _ zG RX5 D k L := ⟨⟨hx, hb, hml, hown, hg⟩, hK, hLn, hE⟩
  have h : zH D k Γ L s F s.heap [] := ⟨hP, hI, va_S.rf⟩
  have hl := lv_entry ([.ref th, .int f, .int x, .int y, .int z]) (n := 8) (Nat.le_of_ble_eq_true rfl)
  rw [lg_entry_eq]
  generalize (lg_sl ([.ref th, .int f, .int x, .int y, .int z]) ++ List.replicate (8 - (lg_sl ([.ref th, .int f, .int x, .int y, .int z])).length) Slot.unset).toArray = ls at hl ⊢
  have hl : lv_has ls 8 [(0, .ref th), (1, .int f), (2, .int x), (3, .int y), (4, .int z)] := hl
  clear hP hK hLn hE hI
  generalize hargs : ([.ref th, .int f, .int x, .int y, .int z] : List Value).toArray = args at *
  refine z_start (fun R Q hRf hRl hQ => ?_)
  have hRf : R.frames = 4 := hRf
  have hRl : R.locals = 87 := hRl
  refine lv_aload_n hx hb dX5_finish_0 rfl (lv_at hl 0 rfl) ?_
  refine zt_getk (t := 5) (C := RX5) (T := TX5) (N := 19) Z h hth zin_5 rfl 10 kpr ⟨by decide, rfl, by decide⟩ (zm_RX5 (List.mem_of_getElem? (i := 2) rfl)) (fun _ h9 => h9) dX5_finish_1 ?_
  refine lv_ifnull hx hb dX5_finish_4 ?_
  refine lv_aload_n hx hb dX5_finish_7 rfl (lv_at hl 0 rfl) ?_
  refine zt_getk (t := 5) (C := RX5) (T := TX5) (N := 19) Z h hth zin_5 rfl 10 kpr ⟨by decide, rfl, by decide⟩ (zm_RX5 (List.mem_of_getElem? (i := 2) rfl)) (fun _ h9 => h9) dX5_finish_8 ?_
  refine lv_iload_n hx hb dX5_finish_11 rfl (lv_at hl 1 rfl) ?_
  refine zk_Vi (As := [.int f]) (rest := []) (bytes := cX6_hasFunction) (maxL := 2) (ret := (some .boolean)) Z h (zc_X6_hasFunction l D k Γ L F s.heap.size pr f hpr) (cwV 1 hg zv_RX5_70 rfl rfl rfl zd_X6_hasFunction ⟨z_leR hRf (by decide), z_leR hRl (by decide)⟩) hpr (by decide) rfl rfl hl.1 rfl (Nat.le_of_ble_eq_true rfl) dX5_finish_12 ⟨Nat.zero_le _, Nat.zero_le _⟩ (fun r_1 F_2 H locs w_3 h hfF_2 => ?_)
  obtain ⟨rfl, br_1, q_4, q_5, -⟩ := w_3
  refine lv_if_ne (tgt := 19) hx hb dX5_finish_15 (by decide) (fun c_6 => ?_) (fun c_6 => ?_)
  · have bf_7 : zB 0 9 f := q_4 c_6
    obtain ⟨x_8, kx_8, bx_8, q_9⟩ := q_5 c_6
    have c_6 := z_ne c_6
    have br_1_10 : zB 1 1 r_1 := zB.neLo c_6 br_1 (zBc 0 0 (by decide)) (by decide)
    refine lv_aload_n hx hb dX5_finish_19 rfl (lv_at hl 0 rfl) ?_
    refine lv_iload_n hx hb dX5_finish_20 rfl (lv_at hl 2 rfl) ?_
    refine zk_Vv (As := [.int x]) (rest := []) (bytes := cX5_push) (maxL := 2) (ret := none) Z h (zc_X5_push l D k Γ L F H.size th x hth) (cwV 1 hg zv_RX5_76 rfl rfl rfl zd_X5_push ⟨z_leR hRf (by decide), z_leR hRl (by decide)⟩) hth (by decide) rfl rfl hl.1 rfl (Nat.le_of_ble_eq_true rfl) dX5_finish_21 ⟨Nat.zero_le _, Nat.zero_le _⟩ (fun F_11 H locs w_12 h hfF_11 => ?_)
    refine lv_aload_n hx hb dX5_finish_24 rfl (lv_at hl 0 rfl) ?_
    refine lv_iload_n hx hb dX5_finish_25 rfl (lv_at hl 3 rfl) ?_
    refine zk_Vv (As := [.int y]) (rest := []) (bytes := cX5_push) (maxL := 2) (ret := none) Z h (zc_X5_push l D k Γ L F_11 H.size th y hth) (cwV 1 hg zv_RX5_76 rfl rfl rfl zd_X5_push ⟨z_leR hRf (by decide), z_leR hRl (by decide)⟩) hth (by decide) rfl rfl hl.1 rfl (Nat.le_of_ble_eq_true rfl) dX5_finish_26 ⟨Nat.zero_le _, Nat.zero_le _⟩ (fun F_13 H locs w_14 h hfF_13 => ?_)
    refine lv_aload_n hx hb dX5_finish_29 rfl (lv_at hl 0 rfl) ?_
    refine lv_iload hx hb dX5_finish_30 (lv_at hl 4 rfl) ?_
    refine zk_Vv (As := [.int z]) (rest := []) (bytes := cX5_push) (maxL := 2) (ret := none) Z h (zc_X5_push l D k Γ L F_13 H.size th z hth) (cwV 1 hg zv_RX5_76 rfl rfl rfl zd_X5_push ⟨z_leR hRf (by decide), z_leR hRl (by decide)⟩) hth (by decide) rfl rfl hl.1 rfl (Nat.le_of_ble_eq_true rfl) dX5_finish_32 ⟨Nat.zero_le _, Nat.zero_le _⟩ (fun F_15 H locs w_16 h hfF_15 => ?_)
    refine lv_aload_n hx hb dX5_finish_35 rfl (lv_at hl 0 rfl) ?_
    refine lv_aload_n hx hb dX5_finish_36 rfl (lv_at hl 0 rfl) ?_
    refine zt_geti (t := 5) (C := RX5) (T := TX5) (N := 19) Z h hth zin_5 rfl 18 rfl ⟨by decide, rfl⟩ (zm_RX5 (List.mem_of_getElem? (i := 13) rfl)) (fun _ h9 => h9) dX5_finish_37 (fun x_17 kx_17 bx_17 => ?_)
    refine lv_aload_n hx hb dX5_finish_40 rfl (lv_at hl 0 rfl) ?_
    refine zt_getk (t := 5) (C := RX5) (T := TX5) (N := 19) Z h hth zin_5 rfl 10 (hfF_15.f hth 10 ⟨by decide, by decide⟩ (hfF_13.f hth 10 ⟨by decide, by decide⟩ (hfF_11.f hth 10 ⟨by decide, by decide⟩ kpr))) ⟨by decide, rfl, by decide⟩ (zm_RX5 (List.mem_of_getElem? (i := 2) rfl)) (fun _ h9 => h9) dX5_finish_41 ?_
    refine zt_getr (t := 6) (C := RX6) (T := TX6) (N := 6) Z h hpr zin_6 rfl 2 rfl ⟨by decide, rfl⟩ (zm_RX5 (List.mem_of_getElem? (i := 20) rfl)) (fun _ h9 => h9) dX5_finish_44 (fun a_18 ka_18 ha_18 => ?_)
    refine lv_iload_n hx hb dX5_finish_47 rfl (lv_at hl 1 rfl) ?_
    refine zt_aald (t := 104) (t1 := 2) Z h ha_18 ⟨by decide, rfl⟩ (by decide) bf_7 ⟨by decide, by decide⟩ dX5_finish_48 (fun a_19 ha_19 => ?_)
    refine zt_geti (t := 2) (C := RX2) (T := TX2) (N := 9) Z h ha_19 zin_2 rfl 7 rfl ⟨by decide, rfl⟩ (zm_RX5 (List.mem_of_getElem? (i := 21) rfl)) (fun _ h9 => h9) dX5_finish_49 (fun x_20 kx_20 bx_20 => ?_)
    refine va_mmin hx hb (by rw [hml]; exact hl.1.symm) hown (hg _ (zm_RX5 (List.mem_of_getElem? (i := 22) rfl))) (hg _ (zm_RX5 (List.mem_of_getElem? (i := 23) rfl))) (hg _ (zm_RX5 (List.mem_of_getElem? (i := 24) rfl))) (hg _ (zm_RX5 (List.mem_of_getElem? (i := 25) rfl))) (z_leR hRf (by decide)) (z_leR hRl (Nat.le_of_ble_eq_true rfl)) (Nat.zero_le _) (Nat.zero_le _) dX5_finish_52 ?_
    refine zi_min (lo := (-2147483648)) (hi := 3) bx_17 bx_20 (by decide) (fun x_21 bx_21 tx_21 => ?_)
    refine zt_put (t := 5) (C := RX5) (T := TX5) (N := 19) (v := .int x_21) Z h hth zin_5 tyX5 tyX5_ok nmX5 rfl 18 rfl ⟨by decide, rfl⟩ (zm_RX5 (List.mem_of_getElem? (i := 13) rfl)) (fun _ h9 => h9) rfl (zV.i (bx_21.w ⟨by decide, by decide⟩)) rfl rfl dX5_finish_55 (fun H locs F_22 h hfF_22 kF_22 => ?_)
    refine lv_aload_n hx hb dX5_finish_58 rfl (lv_at hl 0 rfl) ?_
    refine lv_iload_n hx hb dX5_finish_59 rfl (lv_at hl 1 rfl) ?_
    refine zk_Vv (As := [.int f]) (rest := []) (bytes := cX5_enter) (maxL := 4) (ret := none) Z h (zc_X5_enterB l D k Γ L F_22 H.size th f dp pr x_8 hth bf_7 (hfF_22.f hth 15 ⟨by decide, by decide⟩ (hfF_15.f hth 15 ⟨by decide, by decide⟩ (hfF_13.f hth 15 ⟨by decide, by decide⟩ (hfF_11.f hth 15 ⟨by decide, by decide⟩ kdp)))) bdp (hfF_22.f hth 10 ⟨by decide, by decide⟩ (hfF_15.f hth 10 ⟨by decide, by decide⟩ (hfF_13.f hth 10 ⟨by decide, by decide⟩ (hfF_11.f hth 10 ⟨by decide, by decide⟩ kpr)))) hpr (hfF_22.f hpr 4 ⟨by decide, by decide⟩ (hfF_15.f hpr 4 ⟨by decide, by decide⟩ (hfF_13.f hpr 4 ⟨by decide, by decide⟩ (hfF_11.f hpr 4 ⟨by decide, by decide⟩ kx_8)))) bx_8 (by have := bf_7.1; have := bf_7.2; have := (zB.all x).1; have := (zB.all x).2; have := (zB.all y).1; have := (zB.all y).2; have := (zB.all z).1; have := (zB.all z).2; have := bdp.1; have := bdp.2; have := bx_8.1; have := bx_8.2; have := bsc.1; have := bsc.2; have := btc.1; have := btc.2; have := bx_21.1; have := bx_21.2; have := bx_20.1; have := bx_20.2; have : (0 : Int32).toInt = 0 := (by decide); omega)) (cwV 1 hg zv_RX5_95 rfl rfl rfl zd_X5_enter ⟨z_leR hRf (by decide), z_leR hRl (by decide)⟩) hth (by decide) rfl rfl hl.1 rfl (Nat.le_of_ble_eq_true rfl) dX5_finish_60 ⟨Nat.zero_le _, Nat.zero_le _⟩ (fun F_23 H locs w_24 h hfF_23 => ?_)
    obtain ⟨⟨x_26, x_27, kx_26, bx_26, kx_27, bx_27, q_25⟩, -⟩ := w_24
    refine lv_aload_n hx hb dX5_finish_63 rfl (lv_at hl 0 rfl) ?_
    refine zt_getk (t := 5) (C := RX5) (T := TX5) (N := 19) Z h hth zin_5 rfl 10 (hfF_23.f hth 10 ⟨by decide, by decide⟩ (hfF_22.f hth 10 ⟨by decide, by decide⟩ (hfF_15.f hth 10 ⟨by decide, by decide⟩ (hfF_13.f hth 10 ⟨by decide, by decide⟩ (hfF_11.f hth 10 ⟨by decide, by decide⟩ kpr))))) ⟨by decide, rfl, by decide⟩ (zm_RX5 (List.mem_of_getElem? (i := 2) rfl)) (fun _ h9 => h9) dX5_finish_64 ?_
    refine zt_getr (t := 6) (C := RX6) (T := TX6) (N := 6) Z h hpr zin_6 rfl 1 rfl ⟨by decide, rfl⟩ (zm_RX5 (List.mem_of_getElem? (i := 29) rfl)) (fun _ h9 => h9) dX5_finish_67 (fun a_28 ka_28 ha_28 => ?_)
    refine lv_astore (lv' := [(5, .ref a_28), (0, .ref th), (1, .int f), (2, .int x), (3, .int y), (4, .int z)]) hx hb dX5_finish_70 hl (by decide) rfl (fun ls hl => ?_)
    refine lv_iconst (v := 0) hx hb dX5_finish_72 (by decide) ?_
    refine lv_istore (lv' := [(6, .int 0), (5, .ref a_28), (0, .ref th), (1, .int f), (2, .int x), (3, .int y), (4, .int z)]) hx hb dX5_finish_73 hl (by decide) rfl (fun ls hl => ?_)
    have j_j75_29 : ∀ (n : Nat) (ls : Array Slot) (y6_j75_29 : Int32) (ks_j75_29 : Int32) (kt_j75_29 : Int32) (kg_j75_29 : Int32) (kd_j75_29 : Int32) (F_30 : Nat → va_E) (H : Heap) (locs : List Loc), lv_has ls 8 [(6, .int y6_j75_29), (5, .ref a_28), (0, .ref th)] → zB 0 4000000 y6_j75_29 → zH D k Γ L s F_30 H locs → zFr Γ [500, 501, 502, 503, 504, 505, 506, 513, 514, 515, 518, 10800, 10900, 11000, 11100, 11200] F_23 F_30 → zfld F_30 th 3 = .int ks_j75_29 → zB 0 4000000 ks_j75_29 → zfld F_30 th 4 = .int kt_j75_29 → zB 0 4000000 kt_j75_29 → zfld F_30 th 13 = .int kg_j75_29 → zB 0 1 kg_j75_29 → zfld F_30 th 15 = .int kd_j75_29 → zB 0 8 kd_j75_29 → (ks_j75_29.toInt ≤ y6_j75_29.toInt) → (kt_j75_29.toInt ≤ y6_j75_29.toInt) → (kg_j75_29.toInt ≠ 0 → 1 ≤ kd_j75_29.toInt) → (2147483647 - y6_j75_29.toInt).toNat = n → W p l e R s m args below meth c H locs 0 0 Q (F0 m 75 ls []) := by
      intro n
      induction n using Nat.strongRecOn with
      | _ n ih_j75_29 =>
        intro ls y6_j75_29 ks_j75_29 kt_j75_29 kg_j75_29 kd_j75_29 F_30 H locs hl by6_j75_29 h hfF_30 hks_j75_29 bks_j75_29 hkt_j75_29 bkt_j75_29 hkg_j75_29 bkg_j75_29 hkd_j75_29 bkd_j75_29 r0_j75_29 r1_j75_29 r2_j75_29 hn_j75_29
        refine lv_iload hx hb dX5_finish_75 (lv_at hl 0 rfl) ?_
        refine lv_ldc hx hb hown (hg _ (zm_RX5 (List.mem_of_getElem? (i := 30) rfl))) dX5_finish_77 ?_
        refine lv_icmp_ge (tgt := 151) hx hb dX5_finish_79 (by decide) (fun c_31 => ?_) (fun c_31 => ?_)
        · have c_31 := z_le c_31
          have by6_j75_29_32 : zB 4000000 4000000 y6_j75_29 := zB.leR c_31 (zBc 4000000 4000000 (by decide)) by6_j75_29 (by decide)
          subst hQ
          exact W.vret hx hb hr (fun t ht hW => ⟨⟨F_30, rfl, trivial, by rw [ht]; exact h.1, h.2.1, ((((((hfF_11.w (by decide)).trans hfF_13 (by decide)).trans hfF_15 (by decide)).trans hfF_22 (by decide)).trans hfF_23 (by decide)).trans hfF_30 (by decide))⟩, h.2.2.F ht⟩) h.2.2.2.2 dX5_finish_151
        · have c_31 := z_nle c_31
          have by6_j75_29_33 : zB 0 3999999 y6_j75_29 := zB.ltL c_31 by6_j75_29 (zBc 4000000 4000000 (by decide)) (by decide)
          refine lv_aload_n hx hb dX5_finish_82 rfl (lv_at hl 2 rfl) ?_
          refine zt_getk (t := 5) (C := RX5) (T := TX5) (N := 19) Z h hth zin_5 rfl 13 hkg_j75_29 ⟨by decide, rfl, by decide⟩ (zm_RX5 (List.mem_of_getElem? (i := 14) rfl)) (fun _ h9 => h9) dX5_finish_83 ?_
          refine lv_if_eq (tgt := 151) hx hb dX5_finish_86 (by decide) (fun c_34 => ?_) (fun c_34 => ?_)
          · have c_34 := z_eq c_34
            have bkg_j75_29_35 : zB 0 0 kg_j75_29 := zB.eqL (a := 0) (b := 0) c_34 (zBc 0 0 (by decide))
            subst hQ
            exact W.vret hx hb hr (fun t ht hW => ⟨⟨F_30, rfl, trivial, by rw [ht]; exact h.1, h.2.1, ((((((hfF_11.w (by decide)).trans hfF_13 (by decide)).trans hfF_15 (by decide)).trans hfF_22 (by decide)).trans hfF_23 (by decide)).trans hfF_30 (by decide))⟩, h.2.2.F ht⟩) h.2.2.2.2 dX5_finish_151
          · have c_34 := z_ne c_34
            have bkg_j75_29_36 : zB 1 1 kg_j75_29 := zB.neLo c_34 bkg_j75_29 (zBc 0 0 (by decide)) (by decide)
            refine lv_aload hx hb dX5_finish_89 (lv_at hl 1 rfl) ?_
            refine lv_aload_n hx hb dX5_finish_91 rfl (lv_at hl 2 rfl) ?_
            refine zt_geti (t := 5) (C := RX5) (T := TX5) (N := 19) Z h hth zin_5 rfl 14 rfl ⟨by decide, rfl⟩ (zm_RX5 (List.mem_of_getElem? (i := 31) rfl)) (fun _ h9 => h9) dX5_finish_92 (fun x_37 kx_37 bx_37 => ?_)
            refine zk_Vi (As := [.int x_37]) (rest := []) (bytes := cX1_has) (maxL := 2) (ret := (some .boolean)) Z h (zc_X1_has l D k Γ L F_30 H.size a_28 x_37 ha_28) (cwV 1 hg zv_RX5_106 rfl rfl rfl zd_X1_has ⟨z_leR hRf (by decide), z_leR hRl (by decide)⟩) ha_28 (by decide) rfl rfl hl.1 rfl (Nat.le_of_ble_eq_true rfl) dX5_finish_95 ⟨Nat.zero_le _, Nat.zero_le _⟩ (fun r_38 F_39 H locs w_40 h hfF_39 => ?_)
            obtain ⟨rfl, br_38, q_41, -⟩ := w_40
            refine lv_if_eq (tgt := 151) hx hb dX5_finish_98 (by decide) (fun c_42 => ?_) (fun c_42 => ?_)
            · have c_42 := z_eq c_42
              have br_38_43 : zB 0 0 r_38 := zB.eqL (a := 0) (b := 0) c_42 (zBc 0 0 (by decide))
              subst hQ
              exact W.vret hx hb hr (fun t ht hW => ⟨⟨F_30, rfl, trivial, by rw [ht]; exact h.1, h.2.1, ((((((hfF_11.w (by decide)).trans hfF_13 (by decide)).trans hfF_15 (by decide)).trans hfF_22 (by decide)).trans hfF_23 (by decide)).trans hfF_30 (by decide))⟩, h.2.2.F ht⟩) h.2.2.2.2 dX5_finish_151
            · have bx_37_44 : zB 0 1199 x_37 := q_41 c_42
              have c_42 := z_ne c_42
              have br_38_45 : zB 1 1 r_38 := zB.neLo c_42 br_38 (zBc 0 0 (by decide)) (by decide)
              refine lv_aload_n hx hb dX5_finish_101 rfl (lv_at hl 2 rfl) ?_
              refine zt_getk (t := 5) (C := RX5) (T := TX5) (N := 19) Z h hth zin_5 rfl 14 kx_37 ⟨by decide, rfl, by decide⟩ (zm_RX5 (List.mem_of_getElem? (i := 31) rfl)) (fun _ h9 => h9) dX5_finish_102 ?_
              refine lv_istore (lv' := [(7, .int x_37), (6, .int y6_j75_29), (5, .ref a_28), (0, .ref th)]) hx hb dX5_finish_105 hl (by decide) rfl (fun ls hl => ?_)
              refine lv_aload_n hx hb dX5_finish_107 rfl (lv_at hl 3 rfl) ?_
              refine lv_dup hx hb dX5_finish_108 rfl ?_
              refine zt_getk (t := 5) (C := RX5) (T := TX5) (N := 19) Z h hth zin_5 rfl 14 kx_37 ⟨by decide, rfl, by decide⟩ (zm_RX5 (List.mem_of_getElem? (i := 31) rfl)) (fun _ h9 => h9) dX5_finish_109 ?_
              refine lv_iconst (v := 1) hx hb dX5_finish_112 (by decide) ?_
              refine lv_iadd hx hb dX5_finish_113 ?_
              refine zi_add (lo := 1) (hi := 1200) bx_37_44 (zBc 1 1 (by decide)) (by decide) (fun x_46 bx_46 tx_46 => ?_)
              refine zt_put (t := 5) (C := RX5) (T := TX5) (N := 19) (v := .int x_46) Z h hth zin_5 tyX5 tyX5_ok nmX5 rfl 14 rfl ⟨by decide, rfl⟩ (zm_RX5 (List.mem_of_getElem? (i := 31) rfl)) (fun _ h9 => h9) rfl (zV.i (bx_46.w ⟨by decide, by decide⟩)) rfl rfl dX5_finish_114 (fun H locs F_47 h hfF_47 kF_47 => ?_)
              refine lv_aload_n hx hb dX5_finish_117 rfl (lv_at hl 3 rfl) ?_
              refine lv_aload hx hb dX5_finish_118 (lv_at hl 2 rfl) ?_
              refine zt_getr (t := 1) (C := RX1) (T := TX1) (N := 4) Z h ha_28 zin_1 rfl 0 rfl ⟨by decide, rfl⟩ (zm_RX5 (List.mem_of_getElem? (i := 33) rfl)) (fun _ h9 => h9) dX5_finish_120 (fun a_48 ka_48 ha_48 => ?_)
              refine lv_iload hx hb dX5_finish_123 (lv_at hl 0 rfl) ?_
              refine zt_ialde (t := 102) Z h ha_48 ⟨by decide, rfl⟩ bx_37_44 ⟨by decide, by decide⟩ dX5_finish_125 (fun x_49 ex_49 bx_49 => ?_)
              refine lv_aload hx hb dX5_finish_126 (lv_at hl 2 rfl) ?_
              refine zt_getr (t := 1) (C := RX1) (T := TX1) (N := 4) Z h ha_28 zin_1 rfl 1 rfl ⟨by decide, rfl⟩ (zm_RX5 (List.mem_of_getElem? (i := 34) rfl)) (fun _ h9 => h9) dX5_finish_128 (fun a_50 ka_50 ha_50 => ?_)
              refine lv_iload hx hb dX5_finish_131 (lv_at hl 0 rfl) ?_
              refine zt_ialde (t := 158) Z h ha_50 ⟨by decide, rfl⟩ bx_37_44 ⟨by decide, by decide⟩ dX5_finish_133 (fun x_51 ex_51 bx_51 => ?_)
              refine lv_aload hx hb dX5_finish_134 (lv_at hl 2 rfl) ?_
              refine zt_getr (t := 1) (C := RX1) (T := TX1) (N := 4) Z h ha_28 zin_1 rfl 2 rfl ⟨by decide, rfl⟩ (zm_RX5 (List.mem_of_getElem? (i := 35) rfl)) (fun _ h9 => h9) dX5_finish_136 (fun a_52 ka_52 ha_52 => ?_)
              refine lv_iload hx hb dX5_finish_139 (lv_at hl 0 rfl) ?_
              refine zt_ialde (t := 159) Z h ha_52 ⟨by decide, rfl⟩ bx_37_44 ⟨by decide, by decide⟩ dX5_finish_141 (fun x_53 ex_53 bx_53 => ?_)
              have bkd_j75_29_54 : zB 1 8 kd_j75_29 := ⟨by have := bx_37_44.1; have := bx_37_44.2; have := by6_j75_29_33.1; have := by6_j75_29_33.2; have := bx_53.1; have := bx_53.2; have := bx_51.1; have := bx_51.2; have := bx_49.1; have := bx_49.2; have := bkd_j75_29.1; have := bkd_j75_29.2; have := bks_j75_29.1; have := bks_j75_29.2; have := bkt_j75_29.1; have := bkt_j75_29.2; have := bx_8.1; have := bx_8.2; have := bx_20.1; have := bx_20.2; have := bkg_j75_29_36.1; have := bkg_j75_29_36.2; have := bx_46.1; have := bx_46.2; have : (0 : Int32).toInt = 0 := (by decide); have : (1 : Int32).toInt = 1 := (by decide); have : (4000000 : Int32).toInt = 4000000 := (by decide); omega, by have := bx_37_44.1; have := bx_37_44.2; have := by6_j75_29_33.1; have := by6_j75_29_33.2; have := bx_53.1; have := bx_53.2; have := bx_51.1; have := bx_51.2; have := bx_49.1; have := bx_49.2; have := bkd_j75_29.1; have := bkd_j75_29.2; have := bks_j75_29.1; have := bks_j75_29.2; have := bkt_j75_29.1; have := bkt_j75_29.2; have := bx_8.1; have := bx_8.2; have := bx_20.1; have := bx_20.2; have := bkg_j75_29_36.1; have := bkg_j75_29_36.2; have := bx_46.1; have := bx_46.2; have : (0 : Int32).toInt = 0 := (by decide); have : (1 : Int32).toInt = 1 := (by decide); have : (4000000 : Int32).toInt = 4000000 := (by decide); omega⟩
              refine zk_Vv (As := [.int x_49, .int x_51, .int x_53]) (rest := []) (bytes := cX5_obey) (maxL := 4) (ret := none) Z h (zc_X5_obey l D k Γ L F_47 H.size th x_49 x_51 x_53 ks_j75_29 kt_j75_29 kd_j75_29 pr hth (hfF_47.f hth 3 ⟨by decide, by decide⟩ hks_j75_29) bks_j75_29 (hfF_47.f hth 4 ⟨by decide, by decide⟩ hkt_j75_29) bkt_j75_29 (hfF_47.f hth 15 ⟨by decide, by decide⟩ hkd_j75_29) bkd_j75_29_54 (hfF_47.f hth 10 ⟨by decide, by decide⟩ (hfF_30.f hth 10 ⟨by decide, by decide⟩ (hfF_23.f hth 10 ⟨by decide, by decide⟩ (hfF_22.f hth 10 ⟨by decide, by decide⟩ (hfF_15.f hth 10 ⟨by decide, by decide⟩ (hfF_13.f hth 10 ⟨by decide, by decide⟩ (hfF_11.f hth 10 ⟨by decide, by decide⟩ kpr))))))) hpr) (cwV 3 hg zv_RX5_120 rfl rfl rfl zd_X5_obey ⟨z_leR hRf (by decide), z_leR hRl (by decide)⟩) hth (by decide) rfl rfl hl.1 rfl (Nat.le_of_ble_eq_true rfl) dX5_finish_142 ⟨Nat.zero_le _, Nat.zero_le _⟩ (fun F_55 H locs w_56 h hfF_55 => ?_)
              obtain ⟨⟨x_58, kx_58, bx_58, q_57⟩, ⟨x_60, kx_60, bx_60, q_59⟩, ⟨x_62, x_63, kx_62, bx_62, kx_63, bx_63, q_61⟩, -⟩ := w_56
              obtain ⟨x_64, ex_64, bx_64, tx_64⟩ := z_inc (n := 1) (lo := 1) (hi := 4000000) by6_j75_29_33 (by decide)
              refine lv_iinc (v := x_64) (lv' := [(6, .int x_64), (7, .int x_37), (5, .ref a_28), (0, .ref th)]) hx hb dX5_finish_145 hl (k := 1) rfl ex_64 (by decide) rfl (fun ls hl => ?_)
              refine lv_goto (tgt := 75) hx hb dX5_finish_148 (by decide) ?_
              exact ih_j75_29 _ (by have := bx_64.1; have := bx_64.2; have := bx_37_44.1; have := bx_37_44.2; have := bx_58.1; have := bx_58.2; have := bx_60.1; have := bx_60.2; have := bx_62.1; have := bx_62.2; have := bx_63.1; have := bx_63.2; have := bx_8.1; have := bx_8.2; have := bx_20.1; have := bx_20.2; have : (0 : Int32).toInt = 0 := (by decide); have : (1 : Int32).toInt = 1 := (by decide); have : (4000000 : Int32).toInt = 4000000 := (by decide); have := by6_j75_29.1; have := by6_j75_29.2; omega) ls x_64 x_58 x_60 x_62 x_63 F_55 H locs (lv_sub hl [0, 2, 3] rfl) (bx_64.w ⟨by decide, by decide⟩) h ((hfF_30.trans hfF_47 (by decide)).trans hfF_55 (by decide)) kx_58 (zB.of ⟨by have := bx_64.1; have := bx_64.2; have := bx_37_44.1; have := bx_37_44.2; have := bx_58.1; have := bx_58.2; have := bx_60.1; have := bx_60.2; have := bx_63.1; have := bx_63.2; have := bx_8.1; have := bx_8.2; have := bx_20.1; have := bx_20.2; have := bx_62.1; have := bx_62.2; have : (0 : Int32).toInt = 0 := (by decide); have : (1 : Int32).toInt = 1 := (by decide); have : (4000000 : Int32).toInt = 4000000 := (by decide); omega, by have := bx_64.1; have := bx_64.2; have := bx_37_44.1; have := bx_37_44.2; have := bx_58.1; have := bx_58.2; have := bx_60.1; have := bx_60.2; have := bx_63.1; have := bx_63.2; have := bx_8.1; have := bx_8.2; have := bx_20.1; have := bx_20.2; have := bx_62.1; have := bx_62.2; have : (0 : Int32).toInt = 0 := (by decide); have : (1 : Int32).toInt = 1 := (by decide); have : (4000000 : Int32).toInt = 4000000 := (by decide); omega⟩) kx_60 (zB.of ⟨by have := bx_64.1; have := bx_64.2; have := bx_37_44.1; have := bx_37_44.2; have := bx_60.1; have := bx_60.2; have := bx_58.1; have := bx_58.2; have := bx_63.1; have := bx_63.2; have := bx_8.1; have := bx_8.2; have := bx_20.1; have := bx_20.2; have := bx_62.1; have := bx_62.2; have : (0 : Int32).toInt = 0 := (by decide); have : (1 : Int32).toInt = 1 := (by decide); have : (4000000 : Int32).toInt = 4000000 := (by decide); omega, by have := bx_64.1; have := bx_64.2; have := bx_37_44.1; have := bx_37_44.2; have := bx_60.1; have := bx_60.2; have := bx_58.1; have := bx_58.2; have := bx_63.1; have := bx_63.2; have := bx_8.1; have := bx_8.2; have := bx_20.1; have := bx_20.2; have := bx_62.1; have := bx_62.2; have : (0 : Int32).toInt = 0 := (by decide); have : (1 : Int32).toInt = 1 := (by decide); have : (4000000 : Int32).toInt = 4000000 := (by decide); omega⟩) kx_62 bx_62 kx_63 bx_63 (by have := bx_64.1; have := bx_64.2; have := bx_37_44.1; have := bx_37_44.2; have := bx_58.1; have := bx_58.2; have := bx_60.1; have := bx_60.2; have := bx_62.1; have := bx_62.2; have := bx_63.1; have := bx_63.2; have := bx_8.1; have := bx_8.2; have := bx_20.1; have := bx_20.2; have : (0 : Int32).toInt = 0 := (by decide); have : (1 : Int32).toInt = 1 := (by decide); have : (4000000 : Int32).toInt = 4000000 := (by decide); omega) (by have := bx_64.1; have := bx_64.2; have := bx_37_44.1; have := bx_37_44.2; have := bx_58.1; have := bx_58.2; have := bx_60.1; have := bx_60.2; have := bx_62.1; have := bx_62.2; have := bx_63.1; have := bx_63.2; have := bx_8.1; have := bx_8.2; have := bx_20.1; have := bx_20.2; have : (0 : Int32).toInt = 0 := (by decide); have : (1 : Int32).toInt = 1 := (by decide); have : (4000000 : Int32).toInt = 4000000 := (by decide); omega) (by have := bx_64.1; have := bx_64.2; have := bx_37_44.1; have := bx_37_44.2; have := bx_58.1; have := bx_58.2; have := bx_60.1; have := bx_60.2; have := bx_62.1; have := bx_62.2; have := bx_63.1; have := bx_63.2; have := bx_8.1; have := bx_8.2; have := bx_20.1; have := bx_20.2; have : (0 : Int32).toInt = 0 := (by decide); have : (1 : Int32).toInt = 1 := (by decide); have : (4000000 : Int32).toInt = 4000000 := (by decide); omega) rfl
    exact j_j75_29 _ ls 0 sc tc x_26 x_27 F_23 H locs (lv_sub hl [0, 1, 2] rfl) (zB.of ⟨by decide, by decide⟩) h zFr.rf (hfF_23.f hth 3 ⟨by decide, by decide⟩ (hfF_22.f hth 3 ⟨by decide, by decide⟩ (hfF_15.f hth 3 ⟨by decide, by decide⟩ (hfF_13.f hth 3 ⟨by decide, by decide⟩ (hfF_11.f hth 3 ⟨by decide, by decide⟩ ksc))))) (bsc.w ⟨by decide, by decide⟩) (hfF_23.f hth 4 ⟨by decide, by decide⟩ (hfF_22.f hth 4 ⟨by decide, by decide⟩ (hfF_15.f hth 4 ⟨by decide, by decide⟩ (hfF_13.f hth 4 ⟨by decide, by decide⟩ (hfF_11.f hth 4 ⟨by decide, by decide⟩ ktc))))) (btc.w ⟨by decide, by decide⟩) kx_26 bx_26 kx_27 bx_27 (by have := bf_7.1; have := bf_7.2; have := (zB.all x).1; have := (zB.all x).2; have := (zB.all y).1; have := (zB.all y).2; have := (zB.all z).1; have := (zB.all z).2; have := bsc.1; have := bsc.2; have := btc.1; have := btc.2; have := bx_26.1; have := bx_26.2; have := bx_27.1; have := bx_27.2; have := bx_8.1; have := bx_8.2; have := bx_20.1; have := bx_20.2; have : (0 : Int32).toInt = 0 := (by decide); omega) (by have := bf_7.1; have := bf_7.2; have := (zB.all x).1; have := (zB.all x).2; have := (zB.all y).1; have := (zB.all y).2; have := (zB.all z).1; have := (zB.all z).2; have := bsc.1; have := bsc.2; have := btc.1; have := btc.2; have := bx_26.1; have := bx_26.2; have := bx_27.1; have := bx_27.2; have := bx_8.1; have := bx_8.2; have := bx_20.1; have := bx_20.2; have : (0 : Int32).toInt = 0 := (by decide); omega) (by have := bf_7.1; have := bf_7.2; have := (zB.all x).1; have := (zB.all x).2; have := (zB.all y).1; have := (zB.all y).2; have := (zB.all z).1; have := (zB.all z).2; have := bsc.1; have := bsc.2; have := btc.1; have := btc.2; have := bx_26.1; have := bx_26.2; have := bx_27.1; have := bx_27.2; have := bx_8.1; have := bx_8.2; have := bx_20.1; have := bx_20.2; have : (0 : Int32).toInt = 0 := (by decide); omega) rfl
  · have c_6 := z_eq c_6
    have br_1_65 : zB 0 0 r_1 := zB.eqL (a := 0) (b := 0) c_6 (zBc 0 0 (by decide))
    subst hQ
    exact W.vret hx hb hr (fun t ht hW => ⟨⟨F, rfl, trivial, by rw [ht]; exact h.1, h.2.1, zFr.rf⟩, h.2.2.F ht⟩) h.2.2.2.2 dX5_finish_18
