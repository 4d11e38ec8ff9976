set_option maxHeartbeats 4000000 in
set_option maxRecDepth 100000 in
theorem ze_X8_has (l : Launch) (D : va_G) (k : Nat → ClassId) (Γ : Nat → Option Nat) (L : List Nat) (F : Nat → va_E) (sz : Nat) (tk : Nat) (tq : Int32) (Bt : Nat → Int32) (nt : Nat) (Nt : Nat) (htk : Γ tk = some 8) (p_tb : zTb Γ F tk Bt nt Nt) : Met l yX8_has zwX8_has ({ frames := 0, cells := 0, slots := 0, locals := 0 }) (va_Pc [.ref tk, .int tq] (zP D k Γ L F sz)) (va_Qi (fun (r : Int32) (u : Nat → va_E) => F = u ∧ zB 0 1 r ∧ (r ≠ 0 → zB 0 600 tq) ∧ ((r.toInt = 1 ∧ 0 ≤ tq.toInt ∧ tq.toInt < Nt) ∨ (r.toInt = 0 ∧ (tq.toInt < 0 ∨ (Nt : Int) ≤ tq.toInt))) ∧ True) (zQ D k Γ L F []) (zA L sz)) 0 0 (zA L sz) := by
  refine Met.ofW (cc := cX8_has) (maxL := 2) (ret := (some .boolean)) (by decide) rfl ?_
  intro p e s m args below meth c s₁ B hml hv
  obtain ⟨rfl, hsz, hP, hK, hLn, hE, hI⟩ := hv
  have hx := B.exec
  have hb := B.bytes
  have hr := B.returns
  have hg : ∀ w ∈ zG, w.before _ s = true := fun w h9 => atoms_spec (ws := zwX8_has) B.pre w (List.mem_cons_of_mem _ h9)
  have hown : s.vm.findClass RX8 = some m.cls := findClass_of_methodNamed B.named
  have hlocks := B.notSynchronized
  subst hsz
  have Z : zC p m c cX8_has 2 s _ zG RX8 D k L := ⟨⟨hx, hb, hml, hown, hg⟩, hK, hLn, hE⟩
  have h : zH D k Γ L s F s.heap [] := ⟨hP, hI, va_S.rf⟩
  have hl := lv_entry ([.ref tk, .int tq]) (n := 2) (Nat.le_of_ble_eq_true rfl)
  rw [lg_entry_eq]
  generalize (lg_sl ([.ref tk, .int tq]) ++ List.replicate (2 - (lg_sl ([.ref tk, .int tq])).length) Slot.unset).toArray = ls at hl ⊢
  have hl : lv_has ls 2 [(0, .ref tk), (1, .int tq)] := hl
  clear hP hK hLn hE hI
  generalize hargs : ([.ref tk, .int tq] : List Value).toArray = args at *
  refine z_start (fun R Q hRf hRl hQ => ?_)
  have hRf : R.frames = 0 := hRf
  have hRl : R.locals = 0 := hRl
  have h9 := h
  obtain ⟨sz_, ksz_, tsz_⟩ := p_tb.2.2.1
  have hN6 := zTb.size p_tb ksz_
  have bsz_ : zB 1 601 sz_ := ⟨by omega, by omega⟩
  refine lv_iload_n hx hb dX8_has_0 rfl (lv_at hl 1 rfl) ?_
  refine lv_if_lt (tgt := 25) hx hb dX8_has_1 (by decide) (fun c_1 => ?_) (fun c_1 => ?_)
  · have c_1 := z_lt c_1
    have btq_2 : zB (-2147483648) (-1) tq := zB.ltL c_1 (zB.all tq) (zBc 0 0 (by decide)) (by decide)
    refine lv_iconst (v := 0) hx hb dX8_has_25 (by decide) ?_
    subst hQ
    exact W.zret (v := 0) hx hb hr (by decide) (fun t ht hW => ⟨⟨0, F, rfl, ⟨rfl, (zB.of ⟨by decide, by decide⟩), (fun h9 => absurd rfl h9), (by have := btq_2.1; have := btq_2.2; have := bsz_.1; have := bsz_.2; have : (0 : Int32).toInt = 0 := (by decide); omega), trivial⟩, by rw [ht]; exact h.1, h.2.1, zFr.rf⟩, h.2.2.F ht⟩) h.2.2.2.2 dX8_has_26
  · have c_1 := z_nlt c_1
    have btq_3 : zB 0 2147483647 tq := zB.leR c_1 (zBc 0 0 (by decide)) (zB.all tq) (by decide)
    refine lv_iload_n hx hb dX8_has_4 rfl (lv_at hl 1 rfl) ?_
    refine lv_aload_n hx hb dX8_has_5 rfl (lv_at hl 0 rfl) ?_
    refine zt_getk (t := 8) (C := RX8) (T := TX8) (N := 6) Z h htk zin_8 rfl 5 ksz_ ⟨by decide, rfl, by decide⟩ (zm_RX8 (List.mem_of_getElem? (i := 25) rfl)) (fun _ h9 => h9) dX8_has_6 ?_
    refine lv_icmp_ge (tgt := 25) hx hb dX8_has_9 (by decide) (fun c_4 => ?_) (fun c_4 => ?_)
    · have c_4 := z_le c_4
      have btq_5 : zB 1 2147483647 tq := zB.leR c_4 bsz_ btq_3 (by decide)
      refine lv_iconst (v := 0) hx hb dX8_has_25 (by decide) ?_
      subst hQ
      exact W.zret (v := 0) hx hb hr (by decide) (fun t ht hW => ⟨⟨0, F, rfl, ⟨rfl, (zB.of ⟨by decide, by decide⟩), (fun h9 => absurd rfl h9), (by have := btq_5.1; have := btq_5.2; have := bsz_.1; have := bsz_.2; have : (0 : Int32).toInt = 0 := (by decide); omega), trivial⟩, by rw [ht]; exact h.1, h.2.1, zFr.rf⟩, h.2.2.F ht⟩) h.2.2.2.2 dX8_has_26
    · have c_4 := z_nle c_4
      have btq_6 : zB 0 600 tq := zB.ltL c_4 btq_3 bsz_ (by decide)
      refine lv_iload_n hx hb dX8_has_12 rfl (lv_at hl 1 rfl) ?_
      refine lv_aload_n hx hb dX8_has_13 rfl (lv_at hl 0 rfl) ?_
      refine zt_getr (t := 8) (C := RX8) (T := TX8) (N := 6) Z h htk zin_8 rfl 2 rfl ⟨by decide, rfl⟩ (zm_RX8 (List.mem_of_getElem? (i := 52) rfl)) (fun _ h9 => h9) dX8_has_14 (fun a_7 ka_7 ha_7 => ?_)
      refine zt_alen (t := 101) Z h ha_7 ⟨by decide, rfl⟩ (by decide) (v := 601) rfl dX8_has_17 ?_
      refine lv_icmp_ge (tgt := 25) hx hb dX8_has_18 (by decide) (fun c_8 => ?_) (fun c_8 => ?_)
      · have c_8 := z_le c_8
        exact zB.noLe c_8 (zBc 601 601 (by decide)) btq_6 (by decide)
      · have c_8 := z_nle c_8
        refine lv_iconst (v := 1) hx hb dX8_has_21 (by decide) ?_
        refine lv_goto (tgt := 26) hx hb dX8_has_22 (by decide) ?_
        subst hQ
        exact W.zret (v := 1) hx hb hr (by decide) (fun t ht hW => ⟨⟨1, F, rfl, ⟨rfl, (zB.of ⟨by decide, by decide⟩), (fun _ => btq_6), (by have := btq_6.1; have := btq_6.2; have := bsz_.1; have := bsz_.2; have : (0 : Int32).toInt = 0 := (by decide); have : (1 : Int32).toInt = 1 := (by decide); have : (601 : Int32).toInt = 601 := (by decide); omega), trivial⟩, by rw [ht]; exact h.1, h.2.1, zFr.rf⟩, h.2.2.F ht⟩) h.2.2.2.2 dX8_has_26

set_option maxHeartbeats 4000000 in
set_option maxRecDepth 100000 in
theorem ze_X8_placeOf (l : Launch) (D : va_G) (k : Nat → ClassId) (Γ : Nat → Option Nat) (L : List Nat) (F : Nat → va_E) (sz : Nat) (tk : Nat) (tq : Int32) (Bt : Nat → Int32) (nt : Nat) (Nt : Nat) (htk : Γ tk = some 8) (p_tb : zTb Γ F tk Bt nt Nt) (hr0 : 0 ≤ tq.toInt ∧ tq.toInt < Nt) : Met l yX8_placeOf zwX8_placeOf ({ frames := 1, cells := 0, slots := 0, locals := 21 }) (va_Pc [.ref tk, .int tq] (zP D k Γ L F sz)) (va_Qi (fun (r : Int32) (u : Nat → va_E) => F = u ∧ r.toInt = zpo Bt nt tq.toInt.toNat ∧ True) (zQ D k Γ L F []) (zA L sz)) 0 0 (zA L sz) := by
  refine Met.ofW (cc := cX8_placeOf) (maxL := 2) (ret := (some .int)) (by decide) rfl ?_
  intro p e s m args below meth c s₁ B hml hv
  obtain ⟨rfl, hsz, hP, hK, hLn, hE, hI⟩ := hv
  have hx := B.exec
  have hb := B.bytes
  have hr := B.returns
  have hg : ∀ w ∈ zG, w.before _ s = true := fun w h9 => atoms_spec (ws := zwX8_placeOf) B.pre w (List.mem_cons_of_mem _ h9)
  have hown : s.vm.findClass RX8 = some m.cls := findClass_of_methodNamed B.named
  have hlocks := B.notSynchronized
  subst hsz
  have Z : zC p m c cX8_placeOf 2 s _ zG RX8 D k L := ⟨⟨hx, hb, hml, hown, hg⟩, hK, hLn, hE⟩
  have h : zH D k Γ L s F s.heap [] := ⟨hP, hI, va_S.rf⟩
  have hl := lv_entry ([.ref tk, .int tq]) (n := 2) (Nat.le_of_ble_eq_true rfl)
  rw [lg_entry_eq]
  generalize (lg_sl ([.ref tk, .int tq]) ++ List.replicate (2 - (lg_sl ([.ref tk, .int tq])).length) Slot.unset).toArray = ls at hl ⊢
  have hl : lv_has ls 2 [(0, .ref tk), (1, .int tq)] := hl
  clear hP hK hLn hE hI
  generalize hargs : ([.ref tk, .int tq] : List Value).toArray = args at *
  refine z_start (fun R Q hRf hRl hQ => ?_)
  have hRf : R.frames = 1 := hRf
  have hRl : R.locals = 21 := hRl
  have h9 := h
  obtain ⟨sz_, ksz_, tsz_⟩ := p_tb.2.2.1
  have hN6 := zTb.size p_tb ksz_
  have bsz_ : zB 1 601 sz_ := ⟨by omega, by omega⟩
  refine lv_aload_n hx hb dX8_placeOf_0 rfl (lv_at hl 0 rfl) ?_
  refine lv_iload_n hx hb dX8_placeOf_1 rfl (lv_at hl 1 rfl) ?_
  refine zk_Vi (As := [.int tq]) (rest := []) (bytes := cX8_has) (maxL := 2) (ret := (some .boolean)) Z h (ze_X8_has l D k Γ L F s.heap.size tk tq Bt nt Nt htk p_tb) (cwV 1 hg zv_RX8_58 rfl rfl rfl zd_X8_has ⟨z_leR hRf (by decide), z_leR hRl (by decide)⟩) htk (by decide) rfl rfl hl.1 rfl (Nat.le_of_ble_eq_true rfl) dX8_placeOf_2 ⟨Nat.zero_le _, Nat.zero_le _⟩ (fun r_1 F_2 H locs w_3 h hfF_2 => ?_)
  obtain ⟨rfl, br_1, q_4, q_5, -⟩ := w_3
  refine lv_if_eq (tgt := 17) hx hb dX8_placeOf_5 (by decide) (fun c_6 => ?_) (fun c_6 => ?_)
  · have c_6 := z_eq c_6
    have br_1_7 : zB 0 0 r_1 := zB.eqL (a := 0) (b := 0) c_6 (zBc 0 0 (by decide))
    refine lv_aload_n hx hb dX8_placeOf_17 rfl (lv_at hl 0 rfl) ?_
    refine zt_geti (t := 8) (C := RX8) (T := TX8) (N := 6) Z h htk zin_8 rfl 1 rfl ⟨by decide, rfl⟩ (zm_RX8 (List.mem_of_getElem? (i := 20) rfl)) (fun _ h9 => h9) dX8_placeOf_18 (fun x_8 kx_8 bx_8 => ?_)
    subst hQ
    exact W.iret (v := x_8) hx hb hr (fun t ht hW => ⟨⟨x_8, F, rfl, ⟨rfl, (False.elim (by have := (zB.all tq).1; have := (zB.all tq).2; have := bx_8.1; have := bx_8.2; have := bsz_.1; have := bsz_.2; have : (0 : Int32).toInt = 0 := (by decide); omega)), trivial⟩, by rw [ht]; exact h.1, h.2.1, zFr.rf⟩, h.2.2.F ht⟩) h.2.2.2.2 dX8_placeOf_21
  · have btq_9 : zB 0 600 tq := q_4 c_6
    have c_6 := z_ne c_6
    have br_1_10 : zB 1 1 r_1 := zB.neLo c_6 br_1 (zBc 0 0 (by decide)) (by decide)
    refine lv_aload_n hx hb dX8_placeOf_8 rfl (lv_at hl 0 rfl) ?_
    refine zt_getr (t := 8) (C := RX8) (T := TX8) (N := 6) Z h htk zin_8 rfl 3 rfl ⟨by decide, rfl⟩ (zm_RX8 (List.mem_of_getElem? (i := 39) rfl)) (fun _ h9 => h9) dX8_placeOf_9 (fun a_11 ka_11 ha_11 => ?_)
    refine lv_iload_n hx hb dX8_placeOf_12 rfl (lv_at hl 1 rfl) ?_
    refine zt_ialde (t := 155) Z h ha_11 ⟨by decide, rfl⟩ btq_9 ⟨by decide, by decide⟩ dX8_placeOf_13 (fun x_12 ex_12 bx_12 => ?_)
    have hp_ := zTb.place p_tb ka_11 ex_12 ⟨(by have := btq_9.1; have := btq_9.2; have := bx_12.1; have := bx_12.2; have := bsz_.1; have := bsz_.2; have : (0 : Int32).toInt = 0 := (by decide); omega), (by have := btq_9.1; have := btq_9.2; have := bx_12.1; have := bx_12.2; have := bsz_.1; have := bsz_.2; have : (0 : Int32).toInt = 0 := (by decide); omega)⟩
    refine lv_goto (tgt := 21) hx hb dX8_placeOf_14 (by decide) ?_
    subst hQ
    exact W.iret (v := x_12) hx hb hr (fun t ht hW => ⟨⟨x_12, F, rfl, ⟨rfl, (by rw [← hp_]), trivial⟩, by rw [ht]; exact h.1, h.2.1, zFr.rf⟩, h.2.2.F ht⟩) h.2.2.2.2 dX8_placeOf_21

set_option maxHeartbeats 4000000 in
set_option maxRecDepth 100000 in
theorem ze_X8_letterOf (l : Launch) (D : va_G) (k : Nat → ClassId) (Γ : Nat → Option Nat) (L : List Nat) (F : Nat → va_E) (sz : Nat) (tk : Nat) (tq : Int32) (Bt : Nat → Int32) (nt : Nat) (Nt : Nat) (htk : Γ tk = some 8) (p_tb : zTb Γ F tk Bt nt Nt) (hr0 : 0 ≤ tq.toInt ∧ tq.toInt < Nt ∧ (zTo Bt nt).1 tq.toInt.toNat = 3) : Met l yX8_letterOf zwX8_letterOf ({ frames := 1, cells := 0, slots := 0, locals := 40 }) (va_Pc [.ref tk, .int tq] (zP D k Γ L F sz)) (va_Qi (fun (r : Int32) (u : Nat → va_E) => F = u ∧ zB 0 30 r ∧ r.toInt = (zTo Bt nt).2.2 tq.toInt.toNat - 1 ∧ True) (zQ D k Γ L F []) (zA L sz)) 0 0 (zA L sz) := by
  refine Met.ofW (cc := cX8_letterOf) (maxL := 2) (ret := (some .int)) (by decide) rfl ?_
  intro p e s m args below meth c s₁ B hml hv
  obtain ⟨rfl, hsz, hP, hK, hLn, hE, hI⟩ := hv
  have hx := B.exec
  have hb := B.bytes
  have hr := B.returns
  have hg : ∀ w ∈ zG, w.before _ s = true := fun w h9 => atoms_spec (ws := zwX8_letterOf) B.pre w (List.mem_cons_of_mem _ h9)
  have hown : s.vm.findClass RX8 = some m.cls := findClass_of_methodNamed B.named
  have hlocks := B.notSynchronized
  subst hsz
  have Z : zC p m c cX8_letterOf 2 s _ zG RX8 D k L := ⟨⟨hx, hb, hml, hown, hg⟩, hK, hLn, hE⟩
  have h : zH D k Γ L s F s.heap [] := ⟨hP, hI, va_S.rf⟩
  have hl := lv_entry ([.ref tk, .int tq]) (n := 2) (Nat.le_of_ble_eq_true rfl)
  rw [lg_entry_eq]
  generalize (lg_sl ([.ref tk, .int tq]) ++ List.replicate (2 - (lg_sl ([.ref tk, .int tq])).length) Slot.unset).toArray = ls at hl ⊢
  have hl : lv_has ls 2 [(0, .ref tk), (1, .int tq)] := hl
  clear hP hK hLn hE hI
  generalize hargs : ([.ref tk, .int tq] : List Value).toArray = args at *
  refine z_start (fun R Q hRf hRl hQ => ?_)
  have hRf : R.frames = 1 := hRf
  have hRl : R.locals = 40 := hRl
  have h9 := h
  refine lv_aload_n hx hb dX8_letterOf_0 rfl (lv_at hl 0 rfl) ?_
  refine lv_iload_n hx hb dX8_letterOf_1 rfl (lv_at hl 1 rfl) ?_
  refine zk_Vi (As := [.int tq]) (rest := []) (bytes := cX8_has) (maxL := 2) (ret := (some .boolean)) Z h (ze_X8_has l D k Γ L F s.heap.size tk tq Bt nt Nt htk p_tb) (cwV 1 hg zv_RX8_58 rfl rfl rfl zd_X8_has ⟨z_leR hRf (by decide), z_leR hRl (by decide)⟩) htk (by decide) rfl rfl hl.1 rfl (Nat.le_of_ble_eq_true rfl) dX8_letterOf_2 ⟨Nat.zero_le _, Nat.zero_le _⟩ (fun r_1 F_2 H locs w_3 h hfF_2 => ?_)
  obtain ⟨rfl, br_1, q_4, q_5, -⟩ := w_3
  refine lv_if_eq (tgt := 28) hx hb dX8_letterOf_5 (by decide) (fun c_6 => ?_) (fun c_6 => ?_)
  · have c_6 := z_eq c_6
    have br_1_7 : zB 0 0 r_1 := zB.eqL (a := 0) (b := 0) c_6 (zBc 0 0 (by decide))
    refine lv_iconst (v := 0) hx hb dX8_letterOf_28 (by decide) ?_
    subst hQ
    exact W.iret (v := 0) hx hb hr (fun t ht hW => ⟨⟨0, F, rfl, ⟨rfl, (zB.of ⟨by decide, by decide⟩), (False.elim (by have := (zB.all tq).1; have := (zB.all tq).2; have : (0 : Int32).toInt = 0 := (by decide); omega)), trivial⟩, by rw [ht]; exact h.1, h.2.1, zFr.rf⟩, h.2.2.F ht⟩) h.2.2.2.2 dX8_letterOf_29
  · have btq_8 : zB 0 600 tq := q_4 c_6
    have c_6 := z_ne c_6
    have br_1_9 : zB 1 1 r_1 := zB.neLo c_6 br_1 (zBc 0 0 (by decide)) (by decide)
    refine lv_iconst (v := 0) hx hb dX8_letterOf_8 (by decide) ?_
    refine lv_aload_n hx hb dX8_letterOf_9 rfl (lv_at hl 0 rfl) ?_
    refine lv_aload_n hx hb dX8_letterOf_10 rfl (lv_at hl 0 rfl) ?_
    refine zt_getr (t := 8) (C := RX8) (T := TX8) (N := 6) Z h htk zin_8 rfl 3 rfl ⟨by decide, rfl⟩ (zm_RX8 (List.mem_of_getElem? (i := 39) rfl)) (fun _ h9 => h9) dX8_letterOf_11 (fun a_10 ka_10 ha_10 => ?_)
    refine lv_iload_n hx hb dX8_letterOf_14 rfl (lv_at hl 1 rfl) ?_
    refine zt_ialde (t := 155) Z h ha_10 ⟨by decide, rfl⟩ btq_8 ⟨by decide, by decide⟩ dX8_letterOf_15 (fun x_11 ex_11 bx_11 => ?_)
    have hp_ := zTb.place p_tb ka_10 ex_11 ⟨(by have := btq_8.1; have := btq_8.2; have := bx_11.1; have := bx_11.2; have : (0 : Int32).toInt = 0 := (by decide); omega), (by have := btq_8.1; have := btq_8.2; have := bx_11.1; have := bx_11.2; have : (0 : Int32).toInt = 0 := (by decide); omega)⟩
    have hpn_ := zpo_n Bt nt tq.toInt.toNat
    have hn6_ := p_tb.1.2.2.1
    have bp_ : zB 0 600 x_11 := ⟨by omega, by omega⟩
    refine zk_Vi (As := [.int x_11]) (rest := [.int 0]) (bytes := cX8_textAt) (maxL := 2) (ret := (some .int)) Z h (ze_X8_textAt l D k Γ L F H.size tk x_11 Bt nt htk p_tb.1) (cwV 1 hg zv_RX8_62 rfl rfl rfl zd_X8_textAt ⟨z_leR hRf (by decide), z_leR hRl (by decide)⟩) htk (by decide) rfl rfl hl.1 rfl (Nat.le_of_ble_eq_true rfl) dX8_letterOf_16 ⟨Nat.zero_le _, Nat.zero_le _⟩ (fun r_12 F_13 H locs w_14 h hfF_13 => ?_)
    obtain ⟨rfl, br_12, q_15, -⟩ := w_14
    refine lv_bipush (v := 97) hx hb dX8_letterOf_19 (by decide) ?_
    refine lv_isub hx hb dX8_letterOf_21 ?_
    refine zi_sub (lo := (-225)) (hi := 30) br_12 (zBc 97 97 (by decide)) (by decide) (fun x_16 bx_16 tx_16 => ?_)
    refine va_mmax hx hb (by rw [hml]; exact hl.1.symm) hown (hg _ (zm_RX8 (List.mem_of_getElem? (i := 17) rfl))) (hg _ (zm_RX8 (List.mem_of_getElem? (i := 18) rfl))) (hg _ (zm_RX8 (List.mem_of_getElem? (i := 15) rfl))) (hg _ (zm_RX8 (List.mem_of_getElem? (i := 19) rfl))) (z_leR hRf (by decide)) (z_leR hRl (Nat.le_of_ble_eq_true rfl)) (Nat.zero_le _) (Nat.zero_le _) dX8_letterOf_22 ?_
    refine zi_max (lo := 0) (hi := 30) (zBc 0 0 (by decide)) bx_16 (by decide) (fun x_17 bx_17 tx_17 => ?_)
    refine lv_goto (tgt := 29) hx hb dX8_letterOf_25 (by decide) ?_
    subst hQ
    exact W.iret (v := x_17) hx hb hr (fun t ht hW => ⟨⟨x_17, F, rfl, ⟨rfl, bx_17, (by have h7 := zlet_t (B := Bt) (n := nt) (t := tq.toInt.toNat) hr0.2.2; have h8 := q_15; rw [hp_] at h8; have := btq_8.1; have := btq_8.2; have := bx_17.1; have := bx_17.2; have : (0 : Int32).toInt = 0 := (by decide); have : (97 : Int32).toInt = 97 := (by decide); omega), trivial⟩, by rw [ht]; exact h.1, h.2.1, zFr.rf⟩, h.2.2.F ht⟩) h.2.2.2.2 dX8_letterOf_29

set_option maxHeartbeats 4000000 in
set_option maxRecDepth 100000 in
theorem ze_X8_valueOf (l : Launch) (D : va_G) (k : Nat → ClassId) (Γ : Nat → Option Nat) (L : List Nat) (F : Nat → va_E) (sz : Nat) (tk : Nat) (tq : Int32) (Bt : Nat → Int32) (nt : Nat) (Nt : Nat) (htk : Γ tk = some 8) (p_tb : zTb Γ F tk Bt nt Nt) (hr0 : 0 ≤ tq.toInt ∧ tq.toInt < Nt ∧ (zTo Bt nt).1 tq.toInt.toNat = 2) : Met l yX8_valueOf zwX8_valueOf ({ frames := 1, cells := 0, slots := 0, locals := 21 }) (va_Pc [.ref tk, .int tq] (zP D k Γ L F sz)) (va_Qi (fun (r : Int32) (u : Nat → va_E) => F = u ∧ zB 0 99999 r ∧ r.toInt = zvl Bt nt tq.toInt.toNat ∧ True) (zQ D k Γ L F []) (zA L sz)) 0 0 (zA L sz) := by
  refine Met.ofW (cc := cX8_valueOf) (maxL := 4) (ret := (some .int)) (by decide) rfl ?_
  intro p e s m args below meth c s₁ B hml hv
  obtain ⟨rfl, hsz, hP, hK, hLn, hE, hI⟩ := hv
  have hx := B.exec
  have hb := B.bytes
  have hr := B.returns
  have hg : ∀ w ∈ zG, w.before _ s = true := fun w h9 => atoms_spec (ws := zwX8_valueOf) B.pre w (List.mem_cons_of_mem _ h9)
  have hown : s.vm.findClass RX8 = some m.cls := findClass_of_methodNamed B.named
  have hlocks := B.notSynchronized
  subst hsz
  have Z : zC p m c cX8_valueOf 4 s _ zG RX8 D k L := ⟨⟨hx, hb, hml, hown, hg⟩, hK, hLn, hE⟩
  have h : zH D k Γ L s F s.heap [] := ⟨hP, hI, va_S.rf⟩
  have hl := lv_entry ([.ref tk, .int tq]) (n := 4) (Nat.le_of_ble_eq_true rfl)
  rw [lg_entry_eq]
  generalize (lg_sl ([.ref tk, .int tq]) ++ List.replicate (4 - (lg_sl ([.ref tk, .int tq])).length) Slot.unset).toArray = ls at hl ⊢
  have hl : lv_has ls 4 [(0, .ref tk), (1, .int tq)] := hl
  clear hP hK hLn hE hI
  generalize hargs : ([.ref tk, .int tq] : List Value).toArray = args at *
  refine z_start (fun R Q hRf hRl hQ => ?_)
  have hRf : R.frames = 1 := hRf
  have hRl : R.locals = 21 := hRl
  have h9 := h
  have hw0_ := zwhole (B := Bt) (n := nt) (t := tq.toInt.toNat) hr0.2.2
  have hw1_ := hw0_.1
  have hw5_ := hw0_.2.1
  refine lv_iconst (v := 0) hx hb dX8_valueOf_0 (by decide) ?_
  refine lv_istore_n (lv' := [(2, .int 0), (0, .ref tk), (1, .int tq)]) hx hb dX8_valueOf_1 rfl hl (by decide) rfl (fun ls hl => ?_)
  refine lv_iconst (v := 0) hx hb dX8_valueOf_2 (by decide) ?_
  refine lv_istore_n (lv' := [(3, .int 0), (2, .int 0), (0, .ref tk), (1, .int tq)]) hx hb dX8_valueOf_3 rfl hl (by decide) rfl (fun ls hl => ?_)
  have j_j4_1 : ∀ (n : Nat) (ls : Array Slot) (y3_j4_1 : Int32) (y2_j4_1 : Int32) (H : Heap) (locs : List Loc), lv_has ls 4 [(3, .int y3_j4_1), (2, .int y2_j4_1), (0, .ref tk), (1, .int tq)] → zB 0 5 y3_j4_1 → zB 0 99999 y2_j4_1 → zH D k Γ L s F H locs → (y3_j4_1.toInt ≤ zwa Bt nt (zpo Bt nt tq.toInt.toNat)) → (y2_j4_1.toInt = zdI (zby Bt nt) (zpo Bt nt tq.toInt.toNat) y3_j4_1.toInt.toNat) → (5 - y3_j4_1.toInt).toNat = n → W p l e R s m args below meth c H locs 0 0 Q (F0 m 4 ls []) := by
    intro n
    induction n using Nat.strongRecOn with
    | _ n ih_j4_1 =>
      intro ls y3_j4_1 y2_j4_1 H locs hl by3_j4_1 by2_j4_1 h r0_j4_1 r1_j4_1 hn_j4_1
      refine lv_aload_n hx hb dX8_valueOf_4 rfl (lv_at hl 2 rfl) ?_
      refine lv_iload_n hx hb dX8_valueOf_5 rfl (lv_at hl 3 rfl) ?_
      refine zk_Vi (As := [.int tq]) (rest := []) (bytes := cX8_has) (maxL := 2) (ret := (some .boolean)) Z h (ze_X8_has l D k Γ L F H.size tk tq Bt nt Nt htk p_tb) (cwV 1 hg zv_RX8_58 rfl rfl rfl zd_X8_has ⟨z_leR hRf (by decide), z_leR hRl (by decide)⟩) htk (by decide) rfl rfl hl.1 rfl (Nat.le_of_ble_eq_true rfl) dX8_valueOf_6 ⟨Nat.zero_le _, Nat.zero_le _⟩ (fun r_2 F_3 H locs w_4 h hfF_3 => ?_)
      obtain ⟨rfl, br_2, q_5, q_6, -⟩ := w_4
      refine lv_if_eq (tgt := 49) hx hb dX8_valueOf_9 (by decide) (fun c_7 => ?_) (fun c_7 => ?_)
      · have c_7 := z_eq c_7
        have br_2_8 : zB 0 0 r_2 := zB.eqL (a := 0) (b := 0) c_7 (zBc 0 0 (by decide))
        refine lv_iload_n hx hb dX8_valueOf_49 rfl (lv_at hl 1 rfl) ?_
        subst hQ
        exact W.iret (v := y2_j4_1) hx hb hr (fun t ht hW => ⟨⟨y2_j4_1, F, rfl, ⟨rfl, by2_j4_1, (by exfalso; have := by3_j4_1.1; have := by3_j4_1.2; have := by2_j4_1.1; have := by2_j4_1.2; have := (zB.all tq).1; have := (zB.all tq).2; have : (0 : Int32).toInt = 0 := (by decide); omega), trivial⟩, by rw [ht]; exact h.1, h.2.1, zFr.rf⟩, h.2.2.F ht⟩) h.2.2.2.2 dX8_valueOf_50
      · have btq_9 : zB 0 600 tq := q_5 c_7
        have c_7 := z_ne c_7
        have br_2_10 : zB 1 1 r_2 := zB.neLo c_7 br_2 (zBc 0 0 (by decide)) (by decide)
        refine lv_iload_n hx hb dX8_valueOf_12 rfl (lv_at hl 0 rfl) ?_
        refine lv_aload_n hx hb dX8_valueOf_13 rfl (lv_at hl 2 rfl) ?_
        refine zt_getr (t := 8) (C := RX8) (T := TX8) (N := 6) Z h htk zin_8 rfl 4 rfl ⟨by decide, rfl⟩ (zm_RX8 (List.mem_of_getElem? (i := 41) rfl)) (fun _ h9 => h9) dX8_valueOf_14 (fun a_11 ka_11 ha_11 => ?_)
        refine lv_iload_n hx hb dX8_valueOf_17 rfl (lv_at hl 3 rfl) ?_
        refine zt_ialde (t := 156) Z h ha_11 ⟨by decide, rfl⟩ btq_9 ⟨by decide, by decide⟩ dX8_valueOf_18 (fun x_12 ex_12 bx_12 => ?_)
        have hw_ := zTb.width p_tb ka_11 ex_12 ⟨(by have := by3_j4_1.1; have := by3_j4_1.2; have := by2_j4_1.1; have := by2_j4_1.2; have := btq_9.1; have := btq_9.2; have := bx_12.1; have := bx_12.2; have : (0 : Int32).toInt = 0 := (by decide); omega), (by have := by3_j4_1.1; have := by3_j4_1.2; have := by2_j4_1.1; have := by2_j4_1.2; have := btq_9.1; have := btq_9.2; have := bx_12.1; have := bx_12.2; have : (0 : Int32).toInt = 0 := (by decide); omega)⟩
        refine lv_icmp_ge (tgt := 49) hx hb dX8_valueOf_19 (by decide) (fun c_13 => ?_) (fun c_13 => ?_)
        · have c_13 := z_le c_13
          have bx_12_14 : zB (-2147483648) 5 x_12 := zB.leL c_13 bx_12 by3_j4_1 (by decide)
          refine lv_iload_n hx hb dX8_valueOf_49 rfl (lv_at hl 1 rfl) ?_
          subst hQ
          exact W.iret (v := y2_j4_1) hx hb hr (fun t ht hW => ⟨⟨y2_j4_1, F, rfl, ⟨rfl, by2_j4_1, (by rw [r1_j4_1]; unfold zvl; congr 1; have := by3_j4_1.1; have := by3_j4_1.2; have := by2_j4_1.1; have := by2_j4_1.2; have := btq_9.1; have := btq_9.2; have := bx_12_14.1; have := bx_12_14.2; have : (0 : Int32).toInt = 0 := (by decide); omega), trivial⟩, by rw [ht]; exact h.1, h.2.1, zFr.rf⟩, h.2.2.F ht⟩) h.2.2.2.2 dX8_valueOf_50
        · have c_13 := z_nle c_13
          have bx_12_15 : zB 1 2147483647 x_12 := zB.ltR c_13 by3_j4_1 bx_12 (by decide)
          refine lv_iload_n hx hb dX8_valueOf_22 rfl (lv_at hl 1 rfl) ?_
          refine lv_bipush (v := 10) hx hb dX8_valueOf_23 (by decide) ?_
          refine lv_imul hx hb dX8_valueOf_25 ?_
          refine zi_mul by2_j4_1 ((zBc 10 10 (by decide)).w ⟨by decide, by decide⟩ : zB 0 10 _) (by decide) (fun x_16 bx_16 tx_16 => ?_)
          have bx_16 : zB 0 999990 x_16 := bx_16
          have mx_16 := tx_16
          rw [show (10 : Int32).toInt = 10 by decide] at mx_16
          refine lv_aload_n hx hb dX8_valueOf_26 rfl (lv_at hl 2 rfl) ?_
          refine lv_aload_n hx hb dX8_valueOf_27 rfl (lv_at hl 2 rfl) ?_
          refine zt_getr (t := 8) (C := RX8) (T := TX8) (N := 6) Z h htk zin_8 rfl 3 rfl ⟨by decide, rfl⟩ (zm_RX8 (List.mem_of_getElem? (i := 39) rfl)) (fun _ h9 => h9) dX8_valueOf_28 (fun a_17 ka_17 ha_17 => ?_)
          refine lv_iload_n hx hb dX8_valueOf_31 rfl (lv_at hl 3 rfl) ?_
          refine zt_ialde (t := 155) Z h ha_17 ⟨by decide, rfl⟩ btq_9 ⟨by decide, by decide⟩ dX8_valueOf_32 (fun x_18 ex_18 bx_18 => ?_)
          have hp_ := zTb.place p_tb ka_17 ex_18 ⟨(by have := by3_j4_1.1; have := by3_j4_1.2; have := by2_j4_1.1; have := by2_j4_1.2; have := btq_9.1; have := btq_9.2; have := bx_18.1; have := bx_18.2; have := bx_16.1; have := bx_16.2; have : (0 : Int32).toInt = 0 := (by decide); have : (10 : Int32).toInt = 10 := (by decide); omega), (by have := by3_j4_1.1; have := by3_j4_1.2; have := by2_j4_1.1; have := by2_j4_1.2; have := btq_9.1; have := btq_9.2; have := bx_18.1; have := bx_18.2; have := bx_16.1; have := bx_16.2; have : (0 : Int32).toInt = 0 := (by decide); have : (10 : Int32).toInt = 10 := (by decide); omega)⟩
          have hpn_ := zpo_n Bt nt tq.toInt.toNat
          have hn6_ := p_tb.1.2.2.1
          have bp_ : zB 0 600 x_18 := ⟨by omega, by omega⟩
          refine lv_iload_n hx hb dX8_valueOf_33 rfl (lv_at hl 0 rfl) ?_
          refine lv_iadd hx hb dX8_valueOf_34 ?_
          refine zi_add (lo := 0) (hi := 605) bp_ by3_j4_1 (by decide) (fun x_19 bx_19 tx_19 => ?_)
          refine zk_Vi (As := [.int x_19]) (rest := [.int x_16]) (bytes := cX8_textAt) (maxL := 2) (ret := (some .int)) Z h (ze_X8_textAt l D k Γ L F H.size tk x_19 Bt nt htk p_tb.1) (cwV 1 hg zv_RX8_62 rfl rfl rfl zd_X8_textAt ⟨z_leR hRf (by decide), z_leR hRl (by decide)⟩) htk (by decide) rfl rfl hl.1 rfl (Nat.le_of_ble_eq_true rfl) dX8_valueOf_35 ⟨Nat.zero_le _, Nat.zero_le _⟩ (fun r_20 F_21 H locs w_22 h hfF_21 => ?_)
          obtain ⟨rfl, br_20, q_23, -⟩ := w_22
          refine lv_iadd hx hb dX8_valueOf_38 ?_
          refine zi_add (lo := (-128)) (hi := 1000117) bx_16 br_20 (by decide) (fun x_24 bx_24 tx_24 => ?_)
          refine lv_bipush (v := 48) hx hb dX8_valueOf_39 (by decide) ?_
          refine lv_isub hx hb dX8_valueOf_41 ?_
          refine zi_sub (lo := (-176)) (hi := 1000069) bx_24 (zBc 48 48 (by decide)) (by decide) (fun x_25 bx_25 tx_25 => ?_)
          refine lv_istore_n (lv' := [(2, .int x_25), (3, .int y3_j4_1), (0, .ref tk), (1, .int tq)]) hx hb dX8_valueOf_42 rfl hl (by decide) rfl (fun ls hl => ?_)
          obtain ⟨x_26, ex_26, bx_26, tx_26⟩ := z_inc (n := 1) (lo := 1) (hi := 6) by3_j4_1 (by decide)
          refine lv_iinc (v := x_26) (lv' := [(3, .int x_26), (2, .int x_25), (0, .ref tk), (1, .int tq)]) hx hb dX8_valueOf_43 hl (k := 1) rfl ex_26 (by decide) rfl (fun ls hl => ?_)
          have hv9_ : x_25.toInt = zdI (zby Bt nt) (zpo Bt nt tq.toInt.toNat) x_26.toInt.toNat := by
            rw [show x_26.toInt.toNat = y3_j4_1.toInt.toNat + 1 by have := bx_26.1; have := bx_26.2; have := bx_25.1; have := bx_25.2; have := btq_9.1; have := btq_9.2; have := by3_j4_1.1; have := by3_j4_1.2; have := bx_19.1; have := bx_19.2; have := br_20.1; have := br_20.2; have : (0 : Int32).toInt = 0 := (by decide); have : (10 : Int32).toInt = 10 := (by decide); have : (48 : Int32).toInt = 48 := (by decide); omega]
            show _ = 10 * zdI (zby Bt nt) (zpo Bt nt tq.toInt.toNat) y3_j4_1.toInt.toNat + (zby Bt nt (zpo Bt nt tq.toInt.toNat + ((y3_j4_1.toInt.toNat : Nat) : Int)) - 48)
            have h7 := q_23
            rw [show x_19.toInt = zpo Bt nt tq.toInt.toNat + ((y3_j4_1.toInt.toNat : Nat) : Int) by have := bx_26.1; have := bx_26.2; have := bx_25.1; have := bx_25.2; have := btq_9.1; have := btq_9.2; have := by3_j4_1.1; have := by3_j4_1.2; have := bx_19.1; have := bx_19.2; have := br_20.1; have := br_20.2; have : (0 : Int32).toInt = 0 := (by decide); have : (10 : Int32).toInt = 10 := (by decide); have : (48 : Int32).toInt = 48 := (by decide); omega] at h7
            have h6 := r1_j4_1
            have := bx_26.1; have := bx_26.2; have := bx_25.1; have := bx_25.2; have := btq_9.1; have := btq_9.2; have := by3_j4_1.1; have := by3_j4_1.2; have := bx_19.1; have := bx_19.2; have := br_20.1; have := br_20.2; have : (0 : Int32).toInt = 0 := (by decide); have : (10 : Int32).toInt = 10 := (by decide); have : (48 : Int32).toInt = 48 := (by decide); have : (48 : Int32).toInt = 48 := (by decide); omega
          have hb9_ := zdI_5 (f := zby Bt nt) (a := zpo Bt nt tq.toInt.toNat) (m := x_26.toInt.toNat) (fun j hj => hw0_.2.2.2 j (by have := bx_26.1; have := bx_26.2; have := bx_25.1; have := bx_25.2; have := btq_9.1; have := btq_9.2; have := by3_j4_1.1; have := by3_j4_1.2; have := bx_19.1; have := bx_19.2; have := br_20.1; have := br_20.2; have : (0 : Int32).toInt = 0 := (by decide); have : (10 : Int32).toInt = 10 := (by decide); have : (48 : Int32).toInt = 48 := (by decide); omega)) (by have := bx_26.1; have := bx_26.2; have := bx_25.1; have := bx_25.2; have := btq_9.1; have := btq_9.2; have := by3_j4_1.1; have := by3_j4_1.2; have := bx_19.1; have := bx_19.2; have := br_20.1; have := br_20.2; have : (0 : Int32).toInt = 0 := (by decide); have : (10 : Int32).toInt = 10 := (by decide); have : (48 : Int32).toInt = 48 := (by decide); omega)
          rw [← hv9_] at hb9_
          have bv9_ : zB 0 99999 x_25 := ⟨by omega, by omega⟩
          refine lv_goto (tgt := 4) hx hb dX8_valueOf_46 (by decide) ?_
          exact ih_j4_1 _ (by have := bx_26.1; have := bx_26.2; have := bv9_.1; have := bv9_.2; have := btq_9.1; have := btq_9.2; have : (0 : Int32).toInt = 0 := (by decide); have : (10 : Int32).toInt = 10 := (by decide); have : (48 : Int32).toInt = 48 := (by decide); have := by3_j4_1.1; have := by3_j4_1.2; have := by2_j4_1.1; have := by2_j4_1.2; omega) ls x_26 x_25 H locs (lv_sub hl [0, 1, 2, 3] rfl) (zB.of ⟨by have := bx_26.1; have := bx_26.2; have := bv9_.1; have := bv9_.2; have := btq_9.1; have := btq_9.2; have : (0 : Int32).toInt = 0 := (by decide); have : (10 : Int32).toInt = 10 := (by decide); have : (48 : Int32).toInt = 48 := (by decide); omega, by have := bx_26.1; have := bx_26.2; have := bv9_.1; have := bv9_.2; have := btq_9.1; have := btq_9.2; have : (0 : Int32).toInt = 0 := (by decide); have : (10 : Int32).toInt = 10 := (by decide); have : (48 : Int32).toInt = 48 := (by decide); omega⟩) bv9_ h (by have := bx_26.1; have := bx_26.2; have := bv9_.1; have := bv9_.2; have := btq_9.1; have := btq_9.2; have : (0 : Int32).toInt = 0 := (by decide); have : (10 : Int32).toInt = 10 := (by decide); have : (48 : Int32).toInt = 48 := (by decide); omega) hv9_ rfl
  exact j_j4_1 _ ls 0 0 s.heap [] (lv_sub hl [0, 1, 2, 3] rfl) (zB.of ⟨by decide, by decide⟩) (zB.of ⟨by decide, by decide⟩) h (by have := (zB.all tq).1; have := (zB.all tq).2; have : (0 : Int32).toInt = 0 := (by decide); omega) (by rw [show (0 : Int32).toInt.toNat = 0 by decide]; exact (by decide : (0 : Int32).toInt = 0)) rfl

set_option maxHeartbeats 4000000 in
set_option maxRecDepth 100000 in
theorem ze_X8_byteOf (l : Launch) (D : va_G) (k : Nat → ClassId) (Γ : Nat → Option Nat) (L : List Nat) (F : Nat → va_E) (sz : Nat) (tk : Nat) (tq : Int32) (i : Int32) (Bt : Nat → Int32) (nt : Nat) (Nt : Nat) (htk : Γ tk = some 8) (bi : zB 0 600 i) (p_tb : zTb Γ F tk Bt nt Nt) (hr0 : 0 ≤ tq.toInt ∧ tq.toInt < Nt) : Met l yX8_byteOf zwX8_byteOf ({ frames := 1, cells := 0, slots := 0, locals := 21 }) (va_Pc [.ref tk, .int tq, .int i] (zP D k Γ L F sz)) (va_Qi (fun (r : Int32) (u : Nat → va_E) => F = u ∧ zB (-128) 127 r ∧ (0 ≤ i.toInt ∧ i.toInt < zwa Bt nt (zpo Bt nt tq.toInt.toNat) → r.toInt = zby Bt nt (zpo Bt nt tq.toInt.toNat + i.toInt)) ∧ True) (zQ D k Γ L F []) (zA L sz)) 0 0 (zA L sz) := by
  refine Met.ofW (cc := cX8_byteOf) (maxL := 3) (ret := (some .int)) (by decide) rfl ?_
  intro p e s m args below meth c s₁ B hml hv
  obtain ⟨rfl, hsz, hP, hK, hLn, hE, hI⟩ := hv
  have hx := B.exec
  have hb := B.bytes
  have hr := B.returns
  have hg : ∀ w ∈ zG, w.before _ s = true := fun w h9 => atoms_spec (ws := zwX8_byteOf) B.pre w (List.mem_cons_of_mem _ h9)
  have hown : s.vm.findClass RX8 = some m.cls := findClass_of_methodNamed B.named
  have hlocks := B.notSynchronized
  subst hsz
  have Z : zC p m c cX8_byteOf 3 s _ zG RX8 D k L := ⟨⟨hx, hb, hml, hown, hg⟩, hK, hLn, hE⟩
  have h : zH D k Γ L s F s.heap [] := ⟨hP, hI, va_S.rf⟩
  have hl := lv_entry ([.ref tk, .int tq, .int i]) (n := 3) (Nat.le_of_ble_eq_true rfl)
  rw [lg_entry_eq]
  generalize (lg_sl ([.ref tk, .int tq, .int i]) ++ List.replicate (3 - (lg_sl ([.ref tk, .int tq, .int i])).length) Slot.unset).toArray = ls at hl ⊢
  have hl : lv_has ls 3 [(0, .ref tk), (1, .int tq), (2, .int i)] := hl
  clear hP hK hLn hE hI
  generalize hargs : ([.ref tk, .int tq, .int i] : List Value).toArray = args at *
  refine z_start (fun R Q hRf hRl hQ => ?_)
  have hRf : R.frames = 1 := hRf
  have hRl : R.locals = 21 := hRl
  have h9 := h
  refine lv_aload_n hx hb dX8_byteOf_0 rfl (lv_at hl 0 rfl) ?_
  refine lv_iload_n hx hb dX8_byteOf_1 rfl (lv_at hl 1 rfl) ?_
  refine zk_Vi (As := [.int tq]) (rest := []) (bytes := cX8_has) (maxL := 2) (ret := (some .boolean)) Z h (ze_X8_has l D k Γ L F s.heap.size tk tq Bt nt Nt htk p_tb) (cwV 1 hg zv_RX8_58 rfl rfl rfl zd_X8_has ⟨z_leR hRf (by decide), z_leR hRl (by decide)⟩) htk (by decide) rfl rfl hl.1 rfl (Nat.le_of_ble_eq_true rfl) dX8_byteOf_2 ⟨Nat.zero_le _, Nat.zero_le _⟩ (fun r_1 F_2 H locs w_3 h hfF_2 => ?_)
  obtain ⟨rfl, br_1, q_4, q_5, -⟩ := w_3
  refine lv_if_eq (tgt := 37) hx hb dX8_byteOf_5 (by decide) (fun c_6 => ?_) (fun c_6 => ?_)
  · have c_6 := z_eq c_6
    have br_1_7 : zB 0 0 r_1 := zB.eqL (a := 0) (b := 0) c_6 (zBc 0 0 (by decide))
    refine lv_iconst (v := (-1)) hx hb dX8_byteOf_37 (by decide) ?_
    subst hQ
    exact W.iret (v := (-1)) hx hb hr (fun t ht hW => ⟨⟨(-1), F, rfl, ⟨rfl, (zB.of ⟨by decide, by decide⟩), (fun h9 => by exfalso; have := (zB.all tq).1; have := (zB.all tq).2; have := bi.1; have := bi.2; have : ((-1) : Int32).toInt = (-1) := (by decide); have : (0 : Int32).toInt = 0 := (by decide); omega), trivial⟩, by rw [ht]; exact h.1, h.2.1, zFr.rf⟩, h.2.2.F ht⟩) h.2.2.2.2 dX8_byteOf_38
  · have btq_8 : zB 0 600 tq := q_4 c_6
    have c_6 := z_ne c_6
    have br_1_9 : zB 1 1 r_1 := zB.neLo c_6 br_1 (zBc 0 0 (by decide)) (by decide)
    refine lv_iload_n hx hb dX8_byteOf_8 rfl (lv_at hl 2 rfl) ?_
    refine lv_if_lt (tgt := 37) hx hb dX8_byteOf_9 (by decide) (fun c_10 => ?_) (fun c_10 => ?_)
    · have c_10 := z_lt c_10
      exact zB.noLt c_10 bi (zBc 0 0 (by decide)) (by decide)
    · have c_10 := z_nlt c_10
      refine lv_iload_n hx hb dX8_byteOf_12 rfl (lv_at hl 2 rfl) ?_
      refine lv_aload_n hx hb dX8_byteOf_13 rfl (lv_at hl 0 rfl) ?_
      refine zt_getr (t := 8) (C := RX8) (T := TX8) (N := 6) Z h htk zin_8 rfl 4 rfl ⟨by decide, rfl⟩ (zm_RX8 (List.mem_of_getElem? (i := 41) rfl)) (fun _ h9 => h9) dX8_byteOf_14 (fun a_11 ka_11 ha_11 => ?_)
      refine lv_iload_n hx hb dX8_byteOf_17 rfl (lv_at hl 1 rfl) ?_
      refine zt_ialde (t := 156) Z h ha_11 ⟨by decide, rfl⟩ btq_8 ⟨by decide, by decide⟩ dX8_byteOf_18 (fun x_12 ex_12 bx_12 => ?_)
      have hw_ := zTb.width p_tb ka_11 ex_12 ⟨(by have := btq_8.1; have := btq_8.2; have := bi.1; have := bi.2; have := bx_12.1; have := bx_12.2; have : (0 : Int32).toInt = 0 := (by decide); omega), (by have := btq_8.1; have := btq_8.2; have := bi.1; have := bi.2; have := bx_12.1; have := bx_12.2; have : (0 : Int32).toInt = 0 := (by decide); omega)⟩
      refine lv_icmp_ge (tgt := 37) hx hb dX8_byteOf_19 (by decide) (fun c_13 => ?_) (fun c_13 => ?_)
      · have c_13 := z_le c_13
        have bx_12_14 : zB (-2147483648) 600 x_12 := zB.leL c_13 bx_12 bi (by decide)
        refine lv_iconst (v := (-1)) hx hb dX8_byteOf_37 (by decide) ?_
        subst hQ
        exact W.iret (v := (-1)) hx hb hr (fun t ht hW => ⟨⟨(-1), F, rfl, ⟨rfl, (zB.of ⟨by decide, by decide⟩), (fun h9 => by exfalso; have := btq_8.1; have := btq_8.2; have := bi.1; have := bi.2; have : ((-1) : Int32).toInt = (-1) := (by decide); have : (0 : Int32).toInt = 0 := (by decide); omega), trivial⟩, by rw [ht]; exact h.1, h.2.1, zFr.rf⟩, h.2.2.F ht⟩) h.2.2.2.2 dX8_byteOf_38
      · have c_13 := z_nle c_13
        have bx_12_15 : zB 1 2147483647 x_12 := zB.ltR c_13 bi bx_12 (by decide)
        refine lv_aload_n hx hb dX8_byteOf_22 rfl (lv_at hl 0 rfl) ?_
        refine lv_aload_n hx hb dX8_byteOf_23 rfl (lv_at hl 0 rfl) ?_
        refine zt_getr (t := 8) (C := RX8) (T := TX8) (N := 6) Z h htk zin_8 rfl 3 rfl ⟨by decide, rfl⟩ (zm_RX8 (List.mem_of_getElem? (i := 39) rfl)) (fun _ h9 => h9) dX8_byteOf_24 (fun a_16 ka_16 ha_16 => ?_)
        refine lv_iload_n hx hb dX8_byteOf_27 rfl (lv_at hl 1 rfl) ?_
        refine zt_ialde (t := 155) Z h ha_16 ⟨by decide, rfl⟩ btq_8 ⟨by decide, by decide⟩ dX8_byteOf_28 (fun x_17 ex_17 bx_17 => ?_)
        have hp_ := zTb.place p_tb ka_16 ex_17 ⟨(by have := btq_8.1; have := btq_8.2; have := bi.1; have := bi.2; have := bx_17.1; have := bx_17.2; have : (0 : Int32).toInt = 0 := (by decide); omega), (by have := btq_8.1; have := btq_8.2; have := bi.1; have := bi.2; have := bx_17.1; have := bx_17.2; have : (0 : Int32).toInt = 0 := (by decide); omega)⟩
        have hpn_ := zpo_n Bt nt tq.toInt.toNat
        have hn6_ := p_tb.1.2.2.1
        have bp_ : zB 0 600 x_17 := ⟨by omega, by omega⟩
        refine lv_iload_n hx hb dX8_byteOf_29 rfl (lv_at hl 2 rfl) ?_
        refine lv_iadd hx hb dX8_byteOf_30 ?_
        refine zi_add (lo := 0) (hi := 1200) bp_ bi (by decide) (fun x_18 bx_18 tx_18 => ?_)
        refine zk_Vi (As := [.int x_18]) (rest := []) (bytes := cX8_textAt) (maxL := 2) (ret := (some .int)) Z h (ze_X8_textAt l D k Γ L F H.size tk x_18 Bt nt htk p_tb.1) (cwV 1 hg zv_RX8_62 rfl rfl rfl zd_X8_textAt ⟨z_leR hRf (by decide), z_leR hRl (by decide)⟩) htk (by decide) rfl rfl hl.1 rfl (Nat.le_of_ble_eq_true rfl) dX8_byteOf_31 ⟨Nat.zero_le _, Nat.zero_le _⟩ (fun r_19 F_20 H locs w_21 h hfF_20 => ?_)
        obtain ⟨rfl, br_19, q_22, -⟩ := w_21
        refine lv_goto (tgt := 38) hx hb dX8_byteOf_34 (by decide) ?_
        subst hQ
        exact W.iret (v := r_19) hx hb hr (fun t ht hW => ⟨⟨r_19, F, rfl, ⟨rfl, br_19, (fun h9 => by rw [q_22, show x_18.toInt = zpo Bt nt tq.toInt.toNat + i.toInt by have := btq_8.1; have := btq_8.2; have := bi.1; have := bi.2; have := br_19.1; have := br_19.2; have := bx_18.1; have := bx_18.2; have : (0 : Int32).toInt = 0 := (by decide); omega]), trivial⟩, by rw [ht]; exact h.1, h.2.1, zFr.rf⟩, h.2.2.F ht⟩) h.2.2.2.2 dX8_byteOf_38

set_option maxHeartbeats 4000000 in
set_option maxRecDepth 100000 in
theorem ze_X8_byteOf2 (l : Launch) (D : va_G) (k : Nat → ClassId) (Γ : Nat → Option Nat) (L : List Nat) (F : Nat → va_E) (sz : Nat) (tk : Nat) (tq : Int32) (i : Int32) (Bt : Nat → Int32) (nt : Nat) (Nt : Nat) (htk : Γ tk = some 8) (p_tb : zTb Γ F tk Bt nt Nt) (hr0 : 0 ≤ tq.toInt ∧ tq.toInt < Nt) : Met l yX8_byteOf zwX8_byteOf ({ frames := 1, cells := 0, slots := 0, locals := 21 }) (va_Pc [.ref tk, .int tq, .int i] (zP D k Γ L F sz)) (va_Qi (fun (r : Int32) (u : Nat → va_E) => F = u ∧ zB (-128) 127 r ∧ ((0 ≤ i.toInt ∧ i.toInt < zwa Bt nt (zpo Bt nt tq.toInt.toNat) → r.toInt = zby Bt nt (zpo Bt nt tq.toInt.toNat + i.toInt)) ∧ (i.toInt < 0 ∨ zwa Bt nt (zpo Bt nt tq.toInt.toNat) ≤ i.toInt → r.toInt = -1)) ∧ True) (zQ D k Γ L F []) (zA L sz)) 0 0 (zA L sz) := by
  refine Met.ofW (cc := cX8_byteOf) (maxL := 3) (ret := (some .int)) (by decide) rfl ?_
  intro p e s m args below meth c s₁ B hml hv
  obtain ⟨rfl, hsz, hP, hK, hLn, hE, hI⟩ := hv
  have hx := B.exec
  have hb := B.bytes
  have hr := B.returns
  have hg : ∀ w ∈ zG, w.before _ s = true := fun w h9 => atoms_spec (ws := zwX8_byteOf) B.pre w (List.mem_cons_of_mem _ h9)
  have hown : s.vm.findClass RX8 = some m.cls := findClass_of_methodNamed B.named
  have hlocks := B.notSynchronized
  subst hsz
  have Z : zC p m c cX8_byteOf 3 s _ zG RX8 D k L := ⟨⟨hx, hb, hml, hown, hg⟩, hK, hLn, hE⟩
  have h : zH D k Γ L s F s.heap [] := ⟨hP, hI, va_S.rf⟩
  have hl := lv_entry ([.ref tk, .int tq, .int i]) (n := 3) (Nat.le_of_ble_eq_true rfl)
  rw [lg_entry_eq]
  generalize (lg_sl ([.ref tk, .int tq, .int i]) ++ List.replicate (3 - (lg_sl ([.ref tk, .int tq, .int i])).length) Slot.unset).toArray = ls at hl ⊢
  have hl : lv_has ls 3 [(0, .ref tk), (1, .int tq), (2, .int i)] := hl
  clear hP hK hLn hE hI
  generalize hargs : ([.ref tk, .int tq, .int i] : List Value).toArray = args at *
  refine z_start (fun R Q hRf hRl hQ => ?_)
  have hRf : R.frames = 1 := hRf
  have hRl : R.locals = 21 := hRl
  have h9 := h
  refine lv_aload_n hx hb dX8_byteOf_0 rfl (lv_at hl 0 rfl) ?_
  refine lv_iload_n hx hb dX8_byteOf_1 rfl (lv_at hl 1 rfl) ?_
  refine zk_Vi (As := [.int tq]) (rest := []) (bytes := cX8_has) (maxL := 2) (ret := (some .boolean)) Z h (ze_X8_has l D k Γ L F s.heap.size tk tq Bt nt Nt htk p_tb) (cwV 1 hg zv_RX8_58 rfl rfl rfl zd_X8_has ⟨z_leR hRf (by decide), z_leR hRl (by decide)⟩) htk (by decide) rfl rfl hl.1 rfl (Nat.le_of_ble_eq_true rfl) dX8_byteOf_2 ⟨Nat.zero_le _, Nat.zero_le _⟩ (fun r_1 F_2 H locs w_3 h hfF_2 => ?_)
  obtain ⟨rfl, br_1, q_4, q_5, -⟩ := w_3
  refine lv_if_eq (tgt := 37) hx hb dX8_byteOf_5 (by decide) (fun c_6 => ?_) (fun c_6 => ?_)
  · have c_6 := z_eq c_6
    have br_1_7 : zB 0 0 r_1 := zB.eqL (a := 0) (b := 0) c_6 (zBc 0 0 (by decide))
    refine lv_iconst (v := (-1)) hx hb dX8_byteOf_37 (by decide) ?_
    subst hQ
    exact W.iret (v := (-1)) hx hb hr (fun t ht hW => ⟨⟨(-1), F, rfl, ⟨rfl, (zB.of ⟨by decide, by decide⟩), ⟨fun h9 => by exfalso; have := (zB.all tq).1; have := (zB.all tq).2; have := (zB.all i).1; have := (zB.all i).2; have : ((-1) : Int32).toInt = (-1) := (by decide); have : (0 : Int32).toInt = 0 := (by decide); omega, fun _ => by decide⟩, trivial⟩, by rw [ht]; exact h.1, h.2.1, zFr.rf⟩, h.2.2.F ht⟩) h.2.2.2.2 dX8_byteOf_38
  · have btq_8 : zB 0 600 tq := q_4 c_6
    have c_6 := z_ne c_6
    have br_1_9 : zB 1 1 r_1 := zB.neLo c_6 br_1 (zBc 0 0 (by decide)) (by decide)
    refine lv_iload_n hx hb dX8_byteOf_8 rfl (lv_at hl 2 rfl) ?_
    refine lv_if_lt (tgt := 37) hx hb dX8_byteOf_9 (by decide) (fun c_10 => ?_) (fun c_10 => ?_)
    · have c_10 := z_lt c_10
      have bi_11 : zB (-2147483648) (-1) i := zB.ltL c_10 (zB.all i) (zBc 0 0 (by decide)) (by decide)
      refine lv_iconst (v := (-1)) hx hb dX8_byteOf_37 (by decide) ?_
      subst hQ
      exact W.iret (v := (-1)) hx hb hr (fun t ht hW => ⟨⟨(-1), F, rfl, ⟨rfl, (zB.of ⟨by decide, by decide⟩), ⟨fun h9 => by exfalso; have := btq_8.1; have := btq_8.2; have := bi_11.1; have := bi_11.2; have : ((-1) : Int32).toInt = (-1) := (by decide); have : (0 : Int32).toInt = 0 := (by decide); omega, fun _ => by decide⟩, trivial⟩, by rw [ht]; exact h.1, h.2.1, zFr.rf⟩, h.2.2.F ht⟩) h.2.2.2.2 dX8_byteOf_38
    · have c_10 := z_nlt c_10
      have bi_12 : zB 0 2147483647 i := zB.leR c_10 (zBc 0 0 (by decide)) (zB.all i) (by decide)
      refine lv_iload_n hx hb dX8_byteOf_12 rfl (lv_at hl 2 rfl) ?_
      refine lv_aload_n hx hb dX8_byteOf_13 rfl (lv_at hl 0 rfl) ?_
      refine zt_getr (t := 8) (C := RX8) (T := TX8) (N := 6) Z h htk zin_8 rfl 4 rfl ⟨by decide, rfl⟩ (zm_RX8 (List.mem_of_getElem? (i := 41) rfl)) (fun _ h9 => h9) dX8_byteOf_14 (fun a_13 ka_13 ha_13 => ?_)
      refine lv_iload_n hx hb dX8_byteOf_17 rfl (lv_at hl 1 rfl) ?_
      refine zt_ialde (t := 156) Z h ha_13 ⟨by decide, rfl⟩ btq_8 ⟨by decide, by decide⟩ dX8_byteOf_18 (fun x_14 ex_14 bx_14 => ?_)
      have hw_ := zTb.width p_tb ka_13 ex_14 ⟨(by have := btq_8.1; have := btq_8.2; have := bi_12.1; have := bi_12.2; have := bx_14.1; have := bx_14.2; have : (0 : Int32).toInt = 0 := (by decide); omega), (by have := btq_8.1; have := btq_8.2; have := bi_12.1; have := bi_12.2; have := bx_14.1; have := bx_14.2; have : (0 : Int32).toInt = 0 := (by decide); omega)⟩
      refine lv_icmp_ge (tgt := 37) hx hb dX8_byteOf_19 (by decide) (fun c_15 => ?_) (fun c_15 => ?_)
      · have c_15 := z_le c_15
        refine lv_iconst (v := (-1)) hx hb dX8_byteOf_37 (by decide) ?_
        subst hQ
        exact W.iret (v := (-1)) hx hb hr (fun t ht hW => ⟨⟨(-1), F, rfl, ⟨rfl, (zB.of ⟨by decide, by decide⟩), ⟨fun h9 => by exfalso; have := btq_8.1; have := btq_8.2; have := bi_12.1; have := bi_12.2; have : ((-1) : Int32).toInt = (-1) := (by decide); have : (0 : Int32).toInt = 0 := (by decide); omega, fun _ => by decide⟩, trivial⟩, by rw [ht]; exact h.1, h.2.1, zFr.rf⟩, h.2.2.F ht⟩) h.2.2.2.2 dX8_byteOf_38
      · have c_15 := z_nle c_15
        have bi_16 : zB 0 2147483646 i := zB.ltL c_15 bi_12 bx_14 (by decide)
        have bx_14_17 : zB 1 2147483647 x_14 := zB.ltR c_15 bi_12 bx_14 (by decide)
        have hq6_ := zwa_600 (B := Bt) (n := nt) (t := tq.toInt.toNat) p_tb.1.2.2.1
        have bi9_ : zB 0 600 i := ⟨by have := btq_8.1; have := btq_8.2; have := bi_16.1; have := bi_16.2; have : (0 : Int32).toInt = 0 := (by decide); omega, by have := btq_8.1; have := btq_8.2; have := bi_16.1; have := bi_16.2; have : (0 : Int32).toInt = 0 := (by decide); omega⟩
        refine lv_aload_n hx hb dX8_byteOf_22 rfl (lv_at hl 0 rfl) ?_
        refine lv_aload_n hx hb dX8_byteOf_23 rfl (lv_at hl 0 rfl) ?_
        refine zt_getr (t := 8) (C := RX8) (T := TX8) (N := 6) Z h htk zin_8 rfl 3 rfl ⟨by decide, rfl⟩ (zm_RX8 (List.mem_of_getElem? (i := 39) rfl)) (fun _ h9 => h9) dX8_byteOf_24 (fun a_18 ka_18 ha_18 => ?_)
        refine lv_iload_n hx hb dX8_byteOf_27 rfl (lv_at hl 1 rfl) ?_
        refine zt_ialde (t := 155) Z h ha_18 ⟨by decide, rfl⟩ btq_8 ⟨by decide, by decide⟩ dX8_byteOf_28 (fun x_19 ex_19 bx_19 => ?_)
        have hp_ := zTb.place p_tb ka_18 ex_19 ⟨(by have := btq_8.1; have := btq_8.2; have := bi9_.1; have := bi9_.2; have := bx_19.1; have := bx_19.2; have : (0 : Int32).toInt = 0 := (by decide); omega), (by have := btq_8.1; have := btq_8.2; have := bi9_.1; have := bi9_.2; have := bx_19.1; have := bx_19.2; have : (0 : Int32).toInt = 0 := (by decide); omega)⟩
        have hpn_ := zpo_n Bt nt tq.toInt.toNat
        have hn6_ := p_tb.1.2.2.1
        have bp_ : zB 0 600 x_19 := ⟨by omega, by omega⟩
        refine lv_iload_n hx hb dX8_byteOf_29 rfl (lv_at hl 2 rfl) ?_
        refine lv_iadd hx hb dX8_byteOf_30 ?_
        refine zi_add (lo := 0) (hi := 1200) bp_ bi9_ (by decide) (fun x_20 bx_20 tx_20 => ?_)
        refine zk_Vi (As := [.int x_20]) (rest := []) (bytes := cX8_textAt) (maxL := 2) (ret := (some .int)) Z h (ze_X8_textAt l D k Γ L F H.size tk x_20 Bt nt htk p_tb.1) (cwV 1 hg zv_RX8_62 rfl rfl rfl zd_X8_textAt ⟨z_leR hRf (by decide), z_leR hRl (by decide)⟩) htk (by decide) rfl rfl hl.1 rfl (Nat.le_of_ble_eq_true rfl) dX8_byteOf_31 ⟨Nat.zero_le _, Nat.zero_le _⟩ (fun r_21 F_22 H locs w_23 h hfF_22 => ?_)
        obtain ⟨rfl, br_21, q_24, -⟩ := w_23
        refine lv_goto (tgt := 38) hx hb dX8_byteOf_34 (by decide) ?_
        subst hQ
        exact W.iret (v := r_21) hx hb hr (fun t ht hW => ⟨⟨r_21, F, rfl, ⟨rfl, br_21, ⟨fun h9 => by rw [q_24, show x_20.toInt = zpo Bt nt tq.toInt.toNat + i.toInt by have := btq_8.1; have := btq_8.2; have := bi9_.1; have := bi9_.2; have := br_21.1; have := br_21.2; have := bx_20.1; have := bx_20.2; have : (0 : Int32).toInt = 0 := (by decide); omega], fun h9 => by exfalso; have := btq_8.1; have := btq_8.2; have := bi9_.1; have := bi9_.2; have := br_21.1; have := br_21.2; have := bx_20.1; have := bx_20.2; have : (0 : Int32).toInt = 0 := (by decide); omega⟩, trivial⟩, by rw [ht]; exact h.1, h.2.1, zFr.rf⟩, h.2.2.F ht⟩) h.2.2.2.2 dX8_byteOf_38

set_option maxHeartbeats 4000000 in
set_option maxRecDepth 100000 in
theorem ze_X8_isLike (l : Launch) (D : va_G) (k : Nat → ClassId) (Γ : Nat → Option Nat) (L : List Nat) (F : Nat → va_E) (sz : Nat) (tk : Nat) (tq : Int32) (ot : Nat) (u_ : Int32) (Bt : Nat → Int32) (nt : Nat) (Nt : Nat) (Bo : Nat → Int32) (no_ : Nat) (No : Nat) (htk : Γ tk = some 8) (hot : Γ ot = some 8) (p_tb : zTb Γ F tk Bt nt Nt) (p_tbo : zTb Γ F ot Bo no_ No) (hr0 : 0 ≤ tq.toInt ∧ tq.toInt < Nt ∧ (zTo Bt nt).1 tq.toInt.toNat = 4) (hr1 : 0 ≤ u_.toInt ∧ u_.toInt < No ∧ (zTo Bo no_).1 u_.toInt.toNat = 4) : Met l yX8_isLike zwX8_isLike ({ frames := 2, cells := 0, slots := 0, locals := 43 }) (va_Pc [.ref tk, .int tq, .ref ot, .int u_] (zP D k Γ L F sz)) (va_Qi (fun (r : Int32) (u : Nat → va_E) => F = u ∧ zB 0 1 r ∧ ((r.toInt = 1 ∧ (zTo Bt nt).2.2 tq.toInt.toNat = (zTo Bo no_).2.2 u_.toInt.toNat) ∨ (r.toInt = 0 ∧ (zTo Bt nt).2.2 tq.toInt.toNat ≠ (zTo Bo no_).2.2 u_.toInt.toNat)) ∧ True) (zQ D k Γ L F []) (zA L sz)) 0 0 (zA L sz) := by
  refine Met.ofW (cc := cX8_isLike) (maxL := 5) (ret := (some .boolean)) (by decide) rfl ?_
  intro p e s m args below meth c s₁ B hml hv
  obtain ⟨rfl, hsz, hP, hK, hLn, hE, hI⟩ := hv
  have hx := B.exec
  have hb := B.bytes
  have hr := B.returns
  have hg : ∀ w ∈ zG, w.before _ s = true := fun w h9 => atoms_spec (ws := zwX8_isLike) B.pre w (List.mem_cons_of_mem _ h9)
  have hown : s.vm.findClass RX8 = some m.cls := findClass_of_methodNamed B.named
  have hlocks := B.notSynchronized
  subst hsz
  have Z : zC p m c cX8_isLike 5 s _ zG RX8 D k L := ⟨⟨hx, hb, hml, hown, hg⟩, hK, hLn, hE⟩
  have h : zH D k Γ L s F s.heap [] := ⟨hP, hI, va_S.rf⟩
  have hl := lv_entry ([.ref tk, .int tq, .ref ot, .int u_]) (n := 5) (Nat.le_of_ble_eq_true rfl)
  rw [lg_entry_eq]
  generalize (lg_sl ([.ref tk, .int tq, .ref ot, .int u_]) ++ List.replicate (5 - (lg_sl ([.ref tk, .int tq, .ref ot, .int u_])).length) Slot.unset).toArray = ls at hl ⊢
  have hl : lv_has ls 5 [(0, .ref tk), (1, .int tq), (2, .ref ot), (3, .int u_)] := hl
  clear hP hK hLn hE hI
  generalize hargs : ([.ref tk, .int tq, .ref ot, .int u_] : List Value).toArray = args at *
  refine z_start (fun R Q hRf hRl hQ => ?_)
  have hRf : R.frames = 2 := hRf
  have hRl : R.locals = 43 := hRl
  have h9 := h
  have htA := zname_t (B := Bt) (n := nt) (t := tq.toInt.toNat) hr0.2.2
  have htB := zname_t (B := Bo) (n := no_) (t := u_.toInt.toNat) hr1.2.2
  have heq := zname_eq (B := Bt) (B' := Bo) (n := nt) (n' := no_) (a := zpo Bt nt tq.toInt.toNat) (b := zpo Bo no_ u_.toInt.toNat) hr0.2.2 hr1.2.2
  have h6A := zwa_600 (B := Bt) (n := nt) (t := tq.toInt.toNat) p_tb.1.2.2.1
  refine lv_aload_n hx hb dX8_isLike_0 rfl (lv_at hl 0 rfl) ?_
  refine lv_iload_n hx hb dX8_isLike_1 rfl (lv_at hl 1 rfl) ?_
  refine zk_Vi (As := [.int tq]) (rest := []) (bytes := cX8_has) (maxL := 2) (ret := (some .boolean)) Z h (ze_X8_has l D k Γ L F s.heap.size tk tq Bt nt Nt htk p_tb) (cwV 1 hg zv_RX8_58 rfl rfl rfl zd_X8_has ⟨z_leR hRf (by decide), z_leR hRl (by decide)⟩) htk (by decide) rfl rfl hl.1 rfl (Nat.le_of_ble_eq_true rfl) dX8_isLike_2 ⟨Nat.zero_le _, Nat.zero_le _⟩ (fun r_1 F_2 H locs w_3 h hfF_2 => ?_)
  obtain ⟨rfl, br_1, q_4, q_5, -⟩ := w_3
  refine lv_if_eq (tgt := 31) hx hb dX8_isLike_5 (by decide) (fun c_6 => ?_) (fun c_6 => ?_)
  · have c_6 := z_eq c_6
    have br_1_7 : zB 0 0 r_1 := zB.eqL (a := 0) (b := 0) c_6 (zBc 0 0 (by decide))
    refine lv_iconst (v := 0) hx hb dX8_isLike_31 (by decide) ?_
    subst hQ
    exact W.zret (v := 0) hx hb hr (by decide) (fun t ht hW => ⟨⟨0, F, rfl, ⟨rfl, (zB.of ⟨by decide, by decide⟩), (False.elim (by have := (zB.all tq).1; have := (zB.all tq).2; have := (zB.all u_).1; have := (zB.all u_).2; have : (0 : Int32).toInt = 0 := (by decide); omega)), trivial⟩, by rw [ht]; exact h.1, h.2.1, zFr.rf⟩, h.2.2.F ht⟩) h.2.2.2.2 dX8_isLike_32
  · have btq_8 : zB 0 600 tq := q_4 c_6
    have c_6 := z_ne c_6
    have br_1_9 : zB 1 1 r_1 := zB.neLo c_6 br_1 (zBc 0 0 (by decide)) (by decide)
    refine lv_aload_n hx hb dX8_isLike_8 rfl (lv_at hl 2 rfl) ?_
    refine lv_iload_n hx hb dX8_isLike_9 rfl (lv_at hl 3 rfl) ?_
    refine zk_Vi (As := [.int u_]) (rest := []) (bytes := cX8_has) (maxL := 2) (ret := (some .boolean)) Z h (ze_X8_has l D k Γ L F H.size ot u_ Bo no_ No hot p_tbo) (cwV 1 hg zv_RX8_58 rfl rfl rfl zd_X8_has ⟨z_leR hRf (by decide), z_leR hRl (by decide)⟩) hot (by decide) rfl rfl hl.1 rfl (Nat.le_of_ble_eq_true rfl) dX8_isLike_10 ⟨Nat.zero_le _, Nat.zero_le _⟩ (fun r_10 F_11 H locs w_12 h hfF_11 => ?_)
    obtain ⟨rfl, br_10, q_13, q_14, -⟩ := w_12
    refine lv_if_eq (tgt := 31) hx hb dX8_isLike_13 (by decide) (fun c_15 => ?_) (fun c_15 => ?_)
    · have c_15 := z_eq c_15
      have br_10_16 : zB 0 0 r_10 := zB.eqL (a := 0) (b := 0) c_15 (zBc 0 0 (by decide))
      refine lv_iconst (v := 0) hx hb dX8_isLike_31 (by decide) ?_
      subst hQ
      exact W.zret (v := 0) hx hb hr (by decide) (fun t ht hW => ⟨⟨0, F, rfl, ⟨rfl, (zB.of ⟨by decide, by decide⟩), (False.elim (by have := btq_8.1; have := btq_8.2; have := (zB.all u_).1; have := (zB.all u_).2; have : (0 : Int32).toInt = 0 := (by decide); omega)), trivial⟩, by rw [ht]; exact h.1, h.2.1, zFr.rf⟩, h.2.2.F ht⟩) h.2.2.2.2 dX8_isLike_32
    · have bu__17 : zB 0 600 u_ := q_13 c_15
      have c_15 := z_ne c_15
      have br_10_18 : zB 1 1 r_10 := zB.neLo c_15 br_10 (zBc 0 0 (by decide)) (by decide)
      refine lv_aload_n hx hb dX8_isLike_16 rfl (lv_at hl 0 rfl) ?_
      refine zt_getr (t := 8) (C := RX8) (T := TX8) (N := 6) Z h htk zin_8 rfl 4 rfl ⟨by decide, rfl⟩ (zm_RX8 (List.mem_of_getElem? (i := 41) rfl)) (fun _ h9 => h9) dX8_isLike_17 (fun a_19 ka_19 ha_19 => ?_)
      refine lv_iload_n hx hb dX8_isLike_20 rfl (lv_at hl 1 rfl) ?_
      refine zt_ialde (t := 156) Z h ha_19 ⟨by decide, rfl⟩ btq_8 ⟨by decide, by decide⟩ dX8_isLike_21 (fun x_20 ex_20 bx_20 => ?_)
      have hwA := zTb.width p_tb ka_19 ex_20 ⟨(by have := btq_8.1; have := btq_8.2; have := bu__17.1; have := bu__17.2; have := bx_20.1; have := bx_20.2; have : (0 : Int32).toInt = 0 := (by decide); omega), (by have := btq_8.1; have := btq_8.2; have := bu__17.1; have := bu__17.2; have := bx_20.1; have := bx_20.2; have : (0 : Int32).toInt = 0 := (by decide); omega)⟩
      refine lv_aload_n hx hb dX8_isLike_22 rfl (lv_at hl 2 rfl) ?_
      refine zt_getr (t := 8) (C := RX8) (T := TX8) (N := 6) Z h hot zin_8 rfl 4 rfl ⟨by decide, rfl⟩ (zm_RX8 (List.mem_of_getElem? (i := 41) rfl)) (fun _ h9 => h9) dX8_isLike_23 (fun a_21 ka_21 ha_21 => ?_)
      refine lv_iload_n hx hb dX8_isLike_26 rfl (lv_at hl 3 rfl) ?_
      refine zt_ialde (t := 156) Z h ha_21 ⟨by decide, rfl⟩ bu__17 ⟨by decide, by decide⟩ dX8_isLike_27 (fun x_22 ex_22 bx_22 => ?_)
      have hwB := zTb.width p_tbo ka_21 ex_22 ⟨(by have := btq_8.1; have := btq_8.2; have := bu__17.1; have := bu__17.2; have := bx_22.1; have := bx_22.2; have := bx_20.1; have := bx_20.2; have : (0 : Int32).toInt = 0 := (by decide); omega), (by have := btq_8.1; have := btq_8.2; have := bu__17.1; have := bu__17.2; have := bx_22.1; have := bx_22.2; have := bx_20.1; have := bx_20.2; have : (0 : Int32).toInt = 0 := (by decide); omega)⟩
      refine lv_icmp_eq (tgt := 33) hx hb dX8_isLike_28 (by decide) (fun c_23 => ?_) (fun c_23 => ?_)
      · have c_23 := z_eq c_23
        refine lv_iconst (v := 0) hx hb dX8_isLike_33 (by decide) ?_
        refine lv_istore (lv' := [(4, .int 0), (0, .ref tk), (1, .int tq), (2, .ref ot), (3, .int u_)]) hx hb dX8_isLike_34 hl (by decide) rfl (fun ls hl => ?_)
        have j_j36_24 : ∀ (n : Nat) (ls : Array Slot) (y4_j36_24 : Int32) (H : Heap) (locs : List Loc), lv_has ls 5 [(4, .int y4_j36_24), (0, .ref tk), (1, .int tq), (2, .ref ot), (3, .int u_)] → zB 0 600 y4_j36_24 → zH D k Γ L s F H locs → (y4_j36_24.toInt ≤ x_20.toInt) → (∀ q : Nat, (q : Int) < y4_j36_24.toInt → zby Bt nt (zpo Bt nt tq.toInt.toNat + q) = zby Bo no_ (zpo Bo no_ u_.toInt.toNat + q)) → (600 - y4_j36_24.toInt).toNat = n → W p l e R s m args below meth c H locs 0 0 Q (F0 m 36 ls []) := by
          intro n
          induction n using Nat.strongRecOn with
          | _ n ih_j36_24 =>
            intro ls y4_j36_24 H locs hl by4_j36_24 h r0_j36_24 r1_j36_24 hn_j36_24
            refine lv_iload hx hb dX8_isLike_36 (lv_at hl 0 rfl) ?_
            refine lv_aload_n hx hb dX8_isLike_38 rfl (lv_at hl 1 rfl) ?_
            refine zt_getk (t := 8) (C := RX8) (T := TX8) (N := 6) Z h htk zin_8 rfl 4 ka_19 ⟨by decide, rfl, by decide⟩ (zm_RX8 (List.mem_of_getElem? (i := 41) rfl)) (fun _ h9 => h9) dX8_isLike_39 ?_
            refine lv_iload_n hx hb dX8_isLike_42 rfl (lv_at hl 2 rfl) ?_
            refine zt_ialdk (t := 156) Z h ha_19 ⟨by decide, rfl⟩ btq_8 ⟨by decide, by decide⟩ ex_20 dX8_isLike_43 ?_
            refine lv_icmp_ge (tgt := 72) hx hb dX8_isLike_44 (by decide) (fun c_25 => ?_) (fun c_25 => ?_)
            · have c_25 := z_le c_25
              have bx_20_26 : zB (-2147483648) 600 x_20 := zB.leL c_25 bx_20 by4_j36_24 (by decide)
              refine lv_iconst (v := 1) hx hb dX8_isLike_72 (by decide) ?_
              subst hQ
              exact W.zret (v := 1) hx hb hr (by decide) (fun t ht hW => ⟨⟨1, F, rfl, ⟨rfl, (zB.of ⟨by decide, by decide⟩), (Or.inl ⟨by decide, heq.mpr ⟨by have := by4_j36_24.1; have := by4_j36_24.2; have := btq_8.1; have := btq_8.2; have := bu__17.1; have := bu__17.2; have := bx_20_26.1; have := bx_20_26.2; have := bx_22.1; have := bx_22.2; have : (0 : Int32).toInt = 0 := (by decide); have : (1 : Int32).toInt = 1 := (by decide); omega, fun q hq => r1_j36_24 q (by have := by4_j36_24.1; have := by4_j36_24.2; have := btq_8.1; have := btq_8.2; have := bu__17.1; have := bu__17.2; have := bx_20_26.1; have := bx_20_26.2; have := bx_22.1; have := bx_22.2; have : (0 : Int32).toInt = 0 := (by decide); have : (1 : Int32).toInt = 1 := (by decide); omega)⟩⟩), trivial⟩, by rw [ht]; exact h.1, h.2.1, zFr.rf⟩, h.2.2.F ht⟩) h.2.2.2.2 dX8_isLike_73
            · have c_25 := z_nle c_25
              have bx_20_27 : zB 1 2147483647 x_20 := zB.ltR c_25 by4_j36_24 bx_20 (by decide)
              refine lv_aload_n hx hb dX8_isLike_47 rfl (lv_at hl 1 rfl) ?_
              refine lv_iload_n hx hb dX8_isLike_48 rfl (lv_at hl 2 rfl) ?_
              refine lv_iload hx hb dX8_isLike_49 (lv_at hl 0 rfl) ?_
              refine zk_Vi (As := [.int tq, .int y4_j36_24]) (rest := []) (bytes := cX8_byteOf) (maxL := 3) (ret := (some .int)) Z h (ze_X8_byteOf l D k Γ L F H.size tk tq y4_j36_24 Bt nt Nt htk by4_j36_24 p_tb (by have := by4_j36_24.1; have := by4_j36_24.2; have := btq_8.1; have := btq_8.2; have := bu__17.1; have := bu__17.2; have : (0 : Int32).toInt = 0 := (by decide); omega)) (cwV 2 hg zv_RX8_65 rfl rfl rfl zd_X8_byteOf ⟨z_leR hRf (by decide), z_leR hRl (by decide)⟩) htk (by decide) rfl rfl hl.1 rfl (Nat.le_of_ble_eq_true rfl) dX8_isLike_51 ⟨Nat.zero_le _, Nat.zero_le _⟩ (fun r_28 F_29 H locs w_30 h hfF_29 => ?_)
              obtain ⟨rfl, br_28, q_31, -⟩ := w_30
              refine lv_aload_n hx hb dX8_isLike_54 rfl (lv_at hl 3 rfl) ?_
              refine lv_iload_n hx hb dX8_isLike_55 rfl (lv_at hl 4 rfl) ?_
              refine lv_iload hx hb dX8_isLike_56 (lv_at hl 0 rfl) ?_
              refine zk_Vi (As := [.int u_, .int y4_j36_24]) (rest := [.int r_28]) (bytes := cX8_byteOf) (maxL := 3) (ret := (some .int)) Z h (ze_X8_byteOf l D k Γ L F H.size ot u_ y4_j36_24 Bo no_ No hot by4_j36_24 p_tbo (by have := by4_j36_24.1; have := by4_j36_24.2; have := btq_8.1; have := btq_8.2; have := bu__17.1; have := bu__17.2; have := br_28.1; have := br_28.2; have : (0 : Int32).toInt = 0 := (by decide); omega)) (cwV 2 hg zv_RX8_65 rfl rfl rfl zd_X8_byteOf ⟨z_leR hRf (by decide), z_leR hRl (by decide)⟩) hot (by decide) rfl rfl hl.1 rfl (Nat.le_of_ble_eq_true rfl) dX8_isLike_58 ⟨Nat.zero_le _, Nat.zero_le _⟩ (fun r_32 F_33 H locs w_34 h hfF_33 => ?_)
              obtain ⟨rfl, br_32, q_35, -⟩ := w_34
              refine lv_icmp_eq (tgt := 66) hx hb dX8_isLike_61 (by decide) (fun c_36 => ?_) (fun c_36 => ?_)
              · have c_36 := z_eq c_36
                obtain ⟨x_37, ex_37, bx_37, tx_37⟩ := z_inc (n := 1) (lo := 1) (hi := 601) by4_j36_24 (by decide)
                refine lv_iinc (v := x_37) (lv' := [(4, .int x_37), (0, .ref tk), (1, .int tq), (2, .ref ot), (3, .int u_)]) hx hb dX8_isLike_66 hl (k := 0) rfl ex_37 (by decide) rfl (fun ls hl => ?_)
                refine lv_goto (tgt := 36) hx hb dX8_isLike_69 (by decide) ?_
                exact ih_j36_24 _ (by have := bx_37.1; have := bx_37.2; have := btq_8.1; have := btq_8.2; have := bu__17.1; have := bu__17.2; have : (0 : Int32).toInt = 0 := (by decide); have := by4_j36_24.1; have := by4_j36_24.2; omega) ls x_37 H locs (lv_sub hl [0, 1, 2, 3, 4] rfl) (zB.of ⟨by have := bx_37.1; have := bx_37.2; have := btq_8.1; have := btq_8.2; have := bu__17.1; have := bu__17.2; have : (0 : Int32).toInt = 0 := (by decide); omega, by have := bx_37.1; have := bx_37.2; have := btq_8.1; have := btq_8.2; have := bu__17.1; have := bu__17.2; have : (0 : Int32).toInt = 0 := (by decide); omega⟩) h (by have := bx_37.1; have := bx_37.2; have := btq_8.1; have := btq_8.2; have := bu__17.1; have := bu__17.2; have : (0 : Int32).toInt = 0 := (by decide); omega) (fun q hq => if h6 : (q : Int) < y4_j36_24.toInt then r1_j36_24 q h6 else (by have h7 := q_31 ⟨by have := bx_37.1; have := bx_37.2; have := btq_8.1; have := btq_8.2; have := bu__17.1; have := bu__17.2; have := by4_j36_24.1; have := by4_j36_24.2; have := bx_20_27.1; have := bx_20_27.2; have := bx_22.1; have := bx_22.2; have := br_28.1; have := br_28.2; have := br_32.1; have := br_32.2; have : (0 : Int32).toInt = 0 := (by decide); omega, by have := bx_37.1; have := bx_37.2; have := btq_8.1; have := btq_8.2; have := bu__17.1; have := bu__17.2; have := by4_j36_24.1; have := by4_j36_24.2; have := bx_20_27.1; have := bx_20_27.2; have := bx_22.1; have := bx_22.2; have := br_28.1; have := br_28.2; have := br_32.1; have := br_32.2; have : (0 : Int32).toInt = 0 := (by decide); omega⟩; have h8 := q_35 ⟨by have := bx_37.1; have := bx_37.2; have := btq_8.1; have := btq_8.2; have := bu__17.1; have := bu__17.2; have := by4_j36_24.1; have := by4_j36_24.2; have := bx_20_27.1; have := bx_20_27.2; have := bx_22.1; have := bx_22.2; have := br_28.1; have := br_28.2; have := br_32.1; have := br_32.2; have : (0 : Int32).toInt = 0 := (by decide); omega, by have := bx_37.1; have := bx_37.2; have := btq_8.1; have := btq_8.2; have := bu__17.1; have := bu__17.2; have := by4_j36_24.1; have := by4_j36_24.2; have := bx_20_27.1; have := bx_20_27.2; have := bx_22.1; have := bx_22.2; have := br_28.1; have := br_28.2; have := br_32.1; have := br_32.2; have : (0 : Int32).toInt = 0 := (by decide); omega⟩; rw [show (q : Int) = y4_j36_24.toInt by have := bx_37.1; have := bx_37.2; have := btq_8.1; have := btq_8.2; have := bu__17.1; have := bu__17.2; have := by4_j36_24.1; have := by4_j36_24.2; have := bx_20_27.1; have := bx_20_27.2; have := bx_22.1; have := bx_22.2; have := br_28.1; have := br_28.2; have := br_32.1; have := br_32.2; have : (0 : Int32).toInt = 0 := (by decide); omega]; have := bx_37.1; have := bx_37.2; have := btq_8.1; have := btq_8.2; have := bu__17.1; have := bu__17.2; have := by4_j36_24.1; have := by4_j36_24.2; have := bx_20_27.1; have := bx_20_27.2; have := bx_22.1; have := bx_22.2; have := br_28.1; have := br_28.2; have := br_32.1; have := br_32.2; have : (0 : Int32).toInt = 0 := (by decide); omega)) rfl
              · have c_36 := z_ne c_36
                refine lv_iconst (v := 0) hx hb dX8_isLike_64 (by decide) ?_
                subst hQ
                exact W.zret (v := 0) hx hb hr (by decide) (fun t ht hW => ⟨⟨0, F, rfl, ⟨rfl, (zB.of ⟨by decide, by decide⟩), (Or.inr ⟨by decide, fun h9 => absurd ((heq.mp h9).2 y4_j36_24.toInt.toNat (by have := by4_j36_24.1; have := by4_j36_24.2; have := btq_8.1; have := btq_8.2; have := bu__17.1; have := bu__17.2; have := bx_20_27.1; have := bx_20_27.2; have := bx_22.1; have := bx_22.2; have : (0 : Int32).toInt = 0 := (by decide); omega)) (by have h7 := q_31 ⟨by have := by4_j36_24.1; have := by4_j36_24.2; have := btq_8.1; have := btq_8.2; have := bu__17.1; have := bu__17.2; have := bx_20_27.1; have := bx_20_27.2; have := bx_22.1; have := bx_22.2; have : (0 : Int32).toInt = 0 := (by decide); omega, by have := by4_j36_24.1; have := by4_j36_24.2; have := btq_8.1; have := btq_8.2; have := bu__17.1; have := bu__17.2; have := bx_20_27.1; have := bx_20_27.2; have := bx_22.1; have := bx_22.2; have : (0 : Int32).toInt = 0 := (by decide); omega⟩; have h8 := q_35 ⟨by have := by4_j36_24.1; have := by4_j36_24.2; have := btq_8.1; have := btq_8.2; have := bu__17.1; have := bu__17.2; have := bx_20_27.1; have := bx_20_27.2; have := bx_22.1; have := bx_22.2; have : (0 : Int32).toInt = 0 := (by decide); omega, by have := by4_j36_24.1; have := by4_j36_24.2; have := btq_8.1; have := btq_8.2; have := bu__17.1; have := bu__17.2; have := bx_20_27.1; have := bx_20_27.2; have := bx_22.1; have := bx_22.2; have : (0 : Int32).toInt = 0 := (by decide); omega⟩; rw [show ((y4_j36_24.toInt.toNat : Nat) : Int) = y4_j36_24.toInt by have := by4_j36_24.1; have := by4_j36_24.2; have := btq_8.1; have := btq_8.2; have := bu__17.1; have := bu__17.2; have := bx_20_27.1; have := bx_20_27.2; have := bx_22.1; have := bx_22.2; have : (0 : Int32).toInt = 0 := (by decide); omega]; have := by4_j36_24.1; have := by4_j36_24.2; have := btq_8.1; have := btq_8.2; have := bu__17.1; have := bu__17.2; have := br_28.1; have := br_28.2; have := br_32.1; have := br_32.2; have : (0 : Int32).toInt = 0 := (by decide); omega)⟩), trivial⟩, by rw [ht]; exact h.1, h.2.1, zFr.rf⟩, h.2.2.F ht⟩) h.2.2.2.2 dX8_isLike_65
        exact j_j36_24 _ ls 0 H locs (lv_sub hl [0, 1, 2, 3, 4] rfl) (zB.of ⟨by decide, by decide⟩) h (by have := btq_8.1; have := btq_8.2; have := bu__17.1; have := bu__17.2; have := bx_20.1; have := bx_20.2; have : (0 : Int32).toInt = 0 := (by decide); omega) (fun q hq => by exfalso; have : (0 : Int32).toInt = 0 := (by decide); omega) rfl
      · have c_23 := z_ne c_23
        refine lv_iconst (v := 0) hx hb dX8_isLike_31 (by decide) ?_
        subst hQ
        exact W.zret (v := 0) hx hb hr (by decide) (fun t ht hW => ⟨⟨0, F, rfl, ⟨rfl, (zB.of ⟨by decide, by decide⟩), (Or.inr ⟨by decide, fun h9 => absurd (heq.mp h9).1 (by have := btq_8.1; have := btq_8.2; have := bu__17.1; have := bu__17.2; have := bx_20.1; have := bx_20.2; have := bx_22.1; have := bx_22.2; have : (0 : Int32).toInt = 0 := (by decide); omega)⟩), trivial⟩, by rw [ht]; exact h.1, h.2.1, zFr.rf⟩, h.2.2.F ht⟩) h.2.2.2.2 dX8_isLike_32
