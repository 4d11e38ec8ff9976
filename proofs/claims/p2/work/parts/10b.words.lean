set_option maxHeartbeats 4000000 in
set_option maxRecDepth 100000 in
theorem zc_X8_spells (l : Launch) (D : va_G) (k : Nat → ClassId) (Γ : Nat → Option Nat) (L : List Nat) (F : Nat → va_E) (sz : Nat) (th : Nat) (i : Int32) (wi : Int32) (si : Nat) (qs : String × Nat × String × Nat) (hth : Γ th = some 8) (hsi : zStrs[si]? = some qs) : Met l yX8_spells zwX8_spells ({ frames := 4, cells := 0, slots := 0, locals := 85 }) (va_Pc [.ref th, .int i, .int wi, .ref (D.2 99 si)] (zP D k Γ L F sz)) (va_Qi (fun (r : Int32) (u : Nat → va_E) => F = u ∧ zB 0 1 r ∧ True) (zQ D k Γ L F []) (zA L sz)) 0 0 (zA L sz) := by
  refine Met.ofW (cc := cX8_spells) (maxL := 5) (ret := (some .boolean)) (by decide) rfl ?_
  intro p e s m args below meth c s₁ B hml hv
  obtain ⟨rfl, hsz, hP, hK, hLn, hE, hI⟩ := hv
  have hx := B.exec
  have hb := B.bytes
  have hr := B.returns
  have hg : ∀ w ∈ zG, w.before _ s = true := fun w h9 => atoms_spec (ws := zwX8_spells) B.pre w (List.mem_cons_of_mem _ h9)
  have hown : s.vm.findClass RX8 = some m.cls := findClass_of_methodNamed B.named
  have hlocks := B.notSynchronized
  subst hsz
  have Z : zC p m c cX8_spells 5 s _ zG RX8 D k L := ⟨⟨hx, hb, hml, hown, hg⟩, hK, hLn, hE⟩
  have h : zH D k Γ L s F s.heap [] := ⟨hP, hI, va_S.rf⟩
  have hl := lv_entry ([.ref th, .int i, .int wi, .ref (D.2 99 si)]) (n := 5) (Nat.le_of_ble_eq_true rfl)
  rw [lg_entry_eq]
  generalize (lg_sl ([.ref th, .int i, .int wi, .ref (D.2 99 si)]) ++ List.replicate (5 - (lg_sl ([.ref th, .int i, .int wi, .ref (D.2 99 si)])).length) Slot.unset).toArray = ls at hl ⊢
  have hl : lv_has ls 5 [(0, .ref th), (1, .int i), (2, .int wi), (3, .ref (D.2 99 si))] := hl
  clear hP hK hLn hE hI
  generalize hargs : ([.ref th, .int i, .int wi, .ref (D.2 99 si)] : List Value).toArray = args at *
  refine z_start (fun R Q hRf hRl hQ => ?_)
  have hRf : R.frames = 4 := hRf
  have hRl : R.locals = 85 := hRl
  refine lv_iload_n hx hb dX8_spells_0 rfl (lv_at hl 2 rfl) ?_
  refine lv_aload_n hx hb dX8_spells_1 rfl (lv_at hl 3 rfl) ?_
  refine zk_Wi (As := []) (rest := [.int wi]) (bytes := cJ0_length_8abf5) (maxL := 1) (ret := (some .int)) Z h (zc_J0_length_8abf5 l D k Γ L F s.heap.size si qs hsi) (cwV 0 hg zv_RX8_96 rfl rfl rfl zd_J0_length_8abf5 ⟨z_leR hRf (by decide), z_leR hRl (by decide)⟩) (zE_recv Z h hsi) rfl hl.1 rfl (Nat.le_of_ble_eq_true rfl) dX8_spells_2 ⟨Nat.zero_le _, Nat.zero_le _⟩ (fun r_1 F_2 H locs w_3 h hfF_2 => ?_)
  obtain ⟨rfl, br_1, q_4, -⟩ := w_3
  refine lv_icmp_eq (tgt := 10) hx hb dX8_spells_5 (by decide) (fun c_5 => ?_) (fun c_5 => ?_)
  · have c_5 := z_eq c_5
    have bwi_6 : zB 0 6 wi := zB.eqL (a := 0) (b := 0) c_5 br_1
    refine lv_iconst (v := 0) hx hb dX8_spells_10 (by decide) ?_
    refine lv_istore (lv' := [(4, .int 0), (0, .ref th), (1, .int i), (2, .int wi), (3, .ref (D.2 99 si))]) hx hb dX8_spells_11 hl (by decide) rfl (fun ls hl => ?_)
    have j_j13_7 : ∀ (n : Nat) (ls : Array Slot) (y4_j13_7 : Int32) (H : Heap) (locs : List Loc), lv_has ls 5 [(4, .int y4_j13_7), (0, .ref th), (1, .int i), (2, .int wi), (3, .ref (D.2 99 si))] → zB 0 8 y4_j13_7 → zH D k Γ L s F H locs → (2147483647 - y4_j13_7.toInt).toNat = n → W p l e R s m args below meth c H locs 0 0 Q (F0 m 13 ls []) := by
      intro n
      induction n using Nat.strongRecOn with
      | _ n ih_j13_7 =>
        intro ls y4_j13_7 H locs hl by4_j13_7 h hn_j13_7
        refine lv_iload hx hb dX8_spells_13 (lv_at hl 0 rfl) ?_
        refine lv_iload_n hx hb dX8_spells_15 rfl (lv_at hl 3 rfl) ?_
        refine lv_icmp_ge (tgt := 44) hx hb dX8_spells_16 (by decide) (fun c_8 => ?_) (fun c_8 => ?_)
        · have c_8 := z_le c_8
          refine lv_iconst (v := 1) hx hb dX8_spells_44 (by decide) ?_
          subst hQ
          exact W.zret (v := 1) hx hb hr (by decide) (fun t ht hW => ⟨⟨1, F, rfl, ⟨rfl, (zB.of ⟨by decide, by decide⟩), trivial⟩, by rw [ht]; exact h.1, h.2.1, zFr.rf⟩, h.2.2.F ht⟩) h.2.2.2.2 dX8_spells_45
        · have c_8 := z_nle c_8
          have by4_j13_7_9 : zB 0 5 y4_j13_7 := zB.ltL c_8 by4_j13_7 bwi_6 (by decide)
          have bwi_10 : zB 1 6 wi := zB.ltR c_8 by4_j13_7 bwi_6 (by decide)
          refine lv_aload_n hx hb dX8_spells_19 rfl (lv_at hl 1 rfl) ?_
          refine lv_iload_n hx hb dX8_spells_20 rfl (lv_at hl 2 rfl) ?_
          refine lv_iload hx hb dX8_spells_21 (lv_at hl 0 rfl) ?_
          refine lv_iadd hx hb dX8_spells_23 ?_
          refine zi_any (fun x_11 bx_11 ex_11 => ?_)
          refine zk_Vi (As := [.int x_11]) (rest := []) (bytes := cX8_textAt) (maxL := 2) (ret := (some .int)) Z h (zc_X8_textAt l D k Γ L F H.size th x_11 hth) (cwV 1 hg zv_RX8_62 rfl rfl rfl zd_X8_textAt ⟨z_leR hRf (by decide), z_leR hRl (by decide)⟩) hth (by decide) rfl rfl hl.1 rfl (Nat.le_of_ble_eq_true rfl) dX8_spells_24 ⟨Nat.zero_le _, Nat.zero_le _⟩ (fun r_12 F_13 H locs w_14 h hfF_13 => ?_)
          obtain ⟨rfl, br_12, -⟩ := w_14
          refine lv_aload_n hx hb dX8_spells_27 rfl (lv_at hl 4 rfl) ?_
          refine lv_iload hx hb dX8_spells_28 (lv_at hl 0 rfl) ?_
          refine zk_Wi (As := [.int y4_j13_7]) (rest := [.int r_12]) (bytes := cJ0_charAt_5068e) (maxL := 2) (ret := (some .char)) Z h (zc_J0_charAt_5068e l D k Γ L F H.size si qs y4_j13_7 hsi (by have := by4_j13_7_9.1; have := by4_j13_7_9.2; have := (zB.all i).1; have := (zB.all i).2; have := bwi_10.1; have := bwi_10.2; have := br_12.1; have := br_12.2; omega)) (cwV 1 hg zv_RX8_101 rfl rfl rfl zd_J0_charAt_5068e ⟨z_leR hRf (by decide), z_leR hRl (by decide)⟩) (zE_recv Z h hsi) rfl hl.1 rfl (Nat.le_of_ble_eq_true rfl) dX8_spells_30 ⟨Nat.zero_le _, Nat.zero_le _⟩ (fun r_15 F_16 H locs w_17 h hfF_16 => ?_)
          obtain ⟨rfl, q_18, -⟩ := w_17
          have br_15 := zB.all r_15
          refine lv_icmp_eq (tgt := 38) hx hb dX8_spells_33 (by decide) (fun c_19 => ?_) (fun c_19 => ?_)
          · have c_19 := z_eq c_19
            have br_15_20 : zB (-128) 127 r_15 := zB.eqR (c := 0) (d := 0) c_19 br_12
            obtain ⟨x_21, ex_21, bx_21, tx_21⟩ := z_inc (n := 1) (lo := 1) (hi := 6) by4_j13_7_9 (by decide)
            refine lv_iinc (v := x_21) (lv' := [(4, .int x_21), (0, .ref th), (1, .int i), (2, .int wi), (3, .ref (D.2 99 si))]) hx hb dX8_spells_38 hl (k := 0) rfl ex_21 (by decide) rfl (fun ls hl => ?_)
            refine lv_goto (tgt := 13) hx hb dX8_spells_41 (by decide) ?_
            exact ih_j13_7 _ (by have := bx_21.1; have := bx_21.2; have := (zB.all i).1; have := (zB.all i).2; have := bwi_10.1; have := bwi_10.2; have := by4_j13_7.1; have := by4_j13_7.2; omega) ls x_21 H locs (lv_sub hl [0, 1, 2, 3, 4] rfl) (bx_21.w ⟨by decide, by decide⟩) h rfl
          · have c_19 := z_ne c_19
            refine lv_iconst (v := 0) hx hb dX8_spells_36 (by decide) ?_
            subst hQ
            exact W.zret (v := 0) hx hb hr (by decide) (fun t ht hW => ⟨⟨0, F, rfl, ⟨rfl, (zB.of ⟨by decide, by decide⟩), trivial⟩, by rw [ht]; exact h.1, h.2.1, zFr.rf⟩, h.2.2.F ht⟩) h.2.2.2.2 dX8_spells_37
    exact j_j13_7 _ ls 0 H locs (lv_sub hl [0, 1, 2, 3, 4] rfl) (zB.of ⟨by decide, by decide⟩) h rfl
  · have c_5 := z_ne c_5
    refine lv_iconst (v := 0) hx hb dX8_spells_8 (by decide) ?_
    subst hQ
    exact W.zret (v := 0) hx hb hr (by decide) (fun t ht hW => ⟨⟨0, F, rfl, ⟨rfl, (zB.of ⟨by decide, by decide⟩), trivial⟩, by rw [ht]; exact h.1, h.2.1, zFr.rf⟩, h.2.2.F ht⟩) h.2.2.2.2 dX8_spells_9

set_option maxHeartbeats 4000000 in
set_option maxRecDepth 100000 in
theorem zc_X8_wordKind (l : Launch) (D : va_G) (k : Nat → ClassId) (Γ : Nat → Option Nat) (L : List Nat) (F : Nat → va_E) (sz : Nat) (th : Nat) (i : Int32) (wi : Int32) (hth : Γ th = some 8) : Met l yX8_wordKind zwX8_wordKind ({ frames := 5, cells := 0, slots := 0, locals := 109 }) (va_Pc [.ref th, .int i, .int wi] (zP D k Γ L F sz)) (va_Qi (fun (r : Int32) (u : Nat → va_E) => F = u ∧ zB 4 10 r ∧ True) (zQ D k Γ L F []) (zA L sz)) 0 0 (zA L sz) := by
  refine Met.ofW (cc := cX8_wordKind) (maxL := 3) (ret := (some .int)) (by decide) rfl ?_
  intro p e s m args below meth c s₁ B hml hv
  obtain ⟨rfl, hsz, hP, hK, hLn, hE, hI⟩ := hv
  have hx := B.exec
  have hb := B.bytes
  have hr := B.returns
  have hg : ∀ w ∈ zG, w.before _ s = true := fun w h9 => atoms_spec (ws := zwX8_wordKind) B.pre w (List.mem_cons_of_mem _ h9)
  have hown : s.vm.findClass RX8 = some m.cls := findClass_of_methodNamed B.named
  have hlocks := B.notSynchronized
  subst hsz
  have Z : zC p m c cX8_wordKind 3 s _ zG RX8 D k L := ⟨⟨hx, hb, hml, hown, hg⟩, hK, hLn, hE⟩
  have h : zH D k Γ L s F s.heap [] := ⟨hP, hI, va_S.rf⟩
  have hl := lv_entry ([.ref th, .int i, .int wi]) (n := 3) (Nat.le_of_ble_eq_true rfl)
  rw [lg_entry_eq]
  generalize (lg_sl ([.ref th, .int i, .int wi]) ++ List.replicate (3 - (lg_sl ([.ref th, .int i, .int wi])).length) Slot.unset).toArray = ls at hl ⊢
  have hl : lv_has ls 3 [(0, .ref th), (1, .int i), (2, .int wi)] := hl
  clear hP hK hLn hE hI
  generalize hargs : ([.ref th, .int i, .int wi] : List Value).toArray = args at *
  refine z_start (fun R Q hRf hRl hQ => ?_)
  have hRf : R.frames = 5 := hRf
  have hRl : R.locals = 109 := hRl
  refine lv_aload_n hx hb dX8_wordKind_0 rfl (lv_at hl 0 rfl) ?_
  refine lv_iload_n hx hb dX8_wordKind_1 rfl (lv_at hl 1 rfl) ?_
  refine lv_iload_n hx hb dX8_wordKind_2 rfl (lv_at hl 2 rfl) ?_
  refine va_ldcS hx hb hown (zsR_0 Z) dX8_wordKind_3 ?_
  refine zk_Vi (As := [.int i, .int wi, .ref (D.2 99 0)]) (rest := []) (bytes := cX8_spells) (maxL := 5) (ret := (some .boolean)) Z h (zc_X8_spells l D k Γ L F s.heap.size th i wi 0 (RX8, 80, "def", 3) hth zs_0) (cwV 3 hg zv_RX8_82 rfl rfl rfl zd_X8_spells ⟨z_leR hRf (by decide), z_leR hRl (by decide)⟩) hth (by decide) rfl rfl hl.1 rfl (Nat.le_of_ble_eq_true rfl) dX8_wordKind_5 ⟨Nat.zero_le _, Nat.zero_le _⟩ (fun r_1 F_2 H locs w_3 h hfF_2 => ?_)
  obtain ⟨rfl, br_1, -⟩ := w_3
  refine lv_if_eq (tgt := 13) hx hb dX8_wordKind_8 (by decide) (fun c_4 => ?_) (fun c_4 => ?_)
  · have c_4 := z_eq c_4
    have br_1_5 : zB 0 0 r_1 := zB.eqL (a := 0) (b := 0) c_4 (zBc 0 0 (by decide))
    refine lv_aload_n hx hb dX8_wordKind_13 rfl (lv_at hl 0 rfl) ?_
    refine lv_iload_n hx hb dX8_wordKind_14 rfl (lv_at hl 1 rfl) ?_
    refine lv_iload_n hx hb dX8_wordKind_15 rfl (lv_at hl 2 rfl) ?_
    refine va_ldcS hx hb hown (zsR_1 Z) dX8_wordKind_16 ?_
    refine zk_Vi (As := [.int i, .int wi, .ref (D.2 99 1)]) (rest := []) (bytes := cX8_spells) (maxL := 5) (ret := (some .boolean)) Z h (zc_X8_spells l D k Γ L F H.size th i wi 1 (RX8, 86, "say", 3) hth zs_1) (cwV 3 hg zv_RX8_82 rfl rfl rfl zd_X8_spells ⟨z_leR hRf (by decide), z_leR hRl (by decide)⟩) hth (by decide) rfl rfl hl.1 rfl (Nat.le_of_ble_eq_true rfl) dX8_wordKind_18 ⟨Nat.zero_le _, Nat.zero_le _⟩ (fun r_6 F_7 H locs w_8 h hfF_7 => ?_)
    obtain ⟨rfl, br_6, -⟩ := w_8
    refine lv_if_eq (tgt := 27) hx hb dX8_wordKind_21 (by decide) (fun c_9 => ?_) (fun c_9 => ?_)
    · have c_9 := z_eq c_9
      have br_6_10 : zB 0 0 r_6 := zB.eqL (a := 0) (b := 0) c_9 (zBc 0 0 (by decide))
      refine lv_aload_n hx hb dX8_wordKind_27 rfl (lv_at hl 0 rfl) ?_
      refine lv_iload_n hx hb dX8_wordKind_28 rfl (lv_at hl 1 rfl) ?_
      refine lv_iload_n hx hb dX8_wordKind_29 rfl (lv_at hl 2 rfl) ?_
      refine va_ldcS hx hb hown (zsR_2 Z) dX8_wordKind_30 ?_
      refine zk_Vi (As := [.int i, .int wi, .ref (D.2 99 2)]) (rest := []) (bytes := cX8_spells) (maxL := 5) (ret := (some .boolean)) Z h (zc_X8_spells l D k Γ L F H.size th i wi 2 (RX8, 88, "return", 6) hth zs_2) (cwV 3 hg zv_RX8_82 rfl rfl rfl zd_X8_spells ⟨z_leR hRf (by decide), z_leR hRl (by decide)⟩) hth (by decide) rfl rfl hl.1 rfl (Nat.le_of_ble_eq_true rfl) dX8_wordKind_32 ⟨Nat.zero_le _, Nat.zero_le _⟩ (fun r_11 F_12 H locs w_13 h hfF_12 => ?_)
      obtain ⟨rfl, br_11, -⟩ := w_13
      refine lv_if_eq (tgt := 41) hx hb dX8_wordKind_35 (by decide) (fun c_14 => ?_) (fun c_14 => ?_)
      · have c_14 := z_eq c_14
        have br_11_15 : zB 0 0 r_11 := zB.eqL (a := 0) (b := 0) c_14 (zBc 0 0 (by decide))
        refine lv_aload_n hx hb dX8_wordKind_41 rfl (lv_at hl 0 rfl) ?_
        refine lv_iload_n hx hb dX8_wordKind_42 rfl (lv_at hl 1 rfl) ?_
        refine lv_iload_n hx hb dX8_wordKind_43 rfl (lv_at hl 2 rfl) ?_
        refine va_ldcS hx hb hown (zsR_3 Z) dX8_wordKind_44 ?_
        refine zk_Vi (As := [.int i, .int wi, .ref (D.2 99 3)]) (rest := []) (bytes := cX8_spells) (maxL := 5) (ret := (some .boolean)) Z h (zc_X8_spells l D k Γ L F H.size th i wi 3 (RX8, 90, "if", 2) hth zs_3) (cwV 3 hg zv_RX8_82 rfl rfl rfl zd_X8_spells ⟨z_leR hRf (by decide), z_leR hRl (by decide)⟩) hth (by decide) rfl rfl hl.1 rfl (Nat.le_of_ble_eq_true rfl) dX8_wordKind_46 ⟨Nat.zero_le _, Nat.zero_le _⟩ (fun r_16 F_17 H locs w_18 h hfF_17 => ?_)
        obtain ⟨rfl, br_16, -⟩ := w_18
        refine lv_if_eq (tgt := 55) hx hb dX8_wordKind_49 (by decide) (fun c_19 => ?_) (fun c_19 => ?_)
        · have c_19 := z_eq c_19
          have br_16_20 : zB 0 0 r_16 := zB.eqL (a := 0) (b := 0) c_19 (zBc 0 0 (by decide))
          refine lv_aload_n hx hb dX8_wordKind_55 rfl (lv_at hl 0 rfl) ?_
          refine lv_iload_n hx hb dX8_wordKind_56 rfl (lv_at hl 1 rfl) ?_
          refine lv_iload_n hx hb dX8_wordKind_57 rfl (lv_at hl 2 rfl) ?_
          refine va_ldcS hx hb hown (zsR_4 Z) dX8_wordKind_58 ?_
          refine zk_Vi (As := [.int i, .int wi, .ref (D.2 99 4)]) (rest := []) (bytes := cX8_spells) (maxL := 5) (ret := (some .boolean)) Z h (zc_X8_spells l D k Γ L F H.size th i wi 4 (RX8, 92, "else", 4) hth zs_4) (cwV 3 hg zv_RX8_82 rfl rfl rfl zd_X8_spells ⟨z_leR hRf (by decide), z_leR hRl (by decide)⟩) hth (by decide) rfl rfl hl.1 rfl (Nat.le_of_ble_eq_true rfl) dX8_wordKind_60 ⟨Nat.zero_le _, Nat.zero_le _⟩ (fun r_21 F_22 H locs w_23 h hfF_22 => ?_)
          obtain ⟨rfl, br_21, -⟩ := w_23
          refine lv_if_eq (tgt := 69) hx hb dX8_wordKind_63 (by decide) (fun c_24 => ?_) (fun c_24 => ?_)
          · have c_24 := z_eq c_24
            have br_21_25 : zB 0 0 r_21 := zB.eqL (a := 0) (b := 0) c_24 (zBc 0 0 (by decide))
            refine lv_aload_n hx hb dX8_wordKind_69 rfl (lv_at hl 0 rfl) ?_
            refine lv_iload_n hx hb dX8_wordKind_70 rfl (lv_at hl 1 rfl) ?_
            refine lv_iload_n hx hb dX8_wordKind_71 rfl (lv_at hl 2 rfl) ?_
            refine va_ldcS hx hb hown (zsR_5 Z) dX8_wordKind_72 ?_
            refine zk_Vi (As := [.int i, .int wi, .ref (D.2 99 5)]) (rest := []) (bytes := cX8_spells) (maxL := 5) (ret := (some .boolean)) Z h (zc_X8_spells l D k Γ L F H.size th i wi 5 (RX8, 94, "while", 5) hth zs_5) (cwV 3 hg zv_RX8_82 rfl rfl rfl zd_X8_spells ⟨z_leR hRf (by decide), z_leR hRl (by decide)⟩) hth (by decide) rfl rfl hl.1 rfl (Nat.le_of_ble_eq_true rfl) dX8_wordKind_74 ⟨Nat.zero_le _, Nat.zero_le _⟩ (fun r_26 F_27 H locs w_28 h hfF_27 => ?_)
            obtain ⟨rfl, br_26, -⟩ := w_28
            refine lv_if_eq (tgt := 85) hx hb dX8_wordKind_77 (by decide) (fun c_29 => ?_) (fun c_29 => ?_)
            · have c_29 := z_eq c_29
              have br_26_30 : zB 0 0 r_26 := zB.eqL (a := 0) (b := 0) c_29 (zBc 0 0 (by decide))
              refine lv_iconst (v := 4) hx hb dX8_wordKind_85 (by decide) ?_
              subst hQ
              exact W.iret (v := 4) hx hb hr (fun t ht hW => ⟨⟨4, F, rfl, ⟨rfl, (zB.of ⟨by decide, by decide⟩), trivial⟩, by rw [ht]; exact h.1, h.2.1, zFr.rf⟩, h.2.2.F ht⟩) h.2.2.2.2 dX8_wordKind_86
            · have c_29 := z_ne c_29
              have br_26_31 : zB 1 1 r_26 := zB.neLo c_29 br_26 (zBc 0 0 (by decide)) (by decide)
              refine lv_bipush (v := 10) hx hb dX8_wordKind_80 (by decide) ?_
              refine lv_goto (tgt := 86) hx hb dX8_wordKind_82 (by decide) ?_
              subst hQ
              exact W.iret (v := 10) hx hb hr (fun t ht hW => ⟨⟨10, F, rfl, ⟨rfl, (zB.of ⟨by decide, by decide⟩), trivial⟩, by rw [ht]; exact h.1, h.2.1, zFr.rf⟩, h.2.2.F ht⟩) h.2.2.2.2 dX8_wordKind_86
          · have c_24 := z_ne c_24
            have br_21_32 : zB 1 1 r_21 := zB.neLo c_24 br_21 (zBc 0 0 (by decide)) (by decide)
            refine lv_bipush (v := 9) hx hb dX8_wordKind_66 (by decide) ?_
            subst hQ
            exact W.iret (v := 9) hx hb hr (fun t ht hW => ⟨⟨9, F, rfl, ⟨rfl, (zB.of ⟨by decide, by decide⟩), trivial⟩, by rw [ht]; exact h.1, h.2.1, zFr.rf⟩, h.2.2.F ht⟩) h.2.2.2.2 dX8_wordKind_68
        · have c_19 := z_ne c_19
          have br_16_33 : zB 1 1 r_16 := zB.neLo c_19 br_16 (zBc 0 0 (by decide)) (by decide)
          refine lv_bipush (v := 8) hx hb dX8_wordKind_52 (by decide) ?_
          subst hQ
          exact W.iret (v := 8) hx hb hr (fun t ht hW => ⟨⟨8, F, rfl, ⟨rfl, (zB.of ⟨by decide, by decide⟩), trivial⟩, by rw [ht]; exact h.1, h.2.1, zFr.rf⟩, h.2.2.F ht⟩) h.2.2.2.2 dX8_wordKind_54
      · have c_14 := z_ne c_14
        have br_11_34 : zB 1 1 r_11 := zB.neLo c_14 br_11 (zBc 0 0 (by decide)) (by decide)
        refine lv_bipush (v := 7) hx hb dX8_wordKind_38 (by decide) ?_
        subst hQ
        exact W.iret (v := 7) hx hb hr (fun t ht hW => ⟨⟨7, F, rfl, ⟨rfl, (zB.of ⟨by decide, by decide⟩), trivial⟩, by rw [ht]; exact h.1, h.2.1, zFr.rf⟩, h.2.2.F ht⟩) h.2.2.2.2 dX8_wordKind_40
    · have c_9 := z_ne c_9
      have br_6_35 : zB 1 1 r_6 := zB.neLo c_9 br_6 (zBc 0 0 (by decide)) (by decide)
      refine lv_bipush (v := 6) hx hb dX8_wordKind_24 (by decide) ?_
      subst hQ
      exact W.iret (v := 6) hx hb hr (fun t ht hW => ⟨⟨6, F, rfl, ⟨rfl, (zB.of ⟨by decide, by decide⟩), trivial⟩, by rw [ht]; exact h.1, h.2.1, zFr.rf⟩, h.2.2.F ht⟩) h.2.2.2.2 dX8_wordKind_26
  · have c_4 := z_ne c_4
    have br_1_36 : zB 1 1 r_1 := zB.neLo c_4 br_1 (zBc 0 0 (by decide)) (by decide)
    refine lv_iconst (v := 5) hx hb dX8_wordKind_11 (by decide) ?_
    subst hQ
    exact W.iret (v := 5) hx hb hr (fun t ht hW => ⟨⟨5, F, rfl, ⟨rfl, (zB.of ⟨by decide, by decide⟩), trivial⟩, by rw [ht]; exact h.1, h.2.1, zFr.rf⟩, h.2.2.F ht⟩) h.2.2.2.2 dX8_wordKind_12

set_option maxHeartbeats 4000000 in
set_option maxRecDepth 100000 in
theorem zc_X8_kindOf (l : Launch) (D : va_G) (k : Nat → ClassId) (Γ : Nat → Option Nat) (L : List Nat) (F : Nat → va_E) (sz : Nat) (th : Nat) (i : Int32) (wi : Int32) (hth : Γ th = some 8) : Met l yX8_kindOf zwX8_kindOf ({ frames := 6, cells := 0, slots := 0, locals := 131 }) (va_Pc [.ref th, .int i, .int wi] (zP D k Γ L F sz)) (va_Qi (fun (r : Int32) (u : Nat → va_E) => F = u ∧ True) (zQ D k Γ L F []) (zA L sz)) 0 0 (zA L sz) := by
  refine Met.ofW (cc := cX8_kindOf) (maxL := 3) (ret := (some .int)) (by decide) rfl ?_
  intro p e s m args below meth c s₁ B hml hv
  obtain ⟨rfl, hsz, hP, hK, hLn, hE, hI⟩ := hv
  have hx := B.exec
  have hb := B.bytes
  have hr := B.returns
  have hg : ∀ w ∈ zG, w.before _ s = true := fun w h9 => atoms_spec (ws := zwX8_kindOf) B.pre w (List.mem_cons_of_mem _ h9)
  have hown : s.vm.findClass RX8 = some m.cls := findClass_of_methodNamed B.named
  have hlocks := B.notSynchronized
  subst hsz
  have Z : zC p m c cX8_kindOf 3 s _ zG RX8 D k L := ⟨⟨hx, hb, hml, hown, hg⟩, hK, hLn, hE⟩
  have h : zH D k Γ L s F s.heap [] := ⟨hP, hI, va_S.rf⟩
  have hl := lv_entry ([.ref th, .int i, .int wi]) (n := 3) (Nat.le_of_ble_eq_true rfl)
  rw [lg_entry_eq]
  generalize (lg_sl ([.ref th, .int i, .int wi]) ++ List.replicate (3 - (lg_sl ([.ref th, .int i, .int wi])).length) Slot.unset).toArray = ls at hl ⊢
  have hl : lv_has ls 3 [(0, .ref th), (1, .int i), (2, .int wi)] := hl
  clear hP hK hLn hE hI
  generalize hargs : ([.ref th, .int i, .int wi] : List Value).toArray = args at *
  refine z_start (fun R Q hRf hRl hQ => ?_)
  have hRf : R.frames = 6 := hRf
  have hRl : R.locals = 131 := hRl
  refine lv_aload_n hx hb dX8_kindOf_0 rfl (lv_at hl 0 rfl) ?_
  refine lv_iload_n hx hb dX8_kindOf_1 rfl (lv_at hl 1 rfl) ?_
  refine zk_Vi (As := [.int i]) (rest := []) (bytes := cX8_isDigit) (maxL := 2) (ret := (some .boolean)) Z h (zc_X8_isDigit l D k Γ L F s.heap.size th i hth) (cwV 1 hg zv_RX8_71 rfl rfl rfl zd_X8_isDigit ⟨z_leR hRf (by decide), z_leR hRl (by decide)⟩) hth (by decide) rfl rfl hl.1 rfl (Nat.le_of_ble_eq_true rfl) dX8_kindOf_2 ⟨Nat.zero_le _, Nat.zero_le _⟩ (fun r_1 F_2 H locs w_3 h hfF_2 => ?_)
  obtain ⟨rfl, br_1, -⟩ := w_3
  refine lv_if_eq (tgt := 10) hx hb dX8_kindOf_5 (by decide) (fun c_4 => ?_) (fun c_4 => ?_)
  · have c_4 := z_eq c_4
    have br_1_5 : zB 0 0 r_1 := zB.eqL (a := 0) (b := 0) c_4 (zBc 0 0 (by decide))
    refine lv_aload_n hx hb dX8_kindOf_10 rfl (lv_at hl 0 rfl) ?_
    refine lv_iload_n hx hb dX8_kindOf_11 rfl (lv_at hl 1 rfl) ?_
    refine zk_Vi (As := [.int i]) (rest := []) (bytes := cX8_isLetter) (maxL := 2) (ret := (some .boolean)) Z h (zc_X8_isLetter l D k Γ L F H.size th i hth) (cwV 1 hg zv_RX8_68 rfl rfl rfl zd_X8_isLetter ⟨z_leR hRf (by decide), z_leR hRl (by decide)⟩) hth (by decide) rfl rfl hl.1 rfl (Nat.le_of_ble_eq_true rfl) dX8_kindOf_12 ⟨Nat.zero_le _, Nat.zero_le _⟩ (fun r_6 F_7 H locs w_8 h hfF_7 => ?_)
    obtain ⟨rfl, br_6, -⟩ := w_8
    refine lv_if_ne (tgt := 24) hx hb dX8_kindOf_15 (by decide) (fun c_9 => ?_) (fun c_9 => ?_)
    · have c_9 := z_ne c_9
      have br_6_10 : zB 1 1 r_6 := zB.neLo c_9 br_6 (zBc 0 0 (by decide)) (by decide)
      refine lv_iload_n hx hb dX8_kindOf_24 rfl (lv_at hl 2 rfl) ?_
      refine lv_iconst (v := 1) hx hb dX8_kindOf_25 (by decide) ?_
      refine lv_icmp_ne (tgt := 45) hx hb dX8_kindOf_26 (by decide) (fun c_11 => ?_) (fun c_11 => ?_)
      · have c_11 := z_ne c_11
        refine lv_aload_n hx hb dX8_kindOf_45 rfl (lv_at hl 0 rfl) ?_
        refine lv_iload_n hx hb dX8_kindOf_46 rfl (lv_at hl 1 rfl) ?_
        refine lv_iload_n hx hb dX8_kindOf_47 rfl (lv_at hl 2 rfl) ?_
        refine zk_Vi (As := [.int i, .int wi]) (rest := []) (bytes := cX8_wordKind) (maxL := 3) (ret := (some .int)) Z h (zc_X8_wordKind l D k Γ L F H.size th i wi hth) (cwV 2 hg zv_RX8_77 rfl rfl rfl zd_X8_wordKind ⟨z_leR hRf (by decide), z_leR hRl (by decide)⟩) hth (by decide) rfl rfl hl.1 rfl (Nat.le_of_ble_eq_true rfl) dX8_kindOf_48 ⟨Nat.zero_le _, Nat.zero_le _⟩ (fun r_12 F_13 H locs w_14 h hfF_13 => ?_)
        obtain ⟨rfl, br_12, -⟩ := w_14
        subst hQ
        exact W.iret (v := r_12) hx hb hr (fun t ht hW => ⟨⟨r_12, F, rfl, ⟨rfl, trivial⟩, by rw [ht]; exact h.1, h.2.1, zFr.rf⟩, h.2.2.F ht⟩) h.2.2.2.2 dX8_kindOf_51
      · have c_11 := z_eq c_11
        have bwi_15 : zB 1 1 wi := zB.eqL (a := 0) (b := 0) c_11 (zBc 1 1 (by decide))
        refine lv_aload_n hx hb dX8_kindOf_29 rfl (lv_at hl 0 rfl) ?_
        refine lv_iload_n hx hb dX8_kindOf_30 rfl (lv_at hl 1 rfl) ?_
        refine zk_Vi (As := [.int i]) (rest := []) (bytes := cX8_textAt) (maxL := 2) (ret := (some .int)) Z h (zc_X8_textAt l D k Γ L F H.size th i hth) (cwV 1 hg zv_RX8_62 rfl rfl rfl zd_X8_textAt ⟨z_leR hRf (by decide), z_leR hRl (by decide)⟩) hth (by decide) rfl rfl hl.1 rfl (Nat.le_of_ble_eq_true rfl) dX8_kindOf_31 ⟨Nat.zero_le _, Nat.zero_le _⟩ (fun r_16 F_17 H locs w_18 h hfF_17 => ?_)
        obtain ⟨rfl, br_16, -⟩ := w_18
        refine lv_bipush (v := 104) hx hb dX8_kindOf_34 (by decide) ?_
        refine lv_icmp_gt (tgt := 43) hx hb dX8_kindOf_36 (by decide) (fun c_19 => ?_) (fun c_19 => ?_)
        · have c_19 := z_lt c_19
          have br_16_20 : zB 105 127 r_16 := zB.ltR c_19 (zBc 104 104 (by decide)) br_16 (by decide)
          refine lv_iconst (v := 1) hx hb dX8_kindOf_43 (by decide) ?_
          subst hQ
          exact W.iret (v := 1) hx hb hr (fun t ht hW => ⟨⟨1, F, rfl, ⟨rfl, trivial⟩, by rw [ht]; exact h.1, h.2.1, zFr.rf⟩, h.2.2.F ht⟩) h.2.2.2.2 dX8_kindOf_44
        · have c_19 := z_nlt c_19
          have br_16_21 : zB (-128) 104 r_16 := zB.leL c_19 br_16 (zBc 104 104 (by decide)) (by decide)
          refine lv_iconst (v := 3) hx hb dX8_kindOf_39 (by decide) ?_
          refine lv_goto (tgt := 44) hx hb dX8_kindOf_40 (by decide) ?_
          subst hQ
          exact W.iret (v := 3) hx hb hr (fun t ht hW => ⟨⟨3, F, rfl, ⟨rfl, trivial⟩, by rw [ht]; exact h.1, h.2.1, zFr.rf⟩, h.2.2.F ht⟩) h.2.2.2.2 dX8_kindOf_44
    · have c_9 := z_eq c_9
      have br_6_22 : zB 0 0 r_6 := zB.eqL (a := 0) (b := 0) c_9 (zBc 0 0 (by decide))
      refine lv_aload_n hx hb dX8_kindOf_18 rfl (lv_at hl 0 rfl) ?_
      refine lv_iload_n hx hb dX8_kindOf_19 rfl (lv_at hl 1 rfl) ?_
      refine zk_Vi (As := [.int i]) (rest := []) (bytes := cX8_textAt) (maxL := 2) (ret := (some .int)) Z h (zc_X8_textAt l D k Γ L F H.size th i hth) (cwV 1 hg zv_RX8_62 rfl rfl rfl zd_X8_textAt ⟨z_leR hRf (by decide), z_leR hRl (by decide)⟩) hth (by decide) rfl rfl hl.1 rfl (Nat.le_of_ble_eq_true rfl) dX8_kindOf_20 ⟨Nat.zero_le _, Nat.zero_le _⟩ (fun r_23 F_24 H locs w_25 h hfF_24 => ?_)
      obtain ⟨rfl, br_23, -⟩ := w_25
      subst hQ
      exact W.iret (v := r_23) hx hb hr (fun t ht hW => ⟨⟨r_23, F, rfl, ⟨rfl, trivial⟩, by rw [ht]; exact h.1, h.2.1, zFr.rf⟩, h.2.2.F ht⟩) h.2.2.2.2 dX8_kindOf_23
  · have c_4 := z_ne c_4
    have br_1_26 : zB 1 1 r_1 := zB.neLo c_4 br_1 (zBc 0 0 (by decide)) (by decide)
    refine lv_iconst (v := 2) hx hb dX8_kindOf_8 (by decide) ?_
    subst hQ
    exact W.iret (v := 2) hx hb hr (fun t ht hW => ⟨⟨2, F, rfl, ⟨rfl, trivial⟩, by rw [ht]; exact h.1, h.2.1, zFr.rf⟩, h.2.2.F ht⟩) h.2.2.2.2 dX8_kindOf_9

set_option maxHeartbeats 4000000 in
set_option maxRecDepth 100000 in
theorem zc_X8_cut (l : Launch) (D : va_G) (k : Nat → ClassId) (Γ : Nat → Option Nat) (L : List Nat) (F : Nat → va_E) (sz : Nat) (th : Nat) (fr : Nat) (q : Int32) (hth : Γ th = some 8) (hfr : Γ fr = some 100) : Met l yX8_cut zwX8_cut ({ frames := 7, cells := 0, slots := 0, locals := 153 }) (va_Pc [.ref th, .ref fr, .int q] (zP D k Γ L F sz)) (va_Qv (fun (u : Nat → va_E) => True) (zQ D k Γ L F [801, 805, 10000, 10100]) (zA L sz)) 0 0 (zA L sz) := by
  refine Met.ofW (cc := cX8_cut) (maxL := 5) (ret := none) (by decide) rfl ?_
  intro p e s m args below meth c s₁ B hml hv
  obtain ⟨rfl, hsz, hP, hK, hLn, hE, hI⟩ := hv
  have hx := B.exec
  have hb := B.bytes
  have hr := B.returns
  have hg : ∀ w ∈ zG, w.before _ s = true := fun w h9 => atoms_spec (ws := zwX8_cut) B.pre w (List.mem_cons_of_mem _ h9)
  have hown : s.vm.findClass RX8 = some m.cls := findClass_of_methodNamed B.named
  have hlocks := B.notSynchronized
  subst hsz
  have Z : zC p m c cX8_cut 5 s _ zG RX8 D k L := ⟨⟨hx, hb, hml, hown, hg⟩, hK, hLn, hE⟩
  have h : zH D k Γ L s F s.heap [] := ⟨hP, hI, va_S.rf⟩
  have hl := lv_entry ([.ref th, .ref fr, .int q]) (n := 5) (Nat.le_of_ble_eq_true rfl)
  rw [lg_entry_eq]
  generalize (lg_sl ([.ref th, .ref fr, .int q]) ++ List.replicate (5 - (lg_sl ([.ref th, .ref fr, .int q])).length) Slot.unset).toArray = ls at hl ⊢
  have hl : lv_has ls 5 [(0, .ref th), (1, .ref fr), (2, .int q)] := hl
  clear hP hK hLn hE hI
  generalize hargs : ([.ref th, .ref fr, .int q] : List Value).toArray = args at *
  refine z_start (fun R Q hRf hRl hQ => ?_)
  have hRf : R.frames = 7 := hRf
  have hRl : R.locals = 153 := hRl
  refine lv_aload_n hx hb dX8_cut_0 rfl (lv_at hl 0 rfl) ?_
  refine lv_iconst (v := 0) hx hb dX8_cut_1 (by decide) ?_
  refine lv_iload_n hx hb dX8_cut_2 rfl (lv_at hl 2 rfl) ?_
  refine lv_aload_n hx hb dX8_cut_3 rfl (lv_at hl 1 rfl) ?_
  refine zt_alen (t := 100) Z h hfr ⟨by decide, rfl⟩ (by decide) (v := 600) rfl dX8_cut_4 ?_
  refine lv_aload_n hx hb dX8_cut_5 rfl (lv_at hl 0 rfl) ?_
  refine zt_getr (t := 8) (C := RX8) (T := TX8) (N := 6) Z h hth zin_8 rfl 0 rfl ⟨by decide, rfl⟩ (zm_RX8 (List.mem_of_getElem? (i := 12) rfl)) (fun _ h9 => h9) dX8_cut_6 (fun a_1 ka_1 ha_1 => ?_)
  refine zt_alen (t := 100) Z h ha_1 ⟨by decide, rfl⟩ (by decide) (v := 600) rfl dX8_cut_9 ?_
  refine va_mmin hx hb (by rw [hml]; exact hl.1.symm) hown (hg _ (zm_RX8 (List.mem_of_getElem? (i := 13) rfl))) (hg _ (zm_RX8 (List.mem_of_getElem? (i := 14) rfl))) (hg _ (zm_RX8 (List.mem_of_getElem? (i := 15) rfl))) (hg _ (zm_RX8 (List.mem_of_getElem? (i := 16) rfl))) (z_leR hRf (by decide)) (z_leR hRl (Nat.le_of_ble_eq_true rfl)) (Nat.zero_le _) (Nat.zero_le _) dX8_cut_10 ?_
  refine lv_topi (fun z_2 ez_2 => ?_)
  have ez_2 := ez_2.trans (show _ = (600 : Int32) by decide)
  subst ez_2
  refine va_mmin hx hb (by rw [hml]; exact hl.1.symm) hown (hg _ (zm_RX8 (List.mem_of_getElem? (i := 13) rfl))) (hg _ (zm_RX8 (List.mem_of_getElem? (i := 14) rfl))) (hg _ (zm_RX8 (List.mem_of_getElem? (i := 15) rfl))) (hg _ (zm_RX8 (List.mem_of_getElem? (i := 16) rfl))) (z_leR hRf (by decide)) (z_leR hRl (Nat.le_of_ble_eq_true rfl)) (Nat.zero_le _) (Nat.zero_le _) dX8_cut_13 ?_
  refine zi_min (lo := (-2147483648)) (hi := 600) (zB.all q) (zBc 600 600 (by decide)) (by decide) (fun x_3 bx_3 tx_3 => ?_)
  refine va_mmax hx hb (by rw [hml]; exact hl.1.symm) hown (hg _ (zm_RX8 (List.mem_of_getElem? (i := 17) rfl))) (hg _ (zm_RX8 (List.mem_of_getElem? (i := 18) rfl))) (hg _ (zm_RX8 (List.mem_of_getElem? (i := 15) rfl))) (hg _ (zm_RX8 (List.mem_of_getElem? (i := 19) rfl))) (z_leR hRf (by decide)) (z_leR hRl (Nat.le_of_ble_eq_true rfl)) (Nat.zero_le _) (Nat.zero_le _) dX8_cut_16 ?_
  refine zi_max (lo := 0) (hi := 600) (zBc 0 0 (by decide)) bx_3 (by decide) (fun x_4 bx_4 tx_4 => ?_)
  refine zt_put (t := 8) (C := RX8) (T := TX8) (N := 6) (v := .int x_4) Z h hth zin_8 tyX8 tyX8_ok nmX8 rfl 1 rfl ⟨by decide, rfl⟩ (zm_RX8 (List.mem_of_getElem? (i := 20) rfl)) (fun _ h9 => h9) rfl (zV.i bx_4) rfl rfl dX8_cut_19 (fun H locs F_5 h hfF_5 kF_5 => ?_)
  refine lv_aload_n hx hb dX8_cut_22 rfl (lv_at hl 1 rfl) ?_
  refine lv_iconst (v := 0) hx hb dX8_cut_23 (by decide) ?_
  refine lv_aload_n hx hb dX8_cut_24 rfl (lv_at hl 0 rfl) ?_
  refine zt_getk (t := 8) (C := RX8) (T := TX8) (N := 6) Z h hth zin_8 rfl 0 (hfF_5.f hth 0 ⟨by decide, by decide⟩ ka_1) ⟨by decide, rfl, by decide⟩ (zm_RX8 (List.mem_of_getElem? (i := 12) rfl)) (fun _ h9 => h9) dX8_cut_25 ?_
  refine lv_iconst (v := 0) hx hb dX8_cut_28 (by decide) ?_
  refine lv_aload_n hx hb dX8_cut_29 rfl (lv_at hl 0 rfl) ?_
  refine zt_getk (t := 8) (C := RX8) (T := TX8) (N := 6) Z h hth zin_8 rfl 1 kF_5 ⟨by decide, rfl, by decide⟩ (zm_RX8 (List.mem_of_getElem? (i := 20) rfl)) (fun _ h9 => h9) dX8_cut_30 ?_
  refine zt_copy (nn := 600) Z h hfr ha_1 ⟨by decide, rfl⟩ bx_4 (by rw [hml]; exact hl.1.symm) (hg _ (zm_RX8 (List.mem_of_getElem? (i := 21) rfl))) (hg _ (zm_RX8 (List.mem_of_getElem? (i := 23) rfl))) (hg _ (zm_RX8 (List.mem_of_getElem? (i := 22) rfl))) (hg _ (zm_RX8 (List.mem_of_getElem? (i := 24) rfl))) (z_leR hRf (by decide)) (z_leR hRl (by decide)) dX8_cut_33 (fun H locs F_6 h hfF_6 => ?_)
  refine lv_aload_n hx hb dX8_cut_36 rfl (lv_at hl 0 rfl) ?_
  refine lv_iconst (v := 0) hx hb dX8_cut_37 (by decide) ?_
  refine zt_put (t := 8) (C := RX8) (T := TX8) (N := 6) (v := .int 0) Z h hth zin_8 tyX8 tyX8_ok nmX8 rfl 5 rfl ⟨by decide, rfl⟩ (zm_RX8 (List.mem_of_getElem? (i := 25) rfl)) (fun _ h9 => h9) rfl (zV.i (zB.of ⟨by decide, by decide⟩)) rfl rfl dX8_cut_38 (fun H locs F_7 h hfF_7 kF_7 => ?_)
  refine lv_iconst (v := 0) hx hb dX8_cut_41 (by decide) ?_
  refine lv_istore_n (lv' := [(3, .int 0), (0, .ref th), (1, .ref fr), (2, .int q)]) hx hb dX8_cut_42 rfl hl (by decide) rfl (fun ls hl => ?_)
  have j_j43_8 : ∀ (n : Nat) (ls : Array Slot) (y3_j43_8 : Int32) (F_9 : Nat → va_E) (H : Heap) (locs : List Loc), lv_has ls 5 [(3, .int y3_j43_8), (0, .ref th)] → zB 0 607 y3_j43_8 → zH D k Γ L s F_9 H locs → zFr Γ [805, 10100] F_7 F_9 → (2147483647 - y3_j43_8.toInt).toNat = n → W p l e R s m args below meth c H locs 0 0 Q (F0 m 43 ls []) := by
    intro n
    induction n using Nat.strongRecOn with
    | _ n ih_j43_8 =>
      intro ls y3_j43_8 F_9 H locs hl by3_j43_8 h hfF_9 hn_j43_8
      refine lv_iload_n hx hb dX8_cut_43 rfl (lv_at hl 0 rfl) ?_
      refine lv_aload_n hx hb dX8_cut_44 rfl (lv_at hl 1 rfl) ?_
      refine zt_getk (t := 8) (C := RX8) (T := TX8) (N := 6) Z h hth zin_8 rfl 1 (hfF_9.f hth 1 ⟨by decide, by decide⟩ (hfF_7.f hth 1 ⟨by decide, by decide⟩ (hfF_6.f hth 1 ⟨by decide, by decide⟩ kF_5))) ⟨by decide, rfl, by decide⟩ (zm_RX8 (List.mem_of_getElem? (i := 20) rfl)) (fun _ h9 => h9) dX8_cut_45 ?_
      refine lv_icmp_ge (tgt := 123) hx hb dX8_cut_48 (by decide) (fun c_10 => ?_) (fun c_10 => ?_)
      · have c_10 := z_le c_10
        refine lv_aload_n hx hb dX8_cut_123 rfl (lv_at hl 1 rfl) ?_
        refine lv_iconst (v := 0) hx hb dX8_cut_124 (by decide) ?_
        refine lv_aload_n hx hb dX8_cut_125 rfl (lv_at hl 1 rfl) ?_
        refine zt_getk (t := 8) (C := RX8) (T := TX8) (N := 6) Z h hth zin_8 rfl 1 (hfF_9.f hth 1 ⟨by decide, by decide⟩ (hfF_7.f hth 1 ⟨by decide, by decide⟩ (hfF_6.f hth 1 ⟨by decide, by decide⟩ kF_5))) ⟨by decide, rfl, by decide⟩ (zm_RX8 (List.mem_of_getElem? (i := 20) rfl)) (fun _ h9 => h9) dX8_cut_126 ?_
        refine lv_iconst (v := 0) hx hb dX8_cut_129 (by decide) ?_
        refine zk_Vv (As := [.int 0, .int x_4, .int 0]) (rest := []) (bytes := cX8_add) (maxL := 4) (ret := none) Z h (zc_X8_add l D k Γ L F_9 H.size th 0 x_4 0 hth) (cwV 3 hg zv_RX8_51 rfl rfl rfl zd_X8_add ⟨z_leR hRf (by decide), z_leR hRl (by decide)⟩) hth (by decide) rfl rfl hl.1 rfl (Nat.le_of_ble_eq_true rfl) dX8_cut_130 ⟨Nat.zero_le _, Nat.zero_le _⟩ (fun F_11 H locs w_12 h hfF_11 => ?_)
        subst hQ
        exact W.vret hx hb hr (fun t ht hW => ⟨⟨F_11, rfl, trivial, by rw [ht]; exact h.1, h.2.1, (((((hfF_5.w (by decide)).trans hfF_6 (by decide)).trans hfF_7 (by decide)).trans hfF_9 (by decide)).trans hfF_11 (by decide))⟩, h.2.2.F ht⟩) h.2.2.2.2 dX8_cut_133
      · have c_10 := z_nle c_10
        have by3_j43_8_13 : zB 0 599 y3_j43_8 := zB.ltL c_10 by3_j43_8 bx_4 (by decide)
        have bx_4_14 : zB 1 600 x_4 := zB.ltR c_10 by3_j43_8 bx_4 (by decide)
        refine lv_aload_n hx hb dX8_cut_51 rfl (lv_at hl 1 rfl) ?_
        refine zt_getk (t := 8) (C := RX8) (T := TX8) (N := 6) Z h hth zin_8 rfl 0 (hfF_9.f hth 0 ⟨by decide, by decide⟩ (hfF_7.f hth 0 ⟨by decide, by decide⟩ (hfF_6.f hth 0 ⟨by decide, by decide⟩ (hfF_5.f hth 0 ⟨by decide, by decide⟩ ka_1)))) ⟨by decide, rfl, by decide⟩ (zm_RX8 (List.mem_of_getElem? (i := 12) rfl)) (fun _ h9 => h9) dX8_cut_52 ?_
        refine lv_iload_n hx hb dX8_cut_55 rfl (lv_at hl 0 rfl) ?_
        refine zt_bald (t := 100) Z h ha_1 ⟨by decide, rfl⟩ by3_j43_8_13 ⟨by decide, by decide⟩ dX8_cut_56 (fun x_15 bx_15 => ?_)
        refine lv_bipush (v := 32) hx hb dX8_cut_57 (by decide) ?_
        refine lv_icmp_eq (tgt := 117) hx hb dX8_cut_59 (by decide) (fun c_16 => ?_) (fun c_16 => ?_)
        · have c_16 := z_eq c_16
          have bx_15_17 : zB 32 32 x_15 := zB.eqL (a := 0) (b := 0) c_16 (zBc 32 32 (by decide))
          obtain ⟨x_18, ex_18, bx_18, tx_18⟩ := z_inc (n := 1) (lo := 1) (hi := 600) by3_j43_8_13 (by decide)
          refine lv_iinc (v := x_18) (lv' := [(3, .int x_18), (0, .ref th)]) hx hb dX8_cut_117 hl (k := 0) rfl ex_18 (by decide) rfl (fun ls hl => ?_)
          refine lv_goto (tgt := 43) hx hb dX8_cut_120 (by decide) ?_
          exact ih_j43_8 _ (by have := bx_18.1; have := bx_18.2; have := bx_4_14.1; have := bx_4_14.2; have : (32 : Int32).toInt = 32 := (by decide); have := by3_j43_8.1; have := by3_j43_8.2; omega) ls x_18 F_9 H locs (lv_sub hl [0, 1] rfl) (bx_18.w ⟨by decide, by decide⟩) h hfF_9 rfl
        · have c_16 := z_ne c_16
          refine lv_aload_n hx hb dX8_cut_62 rfl (lv_at hl 1 rfl) ?_
          refine zt_getk (t := 8) (C := RX8) (T := TX8) (N := 6) Z h hth zin_8 rfl 0 (hfF_9.f hth 0 ⟨by decide, by decide⟩ (hfF_7.f hth 0 ⟨by decide, by decide⟩ (hfF_6.f hth 0 ⟨by decide, by decide⟩ (hfF_5.f hth 0 ⟨by decide, by decide⟩ ka_1)))) ⟨by decide, rfl, by decide⟩ (zm_RX8 (List.mem_of_getElem? (i := 12) rfl)) (fun _ h9 => h9) dX8_cut_63 ?_
          refine lv_iload_n hx hb dX8_cut_66 rfl (lv_at hl 0 rfl) ?_
          refine zt_bald (t := 100) Z h ha_1 ⟨by decide, rfl⟩ by3_j43_8_13 ⟨by decide, by decide⟩ dX8_cut_67 (fun x_19 bx_19 => ?_)
          refine lv_bipush (v := 10) hx hb dX8_cut_68 (by decide) ?_
          refine lv_icmp_ne (tgt := 76) hx hb dX8_cut_70 (by decide) (fun c_20 => ?_) (fun c_20 => ?_)
          · have c_20 := z_ne c_20
            refine lv_aload_n hx hb dX8_cut_76 rfl (lv_at hl 1 rfl) ?_
            refine lv_iload_n hx hb dX8_cut_77 rfl (lv_at hl 0 rfl) ?_
            refine zk_Vi (As := [.int y3_j43_8]) (rest := []) (bytes := cX8_widthAt) (maxL := 3) (ret := (some .int)) Z h (zc_X8_widthAt l D k Γ L F_9 H.size th y3_j43_8 hth by3_j43_8_13) (cwV 1 hg zv_RX8_47 rfl rfl rfl zd_X8_widthAt ⟨z_leR hRf (by decide), z_leR hRl (by decide)⟩) hth (by decide) rfl rfl hl.1 rfl (Nat.le_of_ble_eq_true rfl) dX8_cut_78 ⟨Nat.zero_le _, Nat.zero_le _⟩ (fun r_21 F_22 H locs w_23 h hfF_22 => ?_)
            obtain ⟨rfl, br_21, -⟩ := w_23
            refine lv_istore (lv' := [(4, .int r_21), (3, .int y3_j43_8), (0, .ref th)]) hx hb dX8_cut_81 hl (by decide) rfl (fun ls hl => ?_)
            refine lv_iload hx hb dX8_cut_83 (lv_at hl 0 rfl) ?_
            refine lv_if_ne (tgt := 96) hx hb dX8_cut_85 (by decide) (fun c_24 => ?_) (fun c_24 => ?_)
            · have c_24 := z_ne c_24
              have br_21_25 : zB 1 8 r_21 := zB.neLo c_24 br_21 (zBc 0 0 (by decide)) (by decide)
              refine lv_aload_n hx hb dX8_cut_96 rfl (lv_at hl 2 rfl) ?_
              refine lv_aload_n hx hb dX8_cut_97 rfl (lv_at hl 2 rfl) ?_
              refine lv_iload_n hx hb dX8_cut_98 rfl (lv_at hl 1 rfl) ?_
              refine lv_iload hx hb dX8_cut_99 (lv_at hl 0 rfl) ?_
              refine zk_Vi (As := [.int y3_j43_8, .int r_21]) (rest := [.ref th]) (bytes := cX8_kindOf) (maxL := 3) (ret := (some .int)) Z h (zc_X8_kindOf l D k Γ L F_9 H.size th y3_j43_8 r_21 hth) (cwV 2 hg zv_RX8_55 rfl rfl rfl zd_X8_kindOf ⟨z_leR hRf (by decide), z_leR hRl (by decide)⟩) hth (by decide) rfl rfl hl.1 rfl (Nat.le_of_ble_eq_true rfl) dX8_cut_101 ⟨Nat.zero_le _, Nat.zero_le _⟩ (fun r_26 F_27 H locs w_28 h hfF_27 => ?_)
              obtain ⟨rfl, -⟩ := w_28
              have br_26 := zB.all r_26
              refine lv_iload_n hx hb dX8_cut_104 rfl (lv_at hl 1 rfl) ?_
              refine lv_iload hx hb dX8_cut_105 (lv_at hl 0 rfl) ?_
              refine zk_Vv (As := [.int r_26, .int y3_j43_8, .int r_21]) (rest := []) (bytes := cX8_add) (maxL := 4) (ret := none) Z h (zc_X8_add l D k Γ L F_9 H.size th r_26 y3_j43_8 r_21 hth) (cwV 3 hg zv_RX8_51 rfl rfl rfl zd_X8_add ⟨z_leR hRf (by decide), z_leR hRl (by decide)⟩) hth (by decide) rfl rfl hl.1 rfl (Nat.le_of_ble_eq_true rfl) dX8_cut_107 ⟨Nat.zero_le _, Nat.zero_le _⟩ (fun F_29 H locs w_30 h hfF_29 => ?_)
              refine lv_iload_n hx hb dX8_cut_110 rfl (lv_at hl 1 rfl) ?_
              refine lv_iload hx hb dX8_cut_111 (lv_at hl 0 rfl) ?_
              refine lv_iconst (v := 1) hx hb dX8_cut_113 (by decide) ?_
              refine lv_isub hx hb dX8_cut_114 ?_
              refine zi_sub (lo := 0) (hi := 7) br_21_25 (zBc 1 1 (by decide)) (by decide) (fun x_31 bx_31 tx_31 => ?_)
              refine lv_iadd hx hb dX8_cut_115 ?_
              refine zi_add (lo := 0) (hi := 606) by3_j43_8_13 bx_31 (by decide) (fun x_32 bx_32 tx_32 => ?_)
              refine lv_istore_n (lv' := [(3, .int x_32), (4, .int r_21), (0, .ref th)]) hx hb dX8_cut_116 rfl hl (by decide) rfl (fun ls hl => ?_)
              obtain ⟨x_33, ex_33, bx_33, tx_33⟩ := z_inc (n := 1) (lo := 1) (hi := 607) bx_32 (by decide)
              refine lv_iinc (v := x_33) (lv' := [(3, .int x_33), (4, .int r_21), (0, .ref th)]) hx hb dX8_cut_117 hl (k := 0) rfl ex_33 (by decide) rfl (fun ls hl => ?_)
              refine lv_goto (tgt := 43) hx hb dX8_cut_120 (by decide) ?_
              exact ih_j43_8 _ (by have := bx_33.1; have := bx_33.2; have := br_21_25.1; have := br_21_25.2; have := bx_4_14.1; have := bx_4_14.2; have : (0 : Int32).toInt = 0 := (by decide); have : (1 : Int32).toInt = 1 := (by decide); have : (10 : Int32).toInt = 10 := (by decide); have : (32 : Int32).toInt = 32 := (by decide); have := by3_j43_8.1; have := by3_j43_8.2; omega) ls x_33 F_29 H locs (lv_sub hl [0, 2] rfl) (bx_33.w ⟨by decide, by decide⟩) h (hfF_9.trans hfF_29 (by decide)) rfl
            · have c_24 := z_eq c_24
              have br_21_34 : zB 0 0 r_21 := zB.eqL (a := 0) (b := 0) c_24 (zBc 0 0 (by decide))
              refine lv_aload_n hx hb dX8_cut_88 rfl (lv_at hl 2 rfl) ?_
              refine lv_iconst (v := 1) hx hb dX8_cut_89 (by decide) ?_
              refine lv_iload_n hx hb dX8_cut_90 rfl (lv_at hl 1 rfl) ?_
              refine lv_iconst (v := 0) hx hb dX8_cut_91 (by decide) ?_
              refine zk_Vv (As := [.int 1, .int y3_j43_8, .int 0]) (rest := []) (bytes := cX8_add) (maxL := 4) (ret := none) Z h (zc_X8_add l D k Γ L F_9 H.size th 1 y3_j43_8 0 hth) (cwV 3 hg zv_RX8_51 rfl rfl rfl zd_X8_add ⟨z_leR hRf (by decide), z_leR hRl (by decide)⟩) hth (by decide) rfl rfl hl.1 rfl (Nat.le_of_ble_eq_true rfl) dX8_cut_92 ⟨Nat.zero_le _, Nat.zero_le _⟩ (fun F_35 H locs w_36 h hfF_35 => ?_)
              subst hQ
              exact W.vret hx hb hr (fun t ht hW => ⟨⟨F_35, rfl, trivial, by rw [ht]; exact h.1, h.2.1, (((((hfF_5.w (by decide)).trans hfF_6 (by decide)).trans hfF_7 (by decide)).trans hfF_9 (by decide)).trans hfF_35 (by decide))⟩, h.2.2.F ht⟩) h.2.2.2.2 dX8_cut_95
          · have c_20 := z_eq c_20
            have bx_19_37 : zB 10 10 x_19 := zB.eqL (a := 0) (b := 0) c_20 (zBc 10 10 (by decide))
            refine lv_goto (tgt := 117) hx hb dX8_cut_73 (by decide) ?_
            obtain ⟨x_38, ex_38, bx_38, tx_38⟩ := z_inc (n := 1) (lo := 1) (hi := 600) by3_j43_8_13 (by decide)
            refine lv_iinc (v := x_38) (lv' := [(3, .int x_38), (0, .ref th)]) hx hb dX8_cut_117 hl (k := 0) rfl ex_38 (by decide) rfl (fun ls hl => ?_)
            refine lv_goto (tgt := 43) hx hb dX8_cut_120 (by decide) ?_
            exact ih_j43_8 _ (by have := bx_38.1; have := bx_38.2; have := bx_4_14.1; have := bx_4_14.2; have : (10 : Int32).toInt = 10 := (by decide); have : (32 : Int32).toInt = 32 := (by decide); have := by3_j43_8.1; have := by3_j43_8.2; omega) ls x_38 F_9 H locs (lv_sub hl [0, 1] rfl) (bx_38.w ⟨by decide, by decide⟩) h hfF_9 rfl
  exact j_j43_8 _ ls 0 F_7 H locs (lv_sub hl [0, 1] rfl) (zB.of ⟨by decide, by decide⟩) h zFr.rf rfl
