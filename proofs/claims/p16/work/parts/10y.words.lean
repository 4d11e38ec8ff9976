set_option maxHeartbeats 4000000 in
set_option maxRecDepth 100000 in
theorem ze_X8_spells (l : Launch) (D : va_G) (k : Nat → ClassId) (Γ : Nat → Option Nat) (L : List Nat) (F : Nat → va_E) (sz : Nat) (tk : Nat) (i : Int32) (wi : Int32) (si : Nat) (qs : String × Nat × String × Nat) (Bt : Nat → Int32) (nt : Nat) (htk : Γ tk = some 8) (bi : zB 0 600 i) (bwi : zB 0 8 wi) (hsi : zStrs[si]? = some qs) (p_tx : zTx Γ F tk Bt nt) (hr0 : ∀ j : Nat, j < wi.toInt.toNat → 97 ≤ zby Bt nt (i.toInt + j) ∧ zby Bt nt (i.toInt + j) ≤ 122) : Met l yX8_spells zwX8_spells ({ frames := 4, cells := 0, slots := 0, locals := 85 }) (va_Pc [.ref tk, .int i, .int wi, .ref (D.2 99 si)] (zP D k Γ L F sz)) (va_Qi (fun (r : Int32) (u : Nat → va_E) => F = u ∧ zB 0 1 r ∧ ((r.toInt = 1 ∧ zwI (zby Bt nt) i.toInt wi.toInt.toNat = zws si) ∨ (r.toInt = 0 ∧ zwI (zby Bt nt) i.toInt wi.toInt.toNat ≠ zws si)) ∧ True) (zQ D k Γ L F []) (zA L sz)) 0 0 (zA L sz) := by
  refine Met.ofW (cc := cX8_spells) (maxL := 5) (ret := (some .boolean)) (by decide) rfl ?_
  intro p e s m args below meth c s₁ B hml hv
  obtain ⟨rfl, hsz, hP, hK, hLn, hE, hI⟩ := hv
  have hx := B.exec
  have hb := B.bytes
  have hr := B.returns
  have hg : ∀ w ∈ zG, w.before _ s = true := fun w h9 => atoms_spec (ws := zwX8_spells) B.pre w (List.mem_cons_of_mem _ h9)
  have hown : s.vm.findClass RX8 = some m.cls := findClass_of_methodNamed B.named
  have hlocks := B.notSynchronized
  subst hsz
  have Z : zC p m c cX8_spells 5 s _ zG RX8 D k L := ⟨⟨hx, hb, hml, hown, hg⟩, hK, hLn, hE⟩
  have h : zH D k Γ L s F s.heap [] := ⟨hP, hI, va_S.rf⟩
  have hl := lv_entry ([.ref tk, .int i, .int wi, .ref (D.2 99 si)]) (n := 5) (Nat.le_of_ble_eq_true rfl)
  rw [lg_entry_eq]
  generalize (lg_sl ([.ref tk, .int i, .int wi, .ref (D.2 99 si)]) ++ List.replicate (5 - (lg_sl ([.ref tk, .int i, .int wi, .ref (D.2 99 si)])).length) Slot.unset).toArray = ls at hl ⊢
  have hl : lv_has ls 5 [(0, .ref tk), (1, .int i), (2, .int wi), (3, .ref (D.2 99 si))] := hl
  clear hP hK hLn hE hI
  generalize hargs : ([.ref tk, .int i, .int wi, .ref (D.2 99 si)] : List Value).toArray = args at *
  refine z_start (fun R Q hRf hRl hQ => ?_)
  have hRf : R.frames = 4 := hRf
  have hRl : R.locals = 85 := hRl
  have h9 := h
  refine lv_iload_n hx hb dX8_spells_0 rfl (lv_at hl 2 rfl) ?_
  refine lv_aload_n hx hb dX8_spells_1 rfl (lv_at hl 3 rfl) ?_
  refine zk_Wi (As := []) (rest := [.int wi]) (bytes := cJ0_length_8abf5) (maxL := 1) (ret := (some .int)) Z h (zc_J0_length_8abf5 l D k Γ L F s.heap.size si qs hsi) (cwV 0 hg zv_RX8_96 rfl rfl rfl zd_J0_length_8abf5 ⟨z_leR hRf (by decide), z_leR hRl (by decide)⟩) (zE_recv Z h hsi) rfl hl.1 rfl (Nat.le_of_ble_eq_true rfl) dX8_spells_2 ⟨Nat.zero_le _, Nat.zero_le _⟩ (fun r_1 F_2 H locs w_3 h hfF_2 => ?_)
  obtain ⟨rfl, br_1, q_4, -⟩ := w_3
  refine lv_icmp_eq (tgt := 10) hx hb dX8_spells_5 (by decide) (fun c_5 => ?_) (fun c_5 => ?_)
  · have c_5 := z_eq c_5
    have bwi_6 : zB 0 6 wi := zB.eqL (a := 0) (b := 0) c_5 br_1
    refine lv_iconst (v := 0) hx hb dX8_spells_10 (by decide) ?_
    refine lv_istore (lv' := [(4, .int 0), (0, .ref tk), (1, .int i), (2, .int wi), (3, .ref (D.2 99 si))]) hx hb dX8_spells_11 hl (by decide) rfl (fun ls hl => ?_)
    have j_j13_7 : ∀ (n : Nat) (ls : Array Slot) (y4_j13_7 : Int32) (H : Heap) (locs : List Loc), lv_has ls 5 [(4, .int y4_j13_7), (0, .ref tk), (1, .int i), (2, .int wi), (3, .ref (D.2 99 si))] → zB 0 8 y4_j13_7 → zH D k Γ L s F H locs → (y4_j13_7.toInt ≤ wi.toInt) → (∀ q : Nat, (q : Int) < y4_j13_7.toInt → zby Bt nt (i.toInt + q) = ((zByt.getD si []).getD q 0).toInt) → (8 - y4_j13_7.toInt).toNat = n → W p l e R s m args below meth c H locs 0 0 Q (F0 m 13 ls []) := by
      intro n
      induction n using Nat.strongRecOn with
      | _ n ih_j13_7 =>
        intro ls y4_j13_7 H locs hl by4_j13_7 h r0_j13_7 r1_j13_7 hn_j13_7
        refine lv_iload hx hb dX8_spells_13 (lv_at hl 0 rfl) ?_
        refine lv_iload_n hx hb dX8_spells_15 rfl (lv_at hl 3 rfl) ?_
        refine lv_icmp_ge (tgt := 44) hx hb dX8_spells_16 (by decide) (fun c_8 => ?_) (fun c_8 => ?_)
        · have c_8 := z_le c_8
          refine lv_iconst (v := 1) hx hb dX8_spells_44 (by decide) ?_
          subst hQ
          exact W.zret (v := 1) hx hb hr (by decide) (fun t ht hW => ⟨⟨1, F, rfl, ⟨rfl, (zB.of ⟨by decide, by decide⟩), (Or.inl ⟨by decide, zsp_eq (by rw [zByt_len hsi]; have := by4_j13_7.1; have := by4_j13_7.2; have := bi.1; have := bi.2; have := bwi_6.1; have := bwi_6.2; have : (1 : Int32).toInt = 1 := (by decide); omega) (fun q hq => r1_j13_7 q (by have := by4_j13_7.1; have := by4_j13_7.2; have := bi.1; have := bi.2; have := bwi_6.1; have := bwi_6.2; have : (1 : Int32).toInt = 1 := (by decide); omega))⟩), trivial⟩, by rw [ht]; exact h.1, h.2.1, zFr.rf⟩, h.2.2.F ht⟩) h.2.2.2.2 dX8_spells_45
        · have c_8 := z_nle c_8
          have by4_j13_7_9 : zB 0 5 y4_j13_7 := zB.ltL c_8 by4_j13_7 bwi_6 (by decide)
          have bwi_10 : zB 1 6 wi := zB.ltR c_8 by4_j13_7 bwi_6 (by decide)
          refine lv_aload_n hx hb dX8_spells_19 rfl (lv_at hl 1 rfl) ?_
          refine lv_iload_n hx hb dX8_spells_20 rfl (lv_at hl 2 rfl) ?_
          refine lv_iload hx hb dX8_spells_21 (lv_at hl 0 rfl) ?_
          refine lv_iadd hx hb dX8_spells_23 ?_
          refine zi_add (lo := 0) (hi := 605) bi by4_j13_7_9 (by decide) (fun x_11 bx_11 tx_11 => ?_)
          refine zk_Vi (As := [.int x_11]) (rest := []) (bytes := cX8_textAt) (maxL := 2) (ret := (some .int)) Z h (ze_X8_textAt l D k Γ L F H.size tk x_11 Bt nt htk p_tx) (cwV 1 hg zv_RX8_62 rfl rfl rfl zd_X8_textAt ⟨z_leR hRf (by decide), z_leR hRl (by decide)⟩) htk (by decide) rfl rfl hl.1 rfl (Nat.le_of_ble_eq_true rfl) dX8_spells_24 ⟨Nat.zero_le _, Nat.zero_le _⟩ (fun r_12 F_13 H locs w_14 h hfF_13 => ?_)
          obtain ⟨rfl, br_12, q_15, -⟩ := w_14
          refine lv_aload_n hx hb dX8_spells_27 rfl (lv_at hl 4 rfl) ?_
          refine lv_iload hx hb dX8_spells_28 (lv_at hl 0 rfl) ?_
          refine zk_Wi (As := [.int y4_j13_7]) (rest := [.int r_12]) (bytes := cJ0_charAt_5068e) (maxL := 2) (ret := (some .char)) Z h (zc_J0_charAt_5068e l D k Γ L F H.size si qs y4_j13_7 hsi (by have := by4_j13_7_9.1; have := by4_j13_7_9.2; have := bi.1; have := bi.2; have := bwi_10.1; have := bwi_10.2; have := br_12.1; have := br_12.2; omega)) (cwV 1 hg zv_RX8_101 rfl rfl rfl zd_J0_charAt_5068e ⟨z_leR hRf (by decide), z_leR hRl (by decide)⟩) (zE_recv Z h hsi) rfl hl.1 rfl (Nat.le_of_ble_eq_true rfl) dX8_spells_30 ⟨Nat.zero_le _, Nat.zero_le _⟩ (fun r_16 F_17 H locs w_18 h hfF_17 => ?_)
          obtain ⟨rfl, q_19, q_20, -⟩ := w_18
          have br_16 := zB.all r_16
          refine lv_icmp_eq (tgt := 38) hx hb dX8_spells_33 (by decide) (fun c_21 => ?_) (fun c_21 => ?_)
          · have c_21 := z_eq c_21
            have br_16_22 : zB (-128) 127 r_16 := zB.eqR (c := 0) (d := 0) c_21 br_12
            obtain ⟨x_23, ex_23, bx_23, tx_23⟩ := z_inc (n := 1) (lo := 1) (hi := 6) by4_j13_7_9 (by decide)
            refine lv_iinc (v := x_23) (lv' := [(4, .int x_23), (0, .ref tk), (1, .int i), (2, .int wi), (3, .ref (D.2 99 si))]) hx hb dX8_spells_38 hl (k := 0) rfl ex_23 (by decide) rfl (fun ls hl => ?_)
            refine lv_goto (tgt := 13) hx hb dX8_spells_41 (by decide) ?_
            exact ih_j13_7 _ (by have := bx_23.1; have := bx_23.2; have := bi.1; have := bi.2; have := bwi_10.1; have := bwi_10.2; have := by4_j13_7.1; have := by4_j13_7.2; omega) ls x_23 H locs (lv_sub hl [0, 1, 2, 3, 4] rfl) (bx_23.w ⟨by decide, by decide⟩) h (by have := bx_23.1; have := bx_23.2; have := bi.1; have := bi.2; have := bwi_10.1; have := bwi_10.2; omega) (fun q hq => if h8 : (q : Int) < y4_j13_7.toInt then r1_j13_7 q h8 else (by have h7 := q_15; rw [show (x_11.toInt : Int) = i.toInt + (q : Int) by have := bx_23.1; have := bx_23.2; have := bi.1; have := bi.2; have := bwi_10.1; have := bwi_10.2; have := bx_11.1; have := bx_11.2; have := by4_j13_7_9.1; have := by4_j13_7_9.2; omega] at h7; rw [← h7, show q = y4_j13_7.toInt.toNat by have := bx_23.1; have := bx_23.2; have := bi.1; have := bi.2; have := bwi_10.1; have := bwi_10.2; have := bx_11.1; have := bx_11.2; have := by4_j13_7_9.1; have := by4_j13_7_9.2; omega, ← zch_get si (x := y4_j13_7) (by have := bx_23.1; have := bx_23.2; have := bi.1; have := bi.2; have := bwi_10.1; have := bwi_10.2; have := bx_11.1; have := bx_11.2; have := by4_j13_7_9.1; have := by4_j13_7_9.2; omega), ← q_20]; have := bx_23.1; have := bx_23.2; have := bi.1; have := bi.2; have := bwi_10.1; have := bwi_10.2; have := bx_11.1; have := bx_11.2; have := by4_j13_7_9.1; have := by4_j13_7_9.2; omega)) rfl
          · have c_21 := z_ne c_21
            refine lv_iconst (v := 0) hx hb dX8_spells_36 (by decide) ?_
            subst hQ
            exact W.zret (v := 0) hx hb hr (by decide) (fun t ht hW => ⟨⟨0, F, rfl, ⟨rfl, (zB.of ⟨by decide, by decide⟩), (Or.inr ⟨by decide, zsp_ne (q := y4_j13_7.toInt.toNat) hr0 (by have := by4_j13_7_9.1; have := by4_j13_7_9.2; have := bi.1; have := bi.2; have := bwi_10.1; have := bwi_10.2; have : (0 : Int32).toInt = 0 := (by decide); omega) (by have h7 := q_15; rw [show (x_11.toInt : Int) = i.toInt + (y4_j13_7.toInt.toNat : Int) by have := by4_j13_7_9.1; have := by4_j13_7_9.2; have := bi.1; have := bi.2; have := bwi_10.1; have := bwi_10.2; have := bx_11.1; have := bx_11.2; have : (0 : Int32).toInt = 0 := (by decide); omega] at h7; rw [← h7, ← zch_get si (x := y4_j13_7) (by have := by4_j13_7_9.1; have := by4_j13_7_9.2; have := bi.1; have := bi.2; have := bwi_10.1; have := bwi_10.2; have : (0 : Int32).toInt = 0 := (by decide); omega), ← q_20]; have := by4_j13_7_9.1; have := by4_j13_7_9.2; have := bi.1; have := bi.2; have := bwi_10.1; have := bwi_10.2; have : (0 : Int32).toInt = 0 := (by decide); omega)⟩), trivial⟩, by rw [ht]; exact h.1, h.2.1, zFr.rf⟩, h.2.2.F ht⟩) h.2.2.2.2 dX8_spells_37
    exact j_j13_7 _ ls 0 H locs (lv_sub hl [0, 1, 2, 3, 4] rfl) (zB.of ⟨by decide, by decide⟩) h (by have := bi.1; have := bi.2; have := bwi_6.1; have := bwi_6.2; have : (0 : Int32).toInt = 0 := (by decide); omega) (fun q hq => by exfalso; have : (0 : Int32).toInt = 0 := (by decide); omega) rfl
  · have c_5 := z_ne c_5
    refine lv_iconst (v := 0) hx hb dX8_spells_8 (by decide) ?_
    subst hQ
    exact W.zret (v := 0) hx hb hr (by decide) (fun t ht hW => ⟨⟨0, F, rfl, ⟨rfl, (zB.of ⟨by decide, by decide⟩), (Or.inr ⟨by decide, zsp_len hr0 (by rw [zByt_len hsi]; have := bi.1; have := bi.2; have := bwi.1; have := bwi.2; have : (0 : Int32).toInt = 0 := (by decide); omega)⟩), trivial⟩, by rw [ht]; exact h.1, h.2.1, zFr.rf⟩, h.2.2.F ht⟩) h.2.2.2.2 dX8_spells_9

set_option maxHeartbeats 4000000 in
set_option maxRecDepth 100000 in
theorem ze_X8_wordKind (l : Launch) (D : va_G) (k : Nat → ClassId) (Γ : Nat → Option Nat) (L : List Nat) (F : Nat → va_E) (sz : Nat) (tk : Nat) (i : Int32) (wi : Int32) (Bt : Nat → Int32) (nt : Nat) (htk : Γ tk = some 8) (bi : zB 0 599 i) (bwi : zB 2 8 wi) (p_tx : zTx Γ F tk Bt nt) (hr0 : ∀ j : Nat, j < wi.toInt.toNat → 97 ≤ zby Bt nt (i.toInt + j) ∧ zby Bt nt (i.toInt + j) ≤ 122) : Met l yX8_wordKind zwX8_wordKind ({ frames := 5, cells := 0, slots := 0, locals := 109 }) (va_Pc [.ref tk, .int i, .int wi] (zP D k Γ L F sz)) (va_Qi (fun (r : Int32) (u : Nat → va_E) => F = u ∧ zB 4 10 r ∧ r.toInt = zwk (zwI (zby Bt nt) i.toInt wi.toInt.toNat) ∧ True) (zQ D k Γ L F []) (zA L sz)) 0 0 (zA L sz) := by
  refine Met.ofW (cc := cX8_wordKind) (maxL := 3) (ret := (some .int)) (by decide) rfl ?_
  intro p e s m args below meth c s₁ B hml hv
  obtain ⟨rfl, hsz, hP, hK, hLn, hE, hI⟩ := hv
  have hx := B.exec
  have hb := B.bytes
  have hr := B.returns
  have hg : ∀ w ∈ zG, w.before _ s = true := fun w h9 => atoms_spec (ws := zwX8_wordKind) B.pre w (List.mem_cons_of_mem _ h9)
  have hown : s.vm.findClass RX8 = some m.cls := findClass_of_methodNamed B.named
  have hlocks := B.notSynchronized
  subst hsz
  have Z : zC p m c cX8_wordKind 3 s _ zG RX8 D k L := ⟨⟨hx, hb, hml, hown, hg⟩, hK, hLn, hE⟩
  have h : zH D k Γ L s F s.heap [] := ⟨hP, hI, va_S.rf⟩
  have hl := lv_entry ([.ref tk, .int i, .int wi]) (n := 3) (Nat.le_of_ble_eq_true rfl)
  rw [lg_entry_eq]
  generalize (lg_sl ([.ref tk, .int i, .int wi]) ++ List.replicate (3 - (lg_sl ([.ref tk, .int i, .int wi])).length) Slot.unset).toArray = ls at hl ⊢
  have hl : lv_has ls 3 [(0, .ref tk), (1, .int i), (2, .int wi)] := hl
  clear hP hK hLn hE hI
  generalize hargs : ([.ref tk, .int i, .int wi] : List Value).toArray = args at *
  refine z_start (fun R Q hRf hRl hQ => ?_)
  have hRf : R.frames = 5 := hRf
  have hRl : R.locals = 109 := hRl
  have h9 := h
  refine lv_aload_n hx hb dX8_wordKind_0 rfl (lv_at hl 0 rfl) ?_
  refine lv_iload_n hx hb dX8_wordKind_1 rfl (lv_at hl 1 rfl) ?_
  refine lv_iload_n hx hb dX8_wordKind_2 rfl (lv_at hl 2 rfl) ?_
  refine va_ldcS hx hb hown (zsR_0 Z) dX8_wordKind_3 ?_
  refine zk_Vi (As := [.int i, .int wi, .ref (D.2 99 0)]) (rest := []) (bytes := cX8_spells) (maxL := 5) (ret := (some .boolean)) Z h (ze_X8_spells l D k Γ L F s.heap.size tk i wi 0 (RX8, 80, "def", 3) Bt nt htk (bi.w ⟨by decide, by decide⟩) (bwi.w ⟨by decide, by decide⟩) zs_0 p_tx hr0) (cwV 3 hg zv_RX8_82 rfl rfl rfl zd_X8_spells ⟨z_leR hRf (by decide), z_leR hRl (by decide)⟩) htk (by decide) rfl rfl hl.1 rfl (Nat.le_of_ble_eq_true rfl) dX8_wordKind_5 ⟨Nat.zero_le _, Nat.zero_le _⟩ (fun r_1 F_2 H locs w_3 h hfF_2 => ?_)
  obtain ⟨rfl, br_1, q_4, -⟩ := w_3
  refine lv_if_eq (tgt := 13) hx hb dX8_wordKind_8 (by decide) (fun c_5 => ?_) (fun c_5 => ?_)
  · have c_5 := z_eq c_5
    have br_1_6 : zB 0 0 r_1 := zB.eqL (a := 0) (b := 0) c_5 (zBc 0 0 (by decide))
    refine lv_aload_n hx hb dX8_wordKind_13 rfl (lv_at hl 0 rfl) ?_
    refine lv_iload_n hx hb dX8_wordKind_14 rfl (lv_at hl 1 rfl) ?_
    refine lv_iload_n hx hb dX8_wordKind_15 rfl (lv_at hl 2 rfl) ?_
    refine va_ldcS hx hb hown (zsR_1 Z) dX8_wordKind_16 ?_
    refine zk_Vi (As := [.int i, .int wi, .ref (D.2 99 1)]) (rest := []) (bytes := cX8_spells) (maxL := 5) (ret := (some .boolean)) Z h (ze_X8_spells l D k Γ L F H.size tk i wi 1 (RX8, 86, "say", 3) Bt nt htk (bi.w ⟨by decide, by decide⟩) (bwi.w ⟨by decide, by decide⟩) zs_1 p_tx hr0) (cwV 3 hg zv_RX8_82 rfl rfl rfl zd_X8_spells ⟨z_leR hRf (by decide), z_leR hRl (by decide)⟩) htk (by decide) rfl rfl hl.1 rfl (Nat.le_of_ble_eq_true rfl) dX8_wordKind_18 ⟨Nat.zero_le _, Nat.zero_le _⟩ (fun r_7 F_8 H locs w_9 h hfF_8 => ?_)
    obtain ⟨rfl, br_7, q_10, -⟩ := w_9
    refine lv_if_eq (tgt := 27) hx hb dX8_wordKind_21 (by decide) (fun c_11 => ?_) (fun c_11 => ?_)
    · have c_11 := z_eq c_11
      have br_7_12 : zB 0 0 r_7 := zB.eqL (a := 0) (b := 0) c_11 (zBc 0 0 (by decide))
      refine lv_aload_n hx hb dX8_wordKind_27 rfl (lv_at hl 0 rfl) ?_
      refine lv_iload_n hx hb dX8_wordKind_28 rfl (lv_at hl 1 rfl) ?_
      refine lv_iload_n hx hb dX8_wordKind_29 rfl (lv_at hl 2 rfl) ?_
      refine va_ldcS hx hb hown (zsR_2 Z) dX8_wordKind_30 ?_
      refine zk_Vi (As := [.int i, .int wi, .ref (D.2 99 2)]) (rest := []) (bytes := cX8_spells) (maxL := 5) (ret := (some .boolean)) Z h (ze_X8_spells l D k Γ L F H.size tk i wi 2 (RX8, 88, "return", 6) Bt nt htk (bi.w ⟨by decide, by decide⟩) (bwi.w ⟨by decide, by decide⟩) zs_2 p_tx hr0) (cwV 3 hg zv_RX8_82 rfl rfl rfl zd_X8_spells ⟨z_leR hRf (by decide), z_leR hRl (by decide)⟩) htk (by decide) rfl rfl hl.1 rfl (Nat.le_of_ble_eq_true rfl) dX8_wordKind_32 ⟨Nat.zero_le _, Nat.zero_le _⟩ (fun r_13 F_14 H locs w_15 h hfF_14 => ?_)
      obtain ⟨rfl, br_13, q_16, -⟩ := w_15
      refine lv_if_eq (tgt := 41) hx hb dX8_wordKind_35 (by decide) (fun c_17 => ?_) (fun c_17 => ?_)
      · have c_17 := z_eq c_17
        have br_13_18 : zB 0 0 r_13 := zB.eqL (a := 0) (b := 0) c_17 (zBc 0 0 (by decide))
        refine lv_aload_n hx hb dX8_wordKind_41 rfl (lv_at hl 0 rfl) ?_
        refine lv_iload_n hx hb dX8_wordKind_42 rfl (lv_at hl 1 rfl) ?_
        refine lv_iload_n hx hb dX8_wordKind_43 rfl (lv_at hl 2 rfl) ?_
        refine va_ldcS hx hb hown (zsR_3 Z) dX8_wordKind_44 ?_
        refine zk_Vi (As := [.int i, .int wi, .ref (D.2 99 3)]) (rest := []) (bytes := cX8_spells) (maxL := 5) (ret := (some .boolean)) Z h (ze_X8_spells l D k Γ L F H.size tk i wi 3 (RX8, 90, "if", 2) Bt nt htk (bi.w ⟨by decide, by decide⟩) (bwi.w ⟨by decide, by decide⟩) zs_3 p_tx hr0) (cwV 3 hg zv_RX8_82 rfl rfl rfl zd_X8_spells ⟨z_leR hRf (by decide), z_leR hRl (by decide)⟩) htk (by decide) rfl rfl hl.1 rfl (Nat.le_of_ble_eq_true rfl) dX8_wordKind_46 ⟨Nat.zero_le _, Nat.zero_le _⟩ (fun r_19 F_20 H locs w_21 h hfF_20 => ?_)
        obtain ⟨rfl, br_19, q_22, -⟩ := w_21
        refine lv_if_eq (tgt := 55) hx hb dX8_wordKind_49 (by decide) (fun c_23 => ?_) (fun c_23 => ?_)
        · have c_23 := z_eq c_23
          have br_19_24 : zB 0 0 r_19 := zB.eqL (a := 0) (b := 0) c_23 (zBc 0 0 (by decide))
          refine lv_aload_n hx hb dX8_wordKind_55 rfl (lv_at hl 0 rfl) ?_
          refine lv_iload_n hx hb dX8_wordKind_56 rfl (lv_at hl 1 rfl) ?_
          refine lv_iload_n hx hb dX8_wordKind_57 rfl (lv_at hl 2 rfl) ?_
          refine va_ldcS hx hb hown (zsR_4 Z) dX8_wordKind_58 ?_
          refine zk_Vi (As := [.int i, .int wi, .ref (D.2 99 4)]) (rest := []) (bytes := cX8_spells) (maxL := 5) (ret := (some .boolean)) Z h (ze_X8_spells l D k Γ L F H.size tk i wi 4 (RX8, 92, "else", 4) Bt nt htk (bi.w ⟨by decide, by decide⟩) (bwi.w ⟨by decide, by decide⟩) zs_4 p_tx hr0) (cwV 3 hg zv_RX8_82 rfl rfl rfl zd_X8_spells ⟨z_leR hRf (by decide), z_leR hRl (by decide)⟩) htk (by decide) rfl rfl hl.1 rfl (Nat.le_of_ble_eq_true rfl) dX8_wordKind_60 ⟨Nat.zero_le _, Nat.zero_le _⟩ (fun r_25 F_26 H locs w_27 h hfF_26 => ?_)
          obtain ⟨rfl, br_25, q_28, -⟩ := w_27
          refine lv_if_eq (tgt := 69) hx hb dX8_wordKind_63 (by decide) (fun c_29 => ?_) (fun c_29 => ?_)
          · have c_29 := z_eq c_29
            have br_25_30 : zB 0 0 r_25 := zB.eqL (a := 0) (b := 0) c_29 (zBc 0 0 (by decide))
            refine lv_aload_n hx hb dX8_wordKind_69 rfl (lv_at hl 0 rfl) ?_
            refine lv_iload_n hx hb dX8_wordKind_70 rfl (lv_at hl 1 rfl) ?_
            refine lv_iload_n hx hb dX8_wordKind_71 rfl (lv_at hl 2 rfl) ?_
            refine va_ldcS hx hb hown (zsR_5 Z) dX8_wordKind_72 ?_
            refine zk_Vi (As := [.int i, .int wi, .ref (D.2 99 5)]) (rest := []) (bytes := cX8_spells) (maxL := 5) (ret := (some .boolean)) Z h (ze_X8_spells l D k Γ L F H.size tk i wi 5 (RX8, 94, "while", 5) Bt nt htk (bi.w ⟨by decide, by decide⟩) (bwi.w ⟨by decide, by decide⟩) zs_5 p_tx hr0) (cwV 3 hg zv_RX8_82 rfl rfl rfl zd_X8_spells ⟨z_leR hRf (by decide), z_leR hRl (by decide)⟩) htk (by decide) rfl rfl hl.1 rfl (Nat.le_of_ble_eq_true rfl) dX8_wordKind_74 ⟨Nat.zero_le _, Nat.zero_le _⟩ (fun r_31 F_32 H locs w_33 h hfF_32 => ?_)
            obtain ⟨rfl, br_31, q_34, -⟩ := w_33
            refine lv_if_eq (tgt := 85) hx hb dX8_wordKind_77 (by decide) (fun c_35 => ?_) (fun c_35 => ?_)
            · have c_35 := z_eq c_35
              have br_31_36 : zB 0 0 r_31 := zB.eqL (a := 0) (b := 0) c_35 (zBc 0 0 (by decide))
              refine lv_iconst (v := 4) hx hb dX8_wordKind_85 (by decide) ?_
              subst hQ
              exact W.iret (v := 4) hx hb hr (fun t ht hW => ⟨⟨4, F, rfl, ⟨rfl, (zB.of ⟨by decide, by decide⟩), (by rw [zws_all _ ⟨by have := zws_0; have := zws_1; have := zws_2; have := zws_3; have := zws_4; have := zws_5; have := bi.1; have := bi.2; have := bwi.1; have := bwi.2; have : (0 : Int32).toInt = 0 := (by decide); have : (4 : Int32).toInt = 4 := (by decide); omega, by have := zws_0; have := zws_1; have := zws_2; have := zws_3; have := zws_4; have := zws_5; have := bi.1; have := bi.2; have := bwi.1; have := bwi.2; have : (0 : Int32).toInt = 0 := (by decide); have : (4 : Int32).toInt = 4 := (by decide); omega, by have := zws_0; have := zws_1; have := zws_2; have := zws_3; have := zws_4; have := zws_5; have := bi.1; have := bi.2; have := bwi.1; have := bwi.2; have : (0 : Int32).toInt = 0 := (by decide); have : (4 : Int32).toInt = 4 := (by decide); omega, by have := zws_0; have := zws_1; have := zws_2; have := zws_3; have := zws_4; have := zws_5; have := bi.1; have := bi.2; have := bwi.1; have := bwi.2; have : (0 : Int32).toInt = 0 := (by decide); have : (4 : Int32).toInt = 4 := (by decide); omega, by have := zws_0; have := zws_1; have := zws_2; have := zws_3; have := zws_4; have := zws_5; have := bi.1; have := bi.2; have := bwi.1; have := bwi.2; have : (0 : Int32).toInt = 0 := (by decide); have : (4 : Int32).toInt = 4 := (by decide); omega, by have := zws_0; have := zws_1; have := zws_2; have := zws_3; have := zws_4; have := zws_5; have := bi.1; have := bi.2; have := bwi.1; have := bwi.2; have : (0 : Int32).toInt = 0 := (by decide); have : (4 : Int32).toInt = 4 := (by decide); omega⟩]; decide), trivial⟩, by rw [ht]; exact h.1, h.2.1, zFr.rf⟩, h.2.2.F ht⟩) h.2.2.2.2 dX8_wordKind_86
            · have c_35 := z_ne c_35
              have br_31_37 : zB 1 1 r_31 := zB.neLo c_35 br_31 (zBc 0 0 (by decide)) (by decide)
              refine lv_bipush (v := 10) hx hb dX8_wordKind_80 (by decide) ?_
              refine lv_goto (tgt := 86) hx hb dX8_wordKind_82 (by decide) ?_
              subst hQ
              exact W.iret (v := 10) hx hb hr (fun t ht hW => ⟨⟨10, F, rfl, ⟨rfl, (zB.of ⟨by decide, by decide⟩), (by rw [show zwI (zby Bt nt) i.toInt wi.toInt.toNat = 24388997 by have := zws_0; have := zws_1; have := zws_2; have := zws_3; have := zws_4; have := zws_5; have := bi.1; have := bi.2; have := bwi.1; have := bwi.2; have : (0 : Int32).toInt = 0 := (by decide); have : (10 : Int32).toInt = 10 := (by decide); omega]; decide), trivial⟩, by rw [ht]; exact h.1, h.2.1, zFr.rf⟩, h.2.2.F ht⟩) h.2.2.2.2 dX8_wordKind_86
          · have c_29 := z_ne c_29
            have br_25_38 : zB 1 1 r_25 := zB.neLo c_29 br_25 (zBc 0 0 (by decide)) (by decide)
            refine lv_bipush (v := 9) hx hb dX8_wordKind_66 (by decide) ?_
            subst hQ
            exact W.iret (v := 9) hx hb hr (fun t ht hW => ⟨⟨9, F, rfl, ⟨rfl, (zB.of ⟨by decide, by decide⟩), (by rw [show zwI (zby Bt nt) i.toInt wi.toInt.toNat = 176741 by have := zws_0; have := zws_1; have := zws_2; have := zws_3; have := zws_4; have := zws_5; have := bi.1; have := bi.2; have := bwi.1; have := bwi.2; have : (0 : Int32).toInt = 0 := (by decide); have : (9 : Int32).toInt = 9 := (by decide); omega]; decide), trivial⟩, by rw [ht]; exact h.1, h.2.1, zFr.rf⟩, h.2.2.F ht⟩) h.2.2.2.2 dX8_wordKind_68
        · have c_23 := z_ne c_23
          have br_19_39 : zB 1 1 r_19 := zB.neLo c_23 br_19 (zBc 0 0 (by decide)) (by decide)
          refine lv_bipush (v := 8) hx hb dX8_wordKind_52 (by decide) ?_
          subst hQ
          exact W.iret (v := 8) hx hb hr (fun t ht hW => ⟨⟨8, F, rfl, ⟨rfl, (zB.of ⟨by decide, by decide⟩), (by rw [show zwI (zby Bt nt) i.toInt wi.toInt.toNat = 294 by have := zws_0; have := zws_1; have := zws_2; have := zws_3; have := zws_4; have := zws_5; have := bi.1; have := bi.2; have := bwi.1; have := bwi.2; have : (0 : Int32).toInt = 0 := (by decide); have : (8 : Int32).toInt = 8 := (by decide); omega]; decide), trivial⟩, by rw [ht]; exact h.1, h.2.1, zFr.rf⟩, h.2.2.F ht⟩) h.2.2.2.2 dX8_wordKind_54
      · have c_17 := z_ne c_17
        have br_13_40 : zB 1 1 r_13 := zB.neLo c_17 br_13 (zBc 0 0 (by decide)) (by decide)
        refine lv_bipush (v := 7) hx hb dX8_wordKind_38 (by decide) ?_
        subst hQ
        exact W.iret (v := 7) hx hb hr (fun t ht hW => ⟨⟨7, F, rfl, ⟨rfl, (zB.of ⟨by decide, by decide⟩), (by rw [show zwI (zby Bt nt) i.toInt wi.toInt.toNat = 609900110 by have := zws_0; have := zws_1; have := zws_2; have := zws_3; have := zws_4; have := zws_5; have := bi.1; have := bi.2; have := bwi.1; have := bwi.2; have : (0 : Int32).toInt = 0 := (by decide); have : (7 : Int32).toInt = 7 := (by decide); omega]; decide), trivial⟩, by rw [ht]; exact h.1, h.2.1, zFr.rf⟩, h.2.2.F ht⟩) h.2.2.2.2 dX8_wordKind_40
    · have c_11 := z_ne c_11
      have br_7_41 : zB 1 1 r_7 := zB.neLo c_11 br_7 (zBc 0 0 (by decide)) (by decide)
      refine lv_bipush (v := 6) hx hb dX8_wordKind_24 (by decide) ?_
      subst hQ
      exact W.iret (v := 6) hx hb hr (fun t ht hW => ⟨⟨6, F, rfl, ⟨rfl, (zB.of ⟨by decide, by decide⟩), (by rw [show zwI (zby Bt nt) i.toInt wi.toInt.toNat = 19513 by have := zws_0; have := zws_1; have := zws_2; have := zws_3; have := zws_4; have := zws_5; have := bi.1; have := bi.2; have := bwi.1; have := bwi.2; have : (0 : Int32).toInt = 0 := (by decide); have : (6 : Int32).toInt = 6 := (by decide); omega]; decide), trivial⟩, by rw [ht]; exact h.1, h.2.1, zFr.rf⟩, h.2.2.F ht⟩) h.2.2.2.2 dX8_wordKind_26
  · have c_5 := z_ne c_5
    have br_1_42 : zB 1 1 r_1 := zB.neLo c_5 br_1 (zBc 0 0 (by decide)) (by decide)
    refine lv_iconst (v := 5) hx hb dX8_wordKind_11 (by decide) ?_
    subst hQ
    exact W.iret (v := 5) hx hb hr (fun t ht hW => ⟨⟨5, F, rfl, ⟨rfl, (zB.of ⟨by decide, by decide⟩), (by rw [show zwI (zby Bt nt) i.toInt wi.toInt.toNat = 4262 by have := zws_0; have := zws_1; have := zws_2; have := zws_3; have := zws_4; have := zws_5; have := bi.1; have := bi.2; have := bwi.1; have := bwi.2; have : (0 : Int32).toInt = 0 := (by decide); have : (5 : Int32).toInt = 5 := (by decide); omega]; decide), trivial⟩, by rw [ht]; exact h.1, h.2.1, zFr.rf⟩, h.2.2.F ht⟩) h.2.2.2.2 dX8_wordKind_12

set_option maxHeartbeats 4000000 in
set_option maxRecDepth 100000 in
theorem ze_X8_kindOf (l : Launch) (D : va_G) (k : Nat → ClassId) (Γ : Nat → Option Nat) (L : List Nat) (F : Nat → va_E) (sz : Nat) (tk : Nat) (i : Int32) (wi : Int32) (Bt : Nat → Int32) (nt : Nat) (htk : Γ tk = some 8) (bi : zB 0 599 i) (bwi : zB 1 8 wi) (p_tx : zTx Γ F tk Bt nt) (hr0 : i.toInt < nt) (hr1 : wi.toInt = zwa Bt nt i.toInt) : Met l yX8_kindOf zwX8_kindOf ({ frames := 6, cells := 0, slots := 0, locals := 131 }) (va_Pc [.ref tk, .int i, .int wi] (zP D k Γ L F sz)) (va_Qi (fun (r : Int32) (u : Nat → va_E) => F = u ∧ r.toInt = zka Bt nt i.toInt ∧ True) (zQ D k Γ L F []) (zA L sz)) 0 0 (zA L sz) := by
  refine Met.ofW (cc := cX8_kindOf) (maxL := 3) (ret := (some .int)) (by decide) rfl ?_
  intro p e s m args below meth c s₁ B hml hv
  obtain ⟨rfl, hsz, hP, hK, hLn, hE, hI⟩ := hv
  have hx := B.exec
  have hb := B.bytes
  have hr := B.returns
  have hg : ∀ w ∈ zG, w.before _ s = true := fun w h9 => atoms_spec (ws := zwX8_kindOf) B.pre w (List.mem_cons_of_mem _ h9)
  have hown : s.vm.findClass RX8 = some m.cls := findClass_of_methodNamed B.named
  have hlocks := B.notSynchronized
  subst hsz
  have Z : zC p m c cX8_kindOf 3 s _ zG RX8 D k L := ⟨⟨hx, hb, hml, hown, hg⟩, hK, hLn, hE⟩
  have h : zH D k Γ L s F s.heap [] := ⟨hP, hI, va_S.rf⟩
  have hl := lv_entry ([.ref tk, .int i, .int wi]) (n := 3) (Nat.le_of_ble_eq_true rfl)
  rw [lg_entry_eq]
  generalize (lg_sl ([.ref tk, .int i, .int wi]) ++ List.replicate (3 - (lg_sl ([.ref tk, .int i, .int wi])).length) Slot.unset).toArray = ls at hl ⊢
  have hl : lv_has ls 3 [(0, .ref tk), (1, .int i), (2, .int wi)] := hl
  clear hP hK hLn hE hI
  generalize hargs : ([.ref tk, .int i, .int wi] : List Value).toArray = args at *
  refine z_start (fun R Q hRf hRl hQ => ?_)
  have hRf : R.frames = 6 := hRf
  have hRl : R.locals = 131 := hRl
  have h9 := h
  refine lv_aload_n hx hb dX8_kindOf_0 rfl (lv_at hl 0 rfl) ?_
  refine lv_iload_n hx hb dX8_kindOf_1 rfl (lv_at hl 1 rfl) ?_
  refine zk_Vi (As := [.int i]) (rest := []) (bytes := cX8_isDigit) (maxL := 2) (ret := (some .boolean)) Z h (ze_X8_isDigit l D k Γ L F s.heap.size tk i Bt nt htk p_tx) (cwV 1 hg zv_RX8_71 rfl rfl rfl zd_X8_isDigit ⟨z_leR hRf (by decide), z_leR hRl (by decide)⟩) htk (by decide) rfl rfl hl.1 rfl (Nat.le_of_ble_eq_true rfl) dX8_kindOf_2 ⟨Nat.zero_le _, Nat.zero_le _⟩ (fun r_1 F_2 H locs w_3 h hfF_2 => ?_)
  obtain ⟨rfl, br_1, q_4, -⟩ := w_3
  refine lv_if_eq (tgt := 10) hx hb dX8_kindOf_5 (by decide) (fun c_5 => ?_) (fun c_5 => ?_)
  · have c_5 := z_eq c_5
    have br_1_6 : zB 0 0 r_1 := zB.eqL (a := 0) (b := 0) c_5 (zBc 0 0 (by decide))
    refine lv_aload_n hx hb dX8_kindOf_10 rfl (lv_at hl 0 rfl) ?_
    refine lv_iload_n hx hb dX8_kindOf_11 rfl (lv_at hl 1 rfl) ?_
    refine zk_Vi (As := [.int i]) (rest := []) (bytes := cX8_isLetter) (maxL := 2) (ret := (some .boolean)) Z h (ze_X8_isLetter l D k Γ L F H.size tk i Bt nt htk p_tx) (cwV 1 hg zv_RX8_68 rfl rfl rfl zd_X8_isLetter ⟨z_leR hRf (by decide), z_leR hRl (by decide)⟩) htk (by decide) rfl rfl hl.1 rfl (Nat.le_of_ble_eq_true rfl) dX8_kindOf_12 ⟨Nat.zero_le _, Nat.zero_le _⟩ (fun r_7 F_8 H locs w_9 h hfF_8 => ?_)
    obtain ⟨rfl, br_7, q_10, -⟩ := w_9
    refine lv_if_ne (tgt := 24) hx hb dX8_kindOf_15 (by decide) (fun c_11 => ?_) (fun c_11 => ?_)
    · have c_11 := z_ne c_11
      have br_7_12 : zB 1 1 r_7 := zB.neLo c_11 br_7 (zBc 0 0 (by decide)) (by decide)
      refine lv_iload_n hx hb dX8_kindOf_24 rfl (lv_at hl 2 rfl) ?_
      refine lv_iconst (v := 1) hx hb dX8_kindOf_25 (by decide) ?_
      refine lv_icmp_ne (tgt := 45) hx hb dX8_kindOf_26 (by decide) (fun c_13 => ?_) (fun c_13 => ?_)
      · have c_13 := z_ne c_13
        have bwi_14 : zB 2 8 wi := zB.neLo c_13 bwi (zBc 1 1 (by decide)) (by decide)
        refine lv_aload_n hx hb dX8_kindOf_45 rfl (lv_at hl 0 rfl) ?_
        refine lv_iload_n hx hb dX8_kindOf_46 rfl (lv_at hl 1 rfl) ?_
        refine lv_iload_n hx hb dX8_kindOf_47 rfl (lv_at hl 2 rfl) ?_
        refine zk_Vi (As := [.int i, .int wi]) (rest := []) (bytes := cX8_wordKind) (maxL := 3) (ret := (some .int)) Z h (ze_X8_wordKind l D k Γ L F H.size tk i wi Bt nt htk bi bwi_14 p_tx (by rw [hr1]; exact zka_let (B := Bt) (n := nt) (a := i.toInt) ⟨by have := bi.1; have := bi.2; have := bwi_14.1; have := bwi_14.2; have : (0 : Int32).toInt = 0 := (by decide); have : (1 : Int32).toInt = 1 := (by decide); omega, by have := bi.1; have := bi.2; have := bwi_14.1; have := bwi_14.2; have : (0 : Int32).toInt = 0 := (by decide); have : (1 : Int32).toInt = 1 := (by decide); omega⟩ (by rw [← hr1]; have := bi.1; have := bi.2; have := bwi_14.1; have := bwi_14.2; have : (0 : Int32).toInt = 0 := (by decide); have : (1 : Int32).toInt = 1 := (by decide); omega))) (cwV 2 hg zv_RX8_77 rfl rfl rfl zd_X8_wordKind ⟨z_leR hRf (by decide), z_leR hRl (by decide)⟩) htk (by decide) rfl rfl hl.1 rfl (Nat.le_of_ble_eq_true rfl) dX8_kindOf_48 ⟨Nat.zero_le _, Nat.zero_le _⟩ (fun r_15 F_16 H locs w_17 h hfF_16 => ?_)
        obtain ⟨rfl, br_15, q_18, -⟩ := w_17
        subst hQ
        exact W.iret (v := r_15) hx hb hr (fun t ht hW => ⟨⟨r_15, F, rfl, ⟨rfl, (by rw [q_18, hr1, ← zka_wd (B := Bt) (n := nt) (a := i.toInt) ⟨by have := bi.1; have := bi.2; have := bwi_14.1; have := bwi_14.2; have := br_15.1; have := br_15.2; have : (0 : Int32).toInt = 0 := (by decide); have : (1 : Int32).toInt = 1 := (by decide); omega, by have := bi.1; have := bi.2; have := bwi_14.1; have := bwi_14.2; have := br_15.1; have := br_15.2; have : (0 : Int32).toInt = 0 := (by decide); have : (1 : Int32).toInt = 1 := (by decide); omega⟩ ⟨(by rw [← hr1]; have := bi.1; have := bi.2; have := bwi_14.1; have := bwi_14.2; have := br_15.1; have := br_15.2; have : (0 : Int32).toInt = 0 := (by decide); have : (1 : Int32).toInt = 1 := (by decide); omega), (by rw [← hr1]; have := bi.1; have := bi.2; have := bwi_14.1; have := bwi_14.2; have := br_15.1; have := br_15.2; have : (0 : Int32).toInt = 0 := (by decide); have : (1 : Int32).toInt = 1 := (by decide); omega)⟩]), trivial⟩, by rw [ht]; exact h.1, h.2.1, zFr.rf⟩, h.2.2.F ht⟩) h.2.2.2.2 dX8_kindOf_51
      · have c_13 := z_eq c_13
        have bwi_19 : zB 1 1 wi := zB.eqL (a := 0) (b := 0) c_13 (zBc 1 1 (by decide))
        refine lv_aload_n hx hb dX8_kindOf_29 rfl (lv_at hl 0 rfl) ?_
        refine lv_iload_n hx hb dX8_kindOf_30 rfl (lv_at hl 1 rfl) ?_
        refine zk_Vi (As := [.int i]) (rest := []) (bytes := cX8_textAt) (maxL := 2) (ret := (some .int)) Z h (ze_X8_textAt l D k Γ L F H.size tk i Bt nt htk p_tx) (cwV 1 hg zv_RX8_62 rfl rfl rfl zd_X8_textAt ⟨z_leR hRf (by decide), z_leR hRl (by decide)⟩) htk (by decide) rfl rfl hl.1 rfl (Nat.le_of_ble_eq_true rfl) dX8_kindOf_31 ⟨Nat.zero_le _, Nat.zero_le _⟩ (fun r_20 F_21 H locs w_22 h hfF_21 => ?_)
        obtain ⟨rfl, br_20, q_23, -⟩ := w_22
        refine lv_bipush (v := 104) hx hb dX8_kindOf_34 (by decide) ?_
        refine lv_icmp_gt (tgt := 43) hx hb dX8_kindOf_36 (by decide) (fun c_24 => ?_) (fun c_24 => ?_)
        · have c_24 := z_lt c_24
          have br_20_25 : zB 105 127 r_20 := zB.ltR c_24 (zBc 104 104 (by decide)) br_20 (by decide)
          refine lv_iconst (v := 1) hx hb dX8_kindOf_43 (by decide) ?_
          subst hQ
          exact W.iret (v := 1) hx hb hr (fun t ht hW => ⟨⟨1, F, rfl, ⟨rfl, (by have h7 := zka_1 (B := Bt) (n := nt) (a := i.toInt) ⟨by have := bi.1; have := bi.2; have := bwi_19.1; have := bwi_19.2; have : (0 : Int32).toInt = 0 := (by decide); have : (1 : Int32).toInt = 1 := (by decide); have : (104 : Int32).toInt = 104 := (by decide); omega, by have := bi.1; have := bi.2; have := bwi_19.1; have := bwi_19.2; have : (0 : Int32).toInt = 0 := (by decide); have : (1 : Int32).toInt = 1 := (by decide); have : (104 : Int32).toInt = 104 := (by decide); omega⟩ (by rw [← hr1]; have := bi.1; have := bi.2; have := bwi_19.1; have := bwi_19.2; have : (0 : Int32).toInt = 0 := (by decide); have : (1 : Int32).toInt = 1 := (by decide); have : (104 : Int32).toInt = 104 := (by decide); omega); have := bi.1; have := bi.2; have := bwi_19.1; have := bwi_19.2; have : (0 : Int32).toInt = 0 := (by decide); have : (1 : Int32).toInt = 1 := (by decide); have : (104 : Int32).toInt = 104 := (by decide); omega), trivial⟩, by rw [ht]; exact h.1, h.2.1, zFr.rf⟩, h.2.2.F ht⟩) h.2.2.2.2 dX8_kindOf_44
        · have c_24 := z_nlt c_24
          have br_20_26 : zB (-128) 104 r_20 := zB.leL c_24 br_20 (zBc 104 104 (by decide)) (by decide)
          refine lv_iconst (v := 3) hx hb dX8_kindOf_39 (by decide) ?_
          refine lv_goto (tgt := 44) hx hb dX8_kindOf_40 (by decide) ?_
          subst hQ
          exact W.iret (v := 3) hx hb hr (fun t ht hW => ⟨⟨3, F, rfl, ⟨rfl, (by have h7 := zka_1 (B := Bt) (n := nt) (a := i.toInt) ⟨by have := bi.1; have := bi.2; have := bwi_19.1; have := bwi_19.2; have : (0 : Int32).toInt = 0 := (by decide); have : (1 : Int32).toInt = 1 := (by decide); have : (3 : Int32).toInt = 3 := (by decide); have : (104 : Int32).toInt = 104 := (by decide); omega, by have := bi.1; have := bi.2; have := bwi_19.1; have := bwi_19.2; have : (0 : Int32).toInt = 0 := (by decide); have : (1 : Int32).toInt = 1 := (by decide); have : (3 : Int32).toInt = 3 := (by decide); have : (104 : Int32).toInt = 104 := (by decide); omega⟩ (by rw [← hr1]; have := bi.1; have := bi.2; have := bwi_19.1; have := bwi_19.2; have : (0 : Int32).toInt = 0 := (by decide); have : (1 : Int32).toInt = 1 := (by decide); have : (3 : Int32).toInt = 3 := (by decide); have : (104 : Int32).toInt = 104 := (by decide); omega); have := bi.1; have := bi.2; have := bwi_19.1; have := bwi_19.2; have : (0 : Int32).toInt = 0 := (by decide); have : (1 : Int32).toInt = 1 := (by decide); have : (3 : Int32).toInt = 3 := (by decide); have : (104 : Int32).toInt = 104 := (by decide); omega), trivial⟩, by rw [ht]; exact h.1, h.2.1, zFr.rf⟩, h.2.2.F ht⟩) h.2.2.2.2 dX8_kindOf_44
    · have c_11 := z_eq c_11
      have br_7_27 : zB 0 0 r_7 := zB.eqL (a := 0) (b := 0) c_11 (zBc 0 0 (by decide))
      refine lv_aload_n hx hb dX8_kindOf_18 rfl (lv_at hl 0 rfl) ?_
      refine lv_iload_n hx hb dX8_kindOf_19 rfl (lv_at hl 1 rfl) ?_
      refine zk_Vi (As := [.int i]) (rest := []) (bytes := cX8_textAt) (maxL := 2) (ret := (some .int)) Z h (ze_X8_textAt l D k Γ L F H.size tk i Bt nt htk p_tx) (cwV 1 hg zv_RX8_62 rfl rfl rfl zd_X8_textAt ⟨z_leR hRf (by decide), z_leR hRl (by decide)⟩) htk (by decide) rfl rfl hl.1 rfl (Nat.le_of_ble_eq_true rfl) dX8_kindOf_20 ⟨Nat.zero_le _, Nat.zero_le _⟩ (fun r_28 F_29 H locs w_30 h hfF_29 => ?_)
      obtain ⟨rfl, br_28, q_31, -⟩ := w_30
      subst hQ
      exact W.iret (v := r_28) hx hb hr (fun t ht hW => ⟨⟨r_28, F, rfl, ⟨rfl, ((q_31).trans (zka_s (by have := bi.1; have := bi.2; have := bwi.1; have := bwi.2; have := br_28.1; have := br_28.2; have : (0 : Int32).toInt = 0 := (by decide); omega) (by have := bi.1; have := bi.2; have := bwi.1; have := bwi.2; have := br_28.1; have := br_28.2; have : (0 : Int32).toInt = 0 := (by decide); omega) (by have := bi.1; have := bi.2; have := bwi.1; have := bwi.2; have := br_28.1; have := br_28.2; have : (0 : Int32).toInt = 0 := (by decide); omega) (by rw [← hr1]; have := bi.1; have := bi.2; have := bwi.1; have := bwi.2; have := br_28.1; have := br_28.2; have : (0 : Int32).toInt = 0 := (by decide); omega)).symm), trivial⟩, by rw [ht]; exact h.1, h.2.1, zFr.rf⟩, h.2.2.F ht⟩) h.2.2.2.2 dX8_kindOf_23
  · have c_5 := z_ne c_5
    have br_1_32 : zB 1 1 r_1 := zB.neLo c_5 br_1 (zBc 0 0 (by decide)) (by decide)
    refine lv_iconst (v := 2) hx hb dX8_kindOf_8 (by decide) ?_
    subst hQ
    exact W.iret (v := 2) hx hb hr (fun t ht hW => ⟨⟨2, F, rfl, ⟨rfl, (by rw [zka_d (by have := bi.1; have := bi.2; have := bwi.1; have := bwi.2; have : (0 : Int32).toInt = 0 := (by decide); have : (2 : Int32).toInt = 2 := (by decide); omega) ⟨by have := bi.1; have := bi.2; have := bwi.1; have := bwi.2; have : (0 : Int32).toInt = 0 := (by decide); have : (2 : Int32).toInt = 2 := (by decide); omega, by have := bi.1; have := bi.2; have := bwi.1; have := bwi.2; have : (0 : Int32).toInt = 0 := (by decide); have : (2 : Int32).toInt = 2 := (by decide); omega⟩ (by rw [← hr1]; have := bi.1; have := bi.2; have := bwi.1; have := bwi.2; have : (0 : Int32).toInt = 0 := (by decide); have : (2 : Int32).toInt = 2 := (by decide); omega)]; decide), trivial⟩, by rw [ht]; exact h.1, h.2.1, zFr.rf⟩, h.2.2.F ht⟩) h.2.2.2.2 dX8_kindOf_9

set_option maxHeartbeats 4000000 in
set_option maxRecDepth 100000 in
theorem ze_X8_add (l : Launch) (D : va_G) (k : Nat → ClassId) (Γ : Nat → Option Nat) (L : List Nat) (F : Nat → va_E) (sz : Nat) (tk : Nat) (kd : Int32) (pl : Int32) (wi : Int32) (zs : Int32) (htk : Γ tk = some 8) (kzs : zfld F tk 5 = .int zs) (bzs : zB 0 600 zs) : Met l yX8_add zwX8_add ({ frames := 0, cells := 0, slots := 0, locals := 0 }) (va_Pc [.ref tk, .int kd, .int pl, .int wi] (zP D k Γ L F sz)) (va_Qv (fun (u : Nat → va_E) => (∃ (s9 : Int32), zfld u tk 5 = .int s9 ∧ zB 1 601 s9 ∧ (s9.toInt = zs.toInt + 1)) ∧ zar u tk 2 = upd (zar F tk 2) (Int32.toNatClampNeg zs) kd ∧ zar u tk 3 = upd (zar F tk 3) (Int32.toNatClampNeg zs) pl ∧ zar u tk 4 = upd (zar F tk 4) (Int32.toNatClampNeg zs) wi ∧ True) (zQ D k Γ L F [805, 10100, 15500, 15600]) (zA L sz)) 0 0 (zA L sz) := by
  refine Met.ofW (cc := cX8_add) (maxL := 4) (ret := none) (by decide) rfl ?_
  intro p e s m args below meth c s₁ B hml hv
  obtain ⟨rfl, hsz, hP, hK, hLn, hE, hI⟩ := hv
  have hx := B.exec
  have hb := B.bytes
  have hr := B.returns
  have hg : ∀ w ∈ zG, w.before _ s = true := fun w h9 => atoms_spec (ws := zwX8_add) B.pre w (List.mem_cons_of_mem _ h9)
  have hown : s.vm.findClass RX8 = some m.cls := findClass_of_methodNamed B.named
  have hlocks := B.notSynchronized
  subst hsz
  have Z : zC p m c cX8_add 4 s _ zG RX8 D k L := ⟨⟨hx, hb, hml, hown, hg⟩, hK, hLn, hE⟩
  have h : zH D k Γ L s F s.heap [] := ⟨hP, hI, va_S.rf⟩
  have hl := lv_entry ([.ref tk, .int kd, .int pl, .int wi]) (n := 4) (Nat.le_of_ble_eq_true rfl)
  rw [lg_entry_eq]
  generalize (lg_sl ([.ref tk, .int kd, .int pl, .int wi]) ++ List.replicate (4 - (lg_sl ([.ref tk, .int kd, .int pl, .int wi])).length) Slot.unset).toArray = ls at hl ⊢
  have hl : lv_has ls 4 [(0, .ref tk), (1, .int kd), (2, .int pl), (3, .int wi)] := hl
  clear hP hK hLn hE hI
  generalize hargs : ([.ref tk, .int kd, .int pl, .int wi] : List Value).toArray = args at *
  refine z_start (fun R Q hRf hRl hQ => ?_)
  have hRf : R.frames = 0 := hRf
  have hRl : R.locals = 0 := hRl
  have h9 := h
  have ad_1 := z_ad (j := 2) (c := 101) h.2.1 htk (by decide) rfl
  have ad_2 := z_ad (j := 3) (c := 155) h.2.1 htk (by decide) rfl
  have ad_3 := z_ad (j := 4) (c := 156) h.2.1 htk (by decide) rfl
  refine lv_aload_n hx hb dX8_add_0 rfl (lv_at hl 0 rfl) ?_
  refine zt_getk (t := 8) (C := RX8) (T := TX8) (N := 6) Z h htk zin_8 rfl 5 kzs ⟨by decide, rfl, by decide⟩ (zm_RX8 (List.mem_of_getElem? (i := 25) rfl)) (fun _ h9 => h9) dX8_add_1 ?_
  refine lv_aload_n hx hb dX8_add_4 rfl (lv_at hl 0 rfl) ?_
  refine zt_getr (t := 8) (C := RX8) (T := TX8) (N := 6) Z h htk zin_8 rfl 2 rfl ⟨by decide, rfl⟩ (zm_RX8 (List.mem_of_getElem? (i := 52) rfl)) (fun _ h9 => h9) dX8_add_5 (fun a_4 ka_4 ha_4 => ?_)
  refine zt_alen (t := 101) Z h ha_4 ⟨by decide, rfl⟩ (by decide) (v := 601) rfl dX8_add_8 ?_
  refine lv_icmp_ge (tgt := 52) hx hb dX8_add_9 (by decide) (fun c_5 => ?_) (fun c_5 => ?_)
  · have c_5 := z_le c_5
    exact zB.noLe c_5 (zBc 601 601 (by decide)) bzs (by decide)
  · have c_5 := z_nle c_5
    refine lv_aload_n hx hb dX8_add_12 rfl (lv_at hl 0 rfl) ?_
    refine zt_getk (t := 8) (C := RX8) (T := TX8) (N := 6) Z h htk zin_8 rfl 2 ka_4 ⟨by decide, rfl, by decide⟩ (zm_RX8 (List.mem_of_getElem? (i := 52) rfl)) (fun _ h9 => h9) dX8_add_13 ?_
    refine lv_aload_n hx hb dX8_add_16 rfl (lv_at hl 0 rfl) ?_
    refine zt_getk (t := 8) (C := RX8) (T := TX8) (N := 6) Z h htk zin_8 rfl 5 kzs ⟨by decide, rfl, by decide⟩ (zm_RX8 (List.mem_of_getElem? (i := 25) rfl)) (fun _ h9 => h9) dX8_add_17 ?_
    refine lv_iload_n hx hb dX8_add_20 rfl (lv_at hl 1 rfl) ?_
    refine zt_iaste (t := 101) Z h ha_4 ⟨by decide, rfl⟩ bzs ⟨by decide, by decide⟩ (zB.all kd) dX8_add_21 (fun H locs F_6 h hfF_6 eF_6 gF_6 => ?_)
    have uF_6 := (zar_st ka_4 (hfF_6.f htk 2 ⟨by decide, by decide⟩ ka_4) eF_6 gF_6).trans (congrArg (fun z => upd z (Int32.toNatClampNeg zs) kd) (rfl : zar F tk 2 = (zar F tk 2)))
    refine lv_aload_n hx hb dX8_add_22 rfl (lv_at hl 0 rfl) ?_
    refine zt_getr (t := 8) (C := RX8) (T := TX8) (N := 6) Z h htk zin_8 rfl 3 rfl ⟨by decide, rfl⟩ (zm_RX8 (List.mem_of_getElem? (i := 39) rfl)) (fun _ h9 => h9) dX8_add_23 (fun a_7 ka_7 ha_7 => ?_)
    refine lv_aload_n hx hb dX8_add_26 rfl (lv_at hl 0 rfl) ?_
    refine zt_getk (t := 8) (C := RX8) (T := TX8) (N := 6) Z h htk zin_8 rfl 5 (hfF_6.f htk 5 ⟨by decide, by decide⟩ kzs) ⟨by decide, rfl, by decide⟩ (zm_RX8 (List.mem_of_getElem? (i := 25) rfl)) (fun _ h9 => h9) dX8_add_27 ?_
    refine lv_iload_n hx hb dX8_add_30 rfl (lv_at hl 2 rfl) ?_
    have ar_9 : zar F_6 tk 3 = (zar F tk 3) := ((ad_2.ar hfF_6 htk ⟨by decide, by decide⟩ ⟨by decide, by decide⟩).trans rfl)
    refine zt_iaste (t := 155) Z h ha_7 ⟨by decide, rfl⟩ bzs ⟨by decide, by decide⟩ (zB.all pl) dX8_add_31 (fun H locs F_8 h hfF_8 eF_8 gF_8 => ?_)
    have uF_8 := (zar_st ka_7 (hfF_8.f htk 3 ⟨by decide, by decide⟩ ka_7) eF_8 gF_8).trans (congrArg (fun z => upd z (Int32.toNatClampNeg zs) pl) ar_9)
    refine lv_aload_n hx hb dX8_add_32 rfl (lv_at hl 0 rfl) ?_
    refine zt_getr (t := 8) (C := RX8) (T := TX8) (N := 6) Z h htk zin_8 rfl 4 rfl ⟨by decide, rfl⟩ (zm_RX8 (List.mem_of_getElem? (i := 41) rfl)) (fun _ h9 => h9) dX8_add_33 (fun a_10 ka_10 ha_10 => ?_)
    refine lv_aload_n hx hb dX8_add_36 rfl (lv_at hl 0 rfl) ?_
    refine zt_getk (t := 8) (C := RX8) (T := TX8) (N := 6) Z h htk zin_8 rfl 5 (hfF_8.f htk 5 ⟨by decide, by decide⟩ (hfF_6.f htk 5 ⟨by decide, by decide⟩ kzs)) ⟨by decide, rfl, by decide⟩ (zm_RX8 (List.mem_of_getElem? (i := 25) rfl)) (fun _ h9 => h9) dX8_add_37 ?_
    refine lv_iload_n hx hb dX8_add_40 rfl (lv_at hl 3 rfl) ?_
    have ad_12 := ad_3.fr hfF_6 htk ⟨by decide, by decide⟩
    have ar_13 : zar F_8 tk 4 = (zar F tk 4) := ((ad_12.ar hfF_8 htk ⟨by decide, by decide⟩ ⟨by decide, by decide⟩).trans ((ad_3.ar hfF_6 htk ⟨by decide, by decide⟩ ⟨by decide, by decide⟩).trans rfl))
    refine zt_iaste (t := 156) Z h ha_10 ⟨by decide, rfl⟩ bzs ⟨by decide, by decide⟩ (zB.all wi) dX8_add_41 (fun H locs F_11 h hfF_11 eF_11 gF_11 => ?_)
    have uF_11 := (zar_st ka_10 (hfF_11.f htk 4 ⟨by decide, by decide⟩ ka_10) eF_11 gF_11).trans (congrArg (fun z => upd z (Int32.toNatClampNeg zs) wi) ar_13)
    refine lv_aload_n hx hb dX8_add_42 rfl (lv_at hl 0 rfl) ?_
    refine lv_dup hx hb dX8_add_43 rfl ?_
    refine zt_getk (t := 8) (C := RX8) (T := TX8) (N := 6) Z h htk zin_8 rfl 5 (hfF_11.f htk 5 ⟨by decide, by decide⟩ (hfF_8.f htk 5 ⟨by decide, by decide⟩ (hfF_6.f htk 5 ⟨by decide, by decide⟩ kzs))) ⟨by decide, rfl, by decide⟩ (zm_RX8 (List.mem_of_getElem? (i := 25) rfl)) (fun _ h9 => h9) dX8_add_44 ?_
    refine lv_iconst (v := 1) hx hb dX8_add_47 (by decide) ?_
    refine lv_iadd hx hb dX8_add_48 ?_
    refine zi_add (lo := 1) (hi := 601) bzs (zBc 1 1 (by decide)) (by decide) (fun x_14 bx_14 tx_14 => ?_)
    refine zt_put (t := 8) (C := RX8) (T := TX8) (N := 6) (v := .int x_14) Z h htk zin_8 tyX8 tyX8_ok nmX8 rfl 5 rfl ⟨by decide, rfl⟩ (zm_RX8 (List.mem_of_getElem? (i := 25) rfl)) (fun _ h9 => h9) rfl (zV.i (bx_14.w ⟨by decide, by decide⟩)) rfl rfl dX8_add_49 (fun H locs F_15 h hfF_15 kF_15 => ?_)
    have ad_16 := ad_1.fr hfF_6 htk ⟨by decide, by decide⟩
    have ad_17 := ad_16.fr hfF_8 htk ⟨by decide, by decide⟩
    have ad_18 := ad_17.fr hfF_11 htk ⟨by decide, by decide⟩
    have ar_19 : zar F_15 tk 2 = (upd (zar F tk 2) (Int32.toNatClampNeg zs) kd) := ((ad_18.ar hfF_15 htk ⟨by decide, by decide⟩ ⟨by decide, by decide⟩).trans ((ad_17.ar hfF_11 htk ⟨by decide, by decide⟩ ⟨by decide, by decide⟩).trans ((ad_16.ar hfF_8 htk ⟨by decide, by decide⟩ ⟨by decide, by decide⟩).trans uF_6)))
    have ad_20 := ad_2.fr hfF_6 htk ⟨by decide, by decide⟩
    have ad_21 := ad_20.fr hfF_8 htk ⟨by decide, by decide⟩
    have ad_22 := ad_21.fr hfF_11 htk ⟨by decide, by decide⟩
    have ar_23 : zar F_15 tk 3 = (upd (zar F tk 3) (Int32.toNatClampNeg zs) pl) := ((ad_22.ar hfF_15 htk ⟨by decide, by decide⟩ ⟨by decide, by decide⟩).trans ((ad_21.ar hfF_11 htk ⟨by decide, by decide⟩ ⟨by decide, by decide⟩).trans uF_8))
    have ad_24 := ad_12.fr hfF_8 htk ⟨by decide, by decide⟩
    have ad_25 := ad_24.fr hfF_11 htk ⟨by decide, by decide⟩
    have ar_26 : zar F_15 tk 4 = (upd (zar F tk 4) (Int32.toNatClampNeg zs) wi) := ((ad_25.ar hfF_15 htk ⟨by decide, by decide⟩ ⟨by decide, by decide⟩).trans uF_11)
    subst hQ
    exact W.vret hx hb hr (fun t ht hW => ⟨⟨F_15, rfl, ⟨⟨x_14, kF_15, bx_14, (by have := (zB.all kd).1; have := (zB.all kd).2; have := (zB.all pl).1; have := (zB.all pl).2; have := (zB.all wi).1; have := (zB.all wi).2; have := bx_14.1; have := bx_14.2; have := bzs.1; have := bzs.2; have : (1 : Int32).toInt = 1 := (by decide); have : (601 : Int32).toInt = 601 := (by decide); omega)⟩, ar_19, ar_23, ar_26, trivial⟩, by rw [ht]; exact h.1, h.2.1, ((((hfF_6.w (by decide)).trans hfF_8 (by decide)).trans hfF_11 (by decide)).trans hfF_15 (by decide))⟩, h.2.2.F ht⟩) h.2.2.2.2 dX8_add_52

set_option maxHeartbeats 4000000 in
set_option maxRecDepth 100000 in
theorem ze_X8_cut (l : Launch) (D : va_G) (k : Nat → ClassId) (Γ : Nat → Option Nat) (L : List Nat) (F : Nat → va_E) (sz : Nat) (tk : Nat) (fr : Nat) (q : Int32) (Bt : Nat → Int32) (nt : Nat) (htk : Γ tk = some 8) (hfr : Γ fr = some 100) (bq : zB 0 600 q) (hr0 : q.toInt = nt) (hr1 : zel F fr = Bt) : Met l yX8_cut zwX8_cut ({ frames := 7, cells := 0, slots := 0, locals := 153 }) (va_Pc [.ref tk, .ref fr, .int q] (zP D k Γ L F sz)) (va_Qv (fun (u : Nat → va_E) => (∃ N : Nat, zTb Γ u tk Bt nt N) ∧ True) (zQ D k Γ L F [801, 805, 10100, 15500, 15600, 15700]) (zA L sz)) 0 0 (zA L sz) := by
  refine Met.ofW (cc := cX8_cut) (maxL := 5) (ret := none) (by decide) rfl ?_
  intro p e s m args below meth c s₁ B hml hv
  obtain ⟨rfl, hsz, hP, hK, hLn, hE, hI⟩ := hv
  have hx := B.exec
  have hb := B.bytes
  have hr := B.returns
  have hg : ∀ w ∈ zG, w.before _ s = true := fun w h9 => atoms_spec (ws := zwX8_cut) B.pre w (List.mem_cons_of_mem _ h9)
  have hown : s.vm.findClass RX8 = some m.cls := findClass_of_methodNamed B.named
  have hlocks := B.notSynchronized
  subst hsz
  have Z : zC p m c cX8_cut 5 s _ zG RX8 D k L := ⟨⟨hx, hb, hml, hown, hg⟩, hK, hLn, hE⟩
  have h : zH D k Γ L s F s.heap [] := ⟨hP, hI, va_S.rf⟩
  have hl := lv_entry ([.ref tk, .ref fr, .int q]) (n := 5) (Nat.le_of_ble_eq_true rfl)
  rw [lg_entry_eq]
  generalize (lg_sl ([.ref tk, .ref fr, .int q]) ++ List.replicate (5 - (lg_sl ([.ref tk, .ref fr, .int q])).length) Slot.unset).toArray = ls at hl ⊢
  have hl : lv_has ls 5 [(0, .ref tk), (1, .ref fr), (2, .int q)] := hl
  clear hP hK hLn hE hI
  generalize hargs : ([.ref tk, .ref fr, .int q] : List Value).toArray = args at *
  refine z_start (fun R Q hRf hRl hQ => ?_)
  have hRf : R.frames = 7 := hRf
  have hRl : R.locals = 153 := hRl
  have h9 := h
  refine lv_aload_n hx hb dX8_cut_0 rfl (lv_at hl 0 rfl) ?_
  refine lv_iconst (v := 0) hx hb dX8_cut_1 (by decide) ?_
  refine lv_iload_n hx hb dX8_cut_2 rfl (lv_at hl 2 rfl) ?_
  refine lv_aload_n hx hb dX8_cut_3 rfl (lv_at hl 1 rfl) ?_
  refine zt_alen (t := 100) Z h hfr ⟨by decide, rfl⟩ (by decide) (v := 600) rfl dX8_cut_4 ?_
  refine lv_aload_n hx hb dX8_cut_5 rfl (lv_at hl 0 rfl) ?_
  refine zt_getr (t := 8) (C := RX8) (T := TX8) (N := 6) Z h htk zin_8 rfl 0 rfl ⟨by decide, rfl⟩ (zm_RX8 (List.mem_of_getElem? (i := 12) rfl)) (fun _ h9 => h9) dX8_cut_6 (fun a_1 ka_1 ha_1 => ?_)
  refine zt_alen (t := 157) Z h ha_1 ⟨by decide, rfl⟩ (by decide) (v := 600) rfl dX8_cut_9 ?_
  refine va_mmin hx hb (by rw [hml]; exact hl.1.symm) hown (hg _ (zm_RX8 (List.mem_of_getElem? (i := 13) rfl))) (hg _ (zm_RX8 (List.mem_of_getElem? (i := 14) rfl))) (hg _ (zm_RX8 (List.mem_of_getElem? (i := 15) rfl))) (hg _ (zm_RX8 (List.mem_of_getElem? (i := 16) rfl))) (z_leR hRf (by decide)) (z_leR hRl (Nat.le_of_ble_eq_true rfl)) (Nat.zero_le _) (Nat.zero_le _) dX8_cut_10 ?_
  refine lv_topi (fun z_2 ez_2 => ?_)
  have ez_2 := ez_2.trans (show _ = (600 : Int32) by decide)
  subst ez_2
  refine va_mmin hx hb (by rw [hml]; exact hl.1.symm) hown (hg _ (zm_RX8 (List.mem_of_getElem? (i := 13) rfl))) (hg _ (zm_RX8 (List.mem_of_getElem? (i := 14) rfl))) (hg _ (zm_RX8 (List.mem_of_getElem? (i := 15) rfl))) (hg _ (zm_RX8 (List.mem_of_getElem? (i := 16) rfl))) (z_leR hRf (by decide)) (z_leR hRl (Nat.le_of_ble_eq_true rfl)) (Nat.zero_le _) (Nat.zero_le _) dX8_cut_13 ?_
  refine zi_min (lo := 0) (hi := 600) bq (zBc 600 600 (by decide)) (by decide) (fun x_3 bx_3 tx_3 => ?_)
  refine va_mmax hx hb (by rw [hml]; exact hl.1.symm) hown (hg _ (zm_RX8 (List.mem_of_getElem? (i := 17) rfl))) (hg _ (zm_RX8 (List.mem_of_getElem? (i := 18) rfl))) (hg _ (zm_RX8 (List.mem_of_getElem? (i := 15) rfl))) (hg _ (zm_RX8 (List.mem_of_getElem? (i := 19) rfl))) (z_leR hRf (by decide)) (z_leR hRl (Nat.le_of_ble_eq_true rfl)) (Nat.zero_le _) (Nat.zero_le _) dX8_cut_16 ?_
  refine zi_max (lo := 0) (hi := 600) (zBc 0 0 (by decide)) bx_3 (by decide) (fun x_4 bx_4 tx_4 => ?_)
  refine zt_put (t := 8) (C := RX8) (T := TX8) (N := 6) (v := .int x_4) Z h htk zin_8 tyX8 tyX8_ok nmX8 rfl 1 rfl ⟨by decide, rfl⟩ (zm_RX8 (List.mem_of_getElem? (i := 20) rfl)) (fun _ h9 => h9) rfl (zV.i bx_4) rfl rfl dX8_cut_19 (fun H locs F_5 h hfF_5 kF_5 => ?_)
  have hcp_ : ∀ i, zel F_5 fr i = zel F fr i := fun i => congrFun (hfF_5.elf hfr ⟨by decide, by decide⟩) i
  refine lv_aload_n hx hb dX8_cut_22 rfl (lv_at hl 1 rfl) ?_
  refine lv_iconst (v := 0) hx hb dX8_cut_23 (by decide) ?_
  refine lv_aload_n hx hb dX8_cut_24 rfl (lv_at hl 0 rfl) ?_
  refine zt_getk (t := 8) (C := RX8) (T := TX8) (N := 6) Z h htk zin_8 rfl 0 (hfF_5.f htk 0 ⟨by decide, by decide⟩ ka_1) ⟨by decide, rfl, by decide⟩ (zm_RX8 (List.mem_of_getElem? (i := 12) rfl)) (fun _ h9 => h9) dX8_cut_25 ?_
  refine lv_iconst (v := 0) hx hb dX8_cut_28 (by decide) ?_
  refine lv_aload_n hx hb dX8_cut_29 rfl (lv_at hl 0 rfl) ?_
  refine zt_getk (t := 8) (C := RX8) (T := TX8) (N := 6) Z h htk zin_8 rfl 1 kF_5 ⟨by decide, rfl, by decide⟩ (zm_RX8 (List.mem_of_getElem? (i := 20) rfl)) (fun _ h9 => h9) dX8_cut_30 ?_
  refine zt_copy (nn := 600) Z h hfr ha_1 ⟨by decide, rfl⟩ ⟨by decide, rfl⟩ bx_4 (by rw [hml]; exact hl.1.symm) (hg _ (zm_RX8 (List.mem_of_getElem? (i := 21) rfl))) (hg _ (zm_RX8 (List.mem_of_getElem? (i := 23) rfl))) (hg _ (zm_RX8 (List.mem_of_getElem? (i := 22) rfl))) (hg _ (zm_RX8 (List.mem_of_getElem? (i := 24) rfl))) (z_leR hRf (by decide)) (z_leR hRl (by decide)) dX8_cut_33 (fun H locs F_6 h hfF_6 cpF_6 => ?_)
  have ad_7 := z_ad (j := 0) (c := 157) h.2.1 htk (by decide) rfl
  have hln_ : x_4.toInt = nt ∧ nt ≤ 600 := ⟨by have := bq.1; have := bq.2; have := bx_4.1; have := bx_4.2; have : (0 : Int32).toInt = 0 := (by decide); have : (600 : Int32).toInt = 600 := (by decide); omega, by have := bq.1; have := bq.2; have := bx_4.1; have := bx_4.2; have : (0 : Int32).toInt = 0 := (by decide); have : (600 : Int32).toInt = 600 := (by decide); omega⟩
  have htx_ : zTx Γ F_6 tk Bt nt := zTx.mk ad_7 (hfF_6.f htk 0 ⟨by decide, by decide⟩ (hfF_5.f htk 0 ⟨by decide, by decide⟩ ka_1)) (hfF_6.f htk 1 ⟨by decide, by decide⟩ kF_5) (by have := bq.1; have := bq.2; have := bx_4.1; have := bx_4.2; have : (0 : Int32).toInt = 0 := (by decide); have : (600 : Int32).toInt = 600 := (by decide); omega) (by have := bq.1; have := bq.2; have := bx_4.1; have := bx_4.2; have : (0 : Int32).toInt = 0 := (by decide); have : (600 : Int32).toInt = 600 := (by decide); omega) (fun i hi => (cpF_6 i hi).trans (by rw [← hr1]; exact (hcp_ i)))
  refine lv_aload_n hx hb dX8_cut_36 rfl (lv_at hl 0 rfl) ?_
  refine lv_iconst (v := 0) hx hb dX8_cut_37 (by decide) ?_
  refine zt_put (t := 8) (C := RX8) (T := TX8) (N := 6) (v := .int 0) Z h htk zin_8 tyX8 tyX8_ok nmX8 rfl 5 rfl ⟨by decide, rfl⟩ (zm_RX8 (List.mem_of_getElem? (i := 25) rfl)) (fun _ h9 => h9) rfl (zV.i (zB.of ⟨by decide, by decide⟩)) rfl rfl dX8_cut_38 (fun H locs F_8 h hfF_8 kF_8 => ?_)
  refine lv_iconst (v := 0) hx hb dX8_cut_41 (by decide) ?_
  refine lv_istore_n (lv' := [(3, .int 0), (0, .ref tk), (1, .ref fr), (2, .int q)]) hx hb dX8_cut_42 rfl hl (by decide) rfl (fun ls hl => ?_)
  have j_j43_9 : ∀ (n : Nat) (ls : Array Slot) (y3_j43_9 : Int32) (ks_j43_9 : Int32) (F_10 : Nat → va_E) (H : Heap) (locs : List Loc), lv_has ls 5 [(3, .int y3_j43_9), (0, .ref tk)] → zB 0 600 y3_j43_9 → zH D k Γ L s F_10 H locs → zFr Γ [805, 10100, 15500, 15600] F_8 F_10 → zfld F_10 tk 5 = .int ks_j43_9 → zB 0 600 ks_j43_9 → (y3_j43_9.toInt ≤ nt) → (ks_j43_9.toInt ≤ y3_j43_9.toInt) → (zTa Γ F_10 tk) → (zTm F_10 tk Bt nt ks_j43_9.toInt.toNat) → (zpo Bt nt ks_j43_9.toInt.toNat = zend (zBl Bt nt) nt y3_j43_9.toInt) → zTx Γ F_10 tk Bt nt → (2147483647 - y3_j43_9.toInt).toNat = n → W p l e R s m args below meth c H locs 0 0 Q (F0 m 43 ls []) := by
    intro n
    induction n using Nat.strongRecOn with
    | _ n ih_j43_9 =>
      intro ls y3_j43_9 ks_j43_9 F_10 H locs hl by3_j43_9 h hfF_10 hks_j43_9 bks_j43_9 r0_j43_9 r1_j43_9 r2_j43_9 r3_j43_9 r4_j43_9 ptx_j43_9 hn_j43_9
      obtain ⟨ad2_, ad3_, ad4_⟩ := r2_j43_9
      refine lv_iload_n hx hb dX8_cut_43 rfl (lv_at hl 0 rfl) ?_
      refine lv_aload_n hx hb dX8_cut_44 rfl (lv_at hl 1 rfl) ?_
      refine zt_getk (t := 8) (C := RX8) (T := TX8) (N := 6) Z h htk zin_8 rfl 1 (hfF_10.f htk 1 ⟨by decide, by decide⟩ (hfF_8.f htk 1 ⟨by decide, by decide⟩ (hfF_6.f htk 1 ⟨by decide, by decide⟩ kF_5))) ⟨by decide, rfl, by decide⟩ (zm_RX8 (List.mem_of_getElem? (i := 20) rfl)) (fun _ h9 => h9) dX8_cut_45 ?_
      refine lv_icmp_ge (tgt := 123) hx hb dX8_cut_48 (by decide) (fun c_11 => ?_) (fun c_11 => ?_)
      · have c_11 := z_le c_11
        refine lv_aload_n hx hb dX8_cut_123 rfl (lv_at hl 1 rfl) ?_
        refine lv_iconst (v := 0) hx hb dX8_cut_124 (by decide) ?_
        refine lv_aload_n hx hb dX8_cut_125 rfl (lv_at hl 1 rfl) ?_
        refine zt_getk (t := 8) (C := RX8) (T := TX8) (N := 6) Z h htk zin_8 rfl 1 (hfF_10.f htk 1 ⟨by decide, by decide⟩ (hfF_8.f htk 1 ⟨by decide, by decide⟩ (hfF_6.f htk 1 ⟨by decide, by decide⟩ kF_5))) ⟨by decide, rfl, by decide⟩ (zm_RX8 (List.mem_of_getElem? (i := 20) rfl)) (fun _ h9 => h9) dX8_cut_126 ?_
        refine lv_iconst (v := 0) hx hb dX8_cut_129 (by decide) ?_
        refine zk_Vv (As := [.int 0, .int x_4, .int 0]) (rest := []) (bytes := cX8_add) (maxL := 4) (ret := none) Z h (ze_X8_add l D k Γ L F_10 H.size tk 0 x_4 0 ks_j43_9 htk hks_j43_9 bks_j43_9) (cwV 3 hg zv_RX8_51 rfl rfl rfl zd_X8_add ⟨z_leR hRf (by decide), z_leR hRl (by decide)⟩) htk (by decide) rfl rfl hl.1 rfl (Nat.le_of_ble_eq_true rfl) dX8_cut_130 ⟨Nat.zero_le _, Nat.zero_le _⟩ (fun F_12 H locs w_13 h hfF_12 => ?_)
        obtain ⟨⟨x_15, kx_15, bx_15, q_14⟩, q_16, q_17, q_18, -⟩ := w_13
        have ad_19 := ad2_.fr hfF_12 htk ⟨by decide, by decide⟩
        have ad_20 := ad3_.fr hfF_12 htk ⟨by decide, by decide⟩
        have ad_21 := ad4_.fr hfF_12 htk ⟨by decide, by decide⟩
        have p_22 := (ptx_j43_9.fr hfF_12 htk (by decide))
        subst hQ
        exact W.vret hx hb hr (fun t ht hW => ⟨⟨F_12, rfl, ⟨(zTb.mk p_22 ⟨ad_19, ad_20, ad_21⟩ kx_15 (zTm.add r3_j43_9 q_16 q_17 q_18 (by have := by3_j43_9.1; have := by3_j43_9.2; have := bks_j43_9.1; have := bks_j43_9.2; have := bx_15.1; have := bx_15.2; have := bx_4.1; have := bx_4.2; have : (0 : Int32).toInt = 0 := (by decide); have : (600 : Int32).toInt = 600 := (by decide); omega) (by have := by3_j43_9.1; have := by3_j43_9.2; have := bks_j43_9.1; have := bks_j43_9.2; have := bx_15.1; have := bx_15.2; have := bx_4.1; have := bx_4.2; have : (0 : Int32).toInt = 0 := (by decide); have : (600 : Int32).toInt = 600 := (by decide); omega) (by rw [zBl_e (r4_j43_9).symm (Or.inl (by have := by3_j43_9.1; have := by3_j43_9.2; have := bks_j43_9.1; have := bks_j43_9.2; have := bx_15.1; have := bx_15.2; have := bx_4.1; have := bx_4.2; have : (0 : Int32).toInt = 0 := (by decide); have : (600 : Int32).toInt = 600 := (by decide); omega))]; have := by3_j43_9.1; have := by3_j43_9.2; have := bks_j43_9.1; have := bks_j43_9.2; have := bx_15.1; have := bx_15.2; have := bx_4.1; have := bx_4.2; have : (0 : Int32).toInt = 0 := (by decide); have : (600 : Int32).toInt = 600 := (by decide); omega) (by rw [zka_0 (B := Bt) (n := nt) (a := x_4.toInt) (by have := by3_j43_9.1; have := by3_j43_9.2; have := bks_j43_9.1; have := bks_j43_9.2; have := bx_15.1; have := bx_15.2; have := bx_4.1; have := bx_4.2; have : (0 : Int32).toInt = 0 := (by decide); have : (600 : Int32).toInt = 600 := (by decide); omega)]; decide) (zwa_n (B := Bt) (n := nt) (a := x_4.toInt) (by have := by3_j43_9.1; have := by3_j43_9.2; have := bks_j43_9.1; have := bks_j43_9.2; have := bx_15.1; have := bx_15.2; have := bx_4.1; have := bx_4.2; have : (0 : Int32).toInt = 0 := (by decide); have : (600 : Int32).toInt = 600 := (by decide); omega))) ⟨by have := by3_j43_9.1; have := by3_j43_9.2; have := bks_j43_9.1; have := bks_j43_9.2; have := bx_15.1; have := bx_15.2; have := bx_4.1; have := bx_4.2; have : (0 : Int32).toInt = 0 := (by decide); have : (600 : Int32).toInt = 600 := (by decide); omega, by have := by3_j43_9.1; have := by3_j43_9.2; have := bks_j43_9.1; have := bks_j43_9.2; have := bx_15.1; have := bx_15.2; have := bx_4.1; have := bx_4.2; have : (0 : Int32).toInt = 0 := (by decide); have : (600 : Int32).toInt = 600 := (by decide); omega⟩ (pl := x_4.toInt) (by rw [show x_15.toInt.toNat - 1 = ks_j43_9.toInt.toNat by have := by3_j43_9.1; have := by3_j43_9.2; have := bks_j43_9.1; have := bks_j43_9.2; have := bx_15.1; have := bx_15.2; have := bx_4.1; have := bx_4.2; have : (0 : Int32).toInt = 0 := (by decide); have : (600 : Int32).toInt = 600 := (by decide); omega]; exact (by rw [zBl_e (r4_j43_9).symm (Or.inl (by have := by3_j43_9.1; have := by3_j43_9.2; have := bks_j43_9.1; have := bks_j43_9.2; have := bx_15.1; have := bx_15.2; have := bx_4.1; have := bx_4.2; have : (0 : Int32).toInt = 0 := (by decide); have : (600 : Int32).toInt = 600 := (by decide); omega))]; have := by3_j43_9.1; have := by3_j43_9.2; have := bks_j43_9.1; have := bks_j43_9.2; have := bx_15.1; have := bx_15.2; have := bx_4.1; have := bx_4.2; have : (0 : Int32).toInt = 0 := (by decide); have : (600 : Int32).toInt = 600 := (by decide); omega)) (Or.inl (zka_0 (B := Bt) (n := nt) (a := x_4.toInt) (by have := by3_j43_9.1; have := by3_j43_9.2; have := bks_j43_9.1; have := bks_j43_9.2; have := bx_15.1; have := bx_15.2; have := bx_4.1; have := bx_4.2; have : (0 : Int32).toInt = 0 := (by decide); have : (600 : Int32).toInt = 600 := (by decide); omega)))), trivial⟩, by rw [ht]; exact h.1, h.2.1, (((((hfF_5.w (by decide)).trans hfF_6 (by decide)).trans hfF_8 (by decide)).trans hfF_10 (by decide)).trans hfF_12 (by decide))⟩, h.2.2.F ht⟩) h.2.2.2.2 dX8_cut_133
      · have c_11 := z_nle c_11
        have by3_j43_9_23 : zB 0 599 y3_j43_9 := zB.ltL c_11 by3_j43_9 bx_4 (by decide)
        have bx_4_24 : zB 1 600 x_4 := zB.ltR c_11 by3_j43_9 bx_4 (by decide)
        refine lv_aload_n hx hb dX8_cut_51 rfl (lv_at hl 1 rfl) ?_
        refine zt_getk (t := 8) (C := RX8) (T := TX8) (N := 6) Z h htk zin_8 rfl 0 (hfF_10.f htk 0 ⟨by decide, by decide⟩ (hfF_8.f htk 0 ⟨by decide, by decide⟩ (hfF_6.f htk 0 ⟨by decide, by decide⟩ (hfF_5.f htk 0 ⟨by decide, by decide⟩ ka_1)))) ⟨by decide, rfl, by decide⟩ (zm_RX8 (List.mem_of_getElem? (i := 12) rfl)) (fun _ h9 => h9) dX8_cut_52 ?_
        refine lv_iload_n hx hb dX8_cut_55 rfl (lv_at hl 0 rfl) ?_
        refine zt_balde (t := 157) Z h ha_1 ⟨by decide, rfl⟩ by3_j43_9_23 ⟨by decide, by decide⟩ dX8_cut_56 (fun x_25 ex_25 bx_25 => ?_)
        have q_26 := zTx.by ptx_j43_9 (hfF_10.f htk 0 ⟨by decide, by decide⟩ (hfF_8.f htk 0 ⟨by decide, by decide⟩ (hfF_6.f htk 0 ⟨by decide, by decide⟩ (hfF_5.f htk 0 ⟨by decide, by decide⟩ ka_1)))) ex_25 ⟨(by have := by3_j43_9_23.1; have := by3_j43_9_23.2; have := bx_25.1; have := bx_25.2; have := bx_4_24.1; have := bx_4_24.2; have := bks_j43_9.1; have := bks_j43_9.2; have : (0 : Int32).toInt = 0 := (by decide); have : (600 : Int32).toInt = 600 := (by decide); omega), (by have := by3_j43_9_23.1; have := by3_j43_9_23.2; have := bx_25.1; have := bx_25.2; have := bx_4_24.1; have := bx_4_24.2; have := bks_j43_9.1; have := bks_j43_9.2; have : (0 : Int32).toInt = 0 := (by decide); have : (600 : Int32).toInt = 600 := (by decide); omega)⟩
        refine lv_bipush (v := 32) hx hb dX8_cut_57 (by decide) ?_
        refine lv_icmp_eq (tgt := 117) hx hb dX8_cut_59 (by decide) (fun c_27 => ?_) (fun c_27 => ?_)
        · have c_27 := z_eq c_27
          have bx_25_28 : zB 32 32 x_25 := zB.eqL (a := 0) (b := 0) c_27 (zBc 32 32 (by decide))
          obtain ⟨x_29, ex_29, bx_29, tx_29⟩ := z_inc (n := 1) (lo := 1) (hi := 600) by3_j43_9_23 (by decide)
          refine lv_iinc (v := x_29) (lv' := [(3, .int x_29), (0, .ref tk)]) hx hb dX8_cut_117 hl (k := 0) rfl ex_29 (by decide) rfl (fun ls hl => ?_)
          refine lv_goto (tgt := 43) hx hb dX8_cut_120 (by decide) ?_
          exact ih_j43_9 _ (by have := bx_29.1; have := bx_29.2; have := bks_j43_9.1; have := bks_j43_9.2; have := bx_4_24.1; have := bx_4_24.2; have : (0 : Int32).toInt = 0 := (by decide); have : (32 : Int32).toInt = 32 := (by decide); have : (600 : Int32).toInt = 600 := (by decide); have := by3_j43_9.1; have := by3_j43_9.2; omega) ls x_29 ks_j43_9 F_10 H locs (lv_sub hl [0, 1] rfl) (bx_29.w ⟨by decide, by decide⟩) h hfF_10 hks_j43_9 bks_j43_9 (by have := bx_29.1; have := bx_29.2; have := bks_j43_9.1; have := bks_j43_9.2; have := bx_4_24.1; have := bx_4_24.2; have : (0 : Int32).toInt = 0 := (by decide); have : (32 : Int32).toInt = 32 := (by decide); have : (600 : Int32).toInt = 600 := (by decide); omega) (by have := bx_29.1; have := bx_29.2; have := bks_j43_9.1; have := bks_j43_9.2; have := bx_4_24.1; have := bx_4_24.2; have : (0 : Int32).toInt = 0 := (by decide); have : (32 : Int32).toInt = 32 := (by decide); have : (600 : Int32).toInt = 600 := (by decide); omega) ⟨ad2_, ad3_, ad4_⟩ r3_j43_9 (zBl_s (r4_j43_9).symm (by have := bx_29.1; have := bx_29.2; have := by3_j43_9_23.1; have := by3_j43_9_23.2; have := bx_4_24.1; have := bx_4_24.2; have := bks_j43_9.1; have := bks_j43_9.2; have : (0 : Int32).toInt = 0 := (by decide); have : (32 : Int32).toInt = 32 := (by decide); have : (600 : Int32).toInt = 600 := (by decide); omega) (by have := bx_29.1; have := bx_29.2; have := by3_j43_9_23.1; have := by3_j43_9_23.2; have := bx_4_24.1; have := bx_4_24.2; have := bks_j43_9.1; have := bks_j43_9.2; have : (0 : Int32).toInt = 0 := (by decide); have : (32 : Int32).toInt = 32 := (by decide); have : (600 : Int32).toInt = 600 := (by decide); omega)).symm ptx_j43_9 rfl
        · have c_27 := z_ne c_27
          refine lv_aload_n hx hb dX8_cut_62 rfl (lv_at hl 1 rfl) ?_
          refine zt_getk (t := 8) (C := RX8) (T := TX8) (N := 6) Z h htk zin_8 rfl 0 (hfF_10.f htk 0 ⟨by decide, by decide⟩ (hfF_8.f htk 0 ⟨by decide, by decide⟩ (hfF_6.f htk 0 ⟨by decide, by decide⟩ (hfF_5.f htk 0 ⟨by decide, by decide⟩ ka_1)))) ⟨by decide, rfl, by decide⟩ (zm_RX8 (List.mem_of_getElem? (i := 12) rfl)) (fun _ h9 => h9) dX8_cut_63 ?_
          refine lv_iload_n hx hb dX8_cut_66 rfl (lv_at hl 0 rfl) ?_
          refine zt_balde (t := 157) Z h ha_1 ⟨by decide, rfl⟩ by3_j43_9_23 ⟨by decide, by decide⟩ dX8_cut_67 (fun x_30 ex_30 bx_30 => ?_)
          have q_31 := zTx.by ptx_j43_9 (hfF_10.f htk 0 ⟨by decide, by decide⟩ (hfF_8.f htk 0 ⟨by decide, by decide⟩ (hfF_6.f htk 0 ⟨by decide, by decide⟩ (hfF_5.f htk 0 ⟨by decide, by decide⟩ ka_1)))) ex_30 ⟨(by have := by3_j43_9_23.1; have := by3_j43_9_23.2; have := bx_30.1; have := bx_30.2; have := bx_4_24.1; have := bx_4_24.2; have := bks_j43_9.1; have := bks_j43_9.2; have : (0 : Int32).toInt = 0 := (by decide); have : (32 : Int32).toInt = 32 := (by decide); have : (600 : Int32).toInt = 600 := (by decide); omega), (by have := by3_j43_9_23.1; have := by3_j43_9_23.2; have := bx_30.1; have := bx_30.2; have := bx_4_24.1; have := bx_4_24.2; have := bks_j43_9.1; have := bks_j43_9.2; have : (0 : Int32).toInt = 0 := (by decide); have : (32 : Int32).toInt = 32 := (by decide); have : (600 : Int32).toInt = 600 := (by decide); omega)⟩
          refine lv_bipush (v := 10) hx hb dX8_cut_68 (by decide) ?_
          refine lv_icmp_ne (tgt := 76) hx hb dX8_cut_70 (by decide) (fun c_32 => ?_) (fun c_32 => ?_)
          · have c_32 := z_ne c_32
            have hpo_ := zBl_e (r4_j43_9).symm (Or.inr (by have := by3_j43_9_23.1; have := by3_j43_9_23.2; have := bx_4_24.1; have := bx_4_24.2; have := bks_j43_9.1; have := bks_j43_9.2; have : (0 : Int32).toInt = 0 := (by decide); have : (10 : Int32).toInt = 10 := (by decide); have : (32 : Int32).toInt = 32 := (by decide); have : (600 : Int32).toInt = 600 := (by decide); omega))
            refine lv_aload_n hx hb dX8_cut_76 rfl (lv_at hl 1 rfl) ?_
            refine lv_iload_n hx hb dX8_cut_77 rfl (lv_at hl 0 rfl) ?_
            refine zk_Vi (As := [.int y3_j43_9]) (rest := []) (bytes := cX8_widthAt) (maxL := 3) (ret := (some .int)) Z h (ze_X8_widthAt l D k Γ L F_10 H.size tk y3_j43_9 Bt nt htk by3_j43_9_23 ptx_j43_9 (by have := by3_j43_9_23.1; have := by3_j43_9_23.2; have := bx_4_24.1; have := bx_4_24.2; have := bks_j43_9.1; have := bks_j43_9.2; have : (0 : Int32).toInt = 0 := (by decide); have : (10 : Int32).toInt = 10 := (by decide); have : (32 : Int32).toInt = 32 := (by decide); have : (600 : Int32).toInt = 600 := (by decide); omega)) (cwV 1 hg zv_RX8_47 rfl rfl rfl zd_X8_widthAt ⟨z_leR hRf (by decide), z_leR hRl (by decide)⟩) htk (by decide) rfl rfl hl.1 rfl (Nat.le_of_ble_eq_true rfl) dX8_cut_78 ⟨Nat.zero_le _, Nat.zero_le _⟩ (fun r_33 F_34 H locs w_35 h hfF_34 => ?_)
            obtain ⟨rfl, br_33, q_36, -⟩ := w_35
            refine lv_istore (lv' := [(4, .int r_33), (3, .int y3_j43_9), (0, .ref tk)]) hx hb dX8_cut_81 hl (by decide) rfl (fun ls hl => ?_)
            refine lv_iload hx hb dX8_cut_83 (lv_at hl 0 rfl) ?_
            refine lv_if_ne (tgt := 96) hx hb dX8_cut_85 (by decide) (fun c_37 => ?_) (fun c_37 => ?_)
            · have c_37 := z_ne c_37
              have br_33_38 : zB 1 8 r_33 := zB.neLo c_37 br_33 (zBc 0 0 (by decide)) (by decide)
              refine lv_aload_n hx hb dX8_cut_96 rfl (lv_at hl 2 rfl) ?_
              refine lv_aload_n hx hb dX8_cut_97 rfl (lv_at hl 2 rfl) ?_
              refine lv_iload_n hx hb dX8_cut_98 rfl (lv_at hl 1 rfl) ?_
              refine lv_iload hx hb dX8_cut_99 (lv_at hl 0 rfl) ?_
              refine zk_Vi (As := [.int y3_j43_9, .int r_33]) (rest := [.ref tk]) (bytes := cX8_kindOf) (maxL := 3) (ret := (some .int)) Z h (ze_X8_kindOf l D k Γ L F_10 H.size tk y3_j43_9 r_33 Bt nt htk by3_j43_9_23 br_33_38 ptx_j43_9 (by have := br_33_38.1; have := br_33_38.2; have := by3_j43_9_23.1; have := by3_j43_9_23.2; have := bx_4_24.1; have := bx_4_24.2; have := bks_j43_9.1; have := bks_j43_9.2; have : (0 : Int32).toInt = 0 := (by decide); have : (10 : Int32).toInt = 10 := (by decide); have : (32 : Int32).toInt = 32 := (by decide); have : (600 : Int32).toInt = 600 := (by decide); omega) (by have := br_33_38.1; have := br_33_38.2; have := by3_j43_9_23.1; have := by3_j43_9_23.2; have := bx_4_24.1; have := bx_4_24.2; have := bks_j43_9.1; have := bks_j43_9.2; have : (0 : Int32).toInt = 0 := (by decide); have : (10 : Int32).toInt = 10 := (by decide); have : (32 : Int32).toInt = 32 := (by decide); have : (600 : Int32).toInt = 600 := (by decide); omega)) (cwV 2 hg zv_RX8_55 rfl rfl rfl zd_X8_kindOf ⟨z_leR hRf (by decide), z_leR hRl (by decide)⟩) htk (by decide) rfl rfl hl.1 rfl (Nat.le_of_ble_eq_true rfl) dX8_cut_101 ⟨Nat.zero_le _, Nat.zero_le _⟩ (fun r_39 F_40 H locs w_41 h hfF_40 => ?_)
              obtain ⟨rfl, q_42, -⟩ := w_41
              have br_39 := zB.all r_39
              refine lv_iload_n hx hb dX8_cut_104 rfl (lv_at hl 1 rfl) ?_
              refine lv_iload hx hb dX8_cut_105 (lv_at hl 0 rfl) ?_
              refine zk_Vv (As := [.int r_39, .int y3_j43_9, .int r_33]) (rest := []) (bytes := cX8_add) (maxL := 4) (ret := none) Z h (ze_X8_add l D k Γ L F_10 H.size tk r_39 y3_j43_9 r_33 ks_j43_9 htk hks_j43_9 bks_j43_9) (cwV 3 hg zv_RX8_51 rfl rfl rfl zd_X8_add ⟨z_leR hRf (by decide), z_leR hRl (by decide)⟩) htk (by decide) rfl rfl hl.1 rfl (Nat.le_of_ble_eq_true rfl) dX8_cut_107 ⟨Nat.zero_le _, Nat.zero_le _⟩ (fun F_43 H locs w_44 h hfF_43 => ?_)
              obtain ⟨⟨x_46, kx_46, bx_46, q_45⟩, q_47, q_48, q_49, -⟩ := w_44
              have htm_ := zTm.add r3_j43_9 q_47 q_48 q_49 (by have := br_33_38.1; have := br_33_38.2; have := by3_j43_9_23.1; have := by3_j43_9_23.2; have := bks_j43_9.1; have := bks_j43_9.2; have := bx_46.1; have := bx_46.2; have := bx_4_24.1; have := bx_4_24.2; have : (0 : Int32).toInt = 0 := (by decide); have : (10 : Int32).toInt = 10 := (by decide); have : (32 : Int32).toInt = 32 := (by decide); have : (600 : Int32).toInt = 600 := (by decide); omega) (by have := br_33_38.1; have := br_33_38.2; have := by3_j43_9_23.1; have := by3_j43_9_23.2; have := bks_j43_9.1; have := bks_j43_9.2; have := bx_46.1; have := bx_46.2; have := bx_4_24.1; have := bx_4_24.2; have : (0 : Int32).toInt = 0 := (by decide); have : (10 : Int32).toInt = 10 := (by decide); have : (32 : Int32).toInt = 32 := (by decide); have : (600 : Int32).toInt = 600 := (by decide); omega) hpo_ q_42.symm q_36.symm
              have hte_ := zte_n (B := Bt) (n := nt) (a := y3_j43_9.toInt) (by have := br_33_38.1; have := br_33_38.2; have := by3_j43_9_23.1; have := by3_j43_9_23.2; have := bks_j43_9.1; have := bks_j43_9.2; have := bx_46.1; have := bx_46.2; have := bx_4_24.1; have := bx_4_24.2; have : (0 : Int32).toInt = 0 := (by decide); have : (10 : Int32).toInt = 10 := (by decide); have : (32 : Int32).toInt = 32 := (by decide); have : (600 : Int32).toInt = 600 := (by decide); omega)
              have hwt_ := zwa_te (B := Bt) (n := nt) (a := y3_j43_9.toInt) (by rw [← q_36]; have := br_33_38.1; have := br_33_38.2; have := by3_j43_9_23.1; have := by3_j43_9_23.2; have := bks_j43_9.1; have := bks_j43_9.2; have := bx_46.1; have := bx_46.2; have := bx_4_24.1; have := bx_4_24.2; have : (0 : Int32).toInt = 0 := (by decide); have : (10 : Int32).toInt = 10 := (by decide); have : (32 : Int32).toInt = 32 := (by decide); have : (600 : Int32).toInt = 600 := (by decide); omega)
              refine lv_iload_n hx hb dX8_cut_110 rfl (lv_at hl 1 rfl) ?_
              refine lv_iload hx hb dX8_cut_111 (lv_at hl 0 rfl) ?_
              refine lv_iconst (v := 1) hx hb dX8_cut_113 (by decide) ?_
              refine lv_isub hx hb dX8_cut_114 ?_
              refine zi_sub (lo := 0) (hi := 7) br_33_38 (zBc 1 1 (by decide)) (by decide) (fun x_50 bx_50 tx_50 => ?_)
              refine lv_iadd hx hb dX8_cut_115 ?_
              refine zi_add (lo := 0) (hi := 606) by3_j43_9_23 bx_50 (by decide) (fun x_51 bx_51 tx_51 => ?_)
              refine lv_istore_n (lv' := [(3, .int x_51), (4, .int r_33), (0, .ref tk)]) hx hb dX8_cut_116 rfl hl (by decide) rfl (fun ls hl => ?_)
              obtain ⟨x_52, ex_52, bx_52, tx_52⟩ := z_inc (n := 1) (lo := 1) (hi := 607) bx_51 (by decide)
              refine lv_iinc (v := x_52) (lv' := [(3, .int x_52), (4, .int r_33), (0, .ref tk)]) hx hb dX8_cut_117 hl (k := 0) rfl ex_52 (by decide) rfl (fun ls hl => ?_)
              refine lv_goto (tgt := 43) hx hb dX8_cut_120 (by decide) ?_
              have ad_53 := ad2_.fr hfF_43 htk ⟨by decide, by decide⟩
              have ad_54 := ad3_.fr hfF_43 htk ⟨by decide, by decide⟩
              have ad_55 := ad4_.fr hfF_43 htk ⟨by decide, by decide⟩
              have p_56 := (ptx_j43_9.fr hfF_43 htk (by decide))
              exact ih_j43_9 _ (by have := bx_52.1; have := bx_52.2; have := br_33_38.1; have := br_33_38.2; have := bx_46.1; have := bx_46.2; have := bx_4_24.1; have := bx_4_24.2; have : (0 : Int32).toInt = 0 := (by decide); have : (1 : Int32).toInt = 1 := (by decide); have : (10 : Int32).toInt = 10 := (by decide); have : (32 : Int32).toInt = 32 := (by decide); have : (600 : Int32).toInt = 600 := (by decide); have := by3_j43_9.1; have := by3_j43_9.2; omega) ls x_52 x_46 F_43 H locs (lv_sub hl [0, 2] rfl) (zB.of ⟨by have := bx_52.1; have := bx_52.2; have := br_33_38.1; have := br_33_38.2; have := bx_4_24.1; have := bx_4_24.2; have := bx_46.1; have := bx_46.2; have : (0 : Int32).toInt = 0 := (by decide); have : (1 : Int32).toInt = 1 := (by decide); have : (10 : Int32).toInt = 10 := (by decide); have : (32 : Int32).toInt = 32 := (by decide); have : (600 : Int32).toInt = 600 := (by decide); omega, by have := bx_52.1; have := bx_52.2; have := br_33_38.1; have := br_33_38.2; have := bx_4_24.1; have := bx_4_24.2; have := bx_46.1; have := bx_46.2; have : (0 : Int32).toInt = 0 := (by decide); have : (1 : Int32).toInt = 1 := (by decide); have : (10 : Int32).toInt = 10 := (by decide); have : (32 : Int32).toInt = 32 := (by decide); have : (600 : Int32).toInt = 600 := (by decide); omega⟩) h (hfF_10.trans hfF_43 (by decide)) kx_46 (zB.of ⟨by have := bx_52.1; have := bx_52.2; have := br_33_38.1; have := br_33_38.2; have := bx_46.1; have := bx_46.2; have := bx_4_24.1; have := bx_4_24.2; have : (0 : Int32).toInt = 0 := (by decide); have : (1 : Int32).toInt = 1 := (by decide); have : (10 : Int32).toInt = 10 := (by decide); have : (32 : Int32).toInt = 32 := (by decide); have : (600 : Int32).toInt = 600 := (by decide); omega, by have := bx_52.1; have := bx_52.2; have := br_33_38.1; have := br_33_38.2; have := bx_46.1; have := bx_46.2; have := bx_4_24.1; have := bx_4_24.2; have : (0 : Int32).toInt = 0 := (by decide); have : (1 : Int32).toInt = 1 := (by decide); have : (10 : Int32).toInt = 10 := (by decide); have : (32 : Int32).toInt = 32 := (by decide); have : (600 : Int32).toInt = 600 := (by decide); omega⟩) (by have := bx_52.1; have := bx_52.2; have := br_33_38.1; have := br_33_38.2; have := bx_46.1; have := bx_46.2; have := bx_4_24.1; have := bx_4_24.2; have : (0 : Int32).toInt = 0 := (by decide); have : (1 : Int32).toInt = 1 := (by decide); have : (10 : Int32).toInt = 10 := (by decide); have : (32 : Int32).toInt = 32 := (by decide); have : (600 : Int32).toInt = 600 := (by decide); omega) (by have := bx_52.1; have := bx_52.2; have := br_33_38.1; have := br_33_38.2; have := bx_46.1; have := bx_46.2; have := bx_4_24.1; have := bx_4_24.2; have : (0 : Int32).toInt = 0 := (by decide); have : (1 : Int32).toInt = 1 := (by decide); have : (10 : Int32).toInt = 10 := (by decide); have : (32 : Int32).toInt = 32 := (by decide); have : (600 : Int32).toInt = 600 := (by decide); omega) ⟨ad_53, ad_54, ad_55⟩ htm_ (by rw [show x_46.toInt.toNat = ks_j43_9.toInt.toNat + 1 by have := bx_52.1; have := bx_52.2; have := br_33_38.1; have := br_33_38.2; have := bks_j43_9.1; have := bks_j43_9.2; have := bx_46.1; have := bx_46.2; have := bx_4_24.1; have := bx_4_24.2; have : (0 : Int32).toInt = 0 := (by decide); have : (1 : Int32).toInt = 1 := (by decide); have : (10 : Int32).toInt = 10 := (by decide); have : (32 : Int32).toInt = 32 := (by decide); have : (600 : Int32).toInt = 600 := (by decide); omega]; show zend (zBl Bt nt) nt (zte Bt nt (zpo Bt nt ks_j43_9.toInt.toNat)) = _; rw [hpo_, ← zwa_te (B := Bt) (n := nt) (a := y3_j43_9.toInt) (by rw [← q_36]; have := bx_52.1; have := bx_52.2; have := br_33_38.1; have := br_33_38.2; have := by3_j43_9_23.1; have := by3_j43_9_23.2; have := bx_4_24.1; have := bx_4_24.2; have := bx_46.1; have := bx_46.2; have : (0 : Int32).toInt = 0 := (by decide); have : (1 : Int32).toInt = 1 := (by decide); have : (10 : Int32).toInt = 10 := (by decide); have : (32 : Int32).toInt = 32 := (by decide); have : (600 : Int32).toInt = 600 := (by decide); omega), ← q_36]; congr 1; have := bx_52.1; have := bx_52.2; have := br_33_38.1; have := br_33_38.2; have := by3_j43_9_23.1; have := by3_j43_9_23.2; have := bx_4_24.1; have := bx_4_24.2; have := bx_46.1; have := bx_46.2; have : (0 : Int32).toInt = 0 := (by decide); have : (1 : Int32).toInt = 1 := (by decide); have : (10 : Int32).toInt = 10 := (by decide); have : (32 : Int32).toInt = 32 := (by decide); have : (600 : Int32).toInt = 600 := (by decide); omega) p_56 rfl
            · have c_37 := z_eq c_37
              have br_33_57 : zB 0 0 r_33 := zB.eqL (a := 0) (b := 0) c_37 (zBc 0 0 (by decide))
              refine lv_aload_n hx hb dX8_cut_88 rfl (lv_at hl 2 rfl) ?_
              refine lv_iconst (v := 1) hx hb dX8_cut_89 (by decide) ?_
              refine lv_iload_n hx hb dX8_cut_90 rfl (lv_at hl 1 rfl) ?_
              refine lv_iconst (v := 0) hx hb dX8_cut_91 (by decide) ?_
              refine zk_Vv (As := [.int 1, .int y3_j43_9, .int 0]) (rest := []) (bytes := cX8_add) (maxL := 4) (ret := none) Z h (ze_X8_add l D k Γ L F_10 H.size tk 1 y3_j43_9 0 ks_j43_9 htk hks_j43_9 bks_j43_9) (cwV 3 hg zv_RX8_51 rfl rfl rfl zd_X8_add ⟨z_leR hRf (by decide), z_leR hRl (by decide)⟩) htk (by decide) rfl rfl hl.1 rfl (Nat.le_of_ble_eq_true rfl) dX8_cut_92 ⟨Nat.zero_le _, Nat.zero_le _⟩ (fun F_58 H locs w_59 h hfF_58 => ?_)
              obtain ⟨⟨x_61, kx_61, bx_61, q_60⟩, q_62, q_63, q_64, -⟩ := w_59
              have ad_65 := ad2_.fr hfF_58 htk ⟨by decide, by decide⟩
              have ad_66 := ad3_.fr hfF_58 htk ⟨by decide, by decide⟩
              have ad_67 := ad4_.fr hfF_58 htk ⟨by decide, by decide⟩
              have p_68 := (ptx_j43_9.fr hfF_58 htk (by decide))
              subst hQ
              exact W.vret hx hb hr (fun t ht hW => ⟨⟨F_58, rfl, ⟨(zTb.mk p_68 ⟨ad_65, ad_66, ad_67⟩ kx_61 (zTm.add r3_j43_9 q_62 q_63 q_64 (by have := br_33_57.1; have := br_33_57.2; have := by3_j43_9_23.1; have := by3_j43_9_23.2; have := bks_j43_9.1; have := bks_j43_9.2; have := bx_61.1; have := bx_61.2; have := bx_4_24.1; have := bx_4_24.2; have : (0 : Int32).toInt = 0 := (by decide); have : (10 : Int32).toInt = 10 := (by decide); have : (32 : Int32).toInt = 32 := (by decide); have : (600 : Int32).toInt = 600 := (by decide); omega) (by have := br_33_57.1; have := br_33_57.2; have := by3_j43_9_23.1; have := by3_j43_9_23.2; have := bks_j43_9.1; have := bks_j43_9.2; have := bx_61.1; have := bx_61.2; have := bx_4_24.1; have := bx_4_24.2; have : (0 : Int32).toInt = 0 := (by decide); have : (10 : Int32).toInt = 10 := (by decide); have : (32 : Int32).toInt = 32 := (by decide); have : (600 : Int32).toInt = 600 := (by decide); omega) hpo_ (by rw [zka_o (B := Bt) (n := nt) (a := y3_j43_9.toInt) (by have := br_33_57.1; have := br_33_57.2; have := by3_j43_9_23.1; have := by3_j43_9_23.2; have := bks_j43_9.1; have := bks_j43_9.2; have := bx_61.1; have := bx_61.2; have := bx_4_24.1; have := bx_4_24.2; have : (0 : Int32).toInt = 0 := (by decide); have : (10 : Int32).toInt = 10 := (by decide); have : (32 : Int32).toInt = 32 := (by decide); have : (600 : Int32).toInt = 600 := (by decide); omega) (by have := br_33_57.1; have := br_33_57.2; have := by3_j43_9_23.1; have := by3_j43_9_23.2; have := bks_j43_9.1; have := bks_j43_9.2; have := bx_61.1; have := bx_61.2; have := bx_4_24.1; have := bx_4_24.2; have : (0 : Int32).toInt = 0 := (by decide); have : (10 : Int32).toInt = 10 := (by decide); have : (32 : Int32).toInt = 32 := (by decide); have : (600 : Int32).toInt = 600 := (by decide); omega)]; decide) (by have := br_33_57.1; have := br_33_57.2; have := by3_j43_9_23.1; have := by3_j43_9_23.2; have := bks_j43_9.1; have := bks_j43_9.2; have := bx_61.1; have := bx_61.2; have := bx_4_24.1; have := bx_4_24.2; have : (0 : Int32).toInt = 0 := (by decide); have : (10 : Int32).toInt = 10 := (by decide); have : (32 : Int32).toInt = 32 := (by decide); have : (600 : Int32).toInt = 600 := (by decide); have : (0 : Int32).toInt = 0 := (by decide); omega)) ⟨by have := br_33_57.1; have := br_33_57.2; have := by3_j43_9_23.1; have := by3_j43_9_23.2; have := bks_j43_9.1; have := bks_j43_9.2; have := bx_61.1; have := bx_61.2; have := bx_4_24.1; have := bx_4_24.2; have : (0 : Int32).toInt = 0 := (by decide); have : (10 : Int32).toInt = 10 := (by decide); have : (32 : Int32).toInt = 32 := (by decide); have : (600 : Int32).toInt = 600 := (by decide); omega, by have := br_33_57.1; have := br_33_57.2; have := by3_j43_9_23.1; have := by3_j43_9_23.2; have := bks_j43_9.1; have := bks_j43_9.2; have := bx_61.1; have := bx_61.2; have := bx_4_24.1; have := bx_4_24.2; have : (0 : Int32).toInt = 0 := (by decide); have : (10 : Int32).toInt = 10 := (by decide); have : (32 : Int32).toInt = 32 := (by decide); have : (600 : Int32).toInt = 600 := (by decide); omega⟩ (pl := y3_j43_9.toInt) (by rw [show x_61.toInt.toNat - 1 = ks_j43_9.toInt.toNat by have := br_33_57.1; have := br_33_57.2; have := by3_j43_9_23.1; have := by3_j43_9_23.2; have := bks_j43_9.1; have := bks_j43_9.2; have := bx_61.1; have := bx_61.2; have := bx_4_24.1; have := bx_4_24.2; have : (0 : Int32).toInt = 0 := (by decide); have : (10 : Int32).toInt = 10 := (by decide); have : (32 : Int32).toInt = 32 := (by decide); have : (600 : Int32).toInt = 600 := (by decide); omega]; exact hpo_) (Or.inr (zka_o (B := Bt) (n := nt) (a := y3_j43_9.toInt) (by have := br_33_57.1; have := br_33_57.2; have := by3_j43_9_23.1; have := by3_j43_9_23.2; have := bks_j43_9.1; have := bks_j43_9.2; have := bx_61.1; have := bx_61.2; have := bx_4_24.1; have := bx_4_24.2; have : (0 : Int32).toInt = 0 := (by decide); have : (10 : Int32).toInt = 10 := (by decide); have : (32 : Int32).toInt = 32 := (by decide); have : (600 : Int32).toInt = 600 := (by decide); omega) (by have := br_33_57.1; have := br_33_57.2; have := by3_j43_9_23.1; have := by3_j43_9_23.2; have := bks_j43_9.1; have := bks_j43_9.2; have := bx_61.1; have := bx_61.2; have := bx_4_24.1; have := bx_4_24.2; have : (0 : Int32).toInt = 0 := (by decide); have : (10 : Int32).toInt = 10 := (by decide); have : (32 : Int32).toInt = 32 := (by decide); have : (600 : Int32).toInt = 600 := (by decide); omega)))), trivial⟩, by rw [ht]; exact h.1, h.2.1, (((((hfF_5.w (by decide)).trans hfF_6 (by decide)).trans hfF_8 (by decide)).trans hfF_10 (by decide)).trans hfF_58 (by decide))⟩, h.2.2.F ht⟩) h.2.2.2.2 dX8_cut_95
          · have c_32 := z_eq c_32
            have bx_30_69 : zB 10 10 x_30 := zB.eqL (a := 0) (b := 0) c_32 (zBc 10 10 (by decide))
            refine lv_goto (tgt := 117) hx hb dX8_cut_73 (by decide) ?_
            obtain ⟨x_70, ex_70, bx_70, tx_70⟩ := z_inc (n := 1) (lo := 1) (hi := 600) by3_j43_9_23 (by decide)
            refine lv_iinc (v := x_70) (lv' := [(3, .int x_70), (0, .ref tk)]) hx hb dX8_cut_117 hl (k := 0) rfl ex_70 (by decide) rfl (fun ls hl => ?_)
            refine lv_goto (tgt := 43) hx hb dX8_cut_120 (by decide) ?_
            exact ih_j43_9 _ (by have := bx_70.1; have := bx_70.2; have := bks_j43_9.1; have := bks_j43_9.2; have := bx_4_24.1; have := bx_4_24.2; have : (0 : Int32).toInt = 0 := (by decide); have : (10 : Int32).toInt = 10 := (by decide); have : (32 : Int32).toInt = 32 := (by decide); have : (600 : Int32).toInt = 600 := (by decide); have := by3_j43_9.1; have := by3_j43_9.2; omega) ls x_70 ks_j43_9 F_10 H locs (lv_sub hl [0, 1] rfl) (bx_70.w ⟨by decide, by decide⟩) h hfF_10 hks_j43_9 bks_j43_9 (by have := bx_70.1; have := bx_70.2; have := bks_j43_9.1; have := bks_j43_9.2; have := bx_4_24.1; have := bx_4_24.2; have : (0 : Int32).toInt = 0 := (by decide); have : (10 : Int32).toInt = 10 := (by decide); have : (32 : Int32).toInt = 32 := (by decide); have : (600 : Int32).toInt = 600 := (by decide); omega) (by have := bx_70.1; have := bx_70.2; have := bks_j43_9.1; have := bks_j43_9.2; have := bx_4_24.1; have := bx_4_24.2; have : (0 : Int32).toInt = 0 := (by decide); have : (10 : Int32).toInt = 10 := (by decide); have : (32 : Int32).toInt = 32 := (by decide); have : (600 : Int32).toInt = 600 := (by decide); omega) ⟨ad2_, ad3_, ad4_⟩ r3_j43_9 (zBl_s (r4_j43_9).symm (by have := bx_70.1; have := bx_70.2; have := by3_j43_9_23.1; have := by3_j43_9_23.2; have := bx_4_24.1; have := bx_4_24.2; have := bks_j43_9.1; have := bks_j43_9.2; have : (0 : Int32).toInt = 0 := (by decide); have : (10 : Int32).toInt = 10 := (by decide); have : (32 : Int32).toInt = 32 := (by decide); have : (600 : Int32).toInt = 600 := (by decide); omega) (by have := bx_70.1; have := bx_70.2; have := by3_j43_9_23.1; have := by3_j43_9_23.2; have := bx_4_24.1; have := bx_4_24.2; have := bks_j43_9.1; have := bks_j43_9.2; have : (0 : Int32).toInt = 0 := (by decide); have : (10 : Int32).toInt = 10 := (by decide); have : (32 : Int32).toInt = 32 := (by decide); have : (600 : Int32).toInt = 600 := (by decide); omega)).symm ptx_j43_9 rfl
  have ad_71 := z_ad (j := 2) (c := 101) h.2.1 htk (by decide) rfl
  have ad_72 := z_ad (j := 3) (c := 155) h.2.1 htk (by decide) rfl
  have ad_73 := z_ad (j := 4) (c := 156) h.2.1 htk (by decide) rfl
  have p_74 := (htx_.fr hfF_8 htk (by decide))
  exact j_j43_9 _ ls 0 0 F_8 H locs (lv_sub hl [0, 1] rfl) (zB.of ⟨by decide, by decide⟩) h zFr.rf kF_8 (zB.of ⟨by decide, by decide⟩) (by have := bq.1; have := bq.2; have := bx_4.1; have := bx_4.2; have : (0 : Int32).toInt = 0 := (by decide); have : (600 : Int32).toInt = 600 := (by decide); omega) (by have := bq.1; have := bq.2; have := bx_4.1; have := bx_4.2; have : (0 : Int32).toInt = 0 := (by decide); have : (600 : Int32).toInt = 600 := (by decide); omega) ⟨ad_71, ad_72, ad_73⟩ (fun t ht => absurd ht (by have : (0 : Int32).toInt = 0 := (by decide); omega)) rfl p_74 rfl
