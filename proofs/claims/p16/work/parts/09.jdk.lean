set_option maxHeartbeats 4000000 in
set_option maxRecDepth 100000 in
theorem zc_J0_coder_7d493 (l : Launch) (D : va_G) (k : Nat → ClassId) (Γ : Nat → Option Nat) (L : List Nat) (F : Nat → va_E) (sz : Nat) (si : Nat) (qs : String × Nat × String × Nat) (hsi : zStrs[si]? = some qs) : Met l yJ0_coder_7d493 zwJ0_coder_7d493 ({ frames := 0, cells := 0, slots := 0, locals := 0 }) (va_Pc [.ref (D.2 99 si)] (zP D k Γ L F sz)) (va_Qi (fun (r : Int32) (u : Nat → va_E) => F = u ∧ zB 0 0 r ∧ True) (zQ D k Γ L F []) (zA L sz)) 0 0 (zA L sz) := by
  refine Met.ofW (cc := cJ0_coder_7d493) (maxL := 1) (ret := (some .byte)) (by decide) rfl ?_
  intro p e s m args below meth c s₁ B hml hv
  obtain ⟨rfl, hsz, hP, hK, hLn, hE, hI⟩ := hv
  have hx := B.exec
  have hb := B.bytes
  have hr := B.returns
  have hg : ∀ w ∈ zG, w.before _ s = true := fun w h9 => atoms_spec (ws := zwJ0_coder_7d493) B.pre w (List.mem_cons_of_mem _ h9)
  have hown : s.vm.findClass RJ0 = some m.cls := findClass_of_methodNamed B.named
  have hlocks := B.notSynchronized
  subst hsz
  have Z : zC p m c cJ0_coder_7d493 1 s _ zG RJ0 D k L := ⟨⟨hx, hb, hml, hown, hg⟩, hK, hLn, hE⟩
  have h : zH D k Γ L s F s.heap [] := ⟨hP, hI, va_S.rf⟩
  have hl := lv_entry ([.ref (D.2 99 si)]) (n := 1) (Nat.le_of_ble_eq_true rfl)
  rw [lg_entry_eq]
  generalize (lg_sl ([.ref (D.2 99 si)]) ++ List.replicate (1 - (lg_sl ([.ref (D.2 99 si)])).length) Slot.unset).toArray = ls at hl ⊢
  have hl : lv_has ls 1 [(0, .ref (D.2 99 si))] := hl
  clear hP hK hLn hE hI
  generalize hargs : ([.ref (D.2 99 si)] : List Value).toArray = args at *
  refine z_start (fun R Q hRf hRl hQ => ?_)
  have hRf : R.frames = 0 := hRf
  have hRl : R.locals = 0 := hRl
  refine va_gets hx hb (zE_compact Z) h.2.2 hown (hg _ (zm_RJ0 (List.mem_of_getElem? (i := 17) rfl))) (fun _ h9 => h9) dJ0_coder_7d493_0 ?_
  refine lv_if_eq (tgt := 13) hx hb dJ0_coder_7d493_3 (by decide) (fun h9 => absurd h9 (by decide)) (fun _ => ?_)
  refine lv_aload_n hx hb dJ0_coder_7d493_6 rfl (lv_at hl 0 rfl) ?_
  refine vk_getf hx hb (zE_coder Z hsi) h.2.2 hown (hg _ (zm_RJ0 (List.mem_of_getElem? (i := 18) rfl))) (fun _ h9 => h9) dJ0_coder_7d493_7 ?_
  refine lv_goto (tgt := 14) hx hb dJ0_coder_7d493_10 (by decide) ?_
  subst hQ
  exact W.zret (v := 0) hx hb hr (by decide) (fun t ht hW => ⟨⟨0, F, rfl, ⟨rfl, (zB.of ⟨by decide, by decide⟩), trivial⟩, by rw [ht]; exact h.1, h.2.1, zFr.rf⟩, h.2.2.F ht⟩) h.2.2.2.2 dJ0_coder_7d493_14

set_option maxHeartbeats 4000000 in
set_option maxRecDepth 100000 in
theorem zc_J0_isLatin1_aae02 (l : Launch) (D : va_G) (k : Nat → ClassId) (Γ : Nat → Option Nat) (L : List Nat) (F : Nat → va_E) (sz : Nat) (si : Nat) (qs : String × Nat × String × Nat) (hsi : zStrs[si]? = some qs) : Met l yJ0_isLatin1_aae02 zwJ0_isLatin1_aae02 ({ frames := 0, cells := 0, slots := 0, locals := 0 }) (va_Pc [.ref (D.2 99 si)] (zP D k Γ L F sz)) (va_Qi (fun (r : Int32) (u : Nat → va_E) => F = u ∧ zB 1 1 r ∧ True) (zQ D k Γ L F []) (zA L sz)) 0 0 (zA L sz) := by
  refine Met.ofW (cc := cJ0_isLatin1_aae02) (maxL := 1) (ret := (some .boolean)) (by decide) rfl ?_
  intro p e s m args below meth c s₁ B hml hv
  obtain ⟨rfl, hsz, hP, hK, hLn, hE, hI⟩ := hv
  have hx := B.exec
  have hb := B.bytes
  have hr := B.returns
  have hg : ∀ w ∈ zG, w.before _ s = true := fun w h9 => atoms_spec (ws := zwJ0_isLatin1_aae02) B.pre w (List.mem_cons_of_mem _ h9)
  have hown : s.vm.findClass RJ0 = some m.cls := findClass_of_methodNamed B.named
  have hlocks := B.notSynchronized
  subst hsz
  have Z : zC p m c cJ0_isLatin1_aae02 1 s _ zG RJ0 D k L := ⟨⟨hx, hb, hml, hown, hg⟩, hK, hLn, hE⟩
  have h : zH D k Γ L s F s.heap [] := ⟨hP, hI, va_S.rf⟩
  have hl := lv_entry ([.ref (D.2 99 si)]) (n := 1) (Nat.le_of_ble_eq_true rfl)
  rw [lg_entry_eq]
  generalize (lg_sl ([.ref (D.2 99 si)]) ++ List.replicate (1 - (lg_sl ([.ref (D.2 99 si)])).length) Slot.unset).toArray = ls at hl ⊢
  have hl : lv_has ls 1 [(0, .ref (D.2 99 si))] := hl
  clear hP hK hLn hE hI
  generalize hargs : ([.ref (D.2 99 si)] : List Value).toArray = args at *
  refine z_start (fun R Q hRf hRl hQ => ?_)
  have hRf : R.frames = 0 := hRf
  have hRl : R.locals = 0 := hRl
  refine va_gets hx hb (zE_compact Z) h.2.2 hown (hg _ (zm_RJ0 (List.mem_of_getElem? (i := 17) rfl))) (fun _ h9 => h9) dJ0_isLatin1_aae02_0 ?_
  refine lv_if_eq (tgt := 17) hx hb dJ0_isLatin1_aae02_3 (by decide) (fun h9 => absurd h9 (by decide)) (fun _ => ?_)
  refine lv_aload_n hx hb dJ0_isLatin1_aae02_6 rfl (lv_at hl 0 rfl) ?_
  refine vk_getf hx hb (zE_coder Z hsi) h.2.2 hown (hg _ (zm_RJ0 (List.mem_of_getElem? (i := 18) rfl))) (fun _ h9 => h9) dJ0_isLatin1_aae02_7 ?_
  refine lv_if_ne (tgt := 17) hx hb dJ0_isLatin1_aae02_10 (by decide) (fun h9 => absurd (by decide) h9) (fun _ => ?_)
  refine lv_iconst (v := 1) hx hb dJ0_isLatin1_aae02_13 (by decide) ?_
  refine lv_goto (tgt := 18) hx hb dJ0_isLatin1_aae02_14 (by decide) ?_
  subst hQ
  exact W.zret (v := 1) hx hb hr (by decide) (fun t ht hW => ⟨⟨1, F, rfl, ⟨rfl, (zB.of ⟨by decide, by decide⟩), trivial⟩, by rw [ht]; exact h.1, h.2.1, zFr.rf⟩, h.2.2.F ht⟩) h.2.2.2.2 dJ0_isLatin1_aae02_18

set_option maxHeartbeats 4000000 in
set_option maxRecDepth 100000 in
theorem zc_J0_length_8abf5 (l : Launch) (D : va_G) (k : Nat → ClassId) (Γ : Nat → Option Nat) (L : List Nat) (F : Nat → va_E) (sz : Nat) (si : Nat) (qs : String × Nat × String × Nat) (hsi : zStrs[si]? = some qs) : Met l yJ0_length_8abf5 zwJ0_length_8abf5 ({ frames := 1, cells := 0, slots := 0, locals := 20 }) (va_Pc [.ref (D.2 99 si)] (zP D k Γ L F sz)) (va_Qi (fun (r : Int32) (u : Nat → va_E) => F = u ∧ zB 0 6 r ∧ r.toInt = (qs.2.2.2 : Int) ∧ True) (zQ D k Γ L F []) (zA L sz)) 0 0 (zA L sz) := by
  refine Met.ofW (cc := cJ0_length_8abf5) (maxL := 1) (ret := (some .int)) (by decide) rfl ?_
  intro p e s m args below meth c s₁ B hml hv
  obtain ⟨rfl, hsz, hP, hK, hLn, hE, hI⟩ := hv
  have hx := B.exec
  have hb := B.bytes
  have hr := B.returns
  have hg : ∀ w ∈ zG, w.before _ s = true := fun w h9 => atoms_spec (ws := zwJ0_length_8abf5) B.pre w (List.mem_cons_of_mem _ h9)
  have hown : s.vm.findClass RJ0 = some m.cls := findClass_of_methodNamed B.named
  have hlocks := B.notSynchronized
  subst hsz
  have Z : zC p m c cJ0_length_8abf5 1 s _ zG RJ0 D k L := ⟨⟨hx, hb, hml, hown, hg⟩, hK, hLn, hE⟩
  have h : zH D k Γ L s F s.heap [] := ⟨hP, hI, va_S.rf⟩
  have hl := lv_entry ([.ref (D.2 99 si)]) (n := 1) (Nat.le_of_ble_eq_true rfl)
  rw [lg_entry_eq]
  generalize (lg_sl ([.ref (D.2 99 si)]) ++ List.replicate (1 - (lg_sl ([.ref (D.2 99 si)])).length) Slot.unset).toArray = ls at hl ⊢
  have hl : lv_has ls 1 [(0, .ref (D.2 99 si))] := hl
  clear hP hK hLn hE hI
  generalize hargs : ([.ref (D.2 99 si)] : List Value).toArray = args at *
  refine z_start (fun R Q hRf hRl hQ => ?_)
  have hRf : R.frames = 1 := hRf
  have hRl : R.locals = 20 := hRl
  refine lv_aload_n hx hb dJ0_length_8abf5_0 rfl (lv_at hl 0 rfl) ?_
  refine vk_getf hx hb (zE_value Z hsi) h.2.2 hown (hg _ (zm_RJ0 (List.mem_of_getElem? (i := 6) rfl))) (fun _ h9 => h9) dJ0_length_8abf5_1 ?_
  refine zt_slen Z h hsi dJ0_length_8abf5_4 (fun x_1 tx_1 bx_1 => ?_)
  refine lv_aload_n hx hb dJ0_length_8abf5_5 rfl (lv_at hl 0 rfl) ?_
  refine zk_Wi (As := []) (rest := [.int x_1]) (bytes := cJ0_coder_7d493) (maxL := 1) (ret := (some .byte)) Z h (zc_J0_coder_7d493 l D k Γ L F s.heap.size si qs hsi) (cwV 0 hg zv_RJ0_335 rfl rfl rfl zd_J0_coder_7d493 ⟨z_leR hRf (by decide), z_leR hRl (by decide)⟩) (zE_recv Z h hsi) rfl hl.1 rfl (Nat.le_of_ble_eq_true rfl) dJ0_length_8abf5_6 ⟨Nat.zero_le _, Nat.zero_le _⟩ (fun r_2 F_3 H locs w_4 h hfF_3 => ?_)
  obtain ⟨rfl, br_2, -⟩ := w_4
  refine lv_ishr hx hb dJ0_length_8abf5_9 ?_
  refine zi_shr0 br_2 ?_
  subst hQ
  exact W.iret (v := x_1) hx hb hr (fun t ht hW => ⟨⟨x_1, F, rfl, ⟨rfl, bx_1, tx_1, trivial⟩, by rw [ht]; exact h.1, h.2.1, zFr.rf⟩, h.2.2.F ht⟩) h.2.2.2.2 dJ0_length_8abf5_10

set_option maxHeartbeats 4000000 in
set_option maxRecDepth 100000 in
theorem zc_J3_n (l : Launch) (D : va_G) (k : Nat → ClassId) (Γ : Nat → Option Nat) (L : List Nat) (F : Nat → va_E) (sz : Nat) (i : Int32) (n2 : Int32) (hr0 : 0 ≤ i.toInt ∧ i.toInt < n2.toInt) : Met l yJ3_checkIndex_8e157 zwJ3_checkIndex_8e157 ({ frames := 0, cells := 0, slots := 0, locals := 0 }) (va_Pc [.int i, .int n2, .null] (zP D k Γ L F sz)) (va_Qi (fun (r : Int32) (u : Nat → va_E) => F = u ∧ True) (zQ D k Γ L F []) (zA L sz)) 0 0 (zA L sz) := by
  refine Met.ofW (cc := cJ3_checkIndex_8e157) (maxL := 3) (ret := (some .int)) (by decide) rfl ?_
  intro p e s m args below meth c s₁ B hml hv
  obtain ⟨rfl, hsz, hP, hK, hLn, hE, hI⟩ := hv
  have hx := B.exec
  have hb := B.bytes
  have hr := B.returns
  have hg : ∀ w ∈ zG, w.before _ s = true := fun w h9 => atoms_spec (ws := zwJ3_checkIndex_8e157) B.pre w (List.mem_cons_of_mem _ h9)
  have hown : s.vm.findClass RJ3 = some m.cls := findClass_of_methodNamed B.named
  have hlocks := B.notSynchronized
  subst hsz
  have Z : zC p m c cJ3_checkIndex_8e157 3 s _ zG RJ3 D k L := ⟨⟨hx, hb, hml, hown, hg⟩, hK, hLn, hE⟩
  have h : zH D k Γ L s F s.heap [] := ⟨hP, hI, va_S.rf⟩
  have hl := lv_entry ([.int i, .int n2, .null]) (n := 3) (Nat.le_of_ble_eq_true rfl)
  rw [lg_entry_eq]
  generalize (lg_sl ([.int i, .int n2, .null]) ++ List.replicate (3 - (lg_sl ([.int i, .int n2, .null])).length) Slot.unset).toArray = ls at hl ⊢
  have hl : lv_has ls 3 [(0, .int i), (1, .int n2), (2, .null)] := hl
  clear hP hK hLn hE hI
  generalize hargs : ([.int i, .int n2, .null] : List Value).toArray = args at *
  refine z_start (fun R Q hRf hRl hQ => ?_)
  have hRf : R.frames = 0 := hRf
  have hRl : R.locals = 0 := hRl
  refine lv_iload_n hx hb dJ3_checkIndex_8e157_0 rfl (lv_at hl 0 rfl) ?_
  refine lv_if_lt (tgt := 9) hx hb dJ3_checkIndex_8e157_1 (by decide) (fun c_1 => ?_) (fun c_1 => ?_)
  · have c_1 := z_lt c_1
    have bi_2 : zB (-2147483648) (-1) i := zB.ltL c_1 (zB.all i) (zBc 0 0 (by decide)) (by decide)
    exfalso
    have := bi_2.1; have := bi_2.2; have := (zB.all n2).1; have := (zB.all n2).2; have : (0 : Int32).toInt = 0 := (by decide); omega
  · have c_1 := z_nlt c_1
    have bi_3 : zB 0 2147483647 i := zB.leR c_1 (zBc 0 0 (by decide)) (zB.all i) (by decide)
    refine lv_iload_n hx hb dJ3_checkIndex_8e157_4 rfl (lv_at hl 0 rfl) ?_
    refine lv_iload_n hx hb dJ3_checkIndex_8e157_5 rfl (lv_at hl 1 rfl) ?_
    refine lv_icmp_lt (tgt := 16) hx hb dJ3_checkIndex_8e157_6 (by decide) (fun c_4 => ?_) (fun c_4 => ?_)
    · have c_4 := z_lt c_4
      have bi_5 : zB 0 2147483646 i := zB.ltL c_4 bi_3 (zB.all n2) (by decide)
      have bn2_6 : zB 1 2147483647 n2 := zB.ltR c_4 bi_3 (zB.all n2) (by decide)
      refine lv_iload_n hx hb dJ3_checkIndex_8e157_16 rfl (lv_at hl 0 rfl) ?_
      subst hQ
      exact W.iret (v := i) hx hb hr (fun t ht hW => ⟨⟨i, F, rfl, ⟨rfl, trivial⟩, by rw [ht]; exact h.1, h.2.1, zFr.rf⟩, h.2.2.F ht⟩) h.2.2.2.2 dJ3_checkIndex_8e157_17
    · have c_4 := z_nlt c_4
      exfalso
      have := bi_3.1; have := bi_3.2; have := (zB.all n2).1; have := (zB.all n2).2; have : (0 : Int32).toInt = 0 := (by decide); omega

set_option maxHeartbeats 4000000 in
set_option maxRecDepth 100000 in
theorem zc_J3_r (l : Launch) (D : va_G) (k : Nat → ClassId) (Γ : Nat → Option Nat) (L : List Nat) (F : Nat → va_E) (sz : Nat) (i : Int32) (n2 : Int32) (f : Nat) (hr0 : 0 ≤ i.toInt ∧ i.toInt < n2.toInt) : Met l yJ3_checkIndex_8e157 zwJ3_checkIndex_8e157 ({ frames := 0, cells := 0, slots := 0, locals := 0 }) (va_Pc [.int i, .int n2, .ref f] (zP D k Γ L F sz)) (va_Qi (fun (r : Int32) (u : Nat → va_E) => F = u ∧ True) (zQ D k Γ L F []) (zA L sz)) 0 0 (zA L sz) := by
  refine Met.ofW (cc := cJ3_checkIndex_8e157) (maxL := 3) (ret := (some .int)) (by decide) rfl ?_
  intro p e s m args below meth c s₁ B hml hv
  obtain ⟨rfl, hsz, hP, hK, hLn, hE, hI⟩ := hv
  have hx := B.exec
  have hb := B.bytes
  have hr := B.returns
  have hg : ∀ w ∈ zG, w.before _ s = true := fun w h9 => atoms_spec (ws := zwJ3_checkIndex_8e157) B.pre w (List.mem_cons_of_mem _ h9)
  have hown : s.vm.findClass RJ3 = some m.cls := findClass_of_methodNamed B.named
  have hlocks := B.notSynchronized
  subst hsz
  have Z : zC p m c cJ3_checkIndex_8e157 3 s _ zG RJ3 D k L := ⟨⟨hx, hb, hml, hown, hg⟩, hK, hLn, hE⟩
  have h : zH D k Γ L s F s.heap [] := ⟨hP, hI, va_S.rf⟩
  have hl := lv_entry ([.int i, .int n2, .ref f]) (n := 3) (Nat.le_of_ble_eq_true rfl)
  rw [lg_entry_eq]
  generalize (lg_sl ([.int i, .int n2, .ref f]) ++ List.replicate (3 - (lg_sl ([.int i, .int n2, .ref f])).length) Slot.unset).toArray = ls at hl ⊢
  have hl : lv_has ls 3 [(0, .int i), (1, .int n2), (2, .ref f)] := hl
  clear hP hK hLn hE hI
  generalize hargs : ([.int i, .int n2, .ref f] : List Value).toArray = args at *
  refine z_start (fun R Q hRf hRl hQ => ?_)
  have hRf : R.frames = 0 := hRf
  have hRl : R.locals = 0 := hRl
  refine lv_iload_n hx hb dJ3_checkIndex_8e157_0 rfl (lv_at hl 0 rfl) ?_
  refine lv_if_lt (tgt := 9) hx hb dJ3_checkIndex_8e157_1 (by decide) (fun c_1 => ?_) (fun c_1 => ?_)
  · have c_1 := z_lt c_1
    have bi_2 : zB (-2147483648) (-1) i := zB.ltL c_1 (zB.all i) (zBc 0 0 (by decide)) (by decide)
    exfalso
    have := bi_2.1; have := bi_2.2; have := (zB.all n2).1; have := (zB.all n2).2; have : (0 : Int32).toInt = 0 := (by decide); omega
  · have c_1 := z_nlt c_1
    have bi_3 : zB 0 2147483647 i := zB.leR c_1 (zBc 0 0 (by decide)) (zB.all i) (by decide)
    refine lv_iload_n hx hb dJ3_checkIndex_8e157_4 rfl (lv_at hl 0 rfl) ?_
    refine lv_iload_n hx hb dJ3_checkIndex_8e157_5 rfl (lv_at hl 1 rfl) ?_
    refine lv_icmp_lt (tgt := 16) hx hb dJ3_checkIndex_8e157_6 (by decide) (fun c_4 => ?_) (fun c_4 => ?_)
    · have c_4 := z_lt c_4
      have bi_5 : zB 0 2147483646 i := zB.ltL c_4 bi_3 (zB.all n2) (by decide)
      have bn2_6 : zB 1 2147483647 n2 := zB.ltR c_4 bi_3 (zB.all n2) (by decide)
      refine lv_iload_n hx hb dJ3_checkIndex_8e157_16 rfl (lv_at hl 0 rfl) ?_
      subst hQ
      exact W.iret (v := i) hx hb hr (fun t ht hW => ⟨⟨i, F, rfl, ⟨rfl, trivial⟩, by rw [ht]; exact h.1, h.2.1, zFr.rf⟩, h.2.2.F ht⟩) h.2.2.2.2 dJ3_checkIndex_8e157_17
    · have c_4 := z_nlt c_4
      exfalso
      have := bi_3.1; have := bi_3.2; have := (zB.all n2).1; have := (zB.all n2).2; have : (0 : Int32).toInt = 0 := (by decide); omega

set_option maxHeartbeats 4000000 in
set_option maxRecDepth 100000 in
theorem zc_J0_checkIndex_df160 (l : Launch) (D : va_G) (k : Nat → ClassId) (Γ : Nat → Option Nat) (L : List Nat) (F : Nat → va_E) (sz : Nat) (i : Int32) (n2 : Int32) (hr0 : 0 ≤ i.toInt ∧ i.toInt < n2.toInt) : Met l yJ0_checkIndex_df160 zwJ0_checkIndex_df160 ({ frames := 1, cells := 0, slots := 0, locals := 22 }) (va_Pc [.int i, .int n2] (zP D k Γ L F sz)) (va_Qv (fun (u : Nat → va_E) => F = u ∧ True) (zQ D k Γ L F []) (zA L sz)) 0 0 (zA L sz) := by
  refine Met.ofW (cc := cJ0_checkIndex_df160) (maxL := 2) (ret := none) (by decide) rfl ?_
  intro p e s m args below meth c s₁ B hml hv
  obtain ⟨rfl, hsz, hP, hK, hLn, hE, hI⟩ := hv
  have hx := B.exec
  have hb := B.bytes
  have hr := B.returns
  have hg : ∀ w ∈ zG, w.before _ s = true := fun w h9 => atoms_spec (ws := zwJ0_checkIndex_df160) B.pre w (List.mem_cons_of_mem _ h9)
  have hown : s.vm.findClass RJ0 = some m.cls := findClass_of_methodNamed B.named
  have hlocks := B.notSynchronized
  subst hsz
  have Z : zC p m c cJ0_checkIndex_df160 2 s _ zG RJ0 D k L := ⟨⟨hx, hb, hml, hown, hg⟩, hK, hLn, hE⟩
  have h : zH D k Γ L s F s.heap [] := ⟨hP, hI, va_S.rf⟩
  have hl := lv_entry ([.int i, .int n2]) (n := 2) (Nat.le_of_ble_eq_true rfl)
  rw [lg_entry_eq]
  generalize (lg_sl ([.int i, .int n2]) ++ List.replicate (2 - (lg_sl ([.int i, .int n2])).length) Slot.unset).toArray = ls at hl ⊢
  have hl : lv_has ls 2 [(0, .int i), (1, .int n2)] := hl
  clear hP hK hLn hE hI
  generalize hargs : ([.int i, .int n2] : List Value).toArray = args at *
  refine z_start (fun R Q hRf hRl hQ => ?_)
  have hRf : R.frames = 1 := hRf
  have hRl : R.locals = 22 := hRl
  refine lv_iload_n hx hb dJ0_checkIndex_df160_0 rfl (lv_at hl 0 rfl) ?_
  refine lv_iload_n hx hb dJ0_checkIndex_df160_1 rfl (lv_at hl 1 rfl) ?_
  rcases zE_form Z with hz9 | ⟨t_1, hz9⟩
  · refine va_gets hx hb hz9 h.2.2 hown (hg _ (zm_RJ0 (List.mem_of_getElem? (i := 21) rfl))) (fun _ h9 => h9) dJ0_checkIndex_df160_2 ?_
    refine zk_Si (As := [.int i, .int n2, .null]) (rest := []) (bytes := cJ3_checkIndex_8e157) (maxL := 3) (ret := (some .int)) Z h (zc_J3_n l D k Γ L F s.heap.size i n2 (by have := (zB.all i).1; have := (zB.all i).2; have := (zB.all n2).1; have := (zB.all n2).2; omega)) (va_cwS 3 hg zv_RJ0_1059 rfl rfl rfl zd_J3_checkIndex_8e157 ⟨z_leR hRf (by decide), z_leR hRl (by decide)⟩) rfl hl.1 rfl (Nat.le_of_ble_eq_true rfl) dJ0_checkIndex_df160_5 ⟨Nat.zero_le _, Nat.zero_le _⟩ (fun r_2 F_3 H locs w_4 h hfF_3 => ?_)
    obtain ⟨rfl, -⟩ := w_4
    have br_2 := zB.all r_2
    refine lv_pop hx hb dJ0_checkIndex_df160_8 rfl ?_
    subst hQ
    exact W.vret hx hb hr (fun t ht hW => ⟨⟨F, rfl, ⟨rfl, trivial⟩, by rw [ht]; exact h.1, h.2.1, zFr.rf⟩, h.2.2.F ht⟩) h.2.2.2.2 dJ0_checkIndex_df160_9
  · refine va_gets hx hb hz9 h.2.2 hown (hg _ (zm_RJ0 (List.mem_of_getElem? (i := 21) rfl))) (fun _ h9 => h9) dJ0_checkIndex_df160_2 ?_
    refine zk_Si (As := [.int i, .int n2, .ref t_1]) (rest := []) (bytes := cJ3_checkIndex_8e157) (maxL := 3) (ret := (some .int)) Z h (zc_J3_r l D k Γ L F s.heap.size i n2 t_1 (by have := (zB.all i).1; have := (zB.all i).2; have := (zB.all n2).1; have := (zB.all n2).2; omega)) (va_cwS 3 hg zv_RJ0_1059 rfl rfl rfl zd_J3_checkIndex_8e157 ⟨z_leR hRf (by decide), z_leR hRl (by decide)⟩) rfl hl.1 rfl (Nat.le_of_ble_eq_true rfl) dJ0_checkIndex_df160_5 ⟨Nat.zero_le _, Nat.zero_le _⟩ (fun r_5 F_6 H locs w_7 h hfF_6 => ?_)
    obtain ⟨rfl, -⟩ := w_7
    have br_5 := zB.all r_5
    refine lv_pop hx hb dJ0_checkIndex_df160_8 rfl ?_
    subst hQ
    exact W.vret hx hb hr (fun t ht hW => ⟨⟨F, rfl, ⟨rfl, trivial⟩, by rw [ht]; exact h.1, h.2.1, zFr.rf⟩, h.2.2.F ht⟩) h.2.2.2.2 dJ0_checkIndex_df160_9

set_option maxHeartbeats 4000000 in
set_option maxRecDepth 100000 in
theorem zc_J1_charAt_3b067 (l : Launch) (D : va_G) (k : Nat → ClassId) (Γ : Nat → Option Nat) (L : List Nat) (F : Nat → va_E) (sz : Nat) (si : Nat) (qs : String × Nat × String × Nat) (i : Int32) (hsi : zStrs[si]? = some qs) (hr0 : 0 ≤ i.toInt ∧ i.toInt < (qs.2.2.2 : Int)) : Met l yJ1_charAt_3b067 zwJ1_charAt_3b067 ({ frames := 2, cells := 0, slots := 0, locals := 43 }) (va_Pc [.ref (D.2 98 si), .int i] (zP D k Γ L F sz)) (va_Qi (fun (r : Int32) (u : Nat → va_E) => F = u ∧ (narrow .char (.int r) = .int r) ∧ (r = zch si i) ∧ True) (zQ D k Γ L F []) (zA L sz)) 0 0 (zA L sz) := by
  refine Met.ofW (cc := cJ1_charAt_3b067) (maxL := 2) (ret := (some .char)) (by decide) rfl ?_
  intro p e s m args below meth c s₁ B hml hv
  obtain ⟨rfl, hsz, hP, hK, hLn, hE, hI⟩ := hv
  have hx := B.exec
  have hb := B.bytes
  have hr := B.returns
  have hg : ∀ w ∈ zG, w.before _ s = true := fun w h9 => atoms_spec (ws := zwJ1_charAt_3b067) B.pre w (List.mem_cons_of_mem _ h9)
  have hown : s.vm.findClass RJ1 = some m.cls := findClass_of_methodNamed B.named
  have hlocks := B.notSynchronized
  subst hsz
  have Z : zC p m c cJ1_charAt_3b067 2 s _ zG RJ1 D k L := ⟨⟨hx, hb, hml, hown, hg⟩, hK, hLn, hE⟩
  have h : zH D k Γ L s F s.heap [] := ⟨hP, hI, va_S.rf⟩
  have hl := lv_entry ([.ref (D.2 98 si), .int i]) (n := 2) (Nat.le_of_ble_eq_true rfl)
  rw [lg_entry_eq]
  generalize (lg_sl ([.ref (D.2 98 si), .int i]) ++ List.replicate (2 - (lg_sl ([.ref (D.2 98 si), .int i])).length) Slot.unset).toArray = ls at hl ⊢
  have hl : lv_has ls 2 [(0, .ref (D.2 98 si)), (1, .int i)] := hl
  clear hP hK hLn hE hI
  generalize hargs : ([.ref (D.2 98 si), .int i] : List Value).toArray = args at *
  refine z_start (fun R Q hRf hRl hQ => ?_)
  have hRf : R.frames = 2 := hRf
  have hRl : R.locals = 43 := hRl
  have h9 := h
  refine lv_iload_n hx hb dJ1_charAt_3b067_0 rfl (lv_at hl 1 rfl) ?_
  refine lv_aload_n hx hb dJ1_charAt_3b067_1 rfl (lv_at hl 0 rfl) ?_
  refine zt_slen Z h hsi dJ1_charAt_3b067_2 (fun x_1 tx_1 bx_1 => ?_)
  refine zk_Sv (As := [.int i, .int x_1]) (rest := []) (bytes := cJ0_checkIndex_df160) (maxL := 2) (ret := none) Z h (zc_J0_checkIndex_df160 l D k Γ L F s.heap.size i x_1 (by have := (zB.all i).1; have := (zB.all i).2; have := bx_1.1; have := bx_1.2; omega)) (va_cwS 2 hg zv_RJ1_9 rfl rfl rfl zd_J0_checkIndex_df160 ⟨z_leR hRf (by decide), z_leR hRl (by decide)⟩) rfl hl.1 rfl (Nat.le_of_ble_eq_true rfl) dJ1_charAt_3b067_3 ⟨Nat.zero_le _, Nat.zero_le _⟩ (fun F_2 H locs w_3 h hfF_2 => ?_)
  obtain ⟨rfl, -⟩ := w_3
  refine lv_aload_n hx hb dJ1_charAt_3b067_6 rfl (lv_at hl 0 rfl) ?_
  refine lv_iload_n hx hb dJ1_charAt_3b067_7 rfl (lv_at hl 1 rfl) ?_
  refine zt_sald Z h hsi (by have := (zB.all i).1; have := (zB.all i).2; omega) dJ1_charAt_3b067_8 (fun x_4 ex_4 bx_4 => ?_)
  refine lv_sipush (v := 255) hx hb dJ1_charAt_3b067_9 (by decide) ?_
  refine lv_iand hx hb dJ1_charAt_3b067_12 ?_
  refine zi_and ((zBc 255 255 (by decide)).w ⟨by decide, by decide⟩ : zB 0 255 _) (fun x_5 bx_5 ex_5 => ?_)
  refine lv_i2c hx hb dJ1_charAt_3b067_13 rfl ?_
  refine zi_any (fun x_6 bx_6 ex_6 => ?_)
  subst hQ
  exact W.zret (v := x_6) hx hb hr (by rw [ex_6]; exact z_narC _) (fun t ht hW => ⟨⟨x_6, F, rfl, ⟨rfl, (by rw [ex_6]; exact z_narC _), (by rw [ex_6, ex_5, ex_4]; exact zch_ok si i), trivial⟩, by rw [ht]; exact h.1, h.2.1, zFr.rf⟩, h.2.2.F ht⟩) h.2.2.2.2 dJ1_charAt_3b067_14

set_option maxHeartbeats 4000000 in
set_option maxRecDepth 100000 in
theorem zc_J0_charAt_5068e (l : Launch) (D : va_G) (k : Nat → ClassId) (Γ : Nat → Option Nat) (L : List Nat) (F : Nat → va_E) (sz : Nat) (si : Nat) (qs : String × Nat × String × Nat) (i : Int32) (hsi : zStrs[si]? = some qs) (hr0 : 0 ≤ i.toInt ∧ i.toInt < (qs.2.2.2 : Int)) : Met l yJ0_charAt_5068e zwJ0_charAt_5068e ({ frames := 3, cells := 0, slots := 0, locals := 64 }) (va_Pc [.ref (D.2 99 si), .int i] (zP D k Γ L F sz)) (va_Qi (fun (r : Int32) (u : Nat → va_E) => F = u ∧ (narrow .char (.int r) = .int r) ∧ (r = zch si i) ∧ True) (zQ D k Γ L F []) (zA L sz)) 0 0 (zA L sz) := by
  refine Met.ofW (cc := cJ0_charAt_5068e) (maxL := 2) (ret := (some .char)) (by decide) rfl ?_
  intro p e s m args below meth c s₁ B hml hv
  obtain ⟨rfl, hsz, hP, hK, hLn, hE, hI⟩ := hv
  have hx := B.exec
  have hb := B.bytes
  have hr := B.returns
  have hg : ∀ w ∈ zG, w.before _ s = true := fun w h9 => atoms_spec (ws := zwJ0_charAt_5068e) B.pre w (List.mem_cons_of_mem _ h9)
  have hown : s.vm.findClass RJ0 = some m.cls := findClass_of_methodNamed B.named
  have hlocks := B.notSynchronized
  subst hsz
  have Z : zC p m c cJ0_charAt_5068e 2 s _ zG RJ0 D k L := ⟨⟨hx, hb, hml, hown, hg⟩, hK, hLn, hE⟩
  have h : zH D k Γ L s F s.heap [] := ⟨hP, hI, va_S.rf⟩
  have hl := lv_entry ([.ref (D.2 99 si), .int i]) (n := 2) (Nat.le_of_ble_eq_true rfl)
  rw [lg_entry_eq]
  generalize (lg_sl ([.ref (D.2 99 si), .int i]) ++ List.replicate (2 - (lg_sl ([.ref (D.2 99 si), .int i])).length) Slot.unset).toArray = ls at hl ⊢
  have hl : lv_has ls 2 [(0, .ref (D.2 99 si)), (1, .int i)] := hl
  clear hP hK hLn hE hI
  generalize hargs : ([.ref (D.2 99 si), .int i] : List Value).toArray = args at *
  refine z_start (fun R Q hRf hRl hQ => ?_)
  have hRf : R.frames = 3 := hRf
  have hRl : R.locals = 64 := hRl
  have h9 := h
  refine lv_aload_n hx hb dJ0_charAt_5068e_0 rfl (lv_at hl 0 rfl) ?_
  refine zk_Wi (As := []) (rest := []) (bytes := cJ0_isLatin1_aae02) (maxL := 1) (ret := (some .boolean)) Z h (zc_J0_isLatin1_aae02 l D k Γ L F s.heap.size si qs hsi) (cwV 0 hg zv_RJ0_492 rfl rfl rfl zd_J0_isLatin1_aae02 ⟨z_leR hRf (by decide), z_leR hRl (by decide)⟩) (zE_recv Z h hsi) rfl hl.1 rfl (Nat.le_of_ble_eq_true rfl) dJ0_charAt_5068e_1 ⟨Nat.zero_le _, Nat.zero_le _⟩ (fun r_1 F_2 H locs w_3 h hfF_2 => ?_)
  obtain ⟨rfl, br_1, -⟩ := w_3
  refine lv_if_eq (tgt := 16) hx hb dJ0_charAt_5068e_4 (by decide) (fun c_4 => ?_) (fun c_4 => ?_)
  · have c_4 := z_eq c_4
    exact zB.noEq c_4 br_1 (zBc 0 0 (by decide)) (by decide)
  · have c_4 := z_ne c_4
    refine lv_aload_n hx hb dJ0_charAt_5068e_7 rfl (lv_at hl 0 rfl) ?_
    refine vk_getf hx hb (zE_value Z hsi) h.2.2 hown (hg _ (zm_RJ0 (List.mem_of_getElem? (i := 6) rfl))) (fun _ h9 => h9) dJ0_charAt_5068e_8 ?_
    refine lv_iload_n hx hb dJ0_charAt_5068e_11 rfl (lv_at hl 1 rfl) ?_
    refine zk_Si (As := [.ref (D.2 98 si), .int i]) (rest := []) (bytes := cJ1_charAt_3b067) (maxL := 2) (ret := (some .char)) Z h (zc_J1_charAt_3b067 l D k Γ L F H.size si qs i hsi (by have := (zB.all i).1; have := (zB.all i).2; have : (0 : Int32).toInt = 0 := (by decide); omega)) (va_cwS 2 hg zv_RJ0_495 rfl rfl rfl zd_J1_charAt_3b067 ⟨z_leR hRf (by decide), z_leR hRl (by decide)⟩) rfl hl.1 rfl (Nat.le_of_ble_eq_true rfl) dJ0_charAt_5068e_12 ⟨Nat.zero_le _, Nat.zero_le _⟩ (fun r_5 F_6 H locs w_7 h hfF_6 => ?_)
    obtain ⟨rfl, q_8, q_9, -⟩ := w_7
    have br_5 := zB.all r_5
    subst hQ
    exact W.zret (v := r_5) hx hb hr q_8 (fun t ht hW => ⟨⟨r_5, F, rfl, ⟨rfl, q_8, q_9, trivial⟩, by rw [ht]; exact h.1, h.2.1, zFr.rf⟩, h.2.2.F ht⟩) h.2.2.2.2 dJ0_charAt_5068e_15
