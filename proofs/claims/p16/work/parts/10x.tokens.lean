set_option maxHeartbeats 4000000 in
set_option maxRecDepth 100000 in
theorem ze_X8_textAt (l : Launch) (D : va_G) (k : Nat → ClassId) (Γ : Nat → Option Nat) (L : List Nat) (F : Nat → va_E) (sz : Nat) (tk : Nat) (i : Int32) (Bt : Nat → Int32) (nt : Nat) (htk : Γ tk = some 8) (p_tx : zTx Γ F tk Bt nt) : Met l yX8_textAt zwX8_textAt ({ frames := 0, cells := 0, slots := 0, locals := 0 }) (va_Pc [.ref tk, .int i] (zP D k Γ L F sz)) (va_Qi (fun (r : Int32) (u : Nat → va_E) => F = u ∧ zB (-128) 127 r ∧ r.toInt = zby Bt nt i.toInt ∧ True) (zQ D k Γ L F []) (zA L sz)) 0 0 (zA L sz) := by
  refine Met.ofW (cc := cX8_textAt) (maxL := 2) (ret := (some .int)) (by decide) rfl ?_
  intro p e s m args below meth c s₁ B hml hv
  obtain ⟨rfl, hsz, hP, hK, hLn, hE, hI⟩ := hv
  have hx := B.exec
  have hb := B.bytes
  have hr := B.returns
  have hg : ∀ w ∈ zG, w.before _ s = true := fun w h9 => atoms_spec (ws := zwX8_textAt) B.pre w (List.mem_cons_of_mem _ h9)
  have hown : s.vm.findClass RX8 = some m.cls := findClass_of_methodNamed B.named
  have hlocks := B.notSynchronized
  subst hsz
  have Z : zC p m c cX8_textAt 2 s _ zG RX8 D k L := ⟨⟨hx, hb, hml, hown, hg⟩, hK, hLn, hE⟩
  have h : zH D k Γ L s F s.heap [] := ⟨hP, hI, va_S.rf⟩
  have hl := lv_entry ([.ref tk, .int i]) (n := 2) (Nat.le_of_ble_eq_true rfl)
  rw [lg_entry_eq]
  generalize (lg_sl ([.ref tk, .int i]) ++ List.replicate (2 - (lg_sl ([.ref tk, .int i])).length) Slot.unset).toArray = ls at hl ⊢
  have hl : lv_has ls 2 [(0, .ref tk), (1, .int i)] := hl
  clear hP hK hLn hE hI
  generalize hargs : ([.ref tk, .int i] : List Value).toArray = args at *
  refine z_start (fun R Q hRf hRl hQ => ?_)
  have hRf : R.frames = 0 := hRf
  have hRl : R.locals = 0 := hRl
  have h9 := h
  obtain ⟨ln_, kln_, tln_⟩ := p_tx.2.1
  have hn6 := p_tx.2.2.1
  have bln_ : zB 0 600 ln_ := ⟨by omega, by omega⟩
  refine lv_iload_n hx hb dX8_textAt_0 rfl (lv_at hl 1 rfl) ?_
  refine lv_if_lt (tgt := 30) hx hb dX8_textAt_1 (by decide) (fun c_1 => ?_) (fun c_1 => ?_)
  · have c_1 := z_lt c_1
    have bi_2 : zB (-2147483648) (-1) i := zB.ltL c_1 (zB.all i) (zBc 0 0 (by decide)) (by decide)
    refine lv_iconst (v := (-1)) hx hb dX8_textAt_30 (by decide) ?_
    subst hQ
    exact W.iret (v := (-1)) hx hb hr (fun t ht hW => ⟨⟨(-1), F, rfl, ⟨rfl, (zB.of ⟨by decide, by decide⟩), (Eq.trans (by decide) (zby_out (B := Bt) (n := nt) (x := i.toInt) (by have := bi_2.1; have := bi_2.2; have := bln_.1; have := bln_.2; have : ((-1) : Int32).toInt = (-1) := (by decide); have : (0 : Int32).toInt = 0 := (by decide); omega)).symm), trivial⟩, by rw [ht]; exact h.1, h.2.1, zFr.rf⟩, h.2.2.F ht⟩) h.2.2.2.2 dX8_textAt_31
  · have c_1 := z_nlt c_1
    have bi_3 : zB 0 2147483647 i := zB.leR c_1 (zBc 0 0 (by decide)) (zB.all i) (by decide)
    refine lv_iload_n hx hb dX8_textAt_4 rfl (lv_at hl 1 rfl) ?_
    refine lv_aload_n hx hb dX8_textAt_5 rfl (lv_at hl 0 rfl) ?_
    refine zt_getk (t := 8) (C := RX8) (T := TX8) (N := 6) Z h htk zin_8 rfl 1 kln_ ⟨by decide, rfl, by decide⟩ (zm_RX8 (List.mem_of_getElem? (i := 20) rfl)) (fun _ h9 => h9) dX8_textAt_6 ?_
    refine lv_icmp_ge (tgt := 30) hx hb dX8_textAt_9 (by decide) (fun c_4 => ?_) (fun c_4 => ?_)
    · have c_4 := z_le c_4
      refine lv_iconst (v := (-1)) hx hb dX8_textAt_30 (by decide) ?_
      subst hQ
      exact W.iret (v := (-1)) hx hb hr (fun t ht hW => ⟨⟨(-1), F, rfl, ⟨rfl, (zB.of ⟨by decide, by decide⟩), (Eq.trans (by decide) (zby_out (B := Bt) (n := nt) (x := i.toInt) (by have := bi_3.1; have := bi_3.2; have := bln_.1; have := bln_.2; have : ((-1) : Int32).toInt = (-1) := (by decide); have : (0 : Int32).toInt = 0 := (by decide); omega)).symm), trivial⟩, by rw [ht]; exact h.1, h.2.1, zFr.rf⟩, h.2.2.F ht⟩) h.2.2.2.2 dX8_textAt_31
    · have c_4 := z_nle c_4
      have bi_5 : zB 0 599 i := zB.ltL c_4 bi_3 bln_ (by decide)
      have bln__6 : zB 1 600 ln_ := zB.ltR c_4 bi_3 bln_ (by decide)
      refine lv_iload_n hx hb dX8_textAt_12 rfl (lv_at hl 1 rfl) ?_
      refine lv_aload_n hx hb dX8_textAt_13 rfl (lv_at hl 0 rfl) ?_
      refine zt_getr (t := 8) (C := RX8) (T := TX8) (N := 6) Z h htk zin_8 rfl 0 rfl ⟨by decide, rfl⟩ (zm_RX8 (List.mem_of_getElem? (i := 12) rfl)) (fun _ h9 => h9) dX8_textAt_14 (fun a_7 ka_7 ha_7 => ?_)
      refine zt_alen (t := 157) Z h ha_7 ⟨by decide, rfl⟩ (by decide) (v := 600) rfl dX8_textAt_17 ?_
      refine lv_icmp_ge (tgt := 30) hx hb dX8_textAt_18 (by decide) (fun c_8 => ?_) (fun c_8 => ?_)
      · have c_8 := z_le c_8
        exact zB.noLe c_8 (zBc 600 600 (by decide)) bi_5 (by decide)
      · have c_8 := z_nle c_8
        refine lv_aload_n hx hb dX8_textAt_21 rfl (lv_at hl 0 rfl) ?_
        refine zt_getk (t := 8) (C := RX8) (T := TX8) (N := 6) Z h htk zin_8 rfl 0 ka_7 ⟨by decide, rfl, by decide⟩ (zm_RX8 (List.mem_of_getElem? (i := 12) rfl)) (fun _ h9 => h9) dX8_textAt_22 ?_
        refine lv_iload_n hx hb dX8_textAt_25 rfl (lv_at hl 1 rfl) ?_
        refine zt_balde (t := 157) Z h ha_7 ⟨by decide, rfl⟩ bi_5 ⟨by decide, by decide⟩ dX8_textAt_26 (fun x_9 ex_9 bx_9 => ?_)
        refine lv_goto (tgt := 31) hx hb dX8_textAt_27 (by decide) ?_
        subst hQ
        exact W.iret (v := x_9) hx hb hr (fun t ht hW => ⟨⟨x_9, F, rfl, ⟨rfl, bx_9, (zTx.by p_tx ka_7 ex_9 ⟨(by have := bi_5.1; have := bi_5.2; have := bx_9.1; have := bx_9.2; have := bln__6.1; have := bln__6.2; have : (0 : Int32).toInt = 0 := (by decide); have : (600 : Int32).toInt = 600 := (by decide); omega), (by have := bi_5.1; have := bi_5.2; have := bx_9.1; have := bx_9.2; have := bln__6.1; have := bln__6.2; have : (0 : Int32).toInt = 0 := (by decide); have : (600 : Int32).toInt = 600 := (by decide); omega)⟩), trivial⟩, by rw [ht]; exact h.1, h.2.1, zFr.rf⟩, h.2.2.F ht⟩) h.2.2.2.2 dX8_textAt_31

set_option maxHeartbeats 4000000 in
set_option maxRecDepth 100000 in
theorem ze_X8_isLetter (l : Launch) (D : va_G) (k : Nat → ClassId) (Γ : Nat → Option Nat) (L : List Nat) (F : Nat → va_E) (sz : Nat) (tk : Nat) (i : Int32) (Bt : Nat → Int32) (nt : Nat) (htk : Γ tk = some 8) (p_tx : zTx Γ F tk Bt nt) : Met l yX8_isLetter zwX8_isLetter ({ frames := 1, cells := 0, slots := 0, locals := 21 }) (va_Pc [.ref tk, .int i] (zP D k Γ L F sz)) (va_Qi (fun (r : Int32) (u : Nat → va_E) => F = u ∧ zB 0 1 r ∧ ((r.toInt = 1 ∧ 97 ≤ zby Bt nt i.toInt ∧ zby Bt nt i.toInt ≤ 122) ∨ (r.toInt = 0 ∧ (zby Bt nt i.toInt < 97 ∨ 122 < zby Bt nt i.toInt))) ∧ True) (zQ D k Γ L F []) (zA L sz)) 0 0 (zA L sz) := by
  refine Met.ofW (cc := cX8_isLetter) (maxL := 2) (ret := (some .boolean)) (by decide) rfl ?_
  intro p e s m args below meth c s₁ B hml hv
  obtain ⟨rfl, hsz, hP, hK, hLn, hE, hI⟩ := hv
  have hx := B.exec
  have hb := B.bytes
  have hr := B.returns
  have hg : ∀ w ∈ zG, w.before _ s = true := fun w h9 => atoms_spec (ws := zwX8_isLetter) B.pre w (List.mem_cons_of_mem _ h9)
  have hown : s.vm.findClass RX8 = some m.cls := findClass_of_methodNamed B.named
  have hlocks := B.notSynchronized
  subst hsz
  have Z : zC p m c cX8_isLetter 2 s _ zG RX8 D k L := ⟨⟨hx, hb, hml, hown, hg⟩, hK, hLn, hE⟩
  have h : zH D k Γ L s F s.heap [] := ⟨hP, hI, va_S.rf⟩
  have hl := lv_entry ([.ref tk, .int i]) (n := 2) (Nat.le_of_ble_eq_true rfl)
  rw [lg_entry_eq]
  generalize (lg_sl ([.ref tk, .int i]) ++ List.replicate (2 - (lg_sl ([.ref tk, .int i])).length) Slot.unset).toArray = ls at hl ⊢
  have hl : lv_has ls 2 [(0, .ref tk), (1, .int i)] := hl
  clear hP hK hLn hE hI
  generalize hargs : ([.ref tk, .int i] : List Value).toArray = args at *
  refine z_start (fun R Q hRf hRl hQ => ?_)
  have hRf : R.frames = 1 := hRf
  have hRl : R.locals = 21 := hRl
  have h9 := h
  refine lv_aload_n hx hb dX8_isLetter_0 rfl (lv_at hl 0 rfl) ?_
  refine lv_iload_n hx hb dX8_isLetter_1 rfl (lv_at hl 1 rfl) ?_
  refine zk_Vi (As := [.int i]) (rest := []) (bytes := cX8_textAt) (maxL := 2) (ret := (some .int)) Z h (ze_X8_textAt l D k Γ L F s.heap.size tk i Bt nt htk p_tx) (cwV 1 hg zv_RX8_62 rfl rfl rfl zd_X8_textAt ⟨z_leR hRf (by decide), z_leR hRl (by decide)⟩) htk (by decide) rfl rfl hl.1 rfl (Nat.le_of_ble_eq_true rfl) dX8_isLetter_2 ⟨Nat.zero_le _, Nat.zero_le _⟩ (fun r_1 F_2 H locs w_3 h hfF_2 => ?_)
  obtain ⟨rfl, br_1, q_4, -⟩ := w_3
  refine lv_bipush (v := 97) hx hb dX8_isLetter_5 (by decide) ?_
  refine lv_icmp_lt (tgt := 24) hx hb dX8_isLetter_7 (by decide) (fun c_5 => ?_) (fun c_5 => ?_)
  · have c_5 := z_lt c_5
    have br_1_6 : zB (-128) 96 r_1 := zB.ltL c_5 br_1 (zBc 97 97 (by decide)) (by decide)
    refine lv_iconst (v := 0) hx hb dX8_isLetter_24 (by decide) ?_
    subst hQ
    exact W.zret (v := 0) hx hb hr (by decide) (fun t ht hW => ⟨⟨0, F, rfl, ⟨rfl, (zB.of ⟨by decide, by decide⟩), (by have := (zB.all i).1; have := (zB.all i).2; have : (0 : Int32).toInt = 0 := (by decide); have : (97 : Int32).toInt = 97 := (by decide); omega), trivial⟩, by rw [ht]; exact h.1, h.2.1, zFr.rf⟩, h.2.2.F ht⟩) h.2.2.2.2 dX8_isLetter_25
  · have c_5 := z_nlt c_5
    have br_1_7 : zB 97 127 r_1 := zB.leR c_5 (zBc 97 97 (by decide)) br_1 (by decide)
    refine lv_aload_n hx hb dX8_isLetter_10 rfl (lv_at hl 0 rfl) ?_
    refine lv_iload_n hx hb dX8_isLetter_11 rfl (lv_at hl 1 rfl) ?_
    refine zk_Vi (As := [.int i]) (rest := []) (bytes := cX8_textAt) (maxL := 2) (ret := (some .int)) Z h (ze_X8_textAt l D k Γ L F H.size tk i Bt nt htk p_tx) (cwV 1 hg zv_RX8_62 rfl rfl rfl zd_X8_textAt ⟨z_leR hRf (by decide), z_leR hRl (by decide)⟩) htk (by decide) rfl rfl hl.1 rfl (Nat.le_of_ble_eq_true rfl) dX8_isLetter_12 ⟨Nat.zero_le _, Nat.zero_le _⟩ (fun r_8 F_9 H locs w_10 h hfF_9 => ?_)
    obtain ⟨rfl, br_8, q_11, -⟩ := w_10
    refine lv_bipush (v := 122) hx hb dX8_isLetter_15 (by decide) ?_
    refine lv_icmp_gt (tgt := 24) hx hb dX8_isLetter_17 (by decide) (fun c_12 => ?_) (fun c_12 => ?_)
    · have c_12 := z_lt c_12
      have br_8_13 : zB 123 127 r_8 := zB.ltR c_12 (zBc 122 122 (by decide)) br_8 (by decide)
      refine lv_iconst (v := 0) hx hb dX8_isLetter_24 (by decide) ?_
      subst hQ
      exact W.zret (v := 0) hx hb hr (by decide) (fun t ht hW => ⟨⟨0, F, rfl, ⟨rfl, (zB.of ⟨by decide, by decide⟩), (by have := (zB.all i).1; have := (zB.all i).2; have : (0 : Int32).toInt = 0 := (by decide); have : (97 : Int32).toInt = 97 := (by decide); have : (122 : Int32).toInt = 122 := (by decide); omega), trivial⟩, by rw [ht]; exact h.1, h.2.1, zFr.rf⟩, h.2.2.F ht⟩) h.2.2.2.2 dX8_isLetter_25
    · have c_12 := z_nlt c_12
      have br_8_14 : zB (-128) 122 r_8 := zB.leL c_12 br_8 (zBc 122 122 (by decide)) (by decide)
      refine lv_iconst (v := 1) hx hb dX8_isLetter_20 (by decide) ?_
      refine lv_goto (tgt := 25) hx hb dX8_isLetter_21 (by decide) ?_
      subst hQ
      exact W.zret (v := 1) hx hb hr (by decide) (fun t ht hW => ⟨⟨1, F, rfl, ⟨rfl, (zB.of ⟨by decide, by decide⟩), (by have := (zB.all i).1; have := (zB.all i).2; have : (1 : Int32).toInt = 1 := (by decide); have : (97 : Int32).toInt = 97 := (by decide); have : (122 : Int32).toInt = 122 := (by decide); omega), trivial⟩, by rw [ht]; exact h.1, h.2.1, zFr.rf⟩, h.2.2.F ht⟩) h.2.2.2.2 dX8_isLetter_25

set_option maxHeartbeats 4000000 in
set_option maxRecDepth 100000 in
theorem ze_X8_isDigit (l : Launch) (D : va_G) (k : Nat → ClassId) (Γ : Nat → Option Nat) (L : List Nat) (F : Nat → va_E) (sz : Nat) (tk : Nat) (i : Int32) (Bt : Nat → Int32) (nt : Nat) (htk : Γ tk = some 8) (p_tx : zTx Γ F tk Bt nt) : Met l yX8_isDigit zwX8_isDigit ({ frames := 1, cells := 0, slots := 0, locals := 21 }) (va_Pc [.ref tk, .int i] (zP D k Γ L F sz)) (va_Qi (fun (r : Int32) (u : Nat → va_E) => F = u ∧ zB 0 1 r ∧ ((r.toInt = 1 ∧ 48 ≤ zby Bt nt i.toInt ∧ zby Bt nt i.toInt ≤ 57) ∨ (r.toInt = 0 ∧ (zby Bt nt i.toInt < 48 ∨ 57 < zby Bt nt i.toInt))) ∧ True) (zQ D k Γ L F []) (zA L sz)) 0 0 (zA L sz) := by
  refine Met.ofW (cc := cX8_isDigit) (maxL := 2) (ret := (some .boolean)) (by decide) rfl ?_
  intro p e s m args below meth c s₁ B hml hv
  obtain ⟨rfl, hsz, hP, hK, hLn, hE, hI⟩ := hv
  have hx := B.exec
  have hb := B.bytes
  have hr := B.returns
  have hg : ∀ w ∈ zG, w.before _ s = true := fun w h9 => atoms_spec (ws := zwX8_isDigit) B.pre w (List.mem_cons_of_mem _ h9)
  have hown : s.vm.findClass RX8 = some m.cls := findClass_of_methodNamed B.named
  have hlocks := B.notSynchronized
  subst hsz
  have Z : zC p m c cX8_isDigit 2 s _ zG RX8 D k L := ⟨⟨hx, hb, hml, hown, hg⟩, hK, hLn, hE⟩
  have h : zH D k Γ L s F s.heap [] := ⟨hP, hI, va_S.rf⟩
  have hl := lv_entry ([.ref tk, .int i]) (n := 2) (Nat.le_of_ble_eq_true rfl)
  rw [lg_entry_eq]
  generalize (lg_sl ([.ref tk, .int i]) ++ List.replicate (2 - (lg_sl ([.ref tk, .int i])).length) Slot.unset).toArray = ls at hl ⊢
  have hl : lv_has ls 2 [(0, .ref tk), (1, .int i)] := hl
  clear hP hK hLn hE hI
  generalize hargs : ([.ref tk, .int i] : List Value).toArray = args at *
  refine z_start (fun R Q hRf hRl hQ => ?_)
  have hRf : R.frames = 1 := hRf
  have hRl : R.locals = 21 := hRl
  have h9 := h
  refine lv_aload_n hx hb dX8_isDigit_0 rfl (lv_at hl 0 rfl) ?_
  refine lv_iload_n hx hb dX8_isDigit_1 rfl (lv_at hl 1 rfl) ?_
  refine zk_Vi (As := [.int i]) (rest := []) (bytes := cX8_textAt) (maxL := 2) (ret := (some .int)) Z h (ze_X8_textAt l D k Γ L F s.heap.size tk i Bt nt htk p_tx) (cwV 1 hg zv_RX8_62 rfl rfl rfl zd_X8_textAt ⟨z_leR hRf (by decide), z_leR hRl (by decide)⟩) htk (by decide) rfl rfl hl.1 rfl (Nat.le_of_ble_eq_true rfl) dX8_isDigit_2 ⟨Nat.zero_le _, Nat.zero_le _⟩ (fun r_1 F_2 H locs w_3 h hfF_2 => ?_)
  obtain ⟨rfl, br_1, q_4, -⟩ := w_3
  refine lv_bipush (v := 48) hx hb dX8_isDigit_5 (by decide) ?_
  refine lv_icmp_lt (tgt := 24) hx hb dX8_isDigit_7 (by decide) (fun c_5 => ?_) (fun c_5 => ?_)
  · have c_5 := z_lt c_5
    have br_1_6 : zB (-128) 47 r_1 := zB.ltL c_5 br_1 (zBc 48 48 (by decide)) (by decide)
    refine lv_iconst (v := 0) hx hb dX8_isDigit_24 (by decide) ?_
    subst hQ
    exact W.zret (v := 0) hx hb hr (by decide) (fun t ht hW => ⟨⟨0, F, rfl, ⟨rfl, (zB.of ⟨by decide, by decide⟩), (by have := (zB.all i).1; have := (zB.all i).2; have : (0 : Int32).toInt = 0 := (by decide); have : (48 : Int32).toInt = 48 := (by decide); omega), trivial⟩, by rw [ht]; exact h.1, h.2.1, zFr.rf⟩, h.2.2.F ht⟩) h.2.2.2.2 dX8_isDigit_25
  · have c_5 := z_nlt c_5
    have br_1_7 : zB 48 127 r_1 := zB.leR c_5 (zBc 48 48 (by decide)) br_1 (by decide)
    refine lv_aload_n hx hb dX8_isDigit_10 rfl (lv_at hl 0 rfl) ?_
    refine lv_iload_n hx hb dX8_isDigit_11 rfl (lv_at hl 1 rfl) ?_
    refine zk_Vi (As := [.int i]) (rest := []) (bytes := cX8_textAt) (maxL := 2) (ret := (some .int)) Z h (ze_X8_textAt l D k Γ L F H.size tk i Bt nt htk p_tx) (cwV 1 hg zv_RX8_62 rfl rfl rfl zd_X8_textAt ⟨z_leR hRf (by decide), z_leR hRl (by decide)⟩) htk (by decide) rfl rfl hl.1 rfl (Nat.le_of_ble_eq_true rfl) dX8_isDigit_12 ⟨Nat.zero_le _, Nat.zero_le _⟩ (fun r_8 F_9 H locs w_10 h hfF_9 => ?_)
    obtain ⟨rfl, br_8, q_11, -⟩ := w_10
    refine lv_bipush (v := 57) hx hb dX8_isDigit_15 (by decide) ?_
    refine lv_icmp_gt (tgt := 24) hx hb dX8_isDigit_17 (by decide) (fun c_12 => ?_) (fun c_12 => ?_)
    · have c_12 := z_lt c_12
      have br_8_13 : zB 58 127 r_8 := zB.ltR c_12 (zBc 57 57 (by decide)) br_8 (by decide)
      refine lv_iconst (v := 0) hx hb dX8_isDigit_24 (by decide) ?_
      subst hQ
      exact W.zret (v := 0) hx hb hr (by decide) (fun t ht hW => ⟨⟨0, F, rfl, ⟨rfl, (zB.of ⟨by decide, by decide⟩), (by have := (zB.all i).1; have := (zB.all i).2; have : (0 : Int32).toInt = 0 := (by decide); have : (48 : Int32).toInt = 48 := (by decide); have : (57 : Int32).toInt = 57 := (by decide); omega), trivial⟩, by rw [ht]; exact h.1, h.2.1, zFr.rf⟩, h.2.2.F ht⟩) h.2.2.2.2 dX8_isDigit_25
    · have c_12 := z_nlt c_12
      have br_8_14 : zB (-128) 57 r_8 := zB.leL c_12 br_8 (zBc 57 57 (by decide)) (by decide)
      refine lv_iconst (v := 1) hx hb dX8_isDigit_20 (by decide) ?_
      refine lv_goto (tgt := 25) hx hb dX8_isDigit_21 (by decide) ?_
      subst hQ
      exact W.zret (v := 1) hx hb hr (by decide) (fun t ht hW => ⟨⟨1, F, rfl, ⟨rfl, (zB.of ⟨by decide, by decide⟩), (by have := (zB.all i).1; have := (zB.all i).2; have : (1 : Int32).toInt = 1 := (by decide); have : (48 : Int32).toInt = 48 := (by decide); have : (57 : Int32).toInt = 57 := (by decide); omega), trivial⟩, by rw [ht]; exact h.1, h.2.1, zFr.rf⟩, h.2.2.F ht⟩) h.2.2.2.2 dX8_isDigit_25

set_option maxHeartbeats 4000000 in
set_option maxRecDepth 100000 in
theorem ze_X8_isSign (l : Launch) (D : va_G) (k : Nat → ClassId) (Γ : Nat → Option Nat) (L : List Nat) (F : Nat → va_E) (sz : Nat) (b : Int32) : Met l yX8_isSign zwX8_isSign ({ frames := 0, cells := 0, slots := 0, locals := 0 }) (va_Pc [.int b] (zP D k Γ L F sz)) (va_Qi (fun (r : Int32) (u : Nat → va_E) => F = u ∧ zB 0 1 r ∧ ((r.toInt = 1 ∧ zsg b.toInt) ∨ (r.toInt = 0 ∧ ¬ zsg b.toInt)) ∧ True) (zQ D k Γ L F []) (zA L sz)) 0 0 (zA L sz) := by
  refine Met.ofW (cc := cX8_isSign) (maxL := 1) (ret := (some .boolean)) (by decide) rfl ?_
  intro p e s m args below meth c s₁ B hml hv
  obtain ⟨rfl, hsz, hP, hK, hLn, hE, hI⟩ := hv
  have hx := B.exec
  have hb := B.bytes
  have hr := B.returns
  have hg : ∀ w ∈ zG, w.before _ s = true := fun w h9 => atoms_spec (ws := zwX8_isSign) B.pre w (List.mem_cons_of_mem _ h9)
  have hown : s.vm.findClass RX8 = some m.cls := findClass_of_methodNamed B.named
  have hlocks := B.notSynchronized
  subst hsz
  have Z : zC p m c cX8_isSign 1 s _ zG RX8 D k L := ⟨⟨hx, hb, hml, hown, hg⟩, hK, hLn, hE⟩
  have h : zH D k Γ L s F s.heap [] := ⟨hP, hI, va_S.rf⟩
  have hl := lv_entry ([.int b]) (n := 1) (Nat.le_of_ble_eq_true rfl)
  rw [lg_entry_eq]
  generalize (lg_sl ([.int b]) ++ List.replicate (1 - (lg_sl ([.int b])).length) Slot.unset).toArray = ls at hl ⊢
  have hl : lv_has ls 1 [(0, .int b)] := hl
  clear hP hK hLn hE hI
  generalize hargs : ([.int b] : List Value).toArray = args at *
  refine z_start (fun R Q hRf hRl hQ => ?_)
  have hRf : R.frames = 0 := hRf
  have hRl : R.locals = 0 := hRl
  have h9 := h
  refine lv_iload_n hx hb dX8_isSign_0 rfl (lv_at hl 0 rfl) ?_
  by_cases c_1 : b = 40
  · refine lv_lookup (off := 107) (tgt := 108) hx hb dX8_isSign_1 (by decide) (by rw [c_1]; rfl) (by decide) ?_
    have bb_1 : zB 40 40 b := by rw [c_1]; exact zBc _ _ (by decide)
    refine lv_iconst (v := 1) hx hb dX8_isSign_108 (by decide) ?_
    subst hQ
    exact W.zret (v := 1) hx hb hr (by decide) (fun t ht hW => ⟨⟨1, F, rfl, ⟨rfl, (zB.of ⟨by decide, by decide⟩), (by unfold zsg; have := bb_1.1; have := bb_1.2; have : (1 : Int32).toInt = 1 := (by decide); omega), trivial⟩, by rw [ht]; exact h.1, h.2.1, zFr.rf⟩, h.2.2.F ht⟩) h.2.2.2.2 dX8_isSign_109
  · by_cases c_3 : b = 41
    · refine lv_lookup (off := 107) (tgt := 108) hx hb dX8_isSign_1 (by decide) (by rw [c_3]; rfl) (by decide) ?_
      have bb_3 : zB 41 41 b := by rw [c_3]; exact zBc _ _ (by decide)
      refine lv_iconst (v := 1) hx hb dX8_isSign_108 (by decide) ?_
      subst hQ
      exact W.zret (v := 1) hx hb hr (by decide) (fun t ht hW => ⟨⟨1, F, rfl, ⟨rfl, (zB.of ⟨by decide, by decide⟩), (by unfold zsg; have := bb_3.1; have := bb_3.2; have : (1 : Int32).toInt = 1 := (by decide); omega), trivial⟩, by rw [ht]; exact h.1, h.2.1, zFr.rf⟩, h.2.2.F ht⟩) h.2.2.2.2 dX8_isSign_109
    · by_cases c_5 : b = 42
      · refine lv_lookup (off := 107) (tgt := 108) hx hb dX8_isSign_1 (by decide) (by rw [c_5]; rfl) (by decide) ?_
        have bb_5 : zB 42 42 b := by rw [c_5]; exact zBc _ _ (by decide)
        refine lv_iconst (v := 1) hx hb dX8_isSign_108 (by decide) ?_
        subst hQ
        exact W.zret (v := 1) hx hb hr (by decide) (fun t ht hW => ⟨⟨1, F, rfl, ⟨rfl, (zB.of ⟨by decide, by decide⟩), (by unfold zsg; have := bb_5.1; have := bb_5.2; have : (1 : Int32).toInt = 1 := (by decide); omega), trivial⟩, by rw [ht]; exact h.1, h.2.1, zFr.rf⟩, h.2.2.F ht⟩) h.2.2.2.2 dX8_isSign_109
      · by_cases c_7 : b = 43
        · refine lv_lookup (off := 107) (tgt := 108) hx hb dX8_isSign_1 (by decide) (by rw [c_7]; rfl) (by decide) ?_
          have bb_7 : zB 43 43 b := by rw [c_7]; exact zBc _ _ (by decide)
          refine lv_iconst (v := 1) hx hb dX8_isSign_108 (by decide) ?_
          subst hQ
          exact W.zret (v := 1) hx hb hr (by decide) (fun t ht hW => ⟨⟨1, F, rfl, ⟨rfl, (zB.of ⟨by decide, by decide⟩), (by unfold zsg; have := bb_7.1; have := bb_7.2; have : (1 : Int32).toInt = 1 := (by decide); omega), trivial⟩, by rw [ht]; exact h.1, h.2.1, zFr.rf⟩, h.2.2.F ht⟩) h.2.2.2.2 dX8_isSign_109
        · by_cases c_9 : b = 44
          · refine lv_lookup (off := 107) (tgt := 108) hx hb dX8_isSign_1 (by decide) (by rw [c_9]; rfl) (by decide) ?_
            have bb_9 : zB 44 44 b := by rw [c_9]; exact zBc _ _ (by decide)
            refine lv_iconst (v := 1) hx hb dX8_isSign_108 (by decide) ?_
            subst hQ
            exact W.zret (v := 1) hx hb hr (by decide) (fun t ht hW => ⟨⟨1, F, rfl, ⟨rfl, (zB.of ⟨by decide, by decide⟩), (by unfold zsg; have := bb_9.1; have := bb_9.2; have : (1 : Int32).toInt = 1 := (by decide); omega), trivial⟩, by rw [ht]; exact h.1, h.2.1, zFr.rf⟩, h.2.2.F ht⟩) h.2.2.2.2 dX8_isSign_109
          · by_cases c_11 : b = 45
            · refine lv_lookup (off := 107) (tgt := 108) hx hb dX8_isSign_1 (by decide) (by rw [c_11]; rfl) (by decide) ?_
              have bb_11 : zB 45 45 b := by rw [c_11]; exact zBc _ _ (by decide)
              refine lv_iconst (v := 1) hx hb dX8_isSign_108 (by decide) ?_
              subst hQ
              exact W.zret (v := 1) hx hb hr (by decide) (fun t ht hW => ⟨⟨1, F, rfl, ⟨rfl, (zB.of ⟨by decide, by decide⟩), (by unfold zsg; have := bb_11.1; have := bb_11.2; have : (1 : Int32).toInt = 1 := (by decide); omega), trivial⟩, by rw [ht]; exact h.1, h.2.1, zFr.rf⟩, h.2.2.F ht⟩) h.2.2.2.2 dX8_isSign_109
            · by_cases c_13 : b = 59
              · refine lv_lookup (off := 107) (tgt := 108) hx hb dX8_isSign_1 (by decide) (by rw [c_13]; rfl) (by decide) ?_
                have bb_13 : zB 59 59 b := by rw [c_13]; exact zBc _ _ (by decide)
                refine lv_iconst (v := 1) hx hb dX8_isSign_108 (by decide) ?_
                subst hQ
                exact W.zret (v := 1) hx hb hr (by decide) (fun t ht hW => ⟨⟨1, F, rfl, ⟨rfl, (zB.of ⟨by decide, by decide⟩), (by unfold zsg; have := bb_13.1; have := bb_13.2; have : (1 : Int32).toInt = 1 := (by decide); omega), trivial⟩, by rw [ht]; exact h.1, h.2.1, zFr.rf⟩, h.2.2.F ht⟩) h.2.2.2.2 dX8_isSign_109
              · by_cases c_15 : b = 60
                · refine lv_lookup (off := 107) (tgt := 108) hx hb dX8_isSign_1 (by decide) (by rw [c_15]; rfl) (by decide) ?_
                  have bb_15 : zB 60 60 b := by rw [c_15]; exact zBc _ _ (by decide)
                  refine lv_iconst (v := 1) hx hb dX8_isSign_108 (by decide) ?_
                  subst hQ
                  exact W.zret (v := 1) hx hb hr (by decide) (fun t ht hW => ⟨⟨1, F, rfl, ⟨rfl, (zB.of ⟨by decide, by decide⟩), (by unfold zsg; have := bb_15.1; have := bb_15.2; have : (1 : Int32).toInt = 1 := (by decide); omega), trivial⟩, by rw [ht]; exact h.1, h.2.1, zFr.rf⟩, h.2.2.F ht⟩) h.2.2.2.2 dX8_isSign_109
                · by_cases c_17 : b = 61
                  · refine lv_lookup (off := 107) (tgt := 108) hx hb dX8_isSign_1 (by decide) (by rw [c_17]; rfl) (by decide) ?_
                    have bb_17 : zB 61 61 b := by rw [c_17]; exact zBc _ _ (by decide)
                    refine lv_iconst (v := 1) hx hb dX8_isSign_108 (by decide) ?_
                    subst hQ
                    exact W.zret (v := 1) hx hb hr (by decide) (fun t ht hW => ⟨⟨1, F, rfl, ⟨rfl, (zB.of ⟨by decide, by decide⟩), (by unfold zsg; have := bb_17.1; have := bb_17.2; have : (1 : Int32).toInt = 1 := (by decide); omega), trivial⟩, by rw [ht]; exact h.1, h.2.1, zFr.rf⟩, h.2.2.F ht⟩) h.2.2.2.2 dX8_isSign_109
                  · by_cases c_19 : b = 62
                    · refine lv_lookup (off := 107) (tgt := 108) hx hb dX8_isSign_1 (by decide) (by rw [c_19]; rfl) (by decide) ?_
                      have bb_19 : zB 62 62 b := by rw [c_19]; exact zBc _ _ (by decide)
                      refine lv_iconst (v := 1) hx hb dX8_isSign_108 (by decide) ?_
                      subst hQ
                      exact W.zret (v := 1) hx hb hr (by decide) (fun t ht hW => ⟨⟨1, F, rfl, ⟨rfl, (zB.of ⟨by decide, by decide⟩), (by unfold zsg; have := bb_19.1; have := bb_19.2; have : (1 : Int32).toInt = 1 := (by decide); omega), trivial⟩, by rw [ht]; exact h.1, h.2.1, zFr.rf⟩, h.2.2.F ht⟩) h.2.2.2.2 dX8_isSign_109
                    · by_cases c_21 : b = 123
                      · refine lv_lookup (off := 107) (tgt := 108) hx hb dX8_isSign_1 (by decide) (by rw [c_21]; rfl) (by decide) ?_
                        have bb_21 : zB 123 123 b := by rw [c_21]; exact zBc _ _ (by decide)
                        refine lv_iconst (v := 1) hx hb dX8_isSign_108 (by decide) ?_
                        subst hQ
                        exact W.zret (v := 1) hx hb hr (by decide) (fun t ht hW => ⟨⟨1, F, rfl, ⟨rfl, (zB.of ⟨by decide, by decide⟩), (by unfold zsg; have := bb_21.1; have := bb_21.2; have : (1 : Int32).toInt = 1 := (by decide); omega), trivial⟩, by rw [ht]; exact h.1, h.2.1, zFr.rf⟩, h.2.2.F ht⟩) h.2.2.2.2 dX8_isSign_109
                      · by_cases c_23 : b = 125
                        · refine lv_lookup (off := 107) (tgt := 108) hx hb dX8_isSign_1 (by decide) (by rw [c_23]; rfl) (by decide) ?_
                          have bb_23 : zB 125 125 b := by rw [c_23]; exact zBc _ _ (by decide)
                          refine lv_iconst (v := 1) hx hb dX8_isSign_108 (by decide) ?_
                          subst hQ
                          exact W.zret (v := 1) hx hb hr (by decide) (fun t ht hW => ⟨⟨1, F, rfl, ⟨rfl, (zB.of ⟨by decide, by decide⟩), (by unfold zsg; have := bb_23.1; have := bb_23.2; have : (1 : Int32).toInt = 1 := (by decide); omega), trivial⟩, by rw [ht]; exact h.1, h.2.1, zFr.rf⟩, h.2.2.F ht⟩) h.2.2.2.2 dX8_isSign_109
                        · have nc_1 : b.toInt ≠ 40 := z_nev c_1 (by decide)
                          have nc_3 : b.toInt ≠ 41 := z_nev c_3 (by decide)
                          have nc_5 : b.toInt ≠ 42 := z_nev c_5 (by decide)
                          have nc_7 : b.toInt ≠ 43 := z_nev c_7 (by decide)
                          have nc_9 : b.toInt ≠ 44 := z_nev c_9 (by decide)
                          have nc_11 : b.toInt ≠ 45 := z_nev c_11 (by decide)
                          have nc_13 : b.toInt ≠ 59 := z_nev c_13 (by decide)
                          have nc_15 : b.toInt ≠ 60 := z_nev c_15 (by decide)
                          have nc_17 : b.toInt ≠ 61 := z_nev c_17 (by decide)
                          have nc_19 : b.toInt ≠ 62 := z_nev c_19 (by decide)
                          have nc_21 : b.toInt ≠ 123 := z_nev c_21 (by decide)
                          have nc_23 : b.toInt ≠ 125 := z_nev c_23 (by decide)
                          refine lv_lookup (off := 109) (tgt := 110) hx hb dX8_isSign_1 (by decide) ((lv_osw (k := 40) c_1 (by decide)).trans ((lv_osw (k := 41) c_3 (by decide)).trans ((lv_osw (k := 42) c_5 (by decide)).trans ((lv_osw (k := 43) c_7 (by decide)).trans ((lv_osw (k := 44) c_9 (by decide)).trans ((lv_osw (k := 45) c_11 (by decide)).trans ((lv_osw (k := 59) c_13 (by decide)).trans ((lv_osw (k := 60) c_15 (by decide)).trans ((lv_osw (k := 61) c_17 (by decide)).trans ((lv_osw (k := 62) c_19 (by decide)).trans ((lv_osw (k := 123) c_21 (by decide)).trans ((lv_osw (k := 125) c_23 (by decide)).trans rfl)))))))))))) (by decide) ?_
                          refine lv_iconst (v := 0) hx hb dX8_isSign_110 (by decide) ?_
                          subst hQ
                          exact W.zret (v := 0) hx hb hr (by decide) (fun t ht hW => ⟨⟨0, F, rfl, ⟨rfl, (zB.of ⟨by decide, by decide⟩), (by unfold zsg; have := (zB.all b).1; have := (zB.all b).2; have : (0 : Int32).toInt = 0 := (by decide); omega), trivial⟩, by rw [ht]; exact h.1, h.2.1, zFr.rf⟩, h.2.2.F ht⟩) h.2.2.2.2 dX8_isSign_111

set_option maxHeartbeats 4000000 in
set_option maxRecDepth 100000 in
theorem ze_X8_widthAt (l : Launch) (D : va_G) (k : Nat → ClassId) (Γ : Nat → Option Nat) (L : List Nat) (F : Nat → va_E) (sz : Nat) (tk : Nat) (i : Int32) (Bt : Nat → Int32) (nt : Nat) (htk : Γ tk = some 8) (bi : zB 0 599 i) (p_tx : zTx Γ F tk Bt nt) (hr0 : i.toInt < nt) : Met l yX8_widthAt zwX8_widthAt ({ frames := 2, cells := 0, slots := 0, locals := 42 }) (va_Pc [.ref tk, .int i] (zP D k Γ L F sz)) (va_Qi (fun (r : Int32) (u : Nat → va_E) => F = u ∧ zB 0 8 r ∧ r.toInt = zwa Bt nt i.toInt ∧ True) (zQ D k Γ L F []) (zA L sz)) 0 0 (zA L sz) := by
  refine Met.ofW (cc := cX8_widthAt) (maxL := 3) (ret := (some .int)) (by decide) rfl ?_
  intro p e s m args below meth c s₁ B hml hv
  obtain ⟨rfl, hsz, hP, hK, hLn, hE, hI⟩ := hv
  have hx := B.exec
  have hb := B.bytes
  have hr := B.returns
  have hg : ∀ w ∈ zG, w.before _ s = true := fun w h9 => atoms_spec (ws := zwX8_widthAt) B.pre w (List.mem_cons_of_mem _ h9)
  have hown : s.vm.findClass RX8 = some m.cls := findClass_of_methodNamed B.named
  have hlocks := B.notSynchronized
  subst hsz
  have Z : zC p m c cX8_widthAt 3 s _ zG RX8 D k L := ⟨⟨hx, hb, hml, hown, hg⟩, hK, hLn, hE⟩
  have h : zH D k Γ L s F s.heap [] := ⟨hP, hI, va_S.rf⟩
  have hl := lv_entry ([.ref tk, .int i]) (n := 3) (Nat.le_of_ble_eq_true rfl)
  rw [lg_entry_eq]
  generalize (lg_sl ([.ref tk, .int i]) ++ List.replicate (3 - (lg_sl ([.ref tk, .int i])).length) Slot.unset).toArray = ls at hl ⊢
  have hl : lv_has ls 3 [(0, .ref tk), (1, .int i)] := hl
  clear hP hK hLn hE hI
  generalize hargs : ([.ref tk, .int i] : List Value).toArray = args at *
  refine z_start (fun R Q hRf hRl hQ => ?_)
  have hRf : R.frames = 2 := hRf
  have hRl : R.locals = 42 := hRl
  have h9 := h
  obtain ⟨ln_, kln_, tln_⟩ := p_tx.2.1
  have hn6 := p_tx.2.2.1
  have bln_ : zB 0 600 ln_ := ⟨by omega, by omega⟩
  refine lv_aload_n hx hb dX8_widthAt_0 rfl (lv_at hl 0 rfl) ?_
  refine lv_iload_n hx hb dX8_widthAt_1 rfl (lv_at hl 1 rfl) ?_
  refine zk_Vi (As := [.int i]) (rest := []) (bytes := cX8_isLetter) (maxL := 2) (ret := (some .boolean)) Z h (ze_X8_isLetter l D k Γ L F s.heap.size tk i Bt nt htk p_tx) (cwV 1 hg zv_RX8_68 rfl rfl rfl zd_X8_isLetter ⟨z_leR hRf (by decide), z_leR hRl (by decide)⟩) htk (by decide) rfl rfl hl.1 rfl (Nat.le_of_ble_eq_true rfl) dX8_widthAt_2 ⟨Nat.zero_le _, Nat.zero_le _⟩ (fun r_1 F_2 H locs w_3 h hfF_2 => ?_)
  obtain ⟨rfl, br_1, q_4, -⟩ := w_3
  refine lv_if_eq (tgt := 50) hx hb dX8_widthAt_5 (by decide) (fun c_5 => ?_) (fun c_5 => ?_)
  · have c_5 := z_eq c_5
    have br_1_6 : zB 0 0 r_1 := zB.eqL (a := 0) (b := 0) c_5 (zBc 0 0 (by decide))
    refine lv_aload_n hx hb dX8_widthAt_50 rfl (lv_at hl 0 rfl) ?_
    refine lv_iload_n hx hb dX8_widthAt_51 rfl (lv_at hl 1 rfl) ?_
    refine zk_Vi (As := [.int i]) (rest := []) (bytes := cX8_isDigit) (maxL := 2) (ret := (some .boolean)) Z h (ze_X8_isDigit l D k Γ L F H.size tk i Bt nt htk p_tx) (cwV 1 hg zv_RX8_71 rfl rfl rfl zd_X8_isDigit ⟨z_leR hRf (by decide), z_leR hRl (by decide)⟩) htk (by decide) rfl rfl hl.1 rfl (Nat.le_of_ble_eq_true rfl) dX8_widthAt_52 ⟨Nat.zero_le _, Nat.zero_le _⟩ (fun r_7 F_8 H locs w_9 h hfF_8 => ?_)
    obtain ⟨rfl, br_7, q_10, -⟩ := w_9
    refine lv_if_eq (tgt := 99) hx hb dX8_widthAt_55 (by decide) (fun c_11 => ?_) (fun c_11 => ?_)
    · have c_11 := z_eq c_11
      have br_7_12 : zB 0 0 r_7 := zB.eqL (a := 0) (b := 0) c_11 (zBc 0 0 (by decide))
      refine lv_aload_n hx hb dX8_widthAt_99 rfl (lv_at hl 0 rfl) ?_
      refine lv_iload_n hx hb dX8_widthAt_100 rfl (lv_at hl 1 rfl) ?_
      refine zk_Vi (As := [.int i]) (rest := []) (bytes := cX8_textAt) (maxL := 2) (ret := (some .int)) Z h (ze_X8_textAt l D k Γ L F H.size tk i Bt nt htk p_tx) (cwV 1 hg zv_RX8_62 rfl rfl rfl zd_X8_textAt ⟨z_leR hRf (by decide), z_leR hRl (by decide)⟩) htk (by decide) rfl rfl hl.1 rfl (Nat.le_of_ble_eq_true rfl) dX8_widthAt_101 ⟨Nat.zero_le _, Nat.zero_le _⟩ (fun r_13 F_14 H locs w_15 h hfF_14 => ?_)
      obtain ⟨rfl, br_13, q_16, -⟩ := w_15
      refine zk_Si (As := [.int r_13]) (rest := []) (bytes := cX8_isSign) (maxL := 1) (ret := (some .boolean)) Z h (ze_X8_isSign l D k Γ L F H.size r_13) (va_cwS 1 hg zv_RX8_74 rfl rfl rfl zd_X8_isSign ⟨z_leR hRf (by decide), z_leR hRl (by decide)⟩) rfl hl.1 rfl (Nat.le_of_ble_eq_true rfl) dX8_widthAt_104 ⟨Nat.zero_le _, Nat.zero_le _⟩ (fun r_17 F_18 H locs w_19 h hfF_18 => ?_)
      obtain ⟨rfl, br_17, q_20, -⟩ := w_19
      have hsg_ := q_20
      have hby_ := q_16
      refine lv_if_eq (tgt := 114) hx hb dX8_widthAt_107 (by decide) (fun c_21 => ?_) (fun c_21 => ?_)
      · have c_21 := z_eq c_21
        have br_17_22 : zB 0 0 r_17 := zB.eqL (a := 0) (b := 0) c_21 (zBc 0 0 (by decide))
        refine lv_iconst (v := 0) hx hb dX8_widthAt_114 (by decide) ?_
        subst hQ
        exact W.iret (v := 0) hx hb hr (fun t ht hW => ⟨⟨0, F, rfl, ⟨rfl, (zB.of ⟨by decide, by decide⟩), (by have h7 := zwa_s (B := Bt) (n := nt) (a := i.toInt) (by have := bi.1; have := bi.2; have := bln_.1; have := bln_.2; have : (0 : Int32).toInt = 0 := (by decide); omega) (by have := bi.1; have := bi.2; have := bln_.1; have := bln_.2; have : (0 : Int32).toInt = 0 := (by decide); omega); have h8 := h7.1; have h9 := h7.2; rcases hsg_ with ⟨g1, g2⟩ | ⟨g1, g2⟩; have := h8 (by rw [← hby_]; exact g2); have := bi.1; have := bi.2; have := bln_.1; have := bln_.2; have : (0 : Int32).toInt = 0 := (by decide); omega; have := h9 (by rw [← hby_]; exact g2); have := bi.1; have := bi.2; have := bln_.1; have := bln_.2; have : (0 : Int32).toInt = 0 := (by decide); omega), trivial⟩, by rw [ht]; exact h.1, h.2.1, zFr.rf⟩, h.2.2.F ht⟩) h.2.2.2.2 dX8_widthAt_115
      · have c_21 := z_ne c_21
        have br_17_23 : zB 1 1 r_17 := zB.neLo c_21 br_17 (zBc 0 0 (by decide)) (by decide)
        refine lv_iconst (v := 1) hx hb dX8_widthAt_110 (by decide) ?_
        refine lv_goto (tgt := 115) hx hb dX8_widthAt_111 (by decide) ?_
        subst hQ
        exact W.iret (v := 1) hx hb hr (fun t ht hW => ⟨⟨1, F, rfl, ⟨rfl, (zB.of ⟨by decide, by decide⟩), (by have h7 := zwa_s (B := Bt) (n := nt) (a := i.toInt) (by have := bi.1; have := bi.2; have := bln_.1; have := bln_.2; have : (0 : Int32).toInt = 0 := (by decide); have : (1 : Int32).toInt = 1 := (by decide); omega) (by have := bi.1; have := bi.2; have := bln_.1; have := bln_.2; have : (0 : Int32).toInt = 0 := (by decide); have : (1 : Int32).toInt = 1 := (by decide); omega); have h8 := h7.1; have h9 := h7.2; rcases hsg_ with ⟨g1, g2⟩ | ⟨g1, g2⟩; have := h8 (by rw [← hby_]; exact g2); have := bi.1; have := bi.2; have := bln_.1; have := bln_.2; have : (0 : Int32).toInt = 0 := (by decide); have : (1 : Int32).toInt = 1 := (by decide); omega; have := h9 (by rw [← hby_]; exact g2); have := bi.1; have := bi.2; have := bln_.1; have := bln_.2; have : (0 : Int32).toInt = 0 := (by decide); have : (1 : Int32).toInt = 1 := (by decide); omega), trivial⟩, by rw [ht]; exact h.1, h.2.1, zFr.rf⟩, h.2.2.F ht⟩) h.2.2.2.2 dX8_widthAt_115
    · have c_11 := z_ne c_11
      have br_7_24 : zB 1 1 r_7 := zB.neLo c_11 br_7 (zBc 0 0 (by decide)) (by decide)
      refine lv_iload_n hx hb dX8_widthAt_58 rfl (lv_at hl 1 rfl) ?_
      refine lv_iconst (v := 1) hx hb dX8_widthAt_59 (by decide) ?_
      refine lv_iadd hx hb dX8_widthAt_60 ?_
      refine zi_add (lo := 1) (hi := 600) bi (zBc 1 1 (by decide)) (by decide) (fun x_25 bx_25 tx_25 => ?_)
      refine lv_istore_n (lv' := [(2, .int x_25), (0, .ref tk), (1, .int i)]) hx hb dX8_widthAt_61 rfl hl (by decide) rfl (fun ls hl => ?_)
      have j_j62_26 : ∀ (n : Nat) (ls : Array Slot) (y2_j62_26 : Int32) (H : Heap) (locs : List Loc), lv_has ls 3 [(2, .int y2_j62_26), (0, .ref tk), (1, .int i)] → zB 1 600 y2_j62_26 → zH D k Γ L s F H locs → (i.toInt + 1 ≤ y2_j62_26.toInt) → (y2_j62_26.toInt ≤ nt) → (zend (zDg Bt nt) nt y2_j62_26.toInt = zte Bt nt i.toInt) → (2147483647 - y2_j62_26.toInt).toNat = n → W p l e R s m args below meth c H locs 0 0 Q (F0 m 62 ls []) := by
        intro n
        induction n using Nat.strongRecOn with
        | _ n ih_j62_26 =>
          intro ls y2_j62_26 H locs hl by2_j62_26 h r0_j62_26 r1_j62_26 r2_j62_26 hn_j62_26
          refine lv_iload_n hx hb dX8_widthAt_62 rfl (lv_at hl 0 rfl) ?_
          refine lv_aload_n hx hb dX8_widthAt_63 rfl (lv_at hl 1 rfl) ?_
          refine zt_getk (t := 8) (C := RX8) (T := TX8) (N := 6) Z h htk zin_8 rfl 1 kln_ ⟨by decide, rfl, by decide⟩ (zm_RX8 (List.mem_of_getElem? (i := 20) rfl)) (fun _ h9 => h9) dX8_widthAt_64 ?_
          refine lv_icmp_ge (tgt := 84) hx hb dX8_widthAt_67 (by decide) (fun c_27 => ?_) (fun c_27 => ?_)
          · have c_27 := z_le c_27
            have te_ := zend_d3 r2_j62_26 (by have := by2_j62_26.1; have := by2_j62_26.2; have := bi.1; have := bi.2; have := bln_.1; have := bln_.2; have : (0 : Int32).toInt = 0 := (by decide); have : (1 : Int32).toInt = 1 := (by decide); omega)
            refine lv_iload_n hx hb dX8_widthAt_84 rfl (lv_at hl 0 rfl) ?_
            refine lv_iload_n hx hb dX8_widthAt_85 rfl (lv_at hl 2 rfl) ?_
            refine lv_isub hx hb dX8_widthAt_86 ?_
            refine zi_sub (lo := (-598)) (hi := 600) by2_j62_26 bi (by decide) (fun x_28 bx_28 tx_28 => ?_)
            refine lv_iconst (v := 5) hx hb dX8_widthAt_87 (by decide) ?_
            refine lv_icmp_gt (tgt := 97) hx hb dX8_widthAt_88 (by decide) (fun c_29 => ?_) (fun c_29 => ?_)
            · have c_29 := z_lt c_29
              have bx_28_30 : zB 6 600 x_28 := zB.ltR c_29 (zBc 5 5 (by decide)) bx_28 (by decide)
              refine lv_iconst (v := 0) hx hb dX8_widthAt_97 (by decide) ?_
              subst hQ
              exact W.iret (v := 0) hx hb hr (fun t ht hW => ⟨⟨0, F, rfl, ⟨rfl, (zB.of ⟨by decide, by decide⟩), (by have h7 := zwa_d (a := i.toInt) (x := y2_j62_26.toInt) ⟨(by have := by2_j62_26.1; have := by2_j62_26.2; have := bi.1; have := bi.2; have := bln_.1; have := bln_.2; have : (0 : Int32).toInt = 0 := (by decide); have : (1 : Int32).toInt = 1 := (by decide); have : (5 : Int32).toInt = 5 := (by decide); omega), (by have := by2_j62_26.1; have := by2_j62_26.2; have := bi.1; have := bi.2; have := bln_.1; have := bln_.2; have : (0 : Int32).toInt = 0 := (by decide); have : (1 : Int32).toInt = 1 := (by decide); have : (5 : Int32).toInt = 5 := (by decide); omega)⟩ te_; have := by2_j62_26.1; have := by2_j62_26.2; have := bi.1; have := bi.2; have := bln_.1; have := bln_.2; have : (0 : Int32).toInt = 0 := (by decide); have : (1 : Int32).toInt = 1 := (by decide); have : (5 : Int32).toInt = 5 := (by decide); omega), trivial⟩, by rw [ht]; exact h.1, h.2.1, zFr.rf⟩, h.2.2.F ht⟩) h.2.2.2.2 dX8_widthAt_98
            · have c_29 := z_nlt c_29
              have bx_28_31 : zB (-598) 5 x_28 := zB.leL c_29 bx_28 (zBc 5 5 (by decide)) (by decide)
              refine lv_iload_n hx hb dX8_widthAt_91 rfl (lv_at hl 0 rfl) ?_
              refine lv_iload_n hx hb dX8_widthAt_92 rfl (lv_at hl 2 rfl) ?_
              refine lv_isub hx hb dX8_widthAt_93 ?_
              refine zi_sub (lo := (-598)) (hi := 600) by2_j62_26 bi (by decide) (fun x_32 bx_32 tx_32 => ?_)
              refine lv_goto (tgt := 98) hx hb dX8_widthAt_94 (by decide) ?_
              subst hQ
              exact W.iret (v := x_32) hx hb hr (fun t ht hW => ⟨⟨x_32, F, rfl, ⟨rfl, (zB.of ⟨by have := by2_j62_26.1; have := by2_j62_26.2; have := bi.1; have := bi.2; have := bx_32.1; have := bx_32.2; have := bln_.1; have := bln_.2; have : (0 : Int32).toInt = 0 := (by decide); have : (1 : Int32).toInt = 1 := (by decide); have : (5 : Int32).toInt = 5 := (by decide); omega, by have := by2_j62_26.1; have := by2_j62_26.2; have := bi.1; have := bi.2; have := bx_32.1; have := bx_32.2; have := bln_.1; have := bln_.2; have : (0 : Int32).toInt = 0 := (by decide); have : (1 : Int32).toInt = 1 := (by decide); have : (5 : Int32).toInt = 5 := (by decide); omega⟩), (by have h7 := zwa_d (a := i.toInt) (x := y2_j62_26.toInt) ⟨(by have := by2_j62_26.1; have := by2_j62_26.2; have := bi.1; have := bi.2; have := bx_32.1; have := bx_32.2; have := bln_.1; have := bln_.2; have : (0 : Int32).toInt = 0 := (by decide); have : (1 : Int32).toInt = 1 := (by decide); have : (5 : Int32).toInt = 5 := (by decide); omega), (by have := by2_j62_26.1; have := by2_j62_26.2; have := bi.1; have := bi.2; have := bx_32.1; have := bx_32.2; have := bln_.1; have := bln_.2; have : (0 : Int32).toInt = 0 := (by decide); have : (1 : Int32).toInt = 1 := (by decide); have : (5 : Int32).toInt = 5 := (by decide); omega)⟩ te_; have := by2_j62_26.1; have := by2_j62_26.2; have := bi.1; have := bi.2; have := bx_32.1; have := bx_32.2; have := bln_.1; have := bln_.2; have : (0 : Int32).toInt = 0 := (by decide); have : (1 : Int32).toInt = 1 := (by decide); have : (5 : Int32).toInt = 5 := (by decide); omega), trivial⟩, by rw [ht]; exact h.1, h.2.1, zFr.rf⟩, h.2.2.F ht⟩) h.2.2.2.2 dX8_widthAt_98
          · have c_27 := z_nle c_27
            have by2_j62_26_33 : zB 1 599 y2_j62_26 := zB.ltL c_27 by2_j62_26 bln_ (by decide)
            have bln__34 : zB 2 600 ln_ := zB.ltR c_27 by2_j62_26 bln_ (by decide)
            refine lv_aload_n hx hb dX8_widthAt_70 rfl (lv_at hl 1 rfl) ?_
            refine lv_iload_n hx hb dX8_widthAt_71 rfl (lv_at hl 0 rfl) ?_
            refine zk_Vi (As := [.int y2_j62_26]) (rest := []) (bytes := cX8_isDigit) (maxL := 2) (ret := (some .boolean)) Z h (ze_X8_isDigit l D k Γ L F H.size tk y2_j62_26 Bt nt htk p_tx) (cwV 1 hg zv_RX8_71 rfl rfl rfl zd_X8_isDigit ⟨z_leR hRf (by decide), z_leR hRl (by decide)⟩) htk (by decide) rfl rfl hl.1 rfl (Nat.le_of_ble_eq_true rfl) dX8_widthAt_72 ⟨Nat.zero_le _, Nat.zero_le _⟩ (fun r_35 F_36 H locs w_37 h hfF_36 => ?_)
            obtain ⟨rfl, br_35, q_38, -⟩ := w_37
            refine lv_if_eq (tgt := 84) hx hb dX8_widthAt_75 (by decide) (fun c_39 => ?_) (fun c_39 => ?_)
            · have c_39 := z_eq c_39
              have br_35_40 : zB 0 0 r_35 := zB.eqL (a := 0) (b := 0) c_39 (zBc 0 0 (by decide))
              have te_ := zend_d3 r2_j62_26 (by have := by2_j62_26_33.1; have := by2_j62_26_33.2; have := bi.1; have := bi.2; have := bln__34.1; have := bln__34.2; have : (0 : Int32).toInt = 0 := (by decide); have : (1 : Int32).toInt = 1 := (by decide); omega)
              refine lv_iload_n hx hb dX8_widthAt_84 rfl (lv_at hl 0 rfl) ?_
              refine lv_iload_n hx hb dX8_widthAt_85 rfl (lv_at hl 2 rfl) ?_
              refine lv_isub hx hb dX8_widthAt_86 ?_
              refine zi_sub (lo := (-598)) (hi := 599) by2_j62_26_33 bi (by decide) (fun x_41 bx_41 tx_41 => ?_)
              refine lv_iconst (v := 5) hx hb dX8_widthAt_87 (by decide) ?_
              refine lv_icmp_gt (tgt := 97) hx hb dX8_widthAt_88 (by decide) (fun c_42 => ?_) (fun c_42 => ?_)
              · have c_42 := z_lt c_42
                have bx_41_43 : zB 6 599 x_41 := zB.ltR c_42 (zBc 5 5 (by decide)) bx_41 (by decide)
                refine lv_iconst (v := 0) hx hb dX8_widthAt_97 (by decide) ?_
                subst hQ
                exact W.iret (v := 0) hx hb hr (fun t ht hW => ⟨⟨0, F, rfl, ⟨rfl, (zB.of ⟨by decide, by decide⟩), (by have h7 := zwa_d (a := i.toInt) (x := y2_j62_26.toInt) ⟨(by have := by2_j62_26_33.1; have := by2_j62_26_33.2; have := bi.1; have := bi.2; have := bln__34.1; have := bln__34.2; have : (0 : Int32).toInt = 0 := (by decide); have : (1 : Int32).toInt = 1 := (by decide); have : (5 : Int32).toInt = 5 := (by decide); omega), (by have := by2_j62_26_33.1; have := by2_j62_26_33.2; have := bi.1; have := bi.2; have := bln__34.1; have := bln__34.2; have : (0 : Int32).toInt = 0 := (by decide); have : (1 : Int32).toInt = 1 := (by decide); have : (5 : Int32).toInt = 5 := (by decide); omega)⟩ te_; have := by2_j62_26_33.1; have := by2_j62_26_33.2; have := bi.1; have := bi.2; have := bln__34.1; have := bln__34.2; have : (0 : Int32).toInt = 0 := (by decide); have : (1 : Int32).toInt = 1 := (by decide); have : (5 : Int32).toInt = 5 := (by decide); omega), trivial⟩, by rw [ht]; exact h.1, h.2.1, zFr.rf⟩, h.2.2.F ht⟩) h.2.2.2.2 dX8_widthAt_98
              · have c_42 := z_nlt c_42
                have bx_41_44 : zB (-598) 5 x_41 := zB.leL c_42 bx_41 (zBc 5 5 (by decide)) (by decide)
                refine lv_iload_n hx hb dX8_widthAt_91 rfl (lv_at hl 0 rfl) ?_
                refine lv_iload_n hx hb dX8_widthAt_92 rfl (lv_at hl 2 rfl) ?_
                refine lv_isub hx hb dX8_widthAt_93 ?_
                refine zi_sub (lo := (-598)) (hi := 599) by2_j62_26_33 bi (by decide) (fun x_45 bx_45 tx_45 => ?_)
                refine lv_goto (tgt := 98) hx hb dX8_widthAt_94 (by decide) ?_
                subst hQ
                exact W.iret (v := x_45) hx hb hr (fun t ht hW => ⟨⟨x_45, F, rfl, ⟨rfl, (zB.of ⟨by have := by2_j62_26_33.1; have := by2_j62_26_33.2; have := bi.1; have := bi.2; have := bx_45.1; have := bx_45.2; have := bln__34.1; have := bln__34.2; have : (0 : Int32).toInt = 0 := (by decide); have : (1 : Int32).toInt = 1 := (by decide); have : (5 : Int32).toInt = 5 := (by decide); omega, by have := by2_j62_26_33.1; have := by2_j62_26_33.2; have := bi.1; have := bi.2; have := bx_45.1; have := bx_45.2; have := bln__34.1; have := bln__34.2; have : (0 : Int32).toInt = 0 := (by decide); have : (1 : Int32).toInt = 1 := (by decide); have : (5 : Int32).toInt = 5 := (by decide); omega⟩), (by have h7 := zwa_d (a := i.toInt) (x := y2_j62_26.toInt) ⟨(by have := by2_j62_26_33.1; have := by2_j62_26_33.2; have := bi.1; have := bi.2; have := bx_45.1; have := bx_45.2; have := bln__34.1; have := bln__34.2; have : (0 : Int32).toInt = 0 := (by decide); have : (1 : Int32).toInt = 1 := (by decide); have : (5 : Int32).toInt = 5 := (by decide); omega), (by have := by2_j62_26_33.1; have := by2_j62_26_33.2; have := bi.1; have := bi.2; have := bx_45.1; have := bx_45.2; have := bln__34.1; have := bln__34.2; have : (0 : Int32).toInt = 0 := (by decide); have : (1 : Int32).toInt = 1 := (by decide); have : (5 : Int32).toInt = 5 := (by decide); omega)⟩ te_; have := by2_j62_26_33.1; have := by2_j62_26_33.2; have := bi.1; have := bi.2; have := bx_45.1; have := bx_45.2; have := bln__34.1; have := bln__34.2; have : (0 : Int32).toInt = 0 := (by decide); have : (1 : Int32).toInt = 1 := (by decide); have : (5 : Int32).toInt = 5 := (by decide); omega), trivial⟩, by rw [ht]; exact h.1, h.2.1, zFr.rf⟩, h.2.2.F ht⟩) h.2.2.2.2 dX8_widthAt_98
            · have c_39 := z_ne c_39
              have br_35_46 : zB 1 1 r_35 := zB.neLo c_39 br_35 (zBc 0 0 (by decide)) (by decide)
              obtain ⟨x_47, ex_47, bx_47, tx_47⟩ := z_inc (n := 1) (lo := 2) (hi := 600) by2_j62_26_33 (by decide)
              refine lv_iinc (v := x_47) (lv' := [(2, .int x_47), (0, .ref tk), (1, .int i)]) hx hb dX8_widthAt_78 hl (k := 0) rfl ex_47 (by decide) rfl (fun ls hl => ?_)
              refine lv_goto (tgt := 62) hx hb dX8_widthAt_81 (by decide) ?_
              exact ih_j62_26 _ (by have := bx_47.1; have := bx_47.2; have := bi.1; have := bi.2; have := bln__34.1; have := bln__34.2; have : (0 : Int32).toInt = 0 := (by decide); have : (1 : Int32).toInt = 1 := (by decide); have := by2_j62_26.1; have := by2_j62_26.2; omega) ls x_47 H locs (lv_sub hl [0, 1, 2] rfl) (bx_47.w ⟨by decide, by decide⟩) h (by have := bx_47.1; have := bx_47.2; have := bi.1; have := bi.2; have := bln__34.1; have := bln__34.2; have : (0 : Int32).toInt = 0 := (by decide); have : (1 : Int32).toInt = 1 := (by decide); omega) (by have := bx_47.1; have := bx_47.2; have := bi.1; have := bi.2; have := bln__34.1; have := bln__34.2; have : (0 : Int32).toInt = 0 := (by decide); have : (1 : Int32).toInt = 1 := (by decide); omega) (zend_d2 r2_j62_26 ⟨(by have := bx_47.1; have := bx_47.2; have := bi.1; have := bi.2; have := by2_j62_26_33.1; have := by2_j62_26_33.2; have := bln__34.1; have := bln__34.2; have : (0 : Int32).toInt = 0 := (by decide); have : (1 : Int32).toInt = 1 := (by decide); omega), (by have := bx_47.1; have := bx_47.2; have := bi.1; have := bi.2; have := by2_j62_26_33.1; have := by2_j62_26_33.2; have := bln__34.1; have := bln__34.2; have : (0 : Int32).toInt = 0 := (by decide); have : (1 : Int32).toInt = 1 := (by decide); omega)⟩ tx_47) rfl
      exact j_j62_26 _ ls x_25 H locs (lv_sub hl [0, 1, 2] rfl) bx_25 h (by have := bx_25.1; have := bx_25.2; have := bi.1; have := bi.2; have := bln_.1; have := bln_.2; have : (0 : Int32).toInt = 0 := (by decide); have : (1 : Int32).toInt = 1 := (by decide); omega) (by have := bx_25.1; have := bx_25.2; have := bi.1; have := bi.2; have := bln_.1; have := bln_.2; have : (0 : Int32).toInt = 0 := (by decide); have : (1 : Int32).toInt = 1 := (by decide); omega) (zte_d1 (a := i.toInt) ⟨(by have := bx_25.1; have := bx_25.2; have := bi.1; have := bi.2; have := bln_.1; have := bln_.2; have : (0 : Int32).toInt = 0 := (by decide); have : (1 : Int32).toInt = 1 := (by decide); omega), (by have := bx_25.1; have := bx_25.2; have := bi.1; have := bi.2; have := bln_.1; have := bln_.2; have : (0 : Int32).toInt = 0 := (by decide); have : (1 : Int32).toInt = 1 := (by decide); omega)⟩ tx_25) rfl
  · have c_5 := z_ne c_5
    have br_1_48 : zB 1 1 r_1 := zB.neLo c_5 br_1 (zBc 0 0 (by decide)) (by decide)
    refine lv_iload_n hx hb dX8_widthAt_8 rfl (lv_at hl 1 rfl) ?_
    refine lv_iconst (v := 1) hx hb dX8_widthAt_9 (by decide) ?_
    refine lv_iadd hx hb dX8_widthAt_10 ?_
    refine zi_add (lo := 1) (hi := 600) bi (zBc 1 1 (by decide)) (by decide) (fun x_49 bx_49 tx_49 => ?_)
    refine lv_istore_n (lv' := [(2, .int x_49), (0, .ref tk), (1, .int i)]) hx hb dX8_widthAt_11 rfl hl (by decide) rfl (fun ls hl => ?_)
    have j_j12_50 : ∀ (n : Nat) (ls : Array Slot) (y2_j12_50 : Int32) (H : Heap) (locs : List Loc), lv_has ls 3 [(2, .int y2_j12_50), (0, .ref tk), (1, .int i)] → zB 1 600 y2_j12_50 → zH D k Γ L s F H locs → (i.toInt + 1 ≤ y2_j12_50.toInt) → (y2_j12_50.toInt ≤ nt) → (zend (zLt Bt nt) nt y2_j12_50.toInt = zte Bt nt i.toInt) → (2147483647 - y2_j12_50.toInt).toNat = n → W p l e R s m args below meth c H locs 0 0 Q (F0 m 12 ls []) := by
      intro n
      induction n using Nat.strongRecOn with
      | _ n ih_j12_50 =>
        intro ls y2_j12_50 H locs hl by2_j12_50 h r0_j12_50 r1_j12_50 r2_j12_50 hn_j12_50
        refine lv_iload_n hx hb dX8_widthAt_12 rfl (lv_at hl 0 rfl) ?_
        refine lv_aload_n hx hb dX8_widthAt_13 rfl (lv_at hl 1 rfl) ?_
        refine zt_getk (t := 8) (C := RX8) (T := TX8) (N := 6) Z h htk zin_8 rfl 1 kln_ ⟨by decide, rfl, by decide⟩ (zm_RX8 (List.mem_of_getElem? (i := 20) rfl)) (fun _ h9 => h9) dX8_widthAt_14 ?_
        refine lv_icmp_ge (tgt := 34) hx hb dX8_widthAt_17 (by decide) (fun c_51 => ?_) (fun c_51 => ?_)
        · have c_51 := z_le c_51
          have te_ := zend_l3 r2_j12_50 (by have := by2_j12_50.1; have := by2_j12_50.2; have := bi.1; have := bi.2; have := bln_.1; have := bln_.2; have : (0 : Int32).toInt = 0 := (by decide); have : (1 : Int32).toInt = 1 := (by decide); omega)
          refine lv_iload_n hx hb dX8_widthAt_34 rfl (lv_at hl 0 rfl) ?_
          refine lv_iload_n hx hb dX8_widthAt_35 rfl (lv_at hl 2 rfl) ?_
          refine lv_isub hx hb dX8_widthAt_36 ?_
          refine zi_sub (lo := (-598)) (hi := 600) by2_j12_50 bi (by decide) (fun x_52 bx_52 tx_52 => ?_)
          refine lv_bipush (v := 8) hx hb dX8_widthAt_37 (by decide) ?_
          refine lv_icmp_gt (tgt := 48) hx hb dX8_widthAt_39 (by decide) (fun c_53 => ?_) (fun c_53 => ?_)
          · have c_53 := z_lt c_53
            have bx_52_54 : zB 9 600 x_52 := zB.ltR c_53 (zBc 8 8 (by decide)) bx_52 (by decide)
            refine lv_iconst (v := 0) hx hb dX8_widthAt_48 (by decide) ?_
            subst hQ
            exact W.iret (v := 0) hx hb hr (fun t ht hW => ⟨⟨0, F, rfl, ⟨rfl, (zB.of ⟨by decide, by decide⟩), (by have h7 := zwa_l (a := i.toInt) (x := y2_j12_50.toInt) ⟨(by have := by2_j12_50.1; have := by2_j12_50.2; have := bi.1; have := bi.2; have := bln_.1; have := bln_.2; have : (0 : Int32).toInt = 0 := (by decide); have : (1 : Int32).toInt = 1 := (by decide); have : (8 : Int32).toInt = 8 := (by decide); omega), (by have := by2_j12_50.1; have := by2_j12_50.2; have := bi.1; have := bi.2; have := bln_.1; have := bln_.2; have : (0 : Int32).toInt = 0 := (by decide); have : (1 : Int32).toInt = 1 := (by decide); have : (8 : Int32).toInt = 8 := (by decide); omega)⟩ te_; have := by2_j12_50.1; have := by2_j12_50.2; have := bi.1; have := bi.2; have := bln_.1; have := bln_.2; have : (0 : Int32).toInt = 0 := (by decide); have : (1 : Int32).toInt = 1 := (by decide); have : (8 : Int32).toInt = 8 := (by decide); omega), trivial⟩, by rw [ht]; exact h.1, h.2.1, zFr.rf⟩, h.2.2.F ht⟩) h.2.2.2.2 dX8_widthAt_49
          · have c_53 := z_nlt c_53
            have bx_52_55 : zB (-598) 8 x_52 := zB.leL c_53 bx_52 (zBc 8 8 (by decide)) (by decide)
            refine lv_iload_n hx hb dX8_widthAt_42 rfl (lv_at hl 0 rfl) ?_
            refine lv_iload_n hx hb dX8_widthAt_43 rfl (lv_at hl 2 rfl) ?_
            refine lv_isub hx hb dX8_widthAt_44 ?_
            refine zi_sub (lo := (-598)) (hi := 600) by2_j12_50 bi (by decide) (fun x_56 bx_56 tx_56 => ?_)
            refine lv_goto (tgt := 49) hx hb dX8_widthAt_45 (by decide) ?_
            subst hQ
            exact W.iret (v := x_56) hx hb hr (fun t ht hW => ⟨⟨x_56, F, rfl, ⟨rfl, (zB.of ⟨by have := by2_j12_50.1; have := by2_j12_50.2; have := bi.1; have := bi.2; have := bx_56.1; have := bx_56.2; have := bln_.1; have := bln_.2; have : (0 : Int32).toInt = 0 := (by decide); have : (1 : Int32).toInt = 1 := (by decide); have : (8 : Int32).toInt = 8 := (by decide); omega, by have := by2_j12_50.1; have := by2_j12_50.2; have := bi.1; have := bi.2; have := bx_56.1; have := bx_56.2; have := bln_.1; have := bln_.2; have : (0 : Int32).toInt = 0 := (by decide); have : (1 : Int32).toInt = 1 := (by decide); have : (8 : Int32).toInt = 8 := (by decide); omega⟩), (by have h7 := zwa_l (a := i.toInt) (x := y2_j12_50.toInt) ⟨(by have := by2_j12_50.1; have := by2_j12_50.2; have := bi.1; have := bi.2; have := bx_56.1; have := bx_56.2; have := bln_.1; have := bln_.2; have : (0 : Int32).toInt = 0 := (by decide); have : (1 : Int32).toInt = 1 := (by decide); have : (8 : Int32).toInt = 8 := (by decide); omega), (by have := by2_j12_50.1; have := by2_j12_50.2; have := bi.1; have := bi.2; have := bx_56.1; have := bx_56.2; have := bln_.1; have := bln_.2; have : (0 : Int32).toInt = 0 := (by decide); have : (1 : Int32).toInt = 1 := (by decide); have : (8 : Int32).toInt = 8 := (by decide); omega)⟩ te_; have := by2_j12_50.1; have := by2_j12_50.2; have := bi.1; have := bi.2; have := bx_56.1; have := bx_56.2; have := bln_.1; have := bln_.2; have : (0 : Int32).toInt = 0 := (by decide); have : (1 : Int32).toInt = 1 := (by decide); have : (8 : Int32).toInt = 8 := (by decide); omega), trivial⟩, by rw [ht]; exact h.1, h.2.1, zFr.rf⟩, h.2.2.F ht⟩) h.2.2.2.2 dX8_widthAt_49
        · have c_51 := z_nle c_51
          have by2_j12_50_57 : zB 1 599 y2_j12_50 := zB.ltL c_51 by2_j12_50 bln_ (by decide)
          have bln__58 : zB 2 600 ln_ := zB.ltR c_51 by2_j12_50 bln_ (by decide)
          refine lv_aload_n hx hb dX8_widthAt_20 rfl (lv_at hl 1 rfl) ?_
          refine lv_iload_n hx hb dX8_widthAt_21 rfl (lv_at hl 0 rfl) ?_
          refine zk_Vi (As := [.int y2_j12_50]) (rest := []) (bytes := cX8_isLetter) (maxL := 2) (ret := (some .boolean)) Z h (ze_X8_isLetter l D k Γ L F H.size tk y2_j12_50 Bt nt htk p_tx) (cwV 1 hg zv_RX8_68 rfl rfl rfl zd_X8_isLetter ⟨z_leR hRf (by decide), z_leR hRl (by decide)⟩) htk (by decide) rfl rfl hl.1 rfl (Nat.le_of_ble_eq_true rfl) dX8_widthAt_22 ⟨Nat.zero_le _, Nat.zero_le _⟩ (fun r_59 F_60 H locs w_61 h hfF_60 => ?_)
          obtain ⟨rfl, br_59, q_62, -⟩ := w_61
          refine lv_if_eq (tgt := 34) hx hb dX8_widthAt_25 (by decide) (fun c_63 => ?_) (fun c_63 => ?_)
          · have c_63 := z_eq c_63
            have br_59_64 : zB 0 0 r_59 := zB.eqL (a := 0) (b := 0) c_63 (zBc 0 0 (by decide))
            have te_ := zend_l3 r2_j12_50 (by have := by2_j12_50_57.1; have := by2_j12_50_57.2; have := bi.1; have := bi.2; have := bln__58.1; have := bln__58.2; have : (0 : Int32).toInt = 0 := (by decide); have : (1 : Int32).toInt = 1 := (by decide); omega)
            refine lv_iload_n hx hb dX8_widthAt_34 rfl (lv_at hl 0 rfl) ?_
            refine lv_iload_n hx hb dX8_widthAt_35 rfl (lv_at hl 2 rfl) ?_
            refine lv_isub hx hb dX8_widthAt_36 ?_
            refine zi_sub (lo := (-598)) (hi := 599) by2_j12_50_57 bi (by decide) (fun x_65 bx_65 tx_65 => ?_)
            refine lv_bipush (v := 8) hx hb dX8_widthAt_37 (by decide) ?_
            refine lv_icmp_gt (tgt := 48) hx hb dX8_widthAt_39 (by decide) (fun c_66 => ?_) (fun c_66 => ?_)
            · have c_66 := z_lt c_66
              have bx_65_67 : zB 9 599 x_65 := zB.ltR c_66 (zBc 8 8 (by decide)) bx_65 (by decide)
              refine lv_iconst (v := 0) hx hb dX8_widthAt_48 (by decide) ?_
              subst hQ
              exact W.iret (v := 0) hx hb hr (fun t ht hW => ⟨⟨0, F, rfl, ⟨rfl, (zB.of ⟨by decide, by decide⟩), (by have h7 := zwa_l (a := i.toInt) (x := y2_j12_50.toInt) ⟨(by have := by2_j12_50_57.1; have := by2_j12_50_57.2; have := bi.1; have := bi.2; have := bln__58.1; have := bln__58.2; have : (0 : Int32).toInt = 0 := (by decide); have : (1 : Int32).toInt = 1 := (by decide); have : (8 : Int32).toInt = 8 := (by decide); omega), (by have := by2_j12_50_57.1; have := by2_j12_50_57.2; have := bi.1; have := bi.2; have := bln__58.1; have := bln__58.2; have : (0 : Int32).toInt = 0 := (by decide); have : (1 : Int32).toInt = 1 := (by decide); have : (8 : Int32).toInt = 8 := (by decide); omega)⟩ te_; have := by2_j12_50_57.1; have := by2_j12_50_57.2; have := bi.1; have := bi.2; have := bln__58.1; have := bln__58.2; have : (0 : Int32).toInt = 0 := (by decide); have : (1 : Int32).toInt = 1 := (by decide); have : (8 : Int32).toInt = 8 := (by decide); omega), trivial⟩, by rw [ht]; exact h.1, h.2.1, zFr.rf⟩, h.2.2.F ht⟩) h.2.2.2.2 dX8_widthAt_49
            · have c_66 := z_nlt c_66
              have bx_65_68 : zB (-598) 8 x_65 := zB.leL c_66 bx_65 (zBc 8 8 (by decide)) (by decide)
              refine lv_iload_n hx hb dX8_widthAt_42 rfl (lv_at hl 0 rfl) ?_
              refine lv_iload_n hx hb dX8_widthAt_43 rfl (lv_at hl 2 rfl) ?_
              refine lv_isub hx hb dX8_widthAt_44 ?_
              refine zi_sub (lo := (-598)) (hi := 599) by2_j12_50_57 bi (by decide) (fun x_69 bx_69 tx_69 => ?_)
              refine lv_goto (tgt := 49) hx hb dX8_widthAt_45 (by decide) ?_
              subst hQ
              exact W.iret (v := x_69) hx hb hr (fun t ht hW => ⟨⟨x_69, F, rfl, ⟨rfl, (zB.of ⟨by have := by2_j12_50_57.1; have := by2_j12_50_57.2; have := bi.1; have := bi.2; have := bx_69.1; have := bx_69.2; have := bln__58.1; have := bln__58.2; have : (0 : Int32).toInt = 0 := (by decide); have : (1 : Int32).toInt = 1 := (by decide); have : (8 : Int32).toInt = 8 := (by decide); omega, by have := by2_j12_50_57.1; have := by2_j12_50_57.2; have := bi.1; have := bi.2; have := bx_69.1; have := bx_69.2; have := bln__58.1; have := bln__58.2; have : (0 : Int32).toInt = 0 := (by decide); have : (1 : Int32).toInt = 1 := (by decide); have : (8 : Int32).toInt = 8 := (by decide); omega⟩), (by have h7 := zwa_l (a := i.toInt) (x := y2_j12_50.toInt) ⟨(by have := by2_j12_50_57.1; have := by2_j12_50_57.2; have := bi.1; have := bi.2; have := bx_69.1; have := bx_69.2; have := bln__58.1; have := bln__58.2; have : (0 : Int32).toInt = 0 := (by decide); have : (1 : Int32).toInt = 1 := (by decide); have : (8 : Int32).toInt = 8 := (by decide); omega), (by have := by2_j12_50_57.1; have := by2_j12_50_57.2; have := bi.1; have := bi.2; have := bx_69.1; have := bx_69.2; have := bln__58.1; have := bln__58.2; have : (0 : Int32).toInt = 0 := (by decide); have : (1 : Int32).toInt = 1 := (by decide); have : (8 : Int32).toInt = 8 := (by decide); omega)⟩ te_; have := by2_j12_50_57.1; have := by2_j12_50_57.2; have := bi.1; have := bi.2; have := bx_69.1; have := bx_69.2; have := bln__58.1; have := bln__58.2; have : (0 : Int32).toInt = 0 := (by decide); have : (1 : Int32).toInt = 1 := (by decide); have : (8 : Int32).toInt = 8 := (by decide); omega), trivial⟩, by rw [ht]; exact h.1, h.2.1, zFr.rf⟩, h.2.2.F ht⟩) h.2.2.2.2 dX8_widthAt_49
          · have c_63 := z_ne c_63
            have br_59_70 : zB 1 1 r_59 := zB.neLo c_63 br_59 (zBc 0 0 (by decide)) (by decide)
            obtain ⟨x_71, ex_71, bx_71, tx_71⟩ := z_inc (n := 1) (lo := 2) (hi := 600) by2_j12_50_57 (by decide)
            refine lv_iinc (v := x_71) (lv' := [(2, .int x_71), (0, .ref tk), (1, .int i)]) hx hb dX8_widthAt_28 hl (k := 0) rfl ex_71 (by decide) rfl (fun ls hl => ?_)
            refine lv_goto (tgt := 12) hx hb dX8_widthAt_31 (by decide) ?_
            exact ih_j12_50 _ (by have := bx_71.1; have := bx_71.2; have := bi.1; have := bi.2; have := bln__58.1; have := bln__58.2; have : (0 : Int32).toInt = 0 := (by decide); have : (1 : Int32).toInt = 1 := (by decide); have := by2_j12_50.1; have := by2_j12_50.2; omega) ls x_71 H locs (lv_sub hl [0, 1, 2] rfl) (bx_71.w ⟨by decide, by decide⟩) h (by have := bx_71.1; have := bx_71.2; have := bi.1; have := bi.2; have := bln__58.1; have := bln__58.2; have : (0 : Int32).toInt = 0 := (by decide); have : (1 : Int32).toInt = 1 := (by decide); omega) (by have := bx_71.1; have := bx_71.2; have := bi.1; have := bi.2; have := bln__58.1; have := bln__58.2; have : (0 : Int32).toInt = 0 := (by decide); have : (1 : Int32).toInt = 1 := (by decide); omega) (zend_l2 r2_j12_50 ⟨(by have := bx_71.1; have := bx_71.2; have := bi.1; have := bi.2; have := by2_j12_50_57.1; have := by2_j12_50_57.2; have := bln__58.1; have := bln__58.2; have : (0 : Int32).toInt = 0 := (by decide); have : (1 : Int32).toInt = 1 := (by decide); omega), (by have := bx_71.1; have := bx_71.2; have := bi.1; have := bi.2; have := by2_j12_50_57.1; have := by2_j12_50_57.2; have := bln__58.1; have := bln__58.2; have : (0 : Int32).toInt = 0 := (by decide); have : (1 : Int32).toInt = 1 := (by decide); omega)⟩ tx_71) rfl
    exact j_j12_50 _ ls x_49 H locs (lv_sub hl [0, 1, 2] rfl) bx_49 h (by have := bx_49.1; have := bx_49.2; have := bi.1; have := bi.2; have := bln_.1; have := bln_.2; have : (0 : Int32).toInt = 0 := (by decide); have : (1 : Int32).toInt = 1 := (by decide); omega) (by have := bx_49.1; have := bx_49.2; have := bi.1; have := bi.2; have := bln_.1; have := bln_.2; have : (0 : Int32).toInt = 0 := (by decide); have : (1 : Int32).toInt = 1 := (by decide); omega) (zte_l1 (a := i.toInt) ⟨(by have := bx_49.1; have := bx_49.2; have := bi.1; have := bi.2; have := bln_.1; have := bln_.2; have : (0 : Int32).toInt = 0 := (by decide); have : (1 : Int32).toInt = 1 := (by decide); omega), (by have := bx_49.1; have := bx_49.2; have := bi.1; have := bi.2; have := bln_.1; have := bln_.2; have : (0 : Int32).toInt = 0 := (by decide); have : (1 : Int32).toInt = 1 := (by decide); omega)⟩ tx_49) rfl
