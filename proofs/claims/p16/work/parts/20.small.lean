set_option maxHeartbeats 4000000 in
set_option maxRecDepth 100000 in
theorem zc_X14_refused (l : Launch) (D : va_G) (k : Nat → ClassId) (Γ : Nat → Option Nat) (L : List Nat) (F : Nat → va_E) (sz : Nat) (th : Nat) (wy : Int32) (hth : Γ th = some 14) : Met l yX14_refused zwX14_refused ({ frames := 0, cells := 0, slots := 0, locals := 0 }) (va_Pc [.ref th, .int wy] (zP D k Γ L F sz)) (va_Qi (fun (r : Int32) (u : Nat → va_E) => zB (-1) (-1) r ∧ True) (zQ D k Γ L F [1401, 1402]) (zA L sz)) 0 0 (zA L sz) := by
  refine Met.ofW (cc := cX14_refused) (maxL := 2) (ret := (some .int)) (by decide) rfl ?_
  intro p e s m args below meth c s₁ B hml hv
  obtain ⟨rfl, hsz, hP, hK, hLn, hE, hI⟩ := hv
  have hx := B.exec
  have hb := B.bytes
  have hr := B.returns
  have hg : ∀ w ∈ zG, w.before _ s = true := fun w h9 => atoms_spec (ws := zwX14_refused) B.pre w (List.mem_cons_of_mem _ h9)
  have hown : s.vm.findClass RX14 = some m.cls := findClass_of_methodNamed B.named
  have hlocks := B.notSynchronized
  subst hsz
  have Z : zC p m c cX14_refused 2 s _ zG RX14 D k L := ⟨⟨hx, hb, hml, hown, hg⟩, hK, hLn, hE⟩
  have h : zH D k Γ L s F s.heap [] := ⟨hP, hI, va_S.rf⟩
  have hl := lv_entry ([.ref th, .int wy]) (n := 2) (Nat.le_of_ble_eq_true rfl)
  rw [lg_entry_eq]
  generalize (lg_sl ([.ref th, .int wy]) ++ List.replicate (2 - (lg_sl ([.ref th, .int wy])).length) Slot.unset).toArray = ls at hl ⊢
  have hl : lv_has ls 2 [(0, .ref th), (1, .int wy)] := hl
  clear hP hK hLn hE hI
  generalize hargs : ([.ref th, .int wy] : List Value).toArray = args at *
  refine z_start (fun R Q hRf hRl hQ => ?_)
  have hRf : R.frames = 0 := hRf
  have hRl : R.locals = 0 := hRl
  refine lv_aload_n hx hb dX14_refused_0 rfl (lv_at hl 0 rfl) ?_
  refine lv_iload_n hx hb dX14_refused_1 rfl (lv_at hl 1 rfl) ?_
  refine zt_put (t := 14) (C := RX14) (T := TX14) (N := 40) (v := .int wy) Z h hth zin_14 tyX14 tyX14_ok nmX14 rfl 1 rfl ⟨by decide, rfl⟩ (zm_RX14 (List.mem_of_getElem? (i := 2) rfl)) (fun _ h9 => h9) rfl (zV.i (zB.all wy)) rfl rfl dX14_refused_2 (fun H locs F_1 h hfF_1 kF_1 => ?_)
  refine lv_aload_n hx hb dX14_refused_5 rfl (lv_at hl 0 rfl) ?_
  refine lv_iconst (v := (-1)) hx hb dX14_refused_6 (by decide) ?_
  refine zt_put (t := 14) (C := RX14) (T := TX14) (N := 40) (v := .int (-1)) Z h hth zin_14 tyX14 tyX14_ok nmX14 rfl 2 rfl ⟨by decide, rfl⟩ (zm_RX14 (List.mem_of_getElem? (i := 3) rfl)) (fun _ h9 => h9) rfl (zV.i (zB.of ⟨by decide, by decide⟩)) rfl rfl dX14_refused_7 (fun H locs F_2 h hfF_2 kF_2 => ?_)
  refine lv_iconst (v := (-1)) hx hb dX14_refused_10 (by decide) ?_
  subst hQ
  exact W.iret (v := (-1)) hx hb hr (fun t ht hW => ⟨⟨(-1), F_2, rfl, ⟨(zB.of ⟨by decide, by decide⟩), trivial⟩, by rw [ht]; exact h.1, h.2.1, ((hfF_1.w (by decide)).trans hfF_2 (by decide))⟩, h.2.2.F ht⟩) h.2.2.2.2 dX14_refused_11

set_option maxHeartbeats 4000000 in
set_option maxRecDepth 100000 in
theorem zc_X14_done (l : Launch) (D : va_G) (k : Nat → ClassId) (Γ : Nat → Option Nat) (L : List Nat) (F : Nat → va_E) (sz : Nat) (th : Nat) (va : Int32) (hth : Γ th = some 14) : Met l yX14_done zwX14_done ({ frames := 0, cells := 0, slots := 0, locals := 0 }) (va_Pc [.ref th, .int va] (zP D k Γ L F sz)) (va_Qi (fun (r : Int32) (u : Nat → va_E) => r.toInt = va.toInt ∧ True) (zQ D k Γ L F [1401, 1402]) (zA L sz)) 0 0 (zA L sz) := by
  refine Met.ofW (cc := cX14_done) (maxL := 2) (ret := (some .int)) (by decide) rfl ?_
  intro p e s m args below meth c s₁ B hml hv
  obtain ⟨rfl, hsz, hP, hK, hLn, hE, hI⟩ := hv
  have hx := B.exec
  have hb := B.bytes
  have hr := B.returns
  have hg : ∀ w ∈ zG, w.before _ s = true := fun w h9 => atoms_spec (ws := zwX14_done) B.pre w (List.mem_cons_of_mem _ h9)
  have hown : s.vm.findClass RX14 = some m.cls := findClass_of_methodNamed B.named
  have hlocks := B.notSynchronized
  subst hsz
  have Z : zC p m c cX14_done 2 s _ zG RX14 D k L := ⟨⟨hx, hb, hml, hown, hg⟩, hK, hLn, hE⟩
  have h : zH D k Γ L s F s.heap [] := ⟨hP, hI, va_S.rf⟩
  have hl := lv_entry ([.ref th, .int va]) (n := 2) (Nat.le_of_ble_eq_true rfl)
  rw [lg_entry_eq]
  generalize (lg_sl ([.ref th, .int va]) ++ List.replicate (2 - (lg_sl ([.ref th, .int va])).length) Slot.unset).toArray = ls at hl ⊢
  have hl : lv_has ls 2 [(0, .ref th), (1, .int va)] := hl
  clear hP hK hLn hE hI
  generalize hargs : ([.ref th, .int va] : List Value).toArray = args at *
  refine z_start (fun R Q hRf hRl hQ => ?_)
  have hRf : R.frames = 0 := hRf
  have hRl : R.locals = 0 := hRl
  refine lv_aload_n hx hb dX14_done_0 rfl (lv_at hl 0 rfl) ?_
  refine lv_iconst (v := 0) hx hb dX14_done_1 (by decide) ?_
  refine zt_put (t := 14) (C := RX14) (T := TX14) (N := 40) (v := .int 0) Z h hth zin_14 tyX14 tyX14_ok nmX14 rfl 1 rfl ⟨by decide, rfl⟩ (zm_RX14 (List.mem_of_getElem? (i := 2) rfl)) (fun _ h9 => h9) rfl (zV.i (zB.of ⟨by decide, by decide⟩)) rfl rfl dX14_done_2 (fun H locs F_1 h hfF_1 kF_1 => ?_)
  refine lv_aload_n hx hb dX14_done_5 rfl (lv_at hl 0 rfl) ?_
  refine lv_iconst (v := (-1)) hx hb dX14_done_6 (by decide) ?_
  refine zt_put (t := 14) (C := RX14) (T := TX14) (N := 40) (v := .int (-1)) Z h hth zin_14 tyX14 tyX14_ok nmX14 rfl 2 rfl ⟨by decide, rfl⟩ (zm_RX14 (List.mem_of_getElem? (i := 3) rfl)) (fun _ h9 => h9) rfl (zV.i (zB.of ⟨by decide, by decide⟩)) rfl rfl dX14_done_7 (fun H locs F_2 h hfF_2 kF_2 => ?_)
  refine lv_iload_n hx hb dX14_done_10 rfl (lv_at hl 1 rfl) ?_
  subst hQ
  exact W.iret (v := va) hx hb hr (fun t ht hW => ⟨⟨va, F_2, rfl, ⟨rfl, trivial⟩, by rw [ht]; exact h.1, h.2.1, ((hfF_1.w (by decide)).trans hfF_2 (by decide))⟩, h.2.2.F ht⟩) h.2.2.2.2 dX14_done_11

set_option maxHeartbeats 4000000 in
set_option maxRecDepth 100000 in
theorem zc_X14_in (l : Launch) (D : va_G) (k : Nat → ClassId) (Γ : Nat → Option Nat) (L : List Nat) (F : Nat → va_E) (sz : Nat) (v_ : Int32) (lo : Int32) (hi : Int32) : Met l yX14_in zwX14_in ({ frames := 0, cells := 0, slots := 0, locals := 0 }) (va_Pc [.int v_, .int lo, .int hi] (zP D k Γ L F sz)) (va_Qi (fun (r : Int32) (u : Nat → va_E) => F = u ∧ zB 0 1 r ∧ (r ≠ 0 → lo.toInt ≤ v_.toInt ∧ v_.toInt ≤ hi.toInt) ∧ True) (zQ D k Γ L F []) (zA L sz)) 0 0 (zA L sz) := by
  refine Met.ofW (cc := cX14_in) (maxL := 3) (ret := (some .boolean)) (by decide) rfl ?_
  intro p e s m args below meth c s₁ B hml hv
  obtain ⟨rfl, hsz, hP, hK, hLn, hE, hI⟩ := hv
  have hx := B.exec
  have hb := B.bytes
  have hr := B.returns
  have hg : ∀ w ∈ zG, w.before _ s = true := fun w h9 => atoms_spec (ws := zwX14_in) B.pre w (List.mem_cons_of_mem _ h9)
  have hown : s.vm.findClass RX14 = some m.cls := findClass_of_methodNamed B.named
  have hlocks := B.notSynchronized
  subst hsz
  have Z : zC p m c cX14_in 3 s _ zG RX14 D k L := ⟨⟨hx, hb, hml, hown, hg⟩, hK, hLn, hE⟩
  have h : zH D k Γ L s F s.heap [] := ⟨hP, hI, va_S.rf⟩
  have hl := lv_entry ([.int v_, .int lo, .int hi]) (n := 3) (Nat.le_of_ble_eq_true rfl)
  rw [lg_entry_eq]
  generalize (lg_sl ([.int v_, .int lo, .int hi]) ++ List.replicate (3 - (lg_sl ([.int v_, .int lo, .int hi])).length) Slot.unset).toArray = ls at hl ⊢
  have hl : lv_has ls 3 [(0, .int v_), (1, .int lo), (2, .int hi)] := hl
  clear hP hK hLn hE hI
  generalize hargs : ([.int v_, .int lo, .int hi] : List Value).toArray = args at *
  refine z_start (fun R Q hRf hRl hQ => ?_)
  have hRf : R.frames = 0 := hRf
  have hRl : R.locals = 0 := hRl
  have h9 := h
  refine lv_iload_n hx hb dX14_in_0 rfl (lv_at hl 0 rfl) ?_
  refine lv_iload_n hx hb dX14_in_1 rfl (lv_at hl 1 rfl) ?_
  refine lv_icmp_lt (tgt := 14) hx hb dX14_in_2 (by decide) (fun c_1 => ?_) (fun c_1 => ?_)
  · have c_1 := z_lt c_1
    have bv__2 : zB (-2147483648) 2147483646 v_ := zB.ltL c_1 (zB.all v_) (zB.all lo) (by decide)
    have blo_3 : zB (-2147483647) 2147483647 lo := zB.ltR c_1 (zB.all v_) (zB.all lo) (by decide)
    refine lv_iconst (v := 0) hx hb dX14_in_14 (by decide) ?_
    subst hQ
    exact W.zret (v := 0) hx hb hr (by decide) (fun t ht hW => ⟨⟨0, F, rfl, ⟨rfl, (zB.of ⟨by decide, by decide⟩), (fun h9 => absurd rfl h9), trivial⟩, by rw [ht]; exact h.1, h.2.1, zFr.rf⟩, h.2.2.F ht⟩) h.2.2.2.2 dX14_in_15
  · have c_1 := z_nlt c_1
    refine lv_iload_n hx hb dX14_in_5 rfl (lv_at hl 0 rfl) ?_
    refine lv_iload_n hx hb dX14_in_6 rfl (lv_at hl 2 rfl) ?_
    refine lv_icmp_gt (tgt := 14) hx hb dX14_in_7 (by decide) (fun c_4 => ?_) (fun c_4 => ?_)
    · have c_4 := z_lt c_4
      have bhi_5 : zB (-2147483648) 2147483646 hi := zB.ltL c_4 (zB.all hi) (zB.all v_) (by decide)
      have bv__6 : zB (-2147483647) 2147483647 v_ := zB.ltR c_4 (zB.all hi) (zB.all v_) (by decide)
      refine lv_iconst (v := 0) hx hb dX14_in_14 (by decide) ?_
      subst hQ
      exact W.zret (v := 0) hx hb hr (by decide) (fun t ht hW => ⟨⟨0, F, rfl, ⟨rfl, (zB.of ⟨by decide, by decide⟩), (fun h9 => absurd rfl h9), trivial⟩, by rw [ht]; exact h.1, h.2.1, zFr.rf⟩, h.2.2.F ht⟩) h.2.2.2.2 dX14_in_15
    · have c_4 := z_nlt c_4
      refine lv_iconst (v := 1) hx hb dX14_in_10 (by decide) ?_
      refine lv_goto (tgt := 15) hx hb dX14_in_11 (by decide) ?_
      subst hQ
      exact W.zret (v := 1) hx hb hr (by decide) (fun t ht hW => ⟨⟨1, F, rfl, ⟨rfl, (zB.of ⟨by decide, by decide⟩), (fun _ => ⟨by omega, by omega⟩), trivial⟩, by rw [ht]; exact h.1, h.2.1, zFr.rf⟩, h.2.2.F ht⟩) h.2.2.2.2 dX14_in_15

set_option maxHeartbeats 4000000 in
set_option maxRecDepth 100000 in
theorem zc_X14_bits (l : Launch) (D : va_G) (k : Nat → ClassId) (Γ : Nat → Option Nat) (L : List Nat) (F : Nat → va_E) (sz : Nat) (v_ : Int32) : Met l yX14_bits zwX14_bits ({ frames := 0, cells := 0, slots := 0, locals := 0 }) (va_Pc [.int v_] (zP D k Γ L F sz)) (va_Qi (fun (r : Int32) (u : Nat → va_E) => F = u ∧ True) (zQ D k Γ L F []) (zA L sz)) 0 0 (zA L sz) := by
  refine Met.ofW (cc := cX14_bits) (maxL := 3) (ret := (some .int)) (by decide) rfl ?_
  intro p e s m args below meth c s₁ B hml hv
  obtain ⟨rfl, hsz, hP, hK, hLn, hE, hI⟩ := hv
  have hx := B.exec
  have hb := B.bytes
  have hr := B.returns
  have hg : ∀ w ∈ zG, w.before _ s = true := fun w h9 => atoms_spec (ws := zwX14_bits) B.pre w (List.mem_cons_of_mem _ h9)
  have hown : s.vm.findClass RX14 = some m.cls := findClass_of_methodNamed B.named
  have hlocks := B.notSynchronized
  subst hsz
  have Z : zC p m c cX14_bits 3 s _ zG RX14 D k L := ⟨⟨hx, hb, hml, hown, hg⟩, hK, hLn, hE⟩
  have h : zH D k Γ L s F s.heap [] := ⟨hP, hI, va_S.rf⟩
  have hl := lv_entry ([.int v_]) (n := 3) (Nat.le_of_ble_eq_true rfl)
  rw [lg_entry_eq]
  generalize (lg_sl ([.int v_]) ++ List.replicate (3 - (lg_sl ([.int v_])).length) Slot.unset).toArray = ls at hl ⊢
  have hl : lv_has ls 3 [(0, .int v_)] := hl
  clear hP hK hLn hE hI
  generalize hargs : ([.int v_] : List Value).toArray = args at *
  refine z_start (fun R Q hRf hRl hQ => ?_)
  have hRf : R.frames = 0 := hRf
  have hRl : R.locals = 0 := hRl
  have h9 := h
  refine lv_iconst (v := 0) hx hb dX14_bits_0 (by decide) ?_
  refine lv_istore_n (lv' := [(1, .int 0), (0, .int v_)]) hx hb dX14_bits_1 rfl hl (by decide) rfl (fun ls hl => ?_)
  refine lv_iload_n hx hb dX14_bits_2 rfl (lv_at hl 1 rfl) ?_
  refine lv_istore_n (lv' := [(2, .int v_), (1, .int 0), (0, .int v_)]) hx hb dX14_bits_3 rfl hl (by decide) rfl (fun ls hl => ?_)
  have j_j4_1 : ∀ (n : Nat) (ls : Array Slot) (y2_j4_1 : Int32) (y1_j4_1 : Int32), lv_has ls 3 [(2, .int y2_j4_1), (1, .int y1_j4_1)] → zB (-2147483648) 2147483647 y2_j4_1 → zB (-2147483648) 2147483647 y1_j4_1 → y2_j4_1.toBitVec.toNat = n → W p l e R s m args below meth c s.heap [] 0 0 Q (F0 m 4 ls []) := by
    intro n
    induction n using Nat.strongRecOn with
    | _ n ih_j4_1 =>
      intro ls y2_j4_1 y1_j4_1 hl by2_j4_1 by1_j4_1 hn_j4_1
      refine lv_iload_n hx hb dX14_bits_4 rfl (lv_at hl 0 rfl) ?_
      refine lv_if_eq (tgt := 20) hx hb dX14_bits_5 (by decide) (fun c_2 => ?_) (fun c_2 => ?_)
      · have c_2 := z_eq c_2
        have by2_j4_1_3 : zB 0 0 y2_j4_1 := zB.eqL (a := 0) (b := 0) c_2 (zBc 0 0 (by decide))
        refine lv_iload_n hx hb dX14_bits_20 rfl (lv_at hl 1 rfl) ?_
        subst hQ
        exact W.iret (v := y1_j4_1) hx hb hr (fun t ht hW => ⟨⟨y1_j4_1, F, rfl, ⟨rfl, trivial⟩, by rw [ht]; exact h.1, h.2.1, zFr.rf⟩, h.2.2.F ht⟩) h.2.2.2.2 dX14_bits_21
      · have c_2 := z_ne c_2
        obtain ⟨x_4, ex_4⟩ : ∃ z : Int32, y1_j4_1 + Int32.ofInt 1 = z := ⟨_, rfl⟩
        have bx_4 := zB.all x_4
        refine lv_iinc (v := x_4) (lv' := [(1, .int x_4), (2, .int y2_j4_1)]) hx hb dX14_bits_8 hl (k := 1) rfl ex_4 (by decide) rfl (fun ls hl => ?_)
        refine lv_iload_n hx hb dX14_bits_11 rfl (lv_at hl 1 rfl) ?_
        refine lv_iload_n hx hb dX14_bits_12 rfl (lv_at hl 1 rfl) ?_
        refine lv_iconst (v := 1) hx hb dX14_bits_13 (by decide) ?_
        refine lv_isub hx hb dX14_bits_14 ?_
        refine zi_any (fun x_5 bx_5 ex_5 => ?_)
        refine lv_iand hx hb dX14_bits_15 ?_
        refine zi_any (fun x_6 bx_6 ex_6 => ?_)
        refine lv_istore_n (lv' := [(2, .int x_6), (1, .int x_4)]) hx hb dX14_bits_16 rfl hl (by decide) rfl (fun ls hl => ?_)
        refine lv_goto (tgt := 4) hx hb dX14_bits_17 (by decide) ?_
        exact ih_j4_1 _ (by have := bx_6.1; have := bx_6.2; have := bx_4.1; have := bx_4.2; have : (0 : Int32).toInt = 0 := (by decide); have : (1 : Int32).toInt = 1 := (by decide); have := by2_j4_1.1; have := by2_j4_1.2; have := by1_j4_1.1; have := by1_j4_1.2; exact Nat.lt_of_lt_of_eq (z_bitm (by assumption) (by assumption) (by assumption)) (by assumption)) ls x_6 x_4 (lv_sub hl [0, 1] rfl) bx_6 bx_4 rfl
  exact j_j4_1 _ ls v_ 0 (lv_sub hl [0, 1] rfl) (zB.all v_) (zB.of ⟨by decide, by decide⟩) rfl

set_option maxHeartbeats 4000000 in
set_option maxRecDepth 100000 in
theorem zc_X14_isLetter (l : Launch) (D : va_G) (k : Nat → ClassId) (Γ : Nat → Option Nat) (L : List Nat) (F : Nat → va_E) (sz : Nat) (b_ : Int32) : Met l yX14_isLetter zwX14_isLetter ({ frames := 0, cells := 0, slots := 0, locals := 0 }) (va_Pc [.int b_] (zP D k Γ L F sz)) (va_Qi (fun (r : Int32) (u : Nat → va_E) => F = u ∧ zB 0 1 r ∧ (r ≠ 0 → zB 97 122 b_) ∧ (r.toInt = 0 → b_.toInt < 97 ∨ 122 < b_.toInt) ∧ True) (zQ D k Γ L F []) (zA L sz)) 0 0 (zA L sz) := by
  refine Met.ofW (cc := cX14_isLetter) (maxL := 1) (ret := (some .boolean)) (by decide) rfl ?_
  intro p e s m args below meth c s₁ B hml hv
  obtain ⟨rfl, hsz, hP, hK, hLn, hE, hI⟩ := hv
  have hx := B.exec
  have hb := B.bytes
  have hr := B.returns
  have hg : ∀ w ∈ zG, w.before _ s = true := fun w h9 => atoms_spec (ws := zwX14_isLetter) B.pre w (List.mem_cons_of_mem _ h9)
  have hown : s.vm.findClass RX14 = some m.cls := findClass_of_methodNamed B.named
  have hlocks := B.notSynchronized
  subst hsz
  have Z : zC p m c cX14_isLetter 1 s _ zG RX14 D k L := ⟨⟨hx, hb, hml, hown, hg⟩, hK, hLn, hE⟩
  have h : zH D k Γ L s F s.heap [] := ⟨hP, hI, va_S.rf⟩
  have hl := lv_entry ([.int b_]) (n := 1) (Nat.le_of_ble_eq_true rfl)
  rw [lg_entry_eq]
  generalize (lg_sl ([.int b_]) ++ List.replicate (1 - (lg_sl ([.int b_])).length) Slot.unset).toArray = ls at hl ⊢
  have hl : lv_has ls 1 [(0, .int b_)] := hl
  clear hP hK hLn hE hI
  generalize hargs : ([.int b_] : List Value).toArray = args at *
  refine z_start (fun R Q hRf hRl hQ => ?_)
  have hRf : R.frames = 0 := hRf
  have hRl : R.locals = 0 := hRl
  have h9 := h
  refine lv_iload_n hx hb dX14_isLetter_0 rfl (lv_at hl 0 rfl) ?_
  refine lv_bipush (v := 97) hx hb dX14_isLetter_1 (by decide) ?_
  refine lv_icmp_lt (tgt := 16) hx hb dX14_isLetter_3 (by decide) (fun c_1 => ?_) (fun c_1 => ?_)
  · have c_1 := z_lt c_1
    have bb__2 : zB (-2147483648) 96 b_ := zB.ltL c_1 (zB.all b_) (zBc 97 97 (by decide)) (by decide)
    refine lv_iconst (v := 0) hx hb dX14_isLetter_16 (by decide) ?_
    subst hQ
    exact W.zret (v := 0) hx hb hr (by decide) (fun t ht hW => ⟨⟨0, F, rfl, ⟨rfl, (zB.of ⟨by decide, by decide⟩), (fun h9 => absurd rfl h9), (fun _ => (by have := bb__2.1; have := bb__2.2; have : (0 : Int32).toInt = 0 := (by decide); have : (97 : Int32).toInt = 97 := (by decide); omega)), trivial⟩, by rw [ht]; exact h.1, h.2.1, zFr.rf⟩, h.2.2.F ht⟩) h.2.2.2.2 dX14_isLetter_17
  · have c_1 := z_nlt c_1
    have bb__3 : zB 97 2147483647 b_ := zB.leR c_1 (zBc 97 97 (by decide)) (zB.all b_) (by decide)
    refine lv_iload_n hx hb dX14_isLetter_6 rfl (lv_at hl 0 rfl) ?_
    refine lv_bipush (v := 122) hx hb dX14_isLetter_7 (by decide) ?_
    refine lv_icmp_gt (tgt := 16) hx hb dX14_isLetter_9 (by decide) (fun c_4 => ?_) (fun c_4 => ?_)
    · have c_4 := z_lt c_4
      have bb__5 : zB 123 2147483647 b_ := zB.ltR c_4 (zBc 122 122 (by decide)) bb__3 (by decide)
      refine lv_iconst (v := 0) hx hb dX14_isLetter_16 (by decide) ?_
      subst hQ
      exact W.zret (v := 0) hx hb hr (by decide) (fun t ht hW => ⟨⟨0, F, rfl, ⟨rfl, (zB.of ⟨by decide, by decide⟩), (fun h9 => absurd rfl h9), (fun _ => (by have := bb__5.1; have := bb__5.2; have : (0 : Int32).toInt = 0 := (by decide); have : (97 : Int32).toInt = 97 := (by decide); have : (122 : Int32).toInt = 122 := (by decide); omega)), trivial⟩, by rw [ht]; exact h.1, h.2.1, zFr.rf⟩, h.2.2.F ht⟩) h.2.2.2.2 dX14_isLetter_17
    · have c_4 := z_nlt c_4
      have bb__6 : zB 97 122 b_ := zB.leL c_4 bb__3 (zBc 122 122 (by decide)) (by decide)
      refine lv_iconst (v := 1) hx hb dX14_isLetter_12 (by decide) ?_
      refine lv_goto (tgt := 17) hx hb dX14_isLetter_13 (by decide) ?_
      subst hQ
      exact W.zret (v := 1) hx hb hr (by decide) (fun t ht hW => ⟨⟨1, F, rfl, ⟨rfl, (zB.of ⟨by decide, by decide⟩), (fun _ => bb__6), (fun h9 => absurd h9 (by decide)), trivial⟩, by rw [ht]; exact h.1, h.2.1, zFr.rf⟩, h.2.2.F ht⟩) h.2.2.2.2 dX14_isLetter_17

set_option maxHeartbeats 4000000 in
set_option maxRecDepth 100000 in
theorem zc_X14_isDigit (l : Launch) (D : va_G) (k : Nat → ClassId) (Γ : Nat → Option Nat) (L : List Nat) (F : Nat → va_E) (sz : Nat) (b_ : Int32) : Met l yX14_isDigit zwX14_isDigit ({ frames := 0, cells := 0, slots := 0, locals := 0 }) (va_Pc [.int b_] (zP D k Γ L F sz)) (va_Qi (fun (r : Int32) (u : Nat → va_E) => F = u ∧ zB 0 1 r ∧ (r ≠ 0 → zB 48 57 b_) ∧ (r.toInt = 0 → b_.toInt < 48 ∨ 57 < b_.toInt) ∧ True) (zQ D k Γ L F []) (zA L sz)) 0 0 (zA L sz) := by
  refine Met.ofW (cc := cX14_isDigit) (maxL := 1) (ret := (some .boolean)) (by decide) rfl ?_
  intro p e s m args below meth c s₁ B hml hv
  obtain ⟨rfl, hsz, hP, hK, hLn, hE, hI⟩ := hv
  have hx := B.exec
  have hb := B.bytes
  have hr := B.returns
  have hg : ∀ w ∈ zG, w.before _ s = true := fun w h9 => atoms_spec (ws := zwX14_isDigit) B.pre w (List.mem_cons_of_mem _ h9)
  have hown : s.vm.findClass RX14 = some m.cls := findClass_of_methodNamed B.named
  have hlocks := B.notSynchronized
  subst hsz
  have Z : zC p m c cX14_isDigit 1 s _ zG RX14 D k L := ⟨⟨hx, hb, hml, hown, hg⟩, hK, hLn, hE⟩
  have h : zH D k Γ L s F s.heap [] := ⟨hP, hI, va_S.rf⟩
  have hl := lv_entry ([.int b_]) (n := 1) (Nat.le_of_ble_eq_true rfl)
  rw [lg_entry_eq]
  generalize (lg_sl ([.int b_]) ++ List.replicate (1 - (lg_sl ([.int b_])).length) Slot.unset).toArray = ls at hl ⊢
  have hl : lv_has ls 1 [(0, .int b_)] := hl
  clear hP hK hLn hE hI
  generalize hargs : ([.int b_] : List Value).toArray = args at *
  refine z_start (fun R Q hRf hRl hQ => ?_)
  have hRf : R.frames = 0 := hRf
  have hRl : R.locals = 0 := hRl
  have h9 := h
  refine lv_iload_n hx hb dX14_isDigit_0 rfl (lv_at hl 0 rfl) ?_
  refine lv_bipush (v := 48) hx hb dX14_isDigit_1 (by decide) ?_
  refine lv_icmp_lt (tgt := 16) hx hb dX14_isDigit_3 (by decide) (fun c_1 => ?_) (fun c_1 => ?_)
  · have c_1 := z_lt c_1
    have bb__2 : zB (-2147483648) 47 b_ := zB.ltL c_1 (zB.all b_) (zBc 48 48 (by decide)) (by decide)
    refine lv_iconst (v := 0) hx hb dX14_isDigit_16 (by decide) ?_
    subst hQ
    exact W.zret (v := 0) hx hb hr (by decide) (fun t ht hW => ⟨⟨0, F, rfl, ⟨rfl, (zB.of ⟨by decide, by decide⟩), (fun h9 => absurd rfl h9), (fun _ => (by have := bb__2.1; have := bb__2.2; have : (0 : Int32).toInt = 0 := (by decide); have : (48 : Int32).toInt = 48 := (by decide); omega)), trivial⟩, by rw [ht]; exact h.1, h.2.1, zFr.rf⟩, h.2.2.F ht⟩) h.2.2.2.2 dX14_isDigit_17
  · have c_1 := z_nlt c_1
    have bb__3 : zB 48 2147483647 b_ := zB.leR c_1 (zBc 48 48 (by decide)) (zB.all b_) (by decide)
    refine lv_iload_n hx hb dX14_isDigit_6 rfl (lv_at hl 0 rfl) ?_
    refine lv_bipush (v := 57) hx hb dX14_isDigit_7 (by decide) ?_
    refine lv_icmp_gt (tgt := 16) hx hb dX14_isDigit_9 (by decide) (fun c_4 => ?_) (fun c_4 => ?_)
    · have c_4 := z_lt c_4
      have bb__5 : zB 58 2147483647 b_ := zB.ltR c_4 (zBc 57 57 (by decide)) bb__3 (by decide)
      refine lv_iconst (v := 0) hx hb dX14_isDigit_16 (by decide) ?_
      subst hQ
      exact W.zret (v := 0) hx hb hr (by decide) (fun t ht hW => ⟨⟨0, F, rfl, ⟨rfl, (zB.of ⟨by decide, by decide⟩), (fun h9 => absurd rfl h9), (fun _ => (by have := bb__5.1; have := bb__5.2; have : (0 : Int32).toInt = 0 := (by decide); have : (48 : Int32).toInt = 48 := (by decide); have : (57 : Int32).toInt = 57 := (by decide); omega)), trivial⟩, by rw [ht]; exact h.1, h.2.1, zFr.rf⟩, h.2.2.F ht⟩) h.2.2.2.2 dX14_isDigit_17
    · have c_4 := z_nlt c_4
      have bb__6 : zB 48 57 b_ := zB.leL c_4 bb__3 (zBc 57 57 (by decide)) (by decide)
      refine lv_iconst (v := 1) hx hb dX14_isDigit_12 (by decide) ?_
      refine lv_goto (tgt := 17) hx hb dX14_isDigit_13 (by decide) ?_
      subst hQ
      exact W.zret (v := 1) hx hb hr (by decide) (fun t ht hW => ⟨⟨1, F, rfl, ⟨rfl, (zB.of ⟨by decide, by decide⟩), (fun _ => bb__6), (fun h9 => absurd h9 (by decide)), trivial⟩, by rw [ht]; exact h.1, h.2.1, zFr.rf⟩, h.2.2.F ht⟩) h.2.2.2.2 dX14_isDigit_17

set_option maxHeartbeats 4000000 in
set_option maxRecDepth 100000 in
theorem zc_X14_isMark (l : Launch) (D : va_G) (k : Nat → ClassId) (Γ : Nat → Option Nat) (L : List Nat) (F : Nat → va_E) (sz : Nat) (c_ : Int32) : Met l yX14_isMark zwX14_isMark ({ frames := 0, cells := 0, slots := 0, locals := 0 }) (va_Pc [.int c_] (zP D k Γ L F sz)) (va_Qi (fun (r : Int32) (u : Nat → va_E) => F = u ∧ zB 0 1 r ∧ (r ≠ 0 → zmk c_) ∧ (r = 0 → ¬ zmk c_) ∧ True) (zQ D k Γ L F []) (zA L sz)) 0 0 (zA L sz) := by
  refine Met.ofW (cc := cX14_isMark) (maxL := 1) (ret := (some .boolean)) (by decide) rfl ?_
  intro p e s m args below meth c s₁ B hml hv
  obtain ⟨rfl, hsz, hP, hK, hLn, hE, hI⟩ := hv
  have hx := B.exec
  have hb := B.bytes
  have hr := B.returns
  have hg : ∀ w ∈ zG, w.before _ s = true := fun w h9 => atoms_spec (ws := zwX14_isMark) B.pre w (List.mem_cons_of_mem _ h9)
  have hown : s.vm.findClass RX14 = some m.cls := findClass_of_methodNamed B.named
  have hlocks := B.notSynchronized
  subst hsz
  have Z : zC p m c cX14_isMark 1 s _ zG RX14 D k L := ⟨⟨hx, hb, hml, hown, hg⟩, hK, hLn, hE⟩
  have h : zH D k Γ L s F s.heap [] := ⟨hP, hI, va_S.rf⟩
  have hl := lv_entry ([.int c_]) (n := 1) (Nat.le_of_ble_eq_true rfl)
  rw [lg_entry_eq]
  generalize (lg_sl ([.int c_]) ++ List.replicate (1 - (lg_sl ([.int c_])).length) Slot.unset).toArray = ls at hl ⊢
  have hl : lv_has ls 1 [(0, .int c_)] := hl
  clear hP hK hLn hE hI
  generalize hargs : ([.int c_] : List Value).toArray = args at *
  refine z_start (fun R Q hRf hRl hQ => ?_)
  have hRf : R.frames = 0 := hRf
  have hRl : R.locals = 0 := hRl
  have h9 := h
  refine lv_iload_n hx hb dX14_isMark_0 rfl (lv_at hl 0 rfl) ?_
  refine lv_bipush (v := 40) hx hb dX14_isMark_1 (by decide) ?_
  refine lv_icmp_eq (tgt := 72) hx hb dX14_isMark_3 (by decide) (fun c_1 => ?_) (fun c_1 => ?_)
  · have c_1 := z_eq c_1
    have bc__2 : zB 40 40 c_ := zB.eqL (a := 0) (b := 0) c_1 (zBc 40 40 (by decide))
    refine lv_iconst (v := 1) hx hb dX14_isMark_72 (by decide) ?_
    refine lv_goto (tgt := 77) hx hb dX14_isMark_73 (by decide) ?_
    subst hQ
    exact W.zret (v := 1) hx hb hr (by decide) (fun t ht hW => ⟨⟨1, F, rfl, ⟨rfl, (zB.of ⟨by decide, by decide⟩), (fun _ => (zmk_of (by have := bc__2.1; have := bc__2.2; have : (1 : Int32).toInt = 1 := (by decide); have : (40 : Int32).toInt = 40 := (by decide); omega))), (fun h9 => absurd h9 (by decide)), trivial⟩, by rw [ht]; exact h.1, h.2.1, zFr.rf⟩, h.2.2.F ht⟩) h.2.2.2.2 dX14_isMark_77
  · have c_1 := z_ne c_1
    refine lv_iload_n hx hb dX14_isMark_6 rfl (lv_at hl 0 rfl) ?_
    refine lv_bipush (v := 41) hx hb dX14_isMark_7 (by decide) ?_
    refine lv_icmp_eq (tgt := 72) hx hb dX14_isMark_9 (by decide) (fun c_3 => ?_) (fun c_3 => ?_)
    · have c_3 := z_eq c_3
      have bc__4 : zB 41 41 c_ := zB.eqL (a := 0) (b := 0) c_3 (zBc 41 41 (by decide))
      refine lv_iconst (v := 1) hx hb dX14_isMark_72 (by decide) ?_
      refine lv_goto (tgt := 77) hx hb dX14_isMark_73 (by decide) ?_
      subst hQ
      exact W.zret (v := 1) hx hb hr (by decide) (fun t ht hW => ⟨⟨1, F, rfl, ⟨rfl, (zB.of ⟨by decide, by decide⟩), (fun _ => (zmk_of (by have := bc__4.1; have := bc__4.2; have : (1 : Int32).toInt = 1 := (by decide); have : (40 : Int32).toInt = 40 := (by decide); have : (41 : Int32).toInt = 41 := (by decide); omega))), (fun h9 => absurd h9 (by decide)), trivial⟩, by rw [ht]; exact h.1, h.2.1, zFr.rf⟩, h.2.2.F ht⟩) h.2.2.2.2 dX14_isMark_77
    · have c_3 := z_ne c_3
      refine lv_iload_n hx hb dX14_isMark_12 rfl (lv_at hl 0 rfl) ?_
      refine lv_bipush (v := 123) hx hb dX14_isMark_13 (by decide) ?_
      refine lv_icmp_eq (tgt := 72) hx hb dX14_isMark_15 (by decide) (fun c_5 => ?_) (fun c_5 => ?_)
      · have c_5 := z_eq c_5
        have bc__6 : zB 123 123 c_ := zB.eqL (a := 0) (b := 0) c_5 (zBc 123 123 (by decide))
        refine lv_iconst (v := 1) hx hb dX14_isMark_72 (by decide) ?_
        refine lv_goto (tgt := 77) hx hb dX14_isMark_73 (by decide) ?_
        subst hQ
        exact W.zret (v := 1) hx hb hr (by decide) (fun t ht hW => ⟨⟨1, F, rfl, ⟨rfl, (zB.of ⟨by decide, by decide⟩), (fun _ => (zmk_of (by have := bc__6.1; have := bc__6.2; have : (1 : Int32).toInt = 1 := (by decide); have : (40 : Int32).toInt = 40 := (by decide); have : (41 : Int32).toInt = 41 := (by decide); have : (123 : Int32).toInt = 123 := (by decide); omega))), (fun h9 => absurd h9 (by decide)), trivial⟩, by rw [ht]; exact h.1, h.2.1, zFr.rf⟩, h.2.2.F ht⟩) h.2.2.2.2 dX14_isMark_77
      · have c_5 := z_ne c_5
        refine lv_iload_n hx hb dX14_isMark_18 rfl (lv_at hl 0 rfl) ?_
        refine lv_bipush (v := 125) hx hb dX14_isMark_19 (by decide) ?_
        refine lv_icmp_eq (tgt := 72) hx hb dX14_isMark_21 (by decide) (fun c_7 => ?_) (fun c_7 => ?_)
        · have c_7 := z_eq c_7
          have bc__8 : zB 125 125 c_ := zB.eqL (a := 0) (b := 0) c_7 (zBc 125 125 (by decide))
          refine lv_iconst (v := 1) hx hb dX14_isMark_72 (by decide) ?_
          refine lv_goto (tgt := 77) hx hb dX14_isMark_73 (by decide) ?_
          subst hQ
          exact W.zret (v := 1) hx hb hr (by decide) (fun t ht hW => ⟨⟨1, F, rfl, ⟨rfl, (zB.of ⟨by decide, by decide⟩), (fun _ => (zmk_of (by have := bc__8.1; have := bc__8.2; have : (1 : Int32).toInt = 1 := (by decide); have : (40 : Int32).toInt = 40 := (by decide); have : (41 : Int32).toInt = 41 := (by decide); have : (123 : Int32).toInt = 123 := (by decide); have : (125 : Int32).toInt = 125 := (by decide); omega))), (fun h9 => absurd h9 (by decide)), trivial⟩, by rw [ht]; exact h.1, h.2.1, zFr.rf⟩, h.2.2.F ht⟩) h.2.2.2.2 dX14_isMark_77
        · have c_7 := z_ne c_7
          refine lv_iload_n hx hb dX14_isMark_24 rfl (lv_at hl 0 rfl) ?_
          refine lv_bipush (v := 44) hx hb dX14_isMark_25 (by decide) ?_
          refine lv_icmp_eq (tgt := 72) hx hb dX14_isMark_27 (by decide) (fun c_9 => ?_) (fun c_9 => ?_)
          · have c_9 := z_eq c_9
            have bc__10 : zB 44 44 c_ := zB.eqL (a := 0) (b := 0) c_9 (zBc 44 44 (by decide))
            refine lv_iconst (v := 1) hx hb dX14_isMark_72 (by decide) ?_
            refine lv_goto (tgt := 77) hx hb dX14_isMark_73 (by decide) ?_
            subst hQ
            exact W.zret (v := 1) hx hb hr (by decide) (fun t ht hW => ⟨⟨1, F, rfl, ⟨rfl, (zB.of ⟨by decide, by decide⟩), (fun _ => (zmk_of (by have := bc__10.1; have := bc__10.2; have : (1 : Int32).toInt = 1 := (by decide); have : (40 : Int32).toInt = 40 := (by decide); have : (41 : Int32).toInt = 41 := (by decide); have : (44 : Int32).toInt = 44 := (by decide); have : (123 : Int32).toInt = 123 := (by decide); have : (125 : Int32).toInt = 125 := (by decide); omega))), (fun h9 => absurd h9 (by decide)), trivial⟩, by rw [ht]; exact h.1, h.2.1, zFr.rf⟩, h.2.2.F ht⟩) h.2.2.2.2 dX14_isMark_77
          · have c_9 := z_ne c_9
            refine lv_iload_n hx hb dX14_isMark_30 rfl (lv_at hl 0 rfl) ?_
            refine lv_bipush (v := 59) hx hb dX14_isMark_31 (by decide) ?_
            refine lv_icmp_eq (tgt := 72) hx hb dX14_isMark_33 (by decide) (fun c_11 => ?_) (fun c_11 => ?_)
            · have c_11 := z_eq c_11
              have bc__12 : zB 59 59 c_ := zB.eqL (a := 0) (b := 0) c_11 (zBc 59 59 (by decide))
              refine lv_iconst (v := 1) hx hb dX14_isMark_72 (by decide) ?_
              refine lv_goto (tgt := 77) hx hb dX14_isMark_73 (by decide) ?_
              subst hQ
              exact W.zret (v := 1) hx hb hr (by decide) (fun t ht hW => ⟨⟨1, F, rfl, ⟨rfl, (zB.of ⟨by decide, by decide⟩), (fun _ => (zmk_of (by have := bc__12.1; have := bc__12.2; have : (1 : Int32).toInt = 1 := (by decide); have : (40 : Int32).toInt = 40 := (by decide); have : (41 : Int32).toInt = 41 := (by decide); have : (44 : Int32).toInt = 44 := (by decide); have : (59 : Int32).toInt = 59 := (by decide); have : (123 : Int32).toInt = 123 := (by decide); have : (125 : Int32).toInt = 125 := (by decide); omega))), (fun h9 => absurd h9 (by decide)), trivial⟩, by rw [ht]; exact h.1, h.2.1, zFr.rf⟩, h.2.2.F ht⟩) h.2.2.2.2 dX14_isMark_77
            · have c_11 := z_ne c_11
              refine lv_iload_n hx hb dX14_isMark_36 rfl (lv_at hl 0 rfl) ?_
              refine lv_bipush (v := 61) hx hb dX14_isMark_37 (by decide) ?_
              refine lv_icmp_eq (tgt := 72) hx hb dX14_isMark_39 (by decide) (fun c_13 => ?_) (fun c_13 => ?_)
              · have c_13 := z_eq c_13
                have bc__14 : zB 61 61 c_ := zB.eqL (a := 0) (b := 0) c_13 (zBc 61 61 (by decide))
                refine lv_iconst (v := 1) hx hb dX14_isMark_72 (by decide) ?_
                refine lv_goto (tgt := 77) hx hb dX14_isMark_73 (by decide) ?_
                subst hQ
                exact W.zret (v := 1) hx hb hr (by decide) (fun t ht hW => ⟨⟨1, F, rfl, ⟨rfl, (zB.of ⟨by decide, by decide⟩), (fun _ => (zmk_of (by have := bc__14.1; have := bc__14.2; have : (1 : Int32).toInt = 1 := (by decide); have : (40 : Int32).toInt = 40 := (by decide); have : (41 : Int32).toInt = 41 := (by decide); have : (44 : Int32).toInt = 44 := (by decide); have : (59 : Int32).toInt = 59 := (by decide); have : (61 : Int32).toInt = 61 := (by decide); have : (123 : Int32).toInt = 123 := (by decide); have : (125 : Int32).toInt = 125 := (by decide); omega))), (fun h9 => absurd h9 (by decide)), trivial⟩, by rw [ht]; exact h.1, h.2.1, zFr.rf⟩, h.2.2.F ht⟩) h.2.2.2.2 dX14_isMark_77
              · have c_13 := z_ne c_13
                refine lv_iload_n hx hb dX14_isMark_42 rfl (lv_at hl 0 rfl) ?_
                refine lv_bipush (v := 60) hx hb dX14_isMark_43 (by decide) ?_
                refine lv_icmp_eq (tgt := 72) hx hb dX14_isMark_45 (by decide) (fun c_15 => ?_) (fun c_15 => ?_)
                · have c_15 := z_eq c_15
                  have bc__16 : zB 60 60 c_ := zB.eqL (a := 0) (b := 0) c_15 (zBc 60 60 (by decide))
                  refine lv_iconst (v := 1) hx hb dX14_isMark_72 (by decide) ?_
                  refine lv_goto (tgt := 77) hx hb dX14_isMark_73 (by decide) ?_
                  subst hQ
                  exact W.zret (v := 1) hx hb hr (by decide) (fun t ht hW => ⟨⟨1, F, rfl, ⟨rfl, (zB.of ⟨by decide, by decide⟩), (fun _ => (zmk_of (by have := bc__16.1; have := bc__16.2; have : (1 : Int32).toInt = 1 := (by decide); have : (40 : Int32).toInt = 40 := (by decide); have : (41 : Int32).toInt = 41 := (by decide); have : (44 : Int32).toInt = 44 := (by decide); have : (59 : Int32).toInt = 59 := (by decide); have : (60 : Int32).toInt = 60 := (by decide); have : (61 : Int32).toInt = 61 := (by decide); have : (123 : Int32).toInt = 123 := (by decide); have : (125 : Int32).toInt = 125 := (by decide); omega))), (fun h9 => absurd h9 (by decide)), trivial⟩, by rw [ht]; exact h.1, h.2.1, zFr.rf⟩, h.2.2.F ht⟩) h.2.2.2.2 dX14_isMark_77
                · have c_15 := z_ne c_15
                  refine lv_iload_n hx hb dX14_isMark_48 rfl (lv_at hl 0 rfl) ?_
                  refine lv_bipush (v := 62) hx hb dX14_isMark_49 (by decide) ?_
                  refine lv_icmp_eq (tgt := 72) hx hb dX14_isMark_51 (by decide) (fun c_17 => ?_) (fun c_17 => ?_)
                  · have c_17 := z_eq c_17
                    have bc__18 : zB 62 62 c_ := zB.eqL (a := 0) (b := 0) c_17 (zBc 62 62 (by decide))
                    refine lv_iconst (v := 1) hx hb dX14_isMark_72 (by decide) ?_
                    refine lv_goto (tgt := 77) hx hb dX14_isMark_73 (by decide) ?_
                    subst hQ
                    exact W.zret (v := 1) hx hb hr (by decide) (fun t ht hW => ⟨⟨1, F, rfl, ⟨rfl, (zB.of ⟨by decide, by decide⟩), (fun _ => (zmk_of (by have := bc__18.1; have := bc__18.2; have : (1 : Int32).toInt = 1 := (by decide); have : (40 : Int32).toInt = 40 := (by decide); have : (41 : Int32).toInt = 41 := (by decide); have : (44 : Int32).toInt = 44 := (by decide); have : (59 : Int32).toInt = 59 := (by decide); have : (60 : Int32).toInt = 60 := (by decide); have : (61 : Int32).toInt = 61 := (by decide); have : (62 : Int32).toInt = 62 := (by decide); have : (123 : Int32).toInt = 123 := (by decide); have : (125 : Int32).toInt = 125 := (by decide); omega))), (fun h9 => absurd h9 (by decide)), trivial⟩, by rw [ht]; exact h.1, h.2.1, zFr.rf⟩, h.2.2.F ht⟩) h.2.2.2.2 dX14_isMark_77
                  · have c_17 := z_ne c_17
                    refine lv_iload_n hx hb dX14_isMark_54 rfl (lv_at hl 0 rfl) ?_
                    refine lv_bipush (v := 43) hx hb dX14_isMark_55 (by decide) ?_
                    refine lv_icmp_eq (tgt := 72) hx hb dX14_isMark_57 (by decide) (fun c_19 => ?_) (fun c_19 => ?_)
                    · have c_19 := z_eq c_19
                      have bc__20 : zB 43 43 c_ := zB.eqL (a := 0) (b := 0) c_19 (zBc 43 43 (by decide))
                      refine lv_iconst (v := 1) hx hb dX14_isMark_72 (by decide) ?_
                      refine lv_goto (tgt := 77) hx hb dX14_isMark_73 (by decide) ?_
                      subst hQ
                      exact W.zret (v := 1) hx hb hr (by decide) (fun t ht hW => ⟨⟨1, F, rfl, ⟨rfl, (zB.of ⟨by decide, by decide⟩), (fun _ => (zmk_of (by have := bc__20.1; have := bc__20.2; have : (1 : Int32).toInt = 1 := (by decide); have : (40 : Int32).toInt = 40 := (by decide); have : (41 : Int32).toInt = 41 := (by decide); have : (43 : Int32).toInt = 43 := (by decide); have : (44 : Int32).toInt = 44 := (by decide); have : (59 : Int32).toInt = 59 := (by decide); have : (60 : Int32).toInt = 60 := (by decide); have : (61 : Int32).toInt = 61 := (by decide); have : (62 : Int32).toInt = 62 := (by decide); have : (123 : Int32).toInt = 123 := (by decide); have : (125 : Int32).toInt = 125 := (by decide); omega))), (fun h9 => absurd h9 (by decide)), trivial⟩, by rw [ht]; exact h.1, h.2.1, zFr.rf⟩, h.2.2.F ht⟩) h.2.2.2.2 dX14_isMark_77
                    · have c_19 := z_ne c_19
                      refine lv_iload_n hx hb dX14_isMark_60 rfl (lv_at hl 0 rfl) ?_
                      refine lv_bipush (v := 45) hx hb dX14_isMark_61 (by decide) ?_
                      refine lv_icmp_eq (tgt := 72) hx hb dX14_isMark_63 (by decide) (fun c_21 => ?_) (fun c_21 => ?_)
                      · have c_21 := z_eq c_21
                        have bc__22 : zB 45 45 c_ := zB.eqL (a := 0) (b := 0) c_21 (zBc 45 45 (by decide))
                        refine lv_iconst (v := 1) hx hb dX14_isMark_72 (by decide) ?_
                        refine lv_goto (tgt := 77) hx hb dX14_isMark_73 (by decide) ?_
                        subst hQ
                        exact W.zret (v := 1) hx hb hr (by decide) (fun t ht hW => ⟨⟨1, F, rfl, ⟨rfl, (zB.of ⟨by decide, by decide⟩), (fun _ => (zmk_of (by have := bc__22.1; have := bc__22.2; have : (1 : Int32).toInt = 1 := (by decide); have : (40 : Int32).toInt = 40 := (by decide); have : (41 : Int32).toInt = 41 := (by decide); have : (43 : Int32).toInt = 43 := (by decide); have : (44 : Int32).toInt = 44 := (by decide); have : (45 : Int32).toInt = 45 := (by decide); have : (59 : Int32).toInt = 59 := (by decide); have : (60 : Int32).toInt = 60 := (by decide); have : (61 : Int32).toInt = 61 := (by decide); have : (62 : Int32).toInt = 62 := (by decide); have : (123 : Int32).toInt = 123 := (by decide); have : (125 : Int32).toInt = 125 := (by decide); omega))), (fun h9 => absurd h9 (by decide)), trivial⟩, by rw [ht]; exact h.1, h.2.1, zFr.rf⟩, h.2.2.F ht⟩) h.2.2.2.2 dX14_isMark_77
                      · have c_21 := z_ne c_21
                        refine lv_iload_n hx hb dX14_isMark_66 rfl (lv_at hl 0 rfl) ?_
                        refine lv_bipush (v := 42) hx hb dX14_isMark_67 (by decide) ?_
                        refine lv_icmp_ne (tgt := 76) hx hb dX14_isMark_69 (by decide) (fun c_23 => ?_) (fun c_23 => ?_)
                        · have c_23 := z_ne c_23
                          refine lv_iconst (v := 0) hx hb dX14_isMark_76 (by decide) ?_
                          subst hQ
                          exact W.zret (v := 0) hx hb hr (by decide) (fun t ht hW => ⟨⟨0, F, rfl, ⟨rfl, (zB.of ⟨by decide, by decide⟩), (fun h9 => absurd rfl h9), (fun _ => zmk_no (by have := (zB.all c_).1; have := (zB.all c_).2; have : (0 : Int32).toInt = 0 := (by decide); have : (40 : Int32).toInt = 40 := (by decide); have : (41 : Int32).toInt = 41 := (by decide); have : (42 : Int32).toInt = 42 := (by decide); have : (43 : Int32).toInt = 43 := (by decide); have : (44 : Int32).toInt = 44 := (by decide); have : (45 : Int32).toInt = 45 := (by decide); have : (59 : Int32).toInt = 59 := (by decide); have : (60 : Int32).toInt = 60 := (by decide); have : (61 : Int32).toInt = 61 := (by decide); have : (62 : Int32).toInt = 62 := (by decide); have : (123 : Int32).toInt = 123 := (by decide); have : (125 : Int32).toInt = 125 := (by decide); omega)), trivial⟩, by rw [ht]; exact h.1, h.2.1, zFr.rf⟩, h.2.2.F ht⟩) h.2.2.2.2 dX14_isMark_77
                        · have c_23 := z_eq c_23
                          have bc__24 : zB 42 42 c_ := zB.eqL (a := 0) (b := 0) c_23 (zBc 42 42 (by decide))
                          refine lv_iconst (v := 1) hx hb dX14_isMark_72 (by decide) ?_
                          refine lv_goto (tgt := 77) hx hb dX14_isMark_73 (by decide) ?_
                          subst hQ
                          exact W.zret (v := 1) hx hb hr (by decide) (fun t ht hW => ⟨⟨1, F, rfl, ⟨rfl, (zB.of ⟨by decide, by decide⟩), (fun _ => (zmk_of (by have := bc__24.1; have := bc__24.2; have : (1 : Int32).toInt = 1 := (by decide); have : (40 : Int32).toInt = 40 := (by decide); have : (41 : Int32).toInt = 41 := (by decide); have : (42 : Int32).toInt = 42 := (by decide); have : (43 : Int32).toInt = 43 := (by decide); have : (44 : Int32).toInt = 44 := (by decide); have : (45 : Int32).toInt = 45 := (by decide); have : (59 : Int32).toInt = 59 := (by decide); have : (60 : Int32).toInt = 60 := (by decide); have : (61 : Int32).toInt = 61 := (by decide); have : (62 : Int32).toInt = 62 := (by decide); have : (123 : Int32).toInt = 123 := (by decide); have : (125 : Int32).toInt = 125 := (by decide); omega))), (fun h9 => absurd h9 (by decide)), trivial⟩, by rw [ht]; exact h.1, h.2.1, zFr.rf⟩, h.2.2.F ht⟩) h.2.2.2.2 dX14_isMark_77

set_option maxHeartbeats 4000000 in
set_option maxRecDepth 100000 in
theorem zc_X14_byteAt (l : Launch) (D : va_G) (k : Nat → ClassId) (Γ : Nat → Option Nat) (L : List Nat) (F : Nat → va_E) (sz : Nat) (th : Nat) (q : Int32) (tp : Nat) (zz : Int32) (hth : Γ th = some 14) (bq : zB 0 600 q) (ktp : zfld F th 10 = .ref tp) (htp : Γ tp = some 152) (kzz : zfld F th 12 = .int zz) (bzz : zB 0 600 zz) : Met l yX14_byteAt zwX14_byteAt ({ frames := 0, cells := 0, slots := 0, locals := 0 }) (va_Pc [.ref th, .int q] (zP D k Γ L F sz)) (va_Qi (fun (r : Int32) (u : Nat → va_E) => F = u ∧ zB (-1) 255 r ∧ (r.toInt ≠ -1 → q.toInt < zz.toInt ∧ r = zel F tp (Int32.toNatClampNeg q) &&& 255) ∧ (r.toInt = -1 → zz.toInt ≤ q.toInt) ∧ True) (zQ D k Γ L F []) (zA L sz)) 0 0 (zA L sz) := by
  refine Met.ofW (cc := cX14_byteAt) (maxL := 2) (ret := (some .int)) (by decide) rfl ?_
  intro p e s m args below meth c s₁ B hml hv
  obtain ⟨rfl, hsz, hP, hK, hLn, hE, hI⟩ := hv
  have hx := B.exec
  have hb := B.bytes
  have hr := B.returns
  have hg : ∀ w ∈ zG, w.before _ s = true := fun w h9 => atoms_spec (ws := zwX14_byteAt) B.pre w (List.mem_cons_of_mem _ h9)
  have hown : s.vm.findClass RX14 = some m.cls := findClass_of_methodNamed B.named
  have hlocks := B.notSynchronized
  subst hsz
  have Z : zC p m c cX14_byteAt 2 s _ zG RX14 D k L := ⟨⟨hx, hb, hml, hown, hg⟩, hK, hLn, hE⟩
  have h : zH D k Γ L s F s.heap [] := ⟨hP, hI, va_S.rf⟩
  have hl := lv_entry ([.ref th, .int q]) (n := 2) (Nat.le_of_ble_eq_true rfl)
  rw [lg_entry_eq]
  generalize (lg_sl ([.ref th, .int q]) ++ List.replicate (2 - (lg_sl ([.ref th, .int q])).length) Slot.unset).toArray = ls at hl ⊢
  have hl : lv_has ls 2 [(0, .ref th), (1, .int q)] := hl
  clear hP hK hLn hE hI
  generalize hargs : ([.ref th, .int q] : List Value).toArray = args at *
  refine z_start (fun R Q hRf hRl hQ => ?_)
  have hRf : R.frames = 0 := hRf
  have hRl : R.locals = 0 := hRl
  have h9 := h
  refine lv_iload_n hx hb dX14_byteAt_0 rfl (lv_at hl 1 rfl) ?_
  refine lv_aload_n hx hb dX14_byteAt_1 rfl (lv_at hl 0 rfl) ?_
  refine zt_getk (t := 14) (C := RX14) (T := TX14) (N := 40) Z h hth zin_14 rfl 12 kzz ⟨by decide, rfl, by decide⟩ (zm_RX14 (List.mem_of_getElem? (i := 10) rfl)) (fun _ h9 => h9) dX14_byteAt_2 ?_
  refine lv_icmp_ge (tgt := 21) hx hb dX14_byteAt_5 (by decide) (fun c_1 => ?_) (fun c_1 => ?_)
  · have c_1 := z_le c_1
    refine lv_iconst (v := (-1)) hx hb dX14_byteAt_21 (by decide) ?_
    subst hQ
    exact W.iret (v := (-1)) hx hb hr (fun t ht hW => ⟨⟨(-1), F, rfl, ⟨rfl, (zB.of ⟨by decide, by decide⟩), (fun h9 => absurd (by decide) h9), (fun _ => (by have := bq.1; have := bq.2; have := bzz.1; have := bzz.2; have : ((-1) : Int32).toInt = (-1) := (by decide); omega)), trivial⟩, by rw [ht]; exact h.1, h.2.1, zFr.rf⟩, h.2.2.F ht⟩) h.2.2.2.2 dX14_byteAt_22
  · have c_1 := z_nle c_1
    have bq_2 : zB 0 599 q := zB.ltL c_1 bq bzz (by decide)
    have bzz_3 : zB 1 600 zz := zB.ltR c_1 bq bzz (by decide)
    refine lv_aload_n hx hb dX14_byteAt_8 rfl (lv_at hl 0 rfl) ?_
    refine zt_getk (t := 14) (C := RX14) (T := TX14) (N := 40) Z h hth zin_14 rfl 10 ktp ⟨by decide, rfl, by decide⟩ (zm_RX14 (List.mem_of_getElem? (i := 11) rfl)) (fun _ h9 => h9) dX14_byteAt_9 ?_
    refine lv_iload_n hx hb dX14_byteAt_12 rfl (lv_at hl 1 rfl) ?_
    refine zt_balde (t := 152) Z h htp ⟨by decide, rfl⟩ bq_2 ⟨by decide, by decide⟩ dX14_byteAt_13 (fun x_4 ex_4 bx_4 => ?_)
    refine lv_sipush (v := 255) hx hb dX14_byteAt_14 (by decide) ?_
    refine lv_iand hx hb dX14_byteAt_17 ?_
    refine zi_and ((zBc 255 255 (by decide)).w ⟨by decide, by decide⟩ : zB 0 255 _) (fun x_5 bx_5 ex_5 => ?_)
    refine lv_goto (tgt := 22) hx hb dX14_byteAt_18 (by decide) ?_
    subst hQ
    exact W.iret (v := x_5) hx hb hr (fun t ht hW => ⟨⟨x_5, F, rfl, ⟨rfl, (bx_5.w ⟨by decide, by decide⟩), (fun _ => ⟨(by have := bq_2.1; have := bq_2.2; have := bx_5.1; have := bx_5.2; have := bzz_3.1; have := bzz_3.2; have : (255 : Int32).toInt = 255 := (by decide); omega), by rw [ex_5, ← ex_4]⟩), (fun h9 => absurd h9 (by have := bx_5.1; omega)), trivial⟩, by rw [ht]; exact h.1, h.2.1, zFr.rf⟩, h.2.2.F ht⟩) h.2.2.2.2 dX14_byteAt_22

set_option maxHeartbeats 4000000 in
set_option maxRecDepth 100000 in
theorem zc_X14_is (l : Launch) (D : va_G) (k : Nat → ClassId) (Γ : Nat → Option Nat) (L : List Nat) (F : Nat → va_E) (sz : Nat) (th : Nat) (c_ : Int32) (hth : Γ th = some 14) : Met l yX14_is zwX14_is ({ frames := 0, cells := 0, slots := 0, locals := 0 }) (va_Pc [.ref th, .int c_] (zP D k Γ L F sz)) (va_Qi (fun (r : Int32) (u : Nat → va_E) => F = u ∧ zB 0 1 r ∧ (r ≠ 0 → ∃ (so : Int32) (mk : Int32), zfld u th 14 = .int so ∧ zB (-2147483648) 2147483647 so ∧ zfld u th 16 = .int mk ∧ zB (-2147483648) 2147483647 mk ∧ (so.toInt = 4 ∧ mk.toInt = c_.toInt)) ∧ True) (zQ D k Γ L F []) (zA L sz)) 0 0 (zA L sz) := by
  refine Met.ofW (cc := cX14_is) (maxL := 2) (ret := (some .boolean)) (by decide) rfl ?_
  intro p e s m args below meth c s₁ B hml hv
  obtain ⟨rfl, hsz, hP, hK, hLn, hE, hI⟩ := hv
  have hx := B.exec
  have hb := B.bytes
  have hr := B.returns
  have hg : ∀ w ∈ zG, w.before _ s = true := fun w h9 => atoms_spec (ws := zwX14_is) B.pre w (List.mem_cons_of_mem _ h9)
  have hown : s.vm.findClass RX14 = some m.cls := findClass_of_methodNamed B.named
  have hlocks := B.notSynchronized
  subst hsz
  have Z : zC p m c cX14_is 2 s _ zG RX14 D k L := ⟨⟨hx, hb, hml, hown, hg⟩, hK, hLn, hE⟩
  have h : zH D k Γ L s F s.heap [] := ⟨hP, hI, va_S.rf⟩
  have hl := lv_entry ([.ref th, .int c_]) (n := 2) (Nat.le_of_ble_eq_true rfl)
  rw [lg_entry_eq]
  generalize (lg_sl ([.ref th, .int c_]) ++ List.replicate (2 - (lg_sl ([.ref th, .int c_])).length) Slot.unset).toArray = ls at hl ⊢
  have hl : lv_has ls 2 [(0, .ref th), (1, .int c_)] := hl
  clear hP hK hLn hE hI
  generalize hargs : ([.ref th, .int c_] : List Value).toArray = args at *
  refine z_start (fun R Q hRf hRl hQ => ?_)
  have hRf : R.frames = 0 := hRf
  have hRl : R.locals = 0 := hRl
  have h9 := h
  refine lv_aload_n hx hb dX14_is_0 rfl (lv_at hl 0 rfl) ?_
  refine zt_geti (t := 14) (C := RX14) (T := TX14) (N := 40) Z h hth zin_14 rfl 14 rfl ⟨by decide, rfl⟩ (zm_RX14 (List.mem_of_getElem? (i := 24) rfl)) (fun _ h9 => h9) dX14_is_1 (fun x_1 kx_1 bx_1 => ?_)
  refine lv_iconst (v := 4) hx hb dX14_is_4 (by decide) ?_
  refine lv_icmp_ne (tgt := 20) hx hb dX14_is_5 (by decide) (fun c_2 => ?_) (fun c_2 => ?_)
  · have c_2 := z_ne c_2
    refine lv_iconst (v := 0) hx hb dX14_is_20 (by decide) ?_
    subst hQ
    exact W.zret (v := 0) hx hb hr (by decide) (fun t ht hW => ⟨⟨0, F, rfl, ⟨rfl, (zB.of ⟨by decide, by decide⟩), (fun h9 => absurd rfl h9), trivial⟩, by rw [ht]; exact h.1, h.2.1, zFr.rf⟩, h.2.2.F ht⟩) h.2.2.2.2 dX14_is_21
  · have c_2 := z_eq c_2
    have bx_1_3 : zB 4 4 x_1 := zB.eqL (a := 0) (b := 0) c_2 (zBc 4 4 (by decide))
    refine lv_aload_n hx hb dX14_is_8 rfl (lv_at hl 0 rfl) ?_
    refine zt_geti (t := 14) (C := RX14) (T := TX14) (N := 40) Z h hth zin_14 rfl 16 rfl ⟨by decide, rfl⟩ (zm_RX14 (List.mem_of_getElem? (i := 25) rfl)) (fun _ h9 => h9) dX14_is_9 (fun x_4 kx_4 bx_4 => ?_)
    refine lv_iload_n hx hb dX14_is_12 rfl (lv_at hl 1 rfl) ?_
    refine lv_icmp_ne (tgt := 20) hx hb dX14_is_13 (by decide) (fun c_5 => ?_) (fun c_5 => ?_)
    · have c_5 := z_ne c_5
      refine lv_iconst (v := 0) hx hb dX14_is_20 (by decide) ?_
      subst hQ
      exact W.zret (v := 0) hx hb hr (by decide) (fun t ht hW => ⟨⟨0, F, rfl, ⟨rfl, (zB.of ⟨by decide, by decide⟩), (fun h9 => absurd rfl h9), trivial⟩, by rw [ht]; exact h.1, h.2.1, zFr.rf⟩, h.2.2.F ht⟩) h.2.2.2.2 dX14_is_21
    · have c_5 := z_eq c_5
      refine lv_iconst (v := 1) hx hb dX14_is_16 (by decide) ?_
      refine lv_goto (tgt := 21) hx hb dX14_is_17 (by decide) ?_
      subst hQ
      exact W.zret (v := 1) hx hb hr (by decide) (fun t ht hW => ⟨⟨1, F, rfl, ⟨rfl, (zB.of ⟨by decide, by decide⟩), (fun _ => ⟨x_1, x_4, kx_1, (bx_1_3.w ⟨by decide, by decide⟩), kx_4, bx_4, (by have := (zB.all c_).1; have := (zB.all c_).2; have := bx_1_3.1; have := bx_1_3.2; have := bx_4.1; have := bx_4.2; have : (1 : Int32).toInt = 1 := (by decide); have : (4 : Int32).toInt = 4 := (by decide); omega)⟩), trivial⟩, by rw [ht]; exact h.1, h.2.1, zFr.rf⟩, h.2.2.F ht⟩) h.2.2.2.2 dX14_is_21

set_option maxHeartbeats 4000000 in
set_option maxRecDepth 100000 in
theorem zc_X14_wordOf (l : Launch) (D : va_G) (k : Nat → ClassId) (Γ : Nat → Option Nat) (L : List Nat) (F : Nat → va_E) (sz : Nat) (si : Nat) (qs : String × Nat × String × Nat) (hsi : zStrs[si]? = some qs) : Met l yX14_wordOf zwX14_wordOf ({ frames := 4, cells := 0, slots := 0, locals := 85 }) (va_Pc [.ref (D.2 99 si)] (zP D k Γ L F sz)) (va_Ql (fun (r : Int64) (u : Nat → va_E) => F = u ∧ True) (zQ D k Γ L F []) (zA L sz)) 0 0 (zA L sz) := by
  refine Met.ofW (cc := cX14_wordOf) (maxL := 4) (ret := (some .long)) (by decide) rfl ?_
  intro p e s m args below meth c s₁ B hml hv
  obtain ⟨rfl, hsz, hP, hK, hLn, hE, hI⟩ := hv
  have hx := B.exec
  have hb := B.bytes
  have hr := B.returns
  have hg : ∀ w ∈ zG, w.before _ s = true := fun w h9 => atoms_spec (ws := zwX14_wordOf) B.pre w (List.mem_cons_of_mem _ h9)
  have hown : s.vm.findClass RX14 = some m.cls := findClass_of_methodNamed B.named
  have hlocks := B.notSynchronized
  subst hsz
  have Z : zC p m c cX14_wordOf 4 s _ zG RX14 D k L := ⟨⟨hx, hb, hml, hown, hg⟩, hK, hLn, hE⟩
  have h : zH D k Γ L s F s.heap [] := ⟨hP, hI, va_S.rf⟩
  have hl := lv_entry ([.ref (D.2 99 si)]) (n := 4) (Nat.le_of_ble_eq_true rfl)
  rw [lg_entry_eq]
  generalize (lg_sl ([.ref (D.2 99 si)]) ++ List.replicate (4 - (lg_sl ([.ref (D.2 99 si)])).length) Slot.unset).toArray = ls at hl ⊢
  have hl : lv_has ls 4 [(0, .ref (D.2 99 si))] := hl
  clear hP hK hLn hE hI
  generalize hargs : ([.ref (D.2 99 si)] : List Value).toArray = args at *
  refine z_start (fun R Q hRf hRl hQ => ?_)
  have hRf : R.frames = 4 := hRf
  have hRl : R.locals = 85 := hRl
  refine lv_lconst (v := 0) hx hb dX14_wordOf_0 (by decide) ?_
  refine lv_lstore_n (lv' := [(1, .long 0), (0, .ref (D.2 99 si))]) hx hb dX14_wordOf_1 rfl hl (by decide) rfl (fun ls hl => ?_)
  refine lv_iconst (v := 0) hx hb dX14_wordOf_2 (by decide) ?_
  refine lv_istore_n (lv' := [(3, .int 0), (1, .long 0), (0, .ref (D.2 99 si))]) hx hb dX14_wordOf_3 rfl hl (by decide) rfl (fun ls hl => ?_)
  have j_j4_1 : ∀ (n : Nat) (ls : Array Slot) (y3_j4_1 : Int32) (y1_j4_1 : Int64) (H : Heap) (locs : List Loc), lv_has ls 4 [(3, .int y3_j4_1), (1, .long y1_j4_1), (0, .ref (D.2 99 si))] → zB 0 8 y3_j4_1 → zH D k Γ L s F H locs → (2147483647 - y3_j4_1.toInt).toNat = n → W p l e R s m args below meth c H locs 0 0 Q (F0 m 4 ls []) := by
    intro n
    induction n using Nat.strongRecOn with
    | _ n ih_j4_1 =>
      intro ls y3_j4_1 y1_j4_1 H locs hl by3_j4_1 h hn_j4_1
      refine lv_iload_n hx hb dX14_wordOf_4 rfl (lv_at hl 0 rfl) ?_
      refine lv_aload_n hx hb dX14_wordOf_5 rfl (lv_at hl 2 rfl) ?_
      refine zk_Wi (As := []) (rest := [.int y3_j4_1]) (bytes := cJ0_length_8abf5) (maxL := 1) (ret := (some .int)) Z h (zc_J0_length_8abf5 l D k Γ L F H.size si qs hsi) (cwV 0 hg zv_RX14_91 rfl rfl rfl zd_J0_length_8abf5 ⟨z_leR hRf (by decide), z_leR hRl (by decide)⟩) (zE_recv Z h hsi) rfl hl.1 rfl (Nat.le_of_ble_eq_true rfl) dX14_wordOf_6 ⟨Nat.zero_le _, Nat.zero_le _⟩ (fun r_2 F_3 H locs w_4 h hfF_3 => ?_)
      obtain ⟨rfl, br_2, q_5, -⟩ := w_4
      refine lv_icmp_ge (tgt := 36) hx hb dX14_wordOf_9 (by decide) (fun c_6 => ?_) (fun c_6 => ?_)
      · have c_6 := z_le c_6
        refine lv_lload_n hx hb dX14_wordOf_36 rfl (lv_at hl 1 rfl) ?_
        subst hQ
        exact W.lret (v := y1_j4_1) hx hb hr (fun t ht hW => ⟨⟨y1_j4_1, F, rfl, ⟨rfl, trivial⟩, by rw [ht]; exact h.1, h.2.1, zFr.rf⟩, h.2.2.F ht⟩) h.2.2.2.2 dX14_wordOf_37
      · have c_6 := z_nle c_6
        have by3_j4_1_7 : zB 0 5 y3_j4_1 := zB.ltL c_6 by3_j4_1 br_2 (by decide)
        have br_2_8 : zB 1 6 r_2 := zB.ltR c_6 by3_j4_1 br_2 (by decide)
        refine lv_ldc2 hx hb hown (hg _ (zm_RX14 (List.mem_of_getElem? (i := 16) rfl))) dX14_wordOf_12 ?_
        refine lv_lload_n hx hb dX14_wordOf_15 rfl (lv_at hl 1 rfl) ?_
        refine lv_lmul hx hb dX14_wordOf_16 ?_
        refine lv_topl (fun g_9 _ => ?_)
        refine lv_aload_n hx hb dX14_wordOf_17 rfl (lv_at hl 2 rfl) ?_
        refine lv_iload_n hx hb dX14_wordOf_18 rfl (lv_at hl 0 rfl) ?_
        refine zk_Wi (As := [.int y3_j4_1]) (rest := [.long g_9]) (bytes := cJ0_charAt_5068e) (maxL := 2) (ret := (some .char)) Z h (zc_J0_charAt_5068e l D k Γ L F H.size si qs y3_j4_1 hsi (by have := by3_j4_1_7.1; have := by3_j4_1_7.2; omega)) (cwV 1 hg zv_RX14_99 rfl rfl rfl zd_J0_charAt_5068e ⟨z_leR hRf (by decide), z_leR hRl (by decide)⟩) (zE_recv Z h hsi) rfl hl.1 rfl (Nat.le_of_ble_eq_true rfl) dX14_wordOf_19 ⟨Nat.zero_le _, Nat.zero_le _⟩ (fun r_10 F_11 H locs w_12 h hfF_11 => ?_)
        obtain ⟨rfl, q_13, q_14, -⟩ := w_12
        have br_10 := zB.all r_10
        refine lv_bipush (v := 97) hx hb dX14_wordOf_22 (by decide) ?_
        refine lv_isub hx hb dX14_wordOf_24 ?_
        refine zi_any (fun x_15 bx_15 ex_15 => ?_)
        refine lv_iconst (v := 1) hx hb dX14_wordOf_25 (by decide) ?_
        refine lv_iadd hx hb dX14_wordOf_26 ?_
        refine zi_any (fun x_16 bx_16 ex_16 => ?_)
        refine lv_i2l hx hb dX14_wordOf_27 rfl ?_
        refine lv_topl (fun g_17 _ => ?_)
        refine lv_ladd hx hb dX14_wordOf_28 ?_
        refine lv_topl (fun g_18 _ => ?_)
        refine lv_lstore_n (lv' := [(1, .long g_18), (3, .int y3_j4_1), (0, .ref (D.2 99 si))]) hx hb dX14_wordOf_29 rfl hl (by decide) rfl (fun ls hl => ?_)
        obtain ⟨x_19, ex_19, bx_19, tx_19⟩ := z_inc (n := 1) (lo := 1) (hi := 6) by3_j4_1_7 (by decide)
        refine lv_iinc (v := x_19) (lv' := [(3, .int x_19), (1, .long g_18), (0, .ref (D.2 99 si))]) hx hb dX14_wordOf_30 hl (k := 1) rfl ex_19 (by decide) rfl (fun ls hl => ?_)
        refine lv_goto (tgt := 4) hx hb dX14_wordOf_33 (by decide) ?_
        exact ih_j4_1 _ (by have := bx_19.1; have := bx_19.2; have : (1 : Int32).toInt = 1 := (by decide); have : (97 : Int32).toInt = 97 := (by decide); have := by3_j4_1.1; have := by3_j4_1.2; omega) ls x_19 g_18 H locs (lv_sub hl [0, 1, 2] rfl) (bx_19.w ⟨by decide, by decide⟩) h rfl
  exact j_j4_1 _ ls 0 0 s.heap [] (lv_sub hl [0, 1, 2] rfl) (zB.of ⟨by decide, by decide⟩) h rfl

set_option maxHeartbeats 4000000 in
set_option maxRecDepth 100000 in
theorem zc_X14_isWord (l : Launch) (D : va_G) (k : Nat → ClassId) (Γ : Nat → Option Nat) (L : List Nat) (F : Nat → va_E) (sz : Nat) (th : Nat) (si : Nat) (qs : String × Nat × String × Nat) (hth : Γ th = some 14) (hsi : zStrs[si]? = some qs) : Met l yX14_isWord zwX14_isWord ({ frames := 5, cells := 0, slots := 0, locals := 108 }) (va_Pc [.ref th, .ref (D.2 99 si)] (zP D k Γ L F sz)) (va_Qi (fun (r : Int32) (u : Nat → va_E) => F = u ∧ zB 0 1 r ∧ (r ≠ 0 → ∃ (so : Int32), zfld u th 14 = .int so ∧ zB (-2147483648) 2147483647 so ∧ (so.toInt = 2)) ∧ True) (zQ D k Γ L F []) (zA L sz)) 0 0 (zA L sz) := by
  refine Met.ofW (cc := cX14_isWord) (maxL := 2) (ret := (some .boolean)) (by decide) rfl ?_
  intro p e s m args below meth c s₁ B hml hv
  obtain ⟨rfl, hsz, hP, hK, hLn, hE, hI⟩ := hv
  have hx := B.exec
  have hb := B.bytes
  have hr := B.returns
  have hg : ∀ w ∈ zG, w.before _ s = true := fun w h9 => atoms_spec (ws := zwX14_isWord) B.pre w (List.mem_cons_of_mem _ h9)
  have hown : s.vm.findClass RX14 = some m.cls := findClass_of_methodNamed B.named
  have hlocks := B.notSynchronized
  subst hsz
  have Z : zC p m c cX14_isWord 2 s _ zG RX14 D k L := ⟨⟨hx, hb, hml, hown, hg⟩, hK, hLn, hE⟩
  have h : zH D k Γ L s F s.heap [] := ⟨hP, hI, va_S.rf⟩
  have hl := lv_entry ([.ref th, .ref (D.2 99 si)]) (n := 2) (Nat.le_of_ble_eq_true rfl)
  rw [lg_entry_eq]
  generalize (lg_sl ([.ref th, .ref (D.2 99 si)]) ++ List.replicate (2 - (lg_sl ([.ref th, .ref (D.2 99 si)])).length) Slot.unset).toArray = ls at hl ⊢
  have hl : lv_has ls 2 [(0, .ref th), (1, .ref (D.2 99 si))] := hl
  clear hP hK hLn hE hI
  generalize hargs : ([.ref th, .ref (D.2 99 si)] : List Value).toArray = args at *
  refine z_start (fun R Q hRf hRl hQ => ?_)
  have hRf : R.frames = 5 := hRf
  have hRl : R.locals = 108 := hRl
  have h9 := h
  refine lv_aload_n hx hb dX14_isWord_0 rfl (lv_at hl 0 rfl) ?_
  refine zt_geti (t := 14) (C := RX14) (T := TX14) (N := 40) Z h hth zin_14 rfl 14 rfl ⟨by decide, rfl⟩ (zm_RX14 (List.mem_of_getElem? (i := 24) rfl)) (fun _ h9 => h9) dX14_isWord_1 (fun x_1 kx_1 bx_1 => ?_)
  refine lv_iconst (v := 2) hx hb dX14_isWord_4 (by decide) ?_
  refine lv_icmp_ne (tgt := 24) hx hb dX14_isWord_5 (by decide) (fun c_2 => ?_) (fun c_2 => ?_)
  · have c_2 := z_ne c_2
    refine lv_iconst (v := 0) hx hb dX14_isWord_24 (by decide) ?_
    subst hQ
    exact W.zret (v := 0) hx hb hr (by decide) (fun t ht hW => ⟨⟨0, F, rfl, ⟨rfl, (zB.of ⟨by decide, by decide⟩), (fun h9 => absurd rfl h9), trivial⟩, by rw [ht]; exact h.1, h.2.1, zFr.rf⟩, h.2.2.F ht⟩) h.2.2.2.2 dX14_isWord_25
  · have c_2 := z_eq c_2
    have bx_1_3 : zB 2 2 x_1 := zB.eqL (a := 0) (b := 0) c_2 (zBc 2 2 (by decide))
    refine lv_aload_n hx hb dX14_isWord_8 rfl (lv_at hl 0 rfl) ?_
    refine zt_getl (t := 14) (C := RX14) (T := TX14) (N := 40) Z h hth zin_14 rfl 21 rfl ⟨by decide, rfl⟩ (zm_RX14 (List.mem_of_getElem? (i := 28) rfl)) (fun _ h9 => h9) dX14_isWord_9 (fun g_4 kg_4 => ?_)
    refine lv_aload_n hx hb dX14_isWord_12 rfl (lv_at hl 1 rfl) ?_
    refine zk_Sl (As := [.ref (D.2 99 si)]) (rest := [.long g_4]) (bytes := cX14_wordOf) (maxL := 4) (ret := (some .long)) Z h (zc_X14_wordOf l D k Γ L F s.heap.size si qs hsi) (va_cwS 1 hg zv_RX14_137 rfl rfl rfl zd_X14_wordOf ⟨z_leR hRf (by decide), z_leR hRl (by decide)⟩) rfl hl.1 rfl (Nat.le_of_ble_eq_true rfl) dX14_isWord_13 ⟨Nat.zero_le _, Nat.zero_le _⟩ (fun r_5 F_6 H locs w_7 h hfF_6 => ?_)
    obtain ⟨rfl, -⟩ := w_7
    refine W.lcmp hx hb dX14_isWord_16 ?_
    refine zi_any (fun x_8 bx_8 ex_8 => ?_)
    refine lv_if_ne (tgt := 24) hx hb dX14_isWord_17 (by decide) (fun c_9 => ?_) (fun c_9 => ?_)
    · have c_9 := z_ne c_9
      refine lv_iconst (v := 0) hx hb dX14_isWord_24 (by decide) ?_
      subst hQ
      exact W.zret (v := 0) hx hb hr (by decide) (fun t ht hW => ⟨⟨0, F, rfl, ⟨rfl, (zB.of ⟨by decide, by decide⟩), (fun h9 => absurd rfl h9), trivial⟩, by rw [ht]; exact h.1, h.2.1, zFr.rf⟩, h.2.2.F ht⟩) h.2.2.2.2 dX14_isWord_25
    · have c_9 := z_eq c_9
      have bx_8_10 : zB 0 0 x_8 := zB.eqL (a := 0) (b := 0) c_9 (zBc 0 0 (by decide))
      refine lv_iconst (v := 1) hx hb dX14_isWord_20 (by decide) ?_
      refine lv_goto (tgt := 25) hx hb dX14_isWord_21 (by decide) ?_
      subst hQ
      exact W.zret (v := 1) hx hb hr (by decide) (fun t ht hW => ⟨⟨1, F, rfl, ⟨rfl, (zB.of ⟨by decide, by decide⟩), (fun _ => ⟨x_1, kx_1, (bx_1_3.w ⟨by decide, by decide⟩), (by have := bx_1_3.1; have := bx_1_3.2; have : (0 : Int32).toInt = 0 := (by decide); have : (1 : Int32).toInt = 1 := (by decide); have : (2 : Int32).toInt = 2 := (by decide); omega)⟩), trivial⟩, by rw [ht]; exact h.1, h.2.1, zFr.rf⟩, h.2.2.F ht⟩) h.2.2.2.2 dX14_isWord_25

set_option maxHeartbeats 4000000 in
set_option maxRecDepth 100000 in
theorem zc_X14_isPlace (l : Launch) (D : va_G) (k : Nat → ClassId) (Γ : Nat → Option Nat) (L : List Nat) (F : Nat → va_E) (sz : Nat) (th : Nat) (tp : Nat) (hth : Γ th = some 14) (ktp : zfld F th 10 = .ref tp) (htp : Γ tp = some 152) (p_tk : zTk F th tp) : Met l yX14_isPlace zwX14_isPlace ({ frames := 0, cells := 0, slots := 0, locals := 0 }) (va_Pc [.ref th] (zP D k Γ L F sz)) (va_Qi (fun (r : Int32) (u : Nat → va_E) => F = u ∧ zB 0 1 r ∧ (r ≠ 0 → ∃ (so : Int32) (wd : Int64), zfld u th 14 = .int so ∧ so.toInt = 2 ∧ zfld u th 21 = .long wd ∧ 1 ≤ wd.toInt ∧ wd.toInt ≤ 8) ∧ True) (zQ D k Γ L F []) (zA L sz)) 0 0 (zA L sz) := by
  refine Met.ofW (cc := cX14_isPlace) (maxL := 1) (ret := (some .boolean)) (by decide) rfl ?_
  intro p e s m args below meth c s₁ B hml hv
  obtain ⟨rfl, hsz, hP, hK, hLn, hE, hI⟩ := hv
  have hx := B.exec
  have hb := B.bytes
  have hr := B.returns
  have hg : ∀ w ∈ zG, w.before _ s = true := fun w h9 => atoms_spec (ws := zwX14_isPlace) B.pre w (List.mem_cons_of_mem _ h9)
  have hown : s.vm.findClass RX14 = some m.cls := findClass_of_methodNamed B.named
  have hlocks := B.notSynchronized
  subst hsz
  have Z : zC p m c cX14_isPlace 1 s _ zG RX14 D k L := ⟨⟨hx, hb, hml, hown, hg⟩, hK, hLn, hE⟩
  have h : zH D k Γ L s F s.heap [] := ⟨hP, hI, va_S.rf⟩
  have hl := lv_entry ([.ref th]) (n := 1) (Nat.le_of_ble_eq_true rfl)
  rw [lg_entry_eq]
  generalize (lg_sl ([.ref th]) ++ List.replicate (1 - (lg_sl ([.ref th])).length) Slot.unset).toArray = ls at hl ⊢
  have hl : lv_has ls 1 [(0, .ref th)] := hl
  clear hP hK hLn hE hI
  generalize hargs : ([.ref th] : List Value).toArray = args at *
  refine z_start (fun R Q hRf hRl hQ => ?_)
  have hRf : R.frames = 0 := hRf
  have hRl : R.locals = 0 := hRl
  have h9 := h
  refine lv_aload_n hx hb dX14_isPlace_0 rfl (lv_at hl 0 rfl) ?_
  refine zt_geti (t := 14) (C := RX14) (T := TX14) (N := 40) Z h hth zin_14 rfl 14 rfl ⟨by decide, rfl⟩ (zm_RX14 (List.mem_of_getElem? (i := 24) rfl)) (fun _ h9 => h9) dX14_isPlace_1 (fun x_1 kx_1 bx_1 => ?_)
  refine lv_iconst (v := 2) hx hb dX14_isPlace_4 (by decide) ?_
  refine lv_icmp_ne (tgt := 31) hx hb dX14_isPlace_5 (by decide) (fun c_2 => ?_) (fun c_2 => ?_)
  · have c_2 := z_ne c_2
    refine lv_iconst (v := 0) hx hb dX14_isPlace_31 (by decide) ?_
    subst hQ
    exact W.zret (v := 0) hx hb hr (by decide) (fun t ht hW => ⟨⟨0, F, rfl, ⟨rfl, (zB.of ⟨by decide, by decide⟩), (fun h9 => absurd rfl h9), trivial⟩, by rw [ht]; exact h.1, h.2.1, zFr.rf⟩, h.2.2.F ht⟩) h.2.2.2.2 dX14_isPlace_32
  · have c_2 := z_eq c_2
    have bx_1_3 : zB 2 2 x_1 := zB.eqL (a := 0) (b := 0) c_2 (zBc 2 2 (by decide))
    refine lv_aload_n hx hb dX14_isPlace_8 rfl (lv_at hl 0 rfl) ?_
    refine zt_geti (t := 14) (C := RX14) (T := TX14) (N := 40) Z h hth zin_14 rfl 18 rfl ⟨by decide, rfl⟩ (zm_RX14 (List.mem_of_getElem? (i := 29) rfl)) (fun _ h9 => h9) dX14_isPlace_9 (fun x_4 kx_4 bx_4 => ?_)
    refine lv_iconst (v := 1) hx hb dX14_isPlace_12 (by decide) ?_
    refine lv_icmp_ne (tgt := 31) hx hb dX14_isPlace_13 (by decide) (fun c_5 => ?_) (fun c_5 => ?_)
    · have c_5 := z_ne c_5
      refine lv_iconst (v := 0) hx hb dX14_isPlace_31 (by decide) ?_
      subst hQ
      exact W.zret (v := 0) hx hb hr (by decide) (fun t ht hW => ⟨⟨0, F, rfl, ⟨rfl, (zB.of ⟨by decide, by decide⟩), (fun h9 => absurd rfl h9), trivial⟩, by rw [ht]; exact h.1, h.2.1, zFr.rf⟩, h.2.2.F ht⟩) h.2.2.2.2 dX14_isPlace_32
    · have c_5 := z_eq c_5
      have bx_4_6 : zB 1 1 x_4 := zB.eqL (a := 0) (b := 0) c_5 (zBc 1 1 (by decide))
      refine lv_aload_n hx hb dX14_isPlace_16 rfl (lv_at hl 0 rfl) ?_
      refine zt_getl (t := 14) (C := RX14) (T := TX14) (N := 40) Z h hth zin_14 rfl 21 rfl ⟨by decide, rfl⟩ (zm_RX14 (List.mem_of_getElem? (i := 28) rfl)) (fun _ h9 => h9) dX14_isPlace_17 (fun g_7 kg_7 => ?_)
      refine lv_ldc2 hx hb hown (hg _ (zm_RX14 (List.mem_of_getElem? (i := 51) rfl))) dX14_isPlace_20 ?_
      refine W.lcmp hx hb dX14_isPlace_23 ?_
      refine zi_any (fun x_8 bx_8 ex_8 => ?_)
      refine lv_if_gt (tgt := 31) hx hb dX14_isPlace_24 (by decide) (fun c_9 => ?_) (fun c_9 => ?_)
      · have c_9 := z_lt c_9
        have bx_8_10 : zB 1 2147483647 x_8 := zB.ltR c_9 (zBc 0 0 (by decide)) bx_8 (by decide)
        refine lv_iconst (v := 0) hx hb dX14_isPlace_31 (by decide) ?_
        subst hQ
        exact W.zret (v := 0) hx hb hr (by decide) (fun t ht hW => ⟨⟨0, F, rfl, ⟨rfl, (zB.of ⟨by decide, by decide⟩), (fun h9 => absurd rfl h9), trivial⟩, by rw [ht]; exact h.1, h.2.1, zFr.rf⟩, h.2.2.F ht⟩) h.2.2.2.2 dX14_isPlace_32
      · have c_9 := z_nlt c_9
        have bx_8_11 : zB (-2147483648) 0 x_8 := zB.leL c_9 bx_8 (zBc 0 0 (by decide)) (by decide)
        refine lv_iconst (v := 1) hx hb dX14_isPlace_27 (by decide) ?_
        refine lv_goto (tgt := 32) hx hb dX14_isPlace_28 (by decide) ?_
        subst hQ
        exact W.zret (v := 1) hx hb hr (by decide) (fun t ht hW => ⟨⟨1, F, rfl, ⟨rfl, (zB.of ⟨by decide, by decide⟩), (fun _ => ⟨x_1, g_7, kx_1, (by have := bx_1_3.1; have := bx_1_3.2; have := bx_4_6.1; have := bx_4_6.2; have : (0 : Int32).toInt = 0 := (by decide); have : (1 : Int32).toInt = 1 := (by decide); have : (2 : Int32).toInt = 2 := (by decide); omega), kg_7, zTk.word p_tk kx_1 kx_4 kg_7 (by have := bx_1_3.1; have := bx_1_3.2; have := bx_4_6.1; have := bx_4_6.2; have : (0 : Int32).toInt = 0 := (by decide); have : (1 : Int32).toInt = 1 := (by decide); have : (2 : Int32).toInt = 2 := (by decide); omega) (by have := bx_4_6.1; have := bx_4_6.2; have := bx_1_3.1; have := bx_1_3.2; have : (0 : Int32).toInt = 0 := (by decide); have : (1 : Int32).toInt = 1 := (by decide); have : (2 : Int32).toInt = 2 := (by decide); omega), (by have := z_lle ex_8 (by have := bx_8_11.1; have := bx_8_11.2; have := bx_1_3.1; have := bx_1_3.2; have := bx_4_6.1; have := bx_4_6.2; have : (0 : Int32).toInt = 0 := (by decide); have : (1 : Int32).toInt = 1 := (by decide); have : (2 : Int32).toInt = 2 := (by decide); omega); have e8 : (8 : Int64).toInt = 8 := (by decide); omega)⟩), trivial⟩, by rw [ht]; exact h.1, h.2.1, zFr.rf⟩, h.2.2.F ht⟩) h.2.2.2.2 dX14_isPlace_32

set_option maxHeartbeats 4000000 in
set_option maxRecDepth 100000 in
theorem zc_X14_isName (l : Launch) (D : va_G) (k : Nat → ClassId) (Γ : Nat → Option Nat) (L : List Nat) (F : Nat → va_E) (sz : Nat) (th : Nat) (hth : Γ th = some 14) : Met l yX14_isName zwX14_isName ({ frames := 6, cells := 0, slots := 0, locals := 129 }) (va_Pc [.ref th] (zP D k Γ L F sz)) (va_Qi (fun (r : Int32) (u : Nat → va_E) => F = u ∧ zB 0 1 r ∧ (r ≠ 0 → ∃ (so : Int32), zfld u th 14 = .int so ∧ zB (-2147483648) 2147483647 so ∧ (so.toInt = 2)) ∧ True) (zQ D k Γ L F []) (zA L sz)) 0 0 (zA L sz) := by
  refine Met.ofW (cc := cX14_isName) (maxL := 1) (ret := (some .boolean)) (by decide) rfl ?_
  intro p e s m args below meth c s₁ B hml hv
  obtain ⟨rfl, hsz, hP, hK, hLn, hE, hI⟩ := hv
  have hx := B.exec
  have hb := B.bytes
  have hr := B.returns
  have hg : ∀ w ∈ zG, w.before _ s = true := fun w h9 => atoms_spec (ws := zwX14_isName) B.pre w (List.mem_cons_of_mem _ h9)
  have hown : s.vm.findClass RX14 = some m.cls := findClass_of_methodNamed B.named
  have hlocks := B.notSynchronized
  subst hsz
  have Z : zC p m c cX14_isName 1 s _ zG RX14 D k L := ⟨⟨hx, hb, hml, hown, hg⟩, hK, hLn, hE⟩
  have h : zH D k Γ L s F s.heap [] := ⟨hP, hI, va_S.rf⟩
  have hl := lv_entry ([.ref th]) (n := 1) (Nat.le_of_ble_eq_true rfl)
  rw [lg_entry_eq]
  generalize (lg_sl ([.ref th]) ++ List.replicate (1 - (lg_sl ([.ref th])).length) Slot.unset).toArray = ls at hl ⊢
  have hl : lv_has ls 1 [(0, .ref th)] := hl
  clear hP hK hLn hE hI
  generalize hargs : ([.ref th] : List Value).toArray = args at *
  refine z_start (fun R Q hRf hRl hQ => ?_)
  have hRf : R.frames = 6 := hRf
  have hRl : R.locals = 129 := hRl
  have h9 := h
  refine lv_aload_n hx hb dX14_isName_0 rfl (lv_at hl 0 rfl) ?_
  refine zt_geti (t := 14) (C := RX14) (T := TX14) (N := 40) Z h hth zin_14 rfl 14 rfl ⟨by decide, rfl⟩ (zm_RX14 (List.mem_of_getElem? (i := 24) rfl)) (fun _ h9 => h9) dX14_isName_1 (fun x_1 kx_1 bx_1 => ?_)
  refine lv_iconst (v := 2) hx hb dX14_isName_4 (by decide) ?_
  refine lv_icmp_ne (tgt := 74) hx hb dX14_isName_5 (by decide) (fun c_2 => ?_) (fun c_2 => ?_)
  · have c_2 := z_ne c_2
    refine lv_iconst (v := 0) hx hb dX14_isName_74 (by decide) ?_
    subst hQ
    exact W.zret (v := 0) hx hb hr (by decide) (fun t ht hW => ⟨⟨0, F, rfl, ⟨rfl, (zB.of ⟨by decide, by decide⟩), (fun h9 => absurd rfl h9), trivial⟩, by rw [ht]; exact h.1, h.2.1, zFr.rf⟩, h.2.2.F ht⟩) h.2.2.2.2 dX14_isName_75
  · have c_2 := z_eq c_2
    have bx_1_3 : zB 2 2 x_1 := zB.eqL (a := 0) (b := 0) c_2 (zBc 2 2 (by decide))
    refine lv_aload_n hx hb dX14_isName_8 rfl (lv_at hl 0 rfl) ?_
    refine zt_geti (t := 14) (C := RX14) (T := TX14) (N := 40) Z h hth zin_14 rfl 18 rfl ⟨by decide, rfl⟩ (zm_RX14 (List.mem_of_getElem? (i := 29) rfl)) (fun _ h9 => h9) dX14_isName_9 (fun x_4 kx_4 bx_4 => ?_)
    refine lv_iconst (v := 1) hx hb dX14_isName_12 (by decide) ?_
    refine lv_icmp_le (tgt := 74) hx hb dX14_isName_13 (by decide) (fun c_5 => ?_) (fun c_5 => ?_)
    · have c_5 := z_le c_5
      have bx_4_6 : zB (-2147483648) 1 x_4 := zB.leL c_5 bx_4 (zBc 1 1 (by decide)) (by decide)
      refine lv_iconst (v := 0) hx hb dX14_isName_74 (by decide) ?_
      subst hQ
      exact W.zret (v := 0) hx hb hr (by decide) (fun t ht hW => ⟨⟨0, F, rfl, ⟨rfl, (zB.of ⟨by decide, by decide⟩), (fun h9 => absurd rfl h9), trivial⟩, by rw [ht]; exact h.1, h.2.1, zFr.rf⟩, h.2.2.F ht⟩) h.2.2.2.2 dX14_isName_75
    · have c_5 := z_nle c_5
      have bx_4_7 : zB 2 2147483647 x_4 := zB.ltR c_5 (zBc 1 1 (by decide)) bx_4 (by decide)
      refine lv_aload_n hx hb dX14_isName_16 rfl (lv_at hl 0 rfl) ?_
      refine va_ldcS hx hb hown (zsR_6 Z) dX14_isName_17 ?_
      refine zk_Vi (As := [.ref (D.2 99 6)]) (rest := []) (bytes := cX14_isWord) (maxL := 2) (ret := (some .boolean)) Z h (zc_X14_isWord l D k Γ L F s.heap.size th 6 (RX14, 152, "def", 3) hth zs_6) (cwV 1 hg zv_RX14_154 rfl rfl rfl zd_X14_isWord ⟨z_leR hRf (by decide), z_leR hRl (by decide)⟩) hth (by decide) rfl rfl hl.1 rfl (Nat.le_of_ble_eq_true rfl) dX14_isName_19 ⟨Nat.zero_le _, Nat.zero_le _⟩ (fun r_8 F_9 H locs w_10 h hfF_9 => ?_)
      obtain ⟨rfl, br_8, q_11, -⟩ := w_10
      refine lv_if_ne (tgt := 74) hx hb dX14_isName_22 (by decide) (fun c_12 => ?_) (fun c_12 => ?_)
      · obtain ⟨x_13, kx_13, bx_13, q_14⟩ := q_11 c_12
        have c_12 := z_ne c_12
        have br_8_15 : zB 1 1 r_8 := zB.neLo c_12 br_8 (zBc 0 0 (by decide)) (by decide)
        refine lv_iconst (v := 0) hx hb dX14_isName_74 (by decide) ?_
        subst hQ
        exact W.zret (v := 0) hx hb hr (by decide) (fun t ht hW => ⟨⟨0, F, rfl, ⟨rfl, (zB.of ⟨by decide, by decide⟩), (fun h9 => absurd rfl h9), trivial⟩, by rw [ht]; exact h.1, h.2.1, zFr.rf⟩, h.2.2.F ht⟩) h.2.2.2.2 dX14_isName_75
      · have c_12 := z_eq c_12
        have br_8_16 : zB 0 0 r_8 := zB.eqL (a := 0) (b := 0) c_12 (zBc 0 0 (by decide))
        refine lv_aload_n hx hb dX14_isName_25 rfl (lv_at hl 0 rfl) ?_
        refine va_ldcS hx hb hown (zsR_7 Z) dX14_isName_26 ?_
        refine zk_Vi (As := [.ref (D.2 99 7)]) (rest := []) (bytes := cX14_isWord) (maxL := 2) (ret := (some .boolean)) Z h (zc_X14_isWord l D k Γ L F H.size th 7 (RX14, 158, "say", 3) hth zs_7) (cwV 1 hg zv_RX14_154 rfl rfl rfl zd_X14_isWord ⟨z_leR hRf (by decide), z_leR hRl (by decide)⟩) hth (by decide) rfl rfl hl.1 rfl (Nat.le_of_ble_eq_true rfl) dX14_isName_28 ⟨Nat.zero_le _, Nat.zero_le _⟩ (fun r_17 F_18 H locs w_19 h hfF_18 => ?_)
        obtain ⟨rfl, br_17, q_20, -⟩ := w_19
        refine lv_if_ne (tgt := 74) hx hb dX14_isName_31 (by decide) (fun c_21 => ?_) (fun c_21 => ?_)
        · obtain ⟨x_22, kx_22, bx_22, q_23⟩ := q_20 c_21
          have c_21 := z_ne c_21
          have br_17_24 : zB 1 1 r_17 := zB.neLo c_21 br_17 (zBc 0 0 (by decide)) (by decide)
          refine lv_iconst (v := 0) hx hb dX14_isName_74 (by decide) ?_
          subst hQ
          exact W.zret (v := 0) hx hb hr (by decide) (fun t ht hW => ⟨⟨0, F, rfl, ⟨rfl, (zB.of ⟨by decide, by decide⟩), (fun h9 => absurd rfl h9), trivial⟩, by rw [ht]; exact h.1, h.2.1, zFr.rf⟩, h.2.2.F ht⟩) h.2.2.2.2 dX14_isName_75
        · have c_21 := z_eq c_21
          have br_17_25 : zB 0 0 r_17 := zB.eqL (a := 0) (b := 0) c_21 (zBc 0 0 (by decide))
          refine lv_aload_n hx hb dX14_isName_34 rfl (lv_at hl 0 rfl) ?_
          refine va_ldcS hx hb hown (zsR_8 Z) dX14_isName_35 ?_
          refine zk_Vi (As := [.ref (D.2 99 8)]) (rest := []) (bytes := cX14_isWord) (maxL := 2) (ret := (some .boolean)) Z h (zc_X14_isWord l D k Γ L F H.size th 8 (RX14, 160, "return", 6) hth zs_8) (cwV 1 hg zv_RX14_154 rfl rfl rfl zd_X14_isWord ⟨z_leR hRf (by decide), z_leR hRl (by decide)⟩) hth (by decide) rfl rfl hl.1 rfl (Nat.le_of_ble_eq_true rfl) dX14_isName_37 ⟨Nat.zero_le _, Nat.zero_le _⟩ (fun r_26 F_27 H locs w_28 h hfF_27 => ?_)
          obtain ⟨rfl, br_26, q_29, -⟩ := w_28
          refine lv_if_ne (tgt := 74) hx hb dX14_isName_40 (by decide) (fun c_30 => ?_) (fun c_30 => ?_)
          · obtain ⟨x_31, kx_31, bx_31, q_32⟩ := q_29 c_30
            have c_30 := z_ne c_30
            have br_26_33 : zB 1 1 r_26 := zB.neLo c_30 br_26 (zBc 0 0 (by decide)) (by decide)
            refine lv_iconst (v := 0) hx hb dX14_isName_74 (by decide) ?_
            subst hQ
            exact W.zret (v := 0) hx hb hr (by decide) (fun t ht hW => ⟨⟨0, F, rfl, ⟨rfl, (zB.of ⟨by decide, by decide⟩), (fun h9 => absurd rfl h9), trivial⟩, by rw [ht]; exact h.1, h.2.1, zFr.rf⟩, h.2.2.F ht⟩) h.2.2.2.2 dX14_isName_75
          · have c_30 := z_eq c_30
            have br_26_34 : zB 0 0 r_26 := zB.eqL (a := 0) (b := 0) c_30 (zBc 0 0 (by decide))
            refine lv_aload_n hx hb dX14_isName_43 rfl (lv_at hl 0 rfl) ?_
            refine va_ldcS hx hb hown (zsR_9 Z) dX14_isName_44 ?_
            refine zk_Vi (As := [.ref (D.2 99 9)]) (rest := []) (bytes := cX14_isWord) (maxL := 2) (ret := (some .boolean)) Z h (zc_X14_isWord l D k Γ L F H.size th 9 (RX14, 162, "if", 2) hth zs_9) (cwV 1 hg zv_RX14_154 rfl rfl rfl zd_X14_isWord ⟨z_leR hRf (by decide), z_leR hRl (by decide)⟩) hth (by decide) rfl rfl hl.1 rfl (Nat.le_of_ble_eq_true rfl) dX14_isName_46 ⟨Nat.zero_le _, Nat.zero_le _⟩ (fun r_35 F_36 H locs w_37 h hfF_36 => ?_)
            obtain ⟨rfl, br_35, q_38, -⟩ := w_37
            refine lv_if_ne (tgt := 74) hx hb dX14_isName_49 (by decide) (fun c_39 => ?_) (fun c_39 => ?_)
            · obtain ⟨x_40, kx_40, bx_40, q_41⟩ := q_38 c_39
              have c_39 := z_ne c_39
              have br_35_42 : zB 1 1 r_35 := zB.neLo c_39 br_35 (zBc 0 0 (by decide)) (by decide)
              refine lv_iconst (v := 0) hx hb dX14_isName_74 (by decide) ?_
              subst hQ
              exact W.zret (v := 0) hx hb hr (by decide) (fun t ht hW => ⟨⟨0, F, rfl, ⟨rfl, (zB.of ⟨by decide, by decide⟩), (fun h9 => absurd rfl h9), trivial⟩, by rw [ht]; exact h.1, h.2.1, zFr.rf⟩, h.2.2.F ht⟩) h.2.2.2.2 dX14_isName_75
            · have c_39 := z_eq c_39
              have br_35_43 : zB 0 0 r_35 := zB.eqL (a := 0) (b := 0) c_39 (zBc 0 0 (by decide))
              refine lv_aload_n hx hb dX14_isName_52 rfl (lv_at hl 0 rfl) ?_
              refine va_ldcS hx hb hown (zsR_10 Z) dX14_isName_53 ?_
              refine zk_Vi (As := [.ref (D.2 99 10)]) (rest := []) (bytes := cX14_isWord) (maxL := 2) (ret := (some .boolean)) Z h (zc_X14_isWord l D k Γ L F H.size th 10 (RX14, 164, "else", 4) hth zs_10) (cwV 1 hg zv_RX14_154 rfl rfl rfl zd_X14_isWord ⟨z_leR hRf (by decide), z_leR hRl (by decide)⟩) hth (by decide) rfl rfl hl.1 rfl (Nat.le_of_ble_eq_true rfl) dX14_isName_55 ⟨Nat.zero_le _, Nat.zero_le _⟩ (fun r_44 F_45 H locs w_46 h hfF_45 => ?_)
              obtain ⟨rfl, br_44, q_47, -⟩ := w_46
              refine lv_if_ne (tgt := 74) hx hb dX14_isName_58 (by decide) (fun c_48 => ?_) (fun c_48 => ?_)
              · obtain ⟨x_49, kx_49, bx_49, q_50⟩ := q_47 c_48
                have c_48 := z_ne c_48
                have br_44_51 : zB 1 1 r_44 := zB.neLo c_48 br_44 (zBc 0 0 (by decide)) (by decide)
                refine lv_iconst (v := 0) hx hb dX14_isName_74 (by decide) ?_
                subst hQ
                exact W.zret (v := 0) hx hb hr (by decide) (fun t ht hW => ⟨⟨0, F, rfl, ⟨rfl, (zB.of ⟨by decide, by decide⟩), (fun h9 => absurd rfl h9), trivial⟩, by rw [ht]; exact h.1, h.2.1, zFr.rf⟩, h.2.2.F ht⟩) h.2.2.2.2 dX14_isName_75
              · have c_48 := z_eq c_48
                have br_44_52 : zB 0 0 r_44 := zB.eqL (a := 0) (b := 0) c_48 (zBc 0 0 (by decide))
                refine lv_aload_n hx hb dX14_isName_61 rfl (lv_at hl 0 rfl) ?_
                refine va_ldcS hx hb hown (zsR_11 Z) dX14_isName_62 ?_
                refine zk_Vi (As := [.ref (D.2 99 11)]) (rest := []) (bytes := cX14_isWord) (maxL := 2) (ret := (some .boolean)) Z h (zc_X14_isWord l D k Γ L F H.size th 11 (RX14, 166, "while", 5) hth zs_11) (cwV 1 hg zv_RX14_154 rfl rfl rfl zd_X14_isWord ⟨z_leR hRf (by decide), z_leR hRl (by decide)⟩) hth (by decide) rfl rfl hl.1 rfl (Nat.le_of_ble_eq_true rfl) dX14_isName_64 ⟨Nat.zero_le _, Nat.zero_le _⟩ (fun r_53 F_54 H locs w_55 h hfF_54 => ?_)
                obtain ⟨rfl, br_53, q_56, -⟩ := w_55
                refine lv_if_ne (tgt := 74) hx hb dX14_isName_67 (by decide) (fun c_57 => ?_) (fun c_57 => ?_)
                · obtain ⟨x_58, kx_58, bx_58, q_59⟩ := q_56 c_57
                  have c_57 := z_ne c_57
                  have br_53_60 : zB 1 1 r_53 := zB.neLo c_57 br_53 (zBc 0 0 (by decide)) (by decide)
                  refine lv_iconst (v := 0) hx hb dX14_isName_74 (by decide) ?_
                  subst hQ
                  exact W.zret (v := 0) hx hb hr (by decide) (fun t ht hW => ⟨⟨0, F, rfl, ⟨rfl, (zB.of ⟨by decide, by decide⟩), (fun h9 => absurd rfl h9), trivial⟩, by rw [ht]; exact h.1, h.2.1, zFr.rf⟩, h.2.2.F ht⟩) h.2.2.2.2 dX14_isName_75
                · have c_57 := z_eq c_57
                  have br_53_61 : zB 0 0 r_53 := zB.eqL (a := 0) (b := 0) c_57 (zBc 0 0 (by decide))
                  refine lv_iconst (v := 1) hx hb dX14_isName_70 (by decide) ?_
                  refine lv_goto (tgt := 75) hx hb dX14_isName_71 (by decide) ?_
                  subst hQ
                  exact W.zret (v := 1) hx hb hr (by decide) (fun t ht hW => ⟨⟨1, F, rfl, ⟨rfl, (zB.of ⟨by decide, by decide⟩), (fun _ => ⟨x_1, kx_1, (bx_1_3.w ⟨by decide, by decide⟩), (by have := bx_1_3.1; have := bx_1_3.2; have := bx_4_7.1; have := bx_4_7.2; have : (0 : Int32).toInt = 0 := (by decide); have : (1 : Int32).toInt = 1 := (by decide); have : (2 : Int32).toInt = 2 := (by decide); omega)⟩), trivial⟩, by rw [ht]; exact h.1, h.2.1, zFr.rf⟩, h.2.2.F ht⟩) h.2.2.2.2 dX14_isName_75

set_option maxHeartbeats 4000000 in
set_option maxRecDepth 100000 in
theorem zc_X14_canBegin (l : Launch) (D : va_G) (k : Nat → ClassId) (Γ : Nat → Option Nat) (L : List Nat) (F : Nat → va_E) (sz : Nat) (th : Nat) (tp : Nat) (hth : Γ th = some 14) (ktp : zfld F th 10 = .ref tp) (htp : Γ tp = some 152) (p_tk : zTk F th tp) : Met l yX14_canBegin zwX14_canBegin ({ frames := 7, cells := 0, slots := 0, locals := 149 }) (va_Pc [.ref th] (zP D k Γ L F sz)) (va_Qi (fun (r : Int32) (u : Nat → va_E) => F = u ∧ zB 0 1 r ∧ (r ≠ 0 → ∃ (so : Int32), zfld u th 14 = .int so ∧ zB (-2147483648) 2147483647 so ∧ (2 ≤ so.toInt)) ∧ True) (zQ D k Γ L F []) (zA L sz)) 0 0 (zA L sz) := by
  refine Met.ofW (cc := cX14_canBegin) (maxL := 1) (ret := (some .boolean)) (by decide) rfl ?_
  intro p e s m args below meth c s₁ B hml hv
  obtain ⟨rfl, hsz, hP, hK, hLn, hE, hI⟩ := hv
  have hx := B.exec
  have hb := B.bytes
  have hr := B.returns
  have hg : ∀ w ∈ zG, w.before _ s = true := fun w h9 => atoms_spec (ws := zwX14_canBegin) B.pre w (List.mem_cons_of_mem _ h9)
  have hown : s.vm.findClass RX14 = some m.cls := findClass_of_methodNamed B.named
  have hlocks := B.notSynchronized
  subst hsz
  have Z : zC p m c cX14_canBegin 1 s _ zG RX14 D k L := ⟨⟨hx, hb, hml, hown, hg⟩, hK, hLn, hE⟩
  have h : zH D k Γ L s F s.heap [] := ⟨hP, hI, va_S.rf⟩
  have hl := lv_entry ([.ref th]) (n := 1) (Nat.le_of_ble_eq_true rfl)
  rw [lg_entry_eq]
  generalize (lg_sl ([.ref th]) ++ List.replicate (1 - (lg_sl ([.ref th])).length) Slot.unset).toArray = ls at hl ⊢
  have hl : lv_has ls 1 [(0, .ref th)] := hl
  clear hP hK hLn hE hI
  generalize hargs : ([.ref th] : List Value).toArray = args at *
  refine z_start (fun R Q hRf hRl hQ => ?_)
  have hRf : R.frames = 7 := hRf
  have hRl : R.locals = 149 := hRl
  have h9 := h
  refine lv_aload_n hx hb dX14_canBegin_0 rfl (lv_at hl 0 rfl) ?_
  refine zt_geti (t := 14) (C := RX14) (T := TX14) (N := 40) Z h hth zin_14 rfl 14 rfl ⟨by decide, rfl⟩ (zm_RX14 (List.mem_of_getElem? (i := 24) rfl)) (fun _ h9 => h9) dX14_canBegin_1 (fun x_1 kx_1 bx_1 => ?_)
  refine lv_iconst (v := 3) hx hb dX14_canBegin_4 (by decide) ?_
  refine lv_icmp_eq (tgt := 31) hx hb dX14_canBegin_5 (by decide) (fun c_2 => ?_) (fun c_2 => ?_)
  · have c_2 := z_eq c_2
    have bx_1_3 : zB 3 3 x_1 := zB.eqL (a := 0) (b := 0) c_2 (zBc 3 3 (by decide))
    refine lv_iconst (v := 1) hx hb dX14_canBegin_31 (by decide) ?_
    refine lv_goto (tgt := 36) hx hb dX14_canBegin_32 (by decide) ?_
    subst hQ
    exact W.zret (v := 1) hx hb hr (by decide) (fun t ht hW => ⟨⟨1, F, rfl, ⟨rfl, (zB.of ⟨by decide, by decide⟩), (fun _ => ⟨x_1, kx_1, (bx_1_3.w ⟨by decide, by decide⟩), (by have := bx_1_3.1; have := bx_1_3.2; have : (1 : Int32).toInt = 1 := (by decide); have : (3 : Int32).toInt = 3 := (by decide); omega)⟩), trivial⟩, by rw [ht]; exact h.1, h.2.1, zFr.rf⟩, h.2.2.F ht⟩) h.2.2.2.2 dX14_canBegin_36
  · have c_2 := z_ne c_2
    refine lv_aload_n hx hb dX14_canBegin_8 rfl (lv_at hl 0 rfl) ?_
    refine zk_Vi (As := []) (rest := []) (bytes := cX14_isPlace) (maxL := 1) (ret := (some .boolean)) Z h (zc_X14_isPlace l D k Γ L F s.heap.size th tp hth ktp htp p_tk) (cwV 0 hg zv_RX14_225 rfl rfl rfl zd_X14_isPlace ⟨z_leR hRf (by decide), z_leR hRl (by decide)⟩) hth (by decide) rfl rfl hl.1 rfl (Nat.le_of_ble_eq_true rfl) dX14_canBegin_9 ⟨Nat.zero_le _, Nat.zero_le _⟩ (fun r_4 F_5 H locs w_6 h hfF_5 => ?_)
    obtain ⟨rfl, br_4, q_7, -⟩ := w_6
    refine lv_if_ne (tgt := 31) hx hb dX14_canBegin_12 (by decide) (fun c_8 => ?_) (fun c_8 => ?_)
    · obtain ⟨x_9, g_10, kx_9, hx_9, kg_10, lg_10, mg_10⟩ := q_7 c_8
      have bx_9 : zB 2 2 x_9 := ⟨by omega, by omega⟩
      have c_8 := z_ne c_8
      have br_4_11 : zB 1 1 r_4 := zB.neLo c_8 br_4 (zBc 0 0 (by decide)) (by decide)
      refine lv_iconst (v := 1) hx hb dX14_canBegin_31 (by decide) ?_
      refine lv_goto (tgt := 36) hx hb dX14_canBegin_32 (by decide) ?_
      subst hQ
      exact W.zret (v := 1) hx hb hr (by decide) (fun t ht hW => ⟨⟨1, F, rfl, ⟨rfl, (zB.of ⟨by decide, by decide⟩), (fun _ => ⟨x_9, kx_9, (bx_9.w ⟨by decide, by decide⟩), (by have := bx_9.1; have := bx_9.2; have : (0 : Int32).toInt = 0 := (by decide); have : (1 : Int32).toInt = 1 := (by decide); have : (3 : Int32).toInt = 3 := (by decide); omega)⟩), trivial⟩, by rw [ht]; exact h.1, h.2.1, zFr.rf⟩, h.2.2.F ht⟩) h.2.2.2.2 dX14_canBegin_36
    · have c_8 := z_eq c_8
      have br_4_12 : zB 0 0 r_4 := zB.eqL (a := 0) (b := 0) c_8 (zBc 0 0 (by decide))
      refine lv_aload_n hx hb dX14_canBegin_15 rfl (lv_at hl 0 rfl) ?_
      refine zk_Vi (As := []) (rest := []) (bytes := cX14_isName) (maxL := 1) (ret := (some .boolean)) Z h (zc_X14_isName l D k Γ L F H.size th hth) (cwV 0 hg zv_RX14_211 rfl rfl rfl zd_X14_isName ⟨z_leR hRf (by decide), z_leR hRl (by decide)⟩) hth (by decide) rfl rfl hl.1 rfl (Nat.le_of_ble_eq_true rfl) dX14_canBegin_16 ⟨Nat.zero_le _, Nat.zero_le _⟩ (fun r_13 F_14 H locs w_15 h hfF_14 => ?_)
      obtain ⟨rfl, br_13, q_16, -⟩ := w_15
      refine lv_if_ne (tgt := 31) hx hb dX14_canBegin_19 (by decide) (fun c_17 => ?_) (fun c_17 => ?_)
      · obtain ⟨x_18, kx_18, bx_18, q_19⟩ := q_16 c_17
        have c_17 := z_ne c_17
        have br_13_20 : zB 1 1 r_13 := zB.neLo c_17 br_13 (zBc 0 0 (by decide)) (by decide)
        refine lv_iconst (v := 1) hx hb dX14_canBegin_31 (by decide) ?_
        refine lv_goto (tgt := 36) hx hb dX14_canBegin_32 (by decide) ?_
        subst hQ
        exact W.zret (v := 1) hx hb hr (by decide) (fun t ht hW => ⟨⟨1, F, rfl, ⟨rfl, (zB.of ⟨by decide, by decide⟩), (fun _ => ⟨x_18, kx_18, bx_18, (by have := bx_18.1; have := bx_18.2; have : (0 : Int32).toInt = 0 := (by decide); have : (1 : Int32).toInt = 1 := (by decide); have : (3 : Int32).toInt = 3 := (by decide); omega)⟩), trivial⟩, by rw [ht]; exact h.1, h.2.1, zFr.rf⟩, h.2.2.F ht⟩) h.2.2.2.2 dX14_canBegin_36
      · have c_17 := z_eq c_17
        have br_13_21 : zB 0 0 r_13 := zB.eqL (a := 0) (b := 0) c_17 (zBc 0 0 (by decide))
        refine lv_aload_n hx hb dX14_canBegin_22 rfl (lv_at hl 0 rfl) ?_
        refine lv_bipush (v := 40) hx hb dX14_canBegin_23 (by decide) ?_
        refine zk_Vi (As := [.int 40]) (rest := []) (bytes := cX14_is) (maxL := 2) (ret := (some .boolean)) Z h (zc_X14_is l D k Γ L F H.size th 40 hth) (cwV 1 hg zv_RX14_141 rfl rfl rfl zd_X14_is ⟨z_leR hRf (by decide), z_leR hRl (by decide)⟩) hth (by decide) rfl rfl hl.1 rfl (Nat.le_of_ble_eq_true rfl) dX14_canBegin_25 ⟨Nat.zero_le _, Nat.zero_le _⟩ (fun r_22 F_23 H locs w_24 h hfF_23 => ?_)
        obtain ⟨rfl, br_22, q_25, -⟩ := w_24
        refine lv_if_eq (tgt := 35) hx hb dX14_canBegin_28 (by decide) (fun c_26 => ?_) (fun c_26 => ?_)
        · have c_26 := z_eq c_26
          have br_22_27 : zB 0 0 r_22 := zB.eqL (a := 0) (b := 0) c_26 (zBc 0 0 (by decide))
          refine lv_iconst (v := 0) hx hb dX14_canBegin_35 (by decide) ?_
          subst hQ
          exact W.zret (v := 0) hx hb hr (by decide) (fun t ht hW => ⟨⟨0, F, rfl, ⟨rfl, (zB.of ⟨by decide, by decide⟩), (fun h9 => absurd rfl h9), trivial⟩, by rw [ht]; exact h.1, h.2.1, zFr.rf⟩, h.2.2.F ht⟩) h.2.2.2.2 dX14_canBegin_36
        · obtain ⟨x_28, x_29, kx_28, bx_28, kx_29, bx_29, q_30⟩ := q_25 c_26
          have c_26 := z_ne c_26
          have br_22_31 : zB 1 1 r_22 := zB.neLo c_26 br_22 (zBc 0 0 (by decide)) (by decide)
          refine lv_iconst (v := 1) hx hb dX14_canBegin_31 (by decide) ?_
          refine lv_goto (tgt := 36) hx hb dX14_canBegin_32 (by decide) ?_
          subst hQ
          exact W.zret (v := 1) hx hb hr (by decide) (fun t ht hW => ⟨⟨1, F, rfl, ⟨rfl, (zB.of ⟨by decide, by decide⟩), (fun _ => ⟨x_28, kx_28, bx_28, (by have := bx_28.1; have := bx_28.2; have := bx_29.1; have := bx_29.2; have : (0 : Int32).toInt = 0 := (by decide); have : (1 : Int32).toInt = 1 := (by decide); have : (3 : Int32).toInt = 3 := (by decide); omega)⟩), trivial⟩, by rw [ht]; exact h.1, h.2.1, zFr.rf⟩, h.2.2.F ht⟩) h.2.2.2.2 dX14_canBegin_36

set_option maxHeartbeats 4000000 in
set_option maxRecDepth 100000 in
theorem zc_X14_stop (l : Launch) (D : va_G) (k : Nat → ClassId) (Γ : Nat → Option Nat) (L : List Nat) (F : Nat → va_E) (sz : Nat) (th : Nat) (ki : Int32) (pc_ : Int32) (st : Nat) (hth : Γ th = some 14) (kst : zfld F th 9 = .ref st) (hst : Γ st = some 13) : Met l yX14_stop zwX14_stop ({ frames := 0, cells := 0, slots := 0, locals := 0 }) (va_Pc [.ref th, .int ki, .int pc_] (zP D k Γ L F sz)) (va_Qr (fun (u : Nat → va_E) => True) (fun u a t => a = st ∧ zQ D k Γ L F [1306, 1307] u t) (zA L sz)) 0 0 (zA L sz) := by
  refine Met.ofW (cc := cX14_stop) (maxL := 3) (ret := (some (.object "LessonMakerModel$Stop"))) (by decide) rfl ?_
  intro p e s m args below meth c s₁ B hml hv
  obtain ⟨rfl, hsz, hP, hK, hLn, hE, hI⟩ := hv
  have hx := B.exec
  have hb := B.bytes
  have hr := B.returns
  have hg : ∀ w ∈ zG, w.before _ s = true := fun w h9 => atoms_spec (ws := zwX14_stop) B.pre w (List.mem_cons_of_mem _ h9)
  have hown : s.vm.findClass RX14 = some m.cls := findClass_of_methodNamed B.named
  have hlocks := B.notSynchronized
  subst hsz
  have Z : zC p m c cX14_stop 3 s _ zG RX14 D k L := ⟨⟨hx, hb, hml, hown, hg⟩, hK, hLn, hE⟩
  have h : zH D k Γ L s F s.heap [] := ⟨hP, hI, va_S.rf⟩
  have hl := lv_entry ([.ref th, .int ki, .int pc_]) (n := 3) (Nat.le_of_ble_eq_true rfl)
  rw [lg_entry_eq]
  generalize (lg_sl ([.ref th, .int ki, .int pc_]) ++ List.replicate (3 - (lg_sl ([.ref th, .int ki, .int pc_])).length) Slot.unset).toArray = ls at hl ⊢
  have hl : lv_has ls 3 [(0, .ref th), (1, .int ki), (2, .int pc_)] := hl
  clear hP hK hLn hE hI
  generalize hargs : ([.ref th, .int ki, .int pc_] : List Value).toArray = args at *
  refine z_start (fun R Q hRf hRl hQ => ?_)
  have hRf : R.frames = 0 := hRf
  have hRl : R.locals = 0 := hRl
  refine lv_aload_n hx hb dX14_stop_0 rfl (lv_at hl 0 rfl) ?_
  refine zt_getk (t := 14) (C := RX14) (T := TX14) (N := 40) Z h hth zin_14 rfl 9 kst ⟨by decide, rfl, by decide⟩ (zm_RX14 (List.mem_of_getElem? (i := 8) rfl)) (fun _ h9 => h9) dX14_stop_1 ?_
  refine lv_iload_n hx hb dX14_stop_4 rfl (lv_at hl 1 rfl) ?_
  refine zt_putN (t := 13) (C := RX13) (T := TX13) (N := 8) (v := .int ki) Z h hst zin_13 tyX13 tyX13_ok nmX13 rfl 6 rfl ⟨by decide, rfl⟩ (zn_0 Z) (fun _ h9 => h9) rfl (zV.i (zB.all ki)) rfl rfl dX14_stop_5 (fun H locs F_1 h hfF_1 kF_1 => ?_)
  refine lv_aload_n hx hb dX14_stop_8 rfl (lv_at hl 0 rfl) ?_
  refine zt_getk (t := 14) (C := RX14) (T := TX14) (N := 40) Z h hth zin_14 rfl 9 (hfF_1.f hth 9 ⟨by decide, by decide⟩ kst) ⟨by decide, rfl, by decide⟩ (zm_RX14 (List.mem_of_getElem? (i := 8) rfl)) (fun _ h9 => h9) dX14_stop_9 ?_
  refine lv_iload_n hx hb dX14_stop_12 rfl (lv_at hl 2 rfl) ?_
  refine zt_putN (t := 13) (C := RX13) (T := TX13) (N := 8) (v := .int pc_) Z h hst zin_13 tyX13 tyX13_ok nmX13 rfl 7 rfl ⟨by decide, rfl⟩ (zn_1 Z) (fun _ h9 => h9) rfl (zV.i (zB.all pc_)) rfl rfl dX14_stop_13 (fun H locs F_2 h hfF_2 kF_2 => ?_)
  refine lv_aload_n hx hb dX14_stop_16 rfl (lv_at hl 0 rfl) ?_
  refine zt_getk (t := 14) (C := RX14) (T := TX14) (N := 40) Z h hth zin_14 rfl 9 (hfF_2.f hth 9 ⟨by decide, by decide⟩ (hfF_1.f hth 9 ⟨by decide, by decide⟩ kst)) ⟨by decide, rfl, by decide⟩ (zm_RX14 (List.mem_of_getElem? (i := 8) rfl)) (fun _ h9 => h9) dX14_stop_17 ?_
  subst hQ
  exact W.aret (v := .ref st) hx hb hr (Or.inl ⟨_, rfl⟩) (Or.inr ⟨_, rfl⟩) (fun t ht hW => ⟨⟨F_2, st, rfl, trivial, rfl, by rw [ht]; exact h.1, h.2.1, ((hfF_1.w (by decide)).trans hfF_2 (by decide))⟩, h.2.2.F ht⟩) h.2.2.2.2 dX14_stop_20
