def z_wX1_clear : List Cond := .code yX1_clear cX1_clear 1 none :: ([.fieldLink RX1 21 "LessonMaker$Code" "size" "I"] ++ (u_ws RX1 TX1 4))
set_option maxHeartbeats 4000000 in
set_option maxRecDepth 100000 in
theorem c_X1_clear (l : Launch) (dC : Nat → ClassId) (dI : Nat → Nat → Nat) (h0 : Nat) (d1 : Nat) (d2 : Nat) (d3 : Nat) (sz : Nat) : Met l yX1_clear z_wX1_clear ({ frames := 0, cells := 0, slots := 0, locals := 0 }) (va_Pc [.ref h0] (z_in dC dI [(h0, .inr (1, [.ref d1, .ref d2, .ref d3, .int 0]))] [] sz)) (va_Qv (fun _ : Unit => True) (fun (_ : Unit) t => z_out dC dI (va_A [(h0, .inr (1, [.ref d1, .ref d2, .ref d3, .int 0]))] sz) [(h0, .inr (1, [.ref d1, .ref d2, .ref d3, .int 0]))] [] t) (va_A [(h0, .inr (1, [.ref d1, .ref d2, .ref d3, .int 0]))] sz)) 0 0 (va_A [(h0, .inr (1, [.ref d1, .ref d2, .ref d3, .int 0]))] sz) := by
  refine Met.ofW (cc := cX1_clear) (maxL := 1) (ret := none) (by decide) rfl ?_
  intro p e s m args below meth c s₁ B hml hv
  obtain ⟨rfl, hsz, hP, hK, hD0, hN⟩ := hv
  have hx := B.exec
  have hb := B.bytes
  have hr := B.returns
  have hts := atoms_spec (ws := z_wX1_clear) B.pre
  have hown : s.vm.findClass RX1 = some m.cls := findClass_of_methodNamed B.named
  have hlocks := B.notSynchronized
  have hin_1 : ∀ w ∈ u_ws RX1 TX1 4, w ∈ z_wX1_clear := by decide +kernel
  subst hsz
  have hD := hD0.self (sz := s.heap.size)
  generalize hAe : va_A [(h0, .inr (1, [.ref d1, .ref d2, .ref d3, .int 0]))] s.heap.size = A at hD ⊢
  have hA : ∀ q : Nat, s.heap.size ≤ q → A q := fun q h => by rw [← hAe]; exact Or.inr h
  have hS : va_S A s.heap s.heap [] := va_S.rf
  have hP : va_P (dC, dI) z_Cl [(h0, .inr (1, [.ref d1, .ref d2, .ref d3, .int 0]))] s.heap := hP
  have hl := lv_entry ([.ref h0]) (n := 1) (Nat.le_of_ble_eq_true rfl)
  rw [lg_entry_eq]
  generalize (lg_sl ([.ref h0]) ++ List.replicate (1 - (lg_sl ([.ref h0])).length) Slot.unset).toArray = ls at hl ⊢
  have hl : lv_has ls 1 [(0, .ref h0)] := hl
  refine lv_aload_n hx hb dX1_clear_0 rfl (lv_at hl 0 rfl) ?_
  refine lv_iconst (v := 0) hx hb dX1_clear_1 (by decide) ?_
  refine va_put (D := (dC, dI)) (ci := 1) (v := .int 0) (ty := .int) (C := RX1) (T := TX1) (N := 4) hx hb hts hin_1 tyX1 tyX1_ok nmX1 hown hK hP hD hS 0 rfl rfl 3 (by decide) (hts (.fieldLink RX1 21 "LessonMaker$Code" "size" "I") (List.mem_of_getElem? (i := 1) rfl)) (fun _ h9 => h9) rfl (by decide +kernel) rfl rfl (Nat.le_of_ble_eq_true rfl) dX1_clear_2 (fun H locs hP hD hS => ?_)
  have hP : va_P (dC, dI) z_Cl [(h0, .inr (1, [.ref d1, .ref d2, .ref d3, .int 0]))] H := hP
  have hD : va_D A [(h0, .inr (1, [.ref d1, .ref d2, .ref d3, .int 0]))] := hD
  have hP9 := hP.sub (ws' := [(h0, .inr (1, [.ref d1, .ref d2, .ref d3, .int 0]))]) [0] rfl
  have hD9 := hD.sub (ws' := [(h0, .inr (1, [.ref d1, .ref d2, .ref d3, .int 0]))]) [0] (by decide) rfl
  have hK9 := hK.sub (tys' := []) [] rfl
  refine W.widen (k := 0) (n := 0) (Nat.le_of_ble_eq_true rfl) (Nat.le_of_ble_eq_true rfl) ?_
  exact W.vret hx hb hr (fun t ht hW => ⟨⟨(), rfl, trivial, by rw [ht]; exact hP9, va_K.moved hW.alike hK9, hD9⟩, hS.F ht⟩) hS.2.2 dX1_clear_5

def z_wX6_clear : List Cond := .code yX6_clear cX6_clear 1 none :: ([.fieldLink RX6 39 "LessonMaker$Program" "functionCount" "I", .fieldLink RX6 43 "LessonMaker$Program" "lineCount" "I", .fieldLink RX6 21 "LessonMaker$Program" "code" "LLessonMaker$Code;", .fieldLink RX1 21 "LessonMaker$Code" "size" "I", .methodLink RX6 46 yX1_clear, .instanceMethod yX1_clear, .selects RX1 yX1_clear yX1_clear, .initialized RX1, .code yX1_clear cX1_clear 1 none] ++ (u_ws RX1 TX1 4 ++ u_ws RX6 TX6 6))
set_option maxRecDepth 20000 in
theorem c_X6_clear_zg_1 : GoodIn z_wX6_clear (wsV RX6 46 RX1 yX1_clear z_wX1_clear) := goodIn_r _ [5, 6, 7, 8, 9, 4, 10, 11, 12, 13] (by decide +kernel) (by decide +kernel)
set_option maxHeartbeats 4000000 in
set_option maxRecDepth 100000 in
theorem c_X6_clear (l : Launch) (dC : Nat → ClassId) (dI : Nat → Nat → Nat) (h0 : Nat) (tk : Nat) (cd : Nat) (s3 : Nat) (s4 : Nat) (d1 : Nat) (d2 : Nat) (d3 : Nat) (sz : Nat) : Met l yX6_clear z_wX6_clear ({ frames := 1, cells := 0, slots := 0, locals := 20 }) (va_Pc [.ref h0] (z_in dC dI [(h0, .inr (6, [.ref tk, .ref cd, .ref s3, .ref s4, .int 0, .int 0])), (cd, .inr (1, [.ref d1, .ref d2, .ref d3, .int 0]))] [] sz)) (va_Qv (fun _ : Unit => True) (fun (_ : Unit) t => z_out dC dI (va_A [(h0, .inr (6, [.ref tk, .ref cd, .ref s3, .ref s4, .int 0, .int 0])), (cd, .inr (1, [.ref d1, .ref d2, .ref d3, .int 0]))] sz) [(h0, .inr (6, [.ref tk, .ref cd, .ref s3, .ref s4, .int 0, .int 0])), (cd, .inr (1, [.ref d1, .ref d2, .ref d3, .int 0]))] [] t) (va_A [(h0, .inr (6, [.ref tk, .ref cd, .ref s3, .ref s4, .int 0, .int 0])), (cd, .inr (1, [.ref d1, .ref d2, .ref d3, .int 0]))] sz)) 0 0 (va_A [(h0, .inr (6, [.ref tk, .ref cd, .ref s3, .ref s4, .int 0, .int 0])), (cd, .inr (1, [.ref d1, .ref d2, .ref d3, .int 0]))] sz) := by
  refine Met.ofW (cc := cX6_clear) (maxL := 1) (ret := none) (by decide) rfl ?_
  intro p e s m args below meth c s₁ B hml hv
  obtain ⟨rfl, hsz, hP, hK, hD0, hN⟩ := hv
  have hx := B.exec
  have hb := B.bytes
  have hr := B.returns
  have hts := atoms_spec (ws := z_wX6_clear) B.pre
  have hown : s.vm.findClass RX6 = some m.cls := findClass_of_methodNamed B.named
  have hlocks := B.notSynchronized
  have hin_6 : ∀ w ∈ u_ws RX6 TX6 6, w ∈ z_wX6_clear := by decide +kernel
  subst hsz
  have hD := hD0.self (sz := s.heap.size)
  generalize hAe : va_A [(h0, .inr (6, [.ref tk, .ref cd, .ref s3, .ref s4, .int 0, .int 0])), (cd, .inr (1, [.ref d1, .ref d2, .ref d3, .int 0]))] s.heap.size = A at hD ⊢
  have hA : ∀ q : Nat, s.heap.size ≤ q → A q := fun q h => by rw [← hAe]; exact Or.inr h
  have hS : va_S A s.heap s.heap [] := va_S.rf
  have hP : va_P (dC, dI) z_Cl [(h0, .inr (6, [.ref tk, .ref cd, .ref s3, .ref s4, .int 0, .int 0])), (cd, .inr (1, [.ref d1, .ref d2, .ref d3, .int 0]))] s.heap := hP
  have hl := lv_entry ([.ref h0]) (n := 1) (Nat.le_of_ble_eq_true rfl)
  rw [lg_entry_eq]
  generalize (lg_sl ([.ref h0]) ++ List.replicate (1 - (lg_sl ([.ref h0])).length) Slot.unset).toArray = ls at hl ⊢
  have hl : lv_has ls 1 [(0, .ref h0)] := hl
  refine lv_aload_n hx hb dX6_clear_0 rfl (lv_at hl 0 rfl) ?_
  refine lv_iconst (v := 0) hx hb dX6_clear_1 (by decide) ?_
  refine va_put (D := (dC, dI)) (ci := 6) (v := .int 0) (ty := .int) (C := RX6) (T := TX6) (N := 6) hx hb hts hin_6 tyX6 tyX6_ok nmX6 hown hK hP hD hS 0 rfl rfl 4 (by decide) (hts (.fieldLink RX6 39 "LessonMaker$Program" "functionCount" "I") (List.mem_of_getElem? (i := 1) rfl)) (fun _ h9 => h9) rfl (by decide +kernel) rfl rfl (Nat.le_of_ble_eq_true rfl) dX6_clear_2 (fun H locs hP hD hS => ?_)
  have hP : va_P (dC, dI) z_Cl [(h0, .inr (6, [.ref tk, .ref cd, .ref s3, .ref s4, .int 0, .int 0])), (cd, .inr (1, [.ref d1, .ref d2, .ref d3, .int 0]))] H := hP
  have hD : va_D A [(h0, .inr (6, [.ref tk, .ref cd, .ref s3, .ref s4, .int 0, .int 0])), (cd, .inr (1, [.ref d1, .ref d2, .ref d3, .int 0]))] := hD
  refine lv_aload_n hx hb dX6_clear_5 rfl (lv_at hl 0 rfl) ?_
  refine lv_iconst (v := 0) hx hb dX6_clear_6 (by decide) ?_
  refine va_put (D := (dC, dI)) (ci := 6) (v := .int 0) (ty := .int) (C := RX6) (T := TX6) (N := 6) hx hb hts hin_6 tyX6 tyX6_ok nmX6 hown hK hP hD hS 0 rfl rfl 5 (by decide) (hts (.fieldLink RX6 43 "LessonMaker$Program" "lineCount" "I") (List.mem_of_getElem? (i := 2) rfl)) (fun _ h9 => h9) rfl (by decide +kernel) rfl rfl (Nat.le_of_ble_eq_true rfl) dX6_clear_7 (fun H locs hP hD hS => ?_)
  have hP : va_P (dC, dI) z_Cl [(h0, .inr (6, [.ref tk, .ref cd, .ref s3, .ref s4, .int 0, .int 0])), (cd, .inr (1, [.ref d1, .ref d2, .ref d3, .int 0]))] H := hP
  have hD : va_D A [(h0, .inr (6, [.ref tk, .ref cd, .ref s3, .ref s4, .int 0, .int 0])), (cd, .inr (1, [.ref d1, .ref d2, .ref d3, .int 0]))] := hD
  refine lv_aload_n hx hb dX6_clear_10 rfl (lv_at hl 0 rfl) ?_
  refine va_get (D := (dC, dI)) (ci := 6) (v := .ref cd) (C := RX6) (T := TX6) (N := 6) hx hb hts hin_6 hown hK hP 0 rfl rfl 1 (by decide) (hts (.fieldLink RX6 21 "LessonMaker$Program" "code" "LLessonMaker$Code;") (List.mem_of_getElem? (i := 3) rfl)) (fun _ h9 => h9) rfl dX6_clear_11 ?_
  have hPc := hP.sub (ws' := [(cd, .inr (1, [.ref d1, .ref d2, .ref d3, .int 0]))]) [1] rfl
  have hDc := hD.sub (ws' := [(cd, .inr (1, [.ref d1, .ref d2, .ref d3, .int 0]))]) [1] (by decide) rfl
  have hKc := hK.sub (tys' := []) [] rfl
  have hFc := va_free (wc := [(cd, .inr (1, [.ref d1, .ref d2, .ref d3, .int 0]))]) hD hS hA [1] rfl
  refine va_callv (va_runV (As := []) (rest := []) ⟨hx, hb, hml, hown, hts⟩ (c_X1_clear l dC dI cd d1 d2 d3 H.size) (cwV 0 hts c_X6_clear_zg_1 rfl rfl rfl (by decide +kernel) ⟨(Nat.le_of_ble_eq_true rfl), (Nat.le_of_ble_eq_true rfl)⟩) ⟨z_blind, va_recv hKc hPc (ci := 1) (q0 := 0) rfl rfl, z_pre hPc hKc hDc hN⟩ rfl rfl hl.1 rfl (lv_room (Nat.le_of_ble_eq_true rfl)) dX6_clear_14 ⟨(Nat.le_of_ble_eq_true rfl), (Nat.le_of_ble_eq_true rfl)⟩) hS (fun q _ h => hFc q h) hFc (fun u t H1 locs ht hvm hw hB hz1 hk1 hS => ?_)
  obtain ⟨hP1, hK1, hD1⟩ := hB
  rw [ht] at hP1
  have hK1 := va_K.moved hvm.symm hK1
  obtain ⟨hP, hD⟩ := va_join (wr := [(h0, .inr (6, [.ref tk, .ref cd, .ref s3, .ref s4, .int 0, .int 0]))]) (w1 := [(cd, .inr (1, [.ref d1, .ref d2, .ref d3, .int 0]))]) hP hD [1] [0] rfl rfl (by decide) (by decide) hk1 hFc hP1 hD1
  have hK := (hK.sub (tys' := []) [] rfl).app hK1
  generalize H1 = H at hP hS ⊢
  have hP : va_P (dC, dI) z_Cl [(h0, .inr (6, [.ref tk, .ref cd, .ref s3, .ref s4, .int 0, .int 0])), (cd, .inr (1, [.ref d1, .ref d2, .ref d3, .int 0]))] H := hP
  have hD : va_D A [(h0, .inr (6, [.ref tk, .ref cd, .ref s3, .ref s4, .int 0, .int 0])), (cd, .inr (1, [.ref d1, .ref d2, .ref d3, .int 0]))] := hD
  have hK : va_K (dC, dI) z_Cl [] s := hK
  have hP9 := hP.sub (ws' := [(h0, .inr (6, [.ref tk, .ref cd, .ref s3, .ref s4, .int 0, .int 0])), (cd, .inr (1, [.ref d1, .ref d2, .ref d3, .int 0]))]) [0, 1] rfl
  have hD9 := hD.sub (ws' := [(h0, .inr (6, [.ref tk, .ref cd, .ref s3, .ref s4, .int 0, .int 0])), (cd, .inr (1, [.ref d1, .ref d2, .ref d3, .int 0]))]) [0, 1] (by decide) rfl
  have hK9 := hK.sub (tys' := []) [] rfl
  refine W.widen (k := 0) (n := 0) (Nat.le_of_ble_eq_true rfl) (Nat.le_of_ble_eq_true rfl) ?_
  exact W.vret hx hb hr (fun t ht hW => ⟨⟨(), rfl, trivial, by rw [ht]; exact hP9, va_K.moved hW.alike hK9, hD9⟩, hS.F ht⟩) hS.2.2 dX6_clear_17

def z_wX8_add : List Cond := .code yX8_add cX8_add 4 none :: ([.fieldLink RX8 44 "LessonMaker$Tokens" "size" "I", .fieldLink RX8 15 "LessonMaker$Tokens" "kinds" "[I", .fieldLink RX8 19 "LessonMaker$Tokens" "places" "[I", .fieldLink RX8 22 "LessonMaker$Tokens" "widths" "[I"] ++ (u_ws RX8 TX8 6))
set_option maxHeartbeats 4000000 in
set_option maxRecDepth 100000 in
theorem c_X8_add (l : Launch) (dC : Nat → ClassId) (dI : Nat → Nat → Nat) (h0 : Nat) (tx : Nat) (kd : Nat) (pl : Nat) (wd : Nat) (k2 : ClassId) (f2 : Nat → Int32) (k3 : ClassId) (f3 : Nat → Int32) (k4 : ClassId) (f4 : Nat → Int32) (sz : Nat) : Met l yX8_add z_wX8_add ({ frames := 0, cells := 0, slots := 0, locals := 0 }) (va_Pc [.ref h0, .int 0, .int 0, .int 0] (z_in dC dI [(h0, .inr (8, [.ref tx, .int 0, .ref kd, .ref pl, .ref wd, .int 0])), (kd, .inl (k2, 601, .inl f2)), (pl, .inl (k3, 601, .inl f3)), (wd, .inl (k4, 601, .inl f4))] [(k2, .int), (k3, .int), (k4, .int)] sz)) (va_Qv (fun _ : Unit => True) (fun (_ : Unit) t => z_out dC dI (va_A [(h0, .inr (8, [.ref tx, .int 0, .ref kd, .ref pl, .ref wd, .int 0])), (kd, .inl (k2, 601, .inl f2)), (pl, .inl (k3, 601, .inl f3)), (wd, .inl (k4, 601, .inl f4))] sz) [(h0, .inr (8, [.ref tx, .int 0, .ref kd, .ref pl, .ref wd, .int 1])), (kd, .inl (k2, 601, .inl (upd f2 (Int32.toNatClampNeg 0) 0))), (pl, .inl (k3, 601, .inl (upd f3 (Int32.toNatClampNeg 0) 0))), (wd, .inl (k4, 601, .inl (upd f4 (Int32.toNatClampNeg 0) 0)))] [(k2, .int), (k3, .int), (k4, .int)] t) (va_A [(h0, .inr (8, [.ref tx, .int 0, .ref kd, .ref pl, .ref wd, .int 0])), (kd, .inl (k2, 601, .inl f2)), (pl, .inl (k3, 601, .inl f3)), (wd, .inl (k4, 601, .inl f4))] sz)) 0 0 (va_A [(h0, .inr (8, [.ref tx, .int 0, .ref kd, .ref pl, .ref wd, .int 0])), (kd, .inl (k2, 601, .inl f2)), (pl, .inl (k3, 601, .inl f3)), (wd, .inl (k4, 601, .inl f4))] sz) := by
  refine Met.ofW (cc := cX8_add) (maxL := 4) (ret := none) (by decide) rfl ?_
  intro p e s m args below meth c s₁ B hml hv
  obtain ⟨rfl, hsz, hP, hK, hD0, hN⟩ := hv
  have hx := B.exec
  have hb := B.bytes
  have hr := B.returns
  have hts := atoms_spec (ws := z_wX8_add) B.pre
  have hown : s.vm.findClass RX8 = some m.cls := findClass_of_methodNamed B.named
  have hlocks := B.notSynchronized
  have hin_8 : ∀ w ∈ u_ws RX8 TX8 6, w ∈ z_wX8_add := by decide +kernel
  subst hsz
  have hD := hD0.self (sz := s.heap.size)
  generalize hAe : va_A [(h0, .inr (8, [.ref tx, .int 0, .ref kd, .ref pl, .ref wd, .int 0])), (kd, .inl (k2, 601, .inl f2)), (pl, .inl (k3, 601, .inl f3)), (wd, .inl (k4, 601, .inl f4))] s.heap.size = A at hD ⊢
  have hA : ∀ q : Nat, s.heap.size ≤ q → A q := fun q h => by rw [← hAe]; exact Or.inr h
  have hS : va_S A s.heap s.heap [] := va_S.rf
  have hP : va_P (dC, dI) z_Cl [(h0, .inr (8, [.ref tx, .int 0, .ref kd, .ref pl, .ref wd, .int 0])), (kd, .inl (k2, 601, .inl f2)), (pl, .inl (k3, 601, .inl f3)), (wd, .inl (k4, 601, .inl f4))] s.heap := hP
  have hl := lv_entry ([.ref h0, .int 0, .int 0, .int 0]) (n := 4) (Nat.le_of_ble_eq_true rfl)
  rw [lg_entry_eq]
  generalize (lg_sl ([.ref h0, .int 0, .int 0, .int 0]) ++ List.replicate (4 - (lg_sl ([.ref h0, .int 0, .int 0, .int 0])).length) Slot.unset).toArray = ls at hl ⊢
  have hl : lv_has ls 4 [(0, .ref h0), (1, .int 0), (2, .int 0), (3, .int 0)] := hl
  refine lv_aload_n hx hb dX8_add_0 rfl (lv_at hl 0 rfl) ?_
  refine va_get (D := (dC, dI)) (ci := 8) (v := .int 0) (C := RX8) (T := TX8) (N := 6) hx hb hts hin_8 hown hK hP 0 rfl rfl 5 (by decide) (hts (.fieldLink RX8 44 "LessonMaker$Tokens" "size" "I") (List.mem_of_getElem? (i := 1) rfl)) (fun _ h9 => h9) rfl dX8_add_1 ?_
  refine lv_aload_n hx hb dX8_add_4 rfl (lv_at hl 0 rfl) ?_
  refine va_get (D := (dC, dI)) (ci := 8) (v := .ref kd) (C := RX8) (T := TX8) (N := 6) hx hb hts hin_8 hown hK hP 0 rfl rfl 2 (by decide) (hts (.fieldLink RX8 15 "LessonMaker$Tokens" "kinds" "[I") (List.mem_of_getElem? (i := 2) rfl)) (fun _ h9 => h9) rfl dX8_add_5 ?_
  refine va_alen hx hb hK hP 1 0 rfl rfl (v := 601) rfl dX8_add_8 ?_
  refine lv_icmp_ge (tgt := 52) hx hb dX8_add_9 (by decide) (fun h9 => absurd h9 (by decide)) (fun _ => ?_)
  refine lv_aload_n hx hb dX8_add_12 rfl (lv_at hl 0 rfl) ?_
  refine va_get (D := (dC, dI)) (ci := 8) (v := .ref kd) (C := RX8) (T := TX8) (N := 6) hx hb hts hin_8 hown hK hP 0 rfl rfl 2 (by decide) (hts (.fieldLink RX8 15 "LessonMaker$Tokens" "kinds" "[I") (List.mem_of_getElem? (i := 2) rfl)) (fun _ h9 => h9) rfl dX8_add_13 ?_
  refine lv_aload_n hx hb dX8_add_16 rfl (lv_at hl 0 rfl) ?_
  refine va_get (D := (dC, dI)) (ci := 8) (v := .int 0) (C := RX8) (T := TX8) (N := 6) hx hb hts hin_8 hown hK hP 0 rfl rfl 5 (by decide) (hts (.fieldLink RX8 44 "LessonMaker$Tokens" "size" "I") (List.mem_of_getElem? (i := 1) rfl)) (fun _ h9 => h9) rfl dX8_add_17 ?_
  refine lv_iload_n hx hb dX8_add_20 rfl (lv_at hl 1 rfl) ?_
  refine va_iast hx hb hK hP hD hS 1 0 rfl rfl (i := 0) (z_io (by decide)) dX8_add_21 (fun H locs hP hD hS => ?_)
  have hP : va_P (dC, dI) z_Cl [(h0, .inr (8, [.ref tx, .int 0, .ref kd, .ref pl, .ref wd, .int 0])), (kd, .inl (k2, 601, .inl (upd f2 (Int32.toNatClampNeg 0) 0))), (pl, .inl (k3, 601, .inl f3)), (wd, .inl (k4, 601, .inl f4))] H := hP
  have hD : va_D A [(h0, .inr (8, [.ref tx, .int 0, .ref kd, .ref pl, .ref wd, .int 0])), (kd, .inl (k2, 601, .inl (upd f2 (Int32.toNatClampNeg 0) 0))), (pl, .inl (k3, 601, .inl f3)), (wd, .inl (k4, 601, .inl f4))] := hD
  refine lv_aload_n hx hb dX8_add_22 rfl (lv_at hl 0 rfl) ?_
  refine va_get (D := (dC, dI)) (ci := 8) (v := .ref pl) (C := RX8) (T := TX8) (N := 6) hx hb hts hin_8 hown hK hP 0 rfl rfl 3 (by decide) (hts (.fieldLink RX8 19 "LessonMaker$Tokens" "places" "[I") (List.mem_of_getElem? (i := 3) rfl)) (fun _ h9 => h9) rfl dX8_add_23 ?_
  refine lv_aload_n hx hb dX8_add_26 rfl (lv_at hl 0 rfl) ?_
  refine va_get (D := (dC, dI)) (ci := 8) (v := .int 0) (C := RX8) (T := TX8) (N := 6) hx hb hts hin_8 hown hK hP 0 rfl rfl 5 (by decide) (hts (.fieldLink RX8 44 "LessonMaker$Tokens" "size" "I") (List.mem_of_getElem? (i := 1) rfl)) (fun _ h9 => h9) rfl dX8_add_27 ?_
  refine lv_iload_n hx hb dX8_add_30 rfl (lv_at hl 2 rfl) ?_
  refine va_iast hx hb hK hP hD hS 2 1 rfl rfl (i := 0) (z_io (by decide)) dX8_add_31 (fun H locs hP hD hS => ?_)
  have hP : va_P (dC, dI) z_Cl [(h0, .inr (8, [.ref tx, .int 0, .ref kd, .ref pl, .ref wd, .int 0])), (kd, .inl (k2, 601, .inl (upd f2 (Int32.toNatClampNeg 0) 0))), (pl, .inl (k3, 601, .inl (upd f3 (Int32.toNatClampNeg 0) 0))), (wd, .inl (k4, 601, .inl f4))] H := hP
  have hD : va_D A [(h0, .inr (8, [.ref tx, .int 0, .ref kd, .ref pl, .ref wd, .int 0])), (kd, .inl (k2, 601, .inl (upd f2 (Int32.toNatClampNeg 0) 0))), (pl, .inl (k3, 601, .inl (upd f3 (Int32.toNatClampNeg 0) 0))), (wd, .inl (k4, 601, .inl f4))] := hD
  refine lv_aload_n hx hb dX8_add_32 rfl (lv_at hl 0 rfl) ?_
  refine va_get (D := (dC, dI)) (ci := 8) (v := .ref wd) (C := RX8) (T := TX8) (N := 6) hx hb hts hin_8 hown hK hP 0 rfl rfl 4 (by decide) (hts (.fieldLink RX8 22 "LessonMaker$Tokens" "widths" "[I") (List.mem_of_getElem? (i := 4) rfl)) (fun _ h9 => h9) rfl dX8_add_33 ?_
  refine lv_aload_n hx hb dX8_add_36 rfl (lv_at hl 0 rfl) ?_
  refine va_get (D := (dC, dI)) (ci := 8) (v := .int 0) (C := RX8) (T := TX8) (N := 6) hx hb hts hin_8 hown hK hP 0 rfl rfl 5 (by decide) (hts (.fieldLink RX8 44 "LessonMaker$Tokens" "size" "I") (List.mem_of_getElem? (i := 1) rfl)) (fun _ h9 => h9) rfl dX8_add_37 ?_
  refine lv_iload_n hx hb dX8_add_40 rfl (lv_at hl 3 rfl) ?_
  refine va_iast hx hb hK hP hD hS 3 2 rfl rfl (i := 0) (z_io (by decide)) dX8_add_41 (fun H locs hP hD hS => ?_)
  have hP : va_P (dC, dI) z_Cl [(h0, .inr (8, [.ref tx, .int 0, .ref kd, .ref pl, .ref wd, .int 0])), (kd, .inl (k2, 601, .inl (upd f2 (Int32.toNatClampNeg 0) 0))), (pl, .inl (k3, 601, .inl (upd f3 (Int32.toNatClampNeg 0) 0))), (wd, .inl (k4, 601, .inl (upd f4 (Int32.toNatClampNeg 0) 0)))] H := hP
  have hD : va_D A [(h0, .inr (8, [.ref tx, .int 0, .ref kd, .ref pl, .ref wd, .int 0])), (kd, .inl (k2, 601, .inl (upd f2 (Int32.toNatClampNeg 0) 0))), (pl, .inl (k3, 601, .inl (upd f3 (Int32.toNatClampNeg 0) 0))), (wd, .inl (k4, 601, .inl (upd f4 (Int32.toNatClampNeg 0) 0)))] := hD
  refine lv_aload_n hx hb dX8_add_42 rfl (lv_at hl 0 rfl) ?_
  refine lv_dup hx hb dX8_add_43 rfl ?_
  refine va_get (D := (dC, dI)) (ci := 8) (v := .int 0) (C := RX8) (T := TX8) (N := 6) hx hb hts hin_8 hown hK hP 0 rfl rfl 5 (by decide) (hts (.fieldLink RX8 44 "LessonMaker$Tokens" "size" "I") (List.mem_of_getElem? (i := 1) rfl)) (fun _ h9 => h9) rfl dX8_add_44 ?_
  refine lv_iconst (v := 1) hx hb dX8_add_47 (by decide) ?_
  refine lv_iadd hx hb dX8_add_48 ?_
  refine lv_topi (fun x_4 ex_4 => ?_)
  have ex_4 := ex_4.trans (show _ = (1 : Int32) by decide)
  subst ex_4
  refine va_put (D := (dC, dI)) (ci := 8) (v := .int 1) (ty := .int) (C := RX8) (T := TX8) (N := 6) hx hb hts hin_8 tyX8 tyX8_ok nmX8 hown hK hP hD hS 0 rfl rfl 5 (by decide) (hts (.fieldLink RX8 44 "LessonMaker$Tokens" "size" "I") (List.mem_of_getElem? (i := 1) rfl)) (fun _ h9 => h9) rfl (by decide +kernel) rfl rfl (Nat.le_of_ble_eq_true rfl) dX8_add_49 (fun H locs hP hD hS => ?_)
  have hP : va_P (dC, dI) z_Cl [(h0, .inr (8, [.ref tx, .int 0, .ref kd, .ref pl, .ref wd, .int 1])), (kd, .inl (k2, 601, .inl (upd f2 (Int32.toNatClampNeg 0) 0))), (pl, .inl (k3, 601, .inl (upd f3 (Int32.toNatClampNeg 0) 0))), (wd, .inl (k4, 601, .inl (upd f4 (Int32.toNatClampNeg 0) 0)))] H := hP
  have hD : va_D A [(h0, .inr (8, [.ref tx, .int 0, .ref kd, .ref pl, .ref wd, .int 1])), (kd, .inl (k2, 601, .inl (upd f2 (Int32.toNatClampNeg 0) 0))), (pl, .inl (k3, 601, .inl (upd f3 (Int32.toNatClampNeg 0) 0))), (wd, .inl (k4, 601, .inl (upd f4 (Int32.toNatClampNeg 0) 0)))] := hD
  have hP9 := hP.sub (ws' := [(h0, .inr (8, [.ref tx, .int 0, .ref kd, .ref pl, .ref wd, .int 1])), (kd, .inl (k2, 601, .inl (upd f2 (Int32.toNatClampNeg 0) 0))), (pl, .inl (k3, 601, .inl (upd f3 (Int32.toNatClampNeg 0) 0))), (wd, .inl (k4, 601, .inl (upd f4 (Int32.toNatClampNeg 0) 0)))]) [0, 1, 2, 3] rfl
  have hD9 := hD.sub (ws' := [(h0, .inr (8, [.ref tx, .int 0, .ref kd, .ref pl, .ref wd, .int 1])), (kd, .inl (k2, 601, .inl (upd f2 (Int32.toNatClampNeg 0) 0))), (pl, .inl (k3, 601, .inl (upd f3 (Int32.toNatClampNeg 0) 0))), (wd, .inl (k4, 601, .inl (upd f4 (Int32.toNatClampNeg 0) 0)))]) [0, 1, 2, 3] (by decide) rfl
  have hK9 := hK.sub (tys' := [(k2, .int), (k3, .int), (k4, .int)]) [0, 1, 2] rfl
  refine W.widen (k := 0) (n := 0) (Nat.le_of_ble_eq_true rfl) (Nat.le_of_ble_eq_true rfl) ?_
  exact W.vret hx hb hr (fun t ht hW => ⟨⟨(), rfl, trivial, by rw [ht]; exact hP9, va_K.moved hW.alike hK9, hD9⟩, hS.F ht⟩) hS.2.2 dX8_add_52

def z_wX8_cut : List Cond := .code yX8_cut cX8_cut 5 none :: ([.fieldLink RX8 9 "LessonMaker$Tokens" "text" "[B", .methodLink RX8 25 Lib.Math.min.name, .static Lib.Math.min.name, .initialized "java/lang/Math", .code Lib.Math.min.name Lib.Math.min.code 2 (some .int), .methodLink RX8 31 Lib.Math.max.name, .static Lib.Math.max.name, .code Lib.Math.max.name Lib.Math.max.code 2 (some .int), .fieldLink RX8 34 "LessonMaker$Tokens" "length" "I", .methodLink RX8 38 arraycopyName, .native arraycopyName, .static arraycopyName, .initialized "java/lang/System", .fieldLink RX8 44 "LessonMaker$Tokens" "size" "I", .fieldLink RX8 15 "LessonMaker$Tokens" "kinds" "[I", .fieldLink RX8 19 "LessonMaker$Tokens" "places" "[I", .fieldLink RX8 22 "LessonMaker$Tokens" "widths" "[I", .methodLink RX8 51 yX8_add, .instanceMethod yX8_add, .selects RX8 yX8_add yX8_add, .initialized RX8, .code yX8_add cX8_add 4 none] ++ (u_ws RX8 TX8 6))
set_option maxRecDepth 20000 in
theorem c_X8_cut_zg_5 : GoodIn z_wX8_cut (wsV RX8 51 RX8 yX8_add z_wX8_add) := goodIn_r _ [18, 19, 20, 21, 22, 14, 15, 16, 17, 23, 24, 25, 26, 27, 28] (by decide +kernel) (by decide +kernel)
set_option maxHeartbeats 4000000 in
set_option maxRecDepth 100000 in
theorem c_X8_cut (l : Launch) (dC : Nat → ClassId) (dI : Nat → Nat → Nat) (h0 : Nat) (tx : Nat) (kd : Nat) (pl : Nat) (wd : Nat) (k1 : ClassId) (f1 : Nat → Int32) (k2 : ClassId) (f2 : Nat → Int32) (k3 : ClassId) (f3 : Nat → Int32) (k4 : ClassId) (f4 : Nat → Int32) (tp : Nat) (kt : ClassId) (ft : Nat → Int32) (sz : Nat) : Met l yX8_cut z_wX8_cut ({ frames := 1, cells := 0, slots := 0, locals := 60 }) (va_Pc [.ref h0, .ref tp, .int 0] (z_in dC dI [(h0, .inr (8, [.ref tx, .int 0, .ref kd, .ref pl, .ref wd, .int 0])), (tx, .inl (k1, 600, .inl f1)), (kd, .inl (k2, 601, .inl f2)), (pl, .inl (k3, 601, .inl f3)), (wd, .inl (k4, 601, .inl f4)), (tp, .inl (kt, 600, .inl ft))] [(k1, .byte), (k2, .int), (k3, .int), (k4, .int), (kt, .byte)] sz)) (va_Qv (fun _ : Unit => True) (fun (_ : Unit) t => z_out dC dI (va_A [(h0, .inr (8, [.ref tx, .int 0, .ref kd, .ref pl, .ref wd, .int 0])), (tx, .inl (k1, 600, .inl f1)), (kd, .inl (k2, 601, .inl f2)), (pl, .inl (k3, 601, .inl f3)), (wd, .inl (k4, 601, .inl f4)), (tp, .inl (kt, 600, .inl ft))] sz) [(h0, .inr (8, [.ref tx, .int 0, .ref kd, .ref pl, .ref wd, .int 1])), (kd, .inl (k2, 601, .inl (upd f2 (Int32.toNatClampNeg 0) 0))), (pl, .inl (k3, 601, .inl (upd f3 (Int32.toNatClampNeg 0) 0))), (wd, .inl (k4, 601, .inl (upd f4 (Int32.toNatClampNeg 0) 0)))] [(k2, .int), (k3, .int), (k4, .int)] t) (va_A [(h0, .inr (8, [.ref tx, .int 0, .ref kd, .ref pl, .ref wd, .int 0])), (tx, .inl (k1, 600, .inl f1)), (kd, .inl (k2, 601, .inl f2)), (pl, .inl (k3, 601, .inl f3)), (wd, .inl (k4, 601, .inl f4)), (tp, .inl (kt, 600, .inl ft))] sz)) 0 0 (va_A [(h0, .inr (8, [.ref tx, .int 0, .ref kd, .ref pl, .ref wd, .int 0])), (tx, .inl (k1, 600, .inl f1)), (kd, .inl (k2, 601, .inl f2)), (pl, .inl (k3, 601, .inl f3)), (wd, .inl (k4, 601, .inl f4)), (tp, .inl (kt, 600, .inl ft))] sz) := by
  refine Met.ofW (cc := cX8_cut) (maxL := 5) (ret := none) (by decide) rfl ?_
  intro p e s m args below meth c s₁ B hml hv
  obtain ⟨rfl, hsz, hP, hK, hD0, hN⟩ := hv
  have hx := B.exec
  have hb := B.bytes
  have hr := B.returns
  have hts := atoms_spec (ws := z_wX8_cut) B.pre
  have hown : s.vm.findClass RX8 = some m.cls := findClass_of_methodNamed B.named
  have hlocks := B.notSynchronized
  have hin_8 : ∀ w ∈ u_ws RX8 TX8 6, w ∈ z_wX8_cut := by decide +kernel
  subst hsz
  have hD := hD0.self (sz := s.heap.size)
  generalize hAe : va_A [(h0, .inr (8, [.ref tx, .int 0, .ref kd, .ref pl, .ref wd, .int 0])), (tx, .inl (k1, 600, .inl f1)), (kd, .inl (k2, 601, .inl f2)), (pl, .inl (k3, 601, .inl f3)), (wd, .inl (k4, 601, .inl f4)), (tp, .inl (kt, 600, .inl ft))] s.heap.size = A at hD ⊢
  have hA : ∀ q : Nat, s.heap.size ≤ q → A q := fun q h => by rw [← hAe]; exact Or.inr h
  have hS : va_S A s.heap s.heap [] := va_S.rf
  have hP : va_P (dC, dI) z_Cl [(h0, .inr (8, [.ref tx, .int 0, .ref kd, .ref pl, .ref wd, .int 0])), (tx, .inl (k1, 600, .inl f1)), (kd, .inl (k2, 601, .inl f2)), (pl, .inl (k3, 601, .inl f3)), (wd, .inl (k4, 601, .inl f4)), (tp, .inl (kt, 600, .inl ft))] s.heap := hP
  have hl := lv_entry ([.ref h0, .ref tp, .int 0]) (n := 5) (Nat.le_of_ble_eq_true rfl)
  rw [lg_entry_eq]
  generalize (lg_sl ([.ref h0, .ref tp, .int 0]) ++ List.replicate (5 - (lg_sl ([.ref h0, .ref tp, .int 0])).length) Slot.unset).toArray = ls at hl ⊢
  have hl : lv_has ls 5 [(0, .ref h0), (1, .ref tp), (2, .int 0)] := hl
  refine lv_aload_n hx hb dX8_cut_0 rfl (lv_at hl 0 rfl) ?_
  refine lv_iconst (v := 0) hx hb dX8_cut_1 (by decide) ?_
  refine lv_iload_n hx hb dX8_cut_2 rfl (lv_at hl 2 rfl) ?_
  refine lv_aload_n hx hb dX8_cut_3 rfl (lv_at hl 1 rfl) ?_
  refine va_alen hx hb hK hP 5 4 rfl rfl (v := 600) rfl dX8_cut_4 ?_
  refine lv_aload_n hx hb dX8_cut_5 rfl (lv_at hl 0 rfl) ?_
  refine va_get (D := (dC, dI)) (ci := 8) (v := .ref tx) (C := RX8) (T := TX8) (N := 6) hx hb hts hin_8 hown hK hP 0 rfl rfl 0 (by decide) (hts (.fieldLink RX8 9 "LessonMaker$Tokens" "text" "[B") (List.mem_of_getElem? (i := 1) rfl)) (fun _ h9 => h9) rfl dX8_cut_6 ?_
  refine va_alen hx hb hK hP 1 0 rfl rfl (v := 600) rfl dX8_cut_9 ?_
  refine va_mmin hx hb (by rw [hml]; exact hl.1.symm) hown (hts (.methodLink RX8 25 Lib.Math.min.name) (List.mem_of_getElem? (i := 2) rfl)) (hts (.static Lib.Math.min.name) (List.mem_of_getElem? (i := 3) rfl)) (hts (.initialized "java/lang/Math") (List.mem_of_getElem? (i := 4) rfl)) (hts (.code Lib.Math.min.name Lib.Math.min.code 2 (some .int)) (List.mem_of_getElem? (i := 5) rfl)) (Nat.le_of_ble_eq_true rfl) (Nat.le_of_ble_eq_true rfl) (Nat.le_of_ble_eq_true rfl) (Nat.le_of_ble_eq_true rfl) dX8_cut_10 ?_
  refine lv_topi (fun x_1 ex_1 => ?_)
  have ex_1 := ex_1.trans (show _ = (600 : Int32) by decide)
  subst ex_1
  refine va_mmin hx hb (by rw [hml]; exact hl.1.symm) hown (hts (.methodLink RX8 25 Lib.Math.min.name) (List.mem_of_getElem? (i := 2) rfl)) (hts (.static Lib.Math.min.name) (List.mem_of_getElem? (i := 3) rfl)) (hts (.initialized "java/lang/Math") (List.mem_of_getElem? (i := 4) rfl)) (hts (.code Lib.Math.min.name Lib.Math.min.code 2 (some .int)) (List.mem_of_getElem? (i := 5) rfl)) (Nat.le_of_ble_eq_true rfl) (Nat.le_of_ble_eq_true rfl) (Nat.le_of_ble_eq_true rfl) (Nat.le_of_ble_eq_true rfl) dX8_cut_13 ?_
  refine lv_topi (fun x_2 ex_2 => ?_)
  have ex_2 := ex_2.trans (show _ = (0 : Int32) by decide)
  subst ex_2
  refine va_mmax hx hb (by rw [hml]; exact hl.1.symm) hown (hts (.methodLink RX8 31 Lib.Math.max.name) (List.mem_of_getElem? (i := 6) rfl)) (hts (.static Lib.Math.max.name) (List.mem_of_getElem? (i := 7) rfl)) (hts (.initialized "java/lang/Math") (List.mem_of_getElem? (i := 4) rfl)) (hts (.code Lib.Math.max.name Lib.Math.max.code 2 (some .int)) (List.mem_of_getElem? (i := 8) rfl)) (Nat.le_of_ble_eq_true rfl) (Nat.le_of_ble_eq_true rfl) (Nat.le_of_ble_eq_true rfl) (Nat.le_of_ble_eq_true rfl) dX8_cut_16 ?_
  refine lv_topi (fun x_3 ex_3 => ?_)
  have ex_3 := ex_3.trans (show _ = (0 : Int32) by decide)
  subst ex_3
  refine va_put (D := (dC, dI)) (ci := 8) (v := .int 0) (ty := .int) (C := RX8) (T := TX8) (N := 6) hx hb hts hin_8 tyX8 tyX8_ok nmX8 hown hK hP hD hS 0 rfl rfl 1 (by decide) (hts (.fieldLink RX8 34 "LessonMaker$Tokens" "length" "I") (List.mem_of_getElem? (i := 9) rfl)) (fun _ h9 => h9) rfl (by decide +kernel) rfl rfl (Nat.le_of_ble_eq_true rfl) dX8_cut_19 (fun H locs hP hD hS => ?_)
  have hP : va_P (dC, dI) z_Cl [(h0, .inr (8, [.ref tx, .int 0, .ref kd, .ref pl, .ref wd, .int 0])), (tx, .inl (k1, 600, .inl f1)), (kd, .inl (k2, 601, .inl f2)), (pl, .inl (k3, 601, .inl f3)), (wd, .inl (k4, 601, .inl f4)), (tp, .inl (kt, 600, .inl ft))] H := hP
  have hD : va_D A [(h0, .inr (8, [.ref tx, .int 0, .ref kd, .ref pl, .ref wd, .int 0])), (tx, .inl (k1, 600, .inl f1)), (kd, .inl (k2, 601, .inl f2)), (pl, .inl (k3, 601, .inl f3)), (wd, .inl (k4, 601, .inl f4)), (tp, .inl (kt, 600, .inl ft))] := hD
  refine lv_aload_n hx hb dX8_cut_22 rfl (lv_at hl 1 rfl) ?_
  refine lv_iconst (v := 0) hx hb dX8_cut_23 (by decide) ?_
  refine lv_aload_n hx hb dX8_cut_24 rfl (lv_at hl 0 rfl) ?_
  refine va_get (D := (dC, dI)) (ci := 8) (v := .ref tx) (C := RX8) (T := TX8) (N := 6) hx hb hts hin_8 hown hK hP 0 rfl rfl 0 (by decide) (hts (.fieldLink RX8 9 "LessonMaker$Tokens" "text" "[B") (List.mem_of_getElem? (i := 1) rfl)) (fun _ h9 => h9) rfl dX8_cut_25 ?_
  refine lv_iconst (v := 0) hx hb dX8_cut_28 (by decide) ?_
  refine lv_aload_n hx hb dX8_cut_29 rfl (lv_at hl 0 rfl) ?_
  refine va_get (D := (dC, dI)) (ci := 8) (v := .int 0) (C := RX8) (T := TX8) (N := 6) hx hb hts hin_8 hown hK hP 0 rfl rfl 1 (by decide) (hts (.fieldLink RX8 34 "LessonMaker$Tokens" "length" "I") (List.mem_of_getElem? (i := 9) rfl)) (fun _ h9 => h9) rfl dX8_cut_30 ?_
  refine va_copyi (ty := .byte) hx hb (by rw [hml]; exact hl.1.symm) hown (hts (.methodLink RX8 38 arraycopyName) (List.mem_of_getElem? (i := 10) rfl)) (hts (.native arraycopyName) (List.mem_of_getElem? (i := 11) rfl)) (hts (.static arraycopyName) (List.mem_of_getElem? (i := 12) rfl)) (hts (.initialized "java/lang/System") (List.mem_of_getElem? (i := 13) rfl)) hK hP hD hS 5 1 4 0 rfl rfl rfl rfl rfl (by decide) (by decide) (by decide) (by decide) (by decide) (fun i hi => z_none hi) (Nat.le_of_ble_eq_true rfl) (Nat.le_of_ble_eq_true rfl) dX8_cut_33 (fun H locs hP hD hS => ?_)
  generalize va_cpy ft f1 (Int32.toNatClampNeg 0) (Int32.toNatClampNeg 0) (Int32.toNatClampNeg 0) = g_4 at hP hD
  have hP : va_P (dC, dI) z_Cl [(h0, .inr (8, [.ref tx, .int 0, .ref kd, .ref pl, .ref wd, .int 0])), (tx, .inl (k1, 600, .inl g_4)), (kd, .inl (k2, 601, .inl f2)), (pl, .inl (k3, 601, .inl f3)), (wd, .inl (k4, 601, .inl f4)), (tp, .inl (kt, 600, .inl ft))] H := hP
  have hD : va_D A [(h0, .inr (8, [.ref tx, .int 0, .ref kd, .ref pl, .ref wd, .int 0])), (tx, .inl (k1, 600, .inl g_4)), (kd, .inl (k2, 601, .inl f2)), (pl, .inl (k3, 601, .inl f3)), (wd, .inl (k4, 601, .inl f4)), (tp, .inl (kt, 600, .inl ft))] := hD
  refine lv_aload_n hx hb dX8_cut_36 rfl (lv_at hl 0 rfl) ?_
  refine lv_iconst (v := 0) hx hb dX8_cut_37 (by decide) ?_
  refine va_put (D := (dC, dI)) (ci := 8) (v := .int 0) (ty := .int) (C := RX8) (T := TX8) (N := 6) hx hb hts hin_8 tyX8 tyX8_ok nmX8 hown hK hP hD hS 0 rfl rfl 5 (by decide) (hts (.fieldLink RX8 44 "LessonMaker$Tokens" "size" "I") (List.mem_of_getElem? (i := 14) rfl)) (fun _ h9 => h9) rfl (by decide +kernel) rfl rfl (Nat.le_of_ble_eq_true rfl) dX8_cut_38 (fun H locs hP hD hS => ?_)
  have hP : va_P (dC, dI) z_Cl [(h0, .inr (8, [.ref tx, .int 0, .ref kd, .ref pl, .ref wd, .int 0])), (tx, .inl (k1, 600, .inl g_4)), (kd, .inl (k2, 601, .inl f2)), (pl, .inl (k3, 601, .inl f3)), (wd, .inl (k4, 601, .inl f4)), (tp, .inl (kt, 600, .inl ft))] H := hP
  have hD : va_D A [(h0, .inr (8, [.ref tx, .int 0, .ref kd, .ref pl, .ref wd, .int 0])), (tx, .inl (k1, 600, .inl g_4)), (kd, .inl (k2, 601, .inl f2)), (pl, .inl (k3, 601, .inl f3)), (wd, .inl (k4, 601, .inl f4)), (tp, .inl (kt, 600, .inl ft))] := hD
  refine lv_iconst (v := 0) hx hb dX8_cut_41 (by decide) ?_
  refine lv_istore_n (lv' := [(3, .int 0), (0, .ref h0), (1, .ref tp), (2, .int 0)]) hx hb dX8_cut_42 rfl hl (by decide) rfl (fun ls hl => ?_)
  refine lv_iload_n hx hb dX8_cut_43 rfl (lv_at hl 0 rfl) ?_
  refine lv_aload_n hx hb dX8_cut_44 rfl (lv_at hl 1 rfl) ?_
  refine va_get (D := (dC, dI)) (ci := 8) (v := .int 0) (C := RX8) (T := TX8) (N := 6) hx hb hts hin_8 hown hK hP 0 rfl rfl 1 (by decide) (hts (.fieldLink RX8 34 "LessonMaker$Tokens" "length" "I") (List.mem_of_getElem? (i := 9) rfl)) (fun _ h9 => h9) rfl dX8_cut_45 ?_
  refine lv_icmp_ge (tgt := 123) hx hb dX8_cut_48 (by decide) (fun _ => ?_) (fun h9 => absurd (by decide) h9)
  refine lv_aload_n hx hb dX8_cut_123 rfl (lv_at hl 1 rfl) ?_
  refine lv_iconst (v := 0) hx hb dX8_cut_124 (by decide) ?_
  refine lv_aload_n hx hb dX8_cut_125 rfl (lv_at hl 1 rfl) ?_
  refine va_get (D := (dC, dI)) (ci := 8) (v := .int 0) (C := RX8) (T := TX8) (N := 6) hx hb hts hin_8 hown hK hP 0 rfl rfl 1 (by decide) (hts (.fieldLink RX8 34 "LessonMaker$Tokens" "length" "I") (List.mem_of_getElem? (i := 9) rfl)) (fun _ h9 => h9) rfl dX8_cut_126 ?_
  refine lv_iconst (v := 0) hx hb dX8_cut_129 (by decide) ?_
  have hPc := hP.sub (ws' := [(h0, .inr (8, [.ref tx, .int 0, .ref kd, .ref pl, .ref wd, .int 0])), (kd, .inl (k2, 601, .inl f2)), (pl, .inl (k3, 601, .inl f3)), (wd, .inl (k4, 601, .inl f4))]) [0, 2, 3, 4] rfl
  have hDc := hD.sub (ws' := [(h0, .inr (8, [.ref tx, .int 0, .ref kd, .ref pl, .ref wd, .int 0])), (kd, .inl (k2, 601, .inl f2)), (pl, .inl (k3, 601, .inl f3)), (wd, .inl (k4, 601, .inl f4))]) [0, 2, 3, 4] (by decide) rfl
  have hKc := hK.sub (tys' := [(k2, .int), (k3, .int), (k4, .int)]) [1, 2, 3] rfl
  have hFc := va_free (wc := [(h0, .inr (8, [.ref tx, .int 0, .ref kd, .ref pl, .ref wd, .int 0])), (kd, .inl (k2, 601, .inl f2)), (pl, .inl (k3, 601, .inl f3)), (wd, .inl (k4, 601, .inl f4))]) hD hS hA [0, 2, 3, 4] rfl
  refine va_callv (va_runV (As := [.int 0, .int 0, .int 0]) (rest := []) ⟨hx, hb, hml, hown, hts⟩ (c_X8_add l dC dI h0 tx kd pl wd k2 f2 k3 f3 k4 f4 H.size) (cwV 3 hts c_X8_cut_zg_5 rfl rfl rfl (by decide +kernel) ⟨(Nat.le_of_ble_eq_true rfl), (Nat.le_of_ble_eq_true rfl)⟩) ⟨z_blind, va_recv hKc hPc (ci := 8) (q0 := 0) rfl rfl, z_pre hPc hKc hDc hN⟩ rfl rfl hl.1 rfl (lv_room (Nat.le_of_ble_eq_true rfl)) dX8_cut_130 ⟨(Nat.le_of_ble_eq_true rfl), (Nat.le_of_ble_eq_true rfl)⟩) hS (fun q _ h => hFc q h) hFc (fun u t H1 locs ht hvm hw hB hz1 hk1 hS => ?_)
  obtain ⟨hP1, hK1, hD1⟩ := hB
  rw [ht] at hP1
  have hK1 := va_K.moved hvm.symm hK1
  obtain ⟨hP, hD⟩ := va_join (wr := [(tx, .inl (k1, 600, .inl g_4)), (tp, .inl (kt, 600, .inl ft))]) (w1 := [(h0, .inr (8, [.ref tx, .int 0, .ref kd, .ref pl, .ref wd, .int 1])), (kd, .inl (k2, 601, .inl (upd f2 (Int32.toNatClampNeg 0) 0))), (pl, .inl (k3, 601, .inl (upd f3 (Int32.toNatClampNeg 0) 0))), (wd, .inl (k4, 601, .inl (upd f4 (Int32.toNatClampNeg 0) 0)))]) hP hD [0, 2, 3, 4] [1, 5] rfl rfl (by decide) (by decide) hk1 hFc hP1 hD1
  have hK := (hK.sub (tys' := [(k1, .byte), (k2, .int), (k3, .int), (k4, .int), (kt, .byte)]) [0, 1, 2, 3, 4] rfl).app hK1
  generalize H1 = H at hP hS ⊢
  have hP : va_P (dC, dI) z_Cl [(tx, .inl (k1, 600, .inl g_4)), (tp, .inl (kt, 600, .inl ft)), (h0, .inr (8, [.ref tx, .int 0, .ref kd, .ref pl, .ref wd, .int 1])), (kd, .inl (k2, 601, .inl (upd f2 (Int32.toNatClampNeg 0) 0))), (pl, .inl (k3, 601, .inl (upd f3 (Int32.toNatClampNeg 0) 0))), (wd, .inl (k4, 601, .inl (upd f4 (Int32.toNatClampNeg 0) 0)))] H := hP
  have hD : va_D A [(tx, .inl (k1, 600, .inl g_4)), (tp, .inl (kt, 600, .inl ft)), (h0, .inr (8, [.ref tx, .int 0, .ref kd, .ref pl, .ref wd, .int 1])), (kd, .inl (k2, 601, .inl (upd f2 (Int32.toNatClampNeg 0) 0))), (pl, .inl (k3, 601, .inl (upd f3 (Int32.toNatClampNeg 0) 0))), (wd, .inl (k4, 601, .inl (upd f4 (Int32.toNatClampNeg 0) 0)))] := hD
  have hK : va_K (dC, dI) z_Cl [(k1, .byte), (k2, .int), (k3, .int), (k4, .int), (kt, .byte), (k2, .int), (k3, .int), (k4, .int)] s := hK
  have hK := hK.sub (tys' := [(k1, .byte), (k2, .int), (k3, .int), (k4, .int), (kt, .byte)]) [0, 1, 2, 3, 4] rfl
  have hP9 := hP.sub (ws' := [(h0, .inr (8, [.ref tx, .int 0, .ref kd, .ref pl, .ref wd, .int 1])), (kd, .inl (k2, 601, .inl (upd f2 (Int32.toNatClampNeg 0) 0))), (pl, .inl (k3, 601, .inl (upd f3 (Int32.toNatClampNeg 0) 0))), (wd, .inl (k4, 601, .inl (upd f4 (Int32.toNatClampNeg 0) 0)))]) [2, 3, 4, 5] rfl
  have hD9 := hD.sub (ws' := [(h0, .inr (8, [.ref tx, .int 0, .ref kd, .ref pl, .ref wd, .int 1])), (kd, .inl (k2, 601, .inl (upd f2 (Int32.toNatClampNeg 0) 0))), (pl, .inl (k3, 601, .inl (upd f3 (Int32.toNatClampNeg 0) 0))), (wd, .inl (k4, 601, .inl (upd f4 (Int32.toNatClampNeg 0) 0)))]) [2, 3, 4, 5] (by decide) rfl
  have hK9 := hK.sub (tys' := [(k2, .int), (k3, .int), (k4, .int)]) [1, 2, 3] rfl
  refine W.widen (k := 0) (n := 0) (Nat.le_of_ble_eq_true rfl) (Nat.le_of_ble_eq_true rfl) ?_
  exact W.vret hx hb hr (fun t ht hW => ⟨⟨(), rfl, trivial, by rw [ht]; exact hP9, va_K.moved hW.alike hK9, hD9⟩, hS.F ht⟩) hS.2.2 dX8_cut_133

def z_wX8_has : List Cond := .code yX8_has cX8_has 2 (some .boolean) :: ([.fieldLink RX8 44 "LessonMaker$Tokens" "size" "I", .fieldLink RX8 15 "LessonMaker$Tokens" "kinds" "[I"] ++ (u_ws RX8 TX8 6))
set_option maxHeartbeats 4000000 in
set_option maxRecDepth 100000 in
theorem c_X8_has (l : Launch) (dC : Nat → ClassId) (dI : Nat → Nat → Nat) (h0 : Nat) (tx : Nat) (kd : Nat) (pl : Nat) (wd : Nat) (k2 : ClassId) (f2 : Nat → Int32) (sz : Nat) : Met l yX8_has z_wX8_has ({ frames := 0, cells := 0, slots := 0, locals := 0 }) (va_Pc [.ref h0, .int 0] (z_in dC dI [(h0, .inr (8, [.ref tx, .int 0, .ref kd, .ref pl, .ref wd, .int 1])), (kd, .inl (k2, 601, .inl (upd f2 (Int32.toNatClampNeg 0) 0)))] [(k2, .int)] sz)) (va_Qi (fun (r : Int32) (_ : Unit) => r = 1) (fun (_ : Unit) t => z_out dC dI (va_A [(h0, .inr (8, [.ref tx, .int 0, .ref kd, .ref pl, .ref wd, .int 1])), (kd, .inl (k2, 601, .inl (upd f2 (Int32.toNatClampNeg 0) 0)))] sz) [(h0, .inr (8, [.ref tx, .int 0, .ref kd, .ref pl, .ref wd, .int 1])), (kd, .inl (k2, 601, .inl (upd f2 (Int32.toNatClampNeg 0) 0)))] [(k2, .int)] t) (va_A [(h0, .inr (8, [.ref tx, .int 0, .ref kd, .ref pl, .ref wd, .int 1])), (kd, .inl (k2, 601, .inl (upd f2 (Int32.toNatClampNeg 0) 0)))] sz)) 0 0 (va_A [(h0, .inr (8, [.ref tx, .int 0, .ref kd, .ref pl, .ref wd, .int 1])), (kd, .inl (k2, 601, .inl (upd f2 (Int32.toNatClampNeg 0) 0)))] sz) := by
  refine Met.ofW (cc := cX8_has) (maxL := 2) (ret := (some .boolean)) (by decide) rfl ?_
  intro p e s m args below meth c s₁ B hml hv
  obtain ⟨rfl, hsz, hP, hK, hD0, hN⟩ := hv
  have hx := B.exec
  have hb := B.bytes
  have hr := B.returns
  have hts := atoms_spec (ws := z_wX8_has) B.pre
  have hown : s.vm.findClass RX8 = some m.cls := findClass_of_methodNamed B.named
  have hlocks := B.notSynchronized
  have hin_8 : ∀ w ∈ u_ws RX8 TX8 6, w ∈ z_wX8_has := by decide +kernel
  subst hsz
  have hD := hD0.self (sz := s.heap.size)
  generalize hAe : va_A [(h0, .inr (8, [.ref tx, .int 0, .ref kd, .ref pl, .ref wd, .int 1])), (kd, .inl (k2, 601, .inl (upd f2 (Int32.toNatClampNeg 0) 0)))] s.heap.size = A at hD ⊢
  have hA : ∀ q : Nat, s.heap.size ≤ q → A q := fun q h => by rw [← hAe]; exact Or.inr h
  have hS : va_S A s.heap s.heap [] := va_S.rf
  have hP : va_P (dC, dI) z_Cl [(h0, .inr (8, [.ref tx, .int 0, .ref kd, .ref pl, .ref wd, .int 1])), (kd, .inl (k2, 601, .inl (upd f2 (Int32.toNatClampNeg 0) 0)))] s.heap := hP
  have hl := lv_entry ([.ref h0, .int 0]) (n := 2) (Nat.le_of_ble_eq_true rfl)
  rw [lg_entry_eq]
  generalize (lg_sl ([.ref h0, .int 0]) ++ List.replicate (2 - (lg_sl ([.ref h0, .int 0])).length) Slot.unset).toArray = ls at hl ⊢
  have hl : lv_has ls 2 [(0, .ref h0), (1, .int 0)] := hl
  refine lv_iload_n hx hb dX8_has_0 rfl (lv_at hl 1 rfl) ?_
  refine lv_if_lt (tgt := 25) hx hb dX8_has_1 (by decide) (fun h9 => absurd h9 (by decide)) (fun _ => ?_)
  refine lv_iload_n hx hb dX8_has_4 rfl (lv_at hl 1 rfl) ?_
  refine lv_aload_n hx hb dX8_has_5 rfl (lv_at hl 0 rfl) ?_
  refine va_get (D := (dC, dI)) (ci := 8) (v := .int 1) (C := RX8) (T := TX8) (N := 6) hx hb hts hin_8 hown hK hP 0 rfl rfl 5 (by decide) (hts (.fieldLink RX8 44 "LessonMaker$Tokens" "size" "I") (List.mem_of_getElem? (i := 1) rfl)) (fun _ h9 => h9) rfl dX8_has_6 ?_
  refine lv_icmp_ge (tgt := 25) hx hb dX8_has_9 (by decide) (fun h9 => absurd h9 (by decide)) (fun _ => ?_)
  refine lv_iload_n hx hb dX8_has_12 rfl (lv_at hl 1 rfl) ?_
  refine lv_aload_n hx hb dX8_has_13 rfl (lv_at hl 0 rfl) ?_
  refine va_get (D := (dC, dI)) (ci := 8) (v := .ref kd) (C := RX8) (T := TX8) (N := 6) hx hb hts hin_8 hown hK hP 0 rfl rfl 2 (by decide) (hts (.fieldLink RX8 15 "LessonMaker$Tokens" "kinds" "[I") (List.mem_of_getElem? (i := 2) rfl)) (fun _ h9 => h9) rfl dX8_has_14 ?_
  refine va_alen hx hb hK hP 1 0 rfl rfl (v := 601) rfl dX8_has_17 ?_
  refine lv_icmp_ge (tgt := 25) hx hb dX8_has_18 (by decide) (fun h9 => absurd h9 (by decide)) (fun _ => ?_)
  refine lv_iconst (v := 1) hx hb dX8_has_21 (by decide) ?_
  refine lv_goto (tgt := 26) hx hb dX8_has_22 (by decide) ?_
  have hP9 := hP.sub (ws' := [(h0, .inr (8, [.ref tx, .int 0, .ref kd, .ref pl, .ref wd, .int 1])), (kd, .inl (k2, 601, .inl (upd f2 (Int32.toNatClampNeg 0) 0)))]) [0, 1] rfl
  have hD9 := hD.sub (ws' := [(h0, .inr (8, [.ref tx, .int 0, .ref kd, .ref pl, .ref wd, .int 1])), (kd, .inl (k2, 601, .inl (upd f2 (Int32.toNatClampNeg 0) 0)))]) [0, 1] (by decide) rfl
  have hK9 := hK.sub (tys' := [(k2, .int)]) [0] rfl
  refine W.widen (k := 0) (n := 0) (Nat.le_of_ble_eq_true rfl) (Nat.le_of_ble_eq_true rfl) ?_
  exact W.zret (v := 1) hx hb hr (by decide) (fun t ht hW => ⟨⟨1, (), rfl, rfl, by rw [ht]; exact hP9, va_K.moved hW.alike hK9, hD9⟩, hS.F ht⟩) hS.2.2 dX8_has_26

def z_wX8_placeOf : List Cond := .code yX8_placeOf cX8_placeOf 2 (some .int) :: ([.fieldLink RX8 44 "LessonMaker$Tokens" "size" "I", .fieldLink RX8 15 "LessonMaker$Tokens" "kinds" "[I", .methodLink RX8 58 yX8_has, .instanceMethod yX8_has, .selects RX8 yX8_has yX8_has, .initialized RX8, .code yX8_has cX8_has 2 (some .boolean), .fieldLink RX8 19 "LessonMaker$Tokens" "places" "[I"] ++ (u_ws RX8 TX8 6))
set_option maxRecDepth 20000 in
theorem c_X8_placeOf_zg_1 : GoodIn z_wX8_placeOf (wsV RX8 58 RX8 yX8_has z_wX8_has) := goodIn_r _ [3, 4, 5, 6, 7, 1, 2, 9, 10, 11, 12, 13, 14] (by decide +kernel) (by decide +kernel)
set_option maxHeartbeats 4000000 in
set_option maxRecDepth 100000 in
theorem c_X8_placeOf (l : Launch) (dC : Nat → ClassId) (dI : Nat → Nat → Nat) (h0 : Nat) (tx : Nat) (kd : Nat) (pl : Nat) (wd : Nat) (k2 : ClassId) (f2 : Nat → Int32) (k3 : ClassId) (f3 : Nat → Int32) (sz : Nat) : Met l yX8_placeOf z_wX8_placeOf ({ frames := 1, cells := 0, slots := 0, locals := 21 }) (va_Pc [.ref h0, .int 0] (z_in dC dI [(h0, .inr (8, [.ref tx, .int 0, .ref kd, .ref pl, .ref wd, .int 1])), (kd, .inl (k2, 601, .inl (upd f2 (Int32.toNatClampNeg 0) 0))), (pl, .inl (k3, 601, .inl (upd f3 (Int32.toNatClampNeg 0) 0)))] [(k2, .int), (k3, .int)] sz)) (va_Qi (fun (r : Int32) (_ : Unit) => r = 0) (fun (_ : Unit) t => z_out dC dI (va_A [(h0, .inr (8, [.ref tx, .int 0, .ref kd, .ref pl, .ref wd, .int 1])), (kd, .inl (k2, 601, .inl (upd f2 (Int32.toNatClampNeg 0) 0))), (pl, .inl (k3, 601, .inl (upd f3 (Int32.toNatClampNeg 0) 0)))] sz) [(h0, .inr (8, [.ref tx, .int 0, .ref kd, .ref pl, .ref wd, .int 1])), (kd, .inl (k2, 601, .inl (upd f2 (Int32.toNatClampNeg 0) 0))), (pl, .inl (k3, 601, .inl (upd f3 (Int32.toNatClampNeg 0) 0)))] [(k2, .int), (k3, .int)] t) (va_A [(h0, .inr (8, [.ref tx, .int 0, .ref kd, .ref pl, .ref wd, .int 1])), (kd, .inl (k2, 601, .inl (upd f2 (Int32.toNatClampNeg 0) 0))), (pl, .inl (k3, 601, .inl (upd f3 (Int32.toNatClampNeg 0) 0)))] sz)) 0 0 (va_A [(h0, .inr (8, [.ref tx, .int 0, .ref kd, .ref pl, .ref wd, .int 1])), (kd, .inl (k2, 601, .inl (upd f2 (Int32.toNatClampNeg 0) 0))), (pl, .inl (k3, 601, .inl (upd f3 (Int32.toNatClampNeg 0) 0)))] sz) := by
  refine Met.ofW (cc := cX8_placeOf) (maxL := 2) (ret := (some .int)) (by decide) rfl ?_
  intro p e s m args below meth c s₁ B hml hv
  obtain ⟨rfl, hsz, hP, hK, hD0, hN⟩ := hv
  have hx := B.exec
  have hb := B.bytes
  have hr := B.returns
  have hts := atoms_spec (ws := z_wX8_placeOf) B.pre
  have hown : s.vm.findClass RX8 = some m.cls := findClass_of_methodNamed B.named
  have hlocks := B.notSynchronized
  have hin_8 : ∀ w ∈ u_ws RX8 TX8 6, w ∈ z_wX8_placeOf := by decide +kernel
  subst hsz
  have hD := hD0.self (sz := s.heap.size)
  generalize hAe : va_A [(h0, .inr (8, [.ref tx, .int 0, .ref kd, .ref pl, .ref wd, .int 1])), (kd, .inl (k2, 601, .inl (upd f2 (Int32.toNatClampNeg 0) 0))), (pl, .inl (k3, 601, .inl (upd f3 (Int32.toNatClampNeg 0) 0)))] s.heap.size = A at hD ⊢
  have hA : ∀ q : Nat, s.heap.size ≤ q → A q := fun q h => by rw [← hAe]; exact Or.inr h
  have hS : va_S A s.heap s.heap [] := va_S.rf
  have hP : va_P (dC, dI) z_Cl [(h0, .inr (8, [.ref tx, .int 0, .ref kd, .ref pl, .ref wd, .int 1])), (kd, .inl (k2, 601, .inl (upd f2 (Int32.toNatClampNeg 0) 0))), (pl, .inl (k3, 601, .inl (upd f3 (Int32.toNatClampNeg 0) 0)))] s.heap := hP
  have hl := lv_entry ([.ref h0, .int 0]) (n := 2) (Nat.le_of_ble_eq_true rfl)
  rw [lg_entry_eq]
  generalize (lg_sl ([.ref h0, .int 0]) ++ List.replicate (2 - (lg_sl ([.ref h0, .int 0])).length) Slot.unset).toArray = ls at hl ⊢
  have hl : lv_has ls 2 [(0, .ref h0), (1, .int 0)] := hl
  refine lv_aload_n hx hb dX8_placeOf_0 rfl (lv_at hl 0 rfl) ?_
  refine lv_iload_n hx hb dX8_placeOf_1 rfl (lv_at hl 1 rfl) ?_
  have hPc := hP.sub (ws' := [(h0, .inr (8, [.ref tx, .int 0, .ref kd, .ref pl, .ref wd, .int 1])), (kd, .inl (k2, 601, .inl (upd f2 (Int32.toNatClampNeg 0) 0)))]) [0, 1] rfl
  have hDc := hD.sub (ws' := [(h0, .inr (8, [.ref tx, .int 0, .ref kd, .ref pl, .ref wd, .int 1])), (kd, .inl (k2, 601, .inl (upd f2 (Int32.toNatClampNeg 0) 0)))]) [0, 1] (by decide) rfl
  have hKc := hK.sub (tys' := [(k2, .int)]) [0] rfl
  have hFc := va_free (wc := [(h0, .inr (8, [.ref tx, .int 0, .ref kd, .ref pl, .ref wd, .int 1])), (kd, .inl (k2, 601, .inl (upd f2 (Int32.toNatClampNeg 0) 0)))]) hD hS hA [0, 1] rfl
  refine va_calli (va_runV (As := [.int 0]) (rest := []) ⟨hx, hb, hml, hown, hts⟩ (c_X8_has l dC dI h0 tx kd pl wd k2 f2 s.heap.size) (cwV 1 hts c_X8_placeOf_zg_1 rfl rfl rfl (by decide +kernel) ⟨(Nat.le_of_ble_eq_true rfl), (Nat.le_of_ble_eq_true rfl)⟩) ⟨z_blind, va_recv hKc hPc (ci := 8) (q0 := 0) rfl rfl, z_pre hPc hKc hDc hN⟩ rfl rfl hl.1 rfl (lv_room (Nat.le_of_ble_eq_true rfl)) dX8_placeOf_2 ⟨(Nat.le_of_ble_eq_true rfl), (Nat.le_of_ble_eq_true rfl)⟩) hS (fun q _ h => hFc q h) hFc (fun r_2 u t H1 locs ht hvm hw hB hz1 hk1 hS => ?_)
  obtain ⟨hP1, hK1, hD1⟩ := hB
  rw [ht] at hP1
  have hK1 := va_K.moved hvm.symm hK1
  obtain ⟨hP, hD⟩ := va_join (wr := [(pl, .inl (k3, 601, .inl (upd f3 (Int32.toNatClampNeg 0) 0)))]) (w1 := [(h0, .inr (8, [.ref tx, .int 0, .ref kd, .ref pl, .ref wd, .int 1])), (kd, .inl (k2, 601, .inl (upd f2 (Int32.toNatClampNeg 0) 0)))]) hP hD [0, 1] [2] rfl rfl (by decide) (by decide) hk1 hFc hP1 hD1
  have hK := (hK.sub (tys' := [(k2, .int), (k3, .int)]) [0, 1] rfl).app hK1
  generalize H1 = H at hP hS ⊢
  have hP : va_P (dC, dI) z_Cl [(pl, .inl (k3, 601, .inl (upd f3 (Int32.toNatClampNeg 0) 0))), (h0, .inr (8, [.ref tx, .int 0, .ref kd, .ref pl, .ref wd, .int 1])), (kd, .inl (k2, 601, .inl (upd f2 (Int32.toNatClampNeg 0) 0)))] H := hP
  have hD : va_D A [(pl, .inl (k3, 601, .inl (upd f3 (Int32.toNatClampNeg 0) 0))), (h0, .inr (8, [.ref tx, .int 0, .ref kd, .ref pl, .ref wd, .int 1])), (kd, .inl (k2, 601, .inl (upd f2 (Int32.toNatClampNeg 0) 0)))] := hD
  have hK : va_K (dC, dI) z_Cl [(k2, .int), (k3, .int), (k2, .int)] s := hK
  have hK := hK.sub (tys' := [(k2, .int), (k3, .int)]) [0, 1] rfl
  have hw : r_2 = 1 := hw
  subst hw
  refine lv_if_eq (tgt := 17) hx hb dX8_placeOf_5 (by decide) (fun h9 => absurd h9 (by decide)) (fun _ => ?_)
  refine lv_aload_n hx hb dX8_placeOf_8 rfl (lv_at hl 0 rfl) ?_
  refine va_get (D := (dC, dI)) (ci := 8) (v := .ref pl) (C := RX8) (T := TX8) (N := 6) hx hb hts hin_8 hown hK hP 1 rfl rfl 3 (by decide) (hts (.fieldLink RX8 19 "LessonMaker$Tokens" "places" "[I") (List.mem_of_getElem? (i := 8) rfl)) (fun _ h9 => h9) rfl dX8_placeOf_9 ?_
  refine lv_iload_n hx hb dX8_placeOf_12 rfl (lv_at hl 1 rfl) ?_
  refine va_iald hx hb hK hP 0 1 rfl rfl (i := 0) (z_io (by decide)) dX8_placeOf_13 ?_
  refine lv_topi (fun x_3 ex_3 => ?_)
  have ex_3 : x_3 = 0 := ex_3.trans pk_us
  subst ex_3
  refine lv_goto (tgt := 21) hx hb dX8_placeOf_14 (by decide) ?_
  have hP9 := hP.sub (ws' := [(h0, .inr (8, [.ref tx, .int 0, .ref kd, .ref pl, .ref wd, .int 1])), (kd, .inl (k2, 601, .inl (upd f2 (Int32.toNatClampNeg 0) 0))), (pl, .inl (k3, 601, .inl (upd f3 (Int32.toNatClampNeg 0) 0)))]) [1, 2, 0] rfl
  have hD9 := hD.sub (ws' := [(h0, .inr (8, [.ref tx, .int 0, .ref kd, .ref pl, .ref wd, .int 1])), (kd, .inl (k2, 601, .inl (upd f2 (Int32.toNatClampNeg 0) 0))), (pl, .inl (k3, 601, .inl (upd f3 (Int32.toNatClampNeg 0) 0)))]) [1, 2, 0] (by decide) rfl
  have hK9 := hK.sub (tys' := [(k2, .int), (k3, .int)]) [0, 1] rfl
  refine W.widen (k := 0) (n := 0) (Nat.le_of_ble_eq_true rfl) (Nat.le_of_ble_eq_true rfl) ?_
  exact W.iret (v := 0) hx hb hr (fun t ht hW => ⟨⟨0, (), rfl, rfl, by rw [ht]; exact hP9, va_K.moved hW.alike hK9, hD9⟩, hS.F ht⟩) hS.2.2 dX8_placeOf_21

def z_wX7_kind_0 : List Cond := .code yX7_kind cX7_kind 2 (some .int) :: ([.fieldLink RX7 49 "LessonMaker$Reader" "next" "I", .fieldLink RX7 34 "LessonMaker$Reader" "tokens" "LLessonMaker$Tokens;", .fieldLink RX7 138 "LessonMaker$Tokens" "size" "I", .fieldLink RX7 212 "LessonMaker$Tokens" "kinds" "[I"] ++ (u_ws RX7 TX7 12 ++ u_ws RX8 TX8 6))
set_option maxHeartbeats 4000000 in
set_option maxRecDepth 100000 in
theorem c_X7_kind_0 (l : Launch) (dC : Nat → ClassId) (dI : Nat → Nat → Nat) (h0 : Nat) (sp : Nat) (tk : Nat) (cd : Nat) (r1 : Nat) (r2 : Nat) (r3 : Nat) (r4 : Nat) (tx : Nat) (kd : Nat) (pl : Nat) (wd : Nat) (k2 : ClassId) (f2 : Nat → Int32) (sz : Nat) : Met l yX7_kind z_wX7_kind_0 ({ frames := 0, cells := 0, slots := 0, locals := 0 }) (va_Pc [.ref h0] (z_in dC dI [(h0, .inr (7, [.int 0, .int 0, .int 0, .ref sp, .ref tk, .ref cd, .int 0, .ref r1, .ref r2, .ref r3, .ref r4, .int 0])), (tk, .inr (8, [.ref tx, .int 0, .ref kd, .ref pl, .ref wd, .int 1])), (kd, .inl (k2, 601, .inl (upd f2 (Int32.toNatClampNeg 0) 0)))] [(k2, .int)] sz)) (va_Qi (fun (r : Int32) (_ : Unit) => r = 0) (fun (_ : Unit) t => z_out dC dI (va_A [(h0, .inr (7, [.int 0, .int 0, .int 0, .ref sp, .ref tk, .ref cd, .int 0, .ref r1, .ref r2, .ref r3, .ref r4, .int 0])), (tk, .inr (8, [.ref tx, .int 0, .ref kd, .ref pl, .ref wd, .int 1])), (kd, .inl (k2, 601, .inl (upd f2 (Int32.toNatClampNeg 0) 0)))] sz) [(h0, .inr (7, [.int 0, .int 0, .int 0, .ref sp, .ref tk, .ref cd, .int 0, .ref r1, .ref r2, .ref r3, .ref r4, .int 0])), (tk, .inr (8, [.ref tx, .int 0, .ref kd, .ref pl, .ref wd, .int 1])), (kd, .inl (k2, 601, .inl (upd f2 (Int32.toNatClampNeg 0) 0)))] [(k2, .int)] t) (va_A [(h0, .inr (7, [.int 0, .int 0, .int 0, .ref sp, .ref tk, .ref cd, .int 0, .ref r1, .ref r2, .ref r3, .ref r4, .int 0])), (tk, .inr (8, [.ref tx, .int 0, .ref kd, .ref pl, .ref wd, .int 1])), (kd, .inl (k2, 601, .inl (upd f2 (Int32.toNatClampNeg 0) 0)))] sz)) 0 0 (va_A [(h0, .inr (7, [.int 0, .int 0, .int 0, .ref sp, .ref tk, .ref cd, .int 0, .ref r1, .ref r2, .ref r3, .ref r4, .int 0])), (tk, .inr (8, [.ref tx, .int 0, .ref kd, .ref pl, .ref wd, .int 1])), (kd, .inl (k2, 601, .inl (upd f2 (Int32.toNatClampNeg 0) 0)))] sz) := by
  refine Met.ofW (cc := cX7_kind) (maxL := 2) (ret := (some .int)) (by decide) rfl ?_
  intro p e s m args below meth c s₁ B hml hv
  obtain ⟨rfl, hsz, hP, hK, hD0, hN⟩ := hv
  have hx := B.exec
  have hb := B.bytes
  have hr := B.returns
  have hts := atoms_spec (ws := z_wX7_kind_0) B.pre
  have hown : s.vm.findClass RX7 = some m.cls := findClass_of_methodNamed B.named
  have hlocks := B.notSynchronized
  have hin_7 : ∀ w ∈ u_ws RX7 TX7 12, w ∈ z_wX7_kind_0 := by decide +kernel
  have hin_8 : ∀ w ∈ u_ws RX8 TX8 6, w ∈ z_wX7_kind_0 := by decide +kernel
  subst hsz
  have hD := hD0.self (sz := s.heap.size)
  generalize hAe : va_A [(h0, .inr (7, [.int 0, .int 0, .int 0, .ref sp, .ref tk, .ref cd, .int 0, .ref r1, .ref r2, .ref r3, .ref r4, .int 0])), (tk, .inr (8, [.ref tx, .int 0, .ref kd, .ref pl, .ref wd, .int 1])), (kd, .inl (k2, 601, .inl (upd f2 (Int32.toNatClampNeg 0) 0)))] s.heap.size = A at hD ⊢
  have hA : ∀ q : Nat, s.heap.size ≤ q → A q := fun q h => by rw [← hAe]; exact Or.inr h
  have hS : va_S A s.heap s.heap [] := va_S.rf
  have hP : va_P (dC, dI) z_Cl [(h0, .inr (7, [.int 0, .int 0, .int 0, .ref sp, .ref tk, .ref cd, .int 0, .ref r1, .ref r2, .ref r3, .ref r4, .int 0])), (tk, .inr (8, [.ref tx, .int 0, .ref kd, .ref pl, .ref wd, .int 1])), (kd, .inl (k2, 601, .inl (upd f2 (Int32.toNatClampNeg 0) 0)))] s.heap := hP
  have hl := lv_entry ([.ref h0]) (n := 2) (Nat.le_of_ble_eq_true rfl)
  rw [lg_entry_eq]
  generalize (lg_sl ([.ref h0]) ++ List.replicate (2 - (lg_sl ([.ref h0])).length) Slot.unset).toArray = ls at hl ⊢
  have hl : lv_has ls 2 [(0, .ref h0)] := hl
  refine lv_aload_n hx hb dX7_kind_0 rfl (lv_at hl 0 rfl) ?_
  refine va_get (D := (dC, dI)) (ci := 7) (v := .int 0) (C := RX7) (T := TX7) (N := 12) hx hb hts hin_7 hown hK hP 0 rfl rfl 6 (by decide) (hts (.fieldLink RX7 49 "LessonMaker$Reader" "next" "I") (List.mem_of_getElem? (i := 1) rfl)) (fun _ h9 => h9) rfl dX7_kind_1 ?_
  refine lv_if_lt (tgt := 40) hx hb dX7_kind_4 (by decide) (fun h9 => absurd h9 (by decide)) (fun _ => ?_)
  refine lv_aload_n hx hb dX7_kind_7 rfl (lv_at hl 0 rfl) ?_
  refine va_get (D := (dC, dI)) (ci := 7) (v := .int 0) (C := RX7) (T := TX7) (N := 12) hx hb hts hin_7 hown hK hP 0 rfl rfl 6 (by decide) (hts (.fieldLink RX7 49 "LessonMaker$Reader" "next" "I") (List.mem_of_getElem? (i := 1) rfl)) (fun _ h9 => h9) rfl dX7_kind_8 ?_
  refine lv_aload_n hx hb dX7_kind_11 rfl (lv_at hl 0 rfl) ?_
  refine va_get (D := (dC, dI)) (ci := 7) (v := .ref tk) (C := RX7) (T := TX7) (N := 12) hx hb hts hin_7 hown hK hP 0 rfl rfl 4 (by decide) (hts (.fieldLink RX7 34 "LessonMaker$Reader" "tokens" "LLessonMaker$Tokens;") (List.mem_of_getElem? (i := 2) rfl)) (fun _ h9 => h9) rfl dX7_kind_12 ?_
  refine va_get (D := (dC, dI)) (ci := 8) (v := .int 1) (C := RX8) (T := TX8) (N := 6) hx hb hts hin_8 hown hK hP 1 rfl rfl 5 (by decide) (hts (.fieldLink RX7 138 "LessonMaker$Tokens" "size" "I") (List.mem_of_getElem? (i := 3) rfl)) (fun _ h9 => h9) rfl dX7_kind_15 ?_
  refine lv_icmp_ge (tgt := 40) hx hb dX7_kind_18 (by decide) (fun h9 => absurd h9 (by decide)) (fun _ => ?_)
  refine lv_aload_n hx hb dX7_kind_21 rfl (lv_at hl 0 rfl) ?_
  refine va_get (D := (dC, dI)) (ci := 7) (v := .int 0) (C := RX7) (T := TX7) (N := 12) hx hb hts hin_7 hown hK hP 0 rfl rfl 6 (by decide) (hts (.fieldLink RX7 49 "LessonMaker$Reader" "next" "I") (List.mem_of_getElem? (i := 1) rfl)) (fun _ h9 => h9) rfl dX7_kind_22 ?_
  refine lv_aload_n hx hb dX7_kind_25 rfl (lv_at hl 0 rfl) ?_
  refine va_get (D := (dC, dI)) (ci := 7) (v := .ref tk) (C := RX7) (T := TX7) (N := 12) hx hb hts hin_7 hown hK hP 0 rfl rfl 4 (by decide) (hts (.fieldLink RX7 34 "LessonMaker$Reader" "tokens" "LLessonMaker$Tokens;") (List.mem_of_getElem? (i := 2) rfl)) (fun _ h9 => h9) rfl dX7_kind_26 ?_
  refine va_get (D := (dC, dI)) (ci := 8) (v := .ref kd) (C := RX8) (T := TX8) (N := 6) hx hb hts hin_8 hown hK hP 1 rfl rfl 2 (by decide) (hts (.fieldLink RX7 212 "LessonMaker$Tokens" "kinds" "[I") (List.mem_of_getElem? (i := 4) rfl)) (fun _ h9 => h9) rfl dX7_kind_29 ?_
  refine va_alen hx hb hK hP 2 0 rfl rfl (v := 601) rfl dX7_kind_32 ?_
  refine lv_icmp_ge (tgt := 40) hx hb dX7_kind_33 (by decide) (fun h9 => absurd h9 (by decide)) (fun _ => ?_)
  refine lv_iconst (v := 1) hx hb dX7_kind_36 (by decide) ?_
  refine lv_goto (tgt := 41) hx hb dX7_kind_37 (by decide) ?_
  refine lv_istore_n (lv' := [(1, .int 1), (0, .ref h0)]) hx hb dX7_kind_41 rfl hl (by decide) rfl (fun ls hl => ?_)
  refine lv_iload_n hx hb dX7_kind_42 rfl (lv_at hl 0 rfl) ?_
  refine lv_if_eq (tgt := 61) hx hb dX7_kind_43 (by decide) (fun h9 => absurd h9 (by decide)) (fun _ => ?_)
  refine lv_aload_n hx hb dX7_kind_46 rfl (lv_at hl 1 rfl) ?_
  refine va_get (D := (dC, dI)) (ci := 7) (v := .ref tk) (C := RX7) (T := TX7) (N := 12) hx hb hts hin_7 hown hK hP 0 rfl rfl 4 (by decide) (hts (.fieldLink RX7 34 "LessonMaker$Reader" "tokens" "LLessonMaker$Tokens;") (List.mem_of_getElem? (i := 2) rfl)) (fun _ h9 => h9) rfl dX7_kind_47 ?_
  refine va_get (D := (dC, dI)) (ci := 8) (v := .ref kd) (C := RX8) (T := TX8) (N := 6) hx hb hts hin_8 hown hK hP 1 rfl rfl 2 (by decide) (hts (.fieldLink RX7 212 "LessonMaker$Tokens" "kinds" "[I") (List.mem_of_getElem? (i := 4) rfl)) (fun _ h9 => h9) rfl dX7_kind_50 ?_
  refine lv_aload_n hx hb dX7_kind_53 rfl (lv_at hl 1 rfl) ?_
  refine va_get (D := (dC, dI)) (ci := 7) (v := .int 0) (C := RX7) (T := TX7) (N := 12) hx hb hts hin_7 hown hK hP 0 rfl rfl 6 (by decide) (hts (.fieldLink RX7 49 "LessonMaker$Reader" "next" "I") (List.mem_of_getElem? (i := 1) rfl)) (fun _ h9 => h9) rfl dX7_kind_54 ?_
  refine va_iald hx hb hK hP 2 0 rfl rfl (i := 0) (z_io (by decide)) dX7_kind_57 ?_
  refine lv_topi (fun x_1 ex_1 => ?_)
  have ex_1 : x_1 = 0 := ex_1.trans pk_us
  subst ex_1
  refine lv_goto (tgt := 62) hx hb dX7_kind_58 (by decide) ?_
  have hP9 := hP.sub (ws' := [(h0, .inr (7, [.int 0, .int 0, .int 0, .ref sp, .ref tk, .ref cd, .int 0, .ref r1, .ref r2, .ref r3, .ref r4, .int 0])), (tk, .inr (8, [.ref tx, .int 0, .ref kd, .ref pl, .ref wd, .int 1])), (kd, .inl (k2, 601, .inl (upd f2 (Int32.toNatClampNeg 0) 0)))]) [0, 1, 2] rfl
  have hD9 := hD.sub (ws' := [(h0, .inr (7, [.int 0, .int 0, .int 0, .ref sp, .ref tk, .ref cd, .int 0, .ref r1, .ref r2, .ref r3, .ref r4, .int 0])), (tk, .inr (8, [.ref tx, .int 0, .ref kd, .ref pl, .ref wd, .int 1])), (kd, .inl (k2, 601, .inl (upd f2 (Int32.toNatClampNeg 0) 0)))]) [0, 1, 2] (by decide) rfl
  have hK9 := hK.sub (tys' := [(k2, .int)]) [0] rfl
  refine W.widen (k := 0) (n := 0) (Nat.le_of_ble_eq_true rfl) (Nat.le_of_ble_eq_true rfl) ?_
  exact W.iret (v := 0) hx hb hr (fun t ht hW => ⟨⟨0, (), rfl, rfl, by rw [ht]; exact hP9, va_K.moved hW.alike hK9, hD9⟩, hS.F ht⟩) hS.2.2 dX7_kind_62

def z_wX7_kind_1 : List Cond := .code yX7_kind cX7_kind 2 (some .int) :: ([.fieldLink RX7 49 "LessonMaker$Reader" "next" "I", .fieldLink RX7 34 "LessonMaker$Reader" "tokens" "LLessonMaker$Tokens;", .fieldLink RX7 138 "LessonMaker$Tokens" "size" "I", .fieldLink RX7 212 "LessonMaker$Tokens" "kinds" "[I"] ++ (u_ws RX7 TX7 12 ++ u_ws RX8 TX8 6))
set_option maxHeartbeats 4000000 in
set_option maxRecDepth 100000 in
theorem c_X7_kind_1 (l : Launch) (dC : Nat → ClassId) (dI : Nat → Nat → Nat) (h0 : Nat) (sp : Nat) (tk : Nat) (cd : Nat) (r1 : Nat) (r2 : Nat) (r3 : Nat) (r4 : Nat) (tx : Nat) (kd : Nat) (pl : Nat) (wd : Nat) (k2 : ClassId) (f2 : Nat → Int32) (sz : Nat) : Met l yX7_kind z_wX7_kind_1 ({ frames := 0, cells := 0, slots := 0, locals := 0 }) (va_Pc [.ref h0] (z_in dC dI [(h0, .inr (7, [.int 0, .int 1, .int 0, .ref sp, .ref tk, .ref cd, .int 0, .ref r1, .ref r2, .ref r3, .ref r4, .int 0])), (tk, .inr (8, [.ref tx, .int 0, .ref kd, .ref pl, .ref wd, .int 1])), (kd, .inl (k2, 601, .inl (upd f2 (Int32.toNatClampNeg 0) 0)))] [(k2, .int)] sz)) (va_Qi (fun (r : Int32) (_ : Unit) => r = 0) (fun (_ : Unit) t => z_out dC dI (va_A [(h0, .inr (7, [.int 0, .int 1, .int 0, .ref sp, .ref tk, .ref cd, .int 0, .ref r1, .ref r2, .ref r3, .ref r4, .int 0])), (tk, .inr (8, [.ref tx, .int 0, .ref kd, .ref pl, .ref wd, .int 1])), (kd, .inl (k2, 601, .inl (upd f2 (Int32.toNatClampNeg 0) 0)))] sz) [(h0, .inr (7, [.int 0, .int 1, .int 0, .ref sp, .ref tk, .ref cd, .int 0, .ref r1, .ref r2, .ref r3, .ref r4, .int 0])), (tk, .inr (8, [.ref tx, .int 0, .ref kd, .ref pl, .ref wd, .int 1])), (kd, .inl (k2, 601, .inl (upd f2 (Int32.toNatClampNeg 0) 0)))] [(k2, .int)] t) (va_A [(h0, .inr (7, [.int 0, .int 1, .int 0, .ref sp, .ref tk, .ref cd, .int 0, .ref r1, .ref r2, .ref r3, .ref r4, .int 0])), (tk, .inr (8, [.ref tx, .int 0, .ref kd, .ref pl, .ref wd, .int 1])), (kd, .inl (k2, 601, .inl (upd f2 (Int32.toNatClampNeg 0) 0)))] sz)) 0 0 (va_A [(h0, .inr (7, [.int 0, .int 1, .int 0, .ref sp, .ref tk, .ref cd, .int 0, .ref r1, .ref r2, .ref r3, .ref r4, .int 0])), (tk, .inr (8, [.ref tx, .int 0, .ref kd, .ref pl, .ref wd, .int 1])), (kd, .inl (k2, 601, .inl (upd f2 (Int32.toNatClampNeg 0) 0)))] sz) := by
  refine Met.ofW (cc := cX7_kind) (maxL := 2) (ret := (some .int)) (by decide) rfl ?_
  intro p e s m args below meth c s₁ B hml hv
  obtain ⟨rfl, hsz, hP, hK, hD0, hN⟩ := hv
  have hx := B.exec
  have hb := B.bytes
  have hr := B.returns
  have hts := atoms_spec (ws := z_wX7_kind_1) B.pre
  have hown : s.vm.findClass RX7 = some m.cls := findClass_of_methodNamed B.named
  have hlocks := B.notSynchronized
  have hin_7 : ∀ w ∈ u_ws RX7 TX7 12, w ∈ z_wX7_kind_1 := by decide +kernel
  have hin_8 : ∀ w ∈ u_ws RX8 TX8 6, w ∈ z_wX7_kind_1 := by decide +kernel
  subst hsz
  have hD := hD0.self (sz := s.heap.size)
  generalize hAe : va_A [(h0, .inr (7, [.int 0, .int 1, .int 0, .ref sp, .ref tk, .ref cd, .int 0, .ref r1, .ref r2, .ref r3, .ref r4, .int 0])), (tk, .inr (8, [.ref tx, .int 0, .ref kd, .ref pl, .ref wd, .int 1])), (kd, .inl (k2, 601, .inl (upd f2 (Int32.toNatClampNeg 0) 0)))] s.heap.size = A at hD ⊢
  have hA : ∀ q : Nat, s.heap.size ≤ q → A q := fun q h => by rw [← hAe]; exact Or.inr h
  have hS : va_S A s.heap s.heap [] := va_S.rf
  have hP : va_P (dC, dI) z_Cl [(h0, .inr (7, [.int 0, .int 1, .int 0, .ref sp, .ref tk, .ref cd, .int 0, .ref r1, .ref r2, .ref r3, .ref r4, .int 0])), (tk, .inr (8, [.ref tx, .int 0, .ref kd, .ref pl, .ref wd, .int 1])), (kd, .inl (k2, 601, .inl (upd f2 (Int32.toNatClampNeg 0) 0)))] s.heap := hP
  have hl := lv_entry ([.ref h0]) (n := 2) (Nat.le_of_ble_eq_true rfl)
  rw [lg_entry_eq]
  generalize (lg_sl ([.ref h0]) ++ List.replicate (2 - (lg_sl ([.ref h0])).length) Slot.unset).toArray = ls at hl ⊢
  have hl : lv_has ls 2 [(0, .ref h0)] := hl
  refine lv_aload_n hx hb dX7_kind_0 rfl (lv_at hl 0 rfl) ?_
  refine va_get (D := (dC, dI)) (ci := 7) (v := .int 0) (C := RX7) (T := TX7) (N := 12) hx hb hts hin_7 hown hK hP 0 rfl rfl 6 (by decide) (hts (.fieldLink RX7 49 "LessonMaker$Reader" "next" "I") (List.mem_of_getElem? (i := 1) rfl)) (fun _ h9 => h9) rfl dX7_kind_1 ?_
  refine lv_if_lt (tgt := 40) hx hb dX7_kind_4 (by decide) (fun h9 => absurd h9 (by decide)) (fun _ => ?_)
  refine lv_aload_n hx hb dX7_kind_7 rfl (lv_at hl 0 rfl) ?_
  refine va_get (D := (dC, dI)) (ci := 7) (v := .int 0) (C := RX7) (T := TX7) (N := 12) hx hb hts hin_7 hown hK hP 0 rfl rfl 6 (by decide) (hts (.fieldLink RX7 49 "LessonMaker$Reader" "next" "I") (List.mem_of_getElem? (i := 1) rfl)) (fun _ h9 => h9) rfl dX7_kind_8 ?_
  refine lv_aload_n hx hb dX7_kind_11 rfl (lv_at hl 0 rfl) ?_
  refine va_get (D := (dC, dI)) (ci := 7) (v := .ref tk) (C := RX7) (T := TX7) (N := 12) hx hb hts hin_7 hown hK hP 0 rfl rfl 4 (by decide) (hts (.fieldLink RX7 34 "LessonMaker$Reader" "tokens" "LLessonMaker$Tokens;") (List.mem_of_getElem? (i := 2) rfl)) (fun _ h9 => h9) rfl dX7_kind_12 ?_
  refine va_get (D := (dC, dI)) (ci := 8) (v := .int 1) (C := RX8) (T := TX8) (N := 6) hx hb hts hin_8 hown hK hP 1 rfl rfl 5 (by decide) (hts (.fieldLink RX7 138 "LessonMaker$Tokens" "size" "I") (List.mem_of_getElem? (i := 3) rfl)) (fun _ h9 => h9) rfl dX7_kind_15 ?_
  refine lv_icmp_ge (tgt := 40) hx hb dX7_kind_18 (by decide) (fun h9 => absurd h9 (by decide)) (fun _ => ?_)
  refine lv_aload_n hx hb dX7_kind_21 rfl (lv_at hl 0 rfl) ?_
  refine va_get (D := (dC, dI)) (ci := 7) (v := .int 0) (C := RX7) (T := TX7) (N := 12) hx hb hts hin_7 hown hK hP 0 rfl rfl 6 (by decide) (hts (.fieldLink RX7 49 "LessonMaker$Reader" "next" "I") (List.mem_of_getElem? (i := 1) rfl)) (fun _ h9 => h9) rfl dX7_kind_22 ?_
  refine lv_aload_n hx hb dX7_kind_25 rfl (lv_at hl 0 rfl) ?_
  refine va_get (D := (dC, dI)) (ci := 7) (v := .ref tk) (C := RX7) (T := TX7) (N := 12) hx hb hts hin_7 hown hK hP 0 rfl rfl 4 (by decide) (hts (.fieldLink RX7 34 "LessonMaker$Reader" "tokens" "LLessonMaker$Tokens;") (List.mem_of_getElem? (i := 2) rfl)) (fun _ h9 => h9) rfl dX7_kind_26 ?_
  refine va_get (D := (dC, dI)) (ci := 8) (v := .ref kd) (C := RX8) (T := TX8) (N := 6) hx hb hts hin_8 hown hK hP 1 rfl rfl 2 (by decide) (hts (.fieldLink RX7 212 "LessonMaker$Tokens" "kinds" "[I") (List.mem_of_getElem? (i := 4) rfl)) (fun _ h9 => h9) rfl dX7_kind_29 ?_
  refine va_alen hx hb hK hP 2 0 rfl rfl (v := 601) rfl dX7_kind_32 ?_
  refine lv_icmp_ge (tgt := 40) hx hb dX7_kind_33 (by decide) (fun h9 => absurd h9 (by decide)) (fun _ => ?_)
  refine lv_iconst (v := 1) hx hb dX7_kind_36 (by decide) ?_
  refine lv_goto (tgt := 41) hx hb dX7_kind_37 (by decide) ?_
  refine lv_istore_n (lv' := [(1, .int 1), (0, .ref h0)]) hx hb dX7_kind_41 rfl hl (by decide) rfl (fun ls hl => ?_)
  refine lv_iload_n hx hb dX7_kind_42 rfl (lv_at hl 0 rfl) ?_
  refine lv_if_eq (tgt := 61) hx hb dX7_kind_43 (by decide) (fun h9 => absurd h9 (by decide)) (fun _ => ?_)
  refine lv_aload_n hx hb dX7_kind_46 rfl (lv_at hl 1 rfl) ?_
  refine va_get (D := (dC, dI)) (ci := 7) (v := .ref tk) (C := RX7) (T := TX7) (N := 12) hx hb hts hin_7 hown hK hP 0 rfl rfl 4 (by decide) (hts (.fieldLink RX7 34 "LessonMaker$Reader" "tokens" "LLessonMaker$Tokens;") (List.mem_of_getElem? (i := 2) rfl)) (fun _ h9 => h9) rfl dX7_kind_47 ?_
  refine va_get (D := (dC, dI)) (ci := 8) (v := .ref kd) (C := RX8) (T := TX8) (N := 6) hx hb hts hin_8 hown hK hP 1 rfl rfl 2 (by decide) (hts (.fieldLink RX7 212 "LessonMaker$Tokens" "kinds" "[I") (List.mem_of_getElem? (i := 4) rfl)) (fun _ h9 => h9) rfl dX7_kind_50 ?_
  refine lv_aload_n hx hb dX7_kind_53 rfl (lv_at hl 1 rfl) ?_
  refine va_get (D := (dC, dI)) (ci := 7) (v := .int 0) (C := RX7) (T := TX7) (N := 12) hx hb hts hin_7 hown hK hP 0 rfl rfl 6 (by decide) (hts (.fieldLink RX7 49 "LessonMaker$Reader" "next" "I") (List.mem_of_getElem? (i := 1) rfl)) (fun _ h9 => h9) rfl dX7_kind_54 ?_
  refine va_iald hx hb hK hP 2 0 rfl rfl (i := 0) (z_io (by decide)) dX7_kind_57 ?_
  refine lv_topi (fun x_1 ex_1 => ?_)
  have ex_1 : x_1 = 0 := ex_1.trans pk_us
  subst ex_1
  refine lv_goto (tgt := 62) hx hb dX7_kind_58 (by decide) ?_
  have hP9 := hP.sub (ws' := [(h0, .inr (7, [.int 0, .int 1, .int 0, .ref sp, .ref tk, .ref cd, .int 0, .ref r1, .ref r2, .ref r3, .ref r4, .int 0])), (tk, .inr (8, [.ref tx, .int 0, .ref kd, .ref pl, .ref wd, .int 1])), (kd, .inl (k2, 601, .inl (upd f2 (Int32.toNatClampNeg 0) 0)))]) [0, 1, 2] rfl
  have hD9 := hD.sub (ws' := [(h0, .inr (7, [.int 0, .int 1, .int 0, .ref sp, .ref tk, .ref cd, .int 0, .ref r1, .ref r2, .ref r3, .ref r4, .int 0])), (tk, .inr (8, [.ref tx, .int 0, .ref kd, .ref pl, .ref wd, .int 1])), (kd, .inl (k2, 601, .inl (upd f2 (Int32.toNatClampNeg 0) 0)))]) [0, 1, 2] (by decide) rfl
  have hK9 := hK.sub (tys' := [(k2, .int)]) [0] rfl
  refine W.widen (k := 0) (n := 0) (Nat.le_of_ble_eq_true rfl) (Nat.le_of_ble_eq_true rfl) ?_
  exact W.iret (v := 0) hx hb hr (fun t ht hW => ⟨⟨0, (), rfl, rfl, by rw [ht]; exact hP9, va_K.moved hW.alike hK9, hD9⟩, hS.F ht⟩) hS.2.2 dX7_kind_62

def z_wX7_fail : List Cond := .code yX7_fail cX7_fail 2 none :: ([.fieldLink RX7 56 "LessonMaker$Reader" "foundFault" "I", .fieldLink RX7 49 "LessonMaker$Reader" "next" "I", .fieldLink RX7 59 "LessonMaker$Reader" "faultToken" "I", .fieldLink RX7 34 "LessonMaker$Reader" "tokens" "LLessonMaker$Tokens;", .fieldLink RX7 138 "LessonMaker$Tokens" "size" "I"] ++ (u_ws RX7 TX7 12 ++ u_ws RX8 TX8 6))
set_option maxHeartbeats 4000000 in
set_option maxRecDepth 100000 in
theorem c_X7_fail (l : Launch) (dC : Nat → ClassId) (dI : Nat → Nat → Nat) (h0 : Nat) (sp : Nat) (tk : Nat) (cd : Nat) (r1 : Nat) (r2 : Nat) (r3 : Nat) (r4 : Nat) (tx : Nat) (kd : Nat) (pl : Nat) (wd : Nat) (sz : Nat) : Met l yX7_fail z_wX7_fail ({ frames := 0, cells := 0, slots := 0, locals := 0 }) (va_Pc [.ref h0, .int 1] (z_in dC dI [(h0, .inr (7, [.int 0, .int 0, .int 0, .ref sp, .ref tk, .ref cd, .int 0, .ref r1, .ref r2, .ref r3, .ref r4, .int 0])), (tk, .inr (8, [.ref tx, .int 0, .ref kd, .ref pl, .ref wd, .int 1]))] [] sz)) (va_Qv (fun _ : Unit => True) (fun (_ : Unit) t => z_out dC dI (va_A [(h0, .inr (7, [.int 0, .int 0, .int 0, .ref sp, .ref tk, .ref cd, .int 0, .ref r1, .ref r2, .ref r3, .ref r4, .int 0])), (tk, .inr (8, [.ref tx, .int 0, .ref kd, .ref pl, .ref wd, .int 1]))] sz) [(h0, .inr (7, [.int 0, .int 1, .int 0, .ref sp, .ref tk, .ref cd, .int 0, .ref r1, .ref r2, .ref r3, .ref r4, .int 0])), (tk, .inr (8, [.ref tx, .int 0, .ref kd, .ref pl, .ref wd, .int 1]))] [] t) (va_A [(h0, .inr (7, [.int 0, .int 0, .int 0, .ref sp, .ref tk, .ref cd, .int 0, .ref r1, .ref r2, .ref r3, .ref r4, .int 0])), (tk, .inr (8, [.ref tx, .int 0, .ref kd, .ref pl, .ref wd, .int 1]))] sz)) 0 0 (va_A [(h0, .inr (7, [.int 0, .int 0, .int 0, .ref sp, .ref tk, .ref cd, .int 0, .ref r1, .ref r2, .ref r3, .ref r4, .int 0])), (tk, .inr (8, [.ref tx, .int 0, .ref kd, .ref pl, .ref wd, .int 1]))] sz) := by
  refine Met.ofW (cc := cX7_fail) (maxL := 2) (ret := none) (by decide) rfl ?_
  intro p e s m args below meth c s₁ B hml hv
  obtain ⟨rfl, hsz, hP, hK, hD0, hN⟩ := hv
  have hx := B.exec
  have hb := B.bytes
  have hr := B.returns
  have hts := atoms_spec (ws := z_wX7_fail) B.pre
  have hown : s.vm.findClass RX7 = some m.cls := findClass_of_methodNamed B.named
  have hlocks := B.notSynchronized
  have hin_7 : ∀ w ∈ u_ws RX7 TX7 12, w ∈ z_wX7_fail := by decide +kernel
  have hin_8 : ∀ w ∈ u_ws RX8 TX8 6, w ∈ z_wX7_fail := by decide +kernel
  subst hsz
  have hD := hD0.self (sz := s.heap.size)
  generalize hAe : va_A [(h0, .inr (7, [.int 0, .int 0, .int 0, .ref sp, .ref tk, .ref cd, .int 0, .ref r1, .ref r2, .ref r3, .ref r4, .int 0])), (tk, .inr (8, [.ref tx, .int 0, .ref kd, .ref pl, .ref wd, .int 1]))] s.heap.size = A at hD ⊢
  have hA : ∀ q : Nat, s.heap.size ≤ q → A q := fun q h => by rw [← hAe]; exact Or.inr h
  have hS : va_S A s.heap s.heap [] := va_S.rf
  have hP : va_P (dC, dI) z_Cl [(h0, .inr (7, [.int 0, .int 0, .int 0, .ref sp, .ref tk, .ref cd, .int 0, .ref r1, .ref r2, .ref r3, .ref r4, .int 0])), (tk, .inr (8, [.ref tx, .int 0, .ref kd, .ref pl, .ref wd, .int 1]))] s.heap := hP
  have hl := lv_entry ([.ref h0, .int 1]) (n := 2) (Nat.le_of_ble_eq_true rfl)
  rw [lg_entry_eq]
  generalize (lg_sl ([.ref h0, .int 1]) ++ List.replicate (2 - (lg_sl ([.ref h0, .int 1])).length) Slot.unset).toArray = ls at hl ⊢
  have hl : lv_has ls 2 [(0, .ref h0), (1, .int 1)] := hl
  refine lv_aload_n hx hb dX7_fail_0 rfl (lv_at hl 0 rfl) ?_
  refine va_get (D := (dC, dI)) (ci := 7) (v := .int 0) (C := RX7) (T := TX7) (N := 12) hx hb hts hin_7 hown hK hP 0 rfl rfl 1 (by decide) (hts (.fieldLink RX7 56 "LessonMaker$Reader" "foundFault" "I") (List.mem_of_getElem? (i := 1) rfl)) (fun _ h9 => h9) rfl dX7_fail_1 ?_
  refine lv_if_ne (tgt := 20) hx hb dX7_fail_4 (by decide) (fun h9 => absurd (by decide) h9) (fun _ => ?_)
  refine lv_aload_n hx hb dX7_fail_7 rfl (lv_at hl 0 rfl) ?_
  refine lv_iload_n hx hb dX7_fail_8 rfl (lv_at hl 1 rfl) ?_
  refine va_put (D := (dC, dI)) (ci := 7) (v := .int 1) (ty := .int) (C := RX7) (T := TX7) (N := 12) hx hb hts hin_7 tyX7 tyX7_ok nmX7 hown hK hP hD hS 0 rfl rfl 1 (by decide) (hts (.fieldLink RX7 56 "LessonMaker$Reader" "foundFault" "I") (List.mem_of_getElem? (i := 1) rfl)) (fun _ h9 => h9) rfl (by decide +kernel) rfl rfl (Nat.le_of_ble_eq_true rfl) dX7_fail_9 (fun H locs hP hD hS => ?_)
  have hP : va_P (dC, dI) z_Cl [(h0, .inr (7, [.int 0, .int 1, .int 0, .ref sp, .ref tk, .ref cd, .int 0, .ref r1, .ref r2, .ref r3, .ref r4, .int 0])), (tk, .inr (8, [.ref tx, .int 0, .ref kd, .ref pl, .ref wd, .int 1]))] H := hP
  have hD : va_D A [(h0, .inr (7, [.int 0, .int 1, .int 0, .ref sp, .ref tk, .ref cd, .int 0, .ref r1, .ref r2, .ref r3, .ref r4, .int 0])), (tk, .inr (8, [.ref tx, .int 0, .ref kd, .ref pl, .ref wd, .int 1]))] := hD
  refine lv_aload_n hx hb dX7_fail_12 rfl (lv_at hl 0 rfl) ?_
  refine lv_aload_n hx hb dX7_fail_13 rfl (lv_at hl 0 rfl) ?_
  refine va_get (D := (dC, dI)) (ci := 7) (v := .int 0) (C := RX7) (T := TX7) (N := 12) hx hb hts hin_7 hown hK hP 0 rfl rfl 6 (by decide) (hts (.fieldLink RX7 49 "LessonMaker$Reader" "next" "I") (List.mem_of_getElem? (i := 2) rfl)) (fun _ h9 => h9) rfl dX7_fail_14 ?_
  refine va_put (D := (dC, dI)) (ci := 7) (v := .int 0) (ty := .int) (C := RX7) (T := TX7) (N := 12) hx hb hts hin_7 tyX7 tyX7_ok nmX7 hown hK hP hD hS 0 rfl rfl 2 (by decide) (hts (.fieldLink RX7 59 "LessonMaker$Reader" "faultToken" "I") (List.mem_of_getElem? (i := 3) rfl)) (fun _ h9 => h9) rfl (by decide +kernel) rfl rfl (Nat.le_of_ble_eq_true rfl) dX7_fail_17 (fun H locs hP hD hS => ?_)
  have hP : va_P (dC, dI) z_Cl [(h0, .inr (7, [.int 0, .int 1, .int 0, .ref sp, .ref tk, .ref cd, .int 0, .ref r1, .ref r2, .ref r3, .ref r4, .int 0])), (tk, .inr (8, [.ref tx, .int 0, .ref kd, .ref pl, .ref wd, .int 1]))] H := hP
  have hD : va_D A [(h0, .inr (7, [.int 0, .int 1, .int 0, .ref sp, .ref tk, .ref cd, .int 0, .ref r1, .ref r2, .ref r3, .ref r4, .int 0])), (tk, .inr (8, [.ref tx, .int 0, .ref kd, .ref pl, .ref wd, .int 1]))] := hD
  refine lv_aload_n hx hb dX7_fail_20 rfl (lv_at hl 0 rfl) ?_
  refine lv_aload_n hx hb dX7_fail_21 rfl (lv_at hl 0 rfl) ?_
  refine va_get (D := (dC, dI)) (ci := 7) (v := .ref tk) (C := RX7) (T := TX7) (N := 12) hx hb hts hin_7 hown hK hP 0 rfl rfl 4 (by decide) (hts (.fieldLink RX7 34 "LessonMaker$Reader" "tokens" "LLessonMaker$Tokens;") (List.mem_of_getElem? (i := 4) rfl)) (fun _ h9 => h9) rfl dX7_fail_22 ?_
  refine va_get (D := (dC, dI)) (ci := 8) (v := .int 1) (C := RX8) (T := TX8) (N := 6) hx hb hts hin_8 hown hK hP 1 rfl rfl 5 (by decide) (hts (.fieldLink RX7 138 "LessonMaker$Tokens" "size" "I") (List.mem_of_getElem? (i := 5) rfl)) (fun _ h9 => h9) rfl dX7_fail_25 ?_
  refine lv_iconst (v := 1) hx hb dX7_fail_28 (by decide) ?_
  refine lv_isub hx hb dX7_fail_29 ?_
  refine lv_topi (fun x_1 ex_1 => ?_)
  have ex_1 := ex_1.trans (show _ = (0 : Int32) by decide)
  subst ex_1
  refine va_put (D := (dC, dI)) (ci := 7) (v := .int 0) (ty := .int) (C := RX7) (T := TX7) (N := 12) hx hb hts hin_7 tyX7 tyX7_ok nmX7 hown hK hP hD hS 0 rfl rfl 6 (by decide) (hts (.fieldLink RX7 49 "LessonMaker$Reader" "next" "I") (List.mem_of_getElem? (i := 2) rfl)) (fun _ h9 => h9) rfl (by decide +kernel) rfl rfl (Nat.le_of_ble_eq_true rfl) dX7_fail_30 (fun H locs hP hD hS => ?_)
  have hP : va_P (dC, dI) z_Cl [(h0, .inr (7, [.int 0, .int 1, .int 0, .ref sp, .ref tk, .ref cd, .int 0, .ref r1, .ref r2, .ref r3, .ref r4, .int 0])), (tk, .inr (8, [.ref tx, .int 0, .ref kd, .ref pl, .ref wd, .int 1]))] H := hP
  have hD : va_D A [(h0, .inr (7, [.int 0, .int 1, .int 0, .ref sp, .ref tk, .ref cd, .int 0, .ref r1, .ref r2, .ref r3, .ref r4, .int 0])), (tk, .inr (8, [.ref tx, .int 0, .ref kd, .ref pl, .ref wd, .int 1]))] := hD
  have hP9 := hP.sub (ws' := [(h0, .inr (7, [.int 0, .int 1, .int 0, .ref sp, .ref tk, .ref cd, .int 0, .ref r1, .ref r2, .ref r3, .ref r4, .int 0])), (tk, .inr (8, [.ref tx, .int 0, .ref kd, .ref pl, .ref wd, .int 1]))]) [0, 1] rfl
  have hD9 := hD.sub (ws' := [(h0, .inr (7, [.int 0, .int 1, .int 0, .ref sp, .ref tk, .ref cd, .int 0, .ref r1, .ref r2, .ref r3, .ref r4, .int 0])), (tk, .inr (8, [.ref tx, .int 0, .ref kd, .ref pl, .ref wd, .int 1]))]) [0, 1] (by decide) rfl
  have hK9 := hK.sub (tys' := []) [] rfl
  refine W.widen (k := 0) (n := 0) (Nat.le_of_ble_eq_true rfl) (Nat.le_of_ble_eq_true rfl) ?_
  exact W.vret hx hb hr (fun t ht hW => ⟨⟨(), rfl, trivial, by rw [ht]; exact hP9, va_K.moved hW.alike hK9, hD9⟩, hS.F ht⟩) hS.2.2 dX7_fail_33

def z_wX7_readFunction : List Cond := .code yX7_readFunction cX7_readFunction 3 none :: ([.fieldLink RX7 49 "LessonMaker$Reader" "next" "I", .fieldLink RX7 34 "LessonMaker$Reader" "tokens" "LLessonMaker$Tokens;", .fieldLink RX7 138 "LessonMaker$Tokens" "size" "I", .fieldLink RX7 212 "LessonMaker$Tokens" "kinds" "[I", .methodLink RX7 65 yX7_kind, .instanceMethod yX7_kind, .selects RX7 yX7_kind yX7_kind, .initialized RX7, .code yX7_kind cX7_kind 2 (some .int), .fieldLink RX7 56 "LessonMaker$Reader" "foundFault" "I", .fieldLink RX7 59 "LessonMaker$Reader" "faultToken" "I", .methodLink RX7 79 yX7_fail, .instanceMethod yX7_fail, .selects RX7 yX7_fail yX7_fail, .code yX7_fail cX7_fail 2 none] ++ (u_ws RX7 TX7 12 ++ u_ws RX8 TX8 6))
set_option maxRecDepth 20000 in
theorem c_X7_readFunction_zg_1 : GoodIn z_wX7_readFunction (wsV RX7 65 RX7 yX7_kind z_wX7_kind_0) := goodIn_r _ [5, 6, 7, 8, 9, 1, 2, 3, 4, 16, 17, 18, 19, 20, 21, 22, 23, 24, 25, 26, 27, 28, 29, 30, 31, 32, 33] (by decide +kernel) (by decide +kernel)
set_option maxRecDepth 20000 in
theorem c_X7_readFunction_zg_3 : GoodIn z_wX7_readFunction (wsV RX7 79 RX7 yX7_fail z_wX7_fail) := goodIn_r _ [12, 13, 14, 8, 15, 10, 1, 11, 2, 3, 16, 17, 18, 19, 20, 21, 22, 23, 24, 25, 26, 27, 28, 29, 30, 31, 32, 33] (by decide +kernel) (by decide +kernel)
set_option maxHeartbeats 4000000 in
set_option maxRecDepth 100000 in
theorem c_X7_readFunction (l : Launch) (dC : Nat → ClassId) (dI : Nat → Nat → Nat) (h0 : Nat) (sp : Nat) (tk : Nat) (cd : Nat) (r1 : Nat) (r2 : Nat) (r3 : Nat) (r4 : Nat) (tx : Nat) (kd : Nat) (pl : Nat) (wd : Nat) (k2 : ClassId) (f2 : Nat → Int32) (sz : Nat) : Met l yX7_readFunction z_wX7_readFunction ({ frames := 1, cells := 0, slots := 0, locals := 21 }) (va_Pc [.ref h0] (z_in dC dI [(h0, .inr (7, [.int 0, .int 0, .int 0, .ref sp, .ref tk, .ref cd, .int 0, .ref r1, .ref r2, .ref r3, .ref r4, .int 0])), (tk, .inr (8, [.ref tx, .int 0, .ref kd, .ref pl, .ref wd, .int 1])), (kd, .inl (k2, 601, .inl (upd f2 (Int32.toNatClampNeg 0) 0)))] [(k2, .int)] sz)) (va_Qv (fun _ : Unit => True) (fun (_ : Unit) t => z_out dC dI (va_A [(h0, .inr (7, [.int 0, .int 0, .int 0, .ref sp, .ref tk, .ref cd, .int 0, .ref r1, .ref r2, .ref r3, .ref r4, .int 0])), (tk, .inr (8, [.ref tx, .int 0, .ref kd, .ref pl, .ref wd, .int 1])), (kd, .inl (k2, 601, .inl (upd f2 (Int32.toNatClampNeg 0) 0)))] sz) [(h0, .inr (7, [.int 0, .int 1, .int 0, .ref sp, .ref tk, .ref cd, .int 0, .ref r1, .ref r2, .ref r3, .ref r4, .int 0])), (tk, .inr (8, [.ref tx, .int 0, .ref kd, .ref pl, .ref wd, .int 1])), (kd, .inl (k2, 601, .inl (upd f2 (Int32.toNatClampNeg 0) 0)))] [(k2, .int)] t) (va_A [(h0, .inr (7, [.int 0, .int 0, .int 0, .ref sp, .ref tk, .ref cd, .int 0, .ref r1, .ref r2, .ref r3, .ref r4, .int 0])), (tk, .inr (8, [.ref tx, .int 0, .ref kd, .ref pl, .ref wd, .int 1])), (kd, .inl (k2, 601, .inl (upd f2 (Int32.toNatClampNeg 0) 0)))] sz)) 0 0 (va_A [(h0, .inr (7, [.int 0, .int 0, .int 0, .ref sp, .ref tk, .ref cd, .int 0, .ref r1, .ref r2, .ref r3, .ref r4, .int 0])), (tk, .inr (8, [.ref tx, .int 0, .ref kd, .ref pl, .ref wd, .int 1])), (kd, .inl (k2, 601, .inl (upd f2 (Int32.toNatClampNeg 0) 0)))] sz) := by
  refine Met.ofW (cc := cX7_readFunction) (maxL := 3) (ret := none) (by decide) rfl ?_
  intro p e s m args below meth c s₁ B hml hv
  obtain ⟨rfl, hsz, hP, hK, hD0, hN⟩ := hv
  have hx := B.exec
  have hb := B.bytes
  have hr := B.returns
  have hts := atoms_spec (ws := z_wX7_readFunction) B.pre
  have hown : s.vm.findClass RX7 = some m.cls := findClass_of_methodNamed B.named
  have hlocks := B.notSynchronized
  subst hsz
  have hD := hD0.self (sz := s.heap.size)
  generalize hAe : va_A [(h0, .inr (7, [.int 0, .int 0, .int 0, .ref sp, .ref tk, .ref cd, .int 0, .ref r1, .ref r2, .ref r3, .ref r4, .int 0])), (tk, .inr (8, [.ref tx, .int 0, .ref kd, .ref pl, .ref wd, .int 1])), (kd, .inl (k2, 601, .inl (upd f2 (Int32.toNatClampNeg 0) 0)))] s.heap.size = A at hD ⊢
  have hA : ∀ q : Nat, s.heap.size ≤ q → A q := fun q h => by rw [← hAe]; exact Or.inr h
  have hS : va_S A s.heap s.heap [] := va_S.rf
  have hP : va_P (dC, dI) z_Cl [(h0, .inr (7, [.int 0, .int 0, .int 0, .ref sp, .ref tk, .ref cd, .int 0, .ref r1, .ref r2, .ref r3, .ref r4, .int 0])), (tk, .inr (8, [.ref tx, .int 0, .ref kd, .ref pl, .ref wd, .int 1])), (kd, .inl (k2, 601, .inl (upd f2 (Int32.toNatClampNeg 0) 0)))] s.heap := hP
  have hl := lv_entry ([.ref h0]) (n := 3) (Nat.le_of_ble_eq_true rfl)
  rw [lg_entry_eq]
  generalize (lg_sl ([.ref h0]) ++ List.replicate (3 - (lg_sl ([.ref h0])).length) Slot.unset).toArray = ls at hl ⊢
  have hl : lv_has ls 3 [(0, .ref h0)] := hl
  refine lv_aload_n hx hb dX7_readFunction_0 rfl (lv_at hl 0 rfl) ?_
  have hPc := hP.sub (ws' := [(h0, .inr (7, [.int 0, .int 0, .int 0, .ref sp, .ref tk, .ref cd, .int 0, .ref r1, .ref r2, .ref r3, .ref r4, .int 0])), (tk, .inr (8, [.ref tx, .int 0, .ref kd, .ref pl, .ref wd, .int 1])), (kd, .inl (k2, 601, .inl (upd f2 (Int32.toNatClampNeg 0) 0)))]) [0, 1, 2] rfl
  have hDc := hD.sub (ws' := [(h0, .inr (7, [.int 0, .int 0, .int 0, .ref sp, .ref tk, .ref cd, .int 0, .ref r1, .ref r2, .ref r3, .ref r4, .int 0])), (tk, .inr (8, [.ref tx, .int 0, .ref kd, .ref pl, .ref wd, .int 1])), (kd, .inl (k2, 601, .inl (upd f2 (Int32.toNatClampNeg 0) 0)))]) [0, 1, 2] (by decide) rfl
  have hKc := hK.sub (tys' := [(k2, .int)]) [0] rfl
  have hFc := va_free (wc := [(h0, .inr (7, [.int 0, .int 0, .int 0, .ref sp, .ref tk, .ref cd, .int 0, .ref r1, .ref r2, .ref r3, .ref r4, .int 0])), (tk, .inr (8, [.ref tx, .int 0, .ref kd, .ref pl, .ref wd, .int 1])), (kd, .inl (k2, 601, .inl (upd f2 (Int32.toNatClampNeg 0) 0)))]) hD hS hA [0, 1, 2] rfl
  refine va_calli (va_runV (As := []) (rest := []) ⟨hx, hb, hml, hown, hts⟩ (c_X7_kind_0 l dC dI h0 sp tk cd r1 r2 r3 r4 tx kd pl wd k2 f2 s.heap.size) (cwV 0 hts c_X7_readFunction_zg_1 rfl rfl rfl (by decide +kernel) ⟨(Nat.le_of_ble_eq_true rfl), (Nat.le_of_ble_eq_true rfl)⟩) ⟨z_blind, va_recv hKc hPc (ci := 7) (q0 := 0) rfl rfl, z_pre hPc hKc hDc hN⟩ rfl rfl hl.1 rfl (lv_room (Nat.le_of_ble_eq_true rfl)) dX7_readFunction_1 ⟨(Nat.le_of_ble_eq_true rfl), (Nat.le_of_ble_eq_true rfl)⟩) hS (fun q _ h => hFc q h) hFc (fun r_2 u t H1 locs ht hvm hw hB hz1 hk1 hS => ?_)
  obtain ⟨hP1, hK1, hD1⟩ := hB
  rw [ht] at hP1
  have hK1 := va_K.moved hvm.symm hK1
  obtain ⟨hP, hD⟩ := va_join (wr := []) (w1 := [(h0, .inr (7, [.int 0, .int 0, .int 0, .ref sp, .ref tk, .ref cd, .int 0, .ref r1, .ref r2, .ref r3, .ref r4, .int 0])), (tk, .inr (8, [.ref tx, .int 0, .ref kd, .ref pl, .ref wd, .int 1])), (kd, .inl (k2, 601, .inl (upd f2 (Int32.toNatClampNeg 0) 0)))]) hP hD [0, 1, 2] [] rfl rfl (by decide) (by decide) hk1 hFc hP1 hD1
  have hK := (hK.sub (tys' := [(k2, .int)]) [0] rfl).app hK1
  generalize H1 = H at hP hS ⊢
  have hP : va_P (dC, dI) z_Cl [(h0, .inr (7, [.int 0, .int 0, .int 0, .ref sp, .ref tk, .ref cd, .int 0, .ref r1, .ref r2, .ref r3, .ref r4, .int 0])), (tk, .inr (8, [.ref tx, .int 0, .ref kd, .ref pl, .ref wd, .int 1])), (kd, .inl (k2, 601, .inl (upd f2 (Int32.toNatClampNeg 0) 0)))] H := hP
  have hD : va_D A [(h0, .inr (7, [.int 0, .int 0, .int 0, .ref sp, .ref tk, .ref cd, .int 0, .ref r1, .ref r2, .ref r3, .ref r4, .int 0])), (tk, .inr (8, [.ref tx, .int 0, .ref kd, .ref pl, .ref wd, .int 1])), (kd, .inl (k2, 601, .inl (upd f2 (Int32.toNatClampNeg 0) 0)))] := hD
  have hK : va_K (dC, dI) z_Cl [(k2, .int), (k2, .int)] s := hK
  have hK := hK.sub (tys' := [(k2, .int)]) [0] rfl
  have hw : r_2 = 0 := hw
  subst hw
  refine lv_iconst (v := 5) hx hb dX7_readFunction_4 (by decide) ?_
  refine lv_icmp_eq (tgt := 14) hx hb dX7_readFunction_5 (by decide) (fun h9 => absurd h9 (by decide)) (fun _ => ?_)
  refine lv_aload_n hx hb dX7_readFunction_8 rfl (lv_at hl 0 rfl) ?_
  refine lv_iconst (v := 1) hx hb dX7_readFunction_9 (by decide) ?_
  have hPc := hP.sub (ws' := [(h0, .inr (7, [.int 0, .int 0, .int 0, .ref sp, .ref tk, .ref cd, .int 0, .ref r1, .ref r2, .ref r3, .ref r4, .int 0])), (tk, .inr (8, [.ref tx, .int 0, .ref kd, .ref pl, .ref wd, .int 1]))]) [0, 1] rfl
  have hDc := hD.sub (ws' := [(h0, .inr (7, [.int 0, .int 0, .int 0, .ref sp, .ref tk, .ref cd, .int 0, .ref r1, .ref r2, .ref r3, .ref r4, .int 0])), (tk, .inr (8, [.ref tx, .int 0, .ref kd, .ref pl, .ref wd, .int 1]))]) [0, 1] (by decide) rfl
  have hKc := hK.sub (tys' := []) [] rfl
  have hFc := va_free (wc := [(h0, .inr (7, [.int 0, .int 0, .int 0, .ref sp, .ref tk, .ref cd, .int 0, .ref r1, .ref r2, .ref r3, .ref r4, .int 0])), (tk, .inr (8, [.ref tx, .int 0, .ref kd, .ref pl, .ref wd, .int 1]))]) hD hS hA [0, 1] rfl
  refine va_callv (va_runV (As := [.int 1]) (rest := []) ⟨hx, hb, hml, hown, hts⟩ (c_X7_fail l dC dI h0 sp tk cd r1 r2 r3 r4 tx kd pl wd H.size) (cwV 1 hts c_X7_readFunction_zg_3 rfl rfl rfl (by decide +kernel) ⟨(Nat.le_of_ble_eq_true rfl), (Nat.le_of_ble_eq_true rfl)⟩) ⟨z_blind, va_recv hKc hPc (ci := 7) (q0 := 0) rfl rfl, z_pre hPc hKc hDc hN⟩ rfl rfl hl.1 rfl (lv_room (Nat.le_of_ble_eq_true rfl)) dX7_readFunction_10 ⟨(Nat.le_of_ble_eq_true rfl), (Nat.le_of_ble_eq_true rfl)⟩) hS (fun q _ h => hFc q h) hFc (fun u t H1 locs ht hvm hw hB hz1 hk1 hS => ?_)
  obtain ⟨hP1, hK1, hD1⟩ := hB
  rw [ht] at hP1
  have hK1 := va_K.moved hvm.symm hK1
  obtain ⟨hP, hD⟩ := va_join (wr := [(kd, .inl (k2, 601, .inl (upd f2 (Int32.toNatClampNeg 0) 0)))]) (w1 := [(h0, .inr (7, [.int 0, .int 1, .int 0, .ref sp, .ref tk, .ref cd, .int 0, .ref r1, .ref r2, .ref r3, .ref r4, .int 0])), (tk, .inr (8, [.ref tx, .int 0, .ref kd, .ref pl, .ref wd, .int 1]))]) hP hD [0, 1] [2] rfl rfl (by decide) (by decide) hk1 hFc hP1 hD1
  have hK := (hK.sub (tys' := [(k2, .int)]) [0] rfl).app hK1
  generalize H1 = H at hP hS ⊢
  have hP : va_P (dC, dI) z_Cl [(kd, .inl (k2, 601, .inl (upd f2 (Int32.toNatClampNeg 0) 0))), (h0, .inr (7, [.int 0, .int 1, .int 0, .ref sp, .ref tk, .ref cd, .int 0, .ref r1, .ref r2, .ref r3, .ref r4, .int 0])), (tk, .inr (8, [.ref tx, .int 0, .ref kd, .ref pl, .ref wd, .int 1]))] H := hP
  have hD : va_D A [(kd, .inl (k2, 601, .inl (upd f2 (Int32.toNatClampNeg 0) 0))), (h0, .inr (7, [.int 0, .int 1, .int 0, .ref sp, .ref tk, .ref cd, .int 0, .ref r1, .ref r2, .ref r3, .ref r4, .int 0])), (tk, .inr (8, [.ref tx, .int 0, .ref kd, .ref pl, .ref wd, .int 1]))] := hD
  have hK : va_K (dC, dI) z_Cl [(k2, .int)] s := hK
  have hP9 := hP.sub (ws' := [(h0, .inr (7, [.int 0, .int 1, .int 0, .ref sp, .ref tk, .ref cd, .int 0, .ref r1, .ref r2, .ref r3, .ref r4, .int 0])), (tk, .inr (8, [.ref tx, .int 0, .ref kd, .ref pl, .ref wd, .int 1])), (kd, .inl (k2, 601, .inl (upd f2 (Int32.toNatClampNeg 0) 0)))]) [1, 2, 0] rfl
  have hD9 := hD.sub (ws' := [(h0, .inr (7, [.int 0, .int 1, .int 0, .ref sp, .ref tk, .ref cd, .int 0, .ref r1, .ref r2, .ref r3, .ref r4, .int 0])), (tk, .inr (8, [.ref tx, .int 0, .ref kd, .ref pl, .ref wd, .int 1])), (kd, .inl (k2, 601, .inl (upd f2 (Int32.toNatClampNeg 0) 0)))]) [1, 2, 0] (by decide) rfl
  have hK9 := hK.sub (tys' := [(k2, .int)]) [0] rfl
  refine W.widen (k := 0) (n := 0) (Nat.le_of_ble_eq_true rfl) (Nat.le_of_ble_eq_true rfl) ?_
  exact W.vret hx hb hr (fun t ht hW => ⟨⟨(), rfl, trivial, by rw [ht]; exact hP9, va_K.moved hW.alike hK9, hD9⟩, hS.F ht⟩) hS.2.2 dX7_readFunction_13

def z_wX7_read : List Cond := .code yX7_read cX7_read 5 (some .int) :: ([.fieldLink RX7 24 "LessonMaker$Reader" "program" "LLessonMaker$Program;", .fieldLink RX7 28 "LessonMaker$Program" "tokens" "LLessonMaker$Tokens;", .fieldLink RX7 34 "LessonMaker$Reader" "tokens" "LLessonMaker$Tokens;", .fieldLink RX7 35 "LessonMaker$Program" "code" "LLessonMaker$Code;", .fieldLink RX7 39 "LessonMaker$Reader" "code" "LLessonMaker$Code;", .fieldLink RX6 39 "LessonMaker$Program" "functionCount" "I", .fieldLink RX6 43 "LessonMaker$Program" "lineCount" "I", .fieldLink RX6 21 "LessonMaker$Program" "code" "LLessonMaker$Code;", .fieldLink RX1 21 "LessonMaker$Code" "size" "I", .methodLink RX6 46 yX1_clear, .instanceMethod yX1_clear, .selects RX1 yX1_clear yX1_clear, .initialized RX1, .code yX1_clear cX1_clear 1 none, .methodLink RX7 40 yX6_clear, .instanceMethod yX6_clear, .selects RX6 yX6_clear yX6_clear, .initialized RX6, .code yX6_clear cX6_clear 1 none, .fieldLink RX8 9 "LessonMaker$Tokens" "text" "[B", .methodLink RX8 25 Lib.Math.min.name, .static Lib.Math.min.name, .initialized "java/lang/Math", .code Lib.Math.min.name Lib.Math.min.code 2 (some .int), .methodLink RX8 31 Lib.Math.max.name, .static Lib.Math.max.name, .code Lib.Math.max.name Lib.Math.max.code 2 (some .int), .fieldLink RX8 34 "LessonMaker$Tokens" "length" "I", .methodLink RX8 38 arraycopyName, .native arraycopyName, .static arraycopyName, .initialized "java/lang/System", .fieldLink RX8 44 "LessonMaker$Tokens" "size" "I", .fieldLink RX8 15 "LessonMaker$Tokens" "kinds" "[I", .fieldLink RX8 19 "LessonMaker$Tokens" "places" "[I", .fieldLink RX8 22 "LessonMaker$Tokens" "widths" "[I", .methodLink RX8 51 yX8_add, .instanceMethod yX8_add, .selects RX8 yX8_add yX8_add, .initialized RX8, .code yX8_add cX8_add 4 none, .methodLink RX7 43 yX8_cut, .instanceMethod yX8_cut, .selects RX8 yX8_cut yX8_cut, .code yX8_cut cX8_cut 5 none, .fieldLink RX7 49 "LessonMaker$Reader" "next" "I", .fieldLink RX7 53 "LessonMaker$Reader" "callCount" "I", .fieldLink RX7 56 "LessonMaker$Reader" "foundFault" "I", .fieldLink RX7 59 "LessonMaker$Reader" "faultToken" "I", .fieldLink RX7 138 "LessonMaker$Tokens" "size" "I", .fieldLink RX7 212 "LessonMaker$Tokens" "kinds" "[I", .methodLink RX7 65 yX7_kind, .instanceMethod yX7_kind, .selects RX7 yX7_kind yX7_kind, .initialized RX7, .code yX7_kind cX7_kind 2 (some .int), .methodLink RX7 79 yX7_fail, .instanceMethod yX7_fail, .selects RX7 yX7_fail yX7_fail, .code yX7_fail cX7_fail 2 none, .methodLink RX7 62 yX7_readFunction, .instanceMethod yX7_readFunction, .selects RX7 yX7_readFunction yX7_readFunction, .code yX7_readFunction cX7_readFunction 3 none, .methodLink RX8 58 yX8_has, .instanceMethod yX8_has, .selects RX8 yX8_has yX8_has, .code yX8_has cX8_has 2 (some .boolean), .methodLink RX7 72 yX8_placeOf, .instanceMethod yX8_placeOf, .selects RX8 yX8_placeOf yX8_placeOf, .code yX8_placeOf cX8_placeOf 2 (some .int), .fieldLink RX7 76 "LessonMaker$Reader" "faultPlace" "I"] ++ (u_ws RX1 TX1 4 ++ u_ws RX6 TX6 6 ++ u_ws RX8 TX8 6 ++ u_ws RX7 TX7 12))
set_option maxRecDepth 20000 in
theorem c_X7_read_zg_1 : GoodIn z_wX7_read (wsV RX7 40 RX6 yX6_clear z_wX6_clear) := goodIn_r _ [15, 16, 17, 18, 19, 6, 7, 8, 9, 10, 11, 12, 13, 14, 74, 75, 76, 77, 78, 79, 80, 81, 82, 83] (by decide +kernel) (by decide +kernel)
set_option maxRecDepth 20000 in
theorem c_X7_read_zg_2 : GoodIn z_wX7_read (wsV RX7 43 RX8 yX8_cut z_wX8_cut) := goodIn_r _ [42, 43, 44, 40, 45, 20, 21, 22, 23, 24, 25, 26, 27, 28, 29, 30, 31, 32, 33, 34, 35, 36, 37, 38, 39, 40, 41, 84, 85, 86, 87, 88, 89] (by decide +kernel) (by decide +kernel)
set_option maxRecDepth 20000 in
theorem c_X7_read_zg_3 : GoodIn z_wX7_read (wsV RX7 62 RX7 yX7_readFunction z_wX7_readFunction) := goodIn_r _ [61, 62, 63, 55, 64, 46, 3, 50, 51, 52, 53, 54, 55, 56, 48, 49, 57, 58, 59, 60, 90, 91, 92, 93, 94, 95, 96, 97, 98, 99, 100, 101, 84, 85, 86, 87, 88, 89] (by decide +kernel) (by decide +kernel)
set_option maxRecDepth 20000 in
theorem c_X7_read_zg_4 : GoodIn z_wX7_read (wsV RX7 65 RX7 yX7_kind z_wX7_kind_1) := goodIn_r _ [52, 53, 54, 55, 56, 46, 3, 50, 51, 90, 91, 92, 93, 94, 95, 96, 97, 98, 99, 100, 101, 84, 85, 86, 87, 88, 89] (by decide +kernel) (by decide +kernel)
set_option maxRecDepth 20000 in
theorem c_X7_read_zg_6 : GoodIn z_wX7_read (wsV RX7 72 RX8 yX8_placeOf z_wX8_placeOf) := goodIn_r _ [69, 70, 71, 40, 72, 33, 34, 65, 66, 67, 40, 68, 35, 84, 85, 86, 87, 88, 89] (by decide +kernel) (by decide +kernel)
set_option maxHeartbeats 4000000 in
set_option maxRecDepth 100000 in
theorem c_X7_read (l : Launch) (dC : Nat → ClassId) (dI : Nat → Nat → Nat) (h0 : Nat) (r1 : Nat) (r2 : Nat) (r3 : Nat) (r4 : Nat) (tp : Nat) (kt : ClassId) (ft : Nat → Int32) (sp : Nat) (tk : Nat) (cd : Nat) (s3 : Nat) (s4 : Nat) (tx : Nat) (kd : Nat) (pl : Nat) (wd : Nat) (k1 : ClassId) (f1 : Nat → Int32) (k2 : ClassId) (f2 : Nat → Int32) (k3 : ClassId) (f3 : Nat → Int32) (k4 : ClassId) (f4 : Nat → Int32) (d1 : Nat) (d2 : Nat) (d3 : Nat) (sz : Nat) : Met l yX7_read z_wX7_read ({ frames := 2, cells := 0, slots := 0, locals := 84 }) (va_Pc [.ref h0, .ref tp, .int 0, .ref sp] (z_in dC dI [(h0, .inr (7, [.int 0, .int 0, .int 0, .null, .null, .null, .int 0, .ref r1, .ref r2, .ref r3, .ref r4, .int 0])), (tp, .inl (kt, 600, .inl ft)), (sp, .inr (6, [.ref tk, .ref cd, .ref s3, .ref s4, .int 0, .int 0])), (tk, .inr (8, [.ref tx, .int 0, .ref kd, .ref pl, .ref wd, .int 0])), (tx, .inl (k1, 600, .inl f1)), (kd, .inl (k2, 601, .inl f2)), (pl, .inl (k3, 601, .inl f3)), (wd, .inl (k4, 601, .inl f4)), (cd, .inr (1, [.ref d1, .ref d2, .ref d3, .int 0]))] [(kt, .byte), (k1, .byte), (k2, .int), (k3, .int), (k4, .int)] sz)) (va_Qi (fun (r : Int32) (_ : Unit) => r = 1) (fun (_ : Unit) t => z_out dC dI (va_A [(h0, .inr (7, [.int 0, .int 0, .int 0, .null, .null, .null, .int 0, .ref r1, .ref r2, .ref r3, .ref r4, .int 0])), (tp, .inl (kt, 600, .inl ft)), (sp, .inr (6, [.ref tk, .ref cd, .ref s3, .ref s4, .int 0, .int 0])), (tk, .inr (8, [.ref tx, .int 0, .ref kd, .ref pl, .ref wd, .int 0])), (tx, .inl (k1, 600, .inl f1)), (kd, .inl (k2, 601, .inl f2)), (pl, .inl (k3, 601, .inl f3)), (wd, .inl (k4, 601, .inl f4)), (cd, .inr (1, [.ref d1, .ref d2, .ref d3, .int 0]))] sz) [] [] t) (va_A [(h0, .inr (7, [.int 0, .int 0, .int 0, .null, .null, .null, .int 0, .ref r1, .ref r2, .ref r3, .ref r4, .int 0])), (tp, .inl (kt, 600, .inl ft)), (sp, .inr (6, [.ref tk, .ref cd, .ref s3, .ref s4, .int 0, .int 0])), (tk, .inr (8, [.ref tx, .int 0, .ref kd, .ref pl, .ref wd, .int 0])), (tx, .inl (k1, 600, .inl f1)), (kd, .inl (k2, 601, .inl f2)), (pl, .inl (k3, 601, .inl f3)), (wd, .inl (k4, 601, .inl f4)), (cd, .inr (1, [.ref d1, .ref d2, .ref d3, .int 0]))] sz)) 0 0 (va_A [(h0, .inr (7, [.int 0, .int 0, .int 0, .null, .null, .null, .int 0, .ref r1, .ref r2, .ref r3, .ref r4, .int 0])), (tp, .inl (kt, 600, .inl ft)), (sp, .inr (6, [.ref tk, .ref cd, .ref s3, .ref s4, .int 0, .int 0])), (tk, .inr (8, [.ref tx, .int 0, .ref kd, .ref pl, .ref wd, .int 0])), (tx, .inl (k1, 600, .inl f1)), (kd, .inl (k2, 601, .inl f2)), (pl, .inl (k3, 601, .inl f3)), (wd, .inl (k4, 601, .inl f4)), (cd, .inr (1, [.ref d1, .ref d2, .ref d3, .int 0]))] sz) := by
  refine Met.ofW (cc := cX7_read) (maxL := 5) (ret := (some .int)) (by decide) rfl ?_
  intro p e s m args below meth c s₁ B hml hv
  obtain ⟨rfl, hsz, hP, hK, hD0, hN⟩ := hv
  have hx := B.exec
  have hb := B.bytes
  have hr := B.returns
  have hts := atoms_spec (ws := z_wX7_read) B.pre
  have hown : s.vm.findClass RX7 = some m.cls := findClass_of_methodNamed B.named
  have hlocks := B.notSynchronized
  have hin_6 : ∀ w ∈ u_ws RX6 TX6 6, w ∈ z_wX7_read := by decide +kernel
  have hin_7 : ∀ w ∈ u_ws RX7 TX7 12, w ∈ z_wX7_read := by decide +kernel
  subst hsz
  have hD := hD0.self (sz := s.heap.size)
  generalize hAe : va_A [(h0, .inr (7, [.int 0, .int 0, .int 0, .null, .null, .null, .int 0, .ref r1, .ref r2, .ref r3, .ref r4, .int 0])), (tp, .inl (kt, 600, .inl ft)), (sp, .inr (6, [.ref tk, .ref cd, .ref s3, .ref s4, .int 0, .int 0])), (tk, .inr (8, [.ref tx, .int 0, .ref kd, .ref pl, .ref wd, .int 0])), (tx, .inl (k1, 600, .inl f1)), (kd, .inl (k2, 601, .inl f2)), (pl, .inl (k3, 601, .inl f3)), (wd, .inl (k4, 601, .inl f4)), (cd, .inr (1, [.ref d1, .ref d2, .ref d3, .int 0]))] s.heap.size = A at hD ⊢
  have hA : ∀ q : Nat, s.heap.size ≤ q → A q := fun q h => by rw [← hAe]; exact Or.inr h
  have hS : va_S A s.heap s.heap [] := va_S.rf
  have hP : va_P (dC, dI) z_Cl [(h0, .inr (7, [.int 0, .int 0, .int 0, .null, .null, .null, .int 0, .ref r1, .ref r2, .ref r3, .ref r4, .int 0])), (tp, .inl (kt, 600, .inl ft)), (sp, .inr (6, [.ref tk, .ref cd, .ref s3, .ref s4, .int 0, .int 0])), (tk, .inr (8, [.ref tx, .int 0, .ref kd, .ref pl, .ref wd, .int 0])), (tx, .inl (k1, 600, .inl f1)), (kd, .inl (k2, 601, .inl f2)), (pl, .inl (k3, 601, .inl f3)), (wd, .inl (k4, 601, .inl f4)), (cd, .inr (1, [.ref d1, .ref d2, .ref d3, .int 0]))] s.heap := hP
  have hl := lv_entry ([.ref h0, .ref tp, .int 0, .ref sp]) (n := 5) (Nat.le_of_ble_eq_true rfl)
  rw [lg_entry_eq]
  generalize (lg_sl ([.ref h0, .ref tp, .int 0, .ref sp]) ++ List.replicate (5 - (lg_sl ([.ref h0, .ref tp, .int 0, .ref sp])).length) Slot.unset).toArray = ls at hl ⊢
  have hl : lv_has ls 5 [(0, .ref h0), (1, .ref tp), (2, .int 0), (3, .ref sp)] := hl
  refine lv_aload_n hx hb dX7_read_0 rfl (lv_at hl 0 rfl) ?_
  refine lv_aload_n hx hb dX7_read_1 rfl (lv_at hl 3 rfl) ?_
  refine va_put (D := (dC, dI)) (ci := 7) (v := .ref sp) (ty := .object "LessonMaker$Program") (C := RX7) (T := TX7) (N := 12) hx hb hts hin_7 tyX7 tyX7_ok nmX7 hown hK hP hD hS 0 rfl rfl 3 (by decide) (hts (.fieldLink RX7 24 "LessonMaker$Reader" "program" "LLessonMaker$Program;") (List.mem_of_getElem? (i := 1) rfl)) (fun _ h9 => h9) rfl (by decide +kernel) rfl rfl (Nat.le_of_ble_eq_true rfl) dX7_read_2 (fun H locs hP hD hS => ?_)
  have hP : va_P (dC, dI) z_Cl [(h0, .inr (7, [.int 0, .int 0, .int 0, .ref sp, .null, .null, .int 0, .ref r1, .ref r2, .ref r3, .ref r4, .int 0])), (tp, .inl (kt, 600, .inl ft)), (sp, .inr (6, [.ref tk, .ref cd, .ref s3, .ref s4, .int 0, .int 0])), (tk, .inr (8, [.ref tx, .int 0, .ref kd, .ref pl, .ref wd, .int 0])), (tx, .inl (k1, 600, .inl f1)), (kd, .inl (k2, 601, .inl f2)), (pl, .inl (k3, 601, .inl f3)), (wd, .inl (k4, 601, .inl f4)), (cd, .inr (1, [.ref d1, .ref d2, .ref d3, .int 0]))] H := hP
  have hD : va_D A [(h0, .inr (7, [.int 0, .int 0, .int 0, .ref sp, .null, .null, .int 0, .ref r1, .ref r2, .ref r3, .ref r4, .int 0])), (tp, .inl (kt, 600, .inl ft)), (sp, .inr (6, [.ref tk, .ref cd, .ref s3, .ref s4, .int 0, .int 0])), (tk, .inr (8, [.ref tx, .int 0, .ref kd, .ref pl, .ref wd, .int 0])), (tx, .inl (k1, 600, .inl f1)), (kd, .inl (k2, 601, .inl f2)), (pl, .inl (k3, 601, .inl f3)), (wd, .inl (k4, 601, .inl f4)), (cd, .inr (1, [.ref d1, .ref d2, .ref d3, .int 0]))] := hD
  refine lv_aload_n hx hb dX7_read_5 rfl (lv_at hl 0 rfl) ?_
  refine lv_aload_n hx hb dX7_read_6 rfl (lv_at hl 3 rfl) ?_
  refine va_get (D := (dC, dI)) (ci := 6) (v := .ref tk) (C := RX6) (T := TX6) (N := 6) hx hb hts hin_6 hown hK hP 2 rfl rfl 0 (by decide) (hts (.fieldLink RX7 28 "LessonMaker$Program" "tokens" "LLessonMaker$Tokens;") (List.mem_of_getElem? (i := 2) rfl)) (fun _ h9 => h9) rfl dX7_read_7 ?_
  refine va_put (D := (dC, dI)) (ci := 7) (v := .ref tk) (ty := .object "LessonMaker$Tokens") (C := RX7) (T := TX7) (N := 12) hx hb hts hin_7 tyX7 tyX7_ok nmX7 hown hK hP hD hS 0 rfl rfl 4 (by decide) (hts (.fieldLink RX7 34 "LessonMaker$Reader" "tokens" "LLessonMaker$Tokens;") (List.mem_of_getElem? (i := 3) rfl)) (fun _ h9 => h9) rfl (by decide +kernel) rfl rfl (Nat.le_of_ble_eq_true rfl) dX7_read_10 (fun H locs hP hD hS => ?_)
  have hP : va_P (dC, dI) z_Cl [(h0, .inr (7, [.int 0, .int 0, .int 0, .ref sp, .ref tk, .null, .int 0, .ref r1, .ref r2, .ref r3, .ref r4, .int 0])), (tp, .inl (kt, 600, .inl ft)), (sp, .inr (6, [.ref tk, .ref cd, .ref s3, .ref s4, .int 0, .int 0])), (tk, .inr (8, [.ref tx, .int 0, .ref kd, .ref pl, .ref wd, .int 0])), (tx, .inl (k1, 600, .inl f1)), (kd, .inl (k2, 601, .inl f2)), (pl, .inl (k3, 601, .inl f3)), (wd, .inl (k4, 601, .inl f4)), (cd, .inr (1, [.ref d1, .ref d2, .ref d3, .int 0]))] H := hP
  have hD : va_D A [(h0, .inr (7, [.int 0, .int 0, .int 0, .ref sp, .ref tk, .null, .int 0, .ref r1, .ref r2, .ref r3, .ref r4, .int 0])), (tp, .inl (kt, 600, .inl ft)), (sp, .inr (6, [.ref tk, .ref cd, .ref s3, .ref s4, .int 0, .int 0])), (tk, .inr (8, [.ref tx, .int 0, .ref kd, .ref pl, .ref wd, .int 0])), (tx, .inl (k1, 600, .inl f1)), (kd, .inl (k2, 601, .inl f2)), (pl, .inl (k3, 601, .inl f3)), (wd, .inl (k4, 601, .inl f4)), (cd, .inr (1, [.ref d1, .ref d2, .ref d3, .int 0]))] := hD
  refine lv_aload_n hx hb dX7_read_13 rfl (lv_at hl 0 rfl) ?_
  refine lv_aload_n hx hb dX7_read_14 rfl (lv_at hl 3 rfl) ?_
  refine va_get (D := (dC, dI)) (ci := 6) (v := .ref cd) (C := RX6) (T := TX6) (N := 6) hx hb hts hin_6 hown hK hP 2 rfl rfl 1 (by decide) (hts (.fieldLink RX7 35 "LessonMaker$Program" "code" "LLessonMaker$Code;") (List.mem_of_getElem? (i := 4) rfl)) (fun _ h9 => h9) rfl dX7_read_15 ?_
  refine va_put (D := (dC, dI)) (ci := 7) (v := .ref cd) (ty := .object "LessonMaker$Code") (C := RX7) (T := TX7) (N := 12) hx hb hts hin_7 tyX7 tyX7_ok nmX7 hown hK hP hD hS 0 rfl rfl 5 (by decide) (hts (.fieldLink RX7 39 "LessonMaker$Reader" "code" "LLessonMaker$Code;") (List.mem_of_getElem? (i := 5) rfl)) (fun _ h9 => h9) rfl (by decide +kernel) rfl rfl (Nat.le_of_ble_eq_true rfl) dX7_read_18 (fun H locs hP hD hS => ?_)
  have hP : va_P (dC, dI) z_Cl [(h0, .inr (7, [.int 0, .int 0, .int 0, .ref sp, .ref tk, .ref cd, .int 0, .ref r1, .ref r2, .ref r3, .ref r4, .int 0])), (tp, .inl (kt, 600, .inl ft)), (sp, .inr (6, [.ref tk, .ref cd, .ref s3, .ref s4, .int 0, .int 0])), (tk, .inr (8, [.ref tx, .int 0, .ref kd, .ref pl, .ref wd, .int 0])), (tx, .inl (k1, 600, .inl f1)), (kd, .inl (k2, 601, .inl f2)), (pl, .inl (k3, 601, .inl f3)), (wd, .inl (k4, 601, .inl f4)), (cd, .inr (1, [.ref d1, .ref d2, .ref d3, .int 0]))] H := hP
  have hD : va_D A [(h0, .inr (7, [.int 0, .int 0, .int 0, .ref sp, .ref tk, .ref cd, .int 0, .ref r1, .ref r2, .ref r3, .ref r4, .int 0])), (tp, .inl (kt, 600, .inl ft)), (sp, .inr (6, [.ref tk, .ref cd, .ref s3, .ref s4, .int 0, .int 0])), (tk, .inr (8, [.ref tx, .int 0, .ref kd, .ref pl, .ref wd, .int 0])), (tx, .inl (k1, 600, .inl f1)), (kd, .inl (k2, 601, .inl f2)), (pl, .inl (k3, 601, .inl f3)), (wd, .inl (k4, 601, .inl f4)), (cd, .inr (1, [.ref d1, .ref d2, .ref d3, .int 0]))] := hD
  refine lv_aload_n hx hb dX7_read_21 rfl (lv_at hl 0 rfl) ?_
  refine va_get (D := (dC, dI)) (ci := 7) (v := .ref sp) (C := RX7) (T := TX7) (N := 12) hx hb hts hin_7 hown hK hP 0 rfl rfl 3 (by decide) (hts (.fieldLink RX7 24 "LessonMaker$Reader" "program" "LLessonMaker$Program;") (List.mem_of_getElem? (i := 1) rfl)) (fun _ h9 => h9) rfl dX7_read_22 ?_
  have hPc := hP.sub (ws' := [(sp, .inr (6, [.ref tk, .ref cd, .ref s3, .ref s4, .int 0, .int 0])), (cd, .inr (1, [.ref d1, .ref d2, .ref d3, .int 0]))]) [2, 8] rfl
  have hDc := hD.sub (ws' := [(sp, .inr (6, [.ref tk, .ref cd, .ref s3, .ref s4, .int 0, .int 0])), (cd, .inr (1, [.ref d1, .ref d2, .ref d3, .int 0]))]) [2, 8] (by decide) rfl
  have hKc := hK.sub (tys' := []) [] rfl
  have hFc := va_free (wc := [(sp, .inr (6, [.ref tk, .ref cd, .ref s3, .ref s4, .int 0, .int 0])), (cd, .inr (1, [.ref d1, .ref d2, .ref d3, .int 0]))]) hD hS hA [2, 8] rfl
  refine va_callv (va_runV (As := []) (rest := []) ⟨hx, hb, hml, hown, hts⟩ (c_X6_clear l dC dI sp tk cd s3 s4 d1 d2 d3 H.size) (cwV 0 hts c_X7_read_zg_1 rfl rfl rfl (by decide +kernel) ⟨(Nat.le_of_ble_eq_true rfl), (Nat.le_of_ble_eq_true rfl)⟩) ⟨z_blind, va_recv hKc hPc (ci := 6) (q0 := 0) rfl rfl, z_pre hPc hKc hDc hN⟩ rfl rfl hl.1 rfl (lv_room (Nat.le_of_ble_eq_true rfl)) dX7_read_25 ⟨(Nat.le_of_ble_eq_true rfl), (Nat.le_of_ble_eq_true rfl)⟩) hS (fun q _ h => hFc q h) hFc (fun u t H1 locs ht hvm hw hB hz1 hk1 hS => ?_)
  obtain ⟨hP1, hK1, hD1⟩ := hB
  rw [ht] at hP1
  have hK1 := va_K.moved hvm.symm hK1
  obtain ⟨hP, hD⟩ := va_join (wr := [(h0, .inr (7, [.int 0, .int 0, .int 0, .ref sp, .ref tk, .ref cd, .int 0, .ref r1, .ref r2, .ref r3, .ref r4, .int 0])), (tp, .inl (kt, 600, .inl ft)), (tk, .inr (8, [.ref tx, .int 0, .ref kd, .ref pl, .ref wd, .int 0])), (tx, .inl (k1, 600, .inl f1)), (kd, .inl (k2, 601, .inl f2)), (pl, .inl (k3, 601, .inl f3)), (wd, .inl (k4, 601, .inl f4))]) (w1 := [(sp, .inr (6, [.ref tk, .ref cd, .ref s3, .ref s4, .int 0, .int 0])), (cd, .inr (1, [.ref d1, .ref d2, .ref d3, .int 0]))]) hP hD [2, 8] [0, 1, 3, 4, 5, 6, 7] rfl rfl (by decide) (by decide) hk1 hFc hP1 hD1
  have hK := (hK.sub (tys' := [(kt, .byte), (k1, .byte), (k2, .int), (k3, .int), (k4, .int)]) [0, 1, 2, 3, 4] rfl).app hK1
  generalize H1 = H at hP hS ⊢
  have hP : va_P (dC, dI) z_Cl [(h0, .inr (7, [.int 0, .int 0, .int 0, .ref sp, .ref tk, .ref cd, .int 0, .ref r1, .ref r2, .ref r3, .ref r4, .int 0])), (tp, .inl (kt, 600, .inl ft)), (tk, .inr (8, [.ref tx, .int 0, .ref kd, .ref pl, .ref wd, .int 0])), (tx, .inl (k1, 600, .inl f1)), (kd, .inl (k2, 601, .inl f2)), (pl, .inl (k3, 601, .inl f3)), (wd, .inl (k4, 601, .inl f4)), (sp, .inr (6, [.ref tk, .ref cd, .ref s3, .ref s4, .int 0, .int 0])), (cd, .inr (1, [.ref d1, .ref d2, .ref d3, .int 0]))] H := hP
  have hD : va_D A [(h0, .inr (7, [.int 0, .int 0, .int 0, .ref sp, .ref tk, .ref cd, .int 0, .ref r1, .ref r2, .ref r3, .ref r4, .int 0])), (tp, .inl (kt, 600, .inl ft)), (tk, .inr (8, [.ref tx, .int 0, .ref kd, .ref pl, .ref wd, .int 0])), (tx, .inl (k1, 600, .inl f1)), (kd, .inl (k2, 601, .inl f2)), (pl, .inl (k3, 601, .inl f3)), (wd, .inl (k4, 601, .inl f4)), (sp, .inr (6, [.ref tk, .ref cd, .ref s3, .ref s4, .int 0, .int 0])), (cd, .inr (1, [.ref d1, .ref d2, .ref d3, .int 0]))] := hD
  have hK : va_K (dC, dI) z_Cl [(kt, .byte), (k1, .byte), (k2, .int), (k3, .int), (k4, .int)] s := hK
  refine lv_aload_n hx hb dX7_read_28 rfl (lv_at hl 0 rfl) ?_
  refine va_get (D := (dC, dI)) (ci := 7) (v := .ref tk) (C := RX7) (T := TX7) (N := 12) hx hb hts hin_7 hown hK hP 0 rfl rfl 4 (by decide) (hts (.fieldLink RX7 34 "LessonMaker$Reader" "tokens" "LLessonMaker$Tokens;") (List.mem_of_getElem? (i := 3) rfl)) (fun _ h9 => h9) rfl dX7_read_29 ?_
  refine lv_aload_n hx hb dX7_read_32 rfl (lv_at hl 1 rfl) ?_
  refine lv_iload_n hx hb dX7_read_33 rfl (lv_at hl 2 rfl) ?_
  have hPc := hP.sub (ws' := [(tk, .inr (8, [.ref tx, .int 0, .ref kd, .ref pl, .ref wd, .int 0])), (tx, .inl (k1, 600, .inl f1)), (kd, .inl (k2, 601, .inl f2)), (pl, .inl (k3, 601, .inl f3)), (wd, .inl (k4, 601, .inl f4)), (tp, .inl (kt, 600, .inl ft))]) [2, 3, 4, 5, 6, 1] rfl
  have hDc := hD.sub (ws' := [(tk, .inr (8, [.ref tx, .int 0, .ref kd, .ref pl, .ref wd, .int 0])), (tx, .inl (k1, 600, .inl f1)), (kd, .inl (k2, 601, .inl f2)), (pl, .inl (k3, 601, .inl f3)), (wd, .inl (k4, 601, .inl f4)), (tp, .inl (kt, 600, .inl ft))]) [2, 3, 4, 5, 6, 1] (by decide) rfl
  have hKc := hK.sub (tys' := [(k1, .byte), (k2, .int), (k3, .int), (k4, .int), (kt, .byte)]) [1, 2, 3, 4, 0] rfl
  have hFc := va_free (wc := [(tk, .inr (8, [.ref tx, .int 0, .ref kd, .ref pl, .ref wd, .int 0])), (tx, .inl (k1, 600, .inl f1)), (kd, .inl (k2, 601, .inl f2)), (pl, .inl (k3, 601, .inl f3)), (wd, .inl (k4, 601, .inl f4)), (tp, .inl (kt, 600, .inl ft))]) hD hS hA [2, 3, 4, 5, 6, 1] rfl
  refine va_callv (va_runV (As := [.ref tp, .int 0]) (rest := []) ⟨hx, hb, hml, hown, hts⟩ (c_X8_cut l dC dI tk tx kd pl wd k1 f1 k2 f2 k3 f3 k4 f4 tp kt ft H.size) (cwV 2 hts c_X7_read_zg_2 rfl rfl rfl (by decide +kernel) ⟨(Nat.le_of_ble_eq_true rfl), (Nat.le_of_ble_eq_true rfl)⟩) ⟨z_blind, va_recv hKc hPc (ci := 8) (q0 := 0) rfl rfl, z_pre hPc hKc hDc hN⟩ rfl rfl hl.1 rfl (lv_room (Nat.le_of_ble_eq_true rfl)) dX7_read_34 ⟨(Nat.le_of_ble_eq_true rfl), (Nat.le_of_ble_eq_true rfl)⟩) hS (fun q _ h => hFc q h) hFc (fun u t H1 locs ht hvm hw hB hz1 hk1 hS => ?_)
  obtain ⟨hP1, hK1, hD1⟩ := hB
  rw [ht] at hP1
  have hK1 := va_K.moved hvm.symm hK1
  obtain ⟨hP, hD⟩ := va_join (wr := [(h0, .inr (7, [.int 0, .int 0, .int 0, .ref sp, .ref tk, .ref cd, .int 0, .ref r1, .ref r2, .ref r3, .ref r4, .int 0])), (sp, .inr (6, [.ref tk, .ref cd, .ref s3, .ref s4, .int 0, .int 0])), (cd, .inr (1, [.ref d1, .ref d2, .ref d3, .int 0]))]) (w1 := [(tk, .inr (8, [.ref tx, .int 0, .ref kd, .ref pl, .ref wd, .int 1])), (kd, .inl (k2, 601, .inl (upd f2 (Int32.toNatClampNeg 0) 0))), (pl, .inl (k3, 601, .inl (upd f3 (Int32.toNatClampNeg 0) 0))), (wd, .inl (k4, 601, .inl (upd f4 (Int32.toNatClampNeg 0) 0)))]) hP hD [2, 3, 4, 5, 6, 1] [0, 7, 8] rfl rfl (by decide) (by decide) hk1 hFc hP1 hD1
  have hK := (hK.sub (tys' := [(kt, .byte), (k1, .byte), (k2, .int), (k3, .int), (k4, .int)]) [0, 1, 2, 3, 4] rfl).app hK1
  generalize H1 = H at hP hS ⊢
  have hP : va_P (dC, dI) z_Cl [(h0, .inr (7, [.int 0, .int 0, .int 0, .ref sp, .ref tk, .ref cd, .int 0, .ref r1, .ref r2, .ref r3, .ref r4, .int 0])), (sp, .inr (6, [.ref tk, .ref cd, .ref s3, .ref s4, .int 0, .int 0])), (cd, .inr (1, [.ref d1, .ref d2, .ref d3, .int 0])), (tk, .inr (8, [.ref tx, .int 0, .ref kd, .ref pl, .ref wd, .int 1])), (kd, .inl (k2, 601, .inl (upd f2 (Int32.toNatClampNeg 0) 0))), (pl, .inl (k3, 601, .inl (upd f3 (Int32.toNatClampNeg 0) 0))), (wd, .inl (k4, 601, .inl (upd f4 (Int32.toNatClampNeg 0) 0)))] H := hP
  have hD : va_D A [(h0, .inr (7, [.int 0, .int 0, .int 0, .ref sp, .ref tk, .ref cd, .int 0, .ref r1, .ref r2, .ref r3, .ref r4, .int 0])), (sp, .inr (6, [.ref tk, .ref cd, .ref s3, .ref s4, .int 0, .int 0])), (cd, .inr (1, [.ref d1, .ref d2, .ref d3, .int 0])), (tk, .inr (8, [.ref tx, .int 0, .ref kd, .ref pl, .ref wd, .int 1])), (kd, .inl (k2, 601, .inl (upd f2 (Int32.toNatClampNeg 0) 0))), (pl, .inl (k3, 601, .inl (upd f3 (Int32.toNatClampNeg 0) 0))), (wd, .inl (k4, 601, .inl (upd f4 (Int32.toNatClampNeg 0) 0)))] := hD
  have hK : va_K (dC, dI) z_Cl [(kt, .byte), (k1, .byte), (k2, .int), (k3, .int), (k4, .int), (k2, .int), (k3, .int), (k4, .int)] s := hK
  have hK := hK.sub (tys' := [(kt, .byte), (k1, .byte), (k2, .int), (k3, .int), (k4, .int)]) [0, 1, 2, 3, 4] rfl
  refine lv_aload_n hx hb dX7_read_37 rfl (lv_at hl 0 rfl) ?_
  refine lv_iconst (v := 0) hx hb dX7_read_38 (by decide) ?_
  refine va_put (D := (dC, dI)) (ci := 7) (v := .int 0) (ty := .int) (C := RX7) (T := TX7) (N := 12) hx hb hts hin_7 tyX7 tyX7_ok nmX7 hown hK hP hD hS 0 rfl rfl 6 (by decide) (hts (.fieldLink RX7 49 "LessonMaker$Reader" "next" "I") (List.mem_of_getElem? (i := 46) rfl)) (fun _ h9 => h9) rfl (by decide +kernel) rfl rfl (Nat.le_of_ble_eq_true rfl) dX7_read_39 (fun H locs hP hD hS => ?_)
  have hP : va_P (dC, dI) z_Cl [(h0, .inr (7, [.int 0, .int 0, .int 0, .ref sp, .ref tk, .ref cd, .int 0, .ref r1, .ref r2, .ref r3, .ref r4, .int 0])), (sp, .inr (6, [.ref tk, .ref cd, .ref s3, .ref s4, .int 0, .int 0])), (cd, .inr (1, [.ref d1, .ref d2, .ref d3, .int 0])), (tk, .inr (8, [.ref tx, .int 0, .ref kd, .ref pl, .ref wd, .int 1])), (kd, .inl (k2, 601, .inl (upd f2 (Int32.toNatClampNeg 0) 0))), (pl, .inl (k3, 601, .inl (upd f3 (Int32.toNatClampNeg 0) 0))), (wd, .inl (k4, 601, .inl (upd f4 (Int32.toNatClampNeg 0) 0)))] H := hP
  have hD : va_D A [(h0, .inr (7, [.int 0, .int 0, .int 0, .ref sp, .ref tk, .ref cd, .int 0, .ref r1, .ref r2, .ref r3, .ref r4, .int 0])), (sp, .inr (6, [.ref tk, .ref cd, .ref s3, .ref s4, .int 0, .int 0])), (cd, .inr (1, [.ref d1, .ref d2, .ref d3, .int 0])), (tk, .inr (8, [.ref tx, .int 0, .ref kd, .ref pl, .ref wd, .int 1])), (kd, .inl (k2, 601, .inl (upd f2 (Int32.toNatClampNeg 0) 0))), (pl, .inl (k3, 601, .inl (upd f3 (Int32.toNatClampNeg 0) 0))), (wd, .inl (k4, 601, .inl (upd f4 (Int32.toNatClampNeg 0) 0)))] := hD
  refine lv_aload_n hx hb dX7_read_42 rfl (lv_at hl 0 rfl) ?_
  refine lv_iconst (v := 0) hx hb dX7_read_43 (by decide) ?_
  refine va_put (D := (dC, dI)) (ci := 7) (v := .int 0) (ty := .int) (C := RX7) (T := TX7) (N := 12) hx hb hts hin_7 tyX7 tyX7_ok nmX7 hown hK hP hD hS 0 rfl rfl 11 (by decide) (hts (.fieldLink RX7 53 "LessonMaker$Reader" "callCount" "I") (List.mem_of_getElem? (i := 47) rfl)) (fun _ h9 => h9) rfl (by decide +kernel) rfl rfl (Nat.le_of_ble_eq_true rfl) dX7_read_44 (fun H locs hP hD hS => ?_)
  have hP : va_P (dC, dI) z_Cl [(h0, .inr (7, [.int 0, .int 0, .int 0, .ref sp, .ref tk, .ref cd, .int 0, .ref r1, .ref r2, .ref r3, .ref r4, .int 0])), (sp, .inr (6, [.ref tk, .ref cd, .ref s3, .ref s4, .int 0, .int 0])), (cd, .inr (1, [.ref d1, .ref d2, .ref d3, .int 0])), (tk, .inr (8, [.ref tx, .int 0, .ref kd, .ref pl, .ref wd, .int 1])), (kd, .inl (k2, 601, .inl (upd f2 (Int32.toNatClampNeg 0) 0))), (pl, .inl (k3, 601, .inl (upd f3 (Int32.toNatClampNeg 0) 0))), (wd, .inl (k4, 601, .inl (upd f4 (Int32.toNatClampNeg 0) 0)))] H := hP
  have hD : va_D A [(h0, .inr (7, [.int 0, .int 0, .int 0, .ref sp, .ref tk, .ref cd, .int 0, .ref r1, .ref r2, .ref r3, .ref r4, .int 0])), (sp, .inr (6, [.ref tk, .ref cd, .ref s3, .ref s4, .int 0, .int 0])), (cd, .inr (1, [.ref d1, .ref d2, .ref d3, .int 0])), (tk, .inr (8, [.ref tx, .int 0, .ref kd, .ref pl, .ref wd, .int 1])), (kd, .inl (k2, 601, .inl (upd f2 (Int32.toNatClampNeg 0) 0))), (pl, .inl (k3, 601, .inl (upd f3 (Int32.toNatClampNeg 0) 0))), (wd, .inl (k4, 601, .inl (upd f4 (Int32.toNatClampNeg 0) 0)))] := hD
  refine lv_aload_n hx hb dX7_read_47 rfl (lv_at hl 0 rfl) ?_
  refine lv_iconst (v := 0) hx hb dX7_read_48 (by decide) ?_
  refine va_put (D := (dC, dI)) (ci := 7) (v := .int 0) (ty := .int) (C := RX7) (T := TX7) (N := 12) hx hb hts hin_7 tyX7 tyX7_ok nmX7 hown hK hP hD hS 0 rfl rfl 1 (by decide) (hts (.fieldLink RX7 56 "LessonMaker$Reader" "foundFault" "I") (List.mem_of_getElem? (i := 48) rfl)) (fun _ h9 => h9) rfl (by decide +kernel) rfl rfl (Nat.le_of_ble_eq_true rfl) dX7_read_49 (fun H locs hP hD hS => ?_)
  have hP : va_P (dC, dI) z_Cl [(h0, .inr (7, [.int 0, .int 0, .int 0, .ref sp, .ref tk, .ref cd, .int 0, .ref r1, .ref r2, .ref r3, .ref r4, .int 0])), (sp, .inr (6, [.ref tk, .ref cd, .ref s3, .ref s4, .int 0, .int 0])), (cd, .inr (1, [.ref d1, .ref d2, .ref d3, .int 0])), (tk, .inr (8, [.ref tx, .int 0, .ref kd, .ref pl, .ref wd, .int 1])), (kd, .inl (k2, 601, .inl (upd f2 (Int32.toNatClampNeg 0) 0))), (pl, .inl (k3, 601, .inl (upd f3 (Int32.toNatClampNeg 0) 0))), (wd, .inl (k4, 601, .inl (upd f4 (Int32.toNatClampNeg 0) 0)))] H := hP
  have hD : va_D A [(h0, .inr (7, [.int 0, .int 0, .int 0, .ref sp, .ref tk, .ref cd, .int 0, .ref r1, .ref r2, .ref r3, .ref r4, .int 0])), (sp, .inr (6, [.ref tk, .ref cd, .ref s3, .ref s4, .int 0, .int 0])), (cd, .inr (1, [.ref d1, .ref d2, .ref d3, .int 0])), (tk, .inr (8, [.ref tx, .int 0, .ref kd, .ref pl, .ref wd, .int 1])), (kd, .inl (k2, 601, .inl (upd f2 (Int32.toNatClampNeg 0) 0))), (pl, .inl (k3, 601, .inl (upd f3 (Int32.toNatClampNeg 0) 0))), (wd, .inl (k4, 601, .inl (upd f4 (Int32.toNatClampNeg 0) 0)))] := hD
  refine lv_aload_n hx hb dX7_read_52 rfl (lv_at hl 0 rfl) ?_
  refine lv_iconst (v := 0) hx hb dX7_read_53 (by decide) ?_
  refine va_put (D := (dC, dI)) (ci := 7) (v := .int 0) (ty := .int) (C := RX7) (T := TX7) (N := 12) hx hb hts hin_7 tyX7 tyX7_ok nmX7 hown hK hP hD hS 0 rfl rfl 2 (by decide) (hts (.fieldLink RX7 59 "LessonMaker$Reader" "faultToken" "I") (List.mem_of_getElem? (i := 49) rfl)) (fun _ h9 => h9) rfl (by decide +kernel) rfl rfl (Nat.le_of_ble_eq_true rfl) dX7_read_54 (fun H locs hP hD hS => ?_)
  have hP : va_P (dC, dI) z_Cl [(h0, .inr (7, [.int 0, .int 0, .int 0, .ref sp, .ref tk, .ref cd, .int 0, .ref r1, .ref r2, .ref r3, .ref r4, .int 0])), (sp, .inr (6, [.ref tk, .ref cd, .ref s3, .ref s4, .int 0, .int 0])), (cd, .inr (1, [.ref d1, .ref d2, .ref d3, .int 0])), (tk, .inr (8, [.ref tx, .int 0, .ref kd, .ref pl, .ref wd, .int 1])), (kd, .inl (k2, 601, .inl (upd f2 (Int32.toNatClampNeg 0) 0))), (pl, .inl (k3, 601, .inl (upd f3 (Int32.toNatClampNeg 0) 0))), (wd, .inl (k4, 601, .inl (upd f4 (Int32.toNatClampNeg 0) 0)))] H := hP
  have hD : va_D A [(h0, .inr (7, [.int 0, .int 0, .int 0, .ref sp, .ref tk, .ref cd, .int 0, .ref r1, .ref r2, .ref r3, .ref r4, .int 0])), (sp, .inr (6, [.ref tk, .ref cd, .ref s3, .ref s4, .int 0, .int 0])), (cd, .inr (1, [.ref d1, .ref d2, .ref d3, .int 0])), (tk, .inr (8, [.ref tx, .int 0, .ref kd, .ref pl, .ref wd, .int 1])), (kd, .inl (k2, 601, .inl (upd f2 (Int32.toNatClampNeg 0) 0))), (pl, .inl (k3, 601, .inl (upd f3 (Int32.toNatClampNeg 0) 0))), (wd, .inl (k4, 601, .inl (upd f4 (Int32.toNatClampNeg 0) 0)))] := hD
  refine lv_aload_n hx hb dX7_read_57 rfl (lv_at hl 0 rfl) ?_
  have hPc := hP.sub (ws' := [(h0, .inr (7, [.int 0, .int 0, .int 0, .ref sp, .ref tk, .ref cd, .int 0, .ref r1, .ref r2, .ref r3, .ref r4, .int 0])), (tk, .inr (8, [.ref tx, .int 0, .ref kd, .ref pl, .ref wd, .int 1])), (kd, .inl (k2, 601, .inl (upd f2 (Int32.toNatClampNeg 0) 0)))]) [0, 3, 4] rfl
  have hDc := hD.sub (ws' := [(h0, .inr (7, [.int 0, .int 0, .int 0, .ref sp, .ref tk, .ref cd, .int 0, .ref r1, .ref r2, .ref r3, .ref r4, .int 0])), (tk, .inr (8, [.ref tx, .int 0, .ref kd, .ref pl, .ref wd, .int 1])), (kd, .inl (k2, 601, .inl (upd f2 (Int32.toNatClampNeg 0) 0)))]) [0, 3, 4] (by decide) rfl
  have hKc := hK.sub (tys' := [(k2, .int)]) [2] rfl
  have hFc := va_free (wc := [(h0, .inr (7, [.int 0, .int 0, .int 0, .ref sp, .ref tk, .ref cd, .int 0, .ref r1, .ref r2, .ref r3, .ref r4, .int 0])), (tk, .inr (8, [.ref tx, .int 0, .ref kd, .ref pl, .ref wd, .int 1])), (kd, .inl (k2, 601, .inl (upd f2 (Int32.toNatClampNeg 0) 0)))]) hD hS hA [0, 3, 4] rfl
  refine va_callv (va_runV (As := []) (rest := []) ⟨hx, hb, hml, hown, hts⟩ (c_X7_readFunction l dC dI h0 sp tk cd r1 r2 r3 r4 tx kd pl wd k2 f2 H.size) (cwV 0 hts c_X7_read_zg_3 rfl rfl rfl (by decide +kernel) ⟨(Nat.le_of_ble_eq_true rfl), (Nat.le_of_ble_eq_true rfl)⟩) ⟨z_blind, va_recv hKc hPc (ci := 7) (q0 := 0) rfl rfl, z_pre hPc hKc hDc hN⟩ rfl rfl hl.1 rfl (lv_room (Nat.le_of_ble_eq_true rfl)) dX7_read_58 ⟨(Nat.le_of_ble_eq_true rfl), (Nat.le_of_ble_eq_true rfl)⟩) hS (fun q _ h => hFc q h) hFc (fun u t H1 locs ht hvm hw hB hz1 hk1 hS => ?_)
  obtain ⟨hP1, hK1, hD1⟩ := hB
  rw [ht] at hP1
  have hK1 := va_K.moved hvm.symm hK1
  obtain ⟨hP, hD⟩ := va_join (wr := [(sp, .inr (6, [.ref tk, .ref cd, .ref s3, .ref s4, .int 0, .int 0])), (cd, .inr (1, [.ref d1, .ref d2, .ref d3, .int 0])), (pl, .inl (k3, 601, .inl (upd f3 (Int32.toNatClampNeg 0) 0))), (wd, .inl (k4, 601, .inl (upd f4 (Int32.toNatClampNeg 0) 0)))]) (w1 := [(h0, .inr (7, [.int 0, .int 1, .int 0, .ref sp, .ref tk, .ref cd, .int 0, .ref r1, .ref r2, .ref r3, .ref r4, .int 0])), (tk, .inr (8, [.ref tx, .int 0, .ref kd, .ref pl, .ref wd, .int 1])), (kd, .inl (k2, 601, .inl (upd f2 (Int32.toNatClampNeg 0) 0)))]) hP hD [0, 3, 4] [1, 2, 5, 6] rfl rfl (by decide) (by decide) hk1 hFc hP1 hD1
  have hK := (hK.sub (tys' := [(kt, .byte), (k1, .byte), (k2, .int), (k3, .int), (k4, .int)]) [0, 1, 2, 3, 4] rfl).app hK1
  generalize H1 = H at hP hS ⊢
  have hP : va_P (dC, dI) z_Cl [(sp, .inr (6, [.ref tk, .ref cd, .ref s3, .ref s4, .int 0, .int 0])), (cd, .inr (1, [.ref d1, .ref d2, .ref d3, .int 0])), (pl, .inl (k3, 601, .inl (upd f3 (Int32.toNatClampNeg 0) 0))), (wd, .inl (k4, 601, .inl (upd f4 (Int32.toNatClampNeg 0) 0))), (h0, .inr (7, [.int 0, .int 1, .int 0, .ref sp, .ref tk, .ref cd, .int 0, .ref r1, .ref r2, .ref r3, .ref r4, .int 0])), (tk, .inr (8, [.ref tx, .int 0, .ref kd, .ref pl, .ref wd, .int 1])), (kd, .inl (k2, 601, .inl (upd f2 (Int32.toNatClampNeg 0) 0)))] H := hP
  have hD : va_D A [(sp, .inr (6, [.ref tk, .ref cd, .ref s3, .ref s4, .int 0, .int 0])), (cd, .inr (1, [.ref d1, .ref d2, .ref d3, .int 0])), (pl, .inl (k3, 601, .inl (upd f3 (Int32.toNatClampNeg 0) 0))), (wd, .inl (k4, 601, .inl (upd f4 (Int32.toNatClampNeg 0) 0))), (h0, .inr (7, [.int 0, .int 1, .int 0, .ref sp, .ref tk, .ref cd, .int 0, .ref r1, .ref r2, .ref r3, .ref r4, .int 0])), (tk, .inr (8, [.ref tx, .int 0, .ref kd, .ref pl, .ref wd, .int 1])), (kd, .inl (k2, 601, .inl (upd f2 (Int32.toNatClampNeg 0) 0)))] := hD
  have hK : va_K (dC, dI) z_Cl [(kt, .byte), (k1, .byte), (k2, .int), (k3, .int), (k4, .int), (k2, .int)] s := hK
  have hK := hK.sub (tys' := [(kt, .byte), (k1, .byte), (k2, .int), (k3, .int), (k4, .int)]) [0, 1, 2, 3, 4] rfl
  refine lv_iconst (v := 0) hx hb dX7_read_61 (by decide) ?_
  refine lv_istore (lv' := [(4, .int 0), (0, .ref h0), (1, .ref tp), (2, .int 0), (3, .ref sp)]) hx hb dX7_read_62 hl (by decide) rfl (fun ls hl => ?_)
  refine lv_iload hx hb dX7_read_64 (lv_at hl 0 rfl) ?_
  refine lv_bipush (v := 10) hx hb dX7_read_66 (by decide) ?_
  refine lv_icmp_ge (tgt := 88) hx hb dX7_read_68 (by decide) (fun h9 => absurd h9 (by decide)) (fun _ => ?_)
  refine lv_aload_n hx hb dX7_read_71 rfl (lv_at hl 1 rfl) ?_
  have hPc := hP.sub (ws' := [(h0, .inr (7, [.int 0, .int 1, .int 0, .ref sp, .ref tk, .ref cd, .int 0, .ref r1, .ref r2, .ref r3, .ref r4, .int 0])), (tk, .inr (8, [.ref tx, .int 0, .ref kd, .ref pl, .ref wd, .int 1])), (kd, .inl (k2, 601, .inl (upd f2 (Int32.toNatClampNeg 0) 0)))]) [4, 5, 6] rfl
  have hDc := hD.sub (ws' := [(h0, .inr (7, [.int 0, .int 1, .int 0, .ref sp, .ref tk, .ref cd, .int 0, .ref r1, .ref r2, .ref r3, .ref r4, .int 0])), (tk, .inr (8, [.ref tx, .int 0, .ref kd, .ref pl, .ref wd, .int 1])), (kd, .inl (k2, 601, .inl (upd f2 (Int32.toNatClampNeg 0) 0)))]) [4, 5, 6] (by decide) rfl
  have hKc := hK.sub (tys' := [(k2, .int)]) [2] rfl
  have hFc := va_free (wc := [(h0, .inr (7, [.int 0, .int 1, .int 0, .ref sp, .ref tk, .ref cd, .int 0, .ref r1, .ref r2, .ref r3, .ref r4, .int 0])), (tk, .inr (8, [.ref tx, .int 0, .ref kd, .ref pl, .ref wd, .int 1])), (kd, .inl (k2, 601, .inl (upd f2 (Int32.toNatClampNeg 0) 0)))]) hD hS hA [4, 5, 6] rfl
  refine va_calli (va_runV (As := []) (rest := []) ⟨hx, hb, hml, hown, hts⟩ (c_X7_kind_1 l dC dI h0 sp tk cd r1 r2 r3 r4 tx kd pl wd k2 f2 H.size) (cwV 0 hts c_X7_read_zg_4 rfl rfl rfl (by decide +kernel) ⟨(Nat.le_of_ble_eq_true rfl), (Nat.le_of_ble_eq_true rfl)⟩) ⟨z_blind, va_recv hKc hPc (ci := 7) (q0 := 0) rfl rfl, z_pre hPc hKc hDc hN⟩ rfl rfl hl.1 rfl (lv_room (Nat.le_of_ble_eq_true rfl)) dX7_read_72 ⟨(Nat.le_of_ble_eq_true rfl), (Nat.le_of_ble_eq_true rfl)⟩) hS (fun q _ h => hFc q h) hFc (fun r_5 u t H1 locs ht hvm hw hB hz1 hk1 hS => ?_)
  obtain ⟨hP1, hK1, hD1⟩ := hB
  rw [ht] at hP1
  have hK1 := va_K.moved hvm.symm hK1
  obtain ⟨hP, hD⟩ := va_join (wr := [(sp, .inr (6, [.ref tk, .ref cd, .ref s3, .ref s4, .int 0, .int 0])), (cd, .inr (1, [.ref d1, .ref d2, .ref d3, .int 0])), (pl, .inl (k3, 601, .inl (upd f3 (Int32.toNatClampNeg 0) 0))), (wd, .inl (k4, 601, .inl (upd f4 (Int32.toNatClampNeg 0) 0)))]) (w1 := [(h0, .inr (7, [.int 0, .int 1, .int 0, .ref sp, .ref tk, .ref cd, .int 0, .ref r1, .ref r2, .ref r3, .ref r4, .int 0])), (tk, .inr (8, [.ref tx, .int 0, .ref kd, .ref pl, .ref wd, .int 1])), (kd, .inl (k2, 601, .inl (upd f2 (Int32.toNatClampNeg 0) 0)))]) hP hD [4, 5, 6] [0, 1, 2, 3] rfl rfl (by decide) (by decide) hk1 hFc hP1 hD1
  have hK := (hK.sub (tys' := [(kt, .byte), (k1, .byte), (k2, .int), (k3, .int), (k4, .int)]) [0, 1, 2, 3, 4] rfl).app hK1
  generalize H1 = H at hP hS ⊢
  have hP : va_P (dC, dI) z_Cl [(sp, .inr (6, [.ref tk, .ref cd, .ref s3, .ref s4, .int 0, .int 0])), (cd, .inr (1, [.ref d1, .ref d2, .ref d3, .int 0])), (pl, .inl (k3, 601, .inl (upd f3 (Int32.toNatClampNeg 0) 0))), (wd, .inl (k4, 601, .inl (upd f4 (Int32.toNatClampNeg 0) 0))), (h0, .inr (7, [.int 0, .int 1, .int 0, .ref sp, .ref tk, .ref cd, .int 0, .ref r1, .ref r2, .ref r3, .ref r4, .int 0])), (tk, .inr (8, [.ref tx, .int 0, .ref kd, .ref pl, .ref wd, .int 1])), (kd, .inl (k2, 601, .inl (upd f2 (Int32.toNatClampNeg 0) 0)))] H := hP
  have hD : va_D A [(sp, .inr (6, [.ref tk, .ref cd, .ref s3, .ref s4, .int 0, .int 0])), (cd, .inr (1, [.ref d1, .ref d2, .ref d3, .int 0])), (pl, .inl (k3, 601, .inl (upd f3 (Int32.toNatClampNeg 0) 0))), (wd, .inl (k4, 601, .inl (upd f4 (Int32.toNatClampNeg 0) 0))), (h0, .inr (7, [.int 0, .int 1, .int 0, .ref sp, .ref tk, .ref cd, .int 0, .ref r1, .ref r2, .ref r3, .ref r4, .int 0])), (tk, .inr (8, [.ref tx, .int 0, .ref kd, .ref pl, .ref wd, .int 1])), (kd, .inl (k2, 601, .inl (upd f2 (Int32.toNatClampNeg 0) 0)))] := hD
  have hK : va_K (dC, dI) z_Cl [(kt, .byte), (k1, .byte), (k2, .int), (k3, .int), (k4, .int), (k2, .int)] s := hK
  have hK := hK.sub (tys' := [(kt, .byte), (k1, .byte), (k2, .int), (k3, .int), (k4, .int)]) [0, 1, 2, 3, 4] rfl
  have hw : r_5 = 0 := hw
  subst hw
  refine lv_if_eq (tgt := 88) hx hb dX7_read_75 (by decide) (fun _ => ?_) (fun h9 => absurd (by decide) h9)
  refine lv_aload_n hx hb dX7_read_88 rfl (lv_at hl 1 rfl) ?_
  refine va_get (D := (dC, dI)) (ci := 7) (v := .int 1) (C := RX7) (T := TX7) (N := 12) hx hb hts hin_7 hown hK hP 4 rfl rfl 1 (by decide) (hts (.fieldLink RX7 56 "LessonMaker$Reader" "foundFault" "I") (List.mem_of_getElem? (i := 48) rfl)) (fun _ h9 => h9) rfl dX7_read_89 ?_
  refine lv_if_ne (tgt := 99) hx hb dX7_read_92 (by decide) (fun _ => ?_) (fun h9 => absurd h9 (by decide))
  refine lv_aload_n hx hb dX7_read_99 rfl (lv_at hl 1 rfl) ?_
  refine lv_aload_n hx hb dX7_read_100 rfl (lv_at hl 1 rfl) ?_
  refine va_get (D := (dC, dI)) (ci := 7) (v := .ref tk) (C := RX7) (T := TX7) (N := 12) hx hb hts hin_7 hown hK hP 4 rfl rfl 4 (by decide) (hts (.fieldLink RX7 34 "LessonMaker$Reader" "tokens" "LLessonMaker$Tokens;") (List.mem_of_getElem? (i := 3) rfl)) (fun _ h9 => h9) rfl dX7_read_101 ?_
  refine lv_aload_n hx hb dX7_read_104 rfl (lv_at hl 1 rfl) ?_
  refine va_get (D := (dC, dI)) (ci := 7) (v := .int 0) (C := RX7) (T := TX7) (N := 12) hx hb hts hin_7 hown hK hP 4 rfl rfl 2 (by decide) (hts (.fieldLink RX7 59 "LessonMaker$Reader" "faultToken" "I") (List.mem_of_getElem? (i := 49) rfl)) (fun _ h9 => h9) rfl dX7_read_105 ?_
  have hPc := hP.sub (ws' := [(tk, .inr (8, [.ref tx, .int 0, .ref kd, .ref pl, .ref wd, .int 1])), (kd, .inl (k2, 601, .inl (upd f2 (Int32.toNatClampNeg 0) 0))), (pl, .inl (k3, 601, .inl (upd f3 (Int32.toNatClampNeg 0) 0)))]) [5, 6, 2] rfl
  have hDc := hD.sub (ws' := [(tk, .inr (8, [.ref tx, .int 0, .ref kd, .ref pl, .ref wd, .int 1])), (kd, .inl (k2, 601, .inl (upd f2 (Int32.toNatClampNeg 0) 0))), (pl, .inl (k3, 601, .inl (upd f3 (Int32.toNatClampNeg 0) 0)))]) [5, 6, 2] (by decide) rfl
  have hKc := hK.sub (tys' := [(k2, .int), (k3, .int)]) [2, 3] rfl
  have hFc := va_free (wc := [(tk, .inr (8, [.ref tx, .int 0, .ref kd, .ref pl, .ref wd, .int 1])), (kd, .inl (k2, 601, .inl (upd f2 (Int32.toNatClampNeg 0) 0))), (pl, .inl (k3, 601, .inl (upd f3 (Int32.toNatClampNeg 0) 0)))]) hD hS hA [5, 6, 2] rfl
  refine va_calli (va_runV (As := [.int 0]) (rest := [.ref h0]) ⟨hx, hb, hml, hown, hts⟩ (c_X8_placeOf l dC dI tk tx kd pl wd k2 f2 k3 f3 H.size) (cwV 1 hts c_X7_read_zg_6 rfl rfl rfl (by decide +kernel) ⟨(Nat.le_of_ble_eq_true rfl), (Nat.le_of_ble_eq_true rfl)⟩) ⟨z_blind, va_recv hKc hPc (ci := 8) (q0 := 0) rfl rfl, z_pre hPc hKc hDc hN⟩ rfl rfl hl.1 rfl (lv_room (Nat.le_of_ble_eq_true rfl)) dX7_read_108 ⟨(Nat.le_of_ble_eq_true rfl), (Nat.le_of_ble_eq_true rfl)⟩) hS (fun q _ h => hFc q h) hFc (fun r_7 u t H1 locs ht hvm hw hB hz1 hk1 hS => ?_)
  obtain ⟨hP1, hK1, hD1⟩ := hB
  rw [ht] at hP1
  have hK1 := va_K.moved hvm.symm hK1
  obtain ⟨hP, hD⟩ := va_join (wr := [(sp, .inr (6, [.ref tk, .ref cd, .ref s3, .ref s4, .int 0, .int 0])), (cd, .inr (1, [.ref d1, .ref d2, .ref d3, .int 0])), (wd, .inl (k4, 601, .inl (upd f4 (Int32.toNatClampNeg 0) 0))), (h0, .inr (7, [.int 0, .int 1, .int 0, .ref sp, .ref tk, .ref cd, .int 0, .ref r1, .ref r2, .ref r3, .ref r4, .int 0]))]) (w1 := [(tk, .inr (8, [.ref tx, .int 0, .ref kd, .ref pl, .ref wd, .int 1])), (kd, .inl (k2, 601, .inl (upd f2 (Int32.toNatClampNeg 0) 0))), (pl, .inl (k3, 601, .inl (upd f3 (Int32.toNatClampNeg 0) 0)))]) hP hD [5, 6, 2] [0, 1, 3, 4] rfl rfl (by decide) (by decide) hk1 hFc hP1 hD1
  have hK := (hK.sub (tys' := [(kt, .byte), (k1, .byte), (k2, .int), (k3, .int), (k4, .int)]) [0, 1, 2, 3, 4] rfl).app hK1
  generalize H1 = H at hP hS ⊢
  have hP : va_P (dC, dI) z_Cl [(sp, .inr (6, [.ref tk, .ref cd, .ref s3, .ref s4, .int 0, .int 0])), (cd, .inr (1, [.ref d1, .ref d2, .ref d3, .int 0])), (wd, .inl (k4, 601, .inl (upd f4 (Int32.toNatClampNeg 0) 0))), (h0, .inr (7, [.int 0, .int 1, .int 0, .ref sp, .ref tk, .ref cd, .int 0, .ref r1, .ref r2, .ref r3, .ref r4, .int 0])), (tk, .inr (8, [.ref tx, .int 0, .ref kd, .ref pl, .ref wd, .int 1])), (kd, .inl (k2, 601, .inl (upd f2 (Int32.toNatClampNeg 0) 0))), (pl, .inl (k3, 601, .inl (upd f3 (Int32.toNatClampNeg 0) 0)))] H := hP
  have hD : va_D A [(sp, .inr (6, [.ref tk, .ref cd, .ref s3, .ref s4, .int 0, .int 0])), (cd, .inr (1, [.ref d1, .ref d2, .ref d3, .int 0])), (wd, .inl (k4, 601, .inl (upd f4 (Int32.toNatClampNeg 0) 0))), (h0, .inr (7, [.int 0, .int 1, .int 0, .ref sp, .ref tk, .ref cd, .int 0, .ref r1, .ref r2, .ref r3, .ref r4, .int 0])), (tk, .inr (8, [.ref tx, .int 0, .ref kd, .ref pl, .ref wd, .int 1])), (kd, .inl (k2, 601, .inl (upd f2 (Int32.toNatClampNeg 0) 0))), (pl, .inl (k3, 601, .inl (upd f3 (Int32.toNatClampNeg 0) 0)))] := hD
  have hK : va_K (dC, dI) z_Cl [(kt, .byte), (k1, .byte), (k2, .int), (k3, .int), (k4, .int), (k2, .int), (k3, .int)] s := hK
  have hK := hK.sub (tys' := [(kt, .byte), (k1, .byte), (k2, .int), (k3, .int), (k4, .int)]) [0, 1, 2, 3, 4] rfl
  have hw : r_7 = 0 := hw
  subst hw
  refine va_put (D := (dC, dI)) (ci := 7) (v := .int 0) (ty := .int) (C := RX7) (T := TX7) (N := 12) hx hb hts hin_7 tyX7 tyX7_ok nmX7 hown hK hP hD hS 3 rfl rfl 0 (by decide) (hts (.fieldLink RX7 76 "LessonMaker$Reader" "faultPlace" "I") (List.mem_of_getElem? (i := 73) rfl)) (fun _ h9 => h9) rfl (by decide +kernel) rfl rfl (Nat.le_of_ble_eq_true rfl) dX7_read_111 (fun H locs hP hD hS => ?_)
  have hP : va_P (dC, dI) z_Cl [(sp, .inr (6, [.ref tk, .ref cd, .ref s3, .ref s4, .int 0, .int 0])), (cd, .inr (1, [.ref d1, .ref d2, .ref d3, .int 0])), (wd, .inl (k4, 601, .inl (upd f4 (Int32.toNatClampNeg 0) 0))), (h0, .inr (7, [.int 0, .int 1, .int 0, .ref sp, .ref tk, .ref cd, .int 0, .ref r1, .ref r2, .ref r3, .ref r4, .int 0])), (tk, .inr (8, [.ref tx, .int 0, .ref kd, .ref pl, .ref wd, .int 1])), (kd, .inl (k2, 601, .inl (upd f2 (Int32.toNatClampNeg 0) 0))), (pl, .inl (k3, 601, .inl (upd f3 (Int32.toNatClampNeg 0) 0)))] H := hP
  have hD : va_D A [(sp, .inr (6, [.ref tk, .ref cd, .ref s3, .ref s4, .int 0, .int 0])), (cd, .inr (1, [.ref d1, .ref d2, .ref d3, .int 0])), (wd, .inl (k4, 601, .inl (upd f4 (Int32.toNatClampNeg 0) 0))), (h0, .inr (7, [.int 0, .int 1, .int 0, .ref sp, .ref tk, .ref cd, .int 0, .ref r1, .ref r2, .ref r3, .ref r4, .int 0])), (tk, .inr (8, [.ref tx, .int 0, .ref kd, .ref pl, .ref wd, .int 1])), (kd, .inl (k2, 601, .inl (upd f2 (Int32.toNatClampNeg 0) 0))), (pl, .inl (k3, 601, .inl (upd f3 (Int32.toNatClampNeg 0) 0)))] := hD
  refine lv_aload_n hx hb dX7_read_114 rfl (lv_at hl 1 rfl) ?_
  refine va_get (D := (dC, dI)) (ci := 7) (v := .int 1) (C := RX7) (T := TX7) (N := 12) hx hb hts hin_7 hown hK hP 3 rfl rfl 1 (by decide) (hts (.fieldLink RX7 56 "LessonMaker$Reader" "foundFault" "I") (List.mem_of_getElem? (i := 48) rfl)) (fun _ h9 => h9) rfl dX7_read_115 ?_
  have hP9 := hP.sub (ws' := []) [] rfl
  have hD9 := hD.sub (ws' := []) [] (by decide) rfl
  have hK9 := hK.sub (tys' := []) [] rfl
  refine W.widen (k := 0) (n := 0) (Nat.le_of_ble_eq_true rfl) (Nat.le_of_ble_eq_true rfl) ?_
  exact W.iret (v := 1) hx hb hr (fun t ht hW => ⟨⟨1, (), rfl, rfl, by rw [ht]; exact hP9, va_K.moved hW.alike hK9, hD9⟩, hS.F ht⟩) hS.2.2 dX7_read_118

def z_wX10_program : List Cond := .code yX10_program cX10_program 2 (some .int) :: ([.fieldLink RX10 92 "LessonMaker" "latestTrouble" "I", .methodLink RX10 68 yX10_refuse, .instanceMethod yX10_refuse, .selects RX10 yX10_refuse yX10_refuse, .initialized RX10, .code yX10_refuse cX10_refuse 2 (some .int), .fieldLink RX10 64 "LessonMaker" "fed" "I", .fieldLink RX10 26 "LessonMaker" "reader" "LLessonMaker$Reader;", .fieldLink RX10 9 "LessonMaker" "tape" "[B", .fieldLink RX10 20 "LessonMaker" "spare" "LLessonMaker$Program;", .fieldLink RX7 24 "LessonMaker$Reader" "program" "LLessonMaker$Program;", .fieldLink RX7 28 "LessonMaker$Program" "tokens" "LLessonMaker$Tokens;", .fieldLink RX7 34 "LessonMaker$Reader" "tokens" "LLessonMaker$Tokens;", .fieldLink RX7 35 "LessonMaker$Program" "code" "LLessonMaker$Code;", .fieldLink RX7 39 "LessonMaker$Reader" "code" "LLessonMaker$Code;", .fieldLink RX6 39 "LessonMaker$Program" "functionCount" "I", .fieldLink RX6 43 "LessonMaker$Program" "lineCount" "I", .fieldLink RX6 21 "LessonMaker$Program" "code" "LLessonMaker$Code;", .fieldLink RX1 21 "LessonMaker$Code" "size" "I", .methodLink RX6 46 yX1_clear, .instanceMethod yX1_clear, .selects RX1 yX1_clear yX1_clear, .initialized RX1, .code yX1_clear cX1_clear 1 none, .methodLink RX7 40 yX6_clear, .instanceMethod yX6_clear, .selects RX6 yX6_clear yX6_clear, .initialized RX6, .code yX6_clear cX6_clear 1 none, .fieldLink RX8 9 "LessonMaker$Tokens" "text" "[B", .methodLink RX8 25 Lib.Math.min.name, .static Lib.Math.min.name, .initialized "java/lang/Math", .code Lib.Math.min.name Lib.Math.min.code 2 (some .int), .methodLink RX8 31 Lib.Math.max.name, .static Lib.Math.max.name, .code Lib.Math.max.name Lib.Math.max.code 2 (some .int), .fieldLink RX8 34 "LessonMaker$Tokens" "length" "I", .methodLink RX8 38 arraycopyName, .native arraycopyName, .static arraycopyName, .initialized "java/lang/System", .fieldLink RX8 44 "LessonMaker$Tokens" "size" "I", .fieldLink RX8 15 "LessonMaker$Tokens" "kinds" "[I", .fieldLink RX8 19 "LessonMaker$Tokens" "places" "[I", .fieldLink RX8 22 "LessonMaker$Tokens" "widths" "[I", .methodLink RX8 51 yX8_add, .instanceMethod yX8_add, .selects RX8 yX8_add yX8_add, .initialized RX8, .code yX8_add cX8_add 4 none, .methodLink RX7 43 yX8_cut, .instanceMethod yX8_cut, .selects RX8 yX8_cut yX8_cut, .code yX8_cut cX8_cut 5 none, .fieldLink RX7 49 "LessonMaker$Reader" "next" "I", .fieldLink RX7 53 "LessonMaker$Reader" "callCount" "I", .fieldLink RX7 56 "LessonMaker$Reader" "foundFault" "I", .fieldLink RX7 59 "LessonMaker$Reader" "faultToken" "I", .fieldLink RX7 138 "LessonMaker$Tokens" "size" "I", .fieldLink RX7 212 "LessonMaker$Tokens" "kinds" "[I", .methodLink RX7 65 yX7_kind, .instanceMethod yX7_kind, .selects RX7 yX7_kind yX7_kind, .initialized RX7, .code yX7_kind cX7_kind 2 (some .int), .methodLink RX7 79 yX7_fail, .instanceMethod yX7_fail, .selects RX7 yX7_fail yX7_fail, .code yX7_fail cX7_fail 2 none, .methodLink RX7 62 yX7_readFunction, .instanceMethod yX7_readFunction, .selects RX7 yX7_readFunction yX7_readFunction, .code yX7_readFunction cX7_readFunction 3 none, .methodLink RX8 58 yX8_has, .instanceMethod yX8_has, .selects RX8 yX8_has yX8_has, .code yX8_has cX8_has 2 (some .boolean), .methodLink RX7 72 yX8_placeOf, .instanceMethod yX8_placeOf, .selects RX8 yX8_placeOf yX8_placeOf, .code yX8_placeOf cX8_placeOf 2 (some .int), .fieldLink RX7 76 "LessonMaker$Reader" "faultPlace" "I", .methodLink RX10 79 yX7_read, .instanceMethod yX7_read, .selects RX7 yX7_read yX7_read, .code yX7_read cX7_read 5 (some .int), .fieldLink RX10 83 "LessonMaker" "latestFault" "I"] ++ (u_ws RX10 TX10 14 ++ u_ws RX1 TX1 4 ++ u_ws RX6 TX6 6 ++ u_ws RX8 TX8 6 ++ u_ws RX7 TX7 12))
set_option maxRecDepth 20000 in
theorem c_X10_program_zg_2 : GoodIn z_wX10_program (wsV RX10 68 RX10 yX10_refuse z_wX10_refuse) := goodIn_r _ [2, 3, 4, 5, 6, 1, 89, 90, 91, 92, 93, 94, 95, 96, 97, 98, 99, 100, 101, 102] (by decide +kernel) (by decide +kernel)
set_option maxRecDepth 20000 in
theorem c_X10_program_zg_5 : GoodIn z_wX10_program (wsV RX10 79 RX7 yX7_read z_wX7_read) := goodIn_r _ [84, 85, 86, 65, 87, 11, 12, 13, 14, 15, 16, 17, 18, 19, 20, 21, 22, 23, 24, 25, 26, 27, 28, 29, 30, 31, 32, 33, 34, 35, 36, 37, 38, 39, 40, 41, 42, 43, 44, 45, 46, 47, 48, 49, 50, 51, 52, 53, 54, 55, 56, 57, 58, 59, 60, 61, 62, 63, 64, 65, 66, 67, 68, 69, 70, 71, 72, 73, 74, 75, 76, 77, 78, 79, 80, 81, 82, 83, 103, 104, 105, 106, 107, 108, 109, 110, 111, 112, 113, 114, 115, 116, 117, 118, 119, 120, 121, 122, 123, 124, 125, 126, 127, 128, 129, 130] (by decide +kernel) (by decide +kernel)
set_option maxRecDepth 20000 in
theorem c_X10_program_zg_7 : GoodIn z_wX10_program (wsV RX10 68 RX10 yX10_refuse z_wX10_refuse) := goodIn_r _ [2, 3, 4, 5, 6, 1, 89, 90, 91, 92, 93, 94, 95, 96, 97, 98, 99, 100, 101, 102] (by decide +kernel) (by decide +kernel)
set_option maxRecDepth 20000 in
theorem c_X10_program_zg_9 : GoodIn z_wX10_program (wsV RX10 68 RX10 yX10_refuse z_wX10_refuse) := goodIn_r _ [2, 3, 4, 5, 6, 1, 89, 90, 91, 92, 93, 94, 95, 96, 97, 98, 99, 100, 101, 102] (by decide +kernel) (by decide +kernel)
set_option maxHeartbeats 4000000 in
set_option maxRecDepth 100000 in
theorem c_X10_program (l : Launch) (dC : Nat → ClassId) (dI : Nat → Nat → Nat) (h0 : Nat) (tp : Nat) (nw : Nat) (sp : Nat) (rd : Nat) (la : Nat) (tr : Nat) (ti : Nat) (ch : Nat) (td : Nat) (gr : Nat) (kt : ClassId) (ft : Nat → Int32) (tk : Nat) (cd : Nat) (s3 : Nat) (s4 : Nat) (tx : Nat) (kd : Nat) (pl : Nat) (wd : Nat) (k1 : ClassId) (f1 : Nat → Int32) (k2 : ClassId) (f2 : Nat → Int32) (k3 : ClassId) (f3 : Nat → Int32) (k4 : ClassId) (f4 : Nat → Int32) (d1 : Nat) (d2 : Nat) (d3 : Nat) (r1 : Nat) (r2 : Nat) (r3 : Nat) (r4 : Nat) (p1 : Int32) (sz : Nat) : Met l yX10_program z_wX10_program ({ frames := 3, cells := 0, slots := 0, locals := 108 }) (va_Pc [.ref h0, .int p1] (z_in dC dI [(h0, .inr (10, [.ref tp, .int 0, .ref nw, .ref sp, .ref rd, .ref la, .ref tr, .ref ti, .int 0, .ref ch, .ref td, .ref gr, .int 0, .int 0])), (tp, .inl (kt, 600, .inl ft)), (sp, .inr (6, [.ref tk, .ref cd, .ref s3, .ref s4, .int 0, .int 0])), (tk, .inr (8, [.ref tx, .int 0, .ref kd, .ref pl, .ref wd, .int 0])), (tx, .inl (k1, 600, .inl f1)), (kd, .inl (k2, 601, .inl f2)), (pl, .inl (k3, 601, .inl f3)), (wd, .inl (k4, 601, .inl f4)), (cd, .inr (1, [.ref d1, .ref d2, .ref d3, .int 0])), (rd, .inr (7, [.int 0, .int 0, .int 0, .null, .null, .null, .int 0, .ref r1, .ref r2, .ref r3, .ref r4, .int 0]))] [(kt, .byte), (k1, .byte), (k2, .int), (k3, .int), (k4, .int)] sz)) (va_Qi (fun (r : Int32) (_ : Unit) => r = (-1)) (fun (_ : Unit) t => z_out dC dI (va_A [(h0, .inr (10, [.ref tp, .int 0, .ref nw, .ref sp, .ref rd, .ref la, .ref tr, .ref ti, .int 0, .ref ch, .ref td, .ref gr, .int 0, .int 0])), (tp, .inl (kt, 600, .inl ft)), (sp, .inr (6, [.ref tk, .ref cd, .ref s3, .ref s4, .int 0, .int 0])), (tk, .inr (8, [.ref tx, .int 0, .ref kd, .ref pl, .ref wd, .int 0])), (tx, .inl (k1, 600, .inl f1)), (kd, .inl (k2, 601, .inl f2)), (pl, .inl (k3, 601, .inl f3)), (wd, .inl (k4, 601, .inl f4)), (cd, .inr (1, [.ref d1, .ref d2, .ref d3, .int 0])), (rd, .inr (7, [.int 0, .int 0, .int 0, .null, .null, .null, .int 0, .ref r1, .ref r2, .ref r3, .ref r4, .int 0]))] sz) [] [] t) (va_A [(h0, .inr (10, [.ref tp, .int 0, .ref nw, .ref sp, .ref rd, .ref la, .ref tr, .ref ti, .int 0, .ref ch, .ref td, .ref gr, .int 0, .int 0])), (tp, .inl (kt, 600, .inl ft)), (sp, .inr (6, [.ref tk, .ref cd, .ref s3, .ref s4, .int 0, .int 0])), (tk, .inr (8, [.ref tx, .int 0, .ref kd, .ref pl, .ref wd, .int 0])), (tx, .inl (k1, 600, .inl f1)), (kd, .inl (k2, 601, .inl f2)), (pl, .inl (k3, 601, .inl f3)), (wd, .inl (k4, 601, .inl f4)), (cd, .inr (1, [.ref d1, .ref d2, .ref d3, .int 0])), (rd, .inr (7, [.int 0, .int 0, .int 0, .null, .null, .null, .int 0, .ref r1, .ref r2, .ref r3, .ref r4, .int 0]))] sz)) 0 0 (va_A [(h0, .inr (10, [.ref tp, .int 0, .ref nw, .ref sp, .ref rd, .ref la, .ref tr, .ref ti, .int 0, .ref ch, .ref td, .ref gr, .int 0, .int 0])), (tp, .inl (kt, 600, .inl ft)), (sp, .inr (6, [.ref tk, .ref cd, .ref s3, .ref s4, .int 0, .int 0])), (tk, .inr (8, [.ref tx, .int 0, .ref kd, .ref pl, .ref wd, .int 0])), (tx, .inl (k1, 600, .inl f1)), (kd, .inl (k2, 601, .inl f2)), (pl, .inl (k3, 601, .inl f3)), (wd, .inl (k4, 601, .inl f4)), (cd, .inr (1, [.ref d1, .ref d2, .ref d3, .int 0])), (rd, .inr (7, [.int 0, .int 0, .int 0, .null, .null, .null, .int 0, .ref r1, .ref r2, .ref r3, .ref r4, .int 0]))] sz) := by
  refine Met.ofW (cc := cX10_program) (maxL := 2) (ret := (some .int)) (by decide) rfl ?_
  intro p e s m args below meth c s₁ B hml hv
  obtain ⟨rfl, hsz, hP, hK, hD0, hN⟩ := hv
  have hx := B.exec
  have hb := B.bytes
  have hr := B.returns
  have hts := atoms_spec (ws := z_wX10_program) B.pre
  have hown : s.vm.findClass RX10 = some m.cls := findClass_of_methodNamed B.named
  have hlocks := B.notSynchronized
  have hin_10 : ∀ w ∈ u_ws RX10 TX10 14, w ∈ z_wX10_program := by decide +kernel
  subst hsz
  have hD := hD0.self (sz := s.heap.size)
  generalize hAe : va_A [(h0, .inr (10, [.ref tp, .int 0, .ref nw, .ref sp, .ref rd, .ref la, .ref tr, .ref ti, .int 0, .ref ch, .ref td, .ref gr, .int 0, .int 0])), (tp, .inl (kt, 600, .inl ft)), (sp, .inr (6, [.ref tk, .ref cd, .ref s3, .ref s4, .int 0, .int 0])), (tk, .inr (8, [.ref tx, .int 0, .ref kd, .ref pl, .ref wd, .int 0])), (tx, .inl (k1, 600, .inl f1)), (kd, .inl (k2, 601, .inl f2)), (pl, .inl (k3, 601, .inl f3)), (wd, .inl (k4, 601, .inl f4)), (cd, .inr (1, [.ref d1, .ref d2, .ref d3, .int 0])), (rd, .inr (7, [.int 0, .int 0, .int 0, .null, .null, .null, .int 0, .ref r1, .ref r2, .ref r3, .ref r4, .int 0]))] s.heap.size = A at hD ⊢
  have hA : ∀ q : Nat, s.heap.size ≤ q → A q := fun q h => by rw [← hAe]; exact Or.inr h
  have hS : va_S A s.heap s.heap [] := va_S.rf
  have hP : va_P (dC, dI) z_Cl [(h0, .inr (10, [.ref tp, .int 0, .ref nw, .ref sp, .ref rd, .ref la, .ref tr, .ref ti, .int 0, .ref ch, .ref td, .ref gr, .int 0, .int 0])), (tp, .inl (kt, 600, .inl ft)), (sp, .inr (6, [.ref tk, .ref cd, .ref s3, .ref s4, .int 0, .int 0])), (tk, .inr (8, [.ref tx, .int 0, .ref kd, .ref pl, .ref wd, .int 0])), (tx, .inl (k1, 600, .inl f1)), (kd, .inl (k2, 601, .inl f2)), (pl, .inl (k3, 601, .inl f3)), (wd, .inl (k4, 601, .inl f4)), (cd, .inr (1, [.ref d1, .ref d2, .ref d3, .int 0])), (rd, .inr (7, [.int 0, .int 0, .int 0, .null, .null, .null, .int 0, .ref r1, .ref r2, .ref r3, .ref r4, .int 0]))] s.heap := hP
  have hl := lv_entry ([.ref h0, .int p1]) (n := 2) (Nat.le_of_ble_eq_true rfl)
  rw [lg_entry_eq]
  generalize (lg_sl ([.ref h0, .int p1]) ++ List.replicate (2 - (lg_sl ([.ref h0, .int p1])).length) Slot.unset).toArray = ls at hl ⊢
  have hl : lv_has ls 2 [(0, .ref h0), (1, .int p1)] := hl
  refine lv_iload_n hx hb dX10_program_0 rfl (lv_at hl 1 rfl) ?_
  refine lv_if_lt (tgt := 12) hx hb dX10_program_1 (by decide) (fun c_1 => ?_) (fun c_1 => ?_)
  · refine lv_aload_n hx hb dX10_program_12 rfl (lv_at hl 0 rfl) ?_
    refine lv_iconst (v := 2) hx hb dX10_program_13 (by decide) ?_
    have hPc := hP.sub (ws' := [(h0, .inr (10, [.ref tp, .int 0, .ref nw, .ref sp, .ref rd, .ref la, .ref tr, .ref ti, .int 0, .ref ch, .ref td, .ref gr, .int 0, .int 0]))]) [0] rfl
    have hDc := hD.sub (ws' := [(h0, .inr (10, [.ref tp, .int 0, .ref nw, .ref sp, .ref rd, .ref la, .ref tr, .ref ti, .int 0, .ref ch, .ref td, .ref gr, .int 0, .int 0]))]) [0] (by decide) rfl
    have hKc := hK.sub (tys' := []) [] rfl
    have hFc := va_free (wc := [(h0, .inr (10, [.ref tp, .int 0, .ref nw, .ref sp, .ref rd, .ref la, .ref tr, .ref ti, .int 0, .ref ch, .ref td, .ref gr, .int 0, .int 0]))]) hD hS hA [0] rfl
    refine va_calli (va_runV (As := [.int 2]) (rest := []) ⟨hx, hb, hml, hown, hts⟩ (c_X10_refuse l dC dI h0 tp 0 nw sp rd la tr ti 0 ch td gr 0 0 2 s.heap.size) (cwV 1 hts c_X10_program_zg_2 rfl rfl rfl (by decide +kernel) ⟨(Nat.le_of_ble_eq_true rfl), (Nat.le_of_ble_eq_true rfl)⟩) ⟨z_blind, va_recv hKc hPc (ci := 10) (q0 := 0) rfl rfl, z_pre hPc hKc hDc hN⟩ rfl rfl hl.1 rfl (lv_room (Nat.le_of_ble_eq_true rfl)) dX10_program_14 ⟨(Nat.le_of_ble_eq_true rfl), (Nat.le_of_ble_eq_true rfl)⟩) hS (fun q _ h => hFc q h) hFc (fun r_3 u t H1 locs ht hvm hw hB hz1 hk1 hS => ?_)
    obtain ⟨hP1, hK1, hD1⟩ := hB
    rw [ht] at hP1
    have hK1 := va_K.moved hvm.symm hK1
    obtain ⟨hP, hD⟩ := va_join (wr := [(tp, .inl (kt, 600, .inl ft)), (sp, .inr (6, [.ref tk, .ref cd, .ref s3, .ref s4, .int 0, .int 0])), (tk, .inr (8, [.ref tx, .int 0, .ref kd, .ref pl, .ref wd, .int 0])), (tx, .inl (k1, 600, .inl f1)), (kd, .inl (k2, 601, .inl f2)), (pl, .inl (k3, 601, .inl f3)), (wd, .inl (k4, 601, .inl f4)), (cd, .inr (1, [.ref d1, .ref d2, .ref d3, .int 0])), (rd, .inr (7, [.int 0, .int 0, .int 0, .null, .null, .null, .int 0, .ref r1, .ref r2, .ref r3, .ref r4, .int 0]))]) (w1 := []) hP hD [0] [1, 2, 3, 4, 5, 6, 7, 8, 9] rfl rfl (by decide) (by decide) hk1 hFc hP1 hD1
    have hK := (hK.sub (tys' := [(kt, .byte), (k1, .byte), (k2, .int), (k3, .int), (k4, .int)]) [0, 1, 2, 3, 4] rfl).app hK1
    generalize H1 = H at hP hS ⊢
    have hP : va_P (dC, dI) z_Cl [(tp, .inl (kt, 600, .inl ft)), (sp, .inr (6, [.ref tk, .ref cd, .ref s3, .ref s4, .int 0, .int 0])), (tk, .inr (8, [.ref tx, .int 0, .ref kd, .ref pl, .ref wd, .int 0])), (tx, .inl (k1, 600, .inl f1)), (kd, .inl (k2, 601, .inl f2)), (pl, .inl (k3, 601, .inl f3)), (wd, .inl (k4, 601, .inl f4)), (cd, .inr (1, [.ref d1, .ref d2, .ref d3, .int 0])), (rd, .inr (7, [.int 0, .int 0, .int 0, .null, .null, .null, .int 0, .ref r1, .ref r2, .ref r3, .ref r4, .int 0]))] H := hP
    have hD : va_D A [(tp, .inl (kt, 600, .inl ft)), (sp, .inr (6, [.ref tk, .ref cd, .ref s3, .ref s4, .int 0, .int 0])), (tk, .inr (8, [.ref tx, .int 0, .ref kd, .ref pl, .ref wd, .int 0])), (tx, .inl (k1, 600, .inl f1)), (kd, .inl (k2, 601, .inl f2)), (pl, .inl (k3, 601, .inl f3)), (wd, .inl (k4, 601, .inl f4)), (cd, .inr (1, [.ref d1, .ref d2, .ref d3, .int 0])), (rd, .inr (7, [.int 0, .int 0, .int 0, .null, .null, .null, .int 0, .ref r1, .ref r2, .ref r3, .ref r4, .int 0]))] := hD
    have hK : va_K (dC, dI) z_Cl [(kt, .byte), (k1, .byte), (k2, .int), (k3, .int), (k4, .int)] s := hK
    have hw : r_3 = (-1) := hw
    subst hw
    have hP9 := hP.sub (ws' := []) [] rfl
    have hD9 := hD.sub (ws' := []) [] (by decide) rfl
    have hK9 := hK.sub (tys' := []) [] rfl
    refine W.widen (k := 0) (n := 0) (Nat.le_of_ble_eq_true rfl) (Nat.le_of_ble_eq_true rfl) ?_
    exact W.iret (v := (-1)) hx hb hr (fun t ht hW => ⟨⟨(-1), (), rfl, rfl, by rw [ht]; exact hP9, va_K.moved hW.alike hK9, hD9⟩, hS.F ht⟩) hS.2.2 dX10_program_17
  · refine lv_iload_n hx hb dX10_program_4 rfl (lv_at hl 1 rfl) ?_
    refine lv_aload_n hx hb dX10_program_5 rfl (lv_at hl 0 rfl) ?_
    refine va_get (D := (dC, dI)) (ci := 10) (v := .int 0) (C := RX10) (T := TX10) (N := 14) hx hb hts hin_10 hown hK hP 0 rfl rfl 1 (by decide) (hts (.fieldLink RX10 64 "LessonMaker" "fed" "I") (List.mem_of_getElem? (i := 7) rfl)) (fun _ h9 => h9) rfl dX10_program_6 ?_
    refine lv_icmp_le (tgt := 18) hx hb dX10_program_9 (by decide) (fun c_4 => ?_) (fun c_4 => ?_)
    · obtain rfl : p1 = 0 := z_zero c_1 c_4
      refine lv_aload_n hx hb dX10_program_18 rfl (lv_at hl 0 rfl) ?_
      refine lv_iconst (v := 0) hx hb dX10_program_19 (by decide) ?_
      refine va_put (D := (dC, dI)) (ci := 10) (v := .int 0) (ty := .int) (C := RX10) (T := TX10) (N := 14) hx hb hts hin_10 tyX10 tyX10_ok nmX10 hown hK hP hD hS 0 rfl rfl 1 (by decide) (hts (.fieldLink RX10 64 "LessonMaker" "fed" "I") (List.mem_of_getElem? (i := 7) rfl)) (fun _ h9 => h9) rfl (by decide +kernel) rfl rfl (Nat.le_of_ble_eq_true rfl) dX10_program_20 (fun H locs hP hD hS => ?_)
      have hP : va_P (dC, dI) z_Cl [(h0, .inr (10, [.ref tp, .int 0, .ref nw, .ref sp, .ref rd, .ref la, .ref tr, .ref ti, .int 0, .ref ch, .ref td, .ref gr, .int 0, .int 0])), (tp, .inl (kt, 600, .inl ft)), (sp, .inr (6, [.ref tk, .ref cd, .ref s3, .ref s4, .int 0, .int 0])), (tk, .inr (8, [.ref tx, .int 0, .ref kd, .ref pl, .ref wd, .int 0])), (tx, .inl (k1, 600, .inl f1)), (kd, .inl (k2, 601, .inl f2)), (pl, .inl (k3, 601, .inl f3)), (wd, .inl (k4, 601, .inl f4)), (cd, .inr (1, [.ref d1, .ref d2, .ref d3, .int 0])), (rd, .inr (7, [.int 0, .int 0, .int 0, .null, .null, .null, .int 0, .ref r1, .ref r2, .ref r3, .ref r4, .int 0]))] H := hP
      have hD : va_D A [(h0, .inr (10, [.ref tp, .int 0, .ref nw, .ref sp, .ref rd, .ref la, .ref tr, .ref ti, .int 0, .ref ch, .ref td, .ref gr, .int 0, .int 0])), (tp, .inl (kt, 600, .inl ft)), (sp, .inr (6, [.ref tk, .ref cd, .ref s3, .ref s4, .int 0, .int 0])), (tk, .inr (8, [.ref tx, .int 0, .ref kd, .ref pl, .ref wd, .int 0])), (tx, .inl (k1, 600, .inl f1)), (kd, .inl (k2, 601, .inl f2)), (pl, .inl (k3, 601, .inl f3)), (wd, .inl (k4, 601, .inl f4)), (cd, .inr (1, [.ref d1, .ref d2, .ref d3, .int 0])), (rd, .inr (7, [.int 0, .int 0, .int 0, .null, .null, .null, .int 0, .ref r1, .ref r2, .ref r3, .ref r4, .int 0]))] := hD
      refine lv_aload_n hx hb dX10_program_23 rfl (lv_at hl 0 rfl) ?_
      refine lv_aload_n hx hb dX10_program_24 rfl (lv_at hl 0 rfl) ?_
      refine va_get (D := (dC, dI)) (ci := 10) (v := .ref rd) (C := RX10) (T := TX10) (N := 14) hx hb hts hin_10 hown hK hP 0 rfl rfl 4 (by decide) (hts (.fieldLink RX10 26 "LessonMaker" "reader" "LLessonMaker$Reader;") (List.mem_of_getElem? (i := 8) rfl)) (fun _ h9 => h9) rfl dX10_program_25 ?_
      refine lv_aload_n hx hb dX10_program_28 rfl (lv_at hl 0 rfl) ?_
      refine va_get (D := (dC, dI)) (ci := 10) (v := .ref tp) (C := RX10) (T := TX10) (N := 14) hx hb hts hin_10 hown hK hP 0 rfl rfl 0 (by decide) (hts (.fieldLink RX10 9 "LessonMaker" "tape" "[B") (List.mem_of_getElem? (i := 9) rfl)) (fun _ h9 => h9) rfl dX10_program_29 ?_
      refine lv_iload_n hx hb dX10_program_32 rfl (lv_at hl 1 rfl) ?_
      refine lv_aload_n hx hb dX10_program_33 rfl (lv_at hl 0 rfl) ?_
      refine va_get (D := (dC, dI)) (ci := 10) (v := .ref sp) (C := RX10) (T := TX10) (N := 14) hx hb hts hin_10 hown hK hP 0 rfl rfl 3 (by decide) (hts (.fieldLink RX10 20 "LessonMaker" "spare" "LLessonMaker$Program;") (List.mem_of_getElem? (i := 10) rfl)) (fun _ h9 => h9) rfl dX10_program_34 ?_
      have hPc := hP.sub (ws' := [(rd, .inr (7, [.int 0, .int 0, .int 0, .null, .null, .null, .int 0, .ref r1, .ref r2, .ref r3, .ref r4, .int 0])), (tp, .inl (kt, 600, .inl ft)), (sp, .inr (6, [.ref tk, .ref cd, .ref s3, .ref s4, .int 0, .int 0])), (tk, .inr (8, [.ref tx, .int 0, .ref kd, .ref pl, .ref wd, .int 0])), (tx, .inl (k1, 600, .inl f1)), (kd, .inl (k2, 601, .inl f2)), (pl, .inl (k3, 601, .inl f3)), (wd, .inl (k4, 601, .inl f4)), (cd, .inr (1, [.ref d1, .ref d2, .ref d3, .int 0]))]) [9, 1, 2, 3, 4, 5, 6, 7, 8] rfl
      have hDc := hD.sub (ws' := [(rd, .inr (7, [.int 0, .int 0, .int 0, .null, .null, .null, .int 0, .ref r1, .ref r2, .ref r3, .ref r4, .int 0])), (tp, .inl (kt, 600, .inl ft)), (sp, .inr (6, [.ref tk, .ref cd, .ref s3, .ref s4, .int 0, .int 0])), (tk, .inr (8, [.ref tx, .int 0, .ref kd, .ref pl, .ref wd, .int 0])), (tx, .inl (k1, 600, .inl f1)), (kd, .inl (k2, 601, .inl f2)), (pl, .inl (k3, 601, .inl f3)), (wd, .inl (k4, 601, .inl f4)), (cd, .inr (1, [.ref d1, .ref d2, .ref d3, .int 0]))]) [9, 1, 2, 3, 4, 5, 6, 7, 8] (by decide) rfl
      have hKc := hK.sub (tys' := [(kt, .byte), (k1, .byte), (k2, .int), (k3, .int), (k4, .int)]) [0, 1, 2, 3, 4] rfl
      have hFc := va_free (wc := [(rd, .inr (7, [.int 0, .int 0, .int 0, .null, .null, .null, .int 0, .ref r1, .ref r2, .ref r3, .ref r4, .int 0])), (tp, .inl (kt, 600, .inl ft)), (sp, .inr (6, [.ref tk, .ref cd, .ref s3, .ref s4, .int 0, .int 0])), (tk, .inr (8, [.ref tx, .int 0, .ref kd, .ref pl, .ref wd, .int 0])), (tx, .inl (k1, 600, .inl f1)), (kd, .inl (k2, 601, .inl f2)), (pl, .inl (k3, 601, .inl f3)), (wd, .inl (k4, 601, .inl f4)), (cd, .inr (1, [.ref d1, .ref d2, .ref d3, .int 0]))]) hD hS hA [9, 1, 2, 3, 4, 5, 6, 7, 8] rfl
      refine va_calli (va_runV (As := [.ref tp, .int 0, .ref sp]) (rest := [.ref h0]) ⟨hx, hb, hml, hown, hts⟩ (c_X7_read l dC dI rd r1 r2 r3 r4 tp kt ft sp tk cd s3 s4 tx kd pl wd k1 f1 k2 f2 k3 f3 k4 f4 d1 d2 d3 H.size) (cwV 3 hts c_X10_program_zg_5 rfl rfl rfl (by decide +kernel) ⟨(Nat.le_of_ble_eq_true rfl), (Nat.le_of_ble_eq_true rfl)⟩) ⟨z_blind, va_recv hKc hPc (ci := 7) (q0 := 0) rfl rfl, z_pre hPc hKc hDc hN⟩ rfl rfl hl.1 rfl (lv_room (Nat.le_of_ble_eq_true rfl)) dX10_program_37 ⟨(Nat.le_of_ble_eq_true rfl), (Nat.le_of_ble_eq_true rfl)⟩) hS (fun q _ h => hFc q h) hFc (fun r_6 u t H1 locs ht hvm hw hB hz1 hk1 hS => ?_)
      obtain ⟨hP1, hK1, hD1⟩ := hB
      rw [ht] at hP1
      have hK1 := va_K.moved hvm.symm hK1
      obtain ⟨hP, hD⟩ := va_join (wr := [(h0, .inr (10, [.ref tp, .int 0, .ref nw, .ref sp, .ref rd, .ref la, .ref tr, .ref ti, .int 0, .ref ch, .ref td, .ref gr, .int 0, .int 0]))]) (w1 := []) hP hD [9, 1, 2, 3, 4, 5, 6, 7, 8] [0] rfl rfl (by decide) (by decide) hk1 hFc hP1 hD1
      have hK := (hK.sub (tys' := [(kt, .byte), (k1, .byte), (k2, .int), (k3, .int), (k4, .int)]) [0, 1, 2, 3, 4] rfl).app hK1
      generalize H1 = H at hP hS ⊢
      have hP : va_P (dC, dI) z_Cl [(h0, .inr (10, [.ref tp, .int 0, .ref nw, .ref sp, .ref rd, .ref la, .ref tr, .ref ti, .int 0, .ref ch, .ref td, .ref gr, .int 0, .int 0]))] H := hP
      have hD : va_D A [(h0, .inr (10, [.ref tp, .int 0, .ref nw, .ref sp, .ref rd, .ref la, .ref tr, .ref ti, .int 0, .ref ch, .ref td, .ref gr, .int 0, .int 0]))] := hD
      have hK : va_K (dC, dI) z_Cl [(kt, .byte), (k1, .byte), (k2, .int), (k3, .int), (k4, .int)] s := hK
      have hw : r_6 = 1 := hw
      subst hw
      refine va_put (D := (dC, dI)) (ci := 10) (v := .int 1) (ty := .int) (C := RX10) (T := TX10) (N := 14) hx hb hts hin_10 tyX10 tyX10_ok nmX10 hown hK hP hD hS 0 rfl rfl 12 (by decide) (hts (.fieldLink RX10 83 "LessonMaker" "latestFault" "I") (List.mem_of_getElem? (i := 88) rfl)) (fun _ h9 => h9) rfl (by decide +kernel) rfl rfl (Nat.le_of_ble_eq_true rfl) dX10_program_40 (fun H locs hP hD hS => ?_)
      have hP : va_P (dC, dI) z_Cl [(h0, .inr (10, [.ref tp, .int 0, .ref nw, .ref sp, .ref rd, .ref la, .ref tr, .ref ti, .int 0, .ref ch, .ref td, .ref gr, .int 1, .int 0]))] H := hP
      have hD : va_D A [(h0, .inr (10, [.ref tp, .int 0, .ref nw, .ref sp, .ref rd, .ref la, .ref tr, .ref ti, .int 0, .ref ch, .ref td, .ref gr, .int 1, .int 0]))] := hD
      refine lv_aload_n hx hb dX10_program_43 rfl (lv_at hl 0 rfl) ?_
      refine va_get (D := (dC, dI)) (ci := 10) (v := .int 1) (C := RX10) (T := TX10) (N := 14) hx hb hts hin_10 hown hK hP 0 rfl rfl 12 (by decide) (hts (.fieldLink RX10 83 "LessonMaker" "latestFault" "I") (List.mem_of_getElem? (i := 88) rfl)) (fun _ h9 => h9) rfl dX10_program_44 ?_
      refine lv_if_eq (tgt := 56) hx hb dX10_program_47 (by decide) (fun h9 => absurd h9 (by decide)) (fun _ => ?_)
      refine lv_aload_n hx hb dX10_program_50 rfl (lv_at hl 0 rfl) ?_
      refine lv_iconst (v := 4) hx hb dX10_program_51 (by decide) ?_
      have hPc := hP.sub (ws' := [(h0, .inr (10, [.ref tp, .int 0, .ref nw, .ref sp, .ref rd, .ref la, .ref tr, .ref ti, .int 0, .ref ch, .ref td, .ref gr, .int 1, .int 0]))]) [0] rfl
      have hDc := hD.sub (ws' := [(h0, .inr (10, [.ref tp, .int 0, .ref nw, .ref sp, .ref rd, .ref la, .ref tr, .ref ti, .int 0, .ref ch, .ref td, .ref gr, .int 1, .int 0]))]) [0] (by decide) rfl
      have hKc := hK.sub (tys' := []) [] rfl
      have hFc := va_free (wc := [(h0, .inr (10, [.ref tp, .int 0, .ref nw, .ref sp, .ref rd, .ref la, .ref tr, .ref ti, .int 0, .ref ch, .ref td, .ref gr, .int 1, .int 0]))]) hD hS hA [0] rfl
      refine va_calli (va_runV (As := [.int 4]) (rest := []) ⟨hx, hb, hml, hown, hts⟩ (c_X10_refuse l dC dI h0 tp 0 nw sp rd la tr ti 0 ch td gr 1 0 4 H.size) (cwV 1 hts c_X10_program_zg_7 rfl rfl rfl (by decide +kernel) ⟨(Nat.le_of_ble_eq_true rfl), (Nat.le_of_ble_eq_true rfl)⟩) ⟨z_blind, va_recv hKc hPc (ci := 10) (q0 := 0) rfl rfl, z_pre hPc hKc hDc hN⟩ rfl rfl hl.1 rfl (lv_room (Nat.le_of_ble_eq_true rfl)) dX10_program_52 ⟨(Nat.le_of_ble_eq_true rfl), (Nat.le_of_ble_eq_true rfl)⟩) hS (fun q _ h => hFc q h) hFc (fun r_8 u t H1 locs ht hvm hw hB hz1 hk1 hS => ?_)
      obtain ⟨hP1, hK1, hD1⟩ := hB
      rw [ht] at hP1
      have hK1 := va_K.moved hvm.symm hK1
      obtain ⟨hP, hD⟩ := va_join (wr := []) (w1 := []) hP hD [0] [] rfl rfl (by decide) (by decide) hk1 hFc hP1 hD1
      have hK := (hK.sub (tys' := [(kt, .byte), (k1, .byte), (k2, .int), (k3, .int), (k4, .int)]) [0, 1, 2, 3, 4] rfl).app hK1
      generalize H1 = H at hP hS ⊢
      have hP : va_P (dC, dI) z_Cl [] H := hP
      have hD : va_D A [] := hD
      have hK : va_K (dC, dI) z_Cl [(kt, .byte), (k1, .byte), (k2, .int), (k3, .int), (k4, .int)] s := hK
      have hw : r_8 = (-1) := hw
      subst hw
      have hP9 := hP.sub (ws' := []) [] rfl
      have hD9 := hD.sub (ws' := []) [] (by decide) rfl
      have hK9 := hK.sub (tys' := []) [] rfl
      refine W.widen (k := 0) (n := 0) (Nat.le_of_ble_eq_true rfl) (Nat.le_of_ble_eq_true rfl) ?_
      exact W.iret (v := (-1)) hx hb hr (fun t ht hW => ⟨⟨(-1), (), rfl, rfl, by rw [ht]; exact hP9, va_K.moved hW.alike hK9, hD9⟩, hS.F ht⟩) hS.2.2 dX10_program_55
    · refine lv_aload_n hx hb dX10_program_12 rfl (lv_at hl 0 rfl) ?_
      refine lv_iconst (v := 2) hx hb dX10_program_13 (by decide) ?_
      have hPc := hP.sub (ws' := [(h0, .inr (10, [.ref tp, .int 0, .ref nw, .ref sp, .ref rd, .ref la, .ref tr, .ref ti, .int 0, .ref ch, .ref td, .ref gr, .int 0, .int 0]))]) [0] rfl
      have hDc := hD.sub (ws' := [(h0, .inr (10, [.ref tp, .int 0, .ref nw, .ref sp, .ref rd, .ref la, .ref tr, .ref ti, .int 0, .ref ch, .ref td, .ref gr, .int 0, .int 0]))]) [0] (by decide) rfl
      have hKc := hK.sub (tys' := []) [] rfl
      have hFc := va_free (wc := [(h0, .inr (10, [.ref tp, .int 0, .ref nw, .ref sp, .ref rd, .ref la, .ref tr, .ref ti, .int 0, .ref ch, .ref td, .ref gr, .int 0, .int 0]))]) hD hS hA [0] rfl
      refine va_calli (va_runV (As := [.int 2]) (rest := []) ⟨hx, hb, hml, hown, hts⟩ (c_X10_refuse l dC dI h0 tp 0 nw sp rd la tr ti 0 ch td gr 0 0 2 s.heap.size) (cwV 1 hts c_X10_program_zg_9 rfl rfl rfl (by decide +kernel) ⟨(Nat.le_of_ble_eq_true rfl), (Nat.le_of_ble_eq_true rfl)⟩) ⟨z_blind, va_recv hKc hPc (ci := 10) (q0 := 0) rfl rfl, z_pre hPc hKc hDc hN⟩ rfl rfl hl.1 rfl (lv_room (Nat.le_of_ble_eq_true rfl)) dX10_program_14 ⟨(Nat.le_of_ble_eq_true rfl), (Nat.le_of_ble_eq_true rfl)⟩) hS (fun q _ h => hFc q h) hFc (fun r_10 u t H1 locs ht hvm hw hB hz1 hk1 hS => ?_)
      obtain ⟨hP1, hK1, hD1⟩ := hB
      rw [ht] at hP1
      have hK1 := va_K.moved hvm.symm hK1
      obtain ⟨hP, hD⟩ := va_join (wr := [(tp, .inl (kt, 600, .inl ft)), (sp, .inr (6, [.ref tk, .ref cd, .ref s3, .ref s4, .int 0, .int 0])), (tk, .inr (8, [.ref tx, .int 0, .ref kd, .ref pl, .ref wd, .int 0])), (tx, .inl (k1, 600, .inl f1)), (kd, .inl (k2, 601, .inl f2)), (pl, .inl (k3, 601, .inl f3)), (wd, .inl (k4, 601, .inl f4)), (cd, .inr (1, [.ref d1, .ref d2, .ref d3, .int 0])), (rd, .inr (7, [.int 0, .int 0, .int 0, .null, .null, .null, .int 0, .ref r1, .ref r2, .ref r3, .ref r4, .int 0]))]) (w1 := []) hP hD [0] [1, 2, 3, 4, 5, 6, 7, 8, 9] rfl rfl (by decide) (by decide) hk1 hFc hP1 hD1
      have hK := (hK.sub (tys' := [(kt, .byte), (k1, .byte), (k2, .int), (k3, .int), (k4, .int)]) [0, 1, 2, 3, 4] rfl).app hK1
      generalize H1 = H at hP hS ⊢
      have hP : va_P (dC, dI) z_Cl [(tp, .inl (kt, 600, .inl ft)), (sp, .inr (6, [.ref tk, .ref cd, .ref s3, .ref s4, .int 0, .int 0])), (tk, .inr (8, [.ref tx, .int 0, .ref kd, .ref pl, .ref wd, .int 0])), (tx, .inl (k1, 600, .inl f1)), (kd, .inl (k2, 601, .inl f2)), (pl, .inl (k3, 601, .inl f3)), (wd, .inl (k4, 601, .inl f4)), (cd, .inr (1, [.ref d1, .ref d2, .ref d3, .int 0])), (rd, .inr (7, [.int 0, .int 0, .int 0, .null, .null, .null, .int 0, .ref r1, .ref r2, .ref r3, .ref r4, .int 0]))] H := hP
      have hD : va_D A [(tp, .inl (kt, 600, .inl ft)), (sp, .inr (6, [.ref tk, .ref cd, .ref s3, .ref s4, .int 0, .int 0])), (tk, .inr (8, [.ref tx, .int 0, .ref kd, .ref pl, .ref wd, .int 0])), (tx, .inl (k1, 600, .inl f1)), (kd, .inl (k2, 601, .inl f2)), (pl, .inl (k3, 601, .inl f3)), (wd, .inl (k4, 601, .inl f4)), (cd, .inr (1, [.ref d1, .ref d2, .ref d3, .int 0])), (rd, .inr (7, [.int 0, .int 0, .int 0, .null, .null, .null, .int 0, .ref r1, .ref r2, .ref r3, .ref r4, .int 0]))] := hD
      have hK : va_K (dC, dI) z_Cl [(kt, .byte), (k1, .byte), (k2, .int), (k3, .int), (k4, .int)] s := hK
      have hw : r_10 = (-1) := hw
      subst hw
      have hP9 := hP.sub (ws' := []) [] rfl
      have hD9 := hD.sub (ws' := []) [] (by decide) rfl
      have hK9 := hK.sub (tys' := []) [] rfl
      refine W.widen (k := 0) (n := 0) (Nat.le_of_ble_eq_true rfl) (Nat.le_of_ble_eq_true rfl) ?_
      exact W.iret (v := (-1)) hx hb hr (fun t ht hW => ⟨⟨(-1), (), rfl, rfl, by rw [ht]; exact hP9, va_K.moved hW.alike hK9, hD9⟩, hS.F ht⟩) hS.2.2 dX10_program_17

def z_wX10_count : List Cond := .code yX10_count cX10_count 2 (some .int) :: ([.fieldLink RX10 16 "LessonMaker" "now" "LLessonMaker$Program;", .fieldLink RX10 89 "LessonMaker$Program" "functionCount" "I", .fieldLink RX10 259 "LessonMaker$Program" "lineCount" "I", .fieldLink RX10 53 "LessonMaker" "told" "LLessonMaker$Told;", .fieldLink RX10 260 "LessonMaker$Told" "size" "I", .fieldLink RX10 64 "LessonMaker" "fed" "I"] ++ (u_ws RX6 TX6 6 ++ u_ws RX9 TX9 5 ++ u_ws RX10 TX10 14))
set_option maxHeartbeats 4000000 in
set_option maxRecDepth 100000 in
theorem c_X10_count (l : Launch) (dC : Nat → ClassId) (dI : Nat → Nat → Nat) (h0 : Nat) (tp : Nat) (nw : Nat) (sp : Nat) (rd : Nat) (la : Nat) (tr : Nat) (ti : Nat) (ch : Nat) (td : Nat) (gr : Nat) (n1 : Nat) (n2 : Nat) (n3 : Nat) (n4 : Nat) (t1 : Nat) (t2 : Nat) (p1 : Int32) (sz : Nat) : Met l yX10_count z_wX10_count ({ frames := 0, cells := 0, slots := 0, locals := 0 }) (va_Pc [.ref h0, .int p1] (z_in dC dI [(h0, .inr (10, [.ref tp, .int 0, .ref nw, .ref sp, .ref rd, .ref la, .ref tr, .ref ti, .int 0, .ref ch, .ref td, .ref gr, .int 0, .int 0])), (nw, .inr (6, [.ref n1, .ref n2, .ref n3, .ref n4, .int 0, .int 0])), (td, .inr (9, [.ref t1, .ref t2, .int 0, .int (-1), .int 0]))] [] sz)) (va_Qi (fun (r : Int32) (_ : Unit) => r = z_count p1) (fun (_ : Unit) t => z_out dC dI (va_A [(h0, .inr (10, [.ref tp, .int 0, .ref nw, .ref sp, .ref rd, .ref la, .ref tr, .ref ti, .int 0, .ref ch, .ref td, .ref gr, .int 0, .int 0])), (nw, .inr (6, [.ref n1, .ref n2, .ref n3, .ref n4, .int 0, .int 0])), (td, .inr (9, [.ref t1, .ref t2, .int 0, .int (-1), .int 0]))] sz) [] [] t) (va_A [(h0, .inr (10, [.ref tp, .int 0, .ref nw, .ref sp, .ref rd, .ref la, .ref tr, .ref ti, .int 0, .ref ch, .ref td, .ref gr, .int 0, .int 0])), (nw, .inr (6, [.ref n1, .ref n2, .ref n3, .ref n4, .int 0, .int 0])), (td, .inr (9, [.ref t1, .ref t2, .int 0, .int (-1), .int 0]))] sz)) 0 0 (va_A [(h0, .inr (10, [.ref tp, .int 0, .ref nw, .ref sp, .ref rd, .ref la, .ref tr, .ref ti, .int 0, .ref ch, .ref td, .ref gr, .int 0, .int 0])), (nw, .inr (6, [.ref n1, .ref n2, .ref n3, .ref n4, .int 0, .int 0])), (td, .inr (9, [.ref t1, .ref t2, .int 0, .int (-1), .int 0]))] sz) := by
  refine Met.ofW (cc := cX10_count) (maxL := 2) (ret := (some .int)) (by decide) rfl ?_
  intro p e s m args below meth c s₁ B hml hv
  obtain ⟨rfl, hsz, hP, hK, hD0, hN⟩ := hv
  have hx := B.exec
  have hb := B.bytes
  have hr := B.returns
  have hts := atoms_spec (ws := z_wX10_count) B.pre
  have hown : s.vm.findClass RX10 = some m.cls := findClass_of_methodNamed B.named
  have hlocks := B.notSynchronized
  have hin_6 : ∀ w ∈ u_ws RX6 TX6 6, w ∈ z_wX10_count := by decide +kernel
  have hin_9 : ∀ w ∈ u_ws RX9 TX9 5, w ∈ z_wX10_count := by decide +kernel
  have hin_10 : ∀ w ∈ u_ws RX10 TX10 14, w ∈ z_wX10_count := by decide +kernel
  subst hsz
  have hD := hD0.self (sz := s.heap.size)
  generalize hAe : va_A [(h0, .inr (10, [.ref tp, .int 0, .ref nw, .ref sp, .ref rd, .ref la, .ref tr, .ref ti, .int 0, .ref ch, .ref td, .ref gr, .int 0, .int 0])), (nw, .inr (6, [.ref n1, .ref n2, .ref n3, .ref n4, .int 0, .int 0])), (td, .inr (9, [.ref t1, .ref t2, .int 0, .int (-1), .int 0]))] s.heap.size = A at hD ⊢
  have hA : ∀ q : Nat, s.heap.size ≤ q → A q := fun q h => by rw [← hAe]; exact Or.inr h
  have hS : va_S A s.heap s.heap [] := va_S.rf
  have hP : va_P (dC, dI) z_Cl [(h0, .inr (10, [.ref tp, .int 0, .ref nw, .ref sp, .ref rd, .ref la, .ref tr, .ref ti, .int 0, .ref ch, .ref td, .ref gr, .int 0, .int 0])), (nw, .inr (6, [.ref n1, .ref n2, .ref n3, .ref n4, .int 0, .int 0])), (td, .inr (9, [.ref t1, .ref t2, .int 0, .int (-1), .int 0]))] s.heap := hP
  have hl := lv_entry ([.ref h0, .int p1]) (n := 2) (Nat.le_of_ble_eq_true rfl)
  rw [lg_entry_eq]
  generalize (lg_sl ([.ref h0, .int p1]) ++ List.replicate (2 - (lg_sl ([.ref h0, .int p1])).length) Slot.unset).toArray = ls at hl ⊢
  have hl : lv_has ls 2 [(0, .ref h0), (1, .int p1)] := hl
  refine lv_iload_n hx hb dX10_count_0 rfl (lv_at hl 1 rfl) ?_
  rcases z_sw4 p1 with rfl | rfl | rfl | rfl | hsw
  · refine lv_tableIn (off := 31) (tgt := 32) hx hb dX10_count_1 (by decide) (by decide) rfl (by decide) ?_
    refine lv_aload_n hx hb dX10_count_32 rfl (lv_at hl 0 rfl) ?_
    refine va_get (D := (dC, dI)) (ci := 10) (v := .ref nw) (C := RX10) (T := TX10) (N := 14) hx hb hts hin_10 hown hK hP 0 rfl rfl 2 (by decide) (hts (.fieldLink RX10 16 "LessonMaker" "now" "LLessonMaker$Program;") (List.mem_of_getElem? (i := 1) rfl)) (fun _ h9 => h9) rfl dX10_count_33 ?_
    refine va_get (D := (dC, dI)) (ci := 6) (v := .int 0) (C := RX6) (T := TX6) (N := 6) hx hb hts hin_6 hown hK hP 1 rfl rfl 4 (by decide) (hts (.fieldLink RX10 89 "LessonMaker$Program" "functionCount" "I") (List.mem_of_getElem? (i := 2) rfl)) (fun _ h9 => h9) rfl dX10_count_36 ?_
    have hP9 := hP.sub (ws' := []) [] rfl
    have hD9 := hD.sub (ws' := []) [] (by decide) rfl
    have hK9 := hK.sub (tys' := []) [] rfl
    refine W.widen (k := 0) (n := 0) (Nat.le_of_ble_eq_true rfl) (Nat.le_of_ble_eq_true rfl) ?_
    exact W.iret (v := 0) hx hb hr (fun t ht hW => ⟨⟨0, (), rfl, (by decide), by rw [ht]; exact hP9, va_K.moved hW.alike hK9, hD9⟩, hS.F ht⟩) hS.2.2 dX10_count_39
  · refine lv_tableIn (off := 39) (tgt := 40) hx hb dX10_count_1 (by decide) (by decide) rfl (by decide) ?_
    refine lv_aload_n hx hb dX10_count_40 rfl (lv_at hl 0 rfl) ?_
    refine va_get (D := (dC, dI)) (ci := 10) (v := .ref nw) (C := RX10) (T := TX10) (N := 14) hx hb hts hin_10 hown hK hP 0 rfl rfl 2 (by decide) (hts (.fieldLink RX10 16 "LessonMaker" "now" "LLessonMaker$Program;") (List.mem_of_getElem? (i := 1) rfl)) (fun _ h9 => h9) rfl dX10_count_41 ?_
    refine va_get (D := (dC, dI)) (ci := 6) (v := .int 0) (C := RX6) (T := TX6) (N := 6) hx hb hts hin_6 hown hK hP 1 rfl rfl 5 (by decide) (hts (.fieldLink RX10 259 "LessonMaker$Program" "lineCount" "I") (List.mem_of_getElem? (i := 3) rfl)) (fun _ h9 => h9) rfl dX10_count_44 ?_
    have hP9 := hP.sub (ws' := []) [] rfl
    have hD9 := hD.sub (ws' := []) [] (by decide) rfl
    have hK9 := hK.sub (tys' := []) [] rfl
    refine W.widen (k := 0) (n := 0) (Nat.le_of_ble_eq_true rfl) (Nat.le_of_ble_eq_true rfl) ?_
    exact W.iret (v := 0) hx hb hr (fun t ht hW => ⟨⟨0, (), rfl, (by decide), by rw [ht]; exact hP9, va_K.moved hW.alike hK9, hD9⟩, hS.F ht⟩) hS.2.2 dX10_count_47
  · refine lv_tableIn (off := 47) (tgt := 48) hx hb dX10_count_1 (by decide) (by decide) rfl (by decide) ?_
    refine lv_aload_n hx hb dX10_count_48 rfl (lv_at hl 0 rfl) ?_
    refine va_get (D := (dC, dI)) (ci := 10) (v := .ref td) (C := RX10) (T := TX10) (N := 14) hx hb hts hin_10 hown hK hP 0 rfl rfl 10 (by decide) (hts (.fieldLink RX10 53 "LessonMaker" "told" "LLessonMaker$Told;") (List.mem_of_getElem? (i := 4) rfl)) (fun _ h9 => h9) rfl dX10_count_49 ?_
    refine va_get (D := (dC, dI)) (ci := 9) (v := .int 0) (C := RX9) (T := TX9) (N := 5) hx hb hts hin_9 hown hK hP 2 rfl rfl 4 (by decide) (hts (.fieldLink RX10 260 "LessonMaker$Told" "size" "I") (List.mem_of_getElem? (i := 5) rfl)) (fun _ h9 => h9) rfl dX10_count_52 ?_
    have hP9 := hP.sub (ws' := []) [] rfl
    have hD9 := hD.sub (ws' := []) [] (by decide) rfl
    have hK9 := hK.sub (tys' := []) [] rfl
    refine W.widen (k := 0) (n := 0) (Nat.le_of_ble_eq_true rfl) (Nat.le_of_ble_eq_true rfl) ?_
    exact W.iret (v := 0) hx hb hr (fun t ht hW => ⟨⟨0, (), rfl, (by decide), by rw [ht]; exact hP9, va_K.moved hW.alike hK9, hD9⟩, hS.F ht⟩) hS.2.2 dX10_count_55
  · refine lv_tableIn (off := 55) (tgt := 56) hx hb dX10_count_1 (by decide) (by decide) rfl (by decide) ?_
    refine lv_aload_n hx hb dX10_count_56 rfl (lv_at hl 0 rfl) ?_
    refine va_get (D := (dC, dI)) (ci := 10) (v := .int 0) (C := RX10) (T := TX10) (N := 14) hx hb hts hin_10 hown hK hP 0 rfl rfl 1 (by decide) (hts (.fieldLink RX10 64 "LessonMaker" "fed" "I") (List.mem_of_getElem? (i := 6) rfl)) (fun _ h9 => h9) rfl dX10_count_57 ?_
    have hP9 := hP.sub (ws' := []) [] rfl
    have hD9 := hD.sub (ws' := []) [] (by decide) rfl
    have hK9 := hK.sub (tys' := []) [] rfl
    refine W.widen (k := 0) (n := 0) (Nat.le_of_ble_eq_true rfl) (Nat.le_of_ble_eq_true rfl) ?_
    exact W.iret (v := 0) hx hb hr (fun t ht hW => ⟨⟨0, (), rfl, (by decide), by rw [ht]; exact hP9, va_K.moved hW.alike hK9, hD9⟩, hS.F ht⟩) hS.2.2 dX10_count_60
  · refine lv_tableOut (tgt := 61) hx hb dX10_count_1 hsw (by decide) ?_
    refine lv_iconst (v := (-1)) hx hb dX10_count_61 (by decide) ?_
    have hP9 := hP.sub (ws' := []) [] rfl
    have hD9 := hD.sub (ws' := []) [] (by decide) rfl
    have hK9 := hK.sub (tys' := []) [] rfl
    refine W.widen (k := 0) (n := 0) (Nat.le_of_ble_eq_true rfl) (Nat.le_of_ble_eq_true rfl) ?_
    exact W.iret (v := (-1)) hx hb hr (fun t ht hW => ⟨⟨(-1), (), rfl, (z_count_out hsw), by rw [ht]; exact hP9, va_K.moved hW.alike hK9, hD9⟩, hS.F ht⟩) hS.2.2 dX10_count_62
