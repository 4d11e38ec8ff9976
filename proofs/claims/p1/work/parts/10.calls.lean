def z_wX6_hasFunction : List Cond := .code yX6_hasFunction cX6_hasFunction 2 (some .boolean) :: ([.fieldLink RX6 39 "LessonMaker$Program" "functionCount" "I"] ++ (u_ws RX6 TX6 6))
set_option maxHeartbeats 4000000 in
set_option maxRecDepth 100000 in
theorem c_X6_hasFunction (l : Launch) (dC : Nat → ClassId) (dI : Nat → Nat → Nat) (h0 : Nat) (n1 : Nat) (n2 : Nat) (n3 : Nat) (n4 : Nat) (p1 : Int32) (sz : Nat) : Met l yX6_hasFunction z_wX6_hasFunction ({ frames := 0, cells := 0, slots := 0, locals := 0 }) (va_Pc [.ref h0, .int p1] (z_in dC dI [(h0, .inr (6, [.ref n1, .ref n2, .ref n3, .ref n4, .int 0, .int 0]))] [] sz)) (va_Qi (fun (r : Int32) (_ : Unit) => r = 0) (fun (_ : Unit) t => z_out dC dI (va_A [(h0, .inr (6, [.ref n1, .ref n2, .ref n3, .ref n4, .int 0, .int 0]))] sz) [] [] t) (va_A [(h0, .inr (6, [.ref n1, .ref n2, .ref n3, .ref n4, .int 0, .int 0]))] sz)) 0 0 (va_A [(h0, .inr (6, [.ref n1, .ref n2, .ref n3, .ref n4, .int 0, .int 0]))] sz) := by
  refine Met.ofW (cc := cX6_hasFunction) (maxL := 2) (ret := (some .boolean)) (by decide) rfl ?_
  intro p e s m args below meth c s₁ B hml hv
  obtain ⟨rfl, hsz, hP, hK, hD0, hN⟩ := hv
  have hx := B.exec
  have hb := B.bytes
  have hr := B.returns
  have hts := atoms_spec (ws := z_wX6_hasFunction) B.pre
  have hown : s.vm.findClass RX6 = some m.cls := findClass_of_methodNamed B.named
  have hlocks := B.notSynchronized
  have hin_6 : ∀ w ∈ u_ws RX6 TX6 6, w ∈ z_wX6_hasFunction := by decide +kernel
  subst hsz
  have hD := hD0.self (sz := s.heap.size)
  generalize hAe : va_A [(h0, .inr (6, [.ref n1, .ref n2, .ref n3, .ref n4, .int 0, .int 0]))] s.heap.size = A at hD ⊢
  have hA : ∀ q : Nat, s.heap.size ≤ q → A q := fun q h => by rw [← hAe]; exact Or.inr h
  have hS : va_S A s.heap s.heap [] := va_S.rf
  have hP : va_P (dC, dI) z_Cl [(h0, .inr (6, [.ref n1, .ref n2, .ref n3, .ref n4, .int 0, .int 0]))] s.heap := hP
  have hl := lv_entry ([.ref h0, .int p1]) (n := 2) (Nat.le_of_ble_eq_true rfl)
  rw [lg_entry_eq]
  generalize (lg_sl ([.ref h0, .int p1]) ++ List.replicate (2 - (lg_sl ([.ref h0, .int p1])).length) Slot.unset).toArray = ls at hl ⊢
  have hl : lv_has ls 2 [(0, .ref h0), (1, .int p1)] := hl
  refine lv_iload_n hx hb dX6_hasFunction_0 rfl (lv_at hl 1 rfl) ?_
  refine lv_if_lt (tgt := 25) hx hb dX6_hasFunction_1 (by decide) (fun c_1 => ?_) (fun c_1 => ?_)
  · refine lv_iconst (v := 0) hx hb dX6_hasFunction_25 (by decide) ?_
    have hP9 := hP.sub (ws' := []) [] rfl
    have hD9 := hD.sub (ws' := []) [] (by decide) rfl
    have hK9 := hK.sub (tys' := []) [] rfl
    refine W.widen (k := 0) (n := 0) (Nat.le_of_ble_eq_true rfl) (Nat.le_of_ble_eq_true rfl) ?_
    exact W.zret (v := 0) hx hb hr (by decide) (fun t ht hW => ⟨⟨0, (), rfl, rfl, by rw [ht]; exact hP9, va_K.moved hW.alike hK9, hD9⟩, hS.F ht⟩) hS.2.2 dX6_hasFunction_26
  · refine lv_iload_n hx hb dX6_hasFunction_4 rfl (lv_at hl 1 rfl) ?_
    refine lv_aload_n hx hb dX6_hasFunction_5 rfl (lv_at hl 0 rfl) ?_
    refine va_get (D := (dC, dI)) (ci := 6) (v := .int 0) (C := RX6) (T := TX6) (N := 6) hx hb hts hin_6 hown hK hP 0 rfl rfl 4 (by decide) (hts (.fieldLink RX6 39 "LessonMaker$Program" "functionCount" "I") (List.mem_of_getElem? (i := 1) rfl)) (fun _ h9 => h9) rfl dX6_hasFunction_6 ?_
    refine lv_icmp_ge (tgt := 25) hx hb dX6_hasFunction_9 (by decide) (fun _ => ?_) (fun h9 => absurd (Int32.not_lt.mp c_1) h9)
    refine lv_iconst (v := 0) hx hb dX6_hasFunction_25 (by decide) ?_
    have hP9 := hP.sub (ws' := []) [] rfl
    have hD9 := hD.sub (ws' := []) [] (by decide) rfl
    have hK9 := hK.sub (tys' := []) [] rfl
    refine W.widen (k := 0) (n := 0) (Nat.le_of_ble_eq_true rfl) (Nat.le_of_ble_eq_true rfl) ?_
    exact W.zret (v := 0) hx hb hr (by decide) (fun t ht hW => ⟨⟨0, (), rfl, rfl, by rw [ht]; exact hP9, va_K.moved hW.alike hK9, hD9⟩, hS.F ht⟩) hS.2.2 dX6_hasFunction_26

def z_wX6_hasLine : List Cond := .code yX6_hasLine cX6_hasLine 2 (some .boolean) :: ([.fieldLink RX6 43 "LessonMaker$Program" "lineCount" "I"] ++ (u_ws RX6 TX6 6))
set_option maxHeartbeats 4000000 in
set_option maxRecDepth 100000 in
theorem c_X6_hasLine (l : Launch) (dC : Nat → ClassId) (dI : Nat → Nat → Nat) (h0 : Nat) (n1 : Nat) (n2 : Nat) (n3 : Nat) (n4 : Nat) (p1 : Int32) (sz : Nat) : Met l yX6_hasLine z_wX6_hasLine ({ frames := 0, cells := 0, slots := 0, locals := 0 }) (va_Pc [.ref h0, .int p1] (z_in dC dI [(h0, .inr (6, [.ref n1, .ref n2, .ref n3, .ref n4, .int 0, .int 0]))] [] sz)) (va_Qi (fun (r : Int32) (_ : Unit) => r = 0) (fun (_ : Unit) t => z_out dC dI (va_A [(h0, .inr (6, [.ref n1, .ref n2, .ref n3, .ref n4, .int 0, .int 0]))] sz) [] [] t) (va_A [(h0, .inr (6, [.ref n1, .ref n2, .ref n3, .ref n4, .int 0, .int 0]))] sz)) 0 0 (va_A [(h0, .inr (6, [.ref n1, .ref n2, .ref n3, .ref n4, .int 0, .int 0]))] sz) := by
  refine Met.ofW (cc := cX6_hasLine) (maxL := 2) (ret := (some .boolean)) (by decide) rfl ?_
  intro p e s m args below meth c s₁ B hml hv
  obtain ⟨rfl, hsz, hP, hK, hD0, hN⟩ := hv
  have hx := B.exec
  have hb := B.bytes
  have hr := B.returns
  have hts := atoms_spec (ws := z_wX6_hasLine) B.pre
  have hown : s.vm.findClass RX6 = some m.cls := findClass_of_methodNamed B.named
  have hlocks := B.notSynchronized
  have hin_6 : ∀ w ∈ u_ws RX6 TX6 6, w ∈ z_wX6_hasLine := by decide +kernel
  subst hsz
  have hD := hD0.self (sz := s.heap.size)
  generalize hAe : va_A [(h0, .inr (6, [.ref n1, .ref n2, .ref n3, .ref n4, .int 0, .int 0]))] s.heap.size = A at hD ⊢
  have hA : ∀ q : Nat, s.heap.size ≤ q → A q := fun q h => by rw [← hAe]; exact Or.inr h
  have hS : va_S A s.heap s.heap [] := va_S.rf
  have hP : va_P (dC, dI) z_Cl [(h0, .inr (6, [.ref n1, .ref n2, .ref n3, .ref n4, .int 0, .int 0]))] s.heap := hP
  have hl := lv_entry ([.ref h0, .int p1]) (n := 2) (Nat.le_of_ble_eq_true rfl)
  rw [lg_entry_eq]
  generalize (lg_sl ([.ref h0, .int p1]) ++ List.replicate (2 - (lg_sl ([.ref h0, .int p1])).length) Slot.unset).toArray = ls at hl ⊢
  have hl : lv_has ls 2 [(0, .ref h0), (1, .int p1)] := hl
  refine lv_iload_n hx hb dX6_hasLine_0 rfl (lv_at hl 1 rfl) ?_
  refine lv_if_lt (tgt := 25) hx hb dX6_hasLine_1 (by decide) (fun c_1 => ?_) (fun c_1 => ?_)
  · refine lv_iconst (v := 0) hx hb dX6_hasLine_25 (by decide) ?_
    have hP9 := hP.sub (ws' := []) [] rfl
    have hD9 := hD.sub (ws' := []) [] (by decide) rfl
    have hK9 := hK.sub (tys' := []) [] rfl
    refine W.widen (k := 0) (n := 0) (Nat.le_of_ble_eq_true rfl) (Nat.le_of_ble_eq_true rfl) ?_
    exact W.zret (v := 0) hx hb hr (by decide) (fun t ht hW => ⟨⟨0, (), rfl, rfl, by rw [ht]; exact hP9, va_K.moved hW.alike hK9, hD9⟩, hS.F ht⟩) hS.2.2 dX6_hasLine_26
  · refine lv_iload_n hx hb dX6_hasLine_4 rfl (lv_at hl 1 rfl) ?_
    refine lv_aload_n hx hb dX6_hasLine_5 rfl (lv_at hl 0 rfl) ?_
    refine va_get (D := (dC, dI)) (ci := 6) (v := .int 0) (C := RX6) (T := TX6) (N := 6) hx hb hts hin_6 hown hK hP 0 rfl rfl 5 (by decide) (hts (.fieldLink RX6 43 "LessonMaker$Program" "lineCount" "I") (List.mem_of_getElem? (i := 1) rfl)) (fun _ h9 => h9) rfl dX6_hasLine_6 ?_
    refine lv_icmp_ge (tgt := 25) hx hb dX6_hasLine_9 (by decide) (fun _ => ?_) (fun h9 => absurd (Int32.not_lt.mp c_1) h9)
    refine lv_iconst (v := 0) hx hb dX6_hasLine_25 (by decide) ?_
    have hP9 := hP.sub (ws' := []) [] rfl
    have hD9 := hD.sub (ws' := []) [] (by decide) rfl
    have hK9 := hK.sub (tys' := []) [] rfl
    refine W.widen (k := 0) (n := 0) (Nat.le_of_ble_eq_true rfl) (Nat.le_of_ble_eq_true rfl) ?_
    exact W.zret (v := 0) hx hb hr (by decide) (fun t ht hW => ⟨⟨0, (), rfl, rfl, by rw [ht]; exact hP9, va_K.moved hW.alike hK9, hD9⟩, hS.F ht⟩) hS.2.2 dX6_hasLine_26

def z_wX10_refuse : List Cond := .code yX10_refuse cX10_refuse 2 (some .int) :: ([.fieldLink RX10 92 "LessonMaker" "latestTrouble" "I"] ++ (u_ws RX10 TX10 14))
set_option maxHeartbeats 4000000 in
set_option maxRecDepth 100000 in
theorem c_X10_refuse (l : Launch) (dC : Nat → ClassId) (dI : Nat → Nat → Nat) (h0 : Nat) (tp : Nat) (o1 : Int32) (nw : Nat) (sp : Nat) (rd : Nat) (la : Nat) (tr : Nat) (ti : Nat) (o8 : Int32) (ch : Nat) (td : Nat) (gr : Nat) (o12 : Int32) (o13 : Int32) (p1 : Int32) (sz : Nat) : Met l yX10_refuse z_wX10_refuse ({ frames := 0, cells := 0, slots := 0, locals := 0 }) (va_Pc [.ref h0, .int p1] (z_in dC dI [(h0, .inr (10, [.ref tp, .int o1, .ref nw, .ref sp, .ref rd, .ref la, .ref tr, .ref ti, .int o8, .ref ch, .ref td, .ref gr, .int o12, .int o13]))] [] sz)) (va_Qi (fun (r : Int32) (_ : Unit) => r = (-1)) (fun (_ : Unit) t => z_out dC dI (va_A [(h0, .inr (10, [.ref tp, .int o1, .ref nw, .ref sp, .ref rd, .ref la, .ref tr, .ref ti, .int o8, .ref ch, .ref td, .ref gr, .int o12, .int o13]))] sz) [] [] t) (va_A [(h0, .inr (10, [.ref tp, .int o1, .ref nw, .ref sp, .ref rd, .ref la, .ref tr, .ref ti, .int o8, .ref ch, .ref td, .ref gr, .int o12, .int o13]))] sz)) 0 0 (va_A [(h0, .inr (10, [.ref tp, .int o1, .ref nw, .ref sp, .ref rd, .ref la, .ref tr, .ref ti, .int o8, .ref ch, .ref td, .ref gr, .int o12, .int o13]))] sz) := by
  refine Met.ofW (cc := cX10_refuse) (maxL := 2) (ret := (some .int)) (by decide) rfl ?_
  intro p e s m args below meth c s₁ B hml hv
  obtain ⟨rfl, hsz, hP, hK, hD0, hN⟩ := hv
  have hx := B.exec
  have hb := B.bytes
  have hr := B.returns
  have hts := atoms_spec (ws := z_wX10_refuse) B.pre
  have hown : s.vm.findClass RX10 = some m.cls := findClass_of_methodNamed B.named
  have hlocks := B.notSynchronized
  have hin_10 : ∀ w ∈ u_ws RX10 TX10 14, w ∈ z_wX10_refuse := by decide +kernel
  subst hsz
  have hD := hD0.self (sz := s.heap.size)
  generalize hAe : va_A [(h0, .inr (10, [.ref tp, .int o1, .ref nw, .ref sp, .ref rd, .ref la, .ref tr, .ref ti, .int o8, .ref ch, .ref td, .ref gr, .int o12, .int o13]))] s.heap.size = A at hD ⊢
  have hA : ∀ q : Nat, s.heap.size ≤ q → A q := fun q h => by rw [← hAe]; exact Or.inr h
  have hS : va_S A s.heap s.heap [] := va_S.rf
  have hP : va_P (dC, dI) z_Cl [(h0, .inr (10, [.ref tp, .int o1, .ref nw, .ref sp, .ref rd, .ref la, .ref tr, .ref ti, .int o8, .ref ch, .ref td, .ref gr, .int o12, .int o13]))] s.heap := hP
  have hl := lv_entry ([.ref h0, .int p1]) (n := 2) (Nat.le_of_ble_eq_true rfl)
  rw [lg_entry_eq]
  generalize (lg_sl ([.ref h0, .int p1]) ++ List.replicate (2 - (lg_sl ([.ref h0, .int p1])).length) Slot.unset).toArray = ls at hl ⊢
  have hl : lv_has ls 2 [(0, .ref h0), (1, .int p1)] := hl
  refine lv_aload_n hx hb dX10_refuse_0 rfl (lv_at hl 0 rfl) ?_
  refine lv_iload_n hx hb dX10_refuse_1 rfl (lv_at hl 1 rfl) ?_
  refine va_put (D := (dC, dI)) (ci := 10) (v := .int p1) (ty := .int) (C := RX10) (T := TX10) (N := 14) hx hb hts hin_10 tyX10 tyX10_ok nmX10 hown hK hP hD hS 0 rfl rfl 13 (by decide) (hts (.fieldLink RX10 92 "LessonMaker" "latestTrouble" "I") (List.mem_of_getElem? (i := 1) rfl)) (fun _ h9 => h9) rfl (by decide +kernel) rfl rfl (Nat.le_of_ble_eq_true rfl) dX10_refuse_2 (fun H locs hP hD hS => ?_)
  have hP : va_P (dC, dI) z_Cl [(h0, .inr (10, [.ref tp, .int o1, .ref nw, .ref sp, .ref rd, .ref la, .ref tr, .ref ti, .int o8, .ref ch, .ref td, .ref gr, .int o12, .int p1]))] H := hP
  have hD : va_D A [(h0, .inr (10, [.ref tp, .int o1, .ref nw, .ref sp, .ref rd, .ref la, .ref tr, .ref ti, .int o8, .ref ch, .ref td, .ref gr, .int o12, .int p1]))] := hD
  refine lv_iconst (v := (-1)) hx hb dX10_refuse_5 (by decide) ?_
  have hP9 := hP.sub (ws' := []) [] rfl
  have hD9 := hD.sub (ws' := []) [] (by decide) rfl
  have hK9 := hK.sub (tys' := []) [] rfl
  refine W.widen (k := 0) (n := 0) (Nat.le_of_ble_eq_true rfl) (Nat.le_of_ble_eq_true rfl) ?_
  exact W.iret (v := (-1)) hx hb hr (fun t ht hW => ⟨⟨(-1), (), rfl, rfl, by rw [ht]; exact hP9, va_K.moved hW.alike hK9, hD9⟩, hS.F ht⟩) hS.2.2 dX10_refuse_6

def z_wX10_accept : List Cond := .code yX10_accept cX10_accept 2 (some .int) :: ([.fieldLink RX10 92 "LessonMaker" "latestTrouble" "I"] ++ (u_ws RX10 TX10 14))
set_option maxHeartbeats 4000000 in
set_option maxRecDepth 100000 in
theorem c_X10_accept (l : Launch) (dC : Nat → ClassId) (dI : Nat → Nat → Nat) (h0 : Nat) (tp : Nat) (o1 : Int32) (nw : Nat) (sp : Nat) (rd : Nat) (la : Nat) (tr : Nat) (ti : Nat) (o8 : Int32) (ch : Nat) (td : Nat) (gr : Nat) (o12 : Int32) (o13 : Int32) (p1 : Int32) (sz : Nat) : Met l yX10_accept z_wX10_accept ({ frames := 0, cells := 0, slots := 0, locals := 0 }) (va_Pc [.ref h0, .int p1] (z_in dC dI [(h0, .inr (10, [.ref tp, .int o1, .ref nw, .ref sp, .ref rd, .ref la, .ref tr, .ref ti, .int o8, .ref ch, .ref td, .ref gr, .int o12, .int o13]))] [] sz)) (va_Qi (fun (r : Int32) (_ : Unit) => r = p1) (fun (_ : Unit) t => z_out dC dI (va_A [(h0, .inr (10, [.ref tp, .int o1, .ref nw, .ref sp, .ref rd, .ref la, .ref tr, .ref ti, .int o8, .ref ch, .ref td, .ref gr, .int o12, .int o13]))] sz) [] [] t) (va_A [(h0, .inr (10, [.ref tp, .int o1, .ref nw, .ref sp, .ref rd, .ref la, .ref tr, .ref ti, .int o8, .ref ch, .ref td, .ref gr, .int o12, .int o13]))] sz)) 0 0 (va_A [(h0, .inr (10, [.ref tp, .int o1, .ref nw, .ref sp, .ref rd, .ref la, .ref tr, .ref ti, .int o8, .ref ch, .ref td, .ref gr, .int o12, .int o13]))] sz) := by
  refine Met.ofW (cc := cX10_accept) (maxL := 2) (ret := (some .int)) (by decide) rfl ?_
  intro p e s m args below meth c s₁ B hml hv
  obtain ⟨rfl, hsz, hP, hK, hD0, hN⟩ := hv
  have hx := B.exec
  have hb := B.bytes
  have hr := B.returns
  have hts := atoms_spec (ws := z_wX10_accept) B.pre
  have hown : s.vm.findClass RX10 = some m.cls := findClass_of_methodNamed B.named
  have hlocks := B.notSynchronized
  have hin_10 : ∀ w ∈ u_ws RX10 TX10 14, w ∈ z_wX10_accept := by decide +kernel
  subst hsz
  have hD := hD0.self (sz := s.heap.size)
  generalize hAe : va_A [(h0, .inr (10, [.ref tp, .int o1, .ref nw, .ref sp, .ref rd, .ref la, .ref tr, .ref ti, .int o8, .ref ch, .ref td, .ref gr, .int o12, .int o13]))] s.heap.size = A at hD ⊢
  have hA : ∀ q : Nat, s.heap.size ≤ q → A q := fun q h => by rw [← hAe]; exact Or.inr h
  have hS : va_S A s.heap s.heap [] := va_S.rf
  have hP : va_P (dC, dI) z_Cl [(h0, .inr (10, [.ref tp, .int o1, .ref nw, .ref sp, .ref rd, .ref la, .ref tr, .ref ti, .int o8, .ref ch, .ref td, .ref gr, .int o12, .int o13]))] s.heap := hP
  have hl := lv_entry ([.ref h0, .int p1]) (n := 2) (Nat.le_of_ble_eq_true rfl)
  rw [lg_entry_eq]
  generalize (lg_sl ([.ref h0, .int p1]) ++ List.replicate (2 - (lg_sl ([.ref h0, .int p1])).length) Slot.unset).toArray = ls at hl ⊢
  have hl : lv_has ls 2 [(0, .ref h0), (1, .int p1)] := hl
  refine lv_aload_n hx hb dX10_accept_0 rfl (lv_at hl 0 rfl) ?_
  refine lv_iconst (v := 0) hx hb dX10_accept_1 (by decide) ?_
  refine va_put (D := (dC, dI)) (ci := 10) (v := .int 0) (ty := .int) (C := RX10) (T := TX10) (N := 14) hx hb hts hin_10 tyX10 tyX10_ok nmX10 hown hK hP hD hS 0 rfl rfl 13 (by decide) (hts (.fieldLink RX10 92 "LessonMaker" "latestTrouble" "I") (List.mem_of_getElem? (i := 1) rfl)) (fun _ h9 => h9) rfl (by decide +kernel) rfl rfl (Nat.le_of_ble_eq_true rfl) dX10_accept_2 (fun H locs hP hD hS => ?_)
  have hP : va_P (dC, dI) z_Cl [(h0, .inr (10, [.ref tp, .int o1, .ref nw, .ref sp, .ref rd, .ref la, .ref tr, .ref ti, .int o8, .ref ch, .ref td, .ref gr, .int o12, .int 0]))] H := hP
  have hD : va_D A [(h0, .inr (10, [.ref tp, .int o1, .ref nw, .ref sp, .ref rd, .ref la, .ref tr, .ref ti, .int o8, .ref ch, .ref td, .ref gr, .int o12, .int 0]))] := hD
  refine lv_iload_n hx hb dX10_accept_5 rfl (lv_at hl 1 rfl) ?_
  have hP9 := hP.sub (ws' := []) [] rfl
  have hD9 := hD.sub (ws' := []) [] (by decide) rfl
  have hK9 := hK.sub (tys' := []) [] rfl
  refine W.widen (k := 0) (n := 0) (Nat.le_of_ble_eq_true rfl) (Nat.le_of_ble_eq_true rfl) ?_
  exact W.iret (v := p1) hx hb hr (fun t ht hW => ⟨⟨p1, (), rfl, rfl, by rw [ht]; exact hP9, va_K.moved hW.alike hK9, hD9⟩, hS.F ht⟩) hS.2.2 dX10_accept_6

def z_wX10_fault : List Cond := .code yX10_fault cX10_fault 1 (some .int) :: ([.fieldLink RX10 83 "LessonMaker" "latestFault" "I"] ++ (u_ws RX10 TX10 14))
set_option maxHeartbeats 4000000 in
set_option maxRecDepth 100000 in
theorem c_X10_fault (l : Launch) (dC : Nat → ClassId) (dI : Nat → Nat → Nat) (h0 : Nat) (tp : Nat) (nw : Nat) (sp : Nat) (rd : Nat) (la : Nat) (tr : Nat) (ti : Nat) (ch : Nat) (td : Nat) (gr : Nat) (sz : Nat) : Met l yX10_fault z_wX10_fault ({ frames := 0, cells := 0, slots := 0, locals := 0 }) (va_Pc [.ref h0] (z_in dC dI [(h0, .inr (10, [.ref tp, .int 0, .ref nw, .ref sp, .ref rd, .ref la, .ref tr, .ref ti, .int 0, .ref ch, .ref td, .ref gr, .int 0, .int 0]))] [] sz)) (va_Qi (fun (r : Int32) (_ : Unit) => r = 0) (fun (_ : Unit) t => z_out dC dI (va_A [(h0, .inr (10, [.ref tp, .int 0, .ref nw, .ref sp, .ref rd, .ref la, .ref tr, .ref ti, .int 0, .ref ch, .ref td, .ref gr, .int 0, .int 0]))] sz) [] [] t) (va_A [(h0, .inr (10, [.ref tp, .int 0, .ref nw, .ref sp, .ref rd, .ref la, .ref tr, .ref ti, .int 0, .ref ch, .ref td, .ref gr, .int 0, .int 0]))] sz)) 0 0 (va_A [(h0, .inr (10, [.ref tp, .int 0, .ref nw, .ref sp, .ref rd, .ref la, .ref tr, .ref ti, .int 0, .ref ch, .ref td, .ref gr, .int 0, .int 0]))] sz) := by
  refine Met.ofW (cc := cX10_fault) (maxL := 1) (ret := (some .int)) (by decide) rfl ?_
  intro p e s m args below meth c s₁ B hml hv
  obtain ⟨rfl, hsz, hP, hK, hD0, hN⟩ := hv
  have hx := B.exec
  have hb := B.bytes
  have hr := B.returns
  have hts := atoms_spec (ws := z_wX10_fault) B.pre
  have hown : s.vm.findClass RX10 = some m.cls := findClass_of_methodNamed B.named
  have hlocks := B.notSynchronized
  have hin_10 : ∀ w ∈ u_ws RX10 TX10 14, w ∈ z_wX10_fault := by decide +kernel
  subst hsz
  have hD := hD0.self (sz := s.heap.size)
  generalize hAe : va_A [(h0, .inr (10, [.ref tp, .int 0, .ref nw, .ref sp, .ref rd, .ref la, .ref tr, .ref ti, .int 0, .ref ch, .ref td, .ref gr, .int 0, .int 0]))] s.heap.size = A at hD ⊢
  have hA : ∀ q : Nat, s.heap.size ≤ q → A q := fun q h => by rw [← hAe]; exact Or.inr h
  have hS : va_S A s.heap s.heap [] := va_S.rf
  have hP : va_P (dC, dI) z_Cl [(h0, .inr (10, [.ref tp, .int 0, .ref nw, .ref sp, .ref rd, .ref la, .ref tr, .ref ti, .int 0, .ref ch, .ref td, .ref gr, .int 0, .int 0]))] s.heap := hP
  have hl := lv_entry ([.ref h0]) (n := 1) (Nat.le_of_ble_eq_true rfl)
  rw [lg_entry_eq]
  generalize (lg_sl ([.ref h0]) ++ List.replicate (1 - (lg_sl ([.ref h0])).length) Slot.unset).toArray = ls at hl ⊢
  have hl : lv_has ls 1 [(0, .ref h0)] := hl
  refine lv_aload_n hx hb dX10_fault_0 rfl (lv_at hl 0 rfl) ?_
  refine va_get (D := (dC, dI)) (ci := 10) (v := .int 0) (C := RX10) (T := TX10) (N := 14) hx hb hts hin_10 hown hK hP 0 rfl rfl 12 (by decide) (hts (.fieldLink RX10 83 "LessonMaker" "latestFault" "I") (List.mem_of_getElem? (i := 1) rfl)) (fun _ h9 => h9) rfl dX10_fault_1 ?_
  have hP9 := hP.sub (ws' := []) [] rfl
  have hD9 := hD.sub (ws' := []) [] (by decide) rfl
  have hK9 := hK.sub (tys' := []) [] rfl
  refine W.widen (k := 0) (n := 0) (Nat.le_of_ble_eq_true rfl) (Nat.le_of_ble_eq_true rfl) ?_
  exact W.iret (v := 0) hx hb hr (fun t ht hW => ⟨⟨0, (), rfl, rfl, by rw [ht]; exact hP9, va_K.moved hW.alike hK9, hD9⟩, hS.F ht⟩) hS.2.2 dX10_fault_4

def z_wX10_where : List Cond := .code yX10_where cX10_where 1 (some .int) :: ([.fieldLink RX10 92 "LessonMaker" "latestTrouble" "I"] ++ (u_ws RX10 TX10 14))
set_option maxHeartbeats 4000000 in
set_option maxRecDepth 100000 in
theorem c_X10_where (l : Launch) (dC : Nat → ClassId) (dI : Nat → Nat → Nat) (h0 : Nat) (tp : Nat) (nw : Nat) (sp : Nat) (rd : Nat) (la : Nat) (tr : Nat) (ti : Nat) (ch : Nat) (td : Nat) (gr : Nat) (sz : Nat) : Met l yX10_where z_wX10_where ({ frames := 0, cells := 0, slots := 0, locals := 0 }) (va_Pc [.ref h0] (z_in dC dI [(h0, .inr (10, [.ref tp, .int 0, .ref nw, .ref sp, .ref rd, .ref la, .ref tr, .ref ti, .int 0, .ref ch, .ref td, .ref gr, .int 0, .int 0]))] [] sz)) (va_Qi (fun (r : Int32) (_ : Unit) => r = (-1)) (fun (_ : Unit) t => z_out dC dI (va_A [(h0, .inr (10, [.ref tp, .int 0, .ref nw, .ref sp, .ref rd, .ref la, .ref tr, .ref ti, .int 0, .ref ch, .ref td, .ref gr, .int 0, .int 0]))] sz) [] [] t) (va_A [(h0, .inr (10, [.ref tp, .int 0, .ref nw, .ref sp, .ref rd, .ref la, .ref tr, .ref ti, .int 0, .ref ch, .ref td, .ref gr, .int 0, .int 0]))] sz)) 0 0 (va_A [(h0, .inr (10, [.ref tp, .int 0, .ref nw, .ref sp, .ref rd, .ref la, .ref tr, .ref ti, .int 0, .ref ch, .ref td, .ref gr, .int 0, .int 0]))] sz) := by
  refine Met.ofW (cc := cX10_where) (maxL := 1) (ret := (some .int)) (by decide) rfl ?_
  intro p e s m args below meth c s₁ B hml hv
  obtain ⟨rfl, hsz, hP, hK, hD0, hN⟩ := hv
  have hx := B.exec
  have hb := B.bytes
  have hr := B.returns
  have hts := atoms_spec (ws := z_wX10_where) B.pre
  have hown : s.vm.findClass RX10 = some m.cls := findClass_of_methodNamed B.named
  have hlocks := B.notSynchronized
  have hin_10 : ∀ w ∈ u_ws RX10 TX10 14, w ∈ z_wX10_where := by decide +kernel
  subst hsz
  have hD := hD0.self (sz := s.heap.size)
  generalize hAe : va_A [(h0, .inr (10, [.ref tp, .int 0, .ref nw, .ref sp, .ref rd, .ref la, .ref tr, .ref ti, .int 0, .ref ch, .ref td, .ref gr, .int 0, .int 0]))] s.heap.size = A at hD ⊢
  have hA : ∀ q : Nat, s.heap.size ≤ q → A q := fun q h => by rw [← hAe]; exact Or.inr h
  have hS : va_S A s.heap s.heap [] := va_S.rf
  have hP : va_P (dC, dI) z_Cl [(h0, .inr (10, [.ref tp, .int 0, .ref nw, .ref sp, .ref rd, .ref la, .ref tr, .ref ti, .int 0, .ref ch, .ref td, .ref gr, .int 0, .int 0]))] s.heap := hP
  have hl := lv_entry ([.ref h0]) (n := 1) (Nat.le_of_ble_eq_true rfl)
  rw [lg_entry_eq]
  generalize (lg_sl ([.ref h0]) ++ List.replicate (1 - (lg_sl ([.ref h0])).length) Slot.unset).toArray = ls at hl ⊢
  have hl : lv_has ls 1 [(0, .ref h0)] := hl
  refine lv_aload_n hx hb dX10_where_0 rfl (lv_at hl 0 rfl) ?_
  refine va_get (D := (dC, dI)) (ci := 10) (v := .int 0) (C := RX10) (T := TX10) (N := 14) hx hb hts hin_10 hown hK hP 0 rfl rfl 13 (by decide) (hts (.fieldLink RX10 92 "LessonMaker" "latestTrouble" "I") (List.mem_of_getElem? (i := 1) rfl)) (fun _ h9 => h9) rfl dX10_where_1 ?_
  refine lv_iconst (v := 4) hx hb dX10_where_4 (by decide) ?_
  refine lv_icmp_ne (tgt := 18) hx hb dX10_where_5 (by decide) (fun _ => ?_) (fun h9 => absurd h9 (by decide))
  refine lv_iconst (v := (-1)) hx hb dX10_where_18 (by decide) ?_
  have hP9 := hP.sub (ws' := []) [] rfl
  have hD9 := hD.sub (ws' := []) [] (by decide) rfl
  have hK9 := hK.sub (tys' := []) [] rfl
  refine W.widen (k := 0) (n := 0) (Nat.le_of_ble_eq_true rfl) (Nat.le_of_ble_eq_true rfl) ?_
  exact W.iret (v := (-1)) hx hb hr (fun t ht hW => ⟨⟨(-1), (), rfl, rfl, by rw [ht]; exact hP9, va_K.moved hW.alike hK9, hD9⟩, hS.F ht⟩) hS.2.2 dX10_where_19

def z_wX10_function : List Cond := .code yX10_function cX10_function 3 (some .int) :: ([.fieldLink RX10 16 "LessonMaker" "now" "LLessonMaker$Program;", .fieldLink RX6 39 "LessonMaker$Program" "functionCount" "I", .methodLink RX10 98 yX6_hasFunction, .instanceMethod yX6_hasFunction, .selects RX6 yX6_hasFunction yX6_hasFunction, .initialized RX6, .code yX6_hasFunction cX6_hasFunction 2 (some .boolean)] ++ (u_ws RX6 TX6 6 ++ u_ws RX10 TX10 14))
set_option maxRecDepth 20000 in
theorem c_X10_function_zg_1 : GoodIn z_wX10_function (wsV RX10 98 RX6 yX6_hasFunction z_wX6_hasFunction) := goodIn_r _ [3, 4, 5, 6, 7, 2, 8, 9, 10, 11, 12, 13] (by decide +kernel) (by decide +kernel)
set_option maxHeartbeats 4000000 in
set_option maxRecDepth 100000 in
theorem c_X10_function (l : Launch) (dC : Nat → ClassId) (dI : Nat → Nat → Nat) (h0 : Nat) (tp : Nat) (nw : Nat) (sp : Nat) (rd : Nat) (la : Nat) (tr : Nat) (ti : Nat) (ch : Nat) (td : Nat) (gr : Nat) (n1 : Nat) (n2 : Nat) (n3 : Nat) (n4 : Nat) (p1 : Int32) (p2 : Int32) (sz : Nat) : Met l yX10_function z_wX10_function ({ frames := 1, cells := 0, slots := 0, locals := 21 }) (va_Pc [.ref h0, .int p1, .int p2] (z_in dC dI [(h0, .inr (10, [.ref tp, .int 0, .ref nw, .ref sp, .ref rd, .ref la, .ref tr, .ref ti, .int 0, .ref ch, .ref td, .ref gr, .int 0, .int 0])), (nw, .inr (6, [.ref n1, .ref n2, .ref n3, .ref n4, .int 0, .int 0]))] [] sz)) (va_Qi (fun (r : Int32) (_ : Unit) => r = (-1)) (fun (_ : Unit) t => z_out dC dI (va_A [(h0, .inr (10, [.ref tp, .int 0, .ref nw, .ref sp, .ref rd, .ref la, .ref tr, .ref ti, .int 0, .ref ch, .ref td, .ref gr, .int 0, .int 0])), (nw, .inr (6, [.ref n1, .ref n2, .ref n3, .ref n4, .int 0, .int 0]))] sz) [] [] t) (va_A [(h0, .inr (10, [.ref tp, .int 0, .ref nw, .ref sp, .ref rd, .ref la, .ref tr, .ref ti, .int 0, .ref ch, .ref td, .ref gr, .int 0, .int 0])), (nw, .inr (6, [.ref n1, .ref n2, .ref n3, .ref n4, .int 0, .int 0]))] sz)) 0 0 (va_A [(h0, .inr (10, [.ref tp, .int 0, .ref nw, .ref sp, .ref rd, .ref la, .ref tr, .ref ti, .int 0, .ref ch, .ref td, .ref gr, .int 0, .int 0])), (nw, .inr (6, [.ref n1, .ref n2, .ref n3, .ref n4, .int 0, .int 0]))] sz) := by
  refine Met.ofW (cc := cX10_function) (maxL := 3) (ret := (some .int)) (by decide) rfl ?_
  intro p e s m args below meth c s₁ B hml hv
  obtain ⟨rfl, hsz, hP, hK, hD0, hN⟩ := hv
  have hx := B.exec
  have hb := B.bytes
  have hr := B.returns
  have hts := atoms_spec (ws := z_wX10_function) B.pre
  have hown : s.vm.findClass RX10 = some m.cls := findClass_of_methodNamed B.named
  have hlocks := B.notSynchronized
  have hin_10 : ∀ w ∈ u_ws RX10 TX10 14, w ∈ z_wX10_function := by decide +kernel
  subst hsz
  have hD := hD0.self (sz := s.heap.size)
  generalize hAe : va_A [(h0, .inr (10, [.ref tp, .int 0, .ref nw, .ref sp, .ref rd, .ref la, .ref tr, .ref ti, .int 0, .ref ch, .ref td, .ref gr, .int 0, .int 0])), (nw, .inr (6, [.ref n1, .ref n2, .ref n3, .ref n4, .int 0, .int 0]))] s.heap.size = A at hD ⊢
  have hA : ∀ q : Nat, s.heap.size ≤ q → A q := fun q h => by rw [← hAe]; exact Or.inr h
  have hS : va_S A s.heap s.heap [] := va_S.rf
  have hP : va_P (dC, dI) z_Cl [(h0, .inr (10, [.ref tp, .int 0, .ref nw, .ref sp, .ref rd, .ref la, .ref tr, .ref ti, .int 0, .ref ch, .ref td, .ref gr, .int 0, .int 0])), (nw, .inr (6, [.ref n1, .ref n2, .ref n3, .ref n4, .int 0, .int 0]))] s.heap := hP
  have hl := lv_entry ([.ref h0, .int p1, .int p2]) (n := 3) (Nat.le_of_ble_eq_true rfl)
  rw [lg_entry_eq]
  generalize (lg_sl ([.ref h0, .int p1, .int p2]) ++ List.replicate (3 - (lg_sl ([.ref h0, .int p1, .int p2])).length) Slot.unset).toArray = ls at hl ⊢
  have hl : lv_has ls 3 [(0, .ref h0), (1, .int p1), (2, .int p2)] := hl
  refine lv_aload_n hx hb dX10_function_0 rfl (lv_at hl 0 rfl) ?_
  refine va_get (D := (dC, dI)) (ci := 10) (v := .ref nw) (C := RX10) (T := TX10) (N := 14) hx hb hts hin_10 hown hK hP 0 rfl rfl 2 (by decide) (hts (.fieldLink RX10 16 "LessonMaker" "now" "LLessonMaker$Program;") (List.mem_of_getElem? (i := 1) rfl)) (fun _ h9 => h9) rfl dX10_function_1 ?_
  refine lv_iload_n hx hb dX10_function_4 rfl (lv_at hl 1 rfl) ?_
  have hPc := hP.sub (ws' := [(nw, .inr (6, [.ref n1, .ref n2, .ref n3, .ref n4, .int 0, .int 0]))]) [1] rfl
  have hDc := hD.sub (ws' := [(nw, .inr (6, [.ref n1, .ref n2, .ref n3, .ref n4, .int 0, .int 0]))]) [1] (by decide) rfl
  have hKc := hK.sub (tys' := []) [] rfl
  have hFc := va_free (wc := [(nw, .inr (6, [.ref n1, .ref n2, .ref n3, .ref n4, .int 0, .int 0]))]) hD hS hA [1] rfl
  refine va_calli (va_runV (As := [.int p1]) (rest := []) ⟨hx, hb, hml, hown, hts⟩ (c_X6_hasFunction l dC dI nw n1 n2 n3 n4 p1 s.heap.size) (cwV 1 hts c_X10_function_zg_1 rfl rfl rfl (by decide +kernel) ⟨(Nat.le_of_ble_eq_true rfl), (Nat.le_of_ble_eq_true rfl)⟩) ⟨z_blind, va_recv hKc hPc (ci := 6) (q0 := 0) rfl rfl, z_pre hPc hKc hDc hN⟩ rfl rfl hl.1 rfl (lv_room (Nat.le_of_ble_eq_true rfl)) dX10_function_5 ⟨(Nat.le_of_ble_eq_true rfl), (Nat.le_of_ble_eq_true rfl)⟩) hS (fun q _ h => hFc q h) hFc (fun r_2 u t H1 locs ht hvm hw hB hz1 hk1 hS => ?_)
  obtain ⟨hP1, hK1, hD1⟩ := hB
  rw [ht] at hP1
  have hK1 := va_K.moved hvm.symm hK1
  obtain ⟨hP, hD⟩ := va_join (wr := [(h0, .inr (10, [.ref tp, .int 0, .ref nw, .ref sp, .ref rd, .ref la, .ref tr, .ref ti, .int 0, .ref ch, .ref td, .ref gr, .int 0, .int 0]))]) (w1 := []) hP hD [1] [0] rfl rfl (by decide) (by decide) hk1 hFc hP1 hD1
  have hK := (hK.sub (tys' := []) [] rfl).app hK1
  generalize H1 = H at hP hS ⊢
  have hP : va_P (dC, dI) z_Cl [(h0, .inr (10, [.ref tp, .int 0, .ref nw, .ref sp, .ref rd, .ref la, .ref tr, .ref ti, .int 0, .ref ch, .ref td, .ref gr, .int 0, .int 0]))] H := hP
  have hD : va_D A [(h0, .inr (10, [.ref tp, .int 0, .ref nw, .ref sp, .ref rd, .ref la, .ref tr, .ref ti, .int 0, .ref ch, .ref td, .ref gr, .int 0, .int 0]))] := hD
  have hK : va_K (dC, dI) z_Cl [] s := hK
  have hw : r_2 = 0 := hw
  subst hw
  refine lv_if_ne (tgt := 13) hx hb dX10_function_8 (by decide) (fun h9 => absurd (by decide) h9) (fun _ => ?_)
  refine lv_iconst (v := (-1)) hx hb dX10_function_11 (by decide) ?_
  have hP9 := hP.sub (ws' := []) [] rfl
  have hD9 := hD.sub (ws' := []) [] (by decide) rfl
  have hK9 := hK.sub (tys' := []) [] rfl
  refine W.widen (k := 0) (n := 0) (Nat.le_of_ble_eq_true rfl) (Nat.le_of_ble_eq_true rfl) ?_
  exact W.iret (v := (-1)) hx hb hr (fun t ht hW => ⟨⟨(-1), (), rfl, rfl, by rw [ht]; exact hP9, va_K.moved hW.alike hK9, hD9⟩, hS.F ht⟩) hS.2.2 dX10_function_12

def z_wX10_line : List Cond := .code yX10_line cX10_line 3 (some .int) :: ([.fieldLink RX10 16 "LessonMaker" "now" "LLessonMaker$Program;", .fieldLink RX6 43 "LessonMaker$Program" "lineCount" "I", .methodLink RX10 142 yX6_hasLine, .instanceMethod yX6_hasLine, .selects RX6 yX6_hasLine yX6_hasLine, .initialized RX6, .code yX6_hasLine cX6_hasLine 2 (some .boolean)] ++ (u_ws RX6 TX6 6 ++ u_ws RX10 TX10 14))
set_option maxRecDepth 20000 in
theorem c_X10_line_zg_1 : GoodIn z_wX10_line (wsV RX10 142 RX6 yX6_hasLine z_wX6_hasLine) := goodIn_r _ [3, 4, 5, 6, 7, 2, 8, 9, 10, 11, 12, 13] (by decide +kernel) (by decide +kernel)
set_option maxHeartbeats 4000000 in
set_option maxRecDepth 100000 in
theorem c_X10_line (l : Launch) (dC : Nat → ClassId) (dI : Nat → Nat → Nat) (h0 : Nat) (tp : Nat) (nw : Nat) (sp : Nat) (rd : Nat) (la : Nat) (tr : Nat) (ti : Nat) (ch : Nat) (td : Nat) (gr : Nat) (n1 : Nat) (n2 : Nat) (n3 : Nat) (n4 : Nat) (p1 : Int32) (p2 : Int32) (sz : Nat) : Met l yX10_line z_wX10_line ({ frames := 1, cells := 0, slots := 0, locals := 21 }) (va_Pc [.ref h0, .int p1, .int p2] (z_in dC dI [(h0, .inr (10, [.ref tp, .int 0, .ref nw, .ref sp, .ref rd, .ref la, .ref tr, .ref ti, .int 0, .ref ch, .ref td, .ref gr, .int 0, .int 0])), (nw, .inr (6, [.ref n1, .ref n2, .ref n3, .ref n4, .int 0, .int 0]))] [] sz)) (va_Qi (fun (r : Int32) (_ : Unit) => r = (-1)) (fun (_ : Unit) t => z_out dC dI (va_A [(h0, .inr (10, [.ref tp, .int 0, .ref nw, .ref sp, .ref rd, .ref la, .ref tr, .ref ti, .int 0, .ref ch, .ref td, .ref gr, .int 0, .int 0])), (nw, .inr (6, [.ref n1, .ref n2, .ref n3, .ref n4, .int 0, .int 0]))] sz) [] [] t) (va_A [(h0, .inr (10, [.ref tp, .int 0, .ref nw, .ref sp, .ref rd, .ref la, .ref tr, .ref ti, .int 0, .ref ch, .ref td, .ref gr, .int 0, .int 0])), (nw, .inr (6, [.ref n1, .ref n2, .ref n3, .ref n4, .int 0, .int 0]))] sz)) 0 0 (va_A [(h0, .inr (10, [.ref tp, .int 0, .ref nw, .ref sp, .ref rd, .ref la, .ref tr, .ref ti, .int 0, .ref ch, .ref td, .ref gr, .int 0, .int 0])), (nw, .inr (6, [.ref n1, .ref n2, .ref n3, .ref n4, .int 0, .int 0]))] sz) := by
  refine Met.ofW (cc := cX10_line) (maxL := 3) (ret := (some .int)) (by decide) rfl ?_
  intro p e s m args below meth c s₁ B hml hv
  obtain ⟨rfl, hsz, hP, hK, hD0, hN⟩ := hv
  have hx := B.exec
  have hb := B.bytes
  have hr := B.returns
  have hts := atoms_spec (ws := z_wX10_line) B.pre
  have hown : s.vm.findClass RX10 = some m.cls := findClass_of_methodNamed B.named
  have hlocks := B.notSynchronized
  have hin_10 : ∀ w ∈ u_ws RX10 TX10 14, w ∈ z_wX10_line := by decide +kernel
  subst hsz
  have hD := hD0.self (sz := s.heap.size)
  generalize hAe : va_A [(h0, .inr (10, [.ref tp, .int 0, .ref nw, .ref sp, .ref rd, .ref la, .ref tr, .ref ti, .int 0, .ref ch, .ref td, .ref gr, .int 0, .int 0])), (nw, .inr (6, [.ref n1, .ref n2, .ref n3, .ref n4, .int 0, .int 0]))] s.heap.size = A at hD ⊢
  have hA : ∀ q : Nat, s.heap.size ≤ q → A q := fun q h => by rw [← hAe]; exact Or.inr h
  have hS : va_S A s.heap s.heap [] := va_S.rf
  have hP : va_P (dC, dI) z_Cl [(h0, .inr (10, [.ref tp, .int 0, .ref nw, .ref sp, .ref rd, .ref la, .ref tr, .ref ti, .int 0, .ref ch, .ref td, .ref gr, .int 0, .int 0])), (nw, .inr (6, [.ref n1, .ref n2, .ref n3, .ref n4, .int 0, .int 0]))] s.heap := hP
  have hl := lv_entry ([.ref h0, .int p1, .int p2]) (n := 3) (Nat.le_of_ble_eq_true rfl)
  rw [lg_entry_eq]
  generalize (lg_sl ([.ref h0, .int p1, .int p2]) ++ List.replicate (3 - (lg_sl ([.ref h0, .int p1, .int p2])).length) Slot.unset).toArray = ls at hl ⊢
  have hl : lv_has ls 3 [(0, .ref h0), (1, .int p1), (2, .int p2)] := hl
  refine lv_aload_n hx hb dX10_line_0 rfl (lv_at hl 0 rfl) ?_
  refine va_get (D := (dC, dI)) (ci := 10) (v := .ref nw) (C := RX10) (T := TX10) (N := 14) hx hb hts hin_10 hown hK hP 0 rfl rfl 2 (by decide) (hts (.fieldLink RX10 16 "LessonMaker" "now" "LLessonMaker$Program;") (List.mem_of_getElem? (i := 1) rfl)) (fun _ h9 => h9) rfl dX10_line_1 ?_
  refine lv_iload_n hx hb dX10_line_4 rfl (lv_at hl 1 rfl) ?_
  have hPc := hP.sub (ws' := [(nw, .inr (6, [.ref n1, .ref n2, .ref n3, .ref n4, .int 0, .int 0]))]) [1] rfl
  have hDc := hD.sub (ws' := [(nw, .inr (6, [.ref n1, .ref n2, .ref n3, .ref n4, .int 0, .int 0]))]) [1] (by decide) rfl
  have hKc := hK.sub (tys' := []) [] rfl
  have hFc := va_free (wc := [(nw, .inr (6, [.ref n1, .ref n2, .ref n3, .ref n4, .int 0, .int 0]))]) hD hS hA [1] rfl
  refine va_calli (va_runV (As := [.int p1]) (rest := []) ⟨hx, hb, hml, hown, hts⟩ (c_X6_hasLine l dC dI nw n1 n2 n3 n4 p1 s.heap.size) (cwV 1 hts c_X10_line_zg_1 rfl rfl rfl (by decide +kernel) ⟨(Nat.le_of_ble_eq_true rfl), (Nat.le_of_ble_eq_true rfl)⟩) ⟨z_blind, va_recv hKc hPc (ci := 6) (q0 := 0) rfl rfl, z_pre hPc hKc hDc hN⟩ rfl rfl hl.1 rfl (lv_room (Nat.le_of_ble_eq_true rfl)) dX10_line_5 ⟨(Nat.le_of_ble_eq_true rfl), (Nat.le_of_ble_eq_true rfl)⟩) hS (fun q _ h => hFc q h) hFc (fun r_2 u t H1 locs ht hvm hw hB hz1 hk1 hS => ?_)
  obtain ⟨hP1, hK1, hD1⟩ := hB
  rw [ht] at hP1
  have hK1 := va_K.moved hvm.symm hK1
  obtain ⟨hP, hD⟩ := va_join (wr := [(h0, .inr (10, [.ref tp, .int 0, .ref nw, .ref sp, .ref rd, .ref la, .ref tr, .ref ti, .int 0, .ref ch, .ref td, .ref gr, .int 0, .int 0]))]) (w1 := []) hP hD [1] [0] rfl rfl (by decide) (by decide) hk1 hFc hP1 hD1
  have hK := (hK.sub (tys' := []) [] rfl).app hK1
  generalize H1 = H at hP hS ⊢
  have hP : va_P (dC, dI) z_Cl [(h0, .inr (10, [.ref tp, .int 0, .ref nw, .ref sp, .ref rd, .ref la, .ref tr, .ref ti, .int 0, .ref ch, .ref td, .ref gr, .int 0, .int 0]))] H := hP
  have hD : va_D A [(h0, .inr (10, [.ref tp, .int 0, .ref nw, .ref sp, .ref rd, .ref la, .ref tr, .ref ti, .int 0, .ref ch, .ref td, .ref gr, .int 0, .int 0]))] := hD
  have hK : va_K (dC, dI) z_Cl [] s := hK
  have hw : r_2 = 0 := hw
  subst hw
  refine lv_if_ne (tgt := 13) hx hb dX10_line_8 (by decide) (fun h9 => absurd (by decide) h9) (fun _ => ?_)
  refine lv_iconst (v := (-1)) hx hb dX10_line_11 (by decide) ?_
  have hP9 := hP.sub (ws' := []) [] rfl
  have hD9 := hD.sub (ws' := []) [] (by decide) rfl
  have hK9 := hK.sub (tys' := []) [] rfl
  refine W.widen (k := 0) (n := 0) (Nat.le_of_ble_eq_true rfl) (Nat.le_of_ble_eq_true rfl) ?_
  exact W.iret (v := (-1)) hx hb hr (fun t ht hW => ⟨⟨(-1), (), rfl, rfl, by rw [ht]; exact hP9, va_K.moved hW.alike hK9, hD9⟩, hS.F ht⟩) hS.2.2 dX10_line_12

def z_wX10_run : List Cond := .code yX10_run cX10_run 6 (some .int) :: ([.fieldLink RX10 16 "LessonMaker" "now" "LLessonMaker$Program;", .fieldLink RX6 39 "LessonMaker$Program" "functionCount" "I", .methodLink RX10 98 yX6_hasFunction, .instanceMethod yX6_hasFunction, .selects RX6 yX6_hasFunction yX6_hasFunction, .initialized RX6, .code yX6_hasFunction cX6_hasFunction 2 (some .boolean), .fieldLink RX10 92 "LessonMaker" "latestTrouble" "I", .methodLink RX10 68 yX10_refuse, .instanceMethod yX10_refuse, .selects RX10 yX10_refuse yX10_refuse, .initialized RX10, .code yX10_refuse cX10_refuse 2 (some .int)] ++ (u_ws RX6 TX6 6 ++ u_ws RX10 TX10 14))
set_option maxRecDepth 20000 in
theorem c_X10_run_zg_1 : GoodIn z_wX10_run (wsV RX10 98 RX6 yX6_hasFunction z_wX6_hasFunction) := goodIn_r _ [3, 4, 5, 6, 7, 2, 14, 15, 16, 17, 18, 19] (by decide +kernel) (by decide +kernel)
set_option maxRecDepth 20000 in
theorem c_X10_run_zg_3 : GoodIn z_wX10_run (wsV RX10 68 RX10 yX10_refuse z_wX10_refuse) := goodIn_r _ [9, 10, 11, 12, 13, 8, 20, 21, 22, 23, 24, 25, 26, 27, 28, 29, 30, 31, 32, 33] (by decide +kernel) (by decide +kernel)
set_option maxHeartbeats 4000000 in
set_option maxRecDepth 100000 in
theorem c_X10_run (l : Launch) (dC : Nat → ClassId) (dI : Nat → Nat → Nat) (h0 : Nat) (tp : Nat) (nw : Nat) (sp : Nat) (rd : Nat) (la : Nat) (tr : Nat) (ti : Nat) (ch : Nat) (td : Nat) (gr : Nat) (n1 : Nat) (n2 : Nat) (n3 : Nat) (n4 : Nat) (p1 : Int32) (p2 : Int32) (p3 : Int32) (p4 : Int32) (p5 : Int32) (sz : Nat) : Met l yX10_run z_wX10_run ({ frames := 1, cells := 0, slots := 0, locals := 21 }) (va_Pc [.ref h0, .int p1, .int p2, .int p3, .int p4, .int p5] (z_in dC dI [(h0, .inr (10, [.ref tp, .int 0, .ref nw, .ref sp, .ref rd, .ref la, .ref tr, .ref ti, .int 0, .ref ch, .ref td, .ref gr, .int 0, .int 0])), (nw, .inr (6, [.ref n1, .ref n2, .ref n3, .ref n4, .int 0, .int 0]))] [] sz)) (va_Qi (fun (r : Int32) (_ : Unit) => r = (-1)) (fun (_ : Unit) t => z_out dC dI (va_A [(h0, .inr (10, [.ref tp, .int 0, .ref nw, .ref sp, .ref rd, .ref la, .ref tr, .ref ti, .int 0, .ref ch, .ref td, .ref gr, .int 0, .int 0])), (nw, .inr (6, [.ref n1, .ref n2, .ref n3, .ref n4, .int 0, .int 0]))] sz) [] [] t) (va_A [(h0, .inr (10, [.ref tp, .int 0, .ref nw, .ref sp, .ref rd, .ref la, .ref tr, .ref ti, .int 0, .ref ch, .ref td, .ref gr, .int 0, .int 0])), (nw, .inr (6, [.ref n1, .ref n2, .ref n3, .ref n4, .int 0, .int 0]))] sz)) 0 0 (va_A [(h0, .inr (10, [.ref tp, .int 0, .ref nw, .ref sp, .ref rd, .ref la, .ref tr, .ref ti, .int 0, .ref ch, .ref td, .ref gr, .int 0, .int 0])), (nw, .inr (6, [.ref n1, .ref n2, .ref n3, .ref n4, .int 0, .int 0]))] sz) := by
  refine Met.ofW (cc := cX10_run) (maxL := 6) (ret := (some .int)) (by decide) rfl ?_
  intro p e s m args below meth c s₁ B hml hv
  obtain ⟨rfl, hsz, hP, hK, hD0, hN⟩ := hv
  have hx := B.exec
  have hb := B.bytes
  have hr := B.returns
  have hts := atoms_spec (ws := z_wX10_run) B.pre
  have hown : s.vm.findClass RX10 = some m.cls := findClass_of_methodNamed B.named
  have hlocks := B.notSynchronized
  have hin_10 : ∀ w ∈ u_ws RX10 TX10 14, w ∈ z_wX10_run := by decide +kernel
  subst hsz
  have hD := hD0.self (sz := s.heap.size)
  generalize hAe : va_A [(h0, .inr (10, [.ref tp, .int 0, .ref nw, .ref sp, .ref rd, .ref la, .ref tr, .ref ti, .int 0, .ref ch, .ref td, .ref gr, .int 0, .int 0])), (nw, .inr (6, [.ref n1, .ref n2, .ref n3, .ref n4, .int 0, .int 0]))] s.heap.size = A at hD ⊢
  have hA : ∀ q : Nat, s.heap.size ≤ q → A q := fun q h => by rw [← hAe]; exact Or.inr h
  have hS : va_S A s.heap s.heap [] := va_S.rf
  have hP : va_P (dC, dI) z_Cl [(h0, .inr (10, [.ref tp, .int 0, .ref nw, .ref sp, .ref rd, .ref la, .ref tr, .ref ti, .int 0, .ref ch, .ref td, .ref gr, .int 0, .int 0])), (nw, .inr (6, [.ref n1, .ref n2, .ref n3, .ref n4, .int 0, .int 0]))] s.heap := hP
  have hl := lv_entry ([.ref h0, .int p1, .int p2, .int p3, .int p4, .int p5]) (n := 6) (Nat.le_of_ble_eq_true rfl)
  rw [lg_entry_eq]
  generalize (lg_sl ([.ref h0, .int p1, .int p2, .int p3, .int p4, .int p5]) ++ List.replicate (6 - (lg_sl ([.ref h0, .int p1, .int p2, .int p3, .int p4, .int p5])).length) Slot.unset).toArray = ls at hl ⊢
  have hl : lv_has ls 6 [(0, .ref h0), (1, .int p1), (2, .int p2), (3, .int p3), (4, .int p4), (5, .int p5)] := hl
  refine lv_aload_n hx hb dX10_run_0 rfl (lv_at hl 0 rfl) ?_
  refine va_get (D := (dC, dI)) (ci := 10) (v := .ref nw) (C := RX10) (T := TX10) (N := 14) hx hb hts hin_10 hown hK hP 0 rfl rfl 2 (by decide) (hts (.fieldLink RX10 16 "LessonMaker" "now" "LLessonMaker$Program;") (List.mem_of_getElem? (i := 1) rfl)) (fun _ h9 => h9) rfl dX10_run_1 ?_
  refine lv_iload_n hx hb dX10_run_4 rfl (lv_at hl 1 rfl) ?_
  have hPc := hP.sub (ws' := [(nw, .inr (6, [.ref n1, .ref n2, .ref n3, .ref n4, .int 0, .int 0]))]) [1] rfl
  have hDc := hD.sub (ws' := [(nw, .inr (6, [.ref n1, .ref n2, .ref n3, .ref n4, .int 0, .int 0]))]) [1] (by decide) rfl
  have hKc := hK.sub (tys' := []) [] rfl
  have hFc := va_free (wc := [(nw, .inr (6, [.ref n1, .ref n2, .ref n3, .ref n4, .int 0, .int 0]))]) hD hS hA [1] rfl
  refine va_calli (va_runV (As := [.int p1]) (rest := []) ⟨hx, hb, hml, hown, hts⟩ (c_X6_hasFunction l dC dI nw n1 n2 n3 n4 p1 s.heap.size) (cwV 1 hts c_X10_run_zg_1 rfl rfl rfl (by decide +kernel) ⟨(Nat.le_of_ble_eq_true rfl), (Nat.le_of_ble_eq_true rfl)⟩) ⟨z_blind, va_recv hKc hPc (ci := 6) (q0 := 0) rfl rfl, z_pre hPc hKc hDc hN⟩ rfl rfl hl.1 rfl (lv_room (Nat.le_of_ble_eq_true rfl)) dX10_run_5 ⟨(Nat.le_of_ble_eq_true rfl), (Nat.le_of_ble_eq_true rfl)⟩) hS (fun q _ h => hFc q h) hFc (fun r_2 u t H1 locs ht hvm hw hB hz1 hk1 hS => ?_)
  obtain ⟨hP1, hK1, hD1⟩ := hB
  rw [ht] at hP1
  have hK1 := va_K.moved hvm.symm hK1
  obtain ⟨hP, hD⟩ := va_join (wr := [(h0, .inr (10, [.ref tp, .int 0, .ref nw, .ref sp, .ref rd, .ref la, .ref tr, .ref ti, .int 0, .ref ch, .ref td, .ref gr, .int 0, .int 0]))]) (w1 := []) hP hD [1] [0] rfl rfl (by decide) (by decide) hk1 hFc hP1 hD1
  have hK := (hK.sub (tys' := []) [] rfl).app hK1
  generalize H1 = H at hP hS ⊢
  have hP : va_P (dC, dI) z_Cl [(h0, .inr (10, [.ref tp, .int 0, .ref nw, .ref sp, .ref rd, .ref la, .ref tr, .ref ti, .int 0, .ref ch, .ref td, .ref gr, .int 0, .int 0]))] H := hP
  have hD : va_D A [(h0, .inr (10, [.ref tp, .int 0, .ref nw, .ref sp, .ref rd, .ref la, .ref tr, .ref ti, .int 0, .ref ch, .ref td, .ref gr, .int 0, .int 0]))] := hD
  have hK : va_K (dC, dI) z_Cl [] s := hK
  have hw : r_2 = 0 := hw
  subst hw
  refine lv_if_ne (tgt := 17) hx hb dX10_run_8 (by decide) (fun h9 => absurd (by decide) h9) (fun _ => ?_)
  refine lv_aload_n hx hb dX10_run_11 rfl (lv_at hl 0 rfl) ?_
  refine lv_iconst (v := 1) hx hb dX10_run_12 (by decide) ?_
  have hPc := hP.sub (ws' := [(h0, .inr (10, [.ref tp, .int 0, .ref nw, .ref sp, .ref rd, .ref la, .ref tr, .ref ti, .int 0, .ref ch, .ref td, .ref gr, .int 0, .int 0]))]) [0] rfl
  have hDc := hD.sub (ws' := [(h0, .inr (10, [.ref tp, .int 0, .ref nw, .ref sp, .ref rd, .ref la, .ref tr, .ref ti, .int 0, .ref ch, .ref td, .ref gr, .int 0, .int 0]))]) [0] (by decide) rfl
  have hKc := hK.sub (tys' := []) [] rfl
  have hFc := va_free (wc := [(h0, .inr (10, [.ref tp, .int 0, .ref nw, .ref sp, .ref rd, .ref la, .ref tr, .ref ti, .int 0, .ref ch, .ref td, .ref gr, .int 0, .int 0]))]) hD hS hA [0] rfl
  refine va_calli (va_runV (As := [.int 1]) (rest := []) ⟨hx, hb, hml, hown, hts⟩ (c_X10_refuse l dC dI h0 tp 0 nw sp rd la tr ti 0 ch td gr 0 0 1 H.size) (cwV 1 hts c_X10_run_zg_3 rfl rfl rfl (by decide +kernel) ⟨(Nat.le_of_ble_eq_true rfl), (Nat.le_of_ble_eq_true rfl)⟩) ⟨z_blind, va_recv hKc hPc (ci := 10) (q0 := 0) rfl rfl, z_pre hPc hKc hDc hN⟩ rfl rfl hl.1 rfl (lv_room (Nat.le_of_ble_eq_true rfl)) dX10_run_13 ⟨(Nat.le_of_ble_eq_true rfl), (Nat.le_of_ble_eq_true rfl)⟩) hS (fun q _ h => hFc q h) hFc (fun r_4 u t H1 locs ht hvm hw hB hz1 hk1 hS => ?_)
  obtain ⟨hP1, hK1, hD1⟩ := hB
  rw [ht] at hP1
  have hK1 := va_K.moved hvm.symm hK1
  obtain ⟨hP, hD⟩ := va_join (wr := []) (w1 := []) hP hD [0] [] rfl rfl (by decide) (by decide) hk1 hFc hP1 hD1
  have hK := (hK.sub (tys' := []) [] rfl).app hK1
  generalize H1 = H at hP hS ⊢
  have hP : va_P (dC, dI) z_Cl [] H := hP
  have hD : va_D A [] := hD
  have hK : va_K (dC, dI) z_Cl [] s := hK
  have hw : r_4 = (-1) := hw
  subst hw
  have hP9 := hP.sub (ws' := []) [] rfl
  have hD9 := hD.sub (ws' := []) [] (by decide) rfl
  have hK9 := hK.sub (tys' := []) [] rfl
  refine W.widen (k := 0) (n := 0) (Nat.le_of_ble_eq_true rfl) (Nat.le_of_ble_eq_true rfl) ?_
  exact W.iret (v := (-1)) hx hb hr (fun t ht hW => ⟨⟨(-1), (), rfl, rfl, by rw [ht]; exact hP9, va_K.moved hW.alike hK9, hD9⟩, hS.F ht⟩) hS.2.2 dX10_run_16

def z_wX10_ran : List Cond := .code yX10_ran cX10_ran 2 (some .int) :: ([.fieldLink RX10 171 "LessonMaker" "hasRun" "Z", .fieldLink RX10 92 "LessonMaker" "latestTrouble" "I", .methodLink RX10 68 yX10_refuse, .instanceMethod yX10_refuse, .selects RX10 yX10_refuse yX10_refuse, .initialized RX10, .code yX10_refuse cX10_refuse 2 (some .int)] ++ (u_ws RX10 TX10 14))
set_option maxRecDepth 20000 in
theorem c_X10_ran_zg_1 : GoodIn z_wX10_ran (wsV RX10 68 RX10 yX10_refuse z_wX10_refuse) := goodIn_r _ [3, 4, 5, 6, 7, 2, 8, 9, 10, 11, 12, 13, 14, 15, 16, 17, 18, 19, 20, 21] (by decide +kernel) (by decide +kernel)
set_option maxHeartbeats 4000000 in
set_option maxRecDepth 100000 in
theorem c_X10_ran (l : Launch) (dC : Nat → ClassId) (dI : Nat → Nat → Nat) (h0 : Nat) (tp : Nat) (nw : Nat) (sp : Nat) (rd : Nat) (la : Nat) (tr : Nat) (ti : Nat) (ch : Nat) (td : Nat) (gr : Nat) (p1 : Int32) (sz : Nat) : Met l yX10_ran z_wX10_ran ({ frames := 1, cells := 0, slots := 0, locals := 21 }) (va_Pc [.ref h0, .int p1] (z_in dC dI [(h0, .inr (10, [.ref tp, .int 0, .ref nw, .ref sp, .ref rd, .ref la, .ref tr, .ref ti, .int 0, .ref ch, .ref td, .ref gr, .int 0, .int 0]))] [] sz)) (va_Qi (fun (r : Int32) (_ : Unit) => r = (-1)) (fun (_ : Unit) t => z_out dC dI (va_A [(h0, .inr (10, [.ref tp, .int 0, .ref nw, .ref sp, .ref rd, .ref la, .ref tr, .ref ti, .int 0, .ref ch, .ref td, .ref gr, .int 0, .int 0]))] sz) [] [] t) (va_A [(h0, .inr (10, [.ref tp, .int 0, .ref nw, .ref sp, .ref rd, .ref la, .ref tr, .ref ti, .int 0, .ref ch, .ref td, .ref gr, .int 0, .int 0]))] sz)) 0 0 (va_A [(h0, .inr (10, [.ref tp, .int 0, .ref nw, .ref sp, .ref rd, .ref la, .ref tr, .ref ti, .int 0, .ref ch, .ref td, .ref gr, .int 0, .int 0]))] sz) := by
  refine Met.ofW (cc := cX10_ran) (maxL := 2) (ret := (some .int)) (by decide) rfl ?_
  intro p e s m args below meth c s₁ B hml hv
  obtain ⟨rfl, hsz, hP, hK, hD0, hN⟩ := hv
  have hx := B.exec
  have hb := B.bytes
  have hr := B.returns
  have hts := atoms_spec (ws := z_wX10_ran) B.pre
  have hown : s.vm.findClass RX10 = some m.cls := findClass_of_methodNamed B.named
  have hlocks := B.notSynchronized
  have hin_10 : ∀ w ∈ u_ws RX10 TX10 14, w ∈ z_wX10_ran := by decide +kernel
  subst hsz
  have hD := hD0.self (sz := s.heap.size)
  generalize hAe : va_A [(h0, .inr (10, [.ref tp, .int 0, .ref nw, .ref sp, .ref rd, .ref la, .ref tr, .ref ti, .int 0, .ref ch, .ref td, .ref gr, .int 0, .int 0]))] s.heap.size = A at hD ⊢
  have hA : ∀ q : Nat, s.heap.size ≤ q → A q := fun q h => by rw [← hAe]; exact Or.inr h
  have hS : va_S A s.heap s.heap [] := va_S.rf
  have hP : va_P (dC, dI) z_Cl [(h0, .inr (10, [.ref tp, .int 0, .ref nw, .ref sp, .ref rd, .ref la, .ref tr, .ref ti, .int 0, .ref ch, .ref td, .ref gr, .int 0, .int 0]))] s.heap := hP
  have hl := lv_entry ([.ref h0, .int p1]) (n := 2) (Nat.le_of_ble_eq_true rfl)
  rw [lg_entry_eq]
  generalize (lg_sl ([.ref h0, .int p1]) ++ List.replicate (2 - (lg_sl ([.ref h0, .int p1])).length) Slot.unset).toArray = ls at hl ⊢
  have hl : lv_has ls 2 [(0, .ref h0), (1, .int p1)] := hl
  refine lv_aload_n hx hb dX10_ran_0 rfl (lv_at hl 0 rfl) ?_
  refine va_get (D := (dC, dI)) (ci := 10) (v := .int 0) (C := RX10) (T := TX10) (N := 14) hx hb hts hin_10 hown hK hP 0 rfl rfl 8 (by decide) (hts (.fieldLink RX10 171 "LessonMaker" "hasRun" "Z") (List.mem_of_getElem? (i := 1) rfl)) (fun _ h9 => h9) rfl dX10_ran_1 ?_
  refine lv_if_ne (tgt := 13) hx hb dX10_ran_4 (by decide) (fun h9 => absurd (by decide) h9) (fun _ => ?_)
  refine lv_aload_n hx hb dX10_ran_7 rfl (lv_at hl 0 rfl) ?_
  refine lv_iconst (v := 5) hx hb dX10_ran_8 (by decide) ?_
  have hPc := hP.sub (ws' := [(h0, .inr (10, [.ref tp, .int 0, .ref nw, .ref sp, .ref rd, .ref la, .ref tr, .ref ti, .int 0, .ref ch, .ref td, .ref gr, .int 0, .int 0]))]) [0] rfl
  have hDc := hD.sub (ws' := [(h0, .inr (10, [.ref tp, .int 0, .ref nw, .ref sp, .ref rd, .ref la, .ref tr, .ref ti, .int 0, .ref ch, .ref td, .ref gr, .int 0, .int 0]))]) [0] (by decide) rfl
  have hKc := hK.sub (tys' := []) [] rfl
  have hFc := va_free (wc := [(h0, .inr (10, [.ref tp, .int 0, .ref nw, .ref sp, .ref rd, .ref la, .ref tr, .ref ti, .int 0, .ref ch, .ref td, .ref gr, .int 0, .int 0]))]) hD hS hA [0] rfl
  refine va_calli (va_runV (As := [.int 5]) (rest := []) ⟨hx, hb, hml, hown, hts⟩ (c_X10_refuse l dC dI h0 tp 0 nw sp rd la tr ti 0 ch td gr 0 0 5 s.heap.size) (cwV 1 hts c_X10_ran_zg_1 rfl rfl rfl (by decide +kernel) ⟨(Nat.le_of_ble_eq_true rfl), (Nat.le_of_ble_eq_true rfl)⟩) ⟨z_blind, va_recv hKc hPc (ci := 10) (q0 := 0) rfl rfl, z_pre hPc hKc hDc hN⟩ rfl rfl hl.1 rfl (lv_room (Nat.le_of_ble_eq_true rfl)) dX10_ran_9 ⟨(Nat.le_of_ble_eq_true rfl), (Nat.le_of_ble_eq_true rfl)⟩) hS (fun q _ h => hFc q h) hFc (fun r_2 u t H1 locs ht hvm hw hB hz1 hk1 hS => ?_)
  obtain ⟨hP1, hK1, hD1⟩ := hB
  rw [ht] at hP1
  have hK1 := va_K.moved hvm.symm hK1
  obtain ⟨hP, hD⟩ := va_join (wr := []) (w1 := []) hP hD [0] [] rfl rfl (by decide) (by decide) hk1 hFc hP1 hD1
  have hK := (hK.sub (tys' := []) [] rfl).app hK1
  generalize H1 = H at hP hS ⊢
  have hP : va_P (dC, dI) z_Cl [] H := hP
  have hD : va_D A [] := hD
  have hK : va_K (dC, dI) z_Cl [] s := hK
  have hw : r_2 = (-1) := hw
  subst hw
  have hP9 := hP.sub (ws' := []) [] rfl
  have hD9 := hD.sub (ws' := []) [] (by decide) rfl
  have hK9 := hK.sub (tys' := []) [] rfl
  refine W.widen (k := 0) (n := 0) (Nat.le_of_ble_eq_true rfl) (Nat.le_of_ble_eq_true rfl) ?_
  exact W.iret (v := (-1)) hx hb hr (fun t ht hW => ⟨⟨(-1), (), rfl, rfl, by rw [ht]; exact hP9, va_K.moved hW.alike hK9, hD9⟩, hS.F ht⟩) hS.2.2 dX10_ran_12

def z_wX10_covered : List Cond := .code yX10_covered cX10_covered 2 (some .int) :: ([.fieldLink RX10 171 "LessonMaker" "hasRun" "Z"] ++ (u_ws RX10 TX10 14))
set_option maxHeartbeats 4000000 in
set_option maxRecDepth 100000 in
theorem c_X10_covered (l : Launch) (dC : Nat → ClassId) (dI : Nat → Nat → Nat) (h0 : Nat) (tp : Nat) (nw : Nat) (sp : Nat) (rd : Nat) (la : Nat) (tr : Nat) (ti : Nat) (ch : Nat) (td : Nat) (gr : Nat) (p1 : Int32) (sz : Nat) : Met l yX10_covered z_wX10_covered ({ frames := 0, cells := 0, slots := 0, locals := 0 }) (va_Pc [.ref h0, .int p1] (z_in dC dI [(h0, .inr (10, [.ref tp, .int 0, .ref nw, .ref sp, .ref rd, .ref la, .ref tr, .ref ti, .int 0, .ref ch, .ref td, .ref gr, .int 0, .int 0]))] [] sz)) (va_Qi (fun (r : Int32) (_ : Unit) => r = (-1)) (fun (_ : Unit) t => z_out dC dI (va_A [(h0, .inr (10, [.ref tp, .int 0, .ref nw, .ref sp, .ref rd, .ref la, .ref tr, .ref ti, .int 0, .ref ch, .ref td, .ref gr, .int 0, .int 0]))] sz) [] [] t) (va_A [(h0, .inr (10, [.ref tp, .int 0, .ref nw, .ref sp, .ref rd, .ref la, .ref tr, .ref ti, .int 0, .ref ch, .ref td, .ref gr, .int 0, .int 0]))] sz)) 0 0 (va_A [(h0, .inr (10, [.ref tp, .int 0, .ref nw, .ref sp, .ref rd, .ref la, .ref tr, .ref ti, .int 0, .ref ch, .ref td, .ref gr, .int 0, .int 0]))] sz) := by
  refine Met.ofW (cc := cX10_covered) (maxL := 2) (ret := (some .int)) (by decide) rfl ?_
  intro p e s m args below meth c s₁ B hml hv
  obtain ⟨rfl, hsz, hP, hK, hD0, hN⟩ := hv
  have hx := B.exec
  have hb := B.bytes
  have hr := B.returns
  have hts := atoms_spec (ws := z_wX10_covered) B.pre
  have hown : s.vm.findClass RX10 = some m.cls := findClass_of_methodNamed B.named
  have hlocks := B.notSynchronized
  have hin_10 : ∀ w ∈ u_ws RX10 TX10 14, w ∈ z_wX10_covered := by decide +kernel
  subst hsz
  have hD := hD0.self (sz := s.heap.size)
  generalize hAe : va_A [(h0, .inr (10, [.ref tp, .int 0, .ref nw, .ref sp, .ref rd, .ref la, .ref tr, .ref ti, .int 0, .ref ch, .ref td, .ref gr, .int 0, .int 0]))] s.heap.size = A at hD ⊢
  have hA : ∀ q : Nat, s.heap.size ≤ q → A q := fun q h => by rw [← hAe]; exact Or.inr h
  have hS : va_S A s.heap s.heap [] := va_S.rf
  have hP : va_P (dC, dI) z_Cl [(h0, .inr (10, [.ref tp, .int 0, .ref nw, .ref sp, .ref rd, .ref la, .ref tr, .ref ti, .int 0, .ref ch, .ref td, .ref gr, .int 0, .int 0]))] s.heap := hP
  have hl := lv_entry ([.ref h0, .int p1]) (n := 2) (Nat.le_of_ble_eq_true rfl)
  rw [lg_entry_eq]
  generalize (lg_sl ([.ref h0, .int p1]) ++ List.replicate (2 - (lg_sl ([.ref h0, .int p1])).length) Slot.unset).toArray = ls at hl ⊢
  have hl : lv_has ls 2 [(0, .ref h0), (1, .int p1)] := hl
  refine lv_aload_n hx hb dX10_covered_0 rfl (lv_at hl 0 rfl) ?_
  refine va_get (D := (dC, dI)) (ci := 10) (v := .int 0) (C := RX10) (T := TX10) (N := 14) hx hb hts hin_10 hown hK hP 0 rfl rfl 8 (by decide) (hts (.fieldLink RX10 171 "LessonMaker" "hasRun" "Z") (List.mem_of_getElem? (i := 1) rfl)) (fun _ h9 => h9) rfl dX10_covered_1 ?_
  refine lv_if_eq (tgt := 18) hx hb dX10_covered_4 (by decide) (fun _ => ?_) (fun h9 => absurd (by decide) h9)
  refine lv_iconst (v := (-1)) hx hb dX10_covered_18 (by decide) ?_
  have hP9 := hP.sub (ws' := []) [] rfl
  have hD9 := hD.sub (ws' := []) [] (by decide) rfl
  have hK9 := hK.sub (tys' := []) [] rfl
  refine W.widen (k := 0) (n := 0) (Nat.le_of_ble_eq_true rfl) (Nat.le_of_ble_eq_true rfl) ?_
  exact W.iret (v := (-1)) hx hb hr (fun t ht hW => ⟨⟨(-1), (), rfl, rfl, by rw [ht]; exact hP9, va_K.moved hW.alike hK9, hD9⟩, hS.F ht⟩) hS.2.2 dX10_covered_19

def z_wX10_place : List Cond := .code yX10_place cX10_place 2 (some .int) :: ([.fieldLink RX10 171 "LessonMaker" "hasRun" "Z", .fieldLink RX10 92 "LessonMaker" "latestTrouble" "I", .methodLink RX10 68 yX10_refuse, .instanceMethod yX10_refuse, .selects RX10 yX10_refuse yX10_refuse, .initialized RX10, .code yX10_refuse cX10_refuse 2 (some .int)] ++ (u_ws RX10 TX10 14))
set_option maxRecDepth 20000 in
theorem c_X10_place_zg_1 : GoodIn z_wX10_place (wsV RX10 68 RX10 yX10_refuse z_wX10_refuse) := goodIn_r _ [3, 4, 5, 6, 7, 2, 8, 9, 10, 11, 12, 13, 14, 15, 16, 17, 18, 19, 20, 21] (by decide +kernel) (by decide +kernel)
set_option maxHeartbeats 4000000 in
set_option maxRecDepth 100000 in
theorem c_X10_place (l : Launch) (dC : Nat → ClassId) (dI : Nat → Nat → Nat) (h0 : Nat) (tp : Nat) (nw : Nat) (sp : Nat) (rd : Nat) (la : Nat) (tr : Nat) (ti : Nat) (ch : Nat) (td : Nat) (gr : Nat) (p1 : Int32) (sz : Nat) : Met l yX10_place z_wX10_place ({ frames := 1, cells := 0, slots := 0, locals := 21 }) (va_Pc [.ref h0, .int p1] (z_in dC dI [(h0, .inr (10, [.ref tp, .int 0, .ref nw, .ref sp, .ref rd, .ref la, .ref tr, .ref ti, .int 0, .ref ch, .ref td, .ref gr, .int 0, .int 0]))] [] sz)) (va_Qi (fun (r : Int32) (_ : Unit) => r = (-1)) (fun (_ : Unit) t => z_out dC dI (va_A [(h0, .inr (10, [.ref tp, .int 0, .ref nw, .ref sp, .ref rd, .ref la, .ref tr, .ref ti, .int 0, .ref ch, .ref td, .ref gr, .int 0, .int 0]))] sz) [] [] t) (va_A [(h0, .inr (10, [.ref tp, .int 0, .ref nw, .ref sp, .ref rd, .ref la, .ref tr, .ref ti, .int 0, .ref ch, .ref td, .ref gr, .int 0, .int 0]))] sz)) 0 0 (va_A [(h0, .inr (10, [.ref tp, .int 0, .ref nw, .ref sp, .ref rd, .ref la, .ref tr, .ref ti, .int 0, .ref ch, .ref td, .ref gr, .int 0, .int 0]))] sz) := by
  refine Met.ofW (cc := cX10_place) (maxL := 2) (ret := (some .int)) (by decide) rfl ?_
  intro p e s m args below meth c s₁ B hml hv
  obtain ⟨rfl, hsz, hP, hK, hD0, hN⟩ := hv
  have hx := B.exec
  have hb := B.bytes
  have hr := B.returns
  have hts := atoms_spec (ws := z_wX10_place) B.pre
  have hown : s.vm.findClass RX10 = some m.cls := findClass_of_methodNamed B.named
  have hlocks := B.notSynchronized
  have hin_10 : ∀ w ∈ u_ws RX10 TX10 14, w ∈ z_wX10_place := by decide +kernel
  subst hsz
  have hD := hD0.self (sz := s.heap.size)
  generalize hAe : va_A [(h0, .inr (10, [.ref tp, .int 0, .ref nw, .ref sp, .ref rd, .ref la, .ref tr, .ref ti, .int 0, .ref ch, .ref td, .ref gr, .int 0, .int 0]))] s.heap.size = A at hD ⊢
  have hA : ∀ q : Nat, s.heap.size ≤ q → A q := fun q h => by rw [← hAe]; exact Or.inr h
  have hS : va_S A s.heap s.heap [] := va_S.rf
  have hP : va_P (dC, dI) z_Cl [(h0, .inr (10, [.ref tp, .int 0, .ref nw, .ref sp, .ref rd, .ref la, .ref tr, .ref ti, .int 0, .ref ch, .ref td, .ref gr, .int 0, .int 0]))] s.heap := hP
  have hl := lv_entry ([.ref h0, .int p1]) (n := 2) (Nat.le_of_ble_eq_true rfl)
  rw [lg_entry_eq]
  generalize (lg_sl ([.ref h0, .int p1]) ++ List.replicate (2 - (lg_sl ([.ref h0, .int p1])).length) Slot.unset).toArray = ls at hl ⊢
  have hl : lv_has ls 2 [(0, .ref h0), (1, .int p1)] := hl
  refine lv_aload_n hx hb dX10_place_0 rfl (lv_at hl 0 rfl) ?_
  refine va_get (D := (dC, dI)) (ci := 10) (v := .int 0) (C := RX10) (T := TX10) (N := 14) hx hb hts hin_10 hown hK hP 0 rfl rfl 8 (by decide) (hts (.fieldLink RX10 171 "LessonMaker" "hasRun" "Z") (List.mem_of_getElem? (i := 1) rfl)) (fun _ h9 => h9) rfl dX10_place_1 ?_
  refine lv_if_ne (tgt := 13) hx hb dX10_place_4 (by decide) (fun h9 => absurd (by decide) h9) (fun _ => ?_)
  refine lv_aload_n hx hb dX10_place_7 rfl (lv_at hl 0 rfl) ?_
  refine lv_iconst (v := 5) hx hb dX10_place_8 (by decide) ?_
  have hPc := hP.sub (ws' := [(h0, .inr (10, [.ref tp, .int 0, .ref nw, .ref sp, .ref rd, .ref la, .ref tr, .ref ti, .int 0, .ref ch, .ref td, .ref gr, .int 0, .int 0]))]) [0] rfl
  have hDc := hD.sub (ws' := [(h0, .inr (10, [.ref tp, .int 0, .ref nw, .ref sp, .ref rd, .ref la, .ref tr, .ref ti, .int 0, .ref ch, .ref td, .ref gr, .int 0, .int 0]))]) [0] (by decide) rfl
  have hKc := hK.sub (tys' := []) [] rfl
  have hFc := va_free (wc := [(h0, .inr (10, [.ref tp, .int 0, .ref nw, .ref sp, .ref rd, .ref la, .ref tr, .ref ti, .int 0, .ref ch, .ref td, .ref gr, .int 0, .int 0]))]) hD hS hA [0] rfl
  refine va_calli (va_runV (As := [.int 5]) (rest := []) ⟨hx, hb, hml, hown, hts⟩ (c_X10_refuse l dC dI h0 tp 0 nw sp rd la tr ti 0 ch td gr 0 0 5 s.heap.size) (cwV 1 hts c_X10_place_zg_1 rfl rfl rfl (by decide +kernel) ⟨(Nat.le_of_ble_eq_true rfl), (Nat.le_of_ble_eq_true rfl)⟩) ⟨z_blind, va_recv hKc hPc (ci := 10) (q0 := 0) rfl rfl, z_pre hPc hKc hDc hN⟩ rfl rfl hl.1 rfl (lv_room (Nat.le_of_ble_eq_true rfl)) dX10_place_9 ⟨(Nat.le_of_ble_eq_true rfl), (Nat.le_of_ble_eq_true rfl)⟩) hS (fun q _ h => hFc q h) hFc (fun r_2 u t H1 locs ht hvm hw hB hz1 hk1 hS => ?_)
  obtain ⟨hP1, hK1, hD1⟩ := hB
  rw [ht] at hP1
  have hK1 := va_K.moved hvm.symm hK1
  obtain ⟨hP, hD⟩ := va_join (wr := []) (w1 := []) hP hD [0] [] rfl rfl (by decide) (by decide) hk1 hFc hP1 hD1
  have hK := (hK.sub (tys' := []) [] rfl).app hK1
  generalize H1 = H at hP hS ⊢
  have hP : va_P (dC, dI) z_Cl [] H := hP
  have hD : va_D A [] := hD
  have hK : va_K (dC, dI) z_Cl [] s := hK
  have hw : r_2 = (-1) := hw
  subst hw
  have hP9 := hP.sub (ws' := []) [] rfl
  have hD9 := hD.sub (ws' := []) [] (by decide) rfl
  have hK9 := hK.sub (tys' := []) [] rfl
  refine W.widen (k := 0) (n := 0) (Nat.le_of_ble_eq_true rfl) (Nat.le_of_ble_eq_true rfl) ?_
  exact W.iret (v := (-1)) hx hb hr (fun t ht hW => ⟨⟨(-1), (), rfl, rfl, by rw [ht]; exact hP9, va_K.moved hW.alike hK9, hD9⟩, hS.F ht⟩) hS.2.2 dX10_place_12

def z_wX10_wrong : List Cond := .code yX10_wrong cX10_wrong 6 (some .int) :: ([.fieldLink RX10 16 "LessonMaker" "now" "LLessonMaker$Program;", .fieldLink RX6 39 "LessonMaker$Program" "functionCount" "I", .methodLink RX10 98 yX6_hasFunction, .instanceMethod yX6_hasFunction, .selects RX6 yX6_hasFunction yX6_hasFunction, .initialized RX6, .code yX6_hasFunction cX6_hasFunction 2 (some .boolean), .fieldLink RX10 92 "LessonMaker" "latestTrouble" "I", .methodLink RX10 68 yX10_refuse, .instanceMethod yX10_refuse, .selects RX10 yX10_refuse yX10_refuse, .initialized RX10, .code yX10_refuse cX10_refuse 2 (some .int)] ++ (u_ws RX6 TX6 6 ++ u_ws RX10 TX10 14))
set_option maxRecDepth 20000 in
theorem c_X10_wrong_zg_1 : GoodIn z_wX10_wrong (wsV RX10 98 RX6 yX6_hasFunction z_wX6_hasFunction) := goodIn_r _ [3, 4, 5, 6, 7, 2, 14, 15, 16, 17, 18, 19] (by decide +kernel) (by decide +kernel)
set_option maxRecDepth 20000 in
theorem c_X10_wrong_zg_3 : GoodIn z_wX10_wrong (wsV RX10 68 RX10 yX10_refuse z_wX10_refuse) := goodIn_r _ [9, 10, 11, 12, 13, 8, 20, 21, 22, 23, 24, 25, 26, 27, 28, 29, 30, 31, 32, 33] (by decide +kernel) (by decide +kernel)
set_option maxHeartbeats 4000000 in
set_option maxRecDepth 100000 in
theorem c_X10_wrong (l : Launch) (dC : Nat → ClassId) (dI : Nat → Nat → Nat) (h0 : Nat) (tp : Nat) (nw : Nat) (sp : Nat) (rd : Nat) (la : Nat) (tr : Nat) (ti : Nat) (ch : Nat) (td : Nat) (gr : Nat) (n1 : Nat) (n2 : Nat) (n3 : Nat) (n4 : Nat) (p1 : Int32) (p2 : Int32) (p3 : Int32) (p4 : Int32) (p5 : Int32) (sz : Nat) : Met l yX10_wrong z_wX10_wrong ({ frames := 1, cells := 0, slots := 0, locals := 21 }) (va_Pc [.ref h0, .int p1, .int p2, .int p3, .int p4, .int p5] (z_in dC dI [(h0, .inr (10, [.ref tp, .int 0, .ref nw, .ref sp, .ref rd, .ref la, .ref tr, .ref ti, .int 0, .ref ch, .ref td, .ref gr, .int 0, .int 0])), (nw, .inr (6, [.ref n1, .ref n2, .ref n3, .ref n4, .int 0, .int 0]))] [] sz)) (va_Qi (fun (r : Int32) (_ : Unit) => r = (-1)) (fun (_ : Unit) t => z_out dC dI (va_A [(h0, .inr (10, [.ref tp, .int 0, .ref nw, .ref sp, .ref rd, .ref la, .ref tr, .ref ti, .int 0, .ref ch, .ref td, .ref gr, .int 0, .int 0])), (nw, .inr (6, [.ref n1, .ref n2, .ref n3, .ref n4, .int 0, .int 0]))] sz) [] [] t) (va_A [(h0, .inr (10, [.ref tp, .int 0, .ref nw, .ref sp, .ref rd, .ref la, .ref tr, .ref ti, .int 0, .ref ch, .ref td, .ref gr, .int 0, .int 0])), (nw, .inr (6, [.ref n1, .ref n2, .ref n3, .ref n4, .int 0, .int 0]))] sz)) 0 0 (va_A [(h0, .inr (10, [.ref tp, .int 0, .ref nw, .ref sp, .ref rd, .ref la, .ref tr, .ref ti, .int 0, .ref ch, .ref td, .ref gr, .int 0, .int 0])), (nw, .inr (6, [.ref n1, .ref n2, .ref n3, .ref n4, .int 0, .int 0]))] sz) := by
  refine Met.ofW (cc := cX10_wrong) (maxL := 6) (ret := (some .int)) (by decide) rfl ?_
  intro p e s m args below meth c s₁ B hml hv
  obtain ⟨rfl, hsz, hP, hK, hD0, hN⟩ := hv
  have hx := B.exec
  have hb := B.bytes
  have hr := B.returns
  have hts := atoms_spec (ws := z_wX10_wrong) B.pre
  have hown : s.vm.findClass RX10 = some m.cls := findClass_of_methodNamed B.named
  have hlocks := B.notSynchronized
  have hin_10 : ∀ w ∈ u_ws RX10 TX10 14, w ∈ z_wX10_wrong := by decide +kernel
  subst hsz
  have hD := hD0.self (sz := s.heap.size)
  generalize hAe : va_A [(h0, .inr (10, [.ref tp, .int 0, .ref nw, .ref sp, .ref rd, .ref la, .ref tr, .ref ti, .int 0, .ref ch, .ref td, .ref gr, .int 0, .int 0])), (nw, .inr (6, [.ref n1, .ref n2, .ref n3, .ref n4, .int 0, .int 0]))] s.heap.size = A at hD ⊢
  have hA : ∀ q : Nat, s.heap.size ≤ q → A q := fun q h => by rw [← hAe]; exact Or.inr h
  have hS : va_S A s.heap s.heap [] := va_S.rf
  have hP : va_P (dC, dI) z_Cl [(h0, .inr (10, [.ref tp, .int 0, .ref nw, .ref sp, .ref rd, .ref la, .ref tr, .ref ti, .int 0, .ref ch, .ref td, .ref gr, .int 0, .int 0])), (nw, .inr (6, [.ref n1, .ref n2, .ref n3, .ref n4, .int 0, .int 0]))] s.heap := hP
  have hl := lv_entry ([.ref h0, .int p1, .int p2, .int p3, .int p4, .int p5]) (n := 6) (Nat.le_of_ble_eq_true rfl)
  rw [lg_entry_eq]
  generalize (lg_sl ([.ref h0, .int p1, .int p2, .int p3, .int p4, .int p5]) ++ List.replicate (6 - (lg_sl ([.ref h0, .int p1, .int p2, .int p3, .int p4, .int p5])).length) Slot.unset).toArray = ls at hl ⊢
  have hl : lv_has ls 6 [(0, .ref h0), (1, .int p1), (2, .int p2), (3, .int p3), (4, .int p4), (5, .int p5)] := hl
  refine lv_aload_n hx hb dX10_wrong_0 rfl (lv_at hl 0 rfl) ?_
  refine va_get (D := (dC, dI)) (ci := 10) (v := .ref nw) (C := RX10) (T := TX10) (N := 14) hx hb hts hin_10 hown hK hP 0 rfl rfl 2 (by decide) (hts (.fieldLink RX10 16 "LessonMaker" "now" "LLessonMaker$Program;") (List.mem_of_getElem? (i := 1) rfl)) (fun _ h9 => h9) rfl dX10_wrong_1 ?_
  refine lv_iload_n hx hb dX10_wrong_4 rfl (lv_at hl 2 rfl) ?_
  have hPc := hP.sub (ws' := [(nw, .inr (6, [.ref n1, .ref n2, .ref n3, .ref n4, .int 0, .int 0]))]) [1] rfl
  have hDc := hD.sub (ws' := [(nw, .inr (6, [.ref n1, .ref n2, .ref n3, .ref n4, .int 0, .int 0]))]) [1] (by decide) rfl
  have hKc := hK.sub (tys' := []) [] rfl
  have hFc := va_free (wc := [(nw, .inr (6, [.ref n1, .ref n2, .ref n3, .ref n4, .int 0, .int 0]))]) hD hS hA [1] rfl
  refine va_calli (va_runV (As := [.int p2]) (rest := []) ⟨hx, hb, hml, hown, hts⟩ (c_X6_hasFunction l dC dI nw n1 n2 n3 n4 p2 s.heap.size) (cwV 1 hts c_X10_wrong_zg_1 rfl rfl rfl (by decide +kernel) ⟨(Nat.le_of_ble_eq_true rfl), (Nat.le_of_ble_eq_true rfl)⟩) ⟨z_blind, va_recv hKc hPc (ci := 6) (q0 := 0) rfl rfl, z_pre hPc hKc hDc hN⟩ rfl rfl hl.1 rfl (lv_room (Nat.le_of_ble_eq_true rfl)) dX10_wrong_5 ⟨(Nat.le_of_ble_eq_true rfl), (Nat.le_of_ble_eq_true rfl)⟩) hS (fun q _ h => hFc q h) hFc (fun r_2 u t H1 locs ht hvm hw hB hz1 hk1 hS => ?_)
  obtain ⟨hP1, hK1, hD1⟩ := hB
  rw [ht] at hP1
  have hK1 := va_K.moved hvm.symm hK1
  obtain ⟨hP, hD⟩ := va_join (wr := [(h0, .inr (10, [.ref tp, .int 0, .ref nw, .ref sp, .ref rd, .ref la, .ref tr, .ref ti, .int 0, .ref ch, .ref td, .ref gr, .int 0, .int 0]))]) (w1 := []) hP hD [1] [0] rfl rfl (by decide) (by decide) hk1 hFc hP1 hD1
  have hK := (hK.sub (tys' := []) [] rfl).app hK1
  generalize H1 = H at hP hS ⊢
  have hP : va_P (dC, dI) z_Cl [(h0, .inr (10, [.ref tp, .int 0, .ref nw, .ref sp, .ref rd, .ref la, .ref tr, .ref ti, .int 0, .ref ch, .ref td, .ref gr, .int 0, .int 0]))] H := hP
  have hD : va_D A [(h0, .inr (10, [.ref tp, .int 0, .ref nw, .ref sp, .ref rd, .ref la, .ref tr, .ref ti, .int 0, .ref ch, .ref td, .ref gr, .int 0, .int 0]))] := hD
  have hK : va_K (dC, dI) z_Cl [] s := hK
  have hw : r_2 = 0 := hw
  subst hw
  refine lv_if_ne (tgt := 17) hx hb dX10_wrong_8 (by decide) (fun h9 => absurd (by decide) h9) (fun _ => ?_)
  refine lv_aload_n hx hb dX10_wrong_11 rfl (lv_at hl 0 rfl) ?_
  refine lv_iconst (v := 1) hx hb dX10_wrong_12 (by decide) ?_
  have hPc := hP.sub (ws' := [(h0, .inr (10, [.ref tp, .int 0, .ref nw, .ref sp, .ref rd, .ref la, .ref tr, .ref ti, .int 0, .ref ch, .ref td, .ref gr, .int 0, .int 0]))]) [0] rfl
  have hDc := hD.sub (ws' := [(h0, .inr (10, [.ref tp, .int 0, .ref nw, .ref sp, .ref rd, .ref la, .ref tr, .ref ti, .int 0, .ref ch, .ref td, .ref gr, .int 0, .int 0]))]) [0] (by decide) rfl
  have hKc := hK.sub (tys' := []) [] rfl
  have hFc := va_free (wc := [(h0, .inr (10, [.ref tp, .int 0, .ref nw, .ref sp, .ref rd, .ref la, .ref tr, .ref ti, .int 0, .ref ch, .ref td, .ref gr, .int 0, .int 0]))]) hD hS hA [0] rfl
  refine va_calli (va_runV (As := [.int 1]) (rest := []) ⟨hx, hb, hml, hown, hts⟩ (c_X10_refuse l dC dI h0 tp 0 nw sp rd la tr ti 0 ch td gr 0 0 1 H.size) (cwV 1 hts c_X10_wrong_zg_3 rfl rfl rfl (by decide +kernel) ⟨(Nat.le_of_ble_eq_true rfl), (Nat.le_of_ble_eq_true rfl)⟩) ⟨z_blind, va_recv hKc hPc (ci := 10) (q0 := 0) rfl rfl, z_pre hPc hKc hDc hN⟩ rfl rfl hl.1 rfl (lv_room (Nat.le_of_ble_eq_true rfl)) dX10_wrong_13 ⟨(Nat.le_of_ble_eq_true rfl), (Nat.le_of_ble_eq_true rfl)⟩) hS (fun q _ h => hFc q h) hFc (fun r_4 u t H1 locs ht hvm hw hB hz1 hk1 hS => ?_)
  obtain ⟨hP1, hK1, hD1⟩ := hB
  rw [ht] at hP1
  have hK1 := va_K.moved hvm.symm hK1
  obtain ⟨hP, hD⟩ := va_join (wr := []) (w1 := []) hP hD [0] [] rfl rfl (by decide) (by decide) hk1 hFc hP1 hD1
  have hK := (hK.sub (tys' := []) [] rfl).app hK1
  generalize H1 = H at hP hS ⊢
  have hP : va_P (dC, dI) z_Cl [] H := hP
  have hD : va_D A [] := hD
  have hK : va_K (dC, dI) z_Cl [] s := hK
  have hw : r_4 = (-1) := hw
  subst hw
  have hP9 := hP.sub (ws' := []) [] rfl
  have hD9 := hD.sub (ws' := []) [] (by decide) rfl
  have hK9 := hK.sub (tys' := []) [] rfl
  refine W.widen (k := 0) (n := 0) (Nat.le_of_ble_eq_true rfl) (Nat.le_of_ble_eq_true rfl) ?_
  exact W.iret (v := (-1)) hx hb hr (fun t ht hW => ⟨⟨(-1), (), rfl, rfl, by rw [ht]; exact hP9, va_K.moved hW.alike hK9, hD9⟩, hS.F ht⟩) hS.2.2 dX10_wrong_16

def z_wX10_unlike : List Cond := .code yX10_unlike cX10_unlike 7 (some .int) :: ([.fieldLink RX10 16 "LessonMaker" "now" "LLessonMaker$Program;", .fieldLink RX6 39 "LessonMaker$Program" "functionCount" "I", .methodLink RX10 98 yX6_hasFunction, .instanceMethod yX6_hasFunction, .selects RX6 yX6_hasFunction yX6_hasFunction, .initialized RX6, .code yX6_hasFunction cX6_hasFunction 2 (some .boolean), .fieldLink RX10 92 "LessonMaker" "latestTrouble" "I", .methodLink RX10 68 yX10_refuse, .instanceMethod yX10_refuse, .selects RX10 yX10_refuse yX10_refuse, .initialized RX10, .code yX10_refuse cX10_refuse 2 (some .int)] ++ (u_ws RX6 TX6 6 ++ u_ws RX10 TX10 14))
set_option maxRecDepth 20000 in
theorem c_X10_unlike_zg_1 : GoodIn z_wX10_unlike (wsV RX10 98 RX6 yX6_hasFunction z_wX6_hasFunction) := goodIn_r _ [3, 4, 5, 6, 7, 2, 14, 15, 16, 17, 18, 19] (by decide +kernel) (by decide +kernel)
set_option maxRecDepth 20000 in
theorem c_X10_unlike_zg_3 : GoodIn z_wX10_unlike (wsV RX10 68 RX10 yX10_refuse z_wX10_refuse) := goodIn_r _ [9, 10, 11, 12, 13, 8, 20, 21, 22, 23, 24, 25, 26, 27, 28, 29, 30, 31, 32, 33] (by decide +kernel) (by decide +kernel)
set_option maxHeartbeats 4000000 in
set_option maxRecDepth 100000 in
theorem c_X10_unlike (l : Launch) (dC : Nat → ClassId) (dI : Nat → Nat → Nat) (h0 : Nat) (tp : Nat) (nw : Nat) (sp : Nat) (rd : Nat) (la : Nat) (tr : Nat) (ti : Nat) (ch : Nat) (td : Nat) (gr : Nat) (n1 : Nat) (n2 : Nat) (n3 : Nat) (n4 : Nat) (p1 : Int32) (p2 : Int32) (p3 : Int32) (p4 : Int32) (sz : Nat) : Met l yX10_unlike z_wX10_unlike ({ frames := 1, cells := 0, slots := 0, locals := 21 }) (va_Pc [.ref h0, .int p1, .int p2, .int p3, .int p4] (z_in dC dI [(h0, .inr (10, [.ref tp, .int 0, .ref nw, .ref sp, .ref rd, .ref la, .ref tr, .ref ti, .int 0, .ref ch, .ref td, .ref gr, .int 0, .int 0])), (nw, .inr (6, [.ref n1, .ref n2, .ref n3, .ref n4, .int 0, .int 0]))] [] sz)) (va_Qi (fun (r : Int32) (_ : Unit) => r = (-1)) (fun (_ : Unit) t => z_out dC dI (va_A [(h0, .inr (10, [.ref tp, .int 0, .ref nw, .ref sp, .ref rd, .ref la, .ref tr, .ref ti, .int 0, .ref ch, .ref td, .ref gr, .int 0, .int 0])), (nw, .inr (6, [.ref n1, .ref n2, .ref n3, .ref n4, .int 0, .int 0]))] sz) [] [] t) (va_A [(h0, .inr (10, [.ref tp, .int 0, .ref nw, .ref sp, .ref rd, .ref la, .ref tr, .ref ti, .int 0, .ref ch, .ref td, .ref gr, .int 0, .int 0])), (nw, .inr (6, [.ref n1, .ref n2, .ref n3, .ref n4, .int 0, .int 0]))] sz)) 0 0 (va_A [(h0, .inr (10, [.ref tp, .int 0, .ref nw, .ref sp, .ref rd, .ref la, .ref tr, .ref ti, .int 0, .ref ch, .ref td, .ref gr, .int 0, .int 0])), (nw, .inr (6, [.ref n1, .ref n2, .ref n3, .ref n4, .int 0, .int 0]))] sz) := by
  refine Met.ofW (cc := cX10_unlike) (maxL := 7) (ret := (some .int)) (by decide) rfl ?_
  intro p e s m args below meth c s₁ B hml hv
  obtain ⟨rfl, hsz, hP, hK, hD0, hN⟩ := hv
  have hx := B.exec
  have hb := B.bytes
  have hr := B.returns
  have hts := atoms_spec (ws := z_wX10_unlike) B.pre
  have hown : s.vm.findClass RX10 = some m.cls := findClass_of_methodNamed B.named
  have hlocks := B.notSynchronized
  have hin_10 : ∀ w ∈ u_ws RX10 TX10 14, w ∈ z_wX10_unlike := by decide +kernel
  subst hsz
  have hD := hD0.self (sz := s.heap.size)
  generalize hAe : va_A [(h0, .inr (10, [.ref tp, .int 0, .ref nw, .ref sp, .ref rd, .ref la, .ref tr, .ref ti, .int 0, .ref ch, .ref td, .ref gr, .int 0, .int 0])), (nw, .inr (6, [.ref n1, .ref n2, .ref n3, .ref n4, .int 0, .int 0]))] s.heap.size = A at hD ⊢
  have hA : ∀ q : Nat, s.heap.size ≤ q → A q := fun q h => by rw [← hAe]; exact Or.inr h
  have hS : va_S A s.heap s.heap [] := va_S.rf
  have hP : va_P (dC, dI) z_Cl [(h0, .inr (10, [.ref tp, .int 0, .ref nw, .ref sp, .ref rd, .ref la, .ref tr, .ref ti, .int 0, .ref ch, .ref td, .ref gr, .int 0, .int 0])), (nw, .inr (6, [.ref n1, .ref n2, .ref n3, .ref n4, .int 0, .int 0]))] s.heap := hP
  have hl := lv_entry ([.ref h0, .int p1, .int p2, .int p3, .int p4]) (n := 7) (Nat.le_of_ble_eq_true rfl)
  rw [lg_entry_eq]
  generalize (lg_sl ([.ref h0, .int p1, .int p2, .int p3, .int p4]) ++ List.replicate (7 - (lg_sl ([.ref h0, .int p1, .int p2, .int p3, .int p4])).length) Slot.unset).toArray = ls at hl ⊢
  have hl : lv_has ls 7 [(0, .ref h0), (1, .int p1), (2, .int p2), (3, .int p3), (4, .int p4)] := hl
  refine lv_aload_n hx hb dX10_unlike_0 rfl (lv_at hl 0 rfl) ?_
  refine va_get (D := (dC, dI)) (ci := 10) (v := .ref nw) (C := RX10) (T := TX10) (N := 14) hx hb hts hin_10 hown hK hP 0 rfl rfl 2 (by decide) (hts (.fieldLink RX10 16 "LessonMaker" "now" "LLessonMaker$Program;") (List.mem_of_getElem? (i := 1) rfl)) (fun _ h9 => h9) rfl dX10_unlike_1 ?_
  refine lv_iload_n hx hb dX10_unlike_4 rfl (lv_at hl 1 rfl) ?_
  have hPc := hP.sub (ws' := [(nw, .inr (6, [.ref n1, .ref n2, .ref n3, .ref n4, .int 0, .int 0]))]) [1] rfl
  have hDc := hD.sub (ws' := [(nw, .inr (6, [.ref n1, .ref n2, .ref n3, .ref n4, .int 0, .int 0]))]) [1] (by decide) rfl
  have hKc := hK.sub (tys' := []) [] rfl
  have hFc := va_free (wc := [(nw, .inr (6, [.ref n1, .ref n2, .ref n3, .ref n4, .int 0, .int 0]))]) hD hS hA [1] rfl
  refine va_calli (va_runV (As := [.int p1]) (rest := []) ⟨hx, hb, hml, hown, hts⟩ (c_X6_hasFunction l dC dI nw n1 n2 n3 n4 p1 s.heap.size) (cwV 1 hts c_X10_unlike_zg_1 rfl rfl rfl (by decide +kernel) ⟨(Nat.le_of_ble_eq_true rfl), (Nat.le_of_ble_eq_true rfl)⟩) ⟨z_blind, va_recv hKc hPc (ci := 6) (q0 := 0) rfl rfl, z_pre hPc hKc hDc hN⟩ rfl rfl hl.1 rfl (lv_room (Nat.le_of_ble_eq_true rfl)) dX10_unlike_5 ⟨(Nat.le_of_ble_eq_true rfl), (Nat.le_of_ble_eq_true rfl)⟩) hS (fun q _ h => hFc q h) hFc (fun r_2 u t H1 locs ht hvm hw hB hz1 hk1 hS => ?_)
  obtain ⟨hP1, hK1, hD1⟩ := hB
  rw [ht] at hP1
  have hK1 := va_K.moved hvm.symm hK1
  obtain ⟨hP, hD⟩ := va_join (wr := [(h0, .inr (10, [.ref tp, .int 0, .ref nw, .ref sp, .ref rd, .ref la, .ref tr, .ref ti, .int 0, .ref ch, .ref td, .ref gr, .int 0, .int 0]))]) (w1 := []) hP hD [1] [0] rfl rfl (by decide) (by decide) hk1 hFc hP1 hD1
  have hK := (hK.sub (tys' := []) [] rfl).app hK1
  generalize H1 = H at hP hS ⊢
  have hP : va_P (dC, dI) z_Cl [(h0, .inr (10, [.ref tp, .int 0, .ref nw, .ref sp, .ref rd, .ref la, .ref tr, .ref ti, .int 0, .ref ch, .ref td, .ref gr, .int 0, .int 0]))] H := hP
  have hD : va_D A [(h0, .inr (10, [.ref tp, .int 0, .ref nw, .ref sp, .ref rd, .ref la, .ref tr, .ref ti, .int 0, .ref ch, .ref td, .ref gr, .int 0, .int 0]))] := hD
  have hK : va_K (dC, dI) z_Cl [] s := hK
  have hw : r_2 = 0 := hw
  subst hw
  refine lv_if_ne (tgt := 17) hx hb dX10_unlike_8 (by decide) (fun h9 => absurd (by decide) h9) (fun _ => ?_)
  refine lv_aload_n hx hb dX10_unlike_11 rfl (lv_at hl 0 rfl) ?_
  refine lv_iconst (v := 1) hx hb dX10_unlike_12 (by decide) ?_
  have hPc := hP.sub (ws' := [(h0, .inr (10, [.ref tp, .int 0, .ref nw, .ref sp, .ref rd, .ref la, .ref tr, .ref ti, .int 0, .ref ch, .ref td, .ref gr, .int 0, .int 0]))]) [0] rfl
  have hDc := hD.sub (ws' := [(h0, .inr (10, [.ref tp, .int 0, .ref nw, .ref sp, .ref rd, .ref la, .ref tr, .ref ti, .int 0, .ref ch, .ref td, .ref gr, .int 0, .int 0]))]) [0] (by decide) rfl
  have hKc := hK.sub (tys' := []) [] rfl
  have hFc := va_free (wc := [(h0, .inr (10, [.ref tp, .int 0, .ref nw, .ref sp, .ref rd, .ref la, .ref tr, .ref ti, .int 0, .ref ch, .ref td, .ref gr, .int 0, .int 0]))]) hD hS hA [0] rfl
  refine va_calli (va_runV (As := [.int 1]) (rest := []) ⟨hx, hb, hml, hown, hts⟩ (c_X10_refuse l dC dI h0 tp 0 nw sp rd la tr ti 0 ch td gr 0 0 1 H.size) (cwV 1 hts c_X10_unlike_zg_3 rfl rfl rfl (by decide +kernel) ⟨(Nat.le_of_ble_eq_true rfl), (Nat.le_of_ble_eq_true rfl)⟩) ⟨z_blind, va_recv hKc hPc (ci := 10) (q0 := 0) rfl rfl, z_pre hPc hKc hDc hN⟩ rfl rfl hl.1 rfl (lv_room (Nat.le_of_ble_eq_true rfl)) dX10_unlike_13 ⟨(Nat.le_of_ble_eq_true rfl), (Nat.le_of_ble_eq_true rfl)⟩) hS (fun q _ h => hFc q h) hFc (fun r_4 u t H1 locs ht hvm hw hB hz1 hk1 hS => ?_)
  obtain ⟨hP1, hK1, hD1⟩ := hB
  rw [ht] at hP1
  have hK1 := va_K.moved hvm.symm hK1
  obtain ⟨hP, hD⟩ := va_join (wr := []) (w1 := []) hP hD [0] [] rfl rfl (by decide) (by decide) hk1 hFc hP1 hD1
  have hK := (hK.sub (tys' := []) [] rfl).app hK1
  generalize H1 = H at hP hS ⊢
  have hP : va_P (dC, dI) z_Cl [] H := hP
  have hD : va_D A [] := hD
  have hK : va_K (dC, dI) z_Cl [] s := hK
  have hw : r_4 = (-1) := hw
  subst hw
  have hP9 := hP.sub (ws' := []) [] rfl
  have hD9 := hD.sub (ws' := []) [] (by decide) rfl
  have hK9 := hK.sub (tys' := []) [] rfl
  refine W.widen (k := 0) (n := 0) (Nat.le_of_ble_eq_true rfl) (Nat.le_of_ble_eq_true rfl) ?_
  exact W.iret (v := (-1)) hx hb hr (fun t ht hW => ⟨⟨(-1), (), rfl, rfl, by rw [ht]; exact hP9, va_K.moved hW.alike hK9, hD9⟩, hS.F ht⟩) hS.2.2 dX10_unlike_16

def z_wX10_order : List Cond := .code yX10_order cX10_order 1 (some .int) :: ([.fieldLink RX10 16 "LessonMaker" "now" "LLessonMaker$Program;", .fieldLink RX10 89 "LessonMaker$Program" "functionCount" "I"] ++ (u_ws RX6 TX6 6 ++ u_ws RX10 TX10 14))
set_option maxHeartbeats 4000000 in
set_option maxRecDepth 100000 in
theorem c_X10_order (l : Launch) (dC : Nat → ClassId) (dI : Nat → Nat → Nat) (h0 : Nat) (tp : Nat) (nw : Nat) (sp : Nat) (rd : Nat) (la : Nat) (tr : Nat) (ti : Nat) (ch : Nat) (td : Nat) (gr : Nat) (n1 : Nat) (n2 : Nat) (n3 : Nat) (n4 : Nat) (sz : Nat) : Met l yX10_order z_wX10_order ({ frames := 0, cells := 0, slots := 0, locals := 0 }) (va_Pc [.ref h0] (z_in dC dI [(h0, .inr (10, [.ref tp, .int 0, .ref nw, .ref sp, .ref rd, .ref la, .ref tr, .ref ti, .int 0, .ref ch, .ref td, .ref gr, .int 0, .int 0])), (nw, .inr (6, [.ref n1, .ref n2, .ref n3, .ref n4, .int 0, .int 0]))] [] sz)) (va_Qi (fun (r : Int32) (_ : Unit) => r = (-2)) (fun (_ : Unit) t => z_out dC dI (va_A [(h0, .inr (10, [.ref tp, .int 0, .ref nw, .ref sp, .ref rd, .ref la, .ref tr, .ref ti, .int 0, .ref ch, .ref td, .ref gr, .int 0, .int 0])), (nw, .inr (6, [.ref n1, .ref n2, .ref n3, .ref n4, .int 0, .int 0]))] sz) [] [] t) (va_A [(h0, .inr (10, [.ref tp, .int 0, .ref nw, .ref sp, .ref rd, .ref la, .ref tr, .ref ti, .int 0, .ref ch, .ref td, .ref gr, .int 0, .int 0])), (nw, .inr (6, [.ref n1, .ref n2, .ref n3, .ref n4, .int 0, .int 0]))] sz)) 0 0 (va_A [(h0, .inr (10, [.ref tp, .int 0, .ref nw, .ref sp, .ref rd, .ref la, .ref tr, .ref ti, .int 0, .ref ch, .ref td, .ref gr, .int 0, .int 0])), (nw, .inr (6, [.ref n1, .ref n2, .ref n3, .ref n4, .int 0, .int 0]))] sz) := by
  refine Met.ofW (cc := cX10_order) (maxL := 1) (ret := (some .int)) (by decide) rfl ?_
  intro p e s m args below meth c s₁ B hml hv
  obtain ⟨rfl, hsz, hP, hK, hD0, hN⟩ := hv
  have hx := B.exec
  have hb := B.bytes
  have hr := B.returns
  have hts := atoms_spec (ws := z_wX10_order) B.pre
  have hown : s.vm.findClass RX10 = some m.cls := findClass_of_methodNamed B.named
  have hlocks := B.notSynchronized
  have hin_6 : ∀ w ∈ u_ws RX6 TX6 6, w ∈ z_wX10_order := by decide +kernel
  have hin_10 : ∀ w ∈ u_ws RX10 TX10 14, w ∈ z_wX10_order := by decide +kernel
  subst hsz
  have hD := hD0.self (sz := s.heap.size)
  generalize hAe : va_A [(h0, .inr (10, [.ref tp, .int 0, .ref nw, .ref sp, .ref rd, .ref la, .ref tr, .ref ti, .int 0, .ref ch, .ref td, .ref gr, .int 0, .int 0])), (nw, .inr (6, [.ref n1, .ref n2, .ref n3, .ref n4, .int 0, .int 0]))] s.heap.size = A at hD ⊢
  have hA : ∀ q : Nat, s.heap.size ≤ q → A q := fun q h => by rw [← hAe]; exact Or.inr h
  have hS : va_S A s.heap s.heap [] := va_S.rf
  have hP : va_P (dC, dI) z_Cl [(h0, .inr (10, [.ref tp, .int 0, .ref nw, .ref sp, .ref rd, .ref la, .ref tr, .ref ti, .int 0, .ref ch, .ref td, .ref gr, .int 0, .int 0])), (nw, .inr (6, [.ref n1, .ref n2, .ref n3, .ref n4, .int 0, .int 0]))] s.heap := hP
  have hl := lv_entry ([.ref h0]) (n := 1) (Nat.le_of_ble_eq_true rfl)
  rw [lg_entry_eq]
  generalize (lg_sl ([.ref h0]) ++ List.replicate (1 - (lg_sl ([.ref h0])).length) Slot.unset).toArray = ls at hl ⊢
  have hl : lv_has ls 1 [(0, .ref h0)] := hl
  refine lv_aload_n hx hb dX10_order_0 rfl (lv_at hl 0 rfl) ?_
  refine va_get (D := (dC, dI)) (ci := 10) (v := .ref nw) (C := RX10) (T := TX10) (N := 14) hx hb hts hin_10 hown hK hP 0 rfl rfl 2 (by decide) (hts (.fieldLink RX10 16 "LessonMaker" "now" "LLessonMaker$Program;") (List.mem_of_getElem? (i := 1) rfl)) (fun _ h9 => h9) rfl dX10_order_1 ?_
  refine va_get (D := (dC, dI)) (ci := 6) (v := .int 0) (C := RX6) (T := TX6) (N := 6) hx hb hts hin_6 hown hK hP 1 rfl rfl 4 (by decide) (hts (.fieldLink RX10 89 "LessonMaker$Program" "functionCount" "I") (List.mem_of_getElem? (i := 2) rfl)) (fun _ h9 => h9) rfl dX10_order_4 ?_
  refine lv_if_ne (tgt := 13) hx hb dX10_order_7 (by decide) (fun h9 => absurd (by decide) h9) (fun _ => ?_)
  refine lv_bipush (v := (-2)) hx hb dX10_order_10 (by decide) ?_
  have hP9 := hP.sub (ws' := []) [] rfl
  have hD9 := hD.sub (ws' := []) [] (by decide) rfl
  have hK9 := hK.sub (tys' := []) [] rfl
  refine W.widen (k := 0) (n := 0) (Nat.le_of_ble_eq_true rfl) (Nat.le_of_ble_eq_true rfl) ?_
  exact W.iret (v := (-2)) hx hb hr (fun t ht hW => ⟨⟨(-2), (), rfl, rfl, by rw [ht]; exact hP9, va_K.moved hW.alike hK9, hD9⟩, hS.F ht⟩) hS.2.2 dX10_order_12

def z_wX10_chapter : List Cond := .code yX10_chapter cX10_chapter 2 (some .int) :: ([.fieldLink RX10 16 "LessonMaker" "now" "LLessonMaker$Program;", .fieldLink RX6 39 "LessonMaker$Program" "functionCount" "I", .methodLink RX10 98 yX6_hasFunction, .instanceMethod yX6_hasFunction, .selects RX6 yX6_hasFunction yX6_hasFunction, .initialized RX6, .code yX6_hasFunction cX6_hasFunction 2 (some .boolean)] ++ (u_ws RX6 TX6 6 ++ u_ws RX10 TX10 14))
set_option maxRecDepth 20000 in
theorem c_X10_chapter_zg_1 : GoodIn z_wX10_chapter (wsV RX10 98 RX6 yX6_hasFunction z_wX6_hasFunction) := goodIn_r _ [3, 4, 5, 6, 7, 2, 8, 9, 10, 11, 12, 13] (by decide +kernel) (by decide +kernel)
set_option maxHeartbeats 4000000 in
set_option maxRecDepth 100000 in
theorem c_X10_chapter (l : Launch) (dC : Nat → ClassId) (dI : Nat → Nat → Nat) (h0 : Nat) (tp : Nat) (nw : Nat) (sp : Nat) (rd : Nat) (la : Nat) (tr : Nat) (ti : Nat) (ch : Nat) (td : Nat) (gr : Nat) (n1 : Nat) (n2 : Nat) (n3 : Nat) (n4 : Nat) (p1 : Int32) (sz : Nat) : Met l yX10_chapter z_wX10_chapter ({ frames := 1, cells := 0, slots := 0, locals := 21 }) (va_Pc [.ref h0, .int p1] (z_in dC dI [(h0, .inr (10, [.ref tp, .int 0, .ref nw, .ref sp, .ref rd, .ref la, .ref tr, .ref ti, .int 0, .ref ch, .ref td, .ref gr, .int 0, .int 0])), (nw, .inr (6, [.ref n1, .ref n2, .ref n3, .ref n4, .int 0, .int 0]))] [] sz)) (va_Qi (fun (r : Int32) (_ : Unit) => r = (-1)) (fun (_ : Unit) t => z_out dC dI (va_A [(h0, .inr (10, [.ref tp, .int 0, .ref nw, .ref sp, .ref rd, .ref la, .ref tr, .ref ti, .int 0, .ref ch, .ref td, .ref gr, .int 0, .int 0])), (nw, .inr (6, [.ref n1, .ref n2, .ref n3, .ref n4, .int 0, .int 0]))] sz) [] [] t) (va_A [(h0, .inr (10, [.ref tp, .int 0, .ref nw, .ref sp, .ref rd, .ref la, .ref tr, .ref ti, .int 0, .ref ch, .ref td, .ref gr, .int 0, .int 0])), (nw, .inr (6, [.ref n1, .ref n2, .ref n3, .ref n4, .int 0, .int 0]))] sz)) 0 0 (va_A [(h0, .inr (10, [.ref tp, .int 0, .ref nw, .ref sp, .ref rd, .ref la, .ref tr, .ref ti, .int 0, .ref ch, .ref td, .ref gr, .int 0, .int 0])), (nw, .inr (6, [.ref n1, .ref n2, .ref n3, .ref n4, .int 0, .int 0]))] sz) := by
  refine Met.ofW (cc := cX10_chapter) (maxL := 2) (ret := (some .int)) (by decide) rfl ?_
  intro p e s m args below meth c s₁ B hml hv
  obtain ⟨rfl, hsz, hP, hK, hD0, hN⟩ := hv
  have hx := B.exec
  have hb := B.bytes
  have hr := B.returns
  have hts := atoms_spec (ws := z_wX10_chapter) B.pre
  have hown : s.vm.findClass RX10 = some m.cls := findClass_of_methodNamed B.named
  have hlocks := B.notSynchronized
  have hin_10 : ∀ w ∈ u_ws RX10 TX10 14, w ∈ z_wX10_chapter := by decide +kernel
  subst hsz
  have hD := hD0.self (sz := s.heap.size)
  generalize hAe : va_A [(h0, .inr (10, [.ref tp, .int 0, .ref nw, .ref sp, .ref rd, .ref la, .ref tr, .ref ti, .int 0, .ref ch, .ref td, .ref gr, .int 0, .int 0])), (nw, .inr (6, [.ref n1, .ref n2, .ref n3, .ref n4, .int 0, .int 0]))] s.heap.size = A at hD ⊢
  have hA : ∀ q : Nat, s.heap.size ≤ q → A q := fun q h => by rw [← hAe]; exact Or.inr h
  have hS : va_S A s.heap s.heap [] := va_S.rf
  have hP : va_P (dC, dI) z_Cl [(h0, .inr (10, [.ref tp, .int 0, .ref nw, .ref sp, .ref rd, .ref la, .ref tr, .ref ti, .int 0, .ref ch, .ref td, .ref gr, .int 0, .int 0])), (nw, .inr (6, [.ref n1, .ref n2, .ref n3, .ref n4, .int 0, .int 0]))] s.heap := hP
  have hl := lv_entry ([.ref h0, .int p1]) (n := 2) (Nat.le_of_ble_eq_true rfl)
  rw [lg_entry_eq]
  generalize (lg_sl ([.ref h0, .int p1]) ++ List.replicate (2 - (lg_sl ([.ref h0, .int p1])).length) Slot.unset).toArray = ls at hl ⊢
  have hl : lv_has ls 2 [(0, .ref h0), (1, .int p1)] := hl
  refine lv_aload_n hx hb dX10_chapter_0 rfl (lv_at hl 0 rfl) ?_
  refine va_get (D := (dC, dI)) (ci := 10) (v := .ref nw) (C := RX10) (T := TX10) (N := 14) hx hb hts hin_10 hown hK hP 0 rfl rfl 2 (by decide) (hts (.fieldLink RX10 16 "LessonMaker" "now" "LLessonMaker$Program;") (List.mem_of_getElem? (i := 1) rfl)) (fun _ h9 => h9) rfl dX10_chapter_1 ?_
  refine lv_iload_n hx hb dX10_chapter_4 rfl (lv_at hl 1 rfl) ?_
  have hPc := hP.sub (ws' := [(nw, .inr (6, [.ref n1, .ref n2, .ref n3, .ref n4, .int 0, .int 0]))]) [1] rfl
  have hDc := hD.sub (ws' := [(nw, .inr (6, [.ref n1, .ref n2, .ref n3, .ref n4, .int 0, .int 0]))]) [1] (by decide) rfl
  have hKc := hK.sub (tys' := []) [] rfl
  have hFc := va_free (wc := [(nw, .inr (6, [.ref n1, .ref n2, .ref n3, .ref n4, .int 0, .int 0]))]) hD hS hA [1] rfl
  refine va_calli (va_runV (As := [.int p1]) (rest := []) ⟨hx, hb, hml, hown, hts⟩ (c_X6_hasFunction l dC dI nw n1 n2 n3 n4 p1 s.heap.size) (cwV 1 hts c_X10_chapter_zg_1 rfl rfl rfl (by decide +kernel) ⟨(Nat.le_of_ble_eq_true rfl), (Nat.le_of_ble_eq_true rfl)⟩) ⟨z_blind, va_recv hKc hPc (ci := 6) (q0 := 0) rfl rfl, z_pre hPc hKc hDc hN⟩ rfl rfl hl.1 rfl (lv_room (Nat.le_of_ble_eq_true rfl)) dX10_chapter_5 ⟨(Nat.le_of_ble_eq_true rfl), (Nat.le_of_ble_eq_true rfl)⟩) hS (fun q _ h => hFc q h) hFc (fun r_2 u t H1 locs ht hvm hw hB hz1 hk1 hS => ?_)
  obtain ⟨hP1, hK1, hD1⟩ := hB
  rw [ht] at hP1
  have hK1 := va_K.moved hvm.symm hK1
  obtain ⟨hP, hD⟩ := va_join (wr := [(h0, .inr (10, [.ref tp, .int 0, .ref nw, .ref sp, .ref rd, .ref la, .ref tr, .ref ti, .int 0, .ref ch, .ref td, .ref gr, .int 0, .int 0]))]) (w1 := []) hP hD [1] [0] rfl rfl (by decide) (by decide) hk1 hFc hP1 hD1
  have hK := (hK.sub (tys' := []) [] rfl).app hK1
  generalize H1 = H at hP hS ⊢
  have hP : va_P (dC, dI) z_Cl [(h0, .inr (10, [.ref tp, .int 0, .ref nw, .ref sp, .ref rd, .ref la, .ref tr, .ref ti, .int 0, .ref ch, .ref td, .ref gr, .int 0, .int 0]))] H := hP
  have hD : va_D A [(h0, .inr (10, [.ref tp, .int 0, .ref nw, .ref sp, .ref rd, .ref la, .ref tr, .ref ti, .int 0, .ref ch, .ref td, .ref gr, .int 0, .int 0]))] := hD
  have hK : va_K (dC, dI) z_Cl [] s := hK
  have hw : r_2 = 0 := hw
  subst hw
  refine lv_if_ne (tgt := 13) hx hb dX10_chapter_8 (by decide) (fun h9 => absurd (by decide) h9) (fun _ => ?_)
  refine lv_iconst (v := (-1)) hx hb dX10_chapter_11 (by decide) ?_
  have hP9 := hP.sub (ws' := []) [] rfl
  have hD9 := hD.sub (ws' := []) [] (by decide) rfl
  have hK9 := hK.sub (tys' := []) [] rfl
  refine W.widen (k := 0) (n := 0) (Nat.le_of_ble_eq_true rfl) (Nat.le_of_ble_eq_true rfl) ?_
  exact W.iret (v := (-1)) hx hb hr (fun t ht hW => ⟨⟨(-1), (), rfl, rfl, by rw [ht]; exact hP9, va_K.moved hW.alike hK9, hD9⟩, hS.F ht⟩) hS.2.2 dX10_chapter_12

def z_wX10_tell : List Cond := .code yX10_tell cX10_tell 5 (some .int) :: ([.fieldLink RX10 16 "LessonMaker" "now" "LLessonMaker$Program;", .fieldLink RX6 39 "LessonMaker$Program" "functionCount" "I", .methodLink RX10 98 yX6_hasFunction, .instanceMethod yX6_hasFunction, .selects RX6 yX6_hasFunction yX6_hasFunction, .initialized RX6, .code yX6_hasFunction cX6_hasFunction 2 (some .boolean), .fieldLink RX10 92 "LessonMaker" "latestTrouble" "I", .methodLink RX10 68 yX10_refuse, .instanceMethod yX10_refuse, .selects RX10 yX10_refuse yX10_refuse, .initialized RX10, .code yX10_refuse cX10_refuse 2 (some .int)] ++ (u_ws RX6 TX6 6 ++ u_ws RX10 TX10 14))
set_option maxRecDepth 20000 in
theorem c_X10_tell_zg_1 : GoodIn z_wX10_tell (wsV RX10 98 RX6 yX6_hasFunction z_wX6_hasFunction) := goodIn_r _ [3, 4, 5, 6, 7, 2, 14, 15, 16, 17, 18, 19] (by decide +kernel) (by decide +kernel)
set_option maxRecDepth 20000 in
theorem c_X10_tell_zg_3 : GoodIn z_wX10_tell (wsV RX10 68 RX10 yX10_refuse z_wX10_refuse) := goodIn_r _ [9, 10, 11, 12, 13, 8, 20, 21, 22, 23, 24, 25, 26, 27, 28, 29, 30, 31, 32, 33] (by decide +kernel) (by decide +kernel)
set_option maxHeartbeats 4000000 in
set_option maxRecDepth 100000 in
theorem c_X10_tell (l : Launch) (dC : Nat → ClassId) (dI : Nat → Nat → Nat) (h0 : Nat) (tp : Nat) (nw : Nat) (sp : Nat) (rd : Nat) (la : Nat) (tr : Nat) (ti : Nat) (ch : Nat) (td : Nat) (gr : Nat) (n1 : Nat) (n2 : Nat) (n3 : Nat) (n4 : Nat) (p1 : Int32) (p2 : Int32) (p3 : Int32) (p4 : Int32) (sz : Nat) : Met l yX10_tell z_wX10_tell ({ frames := 1, cells := 0, slots := 0, locals := 21 }) (va_Pc [.ref h0, .int p1, .int p2, .int p3, .int p4] (z_in dC dI [(h0, .inr (10, [.ref tp, .int 0, .ref nw, .ref sp, .ref rd, .ref la, .ref tr, .ref ti, .int 0, .ref ch, .ref td, .ref gr, .int 0, .int 0])), (nw, .inr (6, [.ref n1, .ref n2, .ref n3, .ref n4, .int 0, .int 0]))] [] sz)) (va_Qi (fun (r : Int32) (_ : Unit) => r = (-1)) (fun (_ : Unit) t => z_out dC dI (va_A [(h0, .inr (10, [.ref tp, .int 0, .ref nw, .ref sp, .ref rd, .ref la, .ref tr, .ref ti, .int 0, .ref ch, .ref td, .ref gr, .int 0, .int 0])), (nw, .inr (6, [.ref n1, .ref n2, .ref n3, .ref n4, .int 0, .int 0]))] sz) [] [] t) (va_A [(h0, .inr (10, [.ref tp, .int 0, .ref nw, .ref sp, .ref rd, .ref la, .ref tr, .ref ti, .int 0, .ref ch, .ref td, .ref gr, .int 0, .int 0])), (nw, .inr (6, [.ref n1, .ref n2, .ref n3, .ref n4, .int 0, .int 0]))] sz)) 0 0 (va_A [(h0, .inr (10, [.ref tp, .int 0, .ref nw, .ref sp, .ref rd, .ref la, .ref tr, .ref ti, .int 0, .ref ch, .ref td, .ref gr, .int 0, .int 0])), (nw, .inr (6, [.ref n1, .ref n2, .ref n3, .ref n4, .int 0, .int 0]))] sz) := by
  refine Met.ofW (cc := cX10_tell) (maxL := 5) (ret := (some .int)) (by decide) rfl ?_
  intro p e s m args below meth c s₁ B hml hv
  obtain ⟨rfl, hsz, hP, hK, hD0, hN⟩ := hv
  have hx := B.exec
  have hb := B.bytes
  have hr := B.returns
  have hts := atoms_spec (ws := z_wX10_tell) B.pre
  have hown : s.vm.findClass RX10 = some m.cls := findClass_of_methodNamed B.named
  have hlocks := B.notSynchronized
  have hin_10 : ∀ w ∈ u_ws RX10 TX10 14, w ∈ z_wX10_tell := by decide +kernel
  subst hsz
  have hD := hD0.self (sz := s.heap.size)
  generalize hAe : va_A [(h0, .inr (10, [.ref tp, .int 0, .ref nw, .ref sp, .ref rd, .ref la, .ref tr, .ref ti, .int 0, .ref ch, .ref td, .ref gr, .int 0, .int 0])), (nw, .inr (6, [.ref n1, .ref n2, .ref n3, .ref n4, .int 0, .int 0]))] s.heap.size = A at hD ⊢
  have hA : ∀ q : Nat, s.heap.size ≤ q → A q := fun q h => by rw [← hAe]; exact Or.inr h
  have hS : va_S A s.heap s.heap [] := va_S.rf
  have hP : va_P (dC, dI) z_Cl [(h0, .inr (10, [.ref tp, .int 0, .ref nw, .ref sp, .ref rd, .ref la, .ref tr, .ref ti, .int 0, .ref ch, .ref td, .ref gr, .int 0, .int 0])), (nw, .inr (6, [.ref n1, .ref n2, .ref n3, .ref n4, .int 0, .int 0]))] s.heap := hP
  have hl := lv_entry ([.ref h0, .int p1, .int p2, .int p3, .int p4]) (n := 5) (Nat.le_of_ble_eq_true rfl)
  rw [lg_entry_eq]
  generalize (lg_sl ([.ref h0, .int p1, .int p2, .int p3, .int p4]) ++ List.replicate (5 - (lg_sl ([.ref h0, .int p1, .int p2, .int p3, .int p4])).length) Slot.unset).toArray = ls at hl ⊢
  have hl : lv_has ls 5 [(0, .ref h0), (1, .int p1), (2, .int p2), (3, .int p3), (4, .int p4)] := hl
  refine lv_aload_n hx hb dX10_tell_0 rfl (lv_at hl 0 rfl) ?_
  refine va_get (D := (dC, dI)) (ci := 10) (v := .ref nw) (C := RX10) (T := TX10) (N := 14) hx hb hts hin_10 hown hK hP 0 rfl rfl 2 (by decide) (hts (.fieldLink RX10 16 "LessonMaker" "now" "LLessonMaker$Program;") (List.mem_of_getElem? (i := 1) rfl)) (fun _ h9 => h9) rfl dX10_tell_1 ?_
  refine lv_iload_n hx hb dX10_tell_4 rfl (lv_at hl 1 rfl) ?_
  have hPc := hP.sub (ws' := [(nw, .inr (6, [.ref n1, .ref n2, .ref n3, .ref n4, .int 0, .int 0]))]) [1] rfl
  have hDc := hD.sub (ws' := [(nw, .inr (6, [.ref n1, .ref n2, .ref n3, .ref n4, .int 0, .int 0]))]) [1] (by decide) rfl
  have hKc := hK.sub (tys' := []) [] rfl
  have hFc := va_free (wc := [(nw, .inr (6, [.ref n1, .ref n2, .ref n3, .ref n4, .int 0, .int 0]))]) hD hS hA [1] rfl
  refine va_calli (va_runV (As := [.int p1]) (rest := []) ⟨hx, hb, hml, hown, hts⟩ (c_X6_hasFunction l dC dI nw n1 n2 n3 n4 p1 s.heap.size) (cwV 1 hts c_X10_tell_zg_1 rfl rfl rfl (by decide +kernel) ⟨(Nat.le_of_ble_eq_true rfl), (Nat.le_of_ble_eq_true rfl)⟩) ⟨z_blind, va_recv hKc hPc (ci := 6) (q0 := 0) rfl rfl, z_pre hPc hKc hDc hN⟩ rfl rfl hl.1 rfl (lv_room (Nat.le_of_ble_eq_true rfl)) dX10_tell_5 ⟨(Nat.le_of_ble_eq_true rfl), (Nat.le_of_ble_eq_true rfl)⟩) hS (fun q _ h => hFc q h) hFc (fun r_2 u t H1 locs ht hvm hw hB hz1 hk1 hS => ?_)
  obtain ⟨hP1, hK1, hD1⟩ := hB
  rw [ht] at hP1
  have hK1 := va_K.moved hvm.symm hK1
  obtain ⟨hP, hD⟩ := va_join (wr := [(h0, .inr (10, [.ref tp, .int 0, .ref nw, .ref sp, .ref rd, .ref la, .ref tr, .ref ti, .int 0, .ref ch, .ref td, .ref gr, .int 0, .int 0]))]) (w1 := []) hP hD [1] [0] rfl rfl (by decide) (by decide) hk1 hFc hP1 hD1
  have hK := (hK.sub (tys' := []) [] rfl).app hK1
  generalize H1 = H at hP hS ⊢
  have hP : va_P (dC, dI) z_Cl [(h0, .inr (10, [.ref tp, .int 0, .ref nw, .ref sp, .ref rd, .ref la, .ref tr, .ref ti, .int 0, .ref ch, .ref td, .ref gr, .int 0, .int 0]))] H := hP
  have hD : va_D A [(h0, .inr (10, [.ref tp, .int 0, .ref nw, .ref sp, .ref rd, .ref la, .ref tr, .ref ti, .int 0, .ref ch, .ref td, .ref gr, .int 0, .int 0]))] := hD
  have hK : va_K (dC, dI) z_Cl [] s := hK
  have hw : r_2 = 0 := hw
  subst hw
  refine lv_if_ne (tgt := 17) hx hb dX10_tell_8 (by decide) (fun h9 => absurd (by decide) h9) (fun _ => ?_)
  refine lv_aload_n hx hb dX10_tell_11 rfl (lv_at hl 0 rfl) ?_
  refine lv_iconst (v := 1) hx hb dX10_tell_12 (by decide) ?_
  have hPc := hP.sub (ws' := [(h0, .inr (10, [.ref tp, .int 0, .ref nw, .ref sp, .ref rd, .ref la, .ref tr, .ref ti, .int 0, .ref ch, .ref td, .ref gr, .int 0, .int 0]))]) [0] rfl
  have hDc := hD.sub (ws' := [(h0, .inr (10, [.ref tp, .int 0, .ref nw, .ref sp, .ref rd, .ref la, .ref tr, .ref ti, .int 0, .ref ch, .ref td, .ref gr, .int 0, .int 0]))]) [0] (by decide) rfl
  have hKc := hK.sub (tys' := []) [] rfl
  have hFc := va_free (wc := [(h0, .inr (10, [.ref tp, .int 0, .ref nw, .ref sp, .ref rd, .ref la, .ref tr, .ref ti, .int 0, .ref ch, .ref td, .ref gr, .int 0, .int 0]))]) hD hS hA [0] rfl
  refine va_calli (va_runV (As := [.int 1]) (rest := []) ⟨hx, hb, hml, hown, hts⟩ (c_X10_refuse l dC dI h0 tp 0 nw sp rd la tr ti 0 ch td gr 0 0 1 H.size) (cwV 1 hts c_X10_tell_zg_3 rfl rfl rfl (by decide +kernel) ⟨(Nat.le_of_ble_eq_true rfl), (Nat.le_of_ble_eq_true rfl)⟩) ⟨z_blind, va_recv hKc hPc (ci := 10) (q0 := 0) rfl rfl, z_pre hPc hKc hDc hN⟩ rfl rfl hl.1 rfl (lv_room (Nat.le_of_ble_eq_true rfl)) dX10_tell_13 ⟨(Nat.le_of_ble_eq_true rfl), (Nat.le_of_ble_eq_true rfl)⟩) hS (fun q _ h => hFc q h) hFc (fun r_4 u t H1 locs ht hvm hw hB hz1 hk1 hS => ?_)
  obtain ⟨hP1, hK1, hD1⟩ := hB
  rw [ht] at hP1
  have hK1 := va_K.moved hvm.symm hK1
  obtain ⟨hP, hD⟩ := va_join (wr := []) (w1 := []) hP hD [0] [] rfl rfl (by decide) (by decide) hk1 hFc hP1 hD1
  have hK := (hK.sub (tys' := []) [] rfl).app hK1
  generalize H1 = H at hP hS ⊢
  have hP : va_P (dC, dI) z_Cl [] H := hP
  have hD : va_D A [] := hD
  have hK : va_K (dC, dI) z_Cl [] s := hK
  have hw : r_4 = (-1) := hw
  subst hw
  have hP9 := hP.sub (ws' := []) [] rfl
  have hD9 := hD.sub (ws' := []) [] (by decide) rfl
  have hK9 := hK.sub (tys' := []) [] rfl
  refine W.widen (k := 0) (n := 0) (Nat.le_of_ble_eq_true rfl) (Nat.le_of_ble_eq_true rfl) ?_
  exact W.iret (v := (-1)) hx hb hr (fun t ht hW => ⟨⟨(-1), (), rfl, rfl, by rw [ht]; exact hP9, va_K.moved hW.alike hK9, hD9⟩, hS.F ht⟩) hS.2.2 dX10_tell_16

def z_wX10_anew : List Cond := .code yX10_anew cX10_anew 2 (some .int) :: ([.fieldLink RX10 16 "LessonMaker" "now" "LLessonMaker$Program;", .fieldLink RX6 39 "LessonMaker$Program" "functionCount" "I", .methodLink RX10 98 yX6_hasFunction, .instanceMethod yX6_hasFunction, .selects RX6 yX6_hasFunction yX6_hasFunction, .initialized RX6, .code yX6_hasFunction cX6_hasFunction 2 (some .boolean)] ++ (u_ws RX6 TX6 6 ++ u_ws RX10 TX10 14))
set_option maxRecDepth 20000 in
theorem c_X10_anew_zg_1 : GoodIn z_wX10_anew (wsV RX10 98 RX6 yX6_hasFunction z_wX6_hasFunction) := goodIn_r _ [3, 4, 5, 6, 7, 2, 8, 9, 10, 11, 12, 13] (by decide +kernel) (by decide +kernel)
set_option maxHeartbeats 4000000 in
set_option maxRecDepth 100000 in
theorem c_X10_anew (l : Launch) (dC : Nat → ClassId) (dI : Nat → Nat → Nat) (h0 : Nat) (tp : Nat) (nw : Nat) (sp : Nat) (rd : Nat) (la : Nat) (tr : Nat) (ti : Nat) (ch : Nat) (td : Nat) (gr : Nat) (n1 : Nat) (n2 : Nat) (n3 : Nat) (n4 : Nat) (p1 : Int32) (sz : Nat) : Met l yX10_anew z_wX10_anew ({ frames := 1, cells := 0, slots := 0, locals := 21 }) (va_Pc [.ref h0, .int p1] (z_in dC dI [(h0, .inr (10, [.ref tp, .int 0, .ref nw, .ref sp, .ref rd, .ref la, .ref tr, .ref ti, .int 0, .ref ch, .ref td, .ref gr, .int 0, .int 0])), (nw, .inr (6, [.ref n1, .ref n2, .ref n3, .ref n4, .int 0, .int 0]))] [] sz)) (va_Qi (fun (r : Int32) (_ : Unit) => r = (-1)) (fun (_ : Unit) t => z_out dC dI (va_A [(h0, .inr (10, [.ref tp, .int 0, .ref nw, .ref sp, .ref rd, .ref la, .ref tr, .ref ti, .int 0, .ref ch, .ref td, .ref gr, .int 0, .int 0])), (nw, .inr (6, [.ref n1, .ref n2, .ref n3, .ref n4, .int 0, .int 0]))] sz) [] [] t) (va_A [(h0, .inr (10, [.ref tp, .int 0, .ref nw, .ref sp, .ref rd, .ref la, .ref tr, .ref ti, .int 0, .ref ch, .ref td, .ref gr, .int 0, .int 0])), (nw, .inr (6, [.ref n1, .ref n2, .ref n3, .ref n4, .int 0, .int 0]))] sz)) 0 0 (va_A [(h0, .inr (10, [.ref tp, .int 0, .ref nw, .ref sp, .ref rd, .ref la, .ref tr, .ref ti, .int 0, .ref ch, .ref td, .ref gr, .int 0, .int 0])), (nw, .inr (6, [.ref n1, .ref n2, .ref n3, .ref n4, .int 0, .int 0]))] sz) := by
  refine Met.ofW (cc := cX10_anew) (maxL := 2) (ret := (some .int)) (by decide) rfl ?_
  intro p e s m args below meth c s₁ B hml hv
  obtain ⟨rfl, hsz, hP, hK, hD0, hN⟩ := hv
  have hx := B.exec
  have hb := B.bytes
  have hr := B.returns
  have hts := atoms_spec (ws := z_wX10_anew) B.pre
  have hown : s.vm.findClass RX10 = some m.cls := findClass_of_methodNamed B.named
  have hlocks := B.notSynchronized
  have hin_10 : ∀ w ∈ u_ws RX10 TX10 14, w ∈ z_wX10_anew := by decide +kernel
  subst hsz
  have hD := hD0.self (sz := s.heap.size)
  generalize hAe : va_A [(h0, .inr (10, [.ref tp, .int 0, .ref nw, .ref sp, .ref rd, .ref la, .ref tr, .ref ti, .int 0, .ref ch, .ref td, .ref gr, .int 0, .int 0])), (nw, .inr (6, [.ref n1, .ref n2, .ref n3, .ref n4, .int 0, .int 0]))] s.heap.size = A at hD ⊢
  have hA : ∀ q : Nat, s.heap.size ≤ q → A q := fun q h => by rw [← hAe]; exact Or.inr h
  have hS : va_S A s.heap s.heap [] := va_S.rf
  have hP : va_P (dC, dI) z_Cl [(h0, .inr (10, [.ref tp, .int 0, .ref nw, .ref sp, .ref rd, .ref la, .ref tr, .ref ti, .int 0, .ref ch, .ref td, .ref gr, .int 0, .int 0])), (nw, .inr (6, [.ref n1, .ref n2, .ref n3, .ref n4, .int 0, .int 0]))] s.heap := hP
  have hl := lv_entry ([.ref h0, .int p1]) (n := 2) (Nat.le_of_ble_eq_true rfl)
  rw [lg_entry_eq]
  generalize (lg_sl ([.ref h0, .int p1]) ++ List.replicate (2 - (lg_sl ([.ref h0, .int p1])).length) Slot.unset).toArray = ls at hl ⊢
  have hl : lv_has ls 2 [(0, .ref h0), (1, .int p1)] := hl
  refine lv_aload_n hx hb dX10_anew_0 rfl (lv_at hl 0 rfl) ?_
  refine va_get (D := (dC, dI)) (ci := 10) (v := .ref nw) (C := RX10) (T := TX10) (N := 14) hx hb hts hin_10 hown hK hP 0 rfl rfl 2 (by decide) (hts (.fieldLink RX10 16 "LessonMaker" "now" "LLessonMaker$Program;") (List.mem_of_getElem? (i := 1) rfl)) (fun _ h9 => h9) rfl dX10_anew_1 ?_
  refine lv_iload_n hx hb dX10_anew_4 rfl (lv_at hl 1 rfl) ?_
  have hPc := hP.sub (ws' := [(nw, .inr (6, [.ref n1, .ref n2, .ref n3, .ref n4, .int 0, .int 0]))]) [1] rfl
  have hDc := hD.sub (ws' := [(nw, .inr (6, [.ref n1, .ref n2, .ref n3, .ref n4, .int 0, .int 0]))]) [1] (by decide) rfl
  have hKc := hK.sub (tys' := []) [] rfl
  have hFc := va_free (wc := [(nw, .inr (6, [.ref n1, .ref n2, .ref n3, .ref n4, .int 0, .int 0]))]) hD hS hA [1] rfl
  refine va_calli (va_runV (As := [.int p1]) (rest := []) ⟨hx, hb, hml, hown, hts⟩ (c_X6_hasFunction l dC dI nw n1 n2 n3 n4 p1 s.heap.size) (cwV 1 hts c_X10_anew_zg_1 rfl rfl rfl (by decide +kernel) ⟨(Nat.le_of_ble_eq_true rfl), (Nat.le_of_ble_eq_true rfl)⟩) ⟨z_blind, va_recv hKc hPc (ci := 6) (q0 := 0) rfl rfl, z_pre hPc hKc hDc hN⟩ rfl rfl hl.1 rfl (lv_room (Nat.le_of_ble_eq_true rfl)) dX10_anew_5 ⟨(Nat.le_of_ble_eq_true rfl), (Nat.le_of_ble_eq_true rfl)⟩) hS (fun q _ h => hFc q h) hFc (fun r_2 u t H1 locs ht hvm hw hB hz1 hk1 hS => ?_)
  obtain ⟨hP1, hK1, hD1⟩ := hB
  rw [ht] at hP1
  have hK1 := va_K.moved hvm.symm hK1
  obtain ⟨hP, hD⟩ := va_join (wr := [(h0, .inr (10, [.ref tp, .int 0, .ref nw, .ref sp, .ref rd, .ref la, .ref tr, .ref ti, .int 0, .ref ch, .ref td, .ref gr, .int 0, .int 0]))]) (w1 := []) hP hD [1] [0] rfl rfl (by decide) (by decide) hk1 hFc hP1 hD1
  have hK := (hK.sub (tys' := []) [] rfl).app hK1
  generalize H1 = H at hP hS ⊢
  have hP : va_P (dC, dI) z_Cl [(h0, .inr (10, [.ref tp, .int 0, .ref nw, .ref sp, .ref rd, .ref la, .ref tr, .ref ti, .int 0, .ref ch, .ref td, .ref gr, .int 0, .int 0]))] H := hP
  have hD : va_D A [(h0, .inr (10, [.ref tp, .int 0, .ref nw, .ref sp, .ref rd, .ref la, .ref tr, .ref ti, .int 0, .ref ch, .ref td, .ref gr, .int 0, .int 0]))] := hD
  have hK : va_K (dC, dI) z_Cl [] s := hK
  have hw : r_2 = 0 := hw
  subst hw
  refine lv_if_ne (tgt := 13) hx hb dX10_anew_8 (by decide) (fun h9 => absurd (by decide) h9) (fun _ => ?_)
  refine lv_iconst (v := (-1)) hx hb dX10_anew_11 (by decide) ?_
  have hP9 := hP.sub (ws' := []) [] rfl
  have hD9 := hD.sub (ws' := []) [] (by decide) rfl
  have hK9 := hK.sub (tys' := []) [] rfl
  refine W.widen (k := 0) (n := 0) (Nat.le_of_ble_eq_true rfl) (Nat.le_of_ble_eq_true rfl) ?_
  exact W.iret (v := (-1)) hx hb hr (fun t ht hW => ⟨⟨(-1), (), rfl, rfl, by rw [ht]; exact hP9, va_K.moved hW.alike hK9, hD9⟩, hS.F ht⟩) hS.2.2 dX10_anew_12

def z_wX10_gone : List Cond := .code yX10_gone cX10_gone 1 (some .int) :: ([.fieldLink RX10 60 "LessonMaker" "growth" "LLessonMaker$Growth;", .fieldLink RX10 256 "LessonMaker$Growth" "goneCount" "I"] ++ (u_ws RX3 TX3 3 ++ u_ws RX10 TX10 14))
set_option maxHeartbeats 4000000 in
set_option maxRecDepth 100000 in
theorem c_X10_gone (l : Launch) (dC : Nat → ClassId) (dI : Nat → Nat → Nat) (h0 : Nat) (tp : Nat) (nw : Nat) (sp : Nat) (rd : Nat) (la : Nat) (tr : Nat) (ti : Nat) (ch : Nat) (td : Nat) (gr : Nat) (g1 : Nat) (g2 : Nat) (sz : Nat) : Met l yX10_gone z_wX10_gone ({ frames := 0, cells := 0, slots := 0, locals := 0 }) (va_Pc [.ref h0] (z_in dC dI [(h0, .inr (10, [.ref tp, .int 0, .ref nw, .ref sp, .ref rd, .ref la, .ref tr, .ref ti, .int 0, .ref ch, .ref td, .ref gr, .int 0, .int 0])), (gr, .inr (3, [.ref g1, .ref g2, .int 0]))] [] sz)) (va_Qi (fun (r : Int32) (_ : Unit) => r = 0) (fun (_ : Unit) t => z_out dC dI (va_A [(h0, .inr (10, [.ref tp, .int 0, .ref nw, .ref sp, .ref rd, .ref la, .ref tr, .ref ti, .int 0, .ref ch, .ref td, .ref gr, .int 0, .int 0])), (gr, .inr (3, [.ref g1, .ref g2, .int 0]))] sz) [] [] t) (va_A [(h0, .inr (10, [.ref tp, .int 0, .ref nw, .ref sp, .ref rd, .ref la, .ref tr, .ref ti, .int 0, .ref ch, .ref td, .ref gr, .int 0, .int 0])), (gr, .inr (3, [.ref g1, .ref g2, .int 0]))] sz)) 0 0 (va_A [(h0, .inr (10, [.ref tp, .int 0, .ref nw, .ref sp, .ref rd, .ref la, .ref tr, .ref ti, .int 0, .ref ch, .ref td, .ref gr, .int 0, .int 0])), (gr, .inr (3, [.ref g1, .ref g2, .int 0]))] sz) := by
  refine Met.ofW (cc := cX10_gone) (maxL := 1) (ret := (some .int)) (by decide) rfl ?_
  intro p e s m args below meth c s₁ B hml hv
  obtain ⟨rfl, hsz, hP, hK, hD0, hN⟩ := hv
  have hx := B.exec
  have hb := B.bytes
  have hr := B.returns
  have hts := atoms_spec (ws := z_wX10_gone) B.pre
  have hown : s.vm.findClass RX10 = some m.cls := findClass_of_methodNamed B.named
  have hlocks := B.notSynchronized
  have hin_3 : ∀ w ∈ u_ws RX3 TX3 3, w ∈ z_wX10_gone := by decide +kernel
  have hin_10 : ∀ w ∈ u_ws RX10 TX10 14, w ∈ z_wX10_gone := by decide +kernel
  subst hsz
  have hD := hD0.self (sz := s.heap.size)
  generalize hAe : va_A [(h0, .inr (10, [.ref tp, .int 0, .ref nw, .ref sp, .ref rd, .ref la, .ref tr, .ref ti, .int 0, .ref ch, .ref td, .ref gr, .int 0, .int 0])), (gr, .inr (3, [.ref g1, .ref g2, .int 0]))] s.heap.size = A at hD ⊢
  have hA : ∀ q : Nat, s.heap.size ≤ q → A q := fun q h => by rw [← hAe]; exact Or.inr h
  have hS : va_S A s.heap s.heap [] := va_S.rf
  have hP : va_P (dC, dI) z_Cl [(h0, .inr (10, [.ref tp, .int 0, .ref nw, .ref sp, .ref rd, .ref la, .ref tr, .ref ti, .int 0, .ref ch, .ref td, .ref gr, .int 0, .int 0])), (gr, .inr (3, [.ref g1, .ref g2, .int 0]))] s.heap := hP
  have hl := lv_entry ([.ref h0]) (n := 1) (Nat.le_of_ble_eq_true rfl)
  rw [lg_entry_eq]
  generalize (lg_sl ([.ref h0]) ++ List.replicate (1 - (lg_sl ([.ref h0])).length) Slot.unset).toArray = ls at hl ⊢
  have hl : lv_has ls 1 [(0, .ref h0)] := hl
  refine lv_aload_n hx hb dX10_gone_0 rfl (lv_at hl 0 rfl) ?_
  refine va_get (D := (dC, dI)) (ci := 10) (v := .ref gr) (C := RX10) (T := TX10) (N := 14) hx hb hts hin_10 hown hK hP 0 rfl rfl 11 (by decide) (hts (.fieldLink RX10 60 "LessonMaker" "growth" "LLessonMaker$Growth;") (List.mem_of_getElem? (i := 1) rfl)) (fun _ h9 => h9) rfl dX10_gone_1 ?_
  refine va_get (D := (dC, dI)) (ci := 3) (v := .int 0) (C := RX3) (T := TX3) (N := 3) hx hb hts hin_3 hown hK hP 1 rfl rfl 2 (by decide) (hts (.fieldLink RX10 256 "LessonMaker$Growth" "goneCount" "I") (List.mem_of_getElem? (i := 2) rfl)) (fun _ h9 => h9) rfl dX10_gone_4 ?_
  have hP9 := hP.sub (ws' := []) [] rfl
  have hD9 := hD.sub (ws' := []) [] (by decide) rfl
  have hK9 := hK.sub (tys' := []) [] rfl
  refine W.widen (k := 0) (n := 0) (Nat.le_of_ble_eq_true rfl) (Nat.le_of_ble_eq_true rfl) ?_
  exact W.iret (v := 0) hx hb hr (fun t ht hW => ⟨⟨0, (), rfl, rfl, by rw [ht]; exact hP9, va_K.moved hW.alike hK9, hD9⟩, hS.F ht⟩) hS.2.2 dX10_gone_7

def z_wX10_trouble : List Cond := .code yX10_trouble cX10_trouble 1 (some .int) :: ([.fieldLink RX10 92 "LessonMaker" "latestTrouble" "I"] ++ (u_ws RX10 TX10 14))
set_option maxHeartbeats 4000000 in
set_option maxRecDepth 100000 in
theorem c_X10_trouble (l : Launch) (dC : Nat → ClassId) (dI : Nat → Nat → Nat) (h0 : Nat) (tp : Nat) (nw : Nat) (sp : Nat) (rd : Nat) (la : Nat) (tr : Nat) (ti : Nat) (ch : Nat) (td : Nat) (gr : Nat) (sz : Nat) : Met l yX10_trouble z_wX10_trouble ({ frames := 0, cells := 0, slots := 0, locals := 0 }) (va_Pc [.ref h0] (z_in dC dI [(h0, .inr (10, [.ref tp, .int 0, .ref nw, .ref sp, .ref rd, .ref la, .ref tr, .ref ti, .int 0, .ref ch, .ref td, .ref gr, .int 0, .int 0]))] [] sz)) (va_Qi (fun (r : Int32) (_ : Unit) => r = 0) (fun (_ : Unit) t => z_out dC dI (va_A [(h0, .inr (10, [.ref tp, .int 0, .ref nw, .ref sp, .ref rd, .ref la, .ref tr, .ref ti, .int 0, .ref ch, .ref td, .ref gr, .int 0, .int 0]))] sz) [] [] t) (va_A [(h0, .inr (10, [.ref tp, .int 0, .ref nw, .ref sp, .ref rd, .ref la, .ref tr, .ref ti, .int 0, .ref ch, .ref td, .ref gr, .int 0, .int 0]))] sz)) 0 0 (va_A [(h0, .inr (10, [.ref tp, .int 0, .ref nw, .ref sp, .ref rd, .ref la, .ref tr, .ref ti, .int 0, .ref ch, .ref td, .ref gr, .int 0, .int 0]))] sz) := by
  refine Met.ofW (cc := cX10_trouble) (maxL := 1) (ret := (some .int)) (by decide) rfl ?_
  intro p e s m args below meth c s₁ B hml hv
  obtain ⟨rfl, hsz, hP, hK, hD0, hN⟩ := hv
  have hx := B.exec
  have hb := B.bytes
  have hr := B.returns
  have hts := atoms_spec (ws := z_wX10_trouble) B.pre
  have hown : s.vm.findClass RX10 = some m.cls := findClass_of_methodNamed B.named
  have hlocks := B.notSynchronized
  have hin_10 : ∀ w ∈ u_ws RX10 TX10 14, w ∈ z_wX10_trouble := by decide +kernel
  subst hsz
  have hD := hD0.self (sz := s.heap.size)
  generalize hAe : va_A [(h0, .inr (10, [.ref tp, .int 0, .ref nw, .ref sp, .ref rd, .ref la, .ref tr, .ref ti, .int 0, .ref ch, .ref td, .ref gr, .int 0, .int 0]))] s.heap.size = A at hD ⊢
  have hA : ∀ q : Nat, s.heap.size ≤ q → A q := fun q h => by rw [← hAe]; exact Or.inr h
  have hS : va_S A s.heap s.heap [] := va_S.rf
  have hP : va_P (dC, dI) z_Cl [(h0, .inr (10, [.ref tp, .int 0, .ref nw, .ref sp, .ref rd, .ref la, .ref tr, .ref ti, .int 0, .ref ch, .ref td, .ref gr, .int 0, .int 0]))] s.heap := hP
  have hl := lv_entry ([.ref h0]) (n := 1) (Nat.le_of_ble_eq_true rfl)
  rw [lg_entry_eq]
  generalize (lg_sl ([.ref h0]) ++ List.replicate (1 - (lg_sl ([.ref h0])).length) Slot.unset).toArray = ls at hl ⊢
  have hl : lv_has ls 1 [(0, .ref h0)] := hl
  refine lv_aload_n hx hb dX10_trouble_0 rfl (lv_at hl 0 rfl) ?_
  refine va_get (D := (dC, dI)) (ci := 10) (v := .int 0) (C := RX10) (T := TX10) (N := 14) hx hb hts hin_10 hown hK hP 0 rfl rfl 13 (by decide) (hts (.fieldLink RX10 92 "LessonMaker" "latestTrouble" "I") (List.mem_of_getElem? (i := 1) rfl)) (fun _ h9 => h9) rfl dX10_trouble_1 ?_
  have hP9 := hP.sub (ws' := []) [] rfl
  have hD9 := hD.sub (ws' := []) [] (by decide) rfl
  have hK9 := hK.sub (tys' := []) [] rfl
  refine W.widen (k := 0) (n := 0) (Nat.le_of_ble_eq_true rfl) (Nat.le_of_ble_eq_true rfl) ?_
  exact W.iret (v := 0) hx hb hr (fun t ht hW => ⟨⟨0, (), rfl, rfl, by rw [ht]; exact hP9, va_K.moved hW.alike hK9, hD9⟩, hS.F ht⟩) hS.2.2 dX10_trouble_4

def z_wX10_feedNumber_0 : List Cond := .code yX10_feedNumber cX10_feedNumber 3 none :: ([.fieldLink RX10 64 "LessonMaker" "fed" "I", .fieldLink RX10 9 "LessonMaker" "tape" "[B"] ++ (u_ws RX10 TX10 14))
set_option maxHeartbeats 4000000 in
set_option maxRecDepth 100000 in
theorem c_X10_feedNumber_0 (l : Launch) (dC : Nat → ClassId) (dI : Nat → Nat → Nat) (h0 : Nat) (tp : Nat) (nw : Nat) (sp : Nat) (rd : Nat) (la : Nat) (tr : Nat) (ti : Nat) (ch : Nat) (td : Nat) (gr : Nat) (kt : ClassId) (ft : Nat → Int32) (p1 : Int32) (sz : Nat) : Met l yX10_feedNumber z_wX10_feedNumber_0 ({ frames := 0, cells := 0, slots := 0, locals := 0 }) (va_Pc [.ref h0, .int p1] (z_in dC dI [(h0, .inr (10, [.ref tp, .int 0, .ref nw, .ref sp, .ref rd, .ref la, .ref tr, .ref ti, .int 0, .ref ch, .ref td, .ref gr, .int 0, .int 0])), (tp, .inl (kt, 600, .inl ft))] [(kt, .byte)] sz)) (va_Qv (fun _ : Unit => True) (fun (_ : Unit) t => ∃ (ft2 : Nat → Int32), z_out dC dI (va_A [(h0, .inr (10, [.ref tp, .int 0, .ref nw, .ref sp, .ref rd, .ref la, .ref tr, .ref ti, .int 0, .ref ch, .ref td, .ref gr, .int 0, .int 0])), (tp, .inl (kt, 600, .inl ft))] sz) [(h0, .inr (10, [.ref tp, .int 4, .ref nw, .ref sp, .ref rd, .ref la, .ref tr, .ref ti, .int 0, .ref ch, .ref td, .ref gr, .int 0, .int 0])), (tp, .inl (kt, 600, .inl ft2))] [(kt, .byte)] t) (va_A [(h0, .inr (10, [.ref tp, .int 0, .ref nw, .ref sp, .ref rd, .ref la, .ref tr, .ref ti, .int 0, .ref ch, .ref td, .ref gr, .int 0, .int 0])), (tp, .inl (kt, 600, .inl ft))] sz)) 0 0 (va_A [(h0, .inr (10, [.ref tp, .int 0, .ref nw, .ref sp, .ref rd, .ref la, .ref tr, .ref ti, .int 0, .ref ch, .ref td, .ref gr, .int 0, .int 0])), (tp, .inl (kt, 600, .inl ft))] sz) := by
  refine Met.ofW (cc := cX10_feedNumber) (maxL := 3) (ret := none) (by decide) rfl ?_
  intro p e s m args below meth c s₁ B hml hv
  obtain ⟨rfl, hsz, hP, hK, hD0, hN⟩ := hv
  have hx := B.exec
  have hb := B.bytes
  have hr := B.returns
  have hts := atoms_spec (ws := z_wX10_feedNumber_0) B.pre
  have hown : s.vm.findClass RX10 = some m.cls := findClass_of_methodNamed B.named
  have hlocks := B.notSynchronized
  have hin_10 : ∀ w ∈ u_ws RX10 TX10 14, w ∈ z_wX10_feedNumber_0 := by decide +kernel
  subst hsz
  have hD := hD0.self (sz := s.heap.size)
  generalize hAe : va_A [(h0, .inr (10, [.ref tp, .int 0, .ref nw, .ref sp, .ref rd, .ref la, .ref tr, .ref ti, .int 0, .ref ch, .ref td, .ref gr, .int 0, .int 0])), (tp, .inl (kt, 600, .inl ft))] s.heap.size = A at hD ⊢
  have hA : ∀ q : Nat, s.heap.size ≤ q → A q := fun q h => by rw [← hAe]; exact Or.inr h
  have hS : va_S A s.heap s.heap [] := va_S.rf
  have hP : va_P (dC, dI) z_Cl [(h0, .inr (10, [.ref tp, .int 0, .ref nw, .ref sp, .ref rd, .ref la, .ref tr, .ref ti, .int 0, .ref ch, .ref td, .ref gr, .int 0, .int 0])), (tp, .inl (kt, 600, .inl ft))] s.heap := hP
  have hl := lv_entry ([.ref h0, .int p1]) (n := 3) (Nat.le_of_ble_eq_true rfl)
  rw [lg_entry_eq]
  generalize (lg_sl ([.ref h0, .int p1]) ++ List.replicate (3 - (lg_sl ([.ref h0, .int p1])).length) Slot.unset).toArray = ls at hl ⊢
  have hl : lv_has ls 3 [(0, .ref h0), (1, .int p1)] := hl
  refine lv_bipush (v := 24) hx hb dX10_feedNumber_0 (by decide) ?_
  refine lv_istore_n (lv' := [(2, .int 24), (0, .ref h0), (1, .int p1)]) hx hb dX10_feedNumber_2 rfl hl (by decide) rfl (fun ls hl => ?_)
  refine lv_iload_n hx hb dX10_feedNumber_3 rfl (lv_at hl 0 rfl) ?_
  refine lv_if_lt (tgt := 55) hx hb dX10_feedNumber_4 (by decide) (fun h9 => absurd h9 (by decide)) (fun _ => ?_)
  refine lv_aload_n hx hb dX10_feedNumber_7 rfl (lv_at hl 1 rfl) ?_
  refine va_get (D := (dC, dI)) (ci := 10) (v := .int 0) (C := RX10) (T := TX10) (N := 14) hx hb hts hin_10 hown hK hP 0 rfl rfl 1 (by decide) (hts (.fieldLink RX10 64 "LessonMaker" "fed" "I") (List.mem_of_getElem? (i := 1) rfl)) (fun _ h9 => h9) rfl dX10_feedNumber_8 ?_
  refine lv_if_lt (tgt := 49) hx hb dX10_feedNumber_11 (by decide) (fun h9 => absurd h9 (by decide)) (fun _ => ?_)
  refine lv_aload_n hx hb dX10_feedNumber_14 rfl (lv_at hl 1 rfl) ?_
  refine va_get (D := (dC, dI)) (ci := 10) (v := .int 0) (C := RX10) (T := TX10) (N := 14) hx hb hts hin_10 hown hK hP 0 rfl rfl 1 (by decide) (hts (.fieldLink RX10 64 "LessonMaker" "fed" "I") (List.mem_of_getElem? (i := 1) rfl)) (fun _ h9 => h9) rfl dX10_feedNumber_15 ?_
  refine lv_aload_n hx hb dX10_feedNumber_18 rfl (lv_at hl 1 rfl) ?_
  refine va_get (D := (dC, dI)) (ci := 10) (v := .ref tp) (C := RX10) (T := TX10) (N := 14) hx hb hts hin_10 hown hK hP 0 rfl rfl 0 (by decide) (hts (.fieldLink RX10 9 "LessonMaker" "tape" "[B") (List.mem_of_getElem? (i := 2) rfl)) (fun _ h9 => h9) rfl dX10_feedNumber_19 ?_
  refine va_alen hx hb hK hP 1 0 rfl rfl (v := 600) rfl dX10_feedNumber_22 ?_
  refine lv_icmp_ge (tgt := 49) hx hb dX10_feedNumber_23 (by decide) (fun h9 => absurd h9 (by decide)) (fun _ => ?_)
  refine lv_aload_n hx hb dX10_feedNumber_26 rfl (lv_at hl 1 rfl) ?_
  refine va_get (D := (dC, dI)) (ci := 10) (v := .ref tp) (C := RX10) (T := TX10) (N := 14) hx hb hts hin_10 hown hK hP 0 rfl rfl 0 (by decide) (hts (.fieldLink RX10 9 "LessonMaker" "tape" "[B") (List.mem_of_getElem? (i := 2) rfl)) (fun _ h9 => h9) rfl dX10_feedNumber_27 ?_
  refine lv_aload_n hx hb dX10_feedNumber_30 rfl (lv_at hl 1 rfl) ?_
  refine va_get (D := (dC, dI)) (ci := 10) (v := .int 0) (C := RX10) (T := TX10) (N := 14) hx hb hts hin_10 hown hK hP 0 rfl rfl 1 (by decide) (hts (.fieldLink RX10 64 "LessonMaker" "fed" "I") (List.mem_of_getElem? (i := 1) rfl)) (fun _ h9 => h9) rfl dX10_feedNumber_31 ?_
  refine lv_iload_n hx hb dX10_feedNumber_34 rfl (lv_at hl 2 rfl) ?_
  refine lv_iload_n hx hb dX10_feedNumber_35 rfl (lv_at hl 0 rfl) ?_
  refine lv_ishr hx hb dX10_feedNumber_36 ?_
  refine lv_topi (fun x_1 ex_1 => ?_)
  refine lv_i2b hx hb dX10_feedNumber_37 rfl ?_
  refine lv_topi (fun y_3 ey_3 => ?_)
  refine va_bast hx hb hK hP hD hS 1 0 rfl rfl (i := 0) (z_io (by decide)) dX10_feedNumber_38 (fun H locs hP hD hS => ?_)
  obtain ⟨g_4, eg_4⟩ : ∃ z, z = upd ft (Int32.toNatClampNeg 0) (vp_nar .byte y_3) := ⟨_, rfl⟩
  rw [← eg_4] at hP hD
  have hP : va_P (dC, dI) z_Cl [(h0, .inr (10, [.ref tp, .int 0, .ref nw, .ref sp, .ref rd, .ref la, .ref tr, .ref ti, .int 0, .ref ch, .ref td, .ref gr, .int 0, .int 0])), (tp, .inl (kt, 600, .inl g_4))] H := hP
  have hD : va_D A [(h0, .inr (10, [.ref tp, .int 0, .ref nw, .ref sp, .ref rd, .ref la, .ref tr, .ref ti, .int 0, .ref ch, .ref td, .ref gr, .int 0, .int 0])), (tp, .inl (kt, 600, .inl g_4))] := hD
  refine lv_aload_n hx hb dX10_feedNumber_39 rfl (lv_at hl 1 rfl) ?_
  refine lv_dup hx hb dX10_feedNumber_40 rfl ?_
  refine va_get (D := (dC, dI)) (ci := 10) (v := .int 0) (C := RX10) (T := TX10) (N := 14) hx hb hts hin_10 hown hK hP 0 rfl rfl 1 (by decide) (hts (.fieldLink RX10 64 "LessonMaker" "fed" "I") (List.mem_of_getElem? (i := 1) rfl)) (fun _ h9 => h9) rfl dX10_feedNumber_41 ?_
  refine lv_iconst (v := 1) hx hb dX10_feedNumber_44 (by decide) ?_
  refine lv_iadd hx hb dX10_feedNumber_45 ?_
  refine lv_topi (fun x_5 ex_5 => ?_)
  have ex_5 := ex_5.trans (show _ = (1 : Int32) by decide)
  subst ex_5
  refine va_put (D := (dC, dI)) (ci := 10) (v := .int 1) (ty := .int) (C := RX10) (T := TX10) (N := 14) hx hb hts hin_10 tyX10 tyX10_ok nmX10 hown hK hP hD hS 0 rfl rfl 1 (by decide) (hts (.fieldLink RX10 64 "LessonMaker" "fed" "I") (List.mem_of_getElem? (i := 1) rfl)) (fun _ h9 => h9) rfl (by decide +kernel) rfl rfl (Nat.le_of_ble_eq_true rfl) dX10_feedNumber_46 (fun H locs hP hD hS => ?_)
  have hP : va_P (dC, dI) z_Cl [(h0, .inr (10, [.ref tp, .int 1, .ref nw, .ref sp, .ref rd, .ref la, .ref tr, .ref ti, .int 0, .ref ch, .ref td, .ref gr, .int 0, .int 0])), (tp, .inl (kt, 600, .inl g_4))] H := hP
  have hD : va_D A [(h0, .inr (10, [.ref tp, .int 1, .ref nw, .ref sp, .ref rd, .ref la, .ref tr, .ref ti, .int 0, .ref ch, .ref td, .ref gr, .int 0, .int 0])), (tp, .inl (kt, 600, .inl g_4))] := hD
  refine lv_iinc (v := 16) (lv' := [(2, .int 16), (0, .ref h0), (1, .int p1)]) hx hb dX10_feedNumber_49 hl (k := 0) rfl (by decide) (by decide) rfl (fun ls hl => ?_)
  refine lv_goto (tgt := 3) hx hb dX10_feedNumber_52 (by decide) ?_
  refine lv_iload_n hx hb dX10_feedNumber_3 rfl (lv_at hl 0 rfl) ?_
  refine lv_if_lt (tgt := 55) hx hb dX10_feedNumber_4 (by decide) (fun h9 => absurd h9 (by decide)) (fun _ => ?_)
  refine lv_aload_n hx hb dX10_feedNumber_7 rfl (lv_at hl 1 rfl) ?_
  refine va_get (D := (dC, dI)) (ci := 10) (v := .int 1) (C := RX10) (T := TX10) (N := 14) hx hb hts hin_10 hown hK hP 0 rfl rfl 1 (by decide) (hts (.fieldLink RX10 64 "LessonMaker" "fed" "I") (List.mem_of_getElem? (i := 1) rfl)) (fun _ h9 => h9) rfl dX10_feedNumber_8 ?_
  refine lv_if_lt (tgt := 49) hx hb dX10_feedNumber_11 (by decide) (fun h9 => absurd h9 (by decide)) (fun _ => ?_)
  refine lv_aload_n hx hb dX10_feedNumber_14 rfl (lv_at hl 1 rfl) ?_
  refine va_get (D := (dC, dI)) (ci := 10) (v := .int 1) (C := RX10) (T := TX10) (N := 14) hx hb hts hin_10 hown hK hP 0 rfl rfl 1 (by decide) (hts (.fieldLink RX10 64 "LessonMaker" "fed" "I") (List.mem_of_getElem? (i := 1) rfl)) (fun _ h9 => h9) rfl dX10_feedNumber_15 ?_
  refine lv_aload_n hx hb dX10_feedNumber_18 rfl (lv_at hl 1 rfl) ?_
  refine va_get (D := (dC, dI)) (ci := 10) (v := .ref tp) (C := RX10) (T := TX10) (N := 14) hx hb hts hin_10 hown hK hP 0 rfl rfl 0 (by decide) (hts (.fieldLink RX10 9 "LessonMaker" "tape" "[B") (List.mem_of_getElem? (i := 2) rfl)) (fun _ h9 => h9) rfl dX10_feedNumber_19 ?_
  refine va_alen hx hb hK hP 1 0 rfl rfl (v := 600) rfl dX10_feedNumber_22 ?_
  refine lv_icmp_ge (tgt := 49) hx hb dX10_feedNumber_23 (by decide) (fun h9 => absurd h9 (by decide)) (fun _ => ?_)
  refine lv_aload_n hx hb dX10_feedNumber_26 rfl (lv_at hl 1 rfl) ?_
  refine va_get (D := (dC, dI)) (ci := 10) (v := .ref tp) (C := RX10) (T := TX10) (N := 14) hx hb hts hin_10 hown hK hP 0 rfl rfl 0 (by decide) (hts (.fieldLink RX10 9 "LessonMaker" "tape" "[B") (List.mem_of_getElem? (i := 2) rfl)) (fun _ h9 => h9) rfl dX10_feedNumber_27 ?_
  refine lv_aload_n hx hb dX10_feedNumber_30 rfl (lv_at hl 1 rfl) ?_
  refine va_get (D := (dC, dI)) (ci := 10) (v := .int 1) (C := RX10) (T := TX10) (N := 14) hx hb hts hin_10 hown hK hP 0 rfl rfl 1 (by decide) (hts (.fieldLink RX10 64 "LessonMaker" "fed" "I") (List.mem_of_getElem? (i := 1) rfl)) (fun _ h9 => h9) rfl dX10_feedNumber_31 ?_
  refine lv_iload_n hx hb dX10_feedNumber_34 rfl (lv_at hl 2 rfl) ?_
  refine lv_iload_n hx hb dX10_feedNumber_35 rfl (lv_at hl 0 rfl) ?_
  refine lv_ishr hx hb dX10_feedNumber_36 ?_
  refine lv_topi (fun x_6 ex_6 => ?_)
  refine lv_i2b hx hb dX10_feedNumber_37 rfl ?_
  refine lv_topi (fun y_8 ey_8 => ?_)
  refine va_bast hx hb hK hP hD hS 1 0 rfl rfl (i := 1) (z_io (by decide)) dX10_feedNumber_38 (fun H locs hP hD hS => ?_)
  obtain ⟨g_9, eg_9⟩ : ∃ z, z = upd g_4 (Int32.toNatClampNeg 1) (vp_nar .byte y_8) := ⟨_, rfl⟩
  rw [← eg_9] at hP hD
  have hP : va_P (dC, dI) z_Cl [(h0, .inr (10, [.ref tp, .int 1, .ref nw, .ref sp, .ref rd, .ref la, .ref tr, .ref ti, .int 0, .ref ch, .ref td, .ref gr, .int 0, .int 0])), (tp, .inl (kt, 600, .inl g_9))] H := hP
  have hD : va_D A [(h0, .inr (10, [.ref tp, .int 1, .ref nw, .ref sp, .ref rd, .ref la, .ref tr, .ref ti, .int 0, .ref ch, .ref td, .ref gr, .int 0, .int 0])), (tp, .inl (kt, 600, .inl g_9))] := hD
  refine lv_aload_n hx hb dX10_feedNumber_39 rfl (lv_at hl 1 rfl) ?_
  refine lv_dup hx hb dX10_feedNumber_40 rfl ?_
  refine va_get (D := (dC, dI)) (ci := 10) (v := .int 1) (C := RX10) (T := TX10) (N := 14) hx hb hts hin_10 hown hK hP 0 rfl rfl 1 (by decide) (hts (.fieldLink RX10 64 "LessonMaker" "fed" "I") (List.mem_of_getElem? (i := 1) rfl)) (fun _ h9 => h9) rfl dX10_feedNumber_41 ?_
  refine lv_iconst (v := 1) hx hb dX10_feedNumber_44 (by decide) ?_
  refine lv_iadd hx hb dX10_feedNumber_45 ?_
  refine lv_topi (fun x_10 ex_10 => ?_)
  have ex_10 := ex_10.trans (show _ = (2 : Int32) by decide)
  subst ex_10
  refine va_put (D := (dC, dI)) (ci := 10) (v := .int 2) (ty := .int) (C := RX10) (T := TX10) (N := 14) hx hb hts hin_10 tyX10 tyX10_ok nmX10 hown hK hP hD hS 0 rfl rfl 1 (by decide) (hts (.fieldLink RX10 64 "LessonMaker" "fed" "I") (List.mem_of_getElem? (i := 1) rfl)) (fun _ h9 => h9) rfl (by decide +kernel) rfl rfl (Nat.le_of_ble_eq_true rfl) dX10_feedNumber_46 (fun H locs hP hD hS => ?_)
  have hP : va_P (dC, dI) z_Cl [(h0, .inr (10, [.ref tp, .int 2, .ref nw, .ref sp, .ref rd, .ref la, .ref tr, .ref ti, .int 0, .ref ch, .ref td, .ref gr, .int 0, .int 0])), (tp, .inl (kt, 600, .inl g_9))] H := hP
  have hD : va_D A [(h0, .inr (10, [.ref tp, .int 2, .ref nw, .ref sp, .ref rd, .ref la, .ref tr, .ref ti, .int 0, .ref ch, .ref td, .ref gr, .int 0, .int 0])), (tp, .inl (kt, 600, .inl g_9))] := hD
  refine lv_iinc (v := 8) (lv' := [(2, .int 8), (0, .ref h0), (1, .int p1)]) hx hb dX10_feedNumber_49 hl (k := 0) rfl (by decide) (by decide) rfl (fun ls hl => ?_)
  refine lv_goto (tgt := 3) hx hb dX10_feedNumber_52 (by decide) ?_
  refine lv_iload_n hx hb dX10_feedNumber_3 rfl (lv_at hl 0 rfl) ?_
  refine lv_if_lt (tgt := 55) hx hb dX10_feedNumber_4 (by decide) (fun h9 => absurd h9 (by decide)) (fun _ => ?_)
  refine lv_aload_n hx hb dX10_feedNumber_7 rfl (lv_at hl 1 rfl) ?_
  refine va_get (D := (dC, dI)) (ci := 10) (v := .int 2) (C := RX10) (T := TX10) (N := 14) hx hb hts hin_10 hown hK hP 0 rfl rfl 1 (by decide) (hts (.fieldLink RX10 64 "LessonMaker" "fed" "I") (List.mem_of_getElem? (i := 1) rfl)) (fun _ h9 => h9) rfl dX10_feedNumber_8 ?_
  refine lv_if_lt (tgt := 49) hx hb dX10_feedNumber_11 (by decide) (fun h9 => absurd h9 (by decide)) (fun _ => ?_)
  refine lv_aload_n hx hb dX10_feedNumber_14 rfl (lv_at hl 1 rfl) ?_
  refine va_get (D := (dC, dI)) (ci := 10) (v := .int 2) (C := RX10) (T := TX10) (N := 14) hx hb hts hin_10 hown hK hP 0 rfl rfl 1 (by decide) (hts (.fieldLink RX10 64 "LessonMaker" "fed" "I") (List.mem_of_getElem? (i := 1) rfl)) (fun _ h9 => h9) rfl dX10_feedNumber_15 ?_
  refine lv_aload_n hx hb dX10_feedNumber_18 rfl (lv_at hl 1 rfl) ?_
  refine va_get (D := (dC, dI)) (ci := 10) (v := .ref tp) (C := RX10) (T := TX10) (N := 14) hx hb hts hin_10 hown hK hP 0 rfl rfl 0 (by decide) (hts (.fieldLink RX10 9 "LessonMaker" "tape" "[B") (List.mem_of_getElem? (i := 2) rfl)) (fun _ h9 => h9) rfl dX10_feedNumber_19 ?_
  refine va_alen hx hb hK hP 1 0 rfl rfl (v := 600) rfl dX10_feedNumber_22 ?_
  refine lv_icmp_ge (tgt := 49) hx hb dX10_feedNumber_23 (by decide) (fun h9 => absurd h9 (by decide)) (fun _ => ?_)
  refine lv_aload_n hx hb dX10_feedNumber_26 rfl (lv_at hl 1 rfl) ?_
  refine va_get (D := (dC, dI)) (ci := 10) (v := .ref tp) (C := RX10) (T := TX10) (N := 14) hx hb hts hin_10 hown hK hP 0 rfl rfl 0 (by decide) (hts (.fieldLink RX10 9 "LessonMaker" "tape" "[B") (List.mem_of_getElem? (i := 2) rfl)) (fun _ h9 => h9) rfl dX10_feedNumber_27 ?_
  refine lv_aload_n hx hb dX10_feedNumber_30 rfl (lv_at hl 1 rfl) ?_
  refine va_get (D := (dC, dI)) (ci := 10) (v := .int 2) (C := RX10) (T := TX10) (N := 14) hx hb hts hin_10 hown hK hP 0 rfl rfl 1 (by decide) (hts (.fieldLink RX10 64 "LessonMaker" "fed" "I") (List.mem_of_getElem? (i := 1) rfl)) (fun _ h9 => h9) rfl dX10_feedNumber_31 ?_
  refine lv_iload_n hx hb dX10_feedNumber_34 rfl (lv_at hl 2 rfl) ?_
  refine lv_iload_n hx hb dX10_feedNumber_35 rfl (lv_at hl 0 rfl) ?_
  refine lv_ishr hx hb dX10_feedNumber_36 ?_
  refine lv_topi (fun x_11 ex_11 => ?_)
  refine lv_i2b hx hb dX10_feedNumber_37 rfl ?_
  refine lv_topi (fun y_13 ey_13 => ?_)
  refine va_bast hx hb hK hP hD hS 1 0 rfl rfl (i := 2) (z_io (by decide)) dX10_feedNumber_38 (fun H locs hP hD hS => ?_)
  obtain ⟨g_14, eg_14⟩ : ∃ z, z = upd g_9 (Int32.toNatClampNeg 2) (vp_nar .byte y_13) := ⟨_, rfl⟩
  rw [← eg_14] at hP hD
  have hP : va_P (dC, dI) z_Cl [(h0, .inr (10, [.ref tp, .int 2, .ref nw, .ref sp, .ref rd, .ref la, .ref tr, .ref ti, .int 0, .ref ch, .ref td, .ref gr, .int 0, .int 0])), (tp, .inl (kt, 600, .inl g_14))] H := hP
  have hD : va_D A [(h0, .inr (10, [.ref tp, .int 2, .ref nw, .ref sp, .ref rd, .ref la, .ref tr, .ref ti, .int 0, .ref ch, .ref td, .ref gr, .int 0, .int 0])), (tp, .inl (kt, 600, .inl g_14))] := hD
  refine lv_aload_n hx hb dX10_feedNumber_39 rfl (lv_at hl 1 rfl) ?_
  refine lv_dup hx hb dX10_feedNumber_40 rfl ?_
  refine va_get (D := (dC, dI)) (ci := 10) (v := .int 2) (C := RX10) (T := TX10) (N := 14) hx hb hts hin_10 hown hK hP 0 rfl rfl 1 (by decide) (hts (.fieldLink RX10 64 "LessonMaker" "fed" "I") (List.mem_of_getElem? (i := 1) rfl)) (fun _ h9 => h9) rfl dX10_feedNumber_41 ?_
  refine lv_iconst (v := 1) hx hb dX10_feedNumber_44 (by decide) ?_
  refine lv_iadd hx hb dX10_feedNumber_45 ?_
  refine lv_topi (fun x_15 ex_15 => ?_)
  have ex_15 := ex_15.trans (show _ = (3 : Int32) by decide)
  subst ex_15
  refine va_put (D := (dC, dI)) (ci := 10) (v := .int 3) (ty := .int) (C := RX10) (T := TX10) (N := 14) hx hb hts hin_10 tyX10 tyX10_ok nmX10 hown hK hP hD hS 0 rfl rfl 1 (by decide) (hts (.fieldLink RX10 64 "LessonMaker" "fed" "I") (List.mem_of_getElem? (i := 1) rfl)) (fun _ h9 => h9) rfl (by decide +kernel) rfl rfl (Nat.le_of_ble_eq_true rfl) dX10_feedNumber_46 (fun H locs hP hD hS => ?_)
  have hP : va_P (dC, dI) z_Cl [(h0, .inr (10, [.ref tp, .int 3, .ref nw, .ref sp, .ref rd, .ref la, .ref tr, .ref ti, .int 0, .ref ch, .ref td, .ref gr, .int 0, .int 0])), (tp, .inl (kt, 600, .inl g_14))] H := hP
  have hD : va_D A [(h0, .inr (10, [.ref tp, .int 3, .ref nw, .ref sp, .ref rd, .ref la, .ref tr, .ref ti, .int 0, .ref ch, .ref td, .ref gr, .int 0, .int 0])), (tp, .inl (kt, 600, .inl g_14))] := hD
  refine lv_iinc (v := 0) (lv' := [(2, .int 0), (0, .ref h0), (1, .int p1)]) hx hb dX10_feedNumber_49 hl (k := 0) rfl (by decide) (by decide) rfl (fun ls hl => ?_)
  refine lv_goto (tgt := 3) hx hb dX10_feedNumber_52 (by decide) ?_
  refine lv_iload_n hx hb dX10_feedNumber_3 rfl (lv_at hl 0 rfl) ?_
  refine lv_if_lt (tgt := 55) hx hb dX10_feedNumber_4 (by decide) (fun h9 => absurd h9 (by decide)) (fun _ => ?_)
  refine lv_aload_n hx hb dX10_feedNumber_7 rfl (lv_at hl 1 rfl) ?_
  refine va_get (D := (dC, dI)) (ci := 10) (v := .int 3) (C := RX10) (T := TX10) (N := 14) hx hb hts hin_10 hown hK hP 0 rfl rfl 1 (by decide) (hts (.fieldLink RX10 64 "LessonMaker" "fed" "I") (List.mem_of_getElem? (i := 1) rfl)) (fun _ h9 => h9) rfl dX10_feedNumber_8 ?_
  refine lv_if_lt (tgt := 49) hx hb dX10_feedNumber_11 (by decide) (fun h9 => absurd h9 (by decide)) (fun _ => ?_)
  refine lv_aload_n hx hb dX10_feedNumber_14 rfl (lv_at hl 1 rfl) ?_
  refine va_get (D := (dC, dI)) (ci := 10) (v := .int 3) (C := RX10) (T := TX10) (N := 14) hx hb hts hin_10 hown hK hP 0 rfl rfl 1 (by decide) (hts (.fieldLink RX10 64 "LessonMaker" "fed" "I") (List.mem_of_getElem? (i := 1) rfl)) (fun _ h9 => h9) rfl dX10_feedNumber_15 ?_
  refine lv_aload_n hx hb dX10_feedNumber_18 rfl (lv_at hl 1 rfl) ?_
  refine va_get (D := (dC, dI)) (ci := 10) (v := .ref tp) (C := RX10) (T := TX10) (N := 14) hx hb hts hin_10 hown hK hP 0 rfl rfl 0 (by decide) (hts (.fieldLink RX10 9 "LessonMaker" "tape" "[B") (List.mem_of_getElem? (i := 2) rfl)) (fun _ h9 => h9) rfl dX10_feedNumber_19 ?_
  refine va_alen hx hb hK hP 1 0 rfl rfl (v := 600) rfl dX10_feedNumber_22 ?_
  refine lv_icmp_ge (tgt := 49) hx hb dX10_feedNumber_23 (by decide) (fun h9 => absurd h9 (by decide)) (fun _ => ?_)
  refine lv_aload_n hx hb dX10_feedNumber_26 rfl (lv_at hl 1 rfl) ?_
  refine va_get (D := (dC, dI)) (ci := 10) (v := .ref tp) (C := RX10) (T := TX10) (N := 14) hx hb hts hin_10 hown hK hP 0 rfl rfl 0 (by decide) (hts (.fieldLink RX10 9 "LessonMaker" "tape" "[B") (List.mem_of_getElem? (i := 2) rfl)) (fun _ h9 => h9) rfl dX10_feedNumber_27 ?_
  refine lv_aload_n hx hb dX10_feedNumber_30 rfl (lv_at hl 1 rfl) ?_
  refine va_get (D := (dC, dI)) (ci := 10) (v := .int 3) (C := RX10) (T := TX10) (N := 14) hx hb hts hin_10 hown hK hP 0 rfl rfl 1 (by decide) (hts (.fieldLink RX10 64 "LessonMaker" "fed" "I") (List.mem_of_getElem? (i := 1) rfl)) (fun _ h9 => h9) rfl dX10_feedNumber_31 ?_
  refine lv_iload_n hx hb dX10_feedNumber_34 rfl (lv_at hl 2 rfl) ?_
  refine lv_iload_n hx hb dX10_feedNumber_35 rfl (lv_at hl 0 rfl) ?_
  refine lv_ishr hx hb dX10_feedNumber_36 ?_
  refine lv_topi (fun x_16 ex_16 => ?_)
  refine lv_i2b hx hb dX10_feedNumber_37 rfl ?_
  refine lv_topi (fun y_18 ey_18 => ?_)
  refine va_bast hx hb hK hP hD hS 1 0 rfl rfl (i := 3) (z_io (by decide)) dX10_feedNumber_38 (fun H locs hP hD hS => ?_)
  obtain ⟨g_19, eg_19⟩ : ∃ z, z = upd g_14 (Int32.toNatClampNeg 3) (vp_nar .byte y_18) := ⟨_, rfl⟩
  rw [← eg_19] at hP hD
  have hP : va_P (dC, dI) z_Cl [(h0, .inr (10, [.ref tp, .int 3, .ref nw, .ref sp, .ref rd, .ref la, .ref tr, .ref ti, .int 0, .ref ch, .ref td, .ref gr, .int 0, .int 0])), (tp, .inl (kt, 600, .inl g_19))] H := hP
  have hD : va_D A [(h0, .inr (10, [.ref tp, .int 3, .ref nw, .ref sp, .ref rd, .ref la, .ref tr, .ref ti, .int 0, .ref ch, .ref td, .ref gr, .int 0, .int 0])), (tp, .inl (kt, 600, .inl g_19))] := hD
  refine lv_aload_n hx hb dX10_feedNumber_39 rfl (lv_at hl 1 rfl) ?_
  refine lv_dup hx hb dX10_feedNumber_40 rfl ?_
  refine va_get (D := (dC, dI)) (ci := 10) (v := .int 3) (C := RX10) (T := TX10) (N := 14) hx hb hts hin_10 hown hK hP 0 rfl rfl 1 (by decide) (hts (.fieldLink RX10 64 "LessonMaker" "fed" "I") (List.mem_of_getElem? (i := 1) rfl)) (fun _ h9 => h9) rfl dX10_feedNumber_41 ?_
  refine lv_iconst (v := 1) hx hb dX10_feedNumber_44 (by decide) ?_
  refine lv_iadd hx hb dX10_feedNumber_45 ?_
  refine lv_topi (fun x_20 ex_20 => ?_)
  have ex_20 := ex_20.trans (show _ = (4 : Int32) by decide)
  subst ex_20
  refine va_put (D := (dC, dI)) (ci := 10) (v := .int 4) (ty := .int) (C := RX10) (T := TX10) (N := 14) hx hb hts hin_10 tyX10 tyX10_ok nmX10 hown hK hP hD hS 0 rfl rfl 1 (by decide) (hts (.fieldLink RX10 64 "LessonMaker" "fed" "I") (List.mem_of_getElem? (i := 1) rfl)) (fun _ h9 => h9) rfl (by decide +kernel) rfl rfl (Nat.le_of_ble_eq_true rfl) dX10_feedNumber_46 (fun H locs hP hD hS => ?_)
  have hP : va_P (dC, dI) z_Cl [(h0, .inr (10, [.ref tp, .int 4, .ref nw, .ref sp, .ref rd, .ref la, .ref tr, .ref ti, .int 0, .ref ch, .ref td, .ref gr, .int 0, .int 0])), (tp, .inl (kt, 600, .inl g_19))] H := hP
  have hD : va_D A [(h0, .inr (10, [.ref tp, .int 4, .ref nw, .ref sp, .ref rd, .ref la, .ref tr, .ref ti, .int 0, .ref ch, .ref td, .ref gr, .int 0, .int 0])), (tp, .inl (kt, 600, .inl g_19))] := hD
  refine lv_iinc (v := (-8)) (lv' := [(2, .int (-8)), (0, .ref h0), (1, .int p1)]) hx hb dX10_feedNumber_49 hl (k := 0) rfl (by decide) (by decide) rfl (fun ls hl => ?_)
  refine lv_goto (tgt := 3) hx hb dX10_feedNumber_52 (by decide) ?_
  refine lv_iload_n hx hb dX10_feedNumber_3 rfl (lv_at hl 0 rfl) ?_
  refine lv_if_lt (tgt := 55) hx hb dX10_feedNumber_4 (by decide) (fun _ => ?_) (fun h9 => absurd (by decide) h9)
  have hP9 := hP.sub (ws' := [(h0, .inr (10, [.ref tp, .int 4, .ref nw, .ref sp, .ref rd, .ref la, .ref tr, .ref ti, .int 0, .ref ch, .ref td, .ref gr, .int 0, .int 0])), (tp, .inl (kt, 600, .inl g_19))]) [0, 1] rfl
  have hD9 := hD.sub (ws' := [(h0, .inr (10, [.ref tp, .int 4, .ref nw, .ref sp, .ref rd, .ref la, .ref tr, .ref ti, .int 0, .ref ch, .ref td, .ref gr, .int 0, .int 0])), (tp, .inl (kt, 600, .inl g_19))]) [0, 1] (by decide) rfl
  have hK9 := hK.sub (tys' := [(kt, .byte)]) [0] rfl
  refine W.widen (k := 0) (n := 0) (Nat.le_of_ble_eq_true rfl) (Nat.le_of_ble_eq_true rfl) ?_
  exact W.vret hx hb hr (fun t ht hW => ⟨⟨(), rfl, trivial, g_19, by rw [ht]; exact hP9, va_K.moved hW.alike hK9, hD9⟩, hS.F ht⟩) hS.2.2 dX10_feedNumber_55

def z_wX10_feedNumber_1 : List Cond := .code yX10_feedNumber cX10_feedNumber 3 none :: ([.fieldLink RX10 64 "LessonMaker" "fed" "I", .fieldLink RX10 9 "LessonMaker" "tape" "[B"] ++ (u_ws RX10 TX10 14))
set_option maxHeartbeats 4000000 in
set_option maxRecDepth 100000 in
theorem c_X10_feedNumber_1 (l : Launch) (dC : Nat → ClassId) (dI : Nat → Nat → Nat) (h0 : Nat) (tp : Nat) (nw : Nat) (sp : Nat) (rd : Nat) (la : Nat) (tr : Nat) (ti : Nat) (ch : Nat) (td : Nat) (gr : Nat) (kt : ClassId) (ft : Nat → Int32) (p1 : Int32) (sz : Nat) : Met l yX10_feedNumber z_wX10_feedNumber_1 ({ frames := 0, cells := 0, slots := 0, locals := 0 }) (va_Pc [.ref h0, .int p1] (z_in dC dI [(h0, .inr (10, [.ref tp, .int 4, .ref nw, .ref sp, .ref rd, .ref la, .ref tr, .ref ti, .int 0, .ref ch, .ref td, .ref gr, .int 0, .int 0])), (tp, .inl (kt, 600, .inl ft))] [(kt, .byte)] sz)) (va_Qv (fun _ : Unit => True) (fun (_ : Unit) t => ∃ (ft2 : Nat → Int32), z_out dC dI (va_A [(h0, .inr (10, [.ref tp, .int 4, .ref nw, .ref sp, .ref rd, .ref la, .ref tr, .ref ti, .int 0, .ref ch, .ref td, .ref gr, .int 0, .int 0])), (tp, .inl (kt, 600, .inl ft))] sz) [(h0, .inr (10, [.ref tp, .int 8, .ref nw, .ref sp, .ref rd, .ref la, .ref tr, .ref ti, .int 0, .ref ch, .ref td, .ref gr, .int 0, .int 0])), (tp, .inl (kt, 600, .inl ft2))] [(kt, .byte)] t) (va_A [(h0, .inr (10, [.ref tp, .int 4, .ref nw, .ref sp, .ref rd, .ref la, .ref tr, .ref ti, .int 0, .ref ch, .ref td, .ref gr, .int 0, .int 0])), (tp, .inl (kt, 600, .inl ft))] sz)) 0 0 (va_A [(h0, .inr (10, [.ref tp, .int 4, .ref nw, .ref sp, .ref rd, .ref la, .ref tr, .ref ti, .int 0, .ref ch, .ref td, .ref gr, .int 0, .int 0])), (tp, .inl (kt, 600, .inl ft))] sz) := by
  refine Met.ofW (cc := cX10_feedNumber) (maxL := 3) (ret := none) (by decide) rfl ?_
  intro p e s m args below meth c s₁ B hml hv
  obtain ⟨rfl, hsz, hP, hK, hD0, hN⟩ := hv
  have hx := B.exec
  have hb := B.bytes
  have hr := B.returns
  have hts := atoms_spec (ws := z_wX10_feedNumber_1) B.pre
  have hown : s.vm.findClass RX10 = some m.cls := findClass_of_methodNamed B.named
  have hlocks := B.notSynchronized
  have hin_10 : ∀ w ∈ u_ws RX10 TX10 14, w ∈ z_wX10_feedNumber_1 := by decide +kernel
  subst hsz
  have hD := hD0.self (sz := s.heap.size)
  generalize hAe : va_A [(h0, .inr (10, [.ref tp, .int 4, .ref nw, .ref sp, .ref rd, .ref la, .ref tr, .ref ti, .int 0, .ref ch, .ref td, .ref gr, .int 0, .int 0])), (tp, .inl (kt, 600, .inl ft))] s.heap.size = A at hD ⊢
  have hA : ∀ q : Nat, s.heap.size ≤ q → A q := fun q h => by rw [← hAe]; exact Or.inr h
  have hS : va_S A s.heap s.heap [] := va_S.rf
  have hP : va_P (dC, dI) z_Cl [(h0, .inr (10, [.ref tp, .int 4, .ref nw, .ref sp, .ref rd, .ref la, .ref tr, .ref ti, .int 0, .ref ch, .ref td, .ref gr, .int 0, .int 0])), (tp, .inl (kt, 600, .inl ft))] s.heap := hP
  have hl := lv_entry ([.ref h0, .int p1]) (n := 3) (Nat.le_of_ble_eq_true rfl)
  rw [lg_entry_eq]
  generalize (lg_sl ([.ref h0, .int p1]) ++ List.replicate (3 - (lg_sl ([.ref h0, .int p1])).length) Slot.unset).toArray = ls at hl ⊢
  have hl : lv_has ls 3 [(0, .ref h0), (1, .int p1)] := hl
  refine lv_bipush (v := 24) hx hb dX10_feedNumber_0 (by decide) ?_
  refine lv_istore_n (lv' := [(2, .int 24), (0, .ref h0), (1, .int p1)]) hx hb dX10_feedNumber_2 rfl hl (by decide) rfl (fun ls hl => ?_)
  refine lv_iload_n hx hb dX10_feedNumber_3 rfl (lv_at hl 0 rfl) ?_
  refine lv_if_lt (tgt := 55) hx hb dX10_feedNumber_4 (by decide) (fun h9 => absurd h9 (by decide)) (fun _ => ?_)
  refine lv_aload_n hx hb dX10_feedNumber_7 rfl (lv_at hl 1 rfl) ?_
  refine va_get (D := (dC, dI)) (ci := 10) (v := .int 4) (C := RX10) (T := TX10) (N := 14) hx hb hts hin_10 hown hK hP 0 rfl rfl 1 (by decide) (hts (.fieldLink RX10 64 "LessonMaker" "fed" "I") (List.mem_of_getElem? (i := 1) rfl)) (fun _ h9 => h9) rfl dX10_feedNumber_8 ?_
  refine lv_if_lt (tgt := 49) hx hb dX10_feedNumber_11 (by decide) (fun h9 => absurd h9 (by decide)) (fun _ => ?_)
  refine lv_aload_n hx hb dX10_feedNumber_14 rfl (lv_at hl 1 rfl) ?_
  refine va_get (D := (dC, dI)) (ci := 10) (v := .int 4) (C := RX10) (T := TX10) (N := 14) hx hb hts hin_10 hown hK hP 0 rfl rfl 1 (by decide) (hts (.fieldLink RX10 64 "LessonMaker" "fed" "I") (List.mem_of_getElem? (i := 1) rfl)) (fun _ h9 => h9) rfl dX10_feedNumber_15 ?_
  refine lv_aload_n hx hb dX10_feedNumber_18 rfl (lv_at hl 1 rfl) ?_
  refine va_get (D := (dC, dI)) (ci := 10) (v := .ref tp) (C := RX10) (T := TX10) (N := 14) hx hb hts hin_10 hown hK hP 0 rfl rfl 0 (by decide) (hts (.fieldLink RX10 9 "LessonMaker" "tape" "[B") (List.mem_of_getElem? (i := 2) rfl)) (fun _ h9 => h9) rfl dX10_feedNumber_19 ?_
  refine va_alen hx hb hK hP 1 0 rfl rfl (v := 600) rfl dX10_feedNumber_22 ?_
  refine lv_icmp_ge (tgt := 49) hx hb dX10_feedNumber_23 (by decide) (fun h9 => absurd h9 (by decide)) (fun _ => ?_)
  refine lv_aload_n hx hb dX10_feedNumber_26 rfl (lv_at hl 1 rfl) ?_
  refine va_get (D := (dC, dI)) (ci := 10) (v := .ref tp) (C := RX10) (T := TX10) (N := 14) hx hb hts hin_10 hown hK hP 0 rfl rfl 0 (by decide) (hts (.fieldLink RX10 9 "LessonMaker" "tape" "[B") (List.mem_of_getElem? (i := 2) rfl)) (fun _ h9 => h9) rfl dX10_feedNumber_27 ?_
  refine lv_aload_n hx hb dX10_feedNumber_30 rfl (lv_at hl 1 rfl) ?_
  refine va_get (D := (dC, dI)) (ci := 10) (v := .int 4) (C := RX10) (T := TX10) (N := 14) hx hb hts hin_10 hown hK hP 0 rfl rfl 1 (by decide) (hts (.fieldLink RX10 64 "LessonMaker" "fed" "I") (List.mem_of_getElem? (i := 1) rfl)) (fun _ h9 => h9) rfl dX10_feedNumber_31 ?_
  refine lv_iload_n hx hb dX10_feedNumber_34 rfl (lv_at hl 2 rfl) ?_
  refine lv_iload_n hx hb dX10_feedNumber_35 rfl (lv_at hl 0 rfl) ?_
  refine lv_ishr hx hb dX10_feedNumber_36 ?_
  refine lv_topi (fun x_1 ex_1 => ?_)
  refine lv_i2b hx hb dX10_feedNumber_37 rfl ?_
  refine lv_topi (fun y_3 ey_3 => ?_)
  refine va_bast hx hb hK hP hD hS 1 0 rfl rfl (i := 4) (z_io (by decide)) dX10_feedNumber_38 (fun H locs hP hD hS => ?_)
  obtain ⟨g_4, eg_4⟩ : ∃ z, z = upd ft (Int32.toNatClampNeg 4) (vp_nar .byte y_3) := ⟨_, rfl⟩
  rw [← eg_4] at hP hD
  have hP : va_P (dC, dI) z_Cl [(h0, .inr (10, [.ref tp, .int 4, .ref nw, .ref sp, .ref rd, .ref la, .ref tr, .ref ti, .int 0, .ref ch, .ref td, .ref gr, .int 0, .int 0])), (tp, .inl (kt, 600, .inl g_4))] H := hP
  have hD : va_D A [(h0, .inr (10, [.ref tp, .int 4, .ref nw, .ref sp, .ref rd, .ref la, .ref tr, .ref ti, .int 0, .ref ch, .ref td, .ref gr, .int 0, .int 0])), (tp, .inl (kt, 600, .inl g_4))] := hD
  refine lv_aload_n hx hb dX10_feedNumber_39 rfl (lv_at hl 1 rfl) ?_
  refine lv_dup hx hb dX10_feedNumber_40 rfl ?_
  refine va_get (D := (dC, dI)) (ci := 10) (v := .int 4) (C := RX10) (T := TX10) (N := 14) hx hb hts hin_10 hown hK hP 0 rfl rfl 1 (by decide) (hts (.fieldLink RX10 64 "LessonMaker" "fed" "I") (List.mem_of_getElem? (i := 1) rfl)) (fun _ h9 => h9) rfl dX10_feedNumber_41 ?_
  refine lv_iconst (v := 1) hx hb dX10_feedNumber_44 (by decide) ?_
  refine lv_iadd hx hb dX10_feedNumber_45 ?_
  refine lv_topi (fun x_5 ex_5 => ?_)
  have ex_5 := ex_5.trans (show _ = (5 : Int32) by decide)
  subst ex_5
  refine va_put (D := (dC, dI)) (ci := 10) (v := .int 5) (ty := .int) (C := RX10) (T := TX10) (N := 14) hx hb hts hin_10 tyX10 tyX10_ok nmX10 hown hK hP hD hS 0 rfl rfl 1 (by decide) (hts (.fieldLink RX10 64 "LessonMaker" "fed" "I") (List.mem_of_getElem? (i := 1) rfl)) (fun _ h9 => h9) rfl (by decide +kernel) rfl rfl (Nat.le_of_ble_eq_true rfl) dX10_feedNumber_46 (fun H locs hP hD hS => ?_)
  have hP : va_P (dC, dI) z_Cl [(h0, .inr (10, [.ref tp, .int 5, .ref nw, .ref sp, .ref rd, .ref la, .ref tr, .ref ti, .int 0, .ref ch, .ref td, .ref gr, .int 0, .int 0])), (tp, .inl (kt, 600, .inl g_4))] H := hP
  have hD : va_D A [(h0, .inr (10, [.ref tp, .int 5, .ref nw, .ref sp, .ref rd, .ref la, .ref tr, .ref ti, .int 0, .ref ch, .ref td, .ref gr, .int 0, .int 0])), (tp, .inl (kt, 600, .inl g_4))] := hD
  refine lv_iinc (v := 16) (lv' := [(2, .int 16), (0, .ref h0), (1, .int p1)]) hx hb dX10_feedNumber_49 hl (k := 0) rfl (by decide) (by decide) rfl (fun ls hl => ?_)
  refine lv_goto (tgt := 3) hx hb dX10_feedNumber_52 (by decide) ?_
  refine lv_iload_n hx hb dX10_feedNumber_3 rfl (lv_at hl 0 rfl) ?_
  refine lv_if_lt (tgt := 55) hx hb dX10_feedNumber_4 (by decide) (fun h9 => absurd h9 (by decide)) (fun _ => ?_)
  refine lv_aload_n hx hb dX10_feedNumber_7 rfl (lv_at hl 1 rfl) ?_
  refine va_get (D := (dC, dI)) (ci := 10) (v := .int 5) (C := RX10) (T := TX10) (N := 14) hx hb hts hin_10 hown hK hP 0 rfl rfl 1 (by decide) (hts (.fieldLink RX10 64 "LessonMaker" "fed" "I") (List.mem_of_getElem? (i := 1) rfl)) (fun _ h9 => h9) rfl dX10_feedNumber_8 ?_
  refine lv_if_lt (tgt := 49) hx hb dX10_feedNumber_11 (by decide) (fun h9 => absurd h9 (by decide)) (fun _ => ?_)
  refine lv_aload_n hx hb dX10_feedNumber_14 rfl (lv_at hl 1 rfl) ?_
  refine va_get (D := (dC, dI)) (ci := 10) (v := .int 5) (C := RX10) (T := TX10) (N := 14) hx hb hts hin_10 hown hK hP 0 rfl rfl 1 (by decide) (hts (.fieldLink RX10 64 "LessonMaker" "fed" "I") (List.mem_of_getElem? (i := 1) rfl)) (fun _ h9 => h9) rfl dX10_feedNumber_15 ?_
  refine lv_aload_n hx hb dX10_feedNumber_18 rfl (lv_at hl 1 rfl) ?_
  refine va_get (D := (dC, dI)) (ci := 10) (v := .ref tp) (C := RX10) (T := TX10) (N := 14) hx hb hts hin_10 hown hK hP 0 rfl rfl 0 (by decide) (hts (.fieldLink RX10 9 "LessonMaker" "tape" "[B") (List.mem_of_getElem? (i := 2) rfl)) (fun _ h9 => h9) rfl dX10_feedNumber_19 ?_
  refine va_alen hx hb hK hP 1 0 rfl rfl (v := 600) rfl dX10_feedNumber_22 ?_
  refine lv_icmp_ge (tgt := 49) hx hb dX10_feedNumber_23 (by decide) (fun h9 => absurd h9 (by decide)) (fun _ => ?_)
  refine lv_aload_n hx hb dX10_feedNumber_26 rfl (lv_at hl 1 rfl) ?_
  refine va_get (D := (dC, dI)) (ci := 10) (v := .ref tp) (C := RX10) (T := TX10) (N := 14) hx hb hts hin_10 hown hK hP 0 rfl rfl 0 (by decide) (hts (.fieldLink RX10 9 "LessonMaker" "tape" "[B") (List.mem_of_getElem? (i := 2) rfl)) (fun _ h9 => h9) rfl dX10_feedNumber_27 ?_
  refine lv_aload_n hx hb dX10_feedNumber_30 rfl (lv_at hl 1 rfl) ?_
  refine va_get (D := (dC, dI)) (ci := 10) (v := .int 5) (C := RX10) (T := TX10) (N := 14) hx hb hts hin_10 hown hK hP 0 rfl rfl 1 (by decide) (hts (.fieldLink RX10 64 "LessonMaker" "fed" "I") (List.mem_of_getElem? (i := 1) rfl)) (fun _ h9 => h9) rfl dX10_feedNumber_31 ?_
  refine lv_iload_n hx hb dX10_feedNumber_34 rfl (lv_at hl 2 rfl) ?_
  refine lv_iload_n hx hb dX10_feedNumber_35 rfl (lv_at hl 0 rfl) ?_
  refine lv_ishr hx hb dX10_feedNumber_36 ?_
  refine lv_topi (fun x_6 ex_6 => ?_)
  refine lv_i2b hx hb dX10_feedNumber_37 rfl ?_
  refine lv_topi (fun y_8 ey_8 => ?_)
  refine va_bast hx hb hK hP hD hS 1 0 rfl rfl (i := 5) (z_io (by decide)) dX10_feedNumber_38 (fun H locs hP hD hS => ?_)
  obtain ⟨g_9, eg_9⟩ : ∃ z, z = upd g_4 (Int32.toNatClampNeg 5) (vp_nar .byte y_8) := ⟨_, rfl⟩
  rw [← eg_9] at hP hD
  have hP : va_P (dC, dI) z_Cl [(h0, .inr (10, [.ref tp, .int 5, .ref nw, .ref sp, .ref rd, .ref la, .ref tr, .ref ti, .int 0, .ref ch, .ref td, .ref gr, .int 0, .int 0])), (tp, .inl (kt, 600, .inl g_9))] H := hP
  have hD : va_D A [(h0, .inr (10, [.ref tp, .int 5, .ref nw, .ref sp, .ref rd, .ref la, .ref tr, .ref ti, .int 0, .ref ch, .ref td, .ref gr, .int 0, .int 0])), (tp, .inl (kt, 600, .inl g_9))] := hD
  refine lv_aload_n hx hb dX10_feedNumber_39 rfl (lv_at hl 1 rfl) ?_
  refine lv_dup hx hb dX10_feedNumber_40 rfl ?_
  refine va_get (D := (dC, dI)) (ci := 10) (v := .int 5) (C := RX10) (T := TX10) (N := 14) hx hb hts hin_10 hown hK hP 0 rfl rfl 1 (by decide) (hts (.fieldLink RX10 64 "LessonMaker" "fed" "I") (List.mem_of_getElem? (i := 1) rfl)) (fun _ h9 => h9) rfl dX10_feedNumber_41 ?_
  refine lv_iconst (v := 1) hx hb dX10_feedNumber_44 (by decide) ?_
  refine lv_iadd hx hb dX10_feedNumber_45 ?_
  refine lv_topi (fun x_10 ex_10 => ?_)
  have ex_10 := ex_10.trans (show _ = (6 : Int32) by decide)
  subst ex_10
  refine va_put (D := (dC, dI)) (ci := 10) (v := .int 6) (ty := .int) (C := RX10) (T := TX10) (N := 14) hx hb hts hin_10 tyX10 tyX10_ok nmX10 hown hK hP hD hS 0 rfl rfl 1 (by decide) (hts (.fieldLink RX10 64 "LessonMaker" "fed" "I") (List.mem_of_getElem? (i := 1) rfl)) (fun _ h9 => h9) rfl (by decide +kernel) rfl rfl (Nat.le_of_ble_eq_true rfl) dX10_feedNumber_46 (fun H locs hP hD hS => ?_)
  have hP : va_P (dC, dI) z_Cl [(h0, .inr (10, [.ref tp, .int 6, .ref nw, .ref sp, .ref rd, .ref la, .ref tr, .ref ti, .int 0, .ref ch, .ref td, .ref gr, .int 0, .int 0])), (tp, .inl (kt, 600, .inl g_9))] H := hP
  have hD : va_D A [(h0, .inr (10, [.ref tp, .int 6, .ref nw, .ref sp, .ref rd, .ref la, .ref tr, .ref ti, .int 0, .ref ch, .ref td, .ref gr, .int 0, .int 0])), (tp, .inl (kt, 600, .inl g_9))] := hD
  refine lv_iinc (v := 8) (lv' := [(2, .int 8), (0, .ref h0), (1, .int p1)]) hx hb dX10_feedNumber_49 hl (k := 0) rfl (by decide) (by decide) rfl (fun ls hl => ?_)
  refine lv_goto (tgt := 3) hx hb dX10_feedNumber_52 (by decide) ?_
  refine lv_iload_n hx hb dX10_feedNumber_3 rfl (lv_at hl 0 rfl) ?_
  refine lv_if_lt (tgt := 55) hx hb dX10_feedNumber_4 (by decide) (fun h9 => absurd h9 (by decide)) (fun _ => ?_)
  refine lv_aload_n hx hb dX10_feedNumber_7 rfl (lv_at hl 1 rfl) ?_
  refine va_get (D := (dC, dI)) (ci := 10) (v := .int 6) (C := RX10) (T := TX10) (N := 14) hx hb hts hin_10 hown hK hP 0 rfl rfl 1 (by decide) (hts (.fieldLink RX10 64 "LessonMaker" "fed" "I") (List.mem_of_getElem? (i := 1) rfl)) (fun _ h9 => h9) rfl dX10_feedNumber_8 ?_
  refine lv_if_lt (tgt := 49) hx hb dX10_feedNumber_11 (by decide) (fun h9 => absurd h9 (by decide)) (fun _ => ?_)
  refine lv_aload_n hx hb dX10_feedNumber_14 rfl (lv_at hl 1 rfl) ?_
  refine va_get (D := (dC, dI)) (ci := 10) (v := .int 6) (C := RX10) (T := TX10) (N := 14) hx hb hts hin_10 hown hK hP 0 rfl rfl 1 (by decide) (hts (.fieldLink RX10 64 "LessonMaker" "fed" "I") (List.mem_of_getElem? (i := 1) rfl)) (fun _ h9 => h9) rfl dX10_feedNumber_15 ?_
  refine lv_aload_n hx hb dX10_feedNumber_18 rfl (lv_at hl 1 rfl) ?_
  refine va_get (D := (dC, dI)) (ci := 10) (v := .ref tp) (C := RX10) (T := TX10) (N := 14) hx hb hts hin_10 hown hK hP 0 rfl rfl 0 (by decide) (hts (.fieldLink RX10 9 "LessonMaker" "tape" "[B") (List.mem_of_getElem? (i := 2) rfl)) (fun _ h9 => h9) rfl dX10_feedNumber_19 ?_
  refine va_alen hx hb hK hP 1 0 rfl rfl (v := 600) rfl dX10_feedNumber_22 ?_
  refine lv_icmp_ge (tgt := 49) hx hb dX10_feedNumber_23 (by decide) (fun h9 => absurd h9 (by decide)) (fun _ => ?_)
  refine lv_aload_n hx hb dX10_feedNumber_26 rfl (lv_at hl 1 rfl) ?_
  refine va_get (D := (dC, dI)) (ci := 10) (v := .ref tp) (C := RX10) (T := TX10) (N := 14) hx hb hts hin_10 hown hK hP 0 rfl rfl 0 (by decide) (hts (.fieldLink RX10 9 "LessonMaker" "tape" "[B") (List.mem_of_getElem? (i := 2) rfl)) (fun _ h9 => h9) rfl dX10_feedNumber_27 ?_
  refine lv_aload_n hx hb dX10_feedNumber_30 rfl (lv_at hl 1 rfl) ?_
  refine va_get (D := (dC, dI)) (ci := 10) (v := .int 6) (C := RX10) (T := TX10) (N := 14) hx hb hts hin_10 hown hK hP 0 rfl rfl 1 (by decide) (hts (.fieldLink RX10 64 "LessonMaker" "fed" "I") (List.mem_of_getElem? (i := 1) rfl)) (fun _ h9 => h9) rfl dX10_feedNumber_31 ?_
  refine lv_iload_n hx hb dX10_feedNumber_34 rfl (lv_at hl 2 rfl) ?_
  refine lv_iload_n hx hb dX10_feedNumber_35 rfl (lv_at hl 0 rfl) ?_
  refine lv_ishr hx hb dX10_feedNumber_36 ?_
  refine lv_topi (fun x_11 ex_11 => ?_)
  refine lv_i2b hx hb dX10_feedNumber_37 rfl ?_
  refine lv_topi (fun y_13 ey_13 => ?_)
  refine va_bast hx hb hK hP hD hS 1 0 rfl rfl (i := 6) (z_io (by decide)) dX10_feedNumber_38 (fun H locs hP hD hS => ?_)
  obtain ⟨g_14, eg_14⟩ : ∃ z, z = upd g_9 (Int32.toNatClampNeg 6) (vp_nar .byte y_13) := ⟨_, rfl⟩
  rw [← eg_14] at hP hD
  have hP : va_P (dC, dI) z_Cl [(h0, .inr (10, [.ref tp, .int 6, .ref nw, .ref sp, .ref rd, .ref la, .ref tr, .ref ti, .int 0, .ref ch, .ref td, .ref gr, .int 0, .int 0])), (tp, .inl (kt, 600, .inl g_14))] H := hP
  have hD : va_D A [(h0, .inr (10, [.ref tp, .int 6, .ref nw, .ref sp, .ref rd, .ref la, .ref tr, .ref ti, .int 0, .ref ch, .ref td, .ref gr, .int 0, .int 0])), (tp, .inl (kt, 600, .inl g_14))] := hD
  refine lv_aload_n hx hb dX10_feedNumber_39 rfl (lv_at hl 1 rfl) ?_
  refine lv_dup hx hb dX10_feedNumber_40 rfl ?_
  refine va_get (D := (dC, dI)) (ci := 10) (v := .int 6) (C := RX10) (T := TX10) (N := 14) hx hb hts hin_10 hown hK hP 0 rfl rfl 1 (by decide) (hts (.fieldLink RX10 64 "LessonMaker" "fed" "I") (List.mem_of_getElem? (i := 1) rfl)) (fun _ h9 => h9) rfl dX10_feedNumber_41 ?_
  refine lv_iconst (v := 1) hx hb dX10_feedNumber_44 (by decide) ?_
  refine lv_iadd hx hb dX10_feedNumber_45 ?_
  refine lv_topi (fun x_15 ex_15 => ?_)
  have ex_15 := ex_15.trans (show _ = (7 : Int32) by decide)
  subst ex_15
  refine va_put (D := (dC, dI)) (ci := 10) (v := .int 7) (ty := .int) (C := RX10) (T := TX10) (N := 14) hx hb hts hin_10 tyX10 tyX10_ok nmX10 hown hK hP hD hS 0 rfl rfl 1 (by decide) (hts (.fieldLink RX10 64 "LessonMaker" "fed" "I") (List.mem_of_getElem? (i := 1) rfl)) (fun _ h9 => h9) rfl (by decide +kernel) rfl rfl (Nat.le_of_ble_eq_true rfl) dX10_feedNumber_46 (fun H locs hP hD hS => ?_)
  have hP : va_P (dC, dI) z_Cl [(h0, .inr (10, [.ref tp, .int 7, .ref nw, .ref sp, .ref rd, .ref la, .ref tr, .ref ti, .int 0, .ref ch, .ref td, .ref gr, .int 0, .int 0])), (tp, .inl (kt, 600, .inl g_14))] H := hP
  have hD : va_D A [(h0, .inr (10, [.ref tp, .int 7, .ref nw, .ref sp, .ref rd, .ref la, .ref tr, .ref ti, .int 0, .ref ch, .ref td, .ref gr, .int 0, .int 0])), (tp, .inl (kt, 600, .inl g_14))] := hD
  refine lv_iinc (v := 0) (lv' := [(2, .int 0), (0, .ref h0), (1, .int p1)]) hx hb dX10_feedNumber_49 hl (k := 0) rfl (by decide) (by decide) rfl (fun ls hl => ?_)
  refine lv_goto (tgt := 3) hx hb dX10_feedNumber_52 (by decide) ?_
  refine lv_iload_n hx hb dX10_feedNumber_3 rfl (lv_at hl 0 rfl) ?_
  refine lv_if_lt (tgt := 55) hx hb dX10_feedNumber_4 (by decide) (fun h9 => absurd h9 (by decide)) (fun _ => ?_)
  refine lv_aload_n hx hb dX10_feedNumber_7 rfl (lv_at hl 1 rfl) ?_
  refine va_get (D := (dC, dI)) (ci := 10) (v := .int 7) (C := RX10) (T := TX10) (N := 14) hx hb hts hin_10 hown hK hP 0 rfl rfl 1 (by decide) (hts (.fieldLink RX10 64 "LessonMaker" "fed" "I") (List.mem_of_getElem? (i := 1) rfl)) (fun _ h9 => h9) rfl dX10_feedNumber_8 ?_
  refine lv_if_lt (tgt := 49) hx hb dX10_feedNumber_11 (by decide) (fun h9 => absurd h9 (by decide)) (fun _ => ?_)
  refine lv_aload_n hx hb dX10_feedNumber_14 rfl (lv_at hl 1 rfl) ?_
  refine va_get (D := (dC, dI)) (ci := 10) (v := .int 7) (C := RX10) (T := TX10) (N := 14) hx hb hts hin_10 hown hK hP 0 rfl rfl 1 (by decide) (hts (.fieldLink RX10 64 "LessonMaker" "fed" "I") (List.mem_of_getElem? (i := 1) rfl)) (fun _ h9 => h9) rfl dX10_feedNumber_15 ?_
  refine lv_aload_n hx hb dX10_feedNumber_18 rfl (lv_at hl 1 rfl) ?_
  refine va_get (D := (dC, dI)) (ci := 10) (v := .ref tp) (C := RX10) (T := TX10) (N := 14) hx hb hts hin_10 hown hK hP 0 rfl rfl 0 (by decide) (hts (.fieldLink RX10 9 "LessonMaker" "tape" "[B") (List.mem_of_getElem? (i := 2) rfl)) (fun _ h9 => h9) rfl dX10_feedNumber_19 ?_
  refine va_alen hx hb hK hP 1 0 rfl rfl (v := 600) rfl dX10_feedNumber_22 ?_
  refine lv_icmp_ge (tgt := 49) hx hb dX10_feedNumber_23 (by decide) (fun h9 => absurd h9 (by decide)) (fun _ => ?_)
  refine lv_aload_n hx hb dX10_feedNumber_26 rfl (lv_at hl 1 rfl) ?_
  refine va_get (D := (dC, dI)) (ci := 10) (v := .ref tp) (C := RX10) (T := TX10) (N := 14) hx hb hts hin_10 hown hK hP 0 rfl rfl 0 (by decide) (hts (.fieldLink RX10 9 "LessonMaker" "tape" "[B") (List.mem_of_getElem? (i := 2) rfl)) (fun _ h9 => h9) rfl dX10_feedNumber_27 ?_
  refine lv_aload_n hx hb dX10_feedNumber_30 rfl (lv_at hl 1 rfl) ?_
  refine va_get (D := (dC, dI)) (ci := 10) (v := .int 7) (C := RX10) (T := TX10) (N := 14) hx hb hts hin_10 hown hK hP 0 rfl rfl 1 (by decide) (hts (.fieldLink RX10 64 "LessonMaker" "fed" "I") (List.mem_of_getElem? (i := 1) rfl)) (fun _ h9 => h9) rfl dX10_feedNumber_31 ?_
  refine lv_iload_n hx hb dX10_feedNumber_34 rfl (lv_at hl 2 rfl) ?_
  refine lv_iload_n hx hb dX10_feedNumber_35 rfl (lv_at hl 0 rfl) ?_
  refine lv_ishr hx hb dX10_feedNumber_36 ?_
  refine lv_topi (fun x_16 ex_16 => ?_)
  refine lv_i2b hx hb dX10_feedNumber_37 rfl ?_
  refine lv_topi (fun y_18 ey_18 => ?_)
  refine va_bast hx hb hK hP hD hS 1 0 rfl rfl (i := 7) (z_io (by decide)) dX10_feedNumber_38 (fun H locs hP hD hS => ?_)
  obtain ⟨g_19, eg_19⟩ : ∃ z, z = upd g_14 (Int32.toNatClampNeg 7) (vp_nar .byte y_18) := ⟨_, rfl⟩
  rw [← eg_19] at hP hD
  have hP : va_P (dC, dI) z_Cl [(h0, .inr (10, [.ref tp, .int 7, .ref nw, .ref sp, .ref rd, .ref la, .ref tr, .ref ti, .int 0, .ref ch, .ref td, .ref gr, .int 0, .int 0])), (tp, .inl (kt, 600, .inl g_19))] H := hP
  have hD : va_D A [(h0, .inr (10, [.ref tp, .int 7, .ref nw, .ref sp, .ref rd, .ref la, .ref tr, .ref ti, .int 0, .ref ch, .ref td, .ref gr, .int 0, .int 0])), (tp, .inl (kt, 600, .inl g_19))] := hD
  refine lv_aload_n hx hb dX10_feedNumber_39 rfl (lv_at hl 1 rfl) ?_
  refine lv_dup hx hb dX10_feedNumber_40 rfl ?_
  refine va_get (D := (dC, dI)) (ci := 10) (v := .int 7) (C := RX10) (T := TX10) (N := 14) hx hb hts hin_10 hown hK hP 0 rfl rfl 1 (by decide) (hts (.fieldLink RX10 64 "LessonMaker" "fed" "I") (List.mem_of_getElem? (i := 1) rfl)) (fun _ h9 => h9) rfl dX10_feedNumber_41 ?_
  refine lv_iconst (v := 1) hx hb dX10_feedNumber_44 (by decide) ?_
  refine lv_iadd hx hb dX10_feedNumber_45 ?_
  refine lv_topi (fun x_20 ex_20 => ?_)
  have ex_20 := ex_20.trans (show _ = (8 : Int32) by decide)
  subst ex_20
  refine va_put (D := (dC, dI)) (ci := 10) (v := .int 8) (ty := .int) (C := RX10) (T := TX10) (N := 14) hx hb hts hin_10 tyX10 tyX10_ok nmX10 hown hK hP hD hS 0 rfl rfl 1 (by decide) (hts (.fieldLink RX10 64 "LessonMaker" "fed" "I") (List.mem_of_getElem? (i := 1) rfl)) (fun _ h9 => h9) rfl (by decide +kernel) rfl rfl (Nat.le_of_ble_eq_true rfl) dX10_feedNumber_46 (fun H locs hP hD hS => ?_)
  have hP : va_P (dC, dI) z_Cl [(h0, .inr (10, [.ref tp, .int 8, .ref nw, .ref sp, .ref rd, .ref la, .ref tr, .ref ti, .int 0, .ref ch, .ref td, .ref gr, .int 0, .int 0])), (tp, .inl (kt, 600, .inl g_19))] H := hP
  have hD : va_D A [(h0, .inr (10, [.ref tp, .int 8, .ref nw, .ref sp, .ref rd, .ref la, .ref tr, .ref ti, .int 0, .ref ch, .ref td, .ref gr, .int 0, .int 0])), (tp, .inl (kt, 600, .inl g_19))] := hD
  refine lv_iinc (v := (-8)) (lv' := [(2, .int (-8)), (0, .ref h0), (1, .int p1)]) hx hb dX10_feedNumber_49 hl (k := 0) rfl (by decide) (by decide) rfl (fun ls hl => ?_)
  refine lv_goto (tgt := 3) hx hb dX10_feedNumber_52 (by decide) ?_
  refine lv_iload_n hx hb dX10_feedNumber_3 rfl (lv_at hl 0 rfl) ?_
  refine lv_if_lt (tgt := 55) hx hb dX10_feedNumber_4 (by decide) (fun _ => ?_) (fun h9 => absurd (by decide) h9)
  have hP9 := hP.sub (ws' := [(h0, .inr (10, [.ref tp, .int 8, .ref nw, .ref sp, .ref rd, .ref la, .ref tr, .ref ti, .int 0, .ref ch, .ref td, .ref gr, .int 0, .int 0])), (tp, .inl (kt, 600, .inl g_19))]) [0, 1] rfl
  have hD9 := hD.sub (ws' := [(h0, .inr (10, [.ref tp, .int 8, .ref nw, .ref sp, .ref rd, .ref la, .ref tr, .ref ti, .int 0, .ref ch, .ref td, .ref gr, .int 0, .int 0])), (tp, .inl (kt, 600, .inl g_19))]) [0, 1] (by decide) rfl
  have hK9 := hK.sub (tys' := [(kt, .byte)]) [0] rfl
  refine W.widen (k := 0) (n := 0) (Nat.le_of_ble_eq_true rfl) (Nat.le_of_ble_eq_true rfl) ?_
  exact W.vret hx hb hr (fun t ht hW => ⟨⟨(), rfl, trivial, g_19, by rw [ht]; exact hP9, va_K.moved hW.alike hK9, hD9⟩, hS.F ht⟩) hS.2.2 dX10_feedNumber_55

def z_wX10_feedNumber_2 : List Cond := .code yX10_feedNumber cX10_feedNumber 3 none :: ([.fieldLink RX10 64 "LessonMaker" "fed" "I", .fieldLink RX10 9 "LessonMaker" "tape" "[B"] ++ (u_ws RX10 TX10 14))
set_option maxHeartbeats 4000000 in
set_option maxRecDepth 100000 in
theorem c_X10_feedNumber_2 (l : Launch) (dC : Nat → ClassId) (dI : Nat → Nat → Nat) (h0 : Nat) (tp : Nat) (nw : Nat) (sp : Nat) (rd : Nat) (la : Nat) (tr : Nat) (ti : Nat) (ch : Nat) (td : Nat) (gr : Nat) (kt : ClassId) (ft : Nat → Int32) (p1 : Int32) (sz : Nat) : Met l yX10_feedNumber z_wX10_feedNumber_2 ({ frames := 0, cells := 0, slots := 0, locals := 0 }) (va_Pc [.ref h0, .int p1] (z_in dC dI [(h0, .inr (10, [.ref tp, .int 8, .ref nw, .ref sp, .ref rd, .ref la, .ref tr, .ref ti, .int 0, .ref ch, .ref td, .ref gr, .int 0, .int 0])), (tp, .inl (kt, 600, .inl ft))] [(kt, .byte)] sz)) (va_Qv (fun _ : Unit => True) (fun (_ : Unit) t => ∃ (ft2 : Nat → Int32), z_out dC dI (va_A [(h0, .inr (10, [.ref tp, .int 8, .ref nw, .ref sp, .ref rd, .ref la, .ref tr, .ref ti, .int 0, .ref ch, .ref td, .ref gr, .int 0, .int 0])), (tp, .inl (kt, 600, .inl ft))] sz) [(h0, .inr (10, [.ref tp, .int 12, .ref nw, .ref sp, .ref rd, .ref la, .ref tr, .ref ti, .int 0, .ref ch, .ref td, .ref gr, .int 0, .int 0])), (tp, .inl (kt, 600, .inl ft2))] [(kt, .byte)] t) (va_A [(h0, .inr (10, [.ref tp, .int 8, .ref nw, .ref sp, .ref rd, .ref la, .ref tr, .ref ti, .int 0, .ref ch, .ref td, .ref gr, .int 0, .int 0])), (tp, .inl (kt, 600, .inl ft))] sz)) 0 0 (va_A [(h0, .inr (10, [.ref tp, .int 8, .ref nw, .ref sp, .ref rd, .ref la, .ref tr, .ref ti, .int 0, .ref ch, .ref td, .ref gr, .int 0, .int 0])), (tp, .inl (kt, 600, .inl ft))] sz) := by
  refine Met.ofW (cc := cX10_feedNumber) (maxL := 3) (ret := none) (by decide) rfl ?_
  intro p e s m args below meth c s₁ B hml hv
  obtain ⟨rfl, hsz, hP, hK, hD0, hN⟩ := hv
  have hx := B.exec
  have hb := B.bytes
  have hr := B.returns
  have hts := atoms_spec (ws := z_wX10_feedNumber_2) B.pre
  have hown : s.vm.findClass RX10 = some m.cls := findClass_of_methodNamed B.named
  have hlocks := B.notSynchronized
  have hin_10 : ∀ w ∈ u_ws RX10 TX10 14, w ∈ z_wX10_feedNumber_2 := by decide +kernel
  subst hsz
  have hD := hD0.self (sz := s.heap.size)
  generalize hAe : va_A [(h0, .inr (10, [.ref tp, .int 8, .ref nw, .ref sp, .ref rd, .ref la, .ref tr, .ref ti, .int 0, .ref ch, .ref td, .ref gr, .int 0, .int 0])), (tp, .inl (kt, 600, .inl ft))] s.heap.size = A at hD ⊢
  have hA : ∀ q : Nat, s.heap.size ≤ q → A q := fun q h => by rw [← hAe]; exact Or.inr h
  have hS : va_S A s.heap s.heap [] := va_S.rf
  have hP : va_P (dC, dI) z_Cl [(h0, .inr (10, [.ref tp, .int 8, .ref nw, .ref sp, .ref rd, .ref la, .ref tr, .ref ti, .int 0, .ref ch, .ref td, .ref gr, .int 0, .int 0])), (tp, .inl (kt, 600, .inl ft))] s.heap := hP
  have hl := lv_entry ([.ref h0, .int p1]) (n := 3) (Nat.le_of_ble_eq_true rfl)
  rw [lg_entry_eq]
  generalize (lg_sl ([.ref h0, .int p1]) ++ List.replicate (3 - (lg_sl ([.ref h0, .int p1])).length) Slot.unset).toArray = ls at hl ⊢
  have hl : lv_has ls 3 [(0, .ref h0), (1, .int p1)] := hl
  refine lv_bipush (v := 24) hx hb dX10_feedNumber_0 (by decide) ?_
  refine lv_istore_n (lv' := [(2, .int 24), (0, .ref h0), (1, .int p1)]) hx hb dX10_feedNumber_2 rfl hl (by decide) rfl (fun ls hl => ?_)
  refine lv_iload_n hx hb dX10_feedNumber_3 rfl (lv_at hl 0 rfl) ?_
  refine lv_if_lt (tgt := 55) hx hb dX10_feedNumber_4 (by decide) (fun h9 => absurd h9 (by decide)) (fun _ => ?_)
  refine lv_aload_n hx hb dX10_feedNumber_7 rfl (lv_at hl 1 rfl) ?_
  refine va_get (D := (dC, dI)) (ci := 10) (v := .int 8) (C := RX10) (T := TX10) (N := 14) hx hb hts hin_10 hown hK hP 0 rfl rfl 1 (by decide) (hts (.fieldLink RX10 64 "LessonMaker" "fed" "I") (List.mem_of_getElem? (i := 1) rfl)) (fun _ h9 => h9) rfl dX10_feedNumber_8 ?_
  refine lv_if_lt (tgt := 49) hx hb dX10_feedNumber_11 (by decide) (fun h9 => absurd h9 (by decide)) (fun _ => ?_)
  refine lv_aload_n hx hb dX10_feedNumber_14 rfl (lv_at hl 1 rfl) ?_
  refine va_get (D := (dC, dI)) (ci := 10) (v := .int 8) (C := RX10) (T := TX10) (N := 14) hx hb hts hin_10 hown hK hP 0 rfl rfl 1 (by decide) (hts (.fieldLink RX10 64 "LessonMaker" "fed" "I") (List.mem_of_getElem? (i := 1) rfl)) (fun _ h9 => h9) rfl dX10_feedNumber_15 ?_
  refine lv_aload_n hx hb dX10_feedNumber_18 rfl (lv_at hl 1 rfl) ?_
  refine va_get (D := (dC, dI)) (ci := 10) (v := .ref tp) (C := RX10) (T := TX10) (N := 14) hx hb hts hin_10 hown hK hP 0 rfl rfl 0 (by decide) (hts (.fieldLink RX10 9 "LessonMaker" "tape" "[B") (List.mem_of_getElem? (i := 2) rfl)) (fun _ h9 => h9) rfl dX10_feedNumber_19 ?_
  refine va_alen hx hb hK hP 1 0 rfl rfl (v := 600) rfl dX10_feedNumber_22 ?_
  refine lv_icmp_ge (tgt := 49) hx hb dX10_feedNumber_23 (by decide) (fun h9 => absurd h9 (by decide)) (fun _ => ?_)
  refine lv_aload_n hx hb dX10_feedNumber_26 rfl (lv_at hl 1 rfl) ?_
  refine va_get (D := (dC, dI)) (ci := 10) (v := .ref tp) (C := RX10) (T := TX10) (N := 14) hx hb hts hin_10 hown hK hP 0 rfl rfl 0 (by decide) (hts (.fieldLink RX10 9 "LessonMaker" "tape" "[B") (List.mem_of_getElem? (i := 2) rfl)) (fun _ h9 => h9) rfl dX10_feedNumber_27 ?_
  refine lv_aload_n hx hb dX10_feedNumber_30 rfl (lv_at hl 1 rfl) ?_
  refine va_get (D := (dC, dI)) (ci := 10) (v := .int 8) (C := RX10) (T := TX10) (N := 14) hx hb hts hin_10 hown hK hP 0 rfl rfl 1 (by decide) (hts (.fieldLink RX10 64 "LessonMaker" "fed" "I") (List.mem_of_getElem? (i := 1) rfl)) (fun _ h9 => h9) rfl dX10_feedNumber_31 ?_
  refine lv_iload_n hx hb dX10_feedNumber_34 rfl (lv_at hl 2 rfl) ?_
  refine lv_iload_n hx hb dX10_feedNumber_35 rfl (lv_at hl 0 rfl) ?_
  refine lv_ishr hx hb dX10_feedNumber_36 ?_
  refine lv_topi (fun x_1 ex_1 => ?_)
  refine lv_i2b hx hb dX10_feedNumber_37 rfl ?_
  refine lv_topi (fun y_3 ey_3 => ?_)
  refine va_bast hx hb hK hP hD hS 1 0 rfl rfl (i := 8) (z_io (by decide)) dX10_feedNumber_38 (fun H locs hP hD hS => ?_)
  obtain ⟨g_4, eg_4⟩ : ∃ z, z = upd ft (Int32.toNatClampNeg 8) (vp_nar .byte y_3) := ⟨_, rfl⟩
  rw [← eg_4] at hP hD
  have hP : va_P (dC, dI) z_Cl [(h0, .inr (10, [.ref tp, .int 8, .ref nw, .ref sp, .ref rd, .ref la, .ref tr, .ref ti, .int 0, .ref ch, .ref td, .ref gr, .int 0, .int 0])), (tp, .inl (kt, 600, .inl g_4))] H := hP
  have hD : va_D A [(h0, .inr (10, [.ref tp, .int 8, .ref nw, .ref sp, .ref rd, .ref la, .ref tr, .ref ti, .int 0, .ref ch, .ref td, .ref gr, .int 0, .int 0])), (tp, .inl (kt, 600, .inl g_4))] := hD
  refine lv_aload_n hx hb dX10_feedNumber_39 rfl (lv_at hl 1 rfl) ?_
  refine lv_dup hx hb dX10_feedNumber_40 rfl ?_
  refine va_get (D := (dC, dI)) (ci := 10) (v := .int 8) (C := RX10) (T := TX10) (N := 14) hx hb hts hin_10 hown hK hP 0 rfl rfl 1 (by decide) (hts (.fieldLink RX10 64 "LessonMaker" "fed" "I") (List.mem_of_getElem? (i := 1) rfl)) (fun _ h9 => h9) rfl dX10_feedNumber_41 ?_
  refine lv_iconst (v := 1) hx hb dX10_feedNumber_44 (by decide) ?_
  refine lv_iadd hx hb dX10_feedNumber_45 ?_
  refine lv_topi (fun x_5 ex_5 => ?_)
  have ex_5 := ex_5.trans (show _ = (9 : Int32) by decide)
  subst ex_5
  refine va_put (D := (dC, dI)) (ci := 10) (v := .int 9) (ty := .int) (C := RX10) (T := TX10) (N := 14) hx hb hts hin_10 tyX10 tyX10_ok nmX10 hown hK hP hD hS 0 rfl rfl 1 (by decide) (hts (.fieldLink RX10 64 "LessonMaker" "fed" "I") (List.mem_of_getElem? (i := 1) rfl)) (fun _ h9 => h9) rfl (by decide +kernel) rfl rfl (Nat.le_of_ble_eq_true rfl) dX10_feedNumber_46 (fun H locs hP hD hS => ?_)
  have hP : va_P (dC, dI) z_Cl [(h0, .inr (10, [.ref tp, .int 9, .ref nw, .ref sp, .ref rd, .ref la, .ref tr, .ref ti, .int 0, .ref ch, .ref td, .ref gr, .int 0, .int 0])), (tp, .inl (kt, 600, .inl g_4))] H := hP
  have hD : va_D A [(h0, .inr (10, [.ref tp, .int 9, .ref nw, .ref sp, .ref rd, .ref la, .ref tr, .ref ti, .int 0, .ref ch, .ref td, .ref gr, .int 0, .int 0])), (tp, .inl (kt, 600, .inl g_4))] := hD
  refine lv_iinc (v := 16) (lv' := [(2, .int 16), (0, .ref h0), (1, .int p1)]) hx hb dX10_feedNumber_49 hl (k := 0) rfl (by decide) (by decide) rfl (fun ls hl => ?_)
  refine lv_goto (tgt := 3) hx hb dX10_feedNumber_52 (by decide) ?_
  refine lv_iload_n hx hb dX10_feedNumber_3 rfl (lv_at hl 0 rfl) ?_
  refine lv_if_lt (tgt := 55) hx hb dX10_feedNumber_4 (by decide) (fun h9 => absurd h9 (by decide)) (fun _ => ?_)
  refine lv_aload_n hx hb dX10_feedNumber_7 rfl (lv_at hl 1 rfl) ?_
  refine va_get (D := (dC, dI)) (ci := 10) (v := .int 9) (C := RX10) (T := TX10) (N := 14) hx hb hts hin_10 hown hK hP 0 rfl rfl 1 (by decide) (hts (.fieldLink RX10 64 "LessonMaker" "fed" "I") (List.mem_of_getElem? (i := 1) rfl)) (fun _ h9 => h9) rfl dX10_feedNumber_8 ?_
  refine lv_if_lt (tgt := 49) hx hb dX10_feedNumber_11 (by decide) (fun h9 => absurd h9 (by decide)) (fun _ => ?_)
  refine lv_aload_n hx hb dX10_feedNumber_14 rfl (lv_at hl 1 rfl) ?_
  refine va_get (D := (dC, dI)) (ci := 10) (v := .int 9) (C := RX10) (T := TX10) (N := 14) hx hb hts hin_10 hown hK hP 0 rfl rfl 1 (by decide) (hts (.fieldLink RX10 64 "LessonMaker" "fed" "I") (List.mem_of_getElem? (i := 1) rfl)) (fun _ h9 => h9) rfl dX10_feedNumber_15 ?_
  refine lv_aload_n hx hb dX10_feedNumber_18 rfl (lv_at hl 1 rfl) ?_
  refine va_get (D := (dC, dI)) (ci := 10) (v := .ref tp) (C := RX10) (T := TX10) (N := 14) hx hb hts hin_10 hown hK hP 0 rfl rfl 0 (by decide) (hts (.fieldLink RX10 9 "LessonMaker" "tape" "[B") (List.mem_of_getElem? (i := 2) rfl)) (fun _ h9 => h9) rfl dX10_feedNumber_19 ?_
  refine va_alen hx hb hK hP 1 0 rfl rfl (v := 600) rfl dX10_feedNumber_22 ?_
  refine lv_icmp_ge (tgt := 49) hx hb dX10_feedNumber_23 (by decide) (fun h9 => absurd h9 (by decide)) (fun _ => ?_)
  refine lv_aload_n hx hb dX10_feedNumber_26 rfl (lv_at hl 1 rfl) ?_
  refine va_get (D := (dC, dI)) (ci := 10) (v := .ref tp) (C := RX10) (T := TX10) (N := 14) hx hb hts hin_10 hown hK hP 0 rfl rfl 0 (by decide) (hts (.fieldLink RX10 9 "LessonMaker" "tape" "[B") (List.mem_of_getElem? (i := 2) rfl)) (fun _ h9 => h9) rfl dX10_feedNumber_27 ?_
  refine lv_aload_n hx hb dX10_feedNumber_30 rfl (lv_at hl 1 rfl) ?_
  refine va_get (D := (dC, dI)) (ci := 10) (v := .int 9) (C := RX10) (T := TX10) (N := 14) hx hb hts hin_10 hown hK hP 0 rfl rfl 1 (by decide) (hts (.fieldLink RX10 64 "LessonMaker" "fed" "I") (List.mem_of_getElem? (i := 1) rfl)) (fun _ h9 => h9) rfl dX10_feedNumber_31 ?_
  refine lv_iload_n hx hb dX10_feedNumber_34 rfl (lv_at hl 2 rfl) ?_
  refine lv_iload_n hx hb dX10_feedNumber_35 rfl (lv_at hl 0 rfl) ?_
  refine lv_ishr hx hb dX10_feedNumber_36 ?_
  refine lv_topi (fun x_6 ex_6 => ?_)
  refine lv_i2b hx hb dX10_feedNumber_37 rfl ?_
  refine lv_topi (fun y_8 ey_8 => ?_)
  refine va_bast hx hb hK hP hD hS 1 0 rfl rfl (i := 9) (z_io (by decide)) dX10_feedNumber_38 (fun H locs hP hD hS => ?_)
  obtain ⟨g_9, eg_9⟩ : ∃ z, z = upd g_4 (Int32.toNatClampNeg 9) (vp_nar .byte y_8) := ⟨_, rfl⟩
  rw [← eg_9] at hP hD
  have hP : va_P (dC, dI) z_Cl [(h0, .inr (10, [.ref tp, .int 9, .ref nw, .ref sp, .ref rd, .ref la, .ref tr, .ref ti, .int 0, .ref ch, .ref td, .ref gr, .int 0, .int 0])), (tp, .inl (kt, 600, .inl g_9))] H := hP
  have hD : va_D A [(h0, .inr (10, [.ref tp, .int 9, .ref nw, .ref sp, .ref rd, .ref la, .ref tr, .ref ti, .int 0, .ref ch, .ref td, .ref gr, .int 0, .int 0])), (tp, .inl (kt, 600, .inl g_9))] := hD
  refine lv_aload_n hx hb dX10_feedNumber_39 rfl (lv_at hl 1 rfl) ?_
  refine lv_dup hx hb dX10_feedNumber_40 rfl ?_
  refine va_get (D := (dC, dI)) (ci := 10) (v := .int 9) (C := RX10) (T := TX10) (N := 14) hx hb hts hin_10 hown hK hP 0 rfl rfl 1 (by decide) (hts (.fieldLink RX10 64 "LessonMaker" "fed" "I") (List.mem_of_getElem? (i := 1) rfl)) (fun _ h9 => h9) rfl dX10_feedNumber_41 ?_
  refine lv_iconst (v := 1) hx hb dX10_feedNumber_44 (by decide) ?_
  refine lv_iadd hx hb dX10_feedNumber_45 ?_
  refine lv_topi (fun x_10 ex_10 => ?_)
  have ex_10 := ex_10.trans (show _ = (10 : Int32) by decide)
  subst ex_10
  refine va_put (D := (dC, dI)) (ci := 10) (v := .int 10) (ty := .int) (C := RX10) (T := TX10) (N := 14) hx hb hts hin_10 tyX10 tyX10_ok nmX10 hown hK hP hD hS 0 rfl rfl 1 (by decide) (hts (.fieldLink RX10 64 "LessonMaker" "fed" "I") (List.mem_of_getElem? (i := 1) rfl)) (fun _ h9 => h9) rfl (by decide +kernel) rfl rfl (Nat.le_of_ble_eq_true rfl) dX10_feedNumber_46 (fun H locs hP hD hS => ?_)
  have hP : va_P (dC, dI) z_Cl [(h0, .inr (10, [.ref tp, .int 10, .ref nw, .ref sp, .ref rd, .ref la, .ref tr, .ref ti, .int 0, .ref ch, .ref td, .ref gr, .int 0, .int 0])), (tp, .inl (kt, 600, .inl g_9))] H := hP
  have hD : va_D A [(h0, .inr (10, [.ref tp, .int 10, .ref nw, .ref sp, .ref rd, .ref la, .ref tr, .ref ti, .int 0, .ref ch, .ref td, .ref gr, .int 0, .int 0])), (tp, .inl (kt, 600, .inl g_9))] := hD
  refine lv_iinc (v := 8) (lv' := [(2, .int 8), (0, .ref h0), (1, .int p1)]) hx hb dX10_feedNumber_49 hl (k := 0) rfl (by decide) (by decide) rfl (fun ls hl => ?_)
  refine lv_goto (tgt := 3) hx hb dX10_feedNumber_52 (by decide) ?_
  refine lv_iload_n hx hb dX10_feedNumber_3 rfl (lv_at hl 0 rfl) ?_
  refine lv_if_lt (tgt := 55) hx hb dX10_feedNumber_4 (by decide) (fun h9 => absurd h9 (by decide)) (fun _ => ?_)
  refine lv_aload_n hx hb dX10_feedNumber_7 rfl (lv_at hl 1 rfl) ?_
  refine va_get (D := (dC, dI)) (ci := 10) (v := .int 10) (C := RX10) (T := TX10) (N := 14) hx hb hts hin_10 hown hK hP 0 rfl rfl 1 (by decide) (hts (.fieldLink RX10 64 "LessonMaker" "fed" "I") (List.mem_of_getElem? (i := 1) rfl)) (fun _ h9 => h9) rfl dX10_feedNumber_8 ?_
  refine lv_if_lt (tgt := 49) hx hb dX10_feedNumber_11 (by decide) (fun h9 => absurd h9 (by decide)) (fun _ => ?_)
  refine lv_aload_n hx hb dX10_feedNumber_14 rfl (lv_at hl 1 rfl) ?_
  refine va_get (D := (dC, dI)) (ci := 10) (v := .int 10) (C := RX10) (T := TX10) (N := 14) hx hb hts hin_10 hown hK hP 0 rfl rfl 1 (by decide) (hts (.fieldLink RX10 64 "LessonMaker" "fed" "I") (List.mem_of_getElem? (i := 1) rfl)) (fun _ h9 => h9) rfl dX10_feedNumber_15 ?_
  refine lv_aload_n hx hb dX10_feedNumber_18 rfl (lv_at hl 1 rfl) ?_
  refine va_get (D := (dC, dI)) (ci := 10) (v := .ref tp) (C := RX10) (T := TX10) (N := 14) hx hb hts hin_10 hown hK hP 0 rfl rfl 0 (by decide) (hts (.fieldLink RX10 9 "LessonMaker" "tape" "[B") (List.mem_of_getElem? (i := 2) rfl)) (fun _ h9 => h9) rfl dX10_feedNumber_19 ?_
  refine va_alen hx hb hK hP 1 0 rfl rfl (v := 600) rfl dX10_feedNumber_22 ?_
  refine lv_icmp_ge (tgt := 49) hx hb dX10_feedNumber_23 (by decide) (fun h9 => absurd h9 (by decide)) (fun _ => ?_)
  refine lv_aload_n hx hb dX10_feedNumber_26 rfl (lv_at hl 1 rfl) ?_
  refine va_get (D := (dC, dI)) (ci := 10) (v := .ref tp) (C := RX10) (T := TX10) (N := 14) hx hb hts hin_10 hown hK hP 0 rfl rfl 0 (by decide) (hts (.fieldLink RX10 9 "LessonMaker" "tape" "[B") (List.mem_of_getElem? (i := 2) rfl)) (fun _ h9 => h9) rfl dX10_feedNumber_27 ?_
  refine lv_aload_n hx hb dX10_feedNumber_30 rfl (lv_at hl 1 rfl) ?_
  refine va_get (D := (dC, dI)) (ci := 10) (v := .int 10) (C := RX10) (T := TX10) (N := 14) hx hb hts hin_10 hown hK hP 0 rfl rfl 1 (by decide) (hts (.fieldLink RX10 64 "LessonMaker" "fed" "I") (List.mem_of_getElem? (i := 1) rfl)) (fun _ h9 => h9) rfl dX10_feedNumber_31 ?_
  refine lv_iload_n hx hb dX10_feedNumber_34 rfl (lv_at hl 2 rfl) ?_
  refine lv_iload_n hx hb dX10_feedNumber_35 rfl (lv_at hl 0 rfl) ?_
  refine lv_ishr hx hb dX10_feedNumber_36 ?_
  refine lv_topi (fun x_11 ex_11 => ?_)
  refine lv_i2b hx hb dX10_feedNumber_37 rfl ?_
  refine lv_topi (fun y_13 ey_13 => ?_)
  refine va_bast hx hb hK hP hD hS 1 0 rfl rfl (i := 10) (z_io (by decide)) dX10_feedNumber_38 (fun H locs hP hD hS => ?_)
  obtain ⟨g_14, eg_14⟩ : ∃ z, z = upd g_9 (Int32.toNatClampNeg 10) (vp_nar .byte y_13) := ⟨_, rfl⟩
  rw [← eg_14] at hP hD
  have hP : va_P (dC, dI) z_Cl [(h0, .inr (10, [.ref tp, .int 10, .ref nw, .ref sp, .ref rd, .ref la, .ref tr, .ref ti, .int 0, .ref ch, .ref td, .ref gr, .int 0, .int 0])), (tp, .inl (kt, 600, .inl g_14))] H := hP
  have hD : va_D A [(h0, .inr (10, [.ref tp, .int 10, .ref nw, .ref sp, .ref rd, .ref la, .ref tr, .ref ti, .int 0, .ref ch, .ref td, .ref gr, .int 0, .int 0])), (tp, .inl (kt, 600, .inl g_14))] := hD
  refine lv_aload_n hx hb dX10_feedNumber_39 rfl (lv_at hl 1 rfl) ?_
  refine lv_dup hx hb dX10_feedNumber_40 rfl ?_
  refine va_get (D := (dC, dI)) (ci := 10) (v := .int 10) (C := RX10) (T := TX10) (N := 14) hx hb hts hin_10 hown hK hP 0 rfl rfl 1 (by decide) (hts (.fieldLink RX10 64 "LessonMaker" "fed" "I") (List.mem_of_getElem? (i := 1) rfl)) (fun _ h9 => h9) rfl dX10_feedNumber_41 ?_
  refine lv_iconst (v := 1) hx hb dX10_feedNumber_44 (by decide) ?_
  refine lv_iadd hx hb dX10_feedNumber_45 ?_
  refine lv_topi (fun x_15 ex_15 => ?_)
  have ex_15 := ex_15.trans (show _ = (11 : Int32) by decide)
  subst ex_15
  refine va_put (D := (dC, dI)) (ci := 10) (v := .int 11) (ty := .int) (C := RX10) (T := TX10) (N := 14) hx hb hts hin_10 tyX10 tyX10_ok nmX10 hown hK hP hD hS 0 rfl rfl 1 (by decide) (hts (.fieldLink RX10 64 "LessonMaker" "fed" "I") (List.mem_of_getElem? (i := 1) rfl)) (fun _ h9 => h9) rfl (by decide +kernel) rfl rfl (Nat.le_of_ble_eq_true rfl) dX10_feedNumber_46 (fun H locs hP hD hS => ?_)
  have hP : va_P (dC, dI) z_Cl [(h0, .inr (10, [.ref tp, .int 11, .ref nw, .ref sp, .ref rd, .ref la, .ref tr, .ref ti, .int 0, .ref ch, .ref td, .ref gr, .int 0, .int 0])), (tp, .inl (kt, 600, .inl g_14))] H := hP
  have hD : va_D A [(h0, .inr (10, [.ref tp, .int 11, .ref nw, .ref sp, .ref rd, .ref la, .ref tr, .ref ti, .int 0, .ref ch, .ref td, .ref gr, .int 0, .int 0])), (tp, .inl (kt, 600, .inl g_14))] := hD
  refine lv_iinc (v := 0) (lv' := [(2, .int 0), (0, .ref h0), (1, .int p1)]) hx hb dX10_feedNumber_49 hl (k := 0) rfl (by decide) (by decide) rfl (fun ls hl => ?_)
  refine lv_goto (tgt := 3) hx hb dX10_feedNumber_52 (by decide) ?_
  refine lv_iload_n hx hb dX10_feedNumber_3 rfl (lv_at hl 0 rfl) ?_
  refine lv_if_lt (tgt := 55) hx hb dX10_feedNumber_4 (by decide) (fun h9 => absurd h9 (by decide)) (fun _ => ?_)
  refine lv_aload_n hx hb dX10_feedNumber_7 rfl (lv_at hl 1 rfl) ?_
  refine va_get (D := (dC, dI)) (ci := 10) (v := .int 11) (C := RX10) (T := TX10) (N := 14) hx hb hts hin_10 hown hK hP 0 rfl rfl 1 (by decide) (hts (.fieldLink RX10 64 "LessonMaker" "fed" "I") (List.mem_of_getElem? (i := 1) rfl)) (fun _ h9 => h9) rfl dX10_feedNumber_8 ?_
  refine lv_if_lt (tgt := 49) hx hb dX10_feedNumber_11 (by decide) (fun h9 => absurd h9 (by decide)) (fun _ => ?_)
  refine lv_aload_n hx hb dX10_feedNumber_14 rfl (lv_at hl 1 rfl) ?_
  refine va_get (D := (dC, dI)) (ci := 10) (v := .int 11) (C := RX10) (T := TX10) (N := 14) hx hb hts hin_10 hown hK hP 0 rfl rfl 1 (by decide) (hts (.fieldLink RX10 64 "LessonMaker" "fed" "I") (List.mem_of_getElem? (i := 1) rfl)) (fun _ h9 => h9) rfl dX10_feedNumber_15 ?_
  refine lv_aload_n hx hb dX10_feedNumber_18 rfl (lv_at hl 1 rfl) ?_
  refine va_get (D := (dC, dI)) (ci := 10) (v := .ref tp) (C := RX10) (T := TX10) (N := 14) hx hb hts hin_10 hown hK hP 0 rfl rfl 0 (by decide) (hts (.fieldLink RX10 9 "LessonMaker" "tape" "[B") (List.mem_of_getElem? (i := 2) rfl)) (fun _ h9 => h9) rfl dX10_feedNumber_19 ?_
  refine va_alen hx hb hK hP 1 0 rfl rfl (v := 600) rfl dX10_feedNumber_22 ?_
  refine lv_icmp_ge (tgt := 49) hx hb dX10_feedNumber_23 (by decide) (fun h9 => absurd h9 (by decide)) (fun _ => ?_)
  refine lv_aload_n hx hb dX10_feedNumber_26 rfl (lv_at hl 1 rfl) ?_
  refine va_get (D := (dC, dI)) (ci := 10) (v := .ref tp) (C := RX10) (T := TX10) (N := 14) hx hb hts hin_10 hown hK hP 0 rfl rfl 0 (by decide) (hts (.fieldLink RX10 9 "LessonMaker" "tape" "[B") (List.mem_of_getElem? (i := 2) rfl)) (fun _ h9 => h9) rfl dX10_feedNumber_27 ?_
  refine lv_aload_n hx hb dX10_feedNumber_30 rfl (lv_at hl 1 rfl) ?_
  refine va_get (D := (dC, dI)) (ci := 10) (v := .int 11) (C := RX10) (T := TX10) (N := 14) hx hb hts hin_10 hown hK hP 0 rfl rfl 1 (by decide) (hts (.fieldLink RX10 64 "LessonMaker" "fed" "I") (List.mem_of_getElem? (i := 1) rfl)) (fun _ h9 => h9) rfl dX10_feedNumber_31 ?_
  refine lv_iload_n hx hb dX10_feedNumber_34 rfl (lv_at hl 2 rfl) ?_
  refine lv_iload_n hx hb dX10_feedNumber_35 rfl (lv_at hl 0 rfl) ?_
  refine lv_ishr hx hb dX10_feedNumber_36 ?_
  refine lv_topi (fun x_16 ex_16 => ?_)
  refine lv_i2b hx hb dX10_feedNumber_37 rfl ?_
  refine lv_topi (fun y_18 ey_18 => ?_)
  refine va_bast hx hb hK hP hD hS 1 0 rfl rfl (i := 11) (z_io (by decide)) dX10_feedNumber_38 (fun H locs hP hD hS => ?_)
  obtain ⟨g_19, eg_19⟩ : ∃ z, z = upd g_14 (Int32.toNatClampNeg 11) (vp_nar .byte y_18) := ⟨_, rfl⟩
  rw [← eg_19] at hP hD
  have hP : va_P (dC, dI) z_Cl [(h0, .inr (10, [.ref tp, .int 11, .ref nw, .ref sp, .ref rd, .ref la, .ref tr, .ref ti, .int 0, .ref ch, .ref td, .ref gr, .int 0, .int 0])), (tp, .inl (kt, 600, .inl g_19))] H := hP
  have hD : va_D A [(h0, .inr (10, [.ref tp, .int 11, .ref nw, .ref sp, .ref rd, .ref la, .ref tr, .ref ti, .int 0, .ref ch, .ref td, .ref gr, .int 0, .int 0])), (tp, .inl (kt, 600, .inl g_19))] := hD
  refine lv_aload_n hx hb dX10_feedNumber_39 rfl (lv_at hl 1 rfl) ?_
  refine lv_dup hx hb dX10_feedNumber_40 rfl ?_
  refine va_get (D := (dC, dI)) (ci := 10) (v := .int 11) (C := RX10) (T := TX10) (N := 14) hx hb hts hin_10 hown hK hP 0 rfl rfl 1 (by decide) (hts (.fieldLink RX10 64 "LessonMaker" "fed" "I") (List.mem_of_getElem? (i := 1) rfl)) (fun _ h9 => h9) rfl dX10_feedNumber_41 ?_
  refine lv_iconst (v := 1) hx hb dX10_feedNumber_44 (by decide) ?_
  refine lv_iadd hx hb dX10_feedNumber_45 ?_
  refine lv_topi (fun x_20 ex_20 => ?_)
  have ex_20 := ex_20.trans (show _ = (12 : Int32) by decide)
  subst ex_20
  refine va_put (D := (dC, dI)) (ci := 10) (v := .int 12) (ty := .int) (C := RX10) (T := TX10) (N := 14) hx hb hts hin_10 tyX10 tyX10_ok nmX10 hown hK hP hD hS 0 rfl rfl 1 (by decide) (hts (.fieldLink RX10 64 "LessonMaker" "fed" "I") (List.mem_of_getElem? (i := 1) rfl)) (fun _ h9 => h9) rfl (by decide +kernel) rfl rfl (Nat.le_of_ble_eq_true rfl) dX10_feedNumber_46 (fun H locs hP hD hS => ?_)
  have hP : va_P (dC, dI) z_Cl [(h0, .inr (10, [.ref tp, .int 12, .ref nw, .ref sp, .ref rd, .ref la, .ref tr, .ref ti, .int 0, .ref ch, .ref td, .ref gr, .int 0, .int 0])), (tp, .inl (kt, 600, .inl g_19))] H := hP
  have hD : va_D A [(h0, .inr (10, [.ref tp, .int 12, .ref nw, .ref sp, .ref rd, .ref la, .ref tr, .ref ti, .int 0, .ref ch, .ref td, .ref gr, .int 0, .int 0])), (tp, .inl (kt, 600, .inl g_19))] := hD
  refine lv_iinc (v := (-8)) (lv' := [(2, .int (-8)), (0, .ref h0), (1, .int p1)]) hx hb dX10_feedNumber_49 hl (k := 0) rfl (by decide) (by decide) rfl (fun ls hl => ?_)
  refine lv_goto (tgt := 3) hx hb dX10_feedNumber_52 (by decide) ?_
  refine lv_iload_n hx hb dX10_feedNumber_3 rfl (lv_at hl 0 rfl) ?_
  refine lv_if_lt (tgt := 55) hx hb dX10_feedNumber_4 (by decide) (fun _ => ?_) (fun h9 => absurd (by decide) h9)
  have hP9 := hP.sub (ws' := [(h0, .inr (10, [.ref tp, .int 12, .ref nw, .ref sp, .ref rd, .ref la, .ref tr, .ref ti, .int 0, .ref ch, .ref td, .ref gr, .int 0, .int 0])), (tp, .inl (kt, 600, .inl g_19))]) [0, 1] rfl
  have hD9 := hD.sub (ws' := [(h0, .inr (10, [.ref tp, .int 12, .ref nw, .ref sp, .ref rd, .ref la, .ref tr, .ref ti, .int 0, .ref ch, .ref td, .ref gr, .int 0, .int 0])), (tp, .inl (kt, 600, .inl g_19))]) [0, 1] (by decide) rfl
  have hK9 := hK.sub (tys' := [(kt, .byte)]) [0] rfl
  refine W.widen (k := 0) (n := 0) (Nat.le_of_ble_eq_true rfl) (Nat.le_of_ble_eq_true rfl) ?_
  exact W.vret hx hb hr (fun t ht hW => ⟨⟨(), rfl, trivial, g_19, by rw [ht]; exact hP9, va_K.moved hW.alike hK9, hD9⟩, hS.F ht⟩) hS.2.2 dX10_feedNumber_55

def z_wX10_feedNumber_3 : List Cond := .code yX10_feedNumber cX10_feedNumber 3 none :: ([.fieldLink RX10 64 "LessonMaker" "fed" "I", .fieldLink RX10 9 "LessonMaker" "tape" "[B"] ++ (u_ws RX10 TX10 14))
set_option maxHeartbeats 4000000 in
set_option maxRecDepth 100000 in
theorem c_X10_feedNumber_3 (l : Launch) (dC : Nat → ClassId) (dI : Nat → Nat → Nat) (h0 : Nat) (tp : Nat) (nw : Nat) (sp : Nat) (rd : Nat) (la : Nat) (tr : Nat) (ti : Nat) (ch : Nat) (td : Nat) (gr : Nat) (kt : ClassId) (ft : Nat → Int32) (p1 : Int32) (sz : Nat) : Met l yX10_feedNumber z_wX10_feedNumber_3 ({ frames := 0, cells := 0, slots := 0, locals := 0 }) (va_Pc [.ref h0, .int p1] (z_in dC dI [(h0, .inr (10, [.ref tp, .int 12, .ref nw, .ref sp, .ref rd, .ref la, .ref tr, .ref ti, .int 0, .ref ch, .ref td, .ref gr, .int 0, .int 0])), (tp, .inl (kt, 600, .inl ft))] [(kt, .byte)] sz)) (va_Qv (fun _ : Unit => True) (fun (_ : Unit) t => ∃ (ft2 : Nat → Int32), z_out dC dI (va_A [(h0, .inr (10, [.ref tp, .int 12, .ref nw, .ref sp, .ref rd, .ref la, .ref tr, .ref ti, .int 0, .ref ch, .ref td, .ref gr, .int 0, .int 0])), (tp, .inl (kt, 600, .inl ft))] sz) [(h0, .inr (10, [.ref tp, .int 16, .ref nw, .ref sp, .ref rd, .ref la, .ref tr, .ref ti, .int 0, .ref ch, .ref td, .ref gr, .int 0, .int 0])), (tp, .inl (kt, 600, .inl ft2))] [(kt, .byte)] t) (va_A [(h0, .inr (10, [.ref tp, .int 12, .ref nw, .ref sp, .ref rd, .ref la, .ref tr, .ref ti, .int 0, .ref ch, .ref td, .ref gr, .int 0, .int 0])), (tp, .inl (kt, 600, .inl ft))] sz)) 0 0 (va_A [(h0, .inr (10, [.ref tp, .int 12, .ref nw, .ref sp, .ref rd, .ref la, .ref tr, .ref ti, .int 0, .ref ch, .ref td, .ref gr, .int 0, .int 0])), (tp, .inl (kt, 600, .inl ft))] sz) := by
  refine Met.ofW (cc := cX10_feedNumber) (maxL := 3) (ret := none) (by decide) rfl ?_
  intro p e s m args below meth c s₁ B hml hv
  obtain ⟨rfl, hsz, hP, hK, hD0, hN⟩ := hv
  have hx := B.exec
  have hb := B.bytes
  have hr := B.returns
  have hts := atoms_spec (ws := z_wX10_feedNumber_3) B.pre
  have hown : s.vm.findClass RX10 = some m.cls := findClass_of_methodNamed B.named
  have hlocks := B.notSynchronized
  have hin_10 : ∀ w ∈ u_ws RX10 TX10 14, w ∈ z_wX10_feedNumber_3 := by decide +kernel
  subst hsz
  have hD := hD0.self (sz := s.heap.size)
  generalize hAe : va_A [(h0, .inr (10, [.ref tp, .int 12, .ref nw, .ref sp, .ref rd, .ref la, .ref tr, .ref ti, .int 0, .ref ch, .ref td, .ref gr, .int 0, .int 0])), (tp, .inl (kt, 600, .inl ft))] s.heap.size = A at hD ⊢
  have hA : ∀ q : Nat, s.heap.size ≤ q → A q := fun q h => by rw [← hAe]; exact Or.inr h
  have hS : va_S A s.heap s.heap [] := va_S.rf
  have hP : va_P (dC, dI) z_Cl [(h0, .inr (10, [.ref tp, .int 12, .ref nw, .ref sp, .ref rd, .ref la, .ref tr, .ref ti, .int 0, .ref ch, .ref td, .ref gr, .int 0, .int 0])), (tp, .inl (kt, 600, .inl ft))] s.heap := hP
  have hl := lv_entry ([.ref h0, .int p1]) (n := 3) (Nat.le_of_ble_eq_true rfl)
  rw [lg_entry_eq]
  generalize (lg_sl ([.ref h0, .int p1]) ++ List.replicate (3 - (lg_sl ([.ref h0, .int p1])).length) Slot.unset).toArray = ls at hl ⊢
  have hl : lv_has ls 3 [(0, .ref h0), (1, .int p1)] := hl
  refine lv_bipush (v := 24) hx hb dX10_feedNumber_0 (by decide) ?_
  refine lv_istore_n (lv' := [(2, .int 24), (0, .ref h0), (1, .int p1)]) hx hb dX10_feedNumber_2 rfl hl (by decide) rfl (fun ls hl => ?_)
  refine lv_iload_n hx hb dX10_feedNumber_3 rfl (lv_at hl 0 rfl) ?_
  refine lv_if_lt (tgt := 55) hx hb dX10_feedNumber_4 (by decide) (fun h9 => absurd h9 (by decide)) (fun _ => ?_)
  refine lv_aload_n hx hb dX10_feedNumber_7 rfl (lv_at hl 1 rfl) ?_
  refine va_get (D := (dC, dI)) (ci := 10) (v := .int 12) (C := RX10) (T := TX10) (N := 14) hx hb hts hin_10 hown hK hP 0 rfl rfl 1 (by decide) (hts (.fieldLink RX10 64 "LessonMaker" "fed" "I") (List.mem_of_getElem? (i := 1) rfl)) (fun _ h9 => h9) rfl dX10_feedNumber_8 ?_
  refine lv_if_lt (tgt := 49) hx hb dX10_feedNumber_11 (by decide) (fun h9 => absurd h9 (by decide)) (fun _ => ?_)
  refine lv_aload_n hx hb dX10_feedNumber_14 rfl (lv_at hl 1 rfl) ?_
  refine va_get (D := (dC, dI)) (ci := 10) (v := .int 12) (C := RX10) (T := TX10) (N := 14) hx hb hts hin_10 hown hK hP 0 rfl rfl 1 (by decide) (hts (.fieldLink RX10 64 "LessonMaker" "fed" "I") (List.mem_of_getElem? (i := 1) rfl)) (fun _ h9 => h9) rfl dX10_feedNumber_15 ?_
  refine lv_aload_n hx hb dX10_feedNumber_18 rfl (lv_at hl 1 rfl) ?_
  refine va_get (D := (dC, dI)) (ci := 10) (v := .ref tp) (C := RX10) (T := TX10) (N := 14) hx hb hts hin_10 hown hK hP 0 rfl rfl 0 (by decide) (hts (.fieldLink RX10 9 "LessonMaker" "tape" "[B") (List.mem_of_getElem? (i := 2) rfl)) (fun _ h9 => h9) rfl dX10_feedNumber_19 ?_
  refine va_alen hx hb hK hP 1 0 rfl rfl (v := 600) rfl dX10_feedNumber_22 ?_
  refine lv_icmp_ge (tgt := 49) hx hb dX10_feedNumber_23 (by decide) (fun h9 => absurd h9 (by decide)) (fun _ => ?_)
  refine lv_aload_n hx hb dX10_feedNumber_26 rfl (lv_at hl 1 rfl) ?_
  refine va_get (D := (dC, dI)) (ci := 10) (v := .ref tp) (C := RX10) (T := TX10) (N := 14) hx hb hts hin_10 hown hK hP 0 rfl rfl 0 (by decide) (hts (.fieldLink RX10 9 "LessonMaker" "tape" "[B") (List.mem_of_getElem? (i := 2) rfl)) (fun _ h9 => h9) rfl dX10_feedNumber_27 ?_
  refine lv_aload_n hx hb dX10_feedNumber_30 rfl (lv_at hl 1 rfl) ?_
  refine va_get (D := (dC, dI)) (ci := 10) (v := .int 12) (C := RX10) (T := TX10) (N := 14) hx hb hts hin_10 hown hK hP 0 rfl rfl 1 (by decide) (hts (.fieldLink RX10 64 "LessonMaker" "fed" "I") (List.mem_of_getElem? (i := 1) rfl)) (fun _ h9 => h9) rfl dX10_feedNumber_31 ?_
  refine lv_iload_n hx hb dX10_feedNumber_34 rfl (lv_at hl 2 rfl) ?_
  refine lv_iload_n hx hb dX10_feedNumber_35 rfl (lv_at hl 0 rfl) ?_
  refine lv_ishr hx hb dX10_feedNumber_36 ?_
  refine lv_topi (fun x_1 ex_1 => ?_)
  refine lv_i2b hx hb dX10_feedNumber_37 rfl ?_
  refine lv_topi (fun y_3 ey_3 => ?_)
  refine va_bast hx hb hK hP hD hS 1 0 rfl rfl (i := 12) (z_io (by decide)) dX10_feedNumber_38 (fun H locs hP hD hS => ?_)
  obtain ⟨g_4, eg_4⟩ : ∃ z, z = upd ft (Int32.toNatClampNeg 12) (vp_nar .byte y_3) := ⟨_, rfl⟩
  rw [← eg_4] at hP hD
  have hP : va_P (dC, dI) z_Cl [(h0, .inr (10, [.ref tp, .int 12, .ref nw, .ref sp, .ref rd, .ref la, .ref tr, .ref ti, .int 0, .ref ch, .ref td, .ref gr, .int 0, .int 0])), (tp, .inl (kt, 600, .inl g_4))] H := hP
  have hD : va_D A [(h0, .inr (10, [.ref tp, .int 12, .ref nw, .ref sp, .ref rd, .ref la, .ref tr, .ref ti, .int 0, .ref ch, .ref td, .ref gr, .int 0, .int 0])), (tp, .inl (kt, 600, .inl g_4))] := hD
  refine lv_aload_n hx hb dX10_feedNumber_39 rfl (lv_at hl 1 rfl) ?_
  refine lv_dup hx hb dX10_feedNumber_40 rfl ?_
  refine va_get (D := (dC, dI)) (ci := 10) (v := .int 12) (C := RX10) (T := TX10) (N := 14) hx hb hts hin_10 hown hK hP 0 rfl rfl 1 (by decide) (hts (.fieldLink RX10 64 "LessonMaker" "fed" "I") (List.mem_of_getElem? (i := 1) rfl)) (fun _ h9 => h9) rfl dX10_feedNumber_41 ?_
  refine lv_iconst (v := 1) hx hb dX10_feedNumber_44 (by decide) ?_
  refine lv_iadd hx hb dX10_feedNumber_45 ?_
  refine lv_topi (fun x_5 ex_5 => ?_)
  have ex_5 := ex_5.trans (show _ = (13 : Int32) by decide)
  subst ex_5
  refine va_put (D := (dC, dI)) (ci := 10) (v := .int 13) (ty := .int) (C := RX10) (T := TX10) (N := 14) hx hb hts hin_10 tyX10 tyX10_ok nmX10 hown hK hP hD hS 0 rfl rfl 1 (by decide) (hts (.fieldLink RX10 64 "LessonMaker" "fed" "I") (List.mem_of_getElem? (i := 1) rfl)) (fun _ h9 => h9) rfl (by decide +kernel) rfl rfl (Nat.le_of_ble_eq_true rfl) dX10_feedNumber_46 (fun H locs hP hD hS => ?_)
  have hP : va_P (dC, dI) z_Cl [(h0, .inr (10, [.ref tp, .int 13, .ref nw, .ref sp, .ref rd, .ref la, .ref tr, .ref ti, .int 0, .ref ch, .ref td, .ref gr, .int 0, .int 0])), (tp, .inl (kt, 600, .inl g_4))] H := hP
  have hD : va_D A [(h0, .inr (10, [.ref tp, .int 13, .ref nw, .ref sp, .ref rd, .ref la, .ref tr, .ref ti, .int 0, .ref ch, .ref td, .ref gr, .int 0, .int 0])), (tp, .inl (kt, 600, .inl g_4))] := hD
  refine lv_iinc (v := 16) (lv' := [(2, .int 16), (0, .ref h0), (1, .int p1)]) hx hb dX10_feedNumber_49 hl (k := 0) rfl (by decide) (by decide) rfl (fun ls hl => ?_)
  refine lv_goto (tgt := 3) hx hb dX10_feedNumber_52 (by decide) ?_
  refine lv_iload_n hx hb dX10_feedNumber_3 rfl (lv_at hl 0 rfl) ?_
  refine lv_if_lt (tgt := 55) hx hb dX10_feedNumber_4 (by decide) (fun h9 => absurd h9 (by decide)) (fun _ => ?_)
  refine lv_aload_n hx hb dX10_feedNumber_7 rfl (lv_at hl 1 rfl) ?_
  refine va_get (D := (dC, dI)) (ci := 10) (v := .int 13) (C := RX10) (T := TX10) (N := 14) hx hb hts hin_10 hown hK hP 0 rfl rfl 1 (by decide) (hts (.fieldLink RX10 64 "LessonMaker" "fed" "I") (List.mem_of_getElem? (i := 1) rfl)) (fun _ h9 => h9) rfl dX10_feedNumber_8 ?_
  refine lv_if_lt (tgt := 49) hx hb dX10_feedNumber_11 (by decide) (fun h9 => absurd h9 (by decide)) (fun _ => ?_)
  refine lv_aload_n hx hb dX10_feedNumber_14 rfl (lv_at hl 1 rfl) ?_
  refine va_get (D := (dC, dI)) (ci := 10) (v := .int 13) (C := RX10) (T := TX10) (N := 14) hx hb hts hin_10 hown hK hP 0 rfl rfl 1 (by decide) (hts (.fieldLink RX10 64 "LessonMaker" "fed" "I") (List.mem_of_getElem? (i := 1) rfl)) (fun _ h9 => h9) rfl dX10_feedNumber_15 ?_
  refine lv_aload_n hx hb dX10_feedNumber_18 rfl (lv_at hl 1 rfl) ?_
  refine va_get (D := (dC, dI)) (ci := 10) (v := .ref tp) (C := RX10) (T := TX10) (N := 14) hx hb hts hin_10 hown hK hP 0 rfl rfl 0 (by decide) (hts (.fieldLink RX10 9 "LessonMaker" "tape" "[B") (List.mem_of_getElem? (i := 2) rfl)) (fun _ h9 => h9) rfl dX10_feedNumber_19 ?_
  refine va_alen hx hb hK hP 1 0 rfl rfl (v := 600) rfl dX10_feedNumber_22 ?_
  refine lv_icmp_ge (tgt := 49) hx hb dX10_feedNumber_23 (by decide) (fun h9 => absurd h9 (by decide)) (fun _ => ?_)
  refine lv_aload_n hx hb dX10_feedNumber_26 rfl (lv_at hl 1 rfl) ?_
  refine va_get (D := (dC, dI)) (ci := 10) (v := .ref tp) (C := RX10) (T := TX10) (N := 14) hx hb hts hin_10 hown hK hP 0 rfl rfl 0 (by decide) (hts (.fieldLink RX10 9 "LessonMaker" "tape" "[B") (List.mem_of_getElem? (i := 2) rfl)) (fun _ h9 => h9) rfl dX10_feedNumber_27 ?_
  refine lv_aload_n hx hb dX10_feedNumber_30 rfl (lv_at hl 1 rfl) ?_
  refine va_get (D := (dC, dI)) (ci := 10) (v := .int 13) (C := RX10) (T := TX10) (N := 14) hx hb hts hin_10 hown hK hP 0 rfl rfl 1 (by decide) (hts (.fieldLink RX10 64 "LessonMaker" "fed" "I") (List.mem_of_getElem? (i := 1) rfl)) (fun _ h9 => h9) rfl dX10_feedNumber_31 ?_
  refine lv_iload_n hx hb dX10_feedNumber_34 rfl (lv_at hl 2 rfl) ?_
  refine lv_iload_n hx hb dX10_feedNumber_35 rfl (lv_at hl 0 rfl) ?_
  refine lv_ishr hx hb dX10_feedNumber_36 ?_
  refine lv_topi (fun x_6 ex_6 => ?_)
  refine lv_i2b hx hb dX10_feedNumber_37 rfl ?_
  refine lv_topi (fun y_8 ey_8 => ?_)
  refine va_bast hx hb hK hP hD hS 1 0 rfl rfl (i := 13) (z_io (by decide)) dX10_feedNumber_38 (fun H locs hP hD hS => ?_)
  obtain ⟨g_9, eg_9⟩ : ∃ z, z = upd g_4 (Int32.toNatClampNeg 13) (vp_nar .byte y_8) := ⟨_, rfl⟩
  rw [← eg_9] at hP hD
  have hP : va_P (dC, dI) z_Cl [(h0, .inr (10, [.ref tp, .int 13, .ref nw, .ref sp, .ref rd, .ref la, .ref tr, .ref ti, .int 0, .ref ch, .ref td, .ref gr, .int 0, .int 0])), (tp, .inl (kt, 600, .inl g_9))] H := hP
  have hD : va_D A [(h0, .inr (10, [.ref tp, .int 13, .ref nw, .ref sp, .ref rd, .ref la, .ref tr, .ref ti, .int 0, .ref ch, .ref td, .ref gr, .int 0, .int 0])), (tp, .inl (kt, 600, .inl g_9))] := hD
  refine lv_aload_n hx hb dX10_feedNumber_39 rfl (lv_at hl 1 rfl) ?_
  refine lv_dup hx hb dX10_feedNumber_40 rfl ?_
  refine va_get (D := (dC, dI)) (ci := 10) (v := .int 13) (C := RX10) (T := TX10) (N := 14) hx hb hts hin_10 hown hK hP 0 rfl rfl 1 (by decide) (hts (.fieldLink RX10 64 "LessonMaker" "fed" "I") (List.mem_of_getElem? (i := 1) rfl)) (fun _ h9 => h9) rfl dX10_feedNumber_41 ?_
  refine lv_iconst (v := 1) hx hb dX10_feedNumber_44 (by decide) ?_
  refine lv_iadd hx hb dX10_feedNumber_45 ?_
  refine lv_topi (fun x_10 ex_10 => ?_)
  have ex_10 := ex_10.trans (show _ = (14 : Int32) by decide)
  subst ex_10
  refine va_put (D := (dC, dI)) (ci := 10) (v := .int 14) (ty := .int) (C := RX10) (T := TX10) (N := 14) hx hb hts hin_10 tyX10 tyX10_ok nmX10 hown hK hP hD hS 0 rfl rfl 1 (by decide) (hts (.fieldLink RX10 64 "LessonMaker" "fed" "I") (List.mem_of_getElem? (i := 1) rfl)) (fun _ h9 => h9) rfl (by decide +kernel) rfl rfl (Nat.le_of_ble_eq_true rfl) dX10_feedNumber_46 (fun H locs hP hD hS => ?_)
  have hP : va_P (dC, dI) z_Cl [(h0, .inr (10, [.ref tp, .int 14, .ref nw, .ref sp, .ref rd, .ref la, .ref tr, .ref ti, .int 0, .ref ch, .ref td, .ref gr, .int 0, .int 0])), (tp, .inl (kt, 600, .inl g_9))] H := hP
  have hD : va_D A [(h0, .inr (10, [.ref tp, .int 14, .ref nw, .ref sp, .ref rd, .ref la, .ref tr, .ref ti, .int 0, .ref ch, .ref td, .ref gr, .int 0, .int 0])), (tp, .inl (kt, 600, .inl g_9))] := hD
  refine lv_iinc (v := 8) (lv' := [(2, .int 8), (0, .ref h0), (1, .int p1)]) hx hb dX10_feedNumber_49 hl (k := 0) rfl (by decide) (by decide) rfl (fun ls hl => ?_)
  refine lv_goto (tgt := 3) hx hb dX10_feedNumber_52 (by decide) ?_
  refine lv_iload_n hx hb dX10_feedNumber_3 rfl (lv_at hl 0 rfl) ?_
  refine lv_if_lt (tgt := 55) hx hb dX10_feedNumber_4 (by decide) (fun h9 => absurd h9 (by decide)) (fun _ => ?_)
  refine lv_aload_n hx hb dX10_feedNumber_7 rfl (lv_at hl 1 rfl) ?_
  refine va_get (D := (dC, dI)) (ci := 10) (v := .int 14) (C := RX10) (T := TX10) (N := 14) hx hb hts hin_10 hown hK hP 0 rfl rfl 1 (by decide) (hts (.fieldLink RX10 64 "LessonMaker" "fed" "I") (List.mem_of_getElem? (i := 1) rfl)) (fun _ h9 => h9) rfl dX10_feedNumber_8 ?_
  refine lv_if_lt (tgt := 49) hx hb dX10_feedNumber_11 (by decide) (fun h9 => absurd h9 (by decide)) (fun _ => ?_)
  refine lv_aload_n hx hb dX10_feedNumber_14 rfl (lv_at hl 1 rfl) ?_
  refine va_get (D := (dC, dI)) (ci := 10) (v := .int 14) (C := RX10) (T := TX10) (N := 14) hx hb hts hin_10 hown hK hP 0 rfl rfl 1 (by decide) (hts (.fieldLink RX10 64 "LessonMaker" "fed" "I") (List.mem_of_getElem? (i := 1) rfl)) (fun _ h9 => h9) rfl dX10_feedNumber_15 ?_
  refine lv_aload_n hx hb dX10_feedNumber_18 rfl (lv_at hl 1 rfl) ?_
  refine va_get (D := (dC, dI)) (ci := 10) (v := .ref tp) (C := RX10) (T := TX10) (N := 14) hx hb hts hin_10 hown hK hP 0 rfl rfl 0 (by decide) (hts (.fieldLink RX10 9 "LessonMaker" "tape" "[B") (List.mem_of_getElem? (i := 2) rfl)) (fun _ h9 => h9) rfl dX10_feedNumber_19 ?_
  refine va_alen hx hb hK hP 1 0 rfl rfl (v := 600) rfl dX10_feedNumber_22 ?_
  refine lv_icmp_ge (tgt := 49) hx hb dX10_feedNumber_23 (by decide) (fun h9 => absurd h9 (by decide)) (fun _ => ?_)
  refine lv_aload_n hx hb dX10_feedNumber_26 rfl (lv_at hl 1 rfl) ?_
  refine va_get (D := (dC, dI)) (ci := 10) (v := .ref tp) (C := RX10) (T := TX10) (N := 14) hx hb hts hin_10 hown hK hP 0 rfl rfl 0 (by decide) (hts (.fieldLink RX10 9 "LessonMaker" "tape" "[B") (List.mem_of_getElem? (i := 2) rfl)) (fun _ h9 => h9) rfl dX10_feedNumber_27 ?_
  refine lv_aload_n hx hb dX10_feedNumber_30 rfl (lv_at hl 1 rfl) ?_
  refine va_get (D := (dC, dI)) (ci := 10) (v := .int 14) (C := RX10) (T := TX10) (N := 14) hx hb hts hin_10 hown hK hP 0 rfl rfl 1 (by decide) (hts (.fieldLink RX10 64 "LessonMaker" "fed" "I") (List.mem_of_getElem? (i := 1) rfl)) (fun _ h9 => h9) rfl dX10_feedNumber_31 ?_
  refine lv_iload_n hx hb dX10_feedNumber_34 rfl (lv_at hl 2 rfl) ?_
  refine lv_iload_n hx hb dX10_feedNumber_35 rfl (lv_at hl 0 rfl) ?_
  refine lv_ishr hx hb dX10_feedNumber_36 ?_
  refine lv_topi (fun x_11 ex_11 => ?_)
  refine lv_i2b hx hb dX10_feedNumber_37 rfl ?_
  refine lv_topi (fun y_13 ey_13 => ?_)
  refine va_bast hx hb hK hP hD hS 1 0 rfl rfl (i := 14) (z_io (by decide)) dX10_feedNumber_38 (fun H locs hP hD hS => ?_)
  obtain ⟨g_14, eg_14⟩ : ∃ z, z = upd g_9 (Int32.toNatClampNeg 14) (vp_nar .byte y_13) := ⟨_, rfl⟩
  rw [← eg_14] at hP hD
  have hP : va_P (dC, dI) z_Cl [(h0, .inr (10, [.ref tp, .int 14, .ref nw, .ref sp, .ref rd, .ref la, .ref tr, .ref ti, .int 0, .ref ch, .ref td, .ref gr, .int 0, .int 0])), (tp, .inl (kt, 600, .inl g_14))] H := hP
  have hD : va_D A [(h0, .inr (10, [.ref tp, .int 14, .ref nw, .ref sp, .ref rd, .ref la, .ref tr, .ref ti, .int 0, .ref ch, .ref td, .ref gr, .int 0, .int 0])), (tp, .inl (kt, 600, .inl g_14))] := hD
  refine lv_aload_n hx hb dX10_feedNumber_39 rfl (lv_at hl 1 rfl) ?_
  refine lv_dup hx hb dX10_feedNumber_40 rfl ?_
  refine va_get (D := (dC, dI)) (ci := 10) (v := .int 14) (C := RX10) (T := TX10) (N := 14) hx hb hts hin_10 hown hK hP 0 rfl rfl 1 (by decide) (hts (.fieldLink RX10 64 "LessonMaker" "fed" "I") (List.mem_of_getElem? (i := 1) rfl)) (fun _ h9 => h9) rfl dX10_feedNumber_41 ?_
  refine lv_iconst (v := 1) hx hb dX10_feedNumber_44 (by decide) ?_
  refine lv_iadd hx hb dX10_feedNumber_45 ?_
  refine lv_topi (fun x_15 ex_15 => ?_)
  have ex_15 := ex_15.trans (show _ = (15 : Int32) by decide)
  subst ex_15
  refine va_put (D := (dC, dI)) (ci := 10) (v := .int 15) (ty := .int) (C := RX10) (T := TX10) (N := 14) hx hb hts hin_10 tyX10 tyX10_ok nmX10 hown hK hP hD hS 0 rfl rfl 1 (by decide) (hts (.fieldLink RX10 64 "LessonMaker" "fed" "I") (List.mem_of_getElem? (i := 1) rfl)) (fun _ h9 => h9) rfl (by decide +kernel) rfl rfl (Nat.le_of_ble_eq_true rfl) dX10_feedNumber_46 (fun H locs hP hD hS => ?_)
  have hP : va_P (dC, dI) z_Cl [(h0, .inr (10, [.ref tp, .int 15, .ref nw, .ref sp, .ref rd, .ref la, .ref tr, .ref ti, .int 0, .ref ch, .ref td, .ref gr, .int 0, .int 0])), (tp, .inl (kt, 600, .inl g_14))] H := hP
  have hD : va_D A [(h0, .inr (10, [.ref tp, .int 15, .ref nw, .ref sp, .ref rd, .ref la, .ref tr, .ref ti, .int 0, .ref ch, .ref td, .ref gr, .int 0, .int 0])), (tp, .inl (kt, 600, .inl g_14))] := hD
  refine lv_iinc (v := 0) (lv' := [(2, .int 0), (0, .ref h0), (1, .int p1)]) hx hb dX10_feedNumber_49 hl (k := 0) rfl (by decide) (by decide) rfl (fun ls hl => ?_)
  refine lv_goto (tgt := 3) hx hb dX10_feedNumber_52 (by decide) ?_
  refine lv_iload_n hx hb dX10_feedNumber_3 rfl (lv_at hl 0 rfl) ?_
  refine lv_if_lt (tgt := 55) hx hb dX10_feedNumber_4 (by decide) (fun h9 => absurd h9 (by decide)) (fun _ => ?_)
  refine lv_aload_n hx hb dX10_feedNumber_7 rfl (lv_at hl 1 rfl) ?_
  refine va_get (D := (dC, dI)) (ci := 10) (v := .int 15) (C := RX10) (T := TX10) (N := 14) hx hb hts hin_10 hown hK hP 0 rfl rfl 1 (by decide) (hts (.fieldLink RX10 64 "LessonMaker" "fed" "I") (List.mem_of_getElem? (i := 1) rfl)) (fun _ h9 => h9) rfl dX10_feedNumber_8 ?_
  refine lv_if_lt (tgt := 49) hx hb dX10_feedNumber_11 (by decide) (fun h9 => absurd h9 (by decide)) (fun _ => ?_)
  refine lv_aload_n hx hb dX10_feedNumber_14 rfl (lv_at hl 1 rfl) ?_
  refine va_get (D := (dC, dI)) (ci := 10) (v := .int 15) (C := RX10) (T := TX10) (N := 14) hx hb hts hin_10 hown hK hP 0 rfl rfl 1 (by decide) (hts (.fieldLink RX10 64 "LessonMaker" "fed" "I") (List.mem_of_getElem? (i := 1) rfl)) (fun _ h9 => h9) rfl dX10_feedNumber_15 ?_
  refine lv_aload_n hx hb dX10_feedNumber_18 rfl (lv_at hl 1 rfl) ?_
  refine va_get (D := (dC, dI)) (ci := 10) (v := .ref tp) (C := RX10) (T := TX10) (N := 14) hx hb hts hin_10 hown hK hP 0 rfl rfl 0 (by decide) (hts (.fieldLink RX10 9 "LessonMaker" "tape" "[B") (List.mem_of_getElem? (i := 2) rfl)) (fun _ h9 => h9) rfl dX10_feedNumber_19 ?_
  refine va_alen hx hb hK hP 1 0 rfl rfl (v := 600) rfl dX10_feedNumber_22 ?_
  refine lv_icmp_ge (tgt := 49) hx hb dX10_feedNumber_23 (by decide) (fun h9 => absurd h9 (by decide)) (fun _ => ?_)
  refine lv_aload_n hx hb dX10_feedNumber_26 rfl (lv_at hl 1 rfl) ?_
  refine va_get (D := (dC, dI)) (ci := 10) (v := .ref tp) (C := RX10) (T := TX10) (N := 14) hx hb hts hin_10 hown hK hP 0 rfl rfl 0 (by decide) (hts (.fieldLink RX10 9 "LessonMaker" "tape" "[B") (List.mem_of_getElem? (i := 2) rfl)) (fun _ h9 => h9) rfl dX10_feedNumber_27 ?_
  refine lv_aload_n hx hb dX10_feedNumber_30 rfl (lv_at hl 1 rfl) ?_
  refine va_get (D := (dC, dI)) (ci := 10) (v := .int 15) (C := RX10) (T := TX10) (N := 14) hx hb hts hin_10 hown hK hP 0 rfl rfl 1 (by decide) (hts (.fieldLink RX10 64 "LessonMaker" "fed" "I") (List.mem_of_getElem? (i := 1) rfl)) (fun _ h9 => h9) rfl dX10_feedNumber_31 ?_
  refine lv_iload_n hx hb dX10_feedNumber_34 rfl (lv_at hl 2 rfl) ?_
  refine lv_iload_n hx hb dX10_feedNumber_35 rfl (lv_at hl 0 rfl) ?_
  refine lv_ishr hx hb dX10_feedNumber_36 ?_
  refine lv_topi (fun x_16 ex_16 => ?_)
  refine lv_i2b hx hb dX10_feedNumber_37 rfl ?_
  refine lv_topi (fun y_18 ey_18 => ?_)
  refine va_bast hx hb hK hP hD hS 1 0 rfl rfl (i := 15) (z_io (by decide)) dX10_feedNumber_38 (fun H locs hP hD hS => ?_)
  obtain ⟨g_19, eg_19⟩ : ∃ z, z = upd g_14 (Int32.toNatClampNeg 15) (vp_nar .byte y_18) := ⟨_, rfl⟩
  rw [← eg_19] at hP hD
  have hP : va_P (dC, dI) z_Cl [(h0, .inr (10, [.ref tp, .int 15, .ref nw, .ref sp, .ref rd, .ref la, .ref tr, .ref ti, .int 0, .ref ch, .ref td, .ref gr, .int 0, .int 0])), (tp, .inl (kt, 600, .inl g_19))] H := hP
  have hD : va_D A [(h0, .inr (10, [.ref tp, .int 15, .ref nw, .ref sp, .ref rd, .ref la, .ref tr, .ref ti, .int 0, .ref ch, .ref td, .ref gr, .int 0, .int 0])), (tp, .inl (kt, 600, .inl g_19))] := hD
  refine lv_aload_n hx hb dX10_feedNumber_39 rfl (lv_at hl 1 rfl) ?_
  refine lv_dup hx hb dX10_feedNumber_40 rfl ?_
  refine va_get (D := (dC, dI)) (ci := 10) (v := .int 15) (C := RX10) (T := TX10) (N := 14) hx hb hts hin_10 hown hK hP 0 rfl rfl 1 (by decide) (hts (.fieldLink RX10 64 "LessonMaker" "fed" "I") (List.mem_of_getElem? (i := 1) rfl)) (fun _ h9 => h9) rfl dX10_feedNumber_41 ?_
  refine lv_iconst (v := 1) hx hb dX10_feedNumber_44 (by decide) ?_
  refine lv_iadd hx hb dX10_feedNumber_45 ?_
  refine lv_topi (fun x_20 ex_20 => ?_)
  have ex_20 := ex_20.trans (show _ = (16 : Int32) by decide)
  subst ex_20
  refine va_put (D := (dC, dI)) (ci := 10) (v := .int 16) (ty := .int) (C := RX10) (T := TX10) (N := 14) hx hb hts hin_10 tyX10 tyX10_ok nmX10 hown hK hP hD hS 0 rfl rfl 1 (by decide) (hts (.fieldLink RX10 64 "LessonMaker" "fed" "I") (List.mem_of_getElem? (i := 1) rfl)) (fun _ h9 => h9) rfl (by decide +kernel) rfl rfl (Nat.le_of_ble_eq_true rfl) dX10_feedNumber_46 (fun H locs hP hD hS => ?_)
  have hP : va_P (dC, dI) z_Cl [(h0, .inr (10, [.ref tp, .int 16, .ref nw, .ref sp, .ref rd, .ref la, .ref tr, .ref ti, .int 0, .ref ch, .ref td, .ref gr, .int 0, .int 0])), (tp, .inl (kt, 600, .inl g_19))] H := hP
  have hD : va_D A [(h0, .inr (10, [.ref tp, .int 16, .ref nw, .ref sp, .ref rd, .ref la, .ref tr, .ref ti, .int 0, .ref ch, .ref td, .ref gr, .int 0, .int 0])), (tp, .inl (kt, 600, .inl g_19))] := hD
  refine lv_iinc (v := (-8)) (lv' := [(2, .int (-8)), (0, .ref h0), (1, .int p1)]) hx hb dX10_feedNumber_49 hl (k := 0) rfl (by decide) (by decide) rfl (fun ls hl => ?_)
  refine lv_goto (tgt := 3) hx hb dX10_feedNumber_52 (by decide) ?_
  refine lv_iload_n hx hb dX10_feedNumber_3 rfl (lv_at hl 0 rfl) ?_
  refine lv_if_lt (tgt := 55) hx hb dX10_feedNumber_4 (by decide) (fun _ => ?_) (fun h9 => absurd (by decide) h9)
  have hP9 := hP.sub (ws' := [(h0, .inr (10, [.ref tp, .int 16, .ref nw, .ref sp, .ref rd, .ref la, .ref tr, .ref ti, .int 0, .ref ch, .ref td, .ref gr, .int 0, .int 0])), (tp, .inl (kt, 600, .inl g_19))]) [0, 1] rfl
  have hD9 := hD.sub (ws' := [(h0, .inr (10, [.ref tp, .int 16, .ref nw, .ref sp, .ref rd, .ref la, .ref tr, .ref ti, .int 0, .ref ch, .ref td, .ref gr, .int 0, .int 0])), (tp, .inl (kt, 600, .inl g_19))]) [0, 1] (by decide) rfl
  have hK9 := hK.sub (tys' := [(kt, .byte)]) [0] rfl
  refine W.widen (k := 0) (n := 0) (Nat.le_of_ble_eq_true rfl) (Nat.le_of_ble_eq_true rfl) ?_
  exact W.vret hx hb hr (fun t ht hW => ⟨⟨(), rfl, trivial, g_19, by rw [ht]; exact hP9, va_K.moved hW.alike hK9, hD9⟩, hS.F ht⟩) hS.2.2 dX10_feedNumber_55

def z_wX10_feedNumber_4 : List Cond := .code yX10_feedNumber cX10_feedNumber 3 none :: ([.fieldLink RX10 64 "LessonMaker" "fed" "I", .fieldLink RX10 9 "LessonMaker" "tape" "[B"] ++ (u_ws RX10 TX10 14))
set_option maxHeartbeats 4000000 in
set_option maxRecDepth 100000 in
theorem c_X10_feedNumber_4 (l : Launch) (dC : Nat → ClassId) (dI : Nat → Nat → Nat) (h0 : Nat) (tp : Nat) (nw : Nat) (sp : Nat) (rd : Nat) (la : Nat) (tr : Nat) (ti : Nat) (ch : Nat) (td : Nat) (gr : Nat) (kt : ClassId) (ft : Nat → Int32) (p1 : Int32) (sz : Nat) : Met l yX10_feedNumber z_wX10_feedNumber_4 ({ frames := 0, cells := 0, slots := 0, locals := 0 }) (va_Pc [.ref h0, .int p1] (z_in dC dI [(h0, .inr (10, [.ref tp, .int 16, .ref nw, .ref sp, .ref rd, .ref la, .ref tr, .ref ti, .int 0, .ref ch, .ref td, .ref gr, .int 0, .int 0])), (tp, .inl (kt, 600, .inl ft))] [(kt, .byte)] sz)) (va_Qv (fun _ : Unit => True) (fun (_ : Unit) t => ∃ (ft2 : Nat → Int32), z_out dC dI (va_A [(h0, .inr (10, [.ref tp, .int 16, .ref nw, .ref sp, .ref rd, .ref la, .ref tr, .ref ti, .int 0, .ref ch, .ref td, .ref gr, .int 0, .int 0])), (tp, .inl (kt, 600, .inl ft))] sz) [(h0, .inr (10, [.ref tp, .int 20, .ref nw, .ref sp, .ref rd, .ref la, .ref tr, .ref ti, .int 0, .ref ch, .ref td, .ref gr, .int 0, .int 0])), (tp, .inl (kt, 600, .inl ft2))] [(kt, .byte)] t) (va_A [(h0, .inr (10, [.ref tp, .int 16, .ref nw, .ref sp, .ref rd, .ref la, .ref tr, .ref ti, .int 0, .ref ch, .ref td, .ref gr, .int 0, .int 0])), (tp, .inl (kt, 600, .inl ft))] sz)) 0 0 (va_A [(h0, .inr (10, [.ref tp, .int 16, .ref nw, .ref sp, .ref rd, .ref la, .ref tr, .ref ti, .int 0, .ref ch, .ref td, .ref gr, .int 0, .int 0])), (tp, .inl (kt, 600, .inl ft))] sz) := by
  refine Met.ofW (cc := cX10_feedNumber) (maxL := 3) (ret := none) (by decide) rfl ?_
  intro p e s m args below meth c s₁ B hml hv
  obtain ⟨rfl, hsz, hP, hK, hD0, hN⟩ := hv
  have hx := B.exec
  have hb := B.bytes
  have hr := B.returns
  have hts := atoms_spec (ws := z_wX10_feedNumber_4) B.pre
  have hown : s.vm.findClass RX10 = some m.cls := findClass_of_methodNamed B.named
  have hlocks := B.notSynchronized
  have hin_10 : ∀ w ∈ u_ws RX10 TX10 14, w ∈ z_wX10_feedNumber_4 := by decide +kernel
  subst hsz
  have hD := hD0.self (sz := s.heap.size)
  generalize hAe : va_A [(h0, .inr (10, [.ref tp, .int 16, .ref nw, .ref sp, .ref rd, .ref la, .ref tr, .ref ti, .int 0, .ref ch, .ref td, .ref gr, .int 0, .int 0])), (tp, .inl (kt, 600, .inl ft))] s.heap.size = A at hD ⊢
  have hA : ∀ q : Nat, s.heap.size ≤ q → A q := fun q h => by rw [← hAe]; exact Or.inr h
  have hS : va_S A s.heap s.heap [] := va_S.rf
  have hP : va_P (dC, dI) z_Cl [(h0, .inr (10, [.ref tp, .int 16, .ref nw, .ref sp, .ref rd, .ref la, .ref tr, .ref ti, .int 0, .ref ch, .ref td, .ref gr, .int 0, .int 0])), (tp, .inl (kt, 600, .inl ft))] s.heap := hP
  have hl := lv_entry ([.ref h0, .int p1]) (n := 3) (Nat.le_of_ble_eq_true rfl)
  rw [lg_entry_eq]
  generalize (lg_sl ([.ref h0, .int p1]) ++ List.replicate (3 - (lg_sl ([.ref h0, .int p1])).length) Slot.unset).toArray = ls at hl ⊢
  have hl : lv_has ls 3 [(0, .ref h0), (1, .int p1)] := hl
  refine lv_bipush (v := 24) hx hb dX10_feedNumber_0 (by decide) ?_
  refine lv_istore_n (lv' := [(2, .int 24), (0, .ref h0), (1, .int p1)]) hx hb dX10_feedNumber_2 rfl hl (by decide) rfl (fun ls hl => ?_)
  refine lv_iload_n hx hb dX10_feedNumber_3 rfl (lv_at hl 0 rfl) ?_
  refine lv_if_lt (tgt := 55) hx hb dX10_feedNumber_4 (by decide) (fun h9 => absurd h9 (by decide)) (fun _ => ?_)
  refine lv_aload_n hx hb dX10_feedNumber_7 rfl (lv_at hl 1 rfl) ?_
  refine va_get (D := (dC, dI)) (ci := 10) (v := .int 16) (C := RX10) (T := TX10) (N := 14) hx hb hts hin_10 hown hK hP 0 rfl rfl 1 (by decide) (hts (.fieldLink RX10 64 "LessonMaker" "fed" "I") (List.mem_of_getElem? (i := 1) rfl)) (fun _ h9 => h9) rfl dX10_feedNumber_8 ?_
  refine lv_if_lt (tgt := 49) hx hb dX10_feedNumber_11 (by decide) (fun h9 => absurd h9 (by decide)) (fun _ => ?_)
  refine lv_aload_n hx hb dX10_feedNumber_14 rfl (lv_at hl 1 rfl) ?_
  refine va_get (D := (dC, dI)) (ci := 10) (v := .int 16) (C := RX10) (T := TX10) (N := 14) hx hb hts hin_10 hown hK hP 0 rfl rfl 1 (by decide) (hts (.fieldLink RX10 64 "LessonMaker" "fed" "I") (List.mem_of_getElem? (i := 1) rfl)) (fun _ h9 => h9) rfl dX10_feedNumber_15 ?_
  refine lv_aload_n hx hb dX10_feedNumber_18 rfl (lv_at hl 1 rfl) ?_
  refine va_get (D := (dC, dI)) (ci := 10) (v := .ref tp) (C := RX10) (T := TX10) (N := 14) hx hb hts hin_10 hown hK hP 0 rfl rfl 0 (by decide) (hts (.fieldLink RX10 9 "LessonMaker" "tape" "[B") (List.mem_of_getElem? (i := 2) rfl)) (fun _ h9 => h9) rfl dX10_feedNumber_19 ?_
  refine va_alen hx hb hK hP 1 0 rfl rfl (v := 600) rfl dX10_feedNumber_22 ?_
  refine lv_icmp_ge (tgt := 49) hx hb dX10_feedNumber_23 (by decide) (fun h9 => absurd h9 (by decide)) (fun _ => ?_)
  refine lv_aload_n hx hb dX10_feedNumber_26 rfl (lv_at hl 1 rfl) ?_
  refine va_get (D := (dC, dI)) (ci := 10) (v := .ref tp) (C := RX10) (T := TX10) (N := 14) hx hb hts hin_10 hown hK hP 0 rfl rfl 0 (by decide) (hts (.fieldLink RX10 9 "LessonMaker" "tape" "[B") (List.mem_of_getElem? (i := 2) rfl)) (fun _ h9 => h9) rfl dX10_feedNumber_27 ?_
  refine lv_aload_n hx hb dX10_feedNumber_30 rfl (lv_at hl 1 rfl) ?_
  refine va_get (D := (dC, dI)) (ci := 10) (v := .int 16) (C := RX10) (T := TX10) (N := 14) hx hb hts hin_10 hown hK hP 0 rfl rfl 1 (by decide) (hts (.fieldLink RX10 64 "LessonMaker" "fed" "I") (List.mem_of_getElem? (i := 1) rfl)) (fun _ h9 => h9) rfl dX10_feedNumber_31 ?_
  refine lv_iload_n hx hb dX10_feedNumber_34 rfl (lv_at hl 2 rfl) ?_
  refine lv_iload_n hx hb dX10_feedNumber_35 rfl (lv_at hl 0 rfl) ?_
  refine lv_ishr hx hb dX10_feedNumber_36 ?_
  refine lv_topi (fun x_1 ex_1 => ?_)
  refine lv_i2b hx hb dX10_feedNumber_37 rfl ?_
  refine lv_topi (fun y_3 ey_3 => ?_)
  refine va_bast hx hb hK hP hD hS 1 0 rfl rfl (i := 16) (z_io (by decide)) dX10_feedNumber_38 (fun H locs hP hD hS => ?_)
  obtain ⟨g_4, eg_4⟩ : ∃ z, z = upd ft (Int32.toNatClampNeg 16) (vp_nar .byte y_3) := ⟨_, rfl⟩
  rw [← eg_4] at hP hD
  have hP : va_P (dC, dI) z_Cl [(h0, .inr (10, [.ref tp, .int 16, .ref nw, .ref sp, .ref rd, .ref la, .ref tr, .ref ti, .int 0, .ref ch, .ref td, .ref gr, .int 0, .int 0])), (tp, .inl (kt, 600, .inl g_4))] H := hP
  have hD : va_D A [(h0, .inr (10, [.ref tp, .int 16, .ref nw, .ref sp, .ref rd, .ref la, .ref tr, .ref ti, .int 0, .ref ch, .ref td, .ref gr, .int 0, .int 0])), (tp, .inl (kt, 600, .inl g_4))] := hD
  refine lv_aload_n hx hb dX10_feedNumber_39 rfl (lv_at hl 1 rfl) ?_
  refine lv_dup hx hb dX10_feedNumber_40 rfl ?_
  refine va_get (D := (dC, dI)) (ci := 10) (v := .int 16) (C := RX10) (T := TX10) (N := 14) hx hb hts hin_10 hown hK hP 0 rfl rfl 1 (by decide) (hts (.fieldLink RX10 64 "LessonMaker" "fed" "I") (List.mem_of_getElem? (i := 1) rfl)) (fun _ h9 => h9) rfl dX10_feedNumber_41 ?_
  refine lv_iconst (v := 1) hx hb dX10_feedNumber_44 (by decide) ?_
  refine lv_iadd hx hb dX10_feedNumber_45 ?_
  refine lv_topi (fun x_5 ex_5 => ?_)
  have ex_5 := ex_5.trans (show _ = (17 : Int32) by decide)
  subst ex_5
  refine va_put (D := (dC, dI)) (ci := 10) (v := .int 17) (ty := .int) (C := RX10) (T := TX10) (N := 14) hx hb hts hin_10 tyX10 tyX10_ok nmX10 hown hK hP hD hS 0 rfl rfl 1 (by decide) (hts (.fieldLink RX10 64 "LessonMaker" "fed" "I") (List.mem_of_getElem? (i := 1) rfl)) (fun _ h9 => h9) rfl (by decide +kernel) rfl rfl (Nat.le_of_ble_eq_true rfl) dX10_feedNumber_46 (fun H locs hP hD hS => ?_)
  have hP : va_P (dC, dI) z_Cl [(h0, .inr (10, [.ref tp, .int 17, .ref nw, .ref sp, .ref rd, .ref la, .ref tr, .ref ti, .int 0, .ref ch, .ref td, .ref gr, .int 0, .int 0])), (tp, .inl (kt, 600, .inl g_4))] H := hP
  have hD : va_D A [(h0, .inr (10, [.ref tp, .int 17, .ref nw, .ref sp, .ref rd, .ref la, .ref tr, .ref ti, .int 0, .ref ch, .ref td, .ref gr, .int 0, .int 0])), (tp, .inl (kt, 600, .inl g_4))] := hD
  refine lv_iinc (v := 16) (lv' := [(2, .int 16), (0, .ref h0), (1, .int p1)]) hx hb dX10_feedNumber_49 hl (k := 0) rfl (by decide) (by decide) rfl (fun ls hl => ?_)
  refine lv_goto (tgt := 3) hx hb dX10_feedNumber_52 (by decide) ?_
  refine lv_iload_n hx hb dX10_feedNumber_3 rfl (lv_at hl 0 rfl) ?_
  refine lv_if_lt (tgt := 55) hx hb dX10_feedNumber_4 (by decide) (fun h9 => absurd h9 (by decide)) (fun _ => ?_)
  refine lv_aload_n hx hb dX10_feedNumber_7 rfl (lv_at hl 1 rfl) ?_
  refine va_get (D := (dC, dI)) (ci := 10) (v := .int 17) (C := RX10) (T := TX10) (N := 14) hx hb hts hin_10 hown hK hP 0 rfl rfl 1 (by decide) (hts (.fieldLink RX10 64 "LessonMaker" "fed" "I") (List.mem_of_getElem? (i := 1) rfl)) (fun _ h9 => h9) rfl dX10_feedNumber_8 ?_
  refine lv_if_lt (tgt := 49) hx hb dX10_feedNumber_11 (by decide) (fun h9 => absurd h9 (by decide)) (fun _ => ?_)
  refine lv_aload_n hx hb dX10_feedNumber_14 rfl (lv_at hl 1 rfl) ?_
  refine va_get (D := (dC, dI)) (ci := 10) (v := .int 17) (C := RX10) (T := TX10) (N := 14) hx hb hts hin_10 hown hK hP 0 rfl rfl 1 (by decide) (hts (.fieldLink RX10 64 "LessonMaker" "fed" "I") (List.mem_of_getElem? (i := 1) rfl)) (fun _ h9 => h9) rfl dX10_feedNumber_15 ?_
  refine lv_aload_n hx hb dX10_feedNumber_18 rfl (lv_at hl 1 rfl) ?_
  refine va_get (D := (dC, dI)) (ci := 10) (v := .ref tp) (C := RX10) (T := TX10) (N := 14) hx hb hts hin_10 hown hK hP 0 rfl rfl 0 (by decide) (hts (.fieldLink RX10 9 "LessonMaker" "tape" "[B") (List.mem_of_getElem? (i := 2) rfl)) (fun _ h9 => h9) rfl dX10_feedNumber_19 ?_
  refine va_alen hx hb hK hP 1 0 rfl rfl (v := 600) rfl dX10_feedNumber_22 ?_
  refine lv_icmp_ge (tgt := 49) hx hb dX10_feedNumber_23 (by decide) (fun h9 => absurd h9 (by decide)) (fun _ => ?_)
  refine lv_aload_n hx hb dX10_feedNumber_26 rfl (lv_at hl 1 rfl) ?_
  refine va_get (D := (dC, dI)) (ci := 10) (v := .ref tp) (C := RX10) (T := TX10) (N := 14) hx hb hts hin_10 hown hK hP 0 rfl rfl 0 (by decide) (hts (.fieldLink RX10 9 "LessonMaker" "tape" "[B") (List.mem_of_getElem? (i := 2) rfl)) (fun _ h9 => h9) rfl dX10_feedNumber_27 ?_
  refine lv_aload_n hx hb dX10_feedNumber_30 rfl (lv_at hl 1 rfl) ?_
  refine va_get (D := (dC, dI)) (ci := 10) (v := .int 17) (C := RX10) (T := TX10) (N := 14) hx hb hts hin_10 hown hK hP 0 rfl rfl 1 (by decide) (hts (.fieldLink RX10 64 "LessonMaker" "fed" "I") (List.mem_of_getElem? (i := 1) rfl)) (fun _ h9 => h9) rfl dX10_feedNumber_31 ?_
  refine lv_iload_n hx hb dX10_feedNumber_34 rfl (lv_at hl 2 rfl) ?_
  refine lv_iload_n hx hb dX10_feedNumber_35 rfl (lv_at hl 0 rfl) ?_
  refine lv_ishr hx hb dX10_feedNumber_36 ?_
  refine lv_topi (fun x_6 ex_6 => ?_)
  refine lv_i2b hx hb dX10_feedNumber_37 rfl ?_
  refine lv_topi (fun y_8 ey_8 => ?_)
  refine va_bast hx hb hK hP hD hS 1 0 rfl rfl (i := 17) (z_io (by decide)) dX10_feedNumber_38 (fun H locs hP hD hS => ?_)
  obtain ⟨g_9, eg_9⟩ : ∃ z, z = upd g_4 (Int32.toNatClampNeg 17) (vp_nar .byte y_8) := ⟨_, rfl⟩
  rw [← eg_9] at hP hD
  have hP : va_P (dC, dI) z_Cl [(h0, .inr (10, [.ref tp, .int 17, .ref nw, .ref sp, .ref rd, .ref la, .ref tr, .ref ti, .int 0, .ref ch, .ref td, .ref gr, .int 0, .int 0])), (tp, .inl (kt, 600, .inl g_9))] H := hP
  have hD : va_D A [(h0, .inr (10, [.ref tp, .int 17, .ref nw, .ref sp, .ref rd, .ref la, .ref tr, .ref ti, .int 0, .ref ch, .ref td, .ref gr, .int 0, .int 0])), (tp, .inl (kt, 600, .inl g_9))] := hD
  refine lv_aload_n hx hb dX10_feedNumber_39 rfl (lv_at hl 1 rfl) ?_
  refine lv_dup hx hb dX10_feedNumber_40 rfl ?_
  refine va_get (D := (dC, dI)) (ci := 10) (v := .int 17) (C := RX10) (T := TX10) (N := 14) hx hb hts hin_10 hown hK hP 0 rfl rfl 1 (by decide) (hts (.fieldLink RX10 64 "LessonMaker" "fed" "I") (List.mem_of_getElem? (i := 1) rfl)) (fun _ h9 => h9) rfl dX10_feedNumber_41 ?_
  refine lv_iconst (v := 1) hx hb dX10_feedNumber_44 (by decide) ?_
  refine lv_iadd hx hb dX10_feedNumber_45 ?_
  refine lv_topi (fun x_10 ex_10 => ?_)
  have ex_10 := ex_10.trans (show _ = (18 : Int32) by decide)
  subst ex_10
  refine va_put (D := (dC, dI)) (ci := 10) (v := .int 18) (ty := .int) (C := RX10) (T := TX10) (N := 14) hx hb hts hin_10 tyX10 tyX10_ok nmX10 hown hK hP hD hS 0 rfl rfl 1 (by decide) (hts (.fieldLink RX10 64 "LessonMaker" "fed" "I") (List.mem_of_getElem? (i := 1) rfl)) (fun _ h9 => h9) rfl (by decide +kernel) rfl rfl (Nat.le_of_ble_eq_true rfl) dX10_feedNumber_46 (fun H locs hP hD hS => ?_)
  have hP : va_P (dC, dI) z_Cl [(h0, .inr (10, [.ref tp, .int 18, .ref nw, .ref sp, .ref rd, .ref la, .ref tr, .ref ti, .int 0, .ref ch, .ref td, .ref gr, .int 0, .int 0])), (tp, .inl (kt, 600, .inl g_9))] H := hP
  have hD : va_D A [(h0, .inr (10, [.ref tp, .int 18, .ref nw, .ref sp, .ref rd, .ref la, .ref tr, .ref ti, .int 0, .ref ch, .ref td, .ref gr, .int 0, .int 0])), (tp, .inl (kt, 600, .inl g_9))] := hD
  refine lv_iinc (v := 8) (lv' := [(2, .int 8), (0, .ref h0), (1, .int p1)]) hx hb dX10_feedNumber_49 hl (k := 0) rfl (by decide) (by decide) rfl (fun ls hl => ?_)
  refine lv_goto (tgt := 3) hx hb dX10_feedNumber_52 (by decide) ?_
  refine lv_iload_n hx hb dX10_feedNumber_3 rfl (lv_at hl 0 rfl) ?_
  refine lv_if_lt (tgt := 55) hx hb dX10_feedNumber_4 (by decide) (fun h9 => absurd h9 (by decide)) (fun _ => ?_)
  refine lv_aload_n hx hb dX10_feedNumber_7 rfl (lv_at hl 1 rfl) ?_
  refine va_get (D := (dC, dI)) (ci := 10) (v := .int 18) (C := RX10) (T := TX10) (N := 14) hx hb hts hin_10 hown hK hP 0 rfl rfl 1 (by decide) (hts (.fieldLink RX10 64 "LessonMaker" "fed" "I") (List.mem_of_getElem? (i := 1) rfl)) (fun _ h9 => h9) rfl dX10_feedNumber_8 ?_
  refine lv_if_lt (tgt := 49) hx hb dX10_feedNumber_11 (by decide) (fun h9 => absurd h9 (by decide)) (fun _ => ?_)
  refine lv_aload_n hx hb dX10_feedNumber_14 rfl (lv_at hl 1 rfl) ?_
  refine va_get (D := (dC, dI)) (ci := 10) (v := .int 18) (C := RX10) (T := TX10) (N := 14) hx hb hts hin_10 hown hK hP 0 rfl rfl 1 (by decide) (hts (.fieldLink RX10 64 "LessonMaker" "fed" "I") (List.mem_of_getElem? (i := 1) rfl)) (fun _ h9 => h9) rfl dX10_feedNumber_15 ?_
  refine lv_aload_n hx hb dX10_feedNumber_18 rfl (lv_at hl 1 rfl) ?_
  refine va_get (D := (dC, dI)) (ci := 10) (v := .ref tp) (C := RX10) (T := TX10) (N := 14) hx hb hts hin_10 hown hK hP 0 rfl rfl 0 (by decide) (hts (.fieldLink RX10 9 "LessonMaker" "tape" "[B") (List.mem_of_getElem? (i := 2) rfl)) (fun _ h9 => h9) rfl dX10_feedNumber_19 ?_
  refine va_alen hx hb hK hP 1 0 rfl rfl (v := 600) rfl dX10_feedNumber_22 ?_
  refine lv_icmp_ge (tgt := 49) hx hb dX10_feedNumber_23 (by decide) (fun h9 => absurd h9 (by decide)) (fun _ => ?_)
  refine lv_aload_n hx hb dX10_feedNumber_26 rfl (lv_at hl 1 rfl) ?_
  refine va_get (D := (dC, dI)) (ci := 10) (v := .ref tp) (C := RX10) (T := TX10) (N := 14) hx hb hts hin_10 hown hK hP 0 rfl rfl 0 (by decide) (hts (.fieldLink RX10 9 "LessonMaker" "tape" "[B") (List.mem_of_getElem? (i := 2) rfl)) (fun _ h9 => h9) rfl dX10_feedNumber_27 ?_
  refine lv_aload_n hx hb dX10_feedNumber_30 rfl (lv_at hl 1 rfl) ?_
  refine va_get (D := (dC, dI)) (ci := 10) (v := .int 18) (C := RX10) (T := TX10) (N := 14) hx hb hts hin_10 hown hK hP 0 rfl rfl 1 (by decide) (hts (.fieldLink RX10 64 "LessonMaker" "fed" "I") (List.mem_of_getElem? (i := 1) rfl)) (fun _ h9 => h9) rfl dX10_feedNumber_31 ?_
  refine lv_iload_n hx hb dX10_feedNumber_34 rfl (lv_at hl 2 rfl) ?_
  refine lv_iload_n hx hb dX10_feedNumber_35 rfl (lv_at hl 0 rfl) ?_
  refine lv_ishr hx hb dX10_feedNumber_36 ?_
  refine lv_topi (fun x_11 ex_11 => ?_)
  refine lv_i2b hx hb dX10_feedNumber_37 rfl ?_
  refine lv_topi (fun y_13 ey_13 => ?_)
  refine va_bast hx hb hK hP hD hS 1 0 rfl rfl (i := 18) (z_io (by decide)) dX10_feedNumber_38 (fun H locs hP hD hS => ?_)
  obtain ⟨g_14, eg_14⟩ : ∃ z, z = upd g_9 (Int32.toNatClampNeg 18) (vp_nar .byte y_13) := ⟨_, rfl⟩
  rw [← eg_14] at hP hD
  have hP : va_P (dC, dI) z_Cl [(h0, .inr (10, [.ref tp, .int 18, .ref nw, .ref sp, .ref rd, .ref la, .ref tr, .ref ti, .int 0, .ref ch, .ref td, .ref gr, .int 0, .int 0])), (tp, .inl (kt, 600, .inl g_14))] H := hP
  have hD : va_D A [(h0, .inr (10, [.ref tp, .int 18, .ref nw, .ref sp, .ref rd, .ref la, .ref tr, .ref ti, .int 0, .ref ch, .ref td, .ref gr, .int 0, .int 0])), (tp, .inl (kt, 600, .inl g_14))] := hD
  refine lv_aload_n hx hb dX10_feedNumber_39 rfl (lv_at hl 1 rfl) ?_
  refine lv_dup hx hb dX10_feedNumber_40 rfl ?_
  refine va_get (D := (dC, dI)) (ci := 10) (v := .int 18) (C := RX10) (T := TX10) (N := 14) hx hb hts hin_10 hown hK hP 0 rfl rfl 1 (by decide) (hts (.fieldLink RX10 64 "LessonMaker" "fed" "I") (List.mem_of_getElem? (i := 1) rfl)) (fun _ h9 => h9) rfl dX10_feedNumber_41 ?_
  refine lv_iconst (v := 1) hx hb dX10_feedNumber_44 (by decide) ?_
  refine lv_iadd hx hb dX10_feedNumber_45 ?_
  refine lv_topi (fun x_15 ex_15 => ?_)
  have ex_15 := ex_15.trans (show _ = (19 : Int32) by decide)
  subst ex_15
  refine va_put (D := (dC, dI)) (ci := 10) (v := .int 19) (ty := .int) (C := RX10) (T := TX10) (N := 14) hx hb hts hin_10 tyX10 tyX10_ok nmX10 hown hK hP hD hS 0 rfl rfl 1 (by decide) (hts (.fieldLink RX10 64 "LessonMaker" "fed" "I") (List.mem_of_getElem? (i := 1) rfl)) (fun _ h9 => h9) rfl (by decide +kernel) rfl rfl (Nat.le_of_ble_eq_true rfl) dX10_feedNumber_46 (fun H locs hP hD hS => ?_)
  have hP : va_P (dC, dI) z_Cl [(h0, .inr (10, [.ref tp, .int 19, .ref nw, .ref sp, .ref rd, .ref la, .ref tr, .ref ti, .int 0, .ref ch, .ref td, .ref gr, .int 0, .int 0])), (tp, .inl (kt, 600, .inl g_14))] H := hP
  have hD : va_D A [(h0, .inr (10, [.ref tp, .int 19, .ref nw, .ref sp, .ref rd, .ref la, .ref tr, .ref ti, .int 0, .ref ch, .ref td, .ref gr, .int 0, .int 0])), (tp, .inl (kt, 600, .inl g_14))] := hD
  refine lv_iinc (v := 0) (lv' := [(2, .int 0), (0, .ref h0), (1, .int p1)]) hx hb dX10_feedNumber_49 hl (k := 0) rfl (by decide) (by decide) rfl (fun ls hl => ?_)
  refine lv_goto (tgt := 3) hx hb dX10_feedNumber_52 (by decide) ?_
  refine lv_iload_n hx hb dX10_feedNumber_3 rfl (lv_at hl 0 rfl) ?_
  refine lv_if_lt (tgt := 55) hx hb dX10_feedNumber_4 (by decide) (fun h9 => absurd h9 (by decide)) (fun _ => ?_)
  refine lv_aload_n hx hb dX10_feedNumber_7 rfl (lv_at hl 1 rfl) ?_
  refine va_get (D := (dC, dI)) (ci := 10) (v := .int 19) (C := RX10) (T := TX10) (N := 14) hx hb hts hin_10 hown hK hP 0 rfl rfl 1 (by decide) (hts (.fieldLink RX10 64 "LessonMaker" "fed" "I") (List.mem_of_getElem? (i := 1) rfl)) (fun _ h9 => h9) rfl dX10_feedNumber_8 ?_
  refine lv_if_lt (tgt := 49) hx hb dX10_feedNumber_11 (by decide) (fun h9 => absurd h9 (by decide)) (fun _ => ?_)
  refine lv_aload_n hx hb dX10_feedNumber_14 rfl (lv_at hl 1 rfl) ?_
  refine va_get (D := (dC, dI)) (ci := 10) (v := .int 19) (C := RX10) (T := TX10) (N := 14) hx hb hts hin_10 hown hK hP 0 rfl rfl 1 (by decide) (hts (.fieldLink RX10 64 "LessonMaker" "fed" "I") (List.mem_of_getElem? (i := 1) rfl)) (fun _ h9 => h9) rfl dX10_feedNumber_15 ?_
  refine lv_aload_n hx hb dX10_feedNumber_18 rfl (lv_at hl 1 rfl) ?_
  refine va_get (D := (dC, dI)) (ci := 10) (v := .ref tp) (C := RX10) (T := TX10) (N := 14) hx hb hts hin_10 hown hK hP 0 rfl rfl 0 (by decide) (hts (.fieldLink RX10 9 "LessonMaker" "tape" "[B") (List.mem_of_getElem? (i := 2) rfl)) (fun _ h9 => h9) rfl dX10_feedNumber_19 ?_
  refine va_alen hx hb hK hP 1 0 rfl rfl (v := 600) rfl dX10_feedNumber_22 ?_
  refine lv_icmp_ge (tgt := 49) hx hb dX10_feedNumber_23 (by decide) (fun h9 => absurd h9 (by decide)) (fun _ => ?_)
  refine lv_aload_n hx hb dX10_feedNumber_26 rfl (lv_at hl 1 rfl) ?_
  refine va_get (D := (dC, dI)) (ci := 10) (v := .ref tp) (C := RX10) (T := TX10) (N := 14) hx hb hts hin_10 hown hK hP 0 rfl rfl 0 (by decide) (hts (.fieldLink RX10 9 "LessonMaker" "tape" "[B") (List.mem_of_getElem? (i := 2) rfl)) (fun _ h9 => h9) rfl dX10_feedNumber_27 ?_
  refine lv_aload_n hx hb dX10_feedNumber_30 rfl (lv_at hl 1 rfl) ?_
  refine va_get (D := (dC, dI)) (ci := 10) (v := .int 19) (C := RX10) (T := TX10) (N := 14) hx hb hts hin_10 hown hK hP 0 rfl rfl 1 (by decide) (hts (.fieldLink RX10 64 "LessonMaker" "fed" "I") (List.mem_of_getElem? (i := 1) rfl)) (fun _ h9 => h9) rfl dX10_feedNumber_31 ?_
  refine lv_iload_n hx hb dX10_feedNumber_34 rfl (lv_at hl 2 rfl) ?_
  refine lv_iload_n hx hb dX10_feedNumber_35 rfl (lv_at hl 0 rfl) ?_
  refine lv_ishr hx hb dX10_feedNumber_36 ?_
  refine lv_topi (fun x_16 ex_16 => ?_)
  refine lv_i2b hx hb dX10_feedNumber_37 rfl ?_
  refine lv_topi (fun y_18 ey_18 => ?_)
  refine va_bast hx hb hK hP hD hS 1 0 rfl rfl (i := 19) (z_io (by decide)) dX10_feedNumber_38 (fun H locs hP hD hS => ?_)
  obtain ⟨g_19, eg_19⟩ : ∃ z, z = upd g_14 (Int32.toNatClampNeg 19) (vp_nar .byte y_18) := ⟨_, rfl⟩
  rw [← eg_19] at hP hD
  have hP : va_P (dC, dI) z_Cl [(h0, .inr (10, [.ref tp, .int 19, .ref nw, .ref sp, .ref rd, .ref la, .ref tr, .ref ti, .int 0, .ref ch, .ref td, .ref gr, .int 0, .int 0])), (tp, .inl (kt, 600, .inl g_19))] H := hP
  have hD : va_D A [(h0, .inr (10, [.ref tp, .int 19, .ref nw, .ref sp, .ref rd, .ref la, .ref tr, .ref ti, .int 0, .ref ch, .ref td, .ref gr, .int 0, .int 0])), (tp, .inl (kt, 600, .inl g_19))] := hD
  refine lv_aload_n hx hb dX10_feedNumber_39 rfl (lv_at hl 1 rfl) ?_
  refine lv_dup hx hb dX10_feedNumber_40 rfl ?_
  refine va_get (D := (dC, dI)) (ci := 10) (v := .int 19) (C := RX10) (T := TX10) (N := 14) hx hb hts hin_10 hown hK hP 0 rfl rfl 1 (by decide) (hts (.fieldLink RX10 64 "LessonMaker" "fed" "I") (List.mem_of_getElem? (i := 1) rfl)) (fun _ h9 => h9) rfl dX10_feedNumber_41 ?_
  refine lv_iconst (v := 1) hx hb dX10_feedNumber_44 (by decide) ?_
  refine lv_iadd hx hb dX10_feedNumber_45 ?_
  refine lv_topi (fun x_20 ex_20 => ?_)
  have ex_20 := ex_20.trans (show _ = (20 : Int32) by decide)
  subst ex_20
  refine va_put (D := (dC, dI)) (ci := 10) (v := .int 20) (ty := .int) (C := RX10) (T := TX10) (N := 14) hx hb hts hin_10 tyX10 tyX10_ok nmX10 hown hK hP hD hS 0 rfl rfl 1 (by decide) (hts (.fieldLink RX10 64 "LessonMaker" "fed" "I") (List.mem_of_getElem? (i := 1) rfl)) (fun _ h9 => h9) rfl (by decide +kernel) rfl rfl (Nat.le_of_ble_eq_true rfl) dX10_feedNumber_46 (fun H locs hP hD hS => ?_)
  have hP : va_P (dC, dI) z_Cl [(h0, .inr (10, [.ref tp, .int 20, .ref nw, .ref sp, .ref rd, .ref la, .ref tr, .ref ti, .int 0, .ref ch, .ref td, .ref gr, .int 0, .int 0])), (tp, .inl (kt, 600, .inl g_19))] H := hP
  have hD : va_D A [(h0, .inr (10, [.ref tp, .int 20, .ref nw, .ref sp, .ref rd, .ref la, .ref tr, .ref ti, .int 0, .ref ch, .ref td, .ref gr, .int 0, .int 0])), (tp, .inl (kt, 600, .inl g_19))] := hD
  refine lv_iinc (v := (-8)) (lv' := [(2, .int (-8)), (0, .ref h0), (1, .int p1)]) hx hb dX10_feedNumber_49 hl (k := 0) rfl (by decide) (by decide) rfl (fun ls hl => ?_)
  refine lv_goto (tgt := 3) hx hb dX10_feedNumber_52 (by decide) ?_
  refine lv_iload_n hx hb dX10_feedNumber_3 rfl (lv_at hl 0 rfl) ?_
  refine lv_if_lt (tgt := 55) hx hb dX10_feedNumber_4 (by decide) (fun _ => ?_) (fun h9 => absurd (by decide) h9)
  have hP9 := hP.sub (ws' := [(h0, .inr (10, [.ref tp, .int 20, .ref nw, .ref sp, .ref rd, .ref la, .ref tr, .ref ti, .int 0, .ref ch, .ref td, .ref gr, .int 0, .int 0])), (tp, .inl (kt, 600, .inl g_19))]) [0, 1] rfl
  have hD9 := hD.sub (ws' := [(h0, .inr (10, [.ref tp, .int 20, .ref nw, .ref sp, .ref rd, .ref la, .ref tr, .ref ti, .int 0, .ref ch, .ref td, .ref gr, .int 0, .int 0])), (tp, .inl (kt, 600, .inl g_19))]) [0, 1] (by decide) rfl
  have hK9 := hK.sub (tys' := [(kt, .byte)]) [0] rfl
  refine W.widen (k := 0) (n := 0) (Nat.le_of_ble_eq_true rfl) (Nat.le_of_ble_eq_true rfl) ?_
  exact W.vret hx hb hr (fun t ht hW => ⟨⟨(), rfl, trivial, g_19, by rw [ht]; exact hP9, va_K.moved hW.alike hK9, hD9⟩, hS.F ht⟩) hS.2.2 dX10_feedNumber_55

def z_wX10_feed : List Cond := .code yX10_feed cX10_feed 6 (some .int) :: ([.fieldLink RX10 64 "LessonMaker" "fed" "I", .fieldLink RX10 9 "LessonMaker" "tape" "[B", .methodLink RX10 72 yX10_feedNumber, .instanceMethod yX10_feedNumber, .selects RX10 yX10_feedNumber yX10_feedNumber, .initialized RX10, .code yX10_feedNumber cX10_feedNumber 3 none, .fieldLink RX10 92 "LessonMaker" "latestTrouble" "I", .methodLink RX10 76 yX10_accept, .instanceMethod yX10_accept, .selects RX10 yX10_accept yX10_accept, .code yX10_accept cX10_accept 2 (some .int)] ++ (u_ws RX10 TX10 14))
set_option maxRecDepth 20000 in
theorem c_X10_feed_zg_2 : GoodIn z_wX10_feed (wsV RX10 72 RX10 yX10_feedNumber z_wX10_feedNumber_0) := goodIn_r _ [3, 4, 5, 6, 7, 1, 2, 13, 14, 15, 16, 17, 18, 19, 20, 21, 22, 23, 24, 25, 26] (by decide +kernel) (by decide +kernel)
set_option maxRecDepth 20000 in
theorem c_X10_feed_zg_4 : GoodIn z_wX10_feed (wsV RX10 72 RX10 yX10_feedNumber z_wX10_feedNumber_1) := goodIn_r _ [3, 4, 5, 6, 7, 1, 2, 13, 14, 15, 16, 17, 18, 19, 20, 21, 22, 23, 24, 25, 26] (by decide +kernel) (by decide +kernel)
set_option maxRecDepth 20000 in
theorem c_X10_feed_zg_6 : GoodIn z_wX10_feed (wsV RX10 72 RX10 yX10_feedNumber z_wX10_feedNumber_2) := goodIn_r _ [3, 4, 5, 6, 7, 1, 2, 13, 14, 15, 16, 17, 18, 19, 20, 21, 22, 23, 24, 25, 26] (by decide +kernel) (by decide +kernel)
set_option maxRecDepth 20000 in
theorem c_X10_feed_zg_8 : GoodIn z_wX10_feed (wsV RX10 72 RX10 yX10_feedNumber z_wX10_feedNumber_3) := goodIn_r _ [3, 4, 5, 6, 7, 1, 2, 13, 14, 15, 16, 17, 18, 19, 20, 21, 22, 23, 24, 25, 26] (by decide +kernel) (by decide +kernel)
set_option maxRecDepth 20000 in
theorem c_X10_feed_zg_10 : GoodIn z_wX10_feed (wsV RX10 72 RX10 yX10_feedNumber z_wX10_feedNumber_4) := goodIn_r _ [3, 4, 5, 6, 7, 1, 2, 13, 14, 15, 16, 17, 18, 19, 20, 21, 22, 23, 24, 25, 26] (by decide +kernel) (by decide +kernel)
set_option maxRecDepth 20000 in
theorem c_X10_feed_zg_12 : GoodIn z_wX10_feed (wsV RX10 76 RX10 yX10_accept z_wX10_accept) := goodIn_r _ [9, 10, 11, 6, 12, 8, 13, 14, 15, 16, 17, 18, 19, 20, 21, 22, 23, 24, 25, 26] (by decide +kernel) (by decide +kernel)
set_option maxHeartbeats 4000000 in
set_option maxRecDepth 100000 in
theorem c_X10_feed (l : Launch) (dC : Nat → ClassId) (dI : Nat → Nat → Nat) (h0 : Nat) (tp : Nat) (nw : Nat) (sp : Nat) (rd : Nat) (la : Nat) (tr : Nat) (ti : Nat) (ch : Nat) (td : Nat) (gr : Nat) (kt : ClassId) (ft : Nat → Int32) (p1 : Int32) (p2 : Int32) (p3 : Int32) (p4 : Int32) (p5 : Int32) (sz : Nat) : Met l yX10_feed z_wX10_feed ({ frames := 1, cells := 0, slots := 0, locals := 22 }) (va_Pc [.ref h0, .int p1, .int p2, .int p3, .int p4, .int p5] (z_in dC dI [(h0, .inr (10, [.ref tp, .int 0, .ref nw, .ref sp, .ref rd, .ref la, .ref tr, .ref ti, .int 0, .ref ch, .ref td, .ref gr, .int 0, .int 0])), (tp, .inl (kt, 600, .inl ft))] [(kt, .byte)] sz)) (va_Qi (fun (r : Int32) (_ : Unit) => r = 20) (fun (_ : Unit) t => z_out dC dI (va_A [(h0, .inr (10, [.ref tp, .int 0, .ref nw, .ref sp, .ref rd, .ref la, .ref tr, .ref ti, .int 0, .ref ch, .ref td, .ref gr, .int 0, .int 0])), (tp, .inl (kt, 600, .inl ft))] sz) [] [] t) (va_A [(h0, .inr (10, [.ref tp, .int 0, .ref nw, .ref sp, .ref rd, .ref la, .ref tr, .ref ti, .int 0, .ref ch, .ref td, .ref gr, .int 0, .int 0])), (tp, .inl (kt, 600, .inl ft))] sz)) 0 0 (va_A [(h0, .inr (10, [.ref tp, .int 0, .ref nw, .ref sp, .ref rd, .ref la, .ref tr, .ref ti, .int 0, .ref ch, .ref td, .ref gr, .int 0, .int 0])), (tp, .inl (kt, 600, .inl ft))] sz) := by
  refine Met.ofW (cc := cX10_feed) (maxL := 6) (ret := (some .int)) (by decide) rfl ?_
  intro p e s m args below meth c s₁ B hml hv
  obtain ⟨rfl, hsz, hP, hK, hD0, hN⟩ := hv
  have hx := B.exec
  have hb := B.bytes
  have hr := B.returns
  have hts := atoms_spec (ws := z_wX10_feed) B.pre
  have hown : s.vm.findClass RX10 = some m.cls := findClass_of_methodNamed B.named
  have hlocks := B.notSynchronized
  have hin_10 : ∀ w ∈ u_ws RX10 TX10 14, w ∈ z_wX10_feed := by decide +kernel
  subst hsz
  have hD := hD0.self (sz := s.heap.size)
  generalize hAe : va_A [(h0, .inr (10, [.ref tp, .int 0, .ref nw, .ref sp, .ref rd, .ref la, .ref tr, .ref ti, .int 0, .ref ch, .ref td, .ref gr, .int 0, .int 0])), (tp, .inl (kt, 600, .inl ft))] s.heap.size = A at hD ⊢
  have hA : ∀ q : Nat, s.heap.size ≤ q → A q := fun q h => by rw [← hAe]; exact Or.inr h
  have hS : va_S A s.heap s.heap [] := va_S.rf
  have hP : va_P (dC, dI) z_Cl [(h0, .inr (10, [.ref tp, .int 0, .ref nw, .ref sp, .ref rd, .ref la, .ref tr, .ref ti, .int 0, .ref ch, .ref td, .ref gr, .int 0, .int 0])), (tp, .inl (kt, 600, .inl ft))] s.heap := hP
  have hl := lv_entry ([.ref h0, .int p1, .int p2, .int p3, .int p4, .int p5]) (n := 6) (Nat.le_of_ble_eq_true rfl)
  rw [lg_entry_eq]
  generalize (lg_sl ([.ref h0, .int p1, .int p2, .int p3, .int p4, .int p5]) ++ List.replicate (6 - (lg_sl ([.ref h0, .int p1, .int p2, .int p3, .int p4, .int p5])).length) Slot.unset).toArray = ls at hl ⊢
  have hl : lv_has ls 6 [(0, .ref h0), (1, .int p1), (2, .int p2), (3, .int p3), (4, .int p4), (5, .int p5)] := hl
  refine lv_aload_n hx hb dX10_feed_0 rfl (lv_at hl 0 rfl) ?_
  refine va_get (D := (dC, dI)) (ci := 10) (v := .int 0) (C := RX10) (T := TX10) (N := 14) hx hb hts hin_10 hown hK hP 0 rfl rfl 1 (by decide) (hts (.fieldLink RX10 64 "LessonMaker" "fed" "I") (List.mem_of_getElem? (i := 1) rfl)) (fun _ h9 => h9) rfl dX10_feed_1 ?_
  refine lv_bipush (v := 20) hx hb dX10_feed_4 (by decide) ?_
  refine lv_iadd hx hb dX10_feed_6 ?_
  refine lv_topi (fun x_1 ex_1 => ?_)
  have ex_1 := ex_1.trans (show _ = (20 : Int32) by decide)
  subst ex_1
  refine lv_sipush (v := 600) hx hb dX10_feed_7 (by decide) ?_
  refine lv_icmp_le (tgt := 19) hx hb dX10_feed_10 (by decide) (fun _ => ?_) (fun h9 => absurd (by decide) h9)
  refine lv_aload_n hx hb dX10_feed_19 rfl (lv_at hl 0 rfl) ?_
  refine lv_iload_n hx hb dX10_feed_20 rfl (lv_at hl 1 rfl) ?_
  have hPc := hP.sub (ws' := [(h0, .inr (10, [.ref tp, .int 0, .ref nw, .ref sp, .ref rd, .ref la, .ref tr, .ref ti, .int 0, .ref ch, .ref td, .ref gr, .int 0, .int 0])), (tp, .inl (kt, 600, .inl ft))]) [0, 1] rfl
  have hDc := hD.sub (ws' := [(h0, .inr (10, [.ref tp, .int 0, .ref nw, .ref sp, .ref rd, .ref la, .ref tr, .ref ti, .int 0, .ref ch, .ref td, .ref gr, .int 0, .int 0])), (tp, .inl (kt, 600, .inl ft))]) [0, 1] (by decide) rfl
  have hKc := hK.sub (tys' := [(kt, .byte)]) [0] rfl
  have hFc := va_free (wc := [(h0, .inr (10, [.ref tp, .int 0, .ref nw, .ref sp, .ref rd, .ref la, .ref tr, .ref ti, .int 0, .ref ch, .ref td, .ref gr, .int 0, .int 0])), (tp, .inl (kt, 600, .inl ft))]) hD hS hA [0, 1] rfl
  refine va_callv (va_runV (As := [.int p1]) (rest := []) ⟨hx, hb, hml, hown, hts⟩ (c_X10_feedNumber_0 l dC dI h0 tp nw sp rd la tr ti ch td gr kt ft p1 s.heap.size) (cwV 1 hts c_X10_feed_zg_2 rfl rfl rfl (by decide +kernel) ⟨(Nat.le_of_ble_eq_true rfl), (Nat.le_of_ble_eq_true rfl)⟩) ⟨z_blind, va_recv hKc hPc (ci := 10) (q0 := 0) rfl rfl, z_pre hPc hKc hDc hN⟩ rfl rfl hl.1 rfl (lv_room (Nat.le_of_ble_eq_true rfl)) dX10_feed_21 ⟨(Nat.le_of_ble_eq_true rfl), (Nat.le_of_ble_eq_true rfl)⟩) hS (fun q _ h => hFc q h) hFc (fun u t H1 locs ht hvm hw hB hz1 hk1 hS => ?_)
  obtain ⟨f_3, hP1, hK1, hD1⟩ := hB
  rw [ht] at hP1
  have hK1 := va_K.moved hvm.symm hK1
  obtain ⟨hP, hD⟩ := va_join (wr := []) (w1 := [(h0, .inr (10, [.ref tp, .int 4, .ref nw, .ref sp, .ref rd, .ref la, .ref tr, .ref ti, .int 0, .ref ch, .ref td, .ref gr, .int 0, .int 0])), (tp, .inl (kt, 600, .inl f_3))]) hP hD [0, 1] [] rfl rfl (by decide) (by decide) hk1 hFc hP1 hD1
  have hK := (hK.sub (tys' := [(kt, .byte)]) [0] rfl).app hK1
  generalize H1 = H at hP hS ⊢
  have hP : va_P (dC, dI) z_Cl [(h0, .inr (10, [.ref tp, .int 4, .ref nw, .ref sp, .ref rd, .ref la, .ref tr, .ref ti, .int 0, .ref ch, .ref td, .ref gr, .int 0, .int 0])), (tp, .inl (kt, 600, .inl f_3))] H := hP
  have hD : va_D A [(h0, .inr (10, [.ref tp, .int 4, .ref nw, .ref sp, .ref rd, .ref la, .ref tr, .ref ti, .int 0, .ref ch, .ref td, .ref gr, .int 0, .int 0])), (tp, .inl (kt, 600, .inl f_3))] := hD
  have hK : va_K (dC, dI) z_Cl [(kt, .byte), (kt, .byte)] s := hK
  have hK := hK.sub (tys' := [(kt, .byte)]) [0] rfl
  refine lv_aload_n hx hb dX10_feed_24 rfl (lv_at hl 0 rfl) ?_
  refine lv_iload_n hx hb dX10_feed_25 rfl (lv_at hl 2 rfl) ?_
  have hPc := hP.sub (ws' := [(h0, .inr (10, [.ref tp, .int 4, .ref nw, .ref sp, .ref rd, .ref la, .ref tr, .ref ti, .int 0, .ref ch, .ref td, .ref gr, .int 0, .int 0])), (tp, .inl (kt, 600, .inl f_3))]) [0, 1] rfl
  have hDc := hD.sub (ws' := [(h0, .inr (10, [.ref tp, .int 4, .ref nw, .ref sp, .ref rd, .ref la, .ref tr, .ref ti, .int 0, .ref ch, .ref td, .ref gr, .int 0, .int 0])), (tp, .inl (kt, 600, .inl f_3))]) [0, 1] (by decide) rfl
  have hKc := hK.sub (tys' := [(kt, .byte)]) [0] rfl
  have hFc := va_free (wc := [(h0, .inr (10, [.ref tp, .int 4, .ref nw, .ref sp, .ref rd, .ref la, .ref tr, .ref ti, .int 0, .ref ch, .ref td, .ref gr, .int 0, .int 0])), (tp, .inl (kt, 600, .inl f_3))]) hD hS hA [0, 1] rfl
  refine va_callv (va_runV (As := [.int p2]) (rest := []) ⟨hx, hb, hml, hown, hts⟩ (c_X10_feedNumber_1 l dC dI h0 tp nw sp rd la tr ti ch td gr kt f_3 p2 H.size) (cwV 1 hts c_X10_feed_zg_4 rfl rfl rfl (by decide +kernel) ⟨(Nat.le_of_ble_eq_true rfl), (Nat.le_of_ble_eq_true rfl)⟩) ⟨z_blind, va_recv hKc hPc (ci := 10) (q0 := 0) rfl rfl, z_pre hPc hKc hDc hN⟩ rfl rfl hl.1 rfl (lv_room (Nat.le_of_ble_eq_true rfl)) dX10_feed_26 ⟨(Nat.le_of_ble_eq_true rfl), (Nat.le_of_ble_eq_true rfl)⟩) hS (fun q _ h => hFc q h) hFc (fun u t H1 locs ht hvm hw hB hz1 hk1 hS => ?_)
  obtain ⟨f_5, hP1, hK1, hD1⟩ := hB
  rw [ht] at hP1
  have hK1 := va_K.moved hvm.symm hK1
  obtain ⟨hP, hD⟩ := va_join (wr := []) (w1 := [(h0, .inr (10, [.ref tp, .int 8, .ref nw, .ref sp, .ref rd, .ref la, .ref tr, .ref ti, .int 0, .ref ch, .ref td, .ref gr, .int 0, .int 0])), (tp, .inl (kt, 600, .inl f_5))]) hP hD [0, 1] [] rfl rfl (by decide) (by decide) hk1 hFc hP1 hD1
  have hK := (hK.sub (tys' := [(kt, .byte)]) [0] rfl).app hK1
  generalize H1 = H at hP hS ⊢
  have hP : va_P (dC, dI) z_Cl [(h0, .inr (10, [.ref tp, .int 8, .ref nw, .ref sp, .ref rd, .ref la, .ref tr, .ref ti, .int 0, .ref ch, .ref td, .ref gr, .int 0, .int 0])), (tp, .inl (kt, 600, .inl f_5))] H := hP
  have hD : va_D A [(h0, .inr (10, [.ref tp, .int 8, .ref nw, .ref sp, .ref rd, .ref la, .ref tr, .ref ti, .int 0, .ref ch, .ref td, .ref gr, .int 0, .int 0])), (tp, .inl (kt, 600, .inl f_5))] := hD
  have hK : va_K (dC, dI) z_Cl [(kt, .byte), (kt, .byte)] s := hK
  have hK := hK.sub (tys' := [(kt, .byte)]) [0] rfl
  refine lv_aload_n hx hb dX10_feed_29 rfl (lv_at hl 0 rfl) ?_
  refine lv_iload_n hx hb dX10_feed_30 rfl (lv_at hl 3 rfl) ?_
  have hPc := hP.sub (ws' := [(h0, .inr (10, [.ref tp, .int 8, .ref nw, .ref sp, .ref rd, .ref la, .ref tr, .ref ti, .int 0, .ref ch, .ref td, .ref gr, .int 0, .int 0])), (tp, .inl (kt, 600, .inl f_5))]) [0, 1] rfl
  have hDc := hD.sub (ws' := [(h0, .inr (10, [.ref tp, .int 8, .ref nw, .ref sp, .ref rd, .ref la, .ref tr, .ref ti, .int 0, .ref ch, .ref td, .ref gr, .int 0, .int 0])), (tp, .inl (kt, 600, .inl f_5))]) [0, 1] (by decide) rfl
  have hKc := hK.sub (tys' := [(kt, .byte)]) [0] rfl
  have hFc := va_free (wc := [(h0, .inr (10, [.ref tp, .int 8, .ref nw, .ref sp, .ref rd, .ref la, .ref tr, .ref ti, .int 0, .ref ch, .ref td, .ref gr, .int 0, .int 0])), (tp, .inl (kt, 600, .inl f_5))]) hD hS hA [0, 1] rfl
  refine va_callv (va_runV (As := [.int p3]) (rest := []) ⟨hx, hb, hml, hown, hts⟩ (c_X10_feedNumber_2 l dC dI h0 tp nw sp rd la tr ti ch td gr kt f_5 p3 H.size) (cwV 1 hts c_X10_feed_zg_6 rfl rfl rfl (by decide +kernel) ⟨(Nat.le_of_ble_eq_true rfl), (Nat.le_of_ble_eq_true rfl)⟩) ⟨z_blind, va_recv hKc hPc (ci := 10) (q0 := 0) rfl rfl, z_pre hPc hKc hDc hN⟩ rfl rfl hl.1 rfl (lv_room (Nat.le_of_ble_eq_true rfl)) dX10_feed_31 ⟨(Nat.le_of_ble_eq_true rfl), (Nat.le_of_ble_eq_true rfl)⟩) hS (fun q _ h => hFc q h) hFc (fun u t H1 locs ht hvm hw hB hz1 hk1 hS => ?_)
  obtain ⟨f_7, hP1, hK1, hD1⟩ := hB
  rw [ht] at hP1
  have hK1 := va_K.moved hvm.symm hK1
  obtain ⟨hP, hD⟩ := va_join (wr := []) (w1 := [(h0, .inr (10, [.ref tp, .int 12, .ref nw, .ref sp, .ref rd, .ref la, .ref tr, .ref ti, .int 0, .ref ch, .ref td, .ref gr, .int 0, .int 0])), (tp, .inl (kt, 600, .inl f_7))]) hP hD [0, 1] [] rfl rfl (by decide) (by decide) hk1 hFc hP1 hD1
  have hK := (hK.sub (tys' := [(kt, .byte)]) [0] rfl).app hK1
  generalize H1 = H at hP hS ⊢
  have hP : va_P (dC, dI) z_Cl [(h0, .inr (10, [.ref tp, .int 12, .ref nw, .ref sp, .ref rd, .ref la, .ref tr, .ref ti, .int 0, .ref ch, .ref td, .ref gr, .int 0, .int 0])), (tp, .inl (kt, 600, .inl f_7))] H := hP
  have hD : va_D A [(h0, .inr (10, [.ref tp, .int 12, .ref nw, .ref sp, .ref rd, .ref la, .ref tr, .ref ti, .int 0, .ref ch, .ref td, .ref gr, .int 0, .int 0])), (tp, .inl (kt, 600, .inl f_7))] := hD
  have hK : va_K (dC, dI) z_Cl [(kt, .byte), (kt, .byte)] s := hK
  have hK := hK.sub (tys' := [(kt, .byte)]) [0] rfl
  refine lv_aload_n hx hb dX10_feed_34 rfl (lv_at hl 0 rfl) ?_
  refine lv_iload hx hb dX10_feed_35 (lv_at hl 4 rfl) ?_
  have hPc := hP.sub (ws' := [(h0, .inr (10, [.ref tp, .int 12, .ref nw, .ref sp, .ref rd, .ref la, .ref tr, .ref ti, .int 0, .ref ch, .ref td, .ref gr, .int 0, .int 0])), (tp, .inl (kt, 600, .inl f_7))]) [0, 1] rfl
  have hDc := hD.sub (ws' := [(h0, .inr (10, [.ref tp, .int 12, .ref nw, .ref sp, .ref rd, .ref la, .ref tr, .ref ti, .int 0, .ref ch, .ref td, .ref gr, .int 0, .int 0])), (tp, .inl (kt, 600, .inl f_7))]) [0, 1] (by decide) rfl
  have hKc := hK.sub (tys' := [(kt, .byte)]) [0] rfl
  have hFc := va_free (wc := [(h0, .inr (10, [.ref tp, .int 12, .ref nw, .ref sp, .ref rd, .ref la, .ref tr, .ref ti, .int 0, .ref ch, .ref td, .ref gr, .int 0, .int 0])), (tp, .inl (kt, 600, .inl f_7))]) hD hS hA [0, 1] rfl
  refine va_callv (va_runV (As := [.int p4]) (rest := []) ⟨hx, hb, hml, hown, hts⟩ (c_X10_feedNumber_3 l dC dI h0 tp nw sp rd la tr ti ch td gr kt f_7 p4 H.size) (cwV 1 hts c_X10_feed_zg_8 rfl rfl rfl (by decide +kernel) ⟨(Nat.le_of_ble_eq_true rfl), (Nat.le_of_ble_eq_true rfl)⟩) ⟨z_blind, va_recv hKc hPc (ci := 10) (q0 := 0) rfl rfl, z_pre hPc hKc hDc hN⟩ rfl rfl hl.1 rfl (lv_room (Nat.le_of_ble_eq_true rfl)) dX10_feed_37 ⟨(Nat.le_of_ble_eq_true rfl), (Nat.le_of_ble_eq_true rfl)⟩) hS (fun q _ h => hFc q h) hFc (fun u t H1 locs ht hvm hw hB hz1 hk1 hS => ?_)
  obtain ⟨f_9, hP1, hK1, hD1⟩ := hB
  rw [ht] at hP1
  have hK1 := va_K.moved hvm.symm hK1
  obtain ⟨hP, hD⟩ := va_join (wr := []) (w1 := [(h0, .inr (10, [.ref tp, .int 16, .ref nw, .ref sp, .ref rd, .ref la, .ref tr, .ref ti, .int 0, .ref ch, .ref td, .ref gr, .int 0, .int 0])), (tp, .inl (kt, 600, .inl f_9))]) hP hD [0, 1] [] rfl rfl (by decide) (by decide) hk1 hFc hP1 hD1
  have hK := (hK.sub (tys' := [(kt, .byte)]) [0] rfl).app hK1
  generalize H1 = H at hP hS ⊢
  have hP : va_P (dC, dI) z_Cl [(h0, .inr (10, [.ref tp, .int 16, .ref nw, .ref sp, .ref rd, .ref la, .ref tr, .ref ti, .int 0, .ref ch, .ref td, .ref gr, .int 0, .int 0])), (tp, .inl (kt, 600, .inl f_9))] H := hP
  have hD : va_D A [(h0, .inr (10, [.ref tp, .int 16, .ref nw, .ref sp, .ref rd, .ref la, .ref tr, .ref ti, .int 0, .ref ch, .ref td, .ref gr, .int 0, .int 0])), (tp, .inl (kt, 600, .inl f_9))] := hD
  have hK : va_K (dC, dI) z_Cl [(kt, .byte), (kt, .byte)] s := hK
  have hK := hK.sub (tys' := [(kt, .byte)]) [0] rfl
  refine lv_aload_n hx hb dX10_feed_40 rfl (lv_at hl 0 rfl) ?_
  refine lv_iload hx hb dX10_feed_41 (lv_at hl 5 rfl) ?_
  have hPc := hP.sub (ws' := [(h0, .inr (10, [.ref tp, .int 16, .ref nw, .ref sp, .ref rd, .ref la, .ref tr, .ref ti, .int 0, .ref ch, .ref td, .ref gr, .int 0, .int 0])), (tp, .inl (kt, 600, .inl f_9))]) [0, 1] rfl
  have hDc := hD.sub (ws' := [(h0, .inr (10, [.ref tp, .int 16, .ref nw, .ref sp, .ref rd, .ref la, .ref tr, .ref ti, .int 0, .ref ch, .ref td, .ref gr, .int 0, .int 0])), (tp, .inl (kt, 600, .inl f_9))]) [0, 1] (by decide) rfl
  have hKc := hK.sub (tys' := [(kt, .byte)]) [0] rfl
  have hFc := va_free (wc := [(h0, .inr (10, [.ref tp, .int 16, .ref nw, .ref sp, .ref rd, .ref la, .ref tr, .ref ti, .int 0, .ref ch, .ref td, .ref gr, .int 0, .int 0])), (tp, .inl (kt, 600, .inl f_9))]) hD hS hA [0, 1] rfl
  refine va_callv (va_runV (As := [.int p5]) (rest := []) ⟨hx, hb, hml, hown, hts⟩ (c_X10_feedNumber_4 l dC dI h0 tp nw sp rd la tr ti ch td gr kt f_9 p5 H.size) (cwV 1 hts c_X10_feed_zg_10 rfl rfl rfl (by decide +kernel) ⟨(Nat.le_of_ble_eq_true rfl), (Nat.le_of_ble_eq_true rfl)⟩) ⟨z_blind, va_recv hKc hPc (ci := 10) (q0 := 0) rfl rfl, z_pre hPc hKc hDc hN⟩ rfl rfl hl.1 rfl (lv_room (Nat.le_of_ble_eq_true rfl)) dX10_feed_43 ⟨(Nat.le_of_ble_eq_true rfl), (Nat.le_of_ble_eq_true rfl)⟩) hS (fun q _ h => hFc q h) hFc (fun u t H1 locs ht hvm hw hB hz1 hk1 hS => ?_)
  obtain ⟨f_11, hP1, hK1, hD1⟩ := hB
  rw [ht] at hP1
  have hK1 := va_K.moved hvm.symm hK1
  obtain ⟨hP, hD⟩ := va_join (wr := []) (w1 := [(h0, .inr (10, [.ref tp, .int 20, .ref nw, .ref sp, .ref rd, .ref la, .ref tr, .ref ti, .int 0, .ref ch, .ref td, .ref gr, .int 0, .int 0])), (tp, .inl (kt, 600, .inl f_11))]) hP hD [0, 1] [] rfl rfl (by decide) (by decide) hk1 hFc hP1 hD1
  have hK := (hK.sub (tys' := [(kt, .byte)]) [0] rfl).app hK1
  generalize H1 = H at hP hS ⊢
  have hP : va_P (dC, dI) z_Cl [(h0, .inr (10, [.ref tp, .int 20, .ref nw, .ref sp, .ref rd, .ref la, .ref tr, .ref ti, .int 0, .ref ch, .ref td, .ref gr, .int 0, .int 0])), (tp, .inl (kt, 600, .inl f_11))] H := hP
  have hD : va_D A [(h0, .inr (10, [.ref tp, .int 20, .ref nw, .ref sp, .ref rd, .ref la, .ref tr, .ref ti, .int 0, .ref ch, .ref td, .ref gr, .int 0, .int 0])), (tp, .inl (kt, 600, .inl f_11))] := hD
  have hK : va_K (dC, dI) z_Cl [(kt, .byte), (kt, .byte)] s := hK
  have hK := hK.sub (tys' := [(kt, .byte)]) [0] rfl
  refine lv_aload_n hx hb dX10_feed_46 rfl (lv_at hl 0 rfl) ?_
  refine lv_aload_n hx hb dX10_feed_47 rfl (lv_at hl 0 rfl) ?_
  refine va_get (D := (dC, dI)) (ci := 10) (v := .int 20) (C := RX10) (T := TX10) (N := 14) hx hb hts hin_10 hown hK hP 0 rfl rfl 1 (by decide) (hts (.fieldLink RX10 64 "LessonMaker" "fed" "I") (List.mem_of_getElem? (i := 1) rfl)) (fun _ h9 => h9) rfl dX10_feed_48 ?_
  have hPc := hP.sub (ws' := [(h0, .inr (10, [.ref tp, .int 20, .ref nw, .ref sp, .ref rd, .ref la, .ref tr, .ref ti, .int 0, .ref ch, .ref td, .ref gr, .int 0, .int 0]))]) [0] rfl
  have hDc := hD.sub (ws' := [(h0, .inr (10, [.ref tp, .int 20, .ref nw, .ref sp, .ref rd, .ref la, .ref tr, .ref ti, .int 0, .ref ch, .ref td, .ref gr, .int 0, .int 0]))]) [0] (by decide) rfl
  have hKc := hK.sub (tys' := []) [] rfl
  have hFc := va_free (wc := [(h0, .inr (10, [.ref tp, .int 20, .ref nw, .ref sp, .ref rd, .ref la, .ref tr, .ref ti, .int 0, .ref ch, .ref td, .ref gr, .int 0, .int 0]))]) hD hS hA [0] rfl
  refine va_calli (va_runV (As := [.int 20]) (rest := []) ⟨hx, hb, hml, hown, hts⟩ (c_X10_accept l dC dI h0 tp 20 nw sp rd la tr ti 0 ch td gr 0 0 20 H.size) (cwV 1 hts c_X10_feed_zg_12 rfl rfl rfl (by decide +kernel) ⟨(Nat.le_of_ble_eq_true rfl), (Nat.le_of_ble_eq_true rfl)⟩) ⟨z_blind, va_recv hKc hPc (ci := 10) (q0 := 0) rfl rfl, z_pre hPc hKc hDc hN⟩ rfl rfl hl.1 rfl (lv_room (Nat.le_of_ble_eq_true rfl)) dX10_feed_51 ⟨(Nat.le_of_ble_eq_true rfl), (Nat.le_of_ble_eq_true rfl)⟩) hS (fun q _ h => hFc q h) hFc (fun r_13 u t H1 locs ht hvm hw hB hz1 hk1 hS => ?_)
  obtain ⟨hP1, hK1, hD1⟩ := hB
  rw [ht] at hP1
  have hK1 := va_K.moved hvm.symm hK1
  obtain ⟨hP, hD⟩ := va_join (wr := [(tp, .inl (kt, 600, .inl f_11))]) (w1 := []) hP hD [0] [1] rfl rfl (by decide) (by decide) hk1 hFc hP1 hD1
  have hK := (hK.sub (tys' := [(kt, .byte)]) [0] rfl).app hK1
  generalize H1 = H at hP hS ⊢
  have hP : va_P (dC, dI) z_Cl [(tp, .inl (kt, 600, .inl f_11))] H := hP
  have hD : va_D A [(tp, .inl (kt, 600, .inl f_11))] := hD
  have hK : va_K (dC, dI) z_Cl [(kt, .byte)] s := hK
  have hw : r_13 = 20 := hw
  subst hw
  have hP9 := hP.sub (ws' := []) [] rfl
  have hD9 := hD.sub (ws' := []) [] (by decide) rfl
  have hK9 := hK.sub (tys' := []) [] rfl
  refine W.widen (k := 0) (n := 0) (Nat.le_of_ble_eq_true rfl) (Nat.le_of_ble_eq_true rfl) ?_
  exact W.iret (v := 20) hx hb hr (fun t ht hW => ⟨⟨20, (), rfl, rfl, by rw [ht]; exact hP9, va_K.moved hW.alike hK9, hD9⟩, hS.F ht⟩) hS.2.2 dX10_feed_54

def z_wX9_linesOf : List Cond := .code yX9_linesOf cX9_linesOf 5 (some .long) :: ([.fieldLink RX9 23 "LessonMaker$Told" "size" "I"] ++ (u_ws RX9 TX9 5))
set_option maxHeartbeats 4000000 in
set_option maxRecDepth 100000 in
theorem c_X9_linesOf (l : Launch) (dC : Nat → ClassId) (dI : Nat → Nat → Nat) (h0 : Nat) (t1 : Nat) (t2 : Nat) (sz : Nat) : Met l yX9_linesOf z_wX9_linesOf ({ frames := 0, cells := 0, slots := 0, locals := 0 }) (va_Pc [.ref h0, .int 0] (z_in dC dI [(h0, .inr (9, [.ref t1, .ref t2, .int 0, .int (-1), .int 0]))] [] sz)) (va_Ql (fun (r : Int64) (_ : Unit) => r = 0) (fun (_ : Unit) t => z_out dC dI (va_A [(h0, .inr (9, [.ref t1, .ref t2, .int 0, .int (-1), .int 0]))] sz) [(h0, .inr (9, [.ref t1, .ref t2, .int 0, .int (-1), .int 0]))] [] t) (va_A [(h0, .inr (9, [.ref t1, .ref t2, .int 0, .int (-1), .int 0]))] sz)) 0 0 (va_A [(h0, .inr (9, [.ref t1, .ref t2, .int 0, .int (-1), .int 0]))] sz) := by
  refine Met.ofW (cc := cX9_linesOf) (maxL := 5) (ret := (some .long)) (by decide) rfl ?_
  intro p e s m args below meth c s₁ B hml hv
  obtain ⟨rfl, hsz, hP, hK, hD0, hN⟩ := hv
  have hx := B.exec
  have hb := B.bytes
  have hr := B.returns
  have hts := atoms_spec (ws := z_wX9_linesOf) B.pre
  have hown : s.vm.findClass RX9 = some m.cls := findClass_of_methodNamed B.named
  have hlocks := B.notSynchronized
  have hin_9 : ∀ w ∈ u_ws RX9 TX9 5, w ∈ z_wX9_linesOf := by decide +kernel
  subst hsz
  have hD := hD0.self (sz := s.heap.size)
  generalize hAe : va_A [(h0, .inr (9, [.ref t1, .ref t2, .int 0, .int (-1), .int 0]))] s.heap.size = A at hD ⊢
  have hA : ∀ q : Nat, s.heap.size ≤ q → A q := fun q h => by rw [← hAe]; exact Or.inr h
  have hS : va_S A s.heap s.heap [] := va_S.rf
  have hP : va_P (dC, dI) z_Cl [(h0, .inr (9, [.ref t1, .ref t2, .int 0, .int (-1), .int 0]))] s.heap := hP
  have hl := lv_entry ([.ref h0, .int 0]) (n := 5) (Nat.le_of_ble_eq_true rfl)
  rw [lg_entry_eq]
  generalize (lg_sl ([.ref h0, .int 0]) ++ List.replicate (5 - (lg_sl ([.ref h0, .int 0])).length) Slot.unset).toArray = ls at hl ⊢
  have hl : lv_has ls 5 [(0, .ref h0), (1, .int 0)] := hl
  refine lv_lconst (v := 0) hx hb dX9_linesOf_0 (by decide) ?_
  refine lv_lstore_n (lv' := [(2, .long 0), (0, .ref h0), (1, .int 0)]) hx hb dX9_linesOf_1 rfl hl (by decide) rfl (fun ls hl => ?_)
  refine lv_iconst (v := 0) hx hb dX9_linesOf_2 (by decide) ?_
  refine lv_istore (lv' := [(4, .int 0), (2, .long 0), (0, .ref h0), (1, .int 0)]) hx hb dX9_linesOf_3 hl (by decide) rfl (fun ls hl => ?_)
  refine lv_iload hx hb dX9_linesOf_5 (lv_at hl 0 rfl) ?_
  refine lv_aload_n hx hb dX9_linesOf_7 rfl (lv_at hl 2 rfl) ?_
  refine va_get (D := (dC, dI)) (ci := 9) (v := .int 0) (C := RX9) (T := TX9) (N := 5) hx hb hts hin_9 hown hK hP 0 rfl rfl 4 (by decide) (hts (.fieldLink RX9 23 "LessonMaker$Told" "size" "I") (List.mem_of_getElem? (i := 1) rfl)) (fun _ h9 => h9) rfl dX9_linesOf_8 ?_
  refine lv_icmp_ge (tgt := 50) hx hb dX9_linesOf_11 (by decide) (fun _ => ?_) (fun h9 => absurd (by decide) h9)
  refine lv_lload_n hx hb dX9_linesOf_50 rfl (lv_at hl 1 rfl) ?_
  have hP9 := hP.sub (ws' := [(h0, .inr (9, [.ref t1, .ref t2, .int 0, .int (-1), .int 0]))]) [0] rfl
  have hD9 := hD.sub (ws' := [(h0, .inr (9, [.ref t1, .ref t2, .int 0, .int (-1), .int 0]))]) [0] (by decide) rfl
  have hK9 := hK.sub (tys' := []) [] rfl
  refine W.widen (k := 0) (n := 0) (Nat.le_of_ble_eq_true rfl) (Nat.le_of_ble_eq_true rfl) ?_
  exact W.lret (v := 0) hx hb hr (fun t ht hW => ⟨⟨0, (), rfl, rfl, by rw [ht]; exact hP9, va_K.moved hW.alike hK9, hD9⟩, hS.F ht⟩) hS.2.2 dX9_linesOf_51

def z_wX9_shownLines : List Cond := .code yX9_shownLines cX9_shownLines 1 (some .long) :: ([.fieldLink RX9 23 "LessonMaker$Told" "size" "I", .methodLink RX9 33 yX9_linesOf, .instanceMethod yX9_linesOf, .selects RX9 yX9_linesOf yX9_linesOf, .initialized RX9, .code yX9_linesOf cX9_linesOf 5 (some .long)] ++ (u_ws RX9 TX9 5))
set_option maxRecDepth 20000 in
theorem c_X9_shownLines_zg_3 : GoodIn z_wX9_shownLines (wsV RX9 33 RX9 yX9_linesOf z_wX9_linesOf) := goodIn_r _ [2, 3, 4, 5, 6, 1, 7, 8, 9, 10, 11] (by decide +kernel) (by decide +kernel)
set_option maxHeartbeats 4000000 in
set_option maxRecDepth 100000 in
theorem c_X9_shownLines (l : Launch) (dC : Nat → ClassId) (dI : Nat → Nat → Nat) (h0 : Nat) (t1 : Nat) (t2 : Nat) (sz : Nat) : Met l yX9_shownLines z_wX9_shownLines ({ frames := 1, cells := 0, slots := 0, locals := 24 }) (va_Pc [.ref h0] (z_in dC dI [(h0, .inr (9, [.ref t1, .ref t2, .int 0, .int (-1), .int 0]))] [] sz)) (va_Ql (fun (r : Int64) (_ : Unit) => r = 0) (fun (_ : Unit) t => z_out dC dI (va_A [(h0, .inr (9, [.ref t1, .ref t2, .int 0, .int (-1), .int 0]))] sz) [(h0, .inr (9, [.ref t1, .ref t2, .int 0, .int (-1), .int 0]))] [] t) (va_A [(h0, .inr (9, [.ref t1, .ref t2, .int 0, .int (-1), .int 0]))] sz)) 0 0 (va_A [(h0, .inr (9, [.ref t1, .ref t2, .int 0, .int (-1), .int 0]))] sz) := by
  refine Met.ofW (cc := cX9_shownLines) (maxL := 1) (ret := (some .long)) (by decide) rfl ?_
  intro p e s m args below meth c s₁ B hml hv
  obtain ⟨rfl, hsz, hP, hK, hD0, hN⟩ := hv
  have hx := B.exec
  have hb := B.bytes
  have hr := B.returns
  have hts := atoms_spec (ws := z_wX9_shownLines) B.pre
  have hown : s.vm.findClass RX9 = some m.cls := findClass_of_methodNamed B.named
  have hlocks := B.notSynchronized
  have hin_9 : ∀ w ∈ u_ws RX9 TX9 5, w ∈ z_wX9_shownLines := by decide +kernel
  subst hsz
  have hD := hD0.self (sz := s.heap.size)
  generalize hAe : va_A [(h0, .inr (9, [.ref t1, .ref t2, .int 0, .int (-1), .int 0]))] s.heap.size = A at hD ⊢
  have hA : ∀ q : Nat, s.heap.size ≤ q → A q := fun q h => by rw [← hAe]; exact Or.inr h
  have hS : va_S A s.heap s.heap [] := va_S.rf
  have hP : va_P (dC, dI) z_Cl [(h0, .inr (9, [.ref t1, .ref t2, .int 0, .int (-1), .int 0]))] s.heap := hP
  have hl := lv_entry ([.ref h0]) (n := 1) (Nat.le_of_ble_eq_true rfl)
  rw [lg_entry_eq]
  generalize (lg_sl ([.ref h0]) ++ List.replicate (1 - (lg_sl ([.ref h0])).length) Slot.unset).toArray = ls at hl ⊢
  have hl : lv_has ls 1 [(0, .ref h0)] := hl
  refine lv_aload_n hx hb dX9_shownLines_0 rfl (lv_at hl 0 rfl) ?_
  refine lv_iconst (v := 1) hx hb dX9_shownLines_1 (by decide) ?_
  refine lv_aload_n hx hb dX9_shownLines_2 rfl (lv_at hl 0 rfl) ?_
  refine va_get (D := (dC, dI)) (ci := 9) (v := .int 0) (C := RX9) (T := TX9) (N := 5) hx hb hts hin_9 hown hK hP 0 rfl rfl 4 (by decide) (hts (.fieldLink RX9 23 "LessonMaker$Told" "size" "I") (List.mem_of_getElem? (i := 1) rfl)) (fun _ h9 => h9) rfl dX9_shownLines_3 ?_
  refine lv_ishl hx hb dX9_shownLines_6 ?_
  refine lv_topi (fun x_1 ex_1 => ?_)
  have ex_1 := ex_1.trans (show _ = (1 : Int32) by decide)
  subst ex_1
  refine lv_iconst (v := 1) hx hb dX9_shownLines_7 (by decide) ?_
  refine lv_isub hx hb dX9_shownLines_8 ?_
  refine lv_topi (fun x_2 ex_2 => ?_)
  have ex_2 := ex_2.trans (show _ = (0 : Int32) by decide)
  subst ex_2
  have hPc := hP.sub (ws' := [(h0, .inr (9, [.ref t1, .ref t2, .int 0, .int (-1), .int 0]))]) [0] rfl
  have hDc := hD.sub (ws' := [(h0, .inr (9, [.ref t1, .ref t2, .int 0, .int (-1), .int 0]))]) [0] (by decide) rfl
  have hKc := hK.sub (tys' := []) [] rfl
  have hFc := va_free (wc := [(h0, .inr (9, [.ref t1, .ref t2, .int 0, .int (-1), .int 0]))]) hD hS hA [0] rfl
  refine va_calll (va_runV (As := [.int 0]) (rest := []) ⟨hx, hb, hml, hown, hts⟩ (c_X9_linesOf l dC dI h0 t1 t2 s.heap.size) (cwV 1 hts c_X9_shownLines_zg_3 rfl rfl rfl (by decide +kernel) ⟨(Nat.le_of_ble_eq_true rfl), (Nat.le_of_ble_eq_true rfl)⟩) ⟨z_blind, va_recv hKc hPc (ci := 9) (q0 := 0) rfl rfl, z_pre hPc hKc hDc hN⟩ rfl rfl hl.1 rfl (lv_room (Nat.le_of_ble_eq_true rfl)) dX9_shownLines_9 ⟨(Nat.le_of_ble_eq_true rfl), (Nat.le_of_ble_eq_true rfl)⟩) hS (fun q _ h => hFc q h) hFc (fun r_4 u t H1 locs ht hvm hw hB hz1 hk1 hS => ?_)
  obtain ⟨hP1, hK1, hD1⟩ := hB
  rw [ht] at hP1
  have hK1 := va_K.moved hvm.symm hK1
  obtain ⟨hP, hD⟩ := va_join (wr := []) (w1 := [(h0, .inr (9, [.ref t1, .ref t2, .int 0, .int (-1), .int 0]))]) hP hD [0] [] rfl rfl (by decide) (by decide) hk1 hFc hP1 hD1
  have hK := (hK.sub (tys' := []) [] rfl).app hK1
  generalize H1 = H at hP hS ⊢
  have hP : va_P (dC, dI) z_Cl [(h0, .inr (9, [.ref t1, .ref t2, .int 0, .int (-1), .int 0]))] H := hP
  have hD : va_D A [(h0, .inr (9, [.ref t1, .ref t2, .int 0, .int (-1), .int 0]))] := hD
  have hK : va_K (dC, dI) z_Cl [] s := hK
  have hw : r_4 = 0 := hw
  subst hw
  have hP9 := hP.sub (ws' := [(h0, .inr (9, [.ref t1, .ref t2, .int 0, .int (-1), .int 0]))]) [0] rfl
  have hD9 := hD.sub (ws' := [(h0, .inr (9, [.ref t1, .ref t2, .int 0, .int (-1), .int 0]))]) [0] (by decide) rfl
  have hK9 := hK.sub (tys' := []) [] rfl
  refine W.widen (k := 0) (n := 0) (Nat.le_of_ble_eq_true rfl) (Nat.le_of_ble_eq_true rfl) ?_
  exact W.lret (v := 0) hx hb hr (fun t ht hW => ⟨⟨0, (), rfl, rfl, by rw [ht]; exact hP9, va_K.moved hW.alike hK9, hD9⟩, hS.F ht⟩) hS.2.2 dX9_shownLines_12

def z_wX9_fewestSet : List Cond := .code yX9_fewestSet cX9_fewestSet 5 (some .int) :: ([.fieldLink RX9 23 "LessonMaker$Told" "size" "I", .methodLink RX9 33 yX9_linesOf, .instanceMethod yX9_linesOf, .selects RX9 yX9_linesOf yX9_linesOf, .initialized RX9, .code yX9_linesOf cX9_linesOf 5 (some .long)] ++ (u_ws RX9 TX9 5))
set_option maxRecDepth 20000 in
theorem c_X9_fewestSet_zg_3 : GoodIn z_wX9_fewestSet (wsV RX9 33 RX9 yX9_linesOf z_wX9_linesOf) := goodIn_r _ [2, 3, 4, 5, 6, 1, 7, 8, 9, 10, 11] (by decide +kernel) (by decide +kernel)
set_option maxHeartbeats 4000000 in
set_option maxRecDepth 100000 in
theorem c_X9_fewestSet (l : Launch) (dC : Nat → ClassId) (dI : Nat → Nat → Nat) (h0 : Nat) (t1 : Nat) (t2 : Nat) (sz : Nat) : Met l yX9_fewestSet z_wX9_fewestSet ({ frames := 1, cells := 0, slots := 0, locals := 24 }) (va_Pc [.ref h0] (z_in dC dI [(h0, .inr (9, [.ref t1, .ref t2, .int 0, .int (-1), .int 0]))] [] sz)) (va_Qi (fun (r : Int32) (_ : Unit) => r = 0) (fun (_ : Unit) t => z_out dC dI (va_A [(h0, .inr (9, [.ref t1, .ref t2, .int 0, .int (-1), .int 0]))] sz) [(h0, .inr (9, [.ref t1, .ref t2, .int 0, .int (-1), .int 0]))] [] t) (va_A [(h0, .inr (9, [.ref t1, .ref t2, .int 0, .int (-1), .int 0]))] sz)) 0 0 (va_A [(h0, .inr (9, [.ref t1, .ref t2, .int 0, .int (-1), .int 0]))] sz) := by
  refine Met.ofW (cc := cX9_fewestSet) (maxL := 5) (ret := (some .int)) (by decide) rfl ?_
  intro p e s m args below meth c s₁ B hml hv
  obtain ⟨rfl, hsz, hP, hK, hD0, hN⟩ := hv
  have hx := B.exec
  have hb := B.bytes
  have hr := B.returns
  have hts := atoms_spec (ws := z_wX9_fewestSet) B.pre
  have hown : s.vm.findClass RX9 = some m.cls := findClass_of_methodNamed B.named
  have hlocks := B.notSynchronized
  have hin_9 : ∀ w ∈ u_ws RX9 TX9 5, w ∈ z_wX9_fewestSet := by decide +kernel
  subst hsz
  have hD := hD0.self (sz := s.heap.size)
  generalize hAe : va_A [(h0, .inr (9, [.ref t1, .ref t2, .int 0, .int (-1), .int 0]))] s.heap.size = A at hD ⊢
  have hA : ∀ q : Nat, s.heap.size ≤ q → A q := fun q h => by rw [← hAe]; exact Or.inr h
  have hS : va_S A s.heap s.heap [] := va_S.rf
  have hP : va_P (dC, dI) z_Cl [(h0, .inr (9, [.ref t1, .ref t2, .int 0, .int (-1), .int 0]))] s.heap := hP
  have hl := lv_entry ([.ref h0]) (n := 5) (Nat.le_of_ble_eq_true rfl)
  rw [lg_entry_eq]
  generalize (lg_sl ([.ref h0]) ++ List.replicate (5 - (lg_sl ([.ref h0])).length) Slot.unset).toArray = ls at hl ⊢
  have hl : lv_has ls 5 [(0, .ref h0)] := hl
  refine lv_iconst (v := 1) hx hb dX9_fewestSet_0 (by decide) ?_
  refine lv_aload_n hx hb dX9_fewestSet_1 rfl (lv_at hl 0 rfl) ?_
  refine va_get (D := (dC, dI)) (ci := 9) (v := .int 0) (C := RX9) (T := TX9) (N := 5) hx hb hts hin_9 hown hK hP 0 rfl rfl 4 (by decide) (hts (.fieldLink RX9 23 "LessonMaker$Told" "size" "I") (List.mem_of_getElem? (i := 1) rfl)) (fun _ h9 => h9) rfl dX9_fewestSet_2 ?_
  refine lv_ishl hx hb dX9_fewestSet_5 ?_
  refine lv_topi (fun x_1 ex_1 => ?_)
  have ex_1 := ex_1.trans (show _ = (1 : Int32) by decide)
  subst ex_1
  refine lv_iconst (v := 1) hx hb dX9_fewestSet_6 (by decide) ?_
  refine lv_isub hx hb dX9_fewestSet_7 ?_
  refine lv_topi (fun x_2 ex_2 => ?_)
  have ex_2 := ex_2.trans (show _ = (0 : Int32) by decide)
  subst ex_2
  refine lv_istore_n (lv' := [(1, .int 0), (0, .ref h0)]) hx hb dX9_fewestSet_8 rfl hl (by decide) rfl (fun ls hl => ?_)
  refine lv_aload_n hx hb dX9_fewestSet_9 rfl (lv_at hl 1 rfl) ?_
  refine lv_iload_n hx hb dX9_fewestSet_10 rfl (lv_at hl 0 rfl) ?_
  have hPc := hP.sub (ws' := [(h0, .inr (9, [.ref t1, .ref t2, .int 0, .int (-1), .int 0]))]) [0] rfl
  have hDc := hD.sub (ws' := [(h0, .inr (9, [.ref t1, .ref t2, .int 0, .int (-1), .int 0]))]) [0] (by decide) rfl
  have hKc := hK.sub (tys' := []) [] rfl
  have hFc := va_free (wc := [(h0, .inr (9, [.ref t1, .ref t2, .int 0, .int (-1), .int 0]))]) hD hS hA [0] rfl
  refine va_calll (va_runV (As := [.int 0]) (rest := []) ⟨hx, hb, hml, hown, hts⟩ (c_X9_linesOf l dC dI h0 t1 t2 s.heap.size) (cwV 1 hts c_X9_fewestSet_zg_3 rfl rfl rfl (by decide +kernel) ⟨(Nat.le_of_ble_eq_true rfl), (Nat.le_of_ble_eq_true rfl)⟩) ⟨z_blind, va_recv hKc hPc (ci := 9) (q0 := 0) rfl rfl, z_pre hPc hKc hDc hN⟩ rfl rfl hl.1 rfl (lv_room (Nat.le_of_ble_eq_true rfl)) dX9_fewestSet_11 ⟨(Nat.le_of_ble_eq_true rfl), (Nat.le_of_ble_eq_true rfl)⟩) hS (fun q _ h => hFc q h) hFc (fun r_4 u t H1 locs ht hvm hw hB hz1 hk1 hS => ?_)
  obtain ⟨hP1, hK1, hD1⟩ := hB
  rw [ht] at hP1
  have hK1 := va_K.moved hvm.symm hK1
  obtain ⟨hP, hD⟩ := va_join (wr := []) (w1 := [(h0, .inr (9, [.ref t1, .ref t2, .int 0, .int (-1), .int 0]))]) hP hD [0] [] rfl rfl (by decide) (by decide) hk1 hFc hP1 hD1
  have hK := (hK.sub (tys' := []) [] rfl).app hK1
  generalize H1 = H at hP hS ⊢
  have hP : va_P (dC, dI) z_Cl [(h0, .inr (9, [.ref t1, .ref t2, .int 0, .int (-1), .int 0]))] H := hP
  have hD : va_D A [(h0, .inr (9, [.ref t1, .ref t2, .int 0, .int (-1), .int 0]))] := hD
  have hK : va_K (dC, dI) z_Cl [] s := hK
  have hw : r_4 = 0 := hw
  subst hw
  refine lv_lstore_n (lv' := [(2, .long 0), (1, .int 0), (0, .ref h0)]) hx hb dX9_fewestSet_14 rfl hl (by decide) rfl (fun ls hl => ?_)
  refine lv_iload_n hx hb dX9_fewestSet_15 rfl (lv_at hl 1 rfl) ?_
  refine lv_iconst (v := 1) hx hb dX9_fewestSet_16 (by decide) ?_
  refine lv_isub hx hb dX9_fewestSet_17 ?_
  refine lv_topi (fun x_5 ex_5 => ?_)
  have ex_5 := ex_5.trans (show _ = (-1 : Int32) by decide)
  subst ex_5
  refine lv_istore (lv' := [(4, .int (-1)), (2, .long 0), (1, .int 0), (0, .ref h0)]) hx hb dX9_fewestSet_18 hl (by decide) rfl (fun ls hl => ?_)
  refine lv_iload hx hb dX9_fewestSet_20 (lv_at hl 0 rfl) ?_
  refine lv_if_lt (tgt := 57) hx hb dX9_fewestSet_22 (by decide) (fun _ => ?_) (fun h9 => absurd (by decide) h9)
  refine lv_iload_n hx hb dX9_fewestSet_57 rfl (lv_at hl 2 rfl) ?_
  have hP9 := hP.sub (ws' := [(h0, .inr (9, [.ref t1, .ref t2, .int 0, .int (-1), .int 0]))]) [0] rfl
  have hD9 := hD.sub (ws' := [(h0, .inr (9, [.ref t1, .ref t2, .int 0, .int (-1), .int 0]))]) [0] (by decide) rfl
  have hK9 := hK.sub (tys' := []) [] rfl
  refine W.widen (k := 0) (n := 0) (Nat.le_of_ble_eq_true rfl) (Nat.le_of_ble_eq_true rfl) ?_
  exact W.iret (v := 0) hx hb hr (fun t ht hW => ⟨⟨0, (), rfl, rfl, by rw [ht]; exact hP9, va_K.moved hW.alike hK9, hD9⟩, hS.F ht⟩) hS.2.2 dX9_fewestSet_58

def z_wX9_choose : List Cond := .code yX9_choose cX9_choose 3 none :: ([.fieldLink RX9 26 "LessonMaker$Told" "chosenCount" "I", .fieldLink RX9 23 "LessonMaker$Told" "size" "I"] ++ (u_ws RX9 TX9 5))
set_option maxHeartbeats 4000000 in
set_option maxRecDepth 100000 in
theorem c_X9_choose (l : Launch) (dC : Nat → ClassId) (dI : Nat → Nat → Nat) (h0 : Nat) (t1 : Nat) (t2 : Nat) (sz : Nat) : Met l yX9_choose z_wX9_choose ({ frames := 0, cells := 0, slots := 0, locals := 0 }) (va_Pc [.ref h0, .int 0] (z_in dC dI [(h0, .inr (9, [.ref t1, .ref t2, .int 0, .int (-1), .int 0]))] [] sz)) (va_Qv (fun _ : Unit => True) (fun (_ : Unit) t => z_out dC dI (va_A [(h0, .inr (9, [.ref t1, .ref t2, .int 0, .int (-1), .int 0]))] sz) [(h0, .inr (9, [.ref t1, .ref t2, .int 0, .int (-1), .int 0]))] [] t) (va_A [(h0, .inr (9, [.ref t1, .ref t2, .int 0, .int (-1), .int 0]))] sz)) 0 0 (va_A [(h0, .inr (9, [.ref t1, .ref t2, .int 0, .int (-1), .int 0]))] sz) := by
  refine Met.ofW (cc := cX9_choose) (maxL := 3) (ret := none) (by decide) rfl ?_
  intro p e s m args below meth c s₁ B hml hv
  obtain ⟨rfl, hsz, hP, hK, hD0, hN⟩ := hv
  have hx := B.exec
  have hb := B.bytes
  have hr := B.returns
  have hts := atoms_spec (ws := z_wX9_choose) B.pre
  have hown : s.vm.findClass RX9 = some m.cls := findClass_of_methodNamed B.named
  have hlocks := B.notSynchronized
  have hin_9 : ∀ w ∈ u_ws RX9 TX9 5, w ∈ z_wX9_choose := by decide +kernel
  subst hsz
  have hD := hD0.self (sz := s.heap.size)
  generalize hAe : va_A [(h0, .inr (9, [.ref t1, .ref t2, .int 0, .int (-1), .int 0]))] s.heap.size = A at hD ⊢
  have hA : ∀ q : Nat, s.heap.size ≤ q → A q := fun q h => by rw [← hAe]; exact Or.inr h
  have hS : va_S A s.heap s.heap [] := va_S.rf
  have hP : va_P (dC, dI) z_Cl [(h0, .inr (9, [.ref t1, .ref t2, .int 0, .int (-1), .int 0]))] s.heap := hP
  have hl := lv_entry ([.ref h0, .int 0]) (n := 3) (Nat.le_of_ble_eq_true rfl)
  rw [lg_entry_eq]
  generalize (lg_sl ([.ref h0, .int 0]) ++ List.replicate (3 - (lg_sl ([.ref h0, .int 0])).length) Slot.unset).toArray = ls at hl ⊢
  have hl : lv_has ls 3 [(0, .ref h0), (1, .int 0)] := hl
  refine lv_aload_n hx hb dX9_choose_0 rfl (lv_at hl 0 rfl) ?_
  refine lv_iconst (v := 0) hx hb dX9_choose_1 (by decide) ?_
  refine va_put (D := (dC, dI)) (ci := 9) (v := .int 0) (ty := .int) (C := RX9) (T := TX9) (N := 5) hx hb hts hin_9 tyX9 tyX9_ok nmX9 hown hK hP hD hS 0 rfl rfl 2 (by decide) (hts (.fieldLink RX9 26 "LessonMaker$Told" "chosenCount" "I") (List.mem_of_getElem? (i := 1) rfl)) (fun _ h9 => h9) rfl (by decide +kernel) rfl rfl (Nat.le_of_ble_eq_true rfl) dX9_choose_2 (fun H locs hP hD hS => ?_)
  have hP : va_P (dC, dI) z_Cl [(h0, .inr (9, [.ref t1, .ref t2, .int 0, .int (-1), .int 0]))] H := hP
  have hD : va_D A [(h0, .inr (9, [.ref t1, .ref t2, .int 0, .int (-1), .int 0]))] := hD
  refine lv_iconst (v := 0) hx hb dX9_choose_5 (by decide) ?_
  refine lv_istore_n (lv' := [(2, .int 0), (0, .ref h0), (1, .int 0)]) hx hb dX9_choose_6 rfl hl (by decide) rfl (fun ls hl => ?_)
  refine lv_iload_n hx hb dX9_choose_7 rfl (lv_at hl 0 rfl) ?_
  refine lv_aload_n hx hb dX9_choose_8 rfl (lv_at hl 1 rfl) ?_
  refine va_get (D := (dC, dI)) (ci := 9) (v := .int 0) (C := RX9) (T := TX9) (N := 5) hx hb hts hin_9 hown hK hP 0 rfl rfl 4 (by decide) (hts (.fieldLink RX9 23 "LessonMaker$Told" "size" "I") (List.mem_of_getElem? (i := 2) rfl)) (fun _ h9 => h9) rfl dX9_choose_9 ?_
  refine lv_icmp_ge (tgt := 59) hx hb dX9_choose_12 (by decide) (fun _ => ?_) (fun h9 => absurd (by decide) h9)
  have hP9 := hP.sub (ws' := [(h0, .inr (9, [.ref t1, .ref t2, .int 0, .int (-1), .int 0]))]) [0] rfl
  have hD9 := hD.sub (ws' := [(h0, .inr (9, [.ref t1, .ref t2, .int 0, .int (-1), .int 0]))]) [0] (by decide) rfl
  have hK9 := hK.sub (tys' := []) [] rfl
  refine W.widen (k := 0) (n := 0) (Nat.le_of_ble_eq_true rfl) (Nat.le_of_ble_eq_true rfl) ?_
  exact W.vret hx hb hr (fun t ht hW => ⟨⟨(), rfl, trivial, by rw [ht]; exact hP9, va_K.moved hW.alike hK9, hD9⟩, hS.F ht⟩) hS.2.2 dX9_choose_59

def z_wX9_chooseFewest : List Cond := .code yX9_chooseFewest cX9_chooseFewest 1 (some .int) :: ([.fieldLink RX9 19 "LessonMaker$Told" "chosenOf" "I", .fieldLink RX9 23 "LessonMaker$Told" "size" "I", .methodLink RX9 33 yX9_linesOf, .instanceMethod yX9_linesOf, .selects RX9 yX9_linesOf yX9_linesOf, .initialized RX9, .code yX9_linesOf cX9_linesOf 5 (some .long), .methodLink RX9 37 yX9_fewestSet, .instanceMethod yX9_fewestSet, .selects RX9 yX9_fewestSet yX9_fewestSet, .code yX9_fewestSet cX9_fewestSet 5 (some .int), .fieldLink RX9 26 "LessonMaker$Told" "chosenCount" "I", .methodLink RX9 41 yX9_choose, .instanceMethod yX9_choose, .selects RX9 yX9_choose yX9_choose, .code yX9_choose cX9_choose 3 none] ++ (u_ws RX9 TX9 5))
set_option maxRecDepth 20000 in
theorem c_X9_chooseFewest_zg_1 : GoodIn z_wX9_chooseFewest (wsV RX9 37 RX9 yX9_fewestSet z_wX9_fewestSet) := goodIn_r _ [8, 9, 10, 6, 11, 2, 3, 4, 5, 6, 7, 17, 18, 19, 20, 21] (by decide +kernel) (by decide +kernel)
set_option maxRecDepth 20000 in
theorem c_X9_chooseFewest_zg_3 : GoodIn z_wX9_chooseFewest (wsV RX9 41 RX9 yX9_choose z_wX9_choose) := goodIn_r _ [13, 14, 15, 6, 16, 12, 2, 17, 18, 19, 20, 21] (by decide +kernel) (by decide +kernel)
set_option maxHeartbeats 4000000 in
set_option maxRecDepth 100000 in
theorem c_X9_chooseFewest (l : Launch) (dC : Nat → ClassId) (dI : Nat → Nat → Nat) (h0 : Nat) (t1 : Nat) (t2 : Nat) (sz : Nat) : Met l yX9_chooseFewest z_wX9_chooseFewest ({ frames := 2, cells := 0, slots := 0, locals := 48 }) (va_Pc [.ref h0] (z_in dC dI [(h0, .inr (9, [.ref t1, .ref t2, .int 0, .int (-1), .int 0]))] [] sz)) (va_Qi (fun (r : Int32) (_ : Unit) => r = 0) (fun (_ : Unit) t => z_out dC dI (va_A [(h0, .inr (9, [.ref t1, .ref t2, .int 0, .int (-1), .int 0]))] sz) [] [] t) (va_A [(h0, .inr (9, [.ref t1, .ref t2, .int 0, .int (-1), .int 0]))] sz)) 0 0 (va_A [(h0, .inr (9, [.ref t1, .ref t2, .int 0, .int (-1), .int 0]))] sz) := by
  refine Met.ofW (cc := cX9_chooseFewest) (maxL := 1) (ret := (some .int)) (by decide) rfl ?_
  intro p e s m args below meth c s₁ B hml hv
  obtain ⟨rfl, hsz, hP, hK, hD0, hN⟩ := hv
  have hx := B.exec
  have hb := B.bytes
  have hr := B.returns
  have hts := atoms_spec (ws := z_wX9_chooseFewest) B.pre
  have hown : s.vm.findClass RX9 = some m.cls := findClass_of_methodNamed B.named
  have hlocks := B.notSynchronized
  have hin_9 : ∀ w ∈ u_ws RX9 TX9 5, w ∈ z_wX9_chooseFewest := by decide +kernel
  subst hsz
  have hD := hD0.self (sz := s.heap.size)
  generalize hAe : va_A [(h0, .inr (9, [.ref t1, .ref t2, .int 0, .int (-1), .int 0]))] s.heap.size = A at hD ⊢
  have hA : ∀ q : Nat, s.heap.size ≤ q → A q := fun q h => by rw [← hAe]; exact Or.inr h
  have hS : va_S A s.heap s.heap [] := va_S.rf
  have hP : va_P (dC, dI) z_Cl [(h0, .inr (9, [.ref t1, .ref t2, .int 0, .int (-1), .int 0]))] s.heap := hP
  have hl := lv_entry ([.ref h0]) (n := 1) (Nat.le_of_ble_eq_true rfl)
  rw [lg_entry_eq]
  generalize (lg_sl ([.ref h0]) ++ List.replicate (1 - (lg_sl ([.ref h0])).length) Slot.unset).toArray = ls at hl ⊢
  have hl : lv_has ls 1 [(0, .ref h0)] := hl
  refine lv_aload_n hx hb dX9_chooseFewest_0 rfl (lv_at hl 0 rfl) ?_
  refine va_get (D := (dC, dI)) (ci := 9) (v := .int (-1)) (C := RX9) (T := TX9) (N := 5) hx hb hts hin_9 hown hK hP 0 rfl rfl 3 (by decide) (hts (.fieldLink RX9 19 "LessonMaker$Told" "chosenOf" "I") (List.mem_of_getElem? (i := 1) rfl)) (fun _ h9 => h9) rfl dX9_chooseFewest_1 ?_
  refine lv_aload_n hx hb dX9_chooseFewest_4 rfl (lv_at hl 0 rfl) ?_
  refine va_get (D := (dC, dI)) (ci := 9) (v := .int 0) (C := RX9) (T := TX9) (N := 5) hx hb hts hin_9 hown hK hP 0 rfl rfl 4 (by decide) (hts (.fieldLink RX9 23 "LessonMaker$Told" "size" "I") (List.mem_of_getElem? (i := 2) rfl)) (fun _ h9 => h9) rfl dX9_chooseFewest_5 ?_
  refine lv_icmp_eq (tgt := 27) hx hb dX9_chooseFewest_8 (by decide) (fun h9 => absurd h9 (by decide)) (fun _ => ?_)
  refine lv_aload_n hx hb dX9_chooseFewest_11 rfl (lv_at hl 0 rfl) ?_
  refine lv_aload_n hx hb dX9_chooseFewest_12 rfl (lv_at hl 0 rfl) ?_
  have hPc := hP.sub (ws' := [(h0, .inr (9, [.ref t1, .ref t2, .int 0, .int (-1), .int 0]))]) [0] rfl
  have hDc := hD.sub (ws' := [(h0, .inr (9, [.ref t1, .ref t2, .int 0, .int (-1), .int 0]))]) [0] (by decide) rfl
  have hKc := hK.sub (tys' := []) [] rfl
  have hFc := va_free (wc := [(h0, .inr (9, [.ref t1, .ref t2, .int 0, .int (-1), .int 0]))]) hD hS hA [0] rfl
  refine va_calli (va_runV (As := []) (rest := [.ref h0]) ⟨hx, hb, hml, hown, hts⟩ (c_X9_fewestSet l dC dI h0 t1 t2 s.heap.size) (cwV 0 hts c_X9_chooseFewest_zg_1 rfl rfl rfl (by decide +kernel) ⟨(Nat.le_of_ble_eq_true rfl), (Nat.le_of_ble_eq_true rfl)⟩) ⟨z_blind, va_recv hKc hPc (ci := 9) (q0 := 0) rfl rfl, z_pre hPc hKc hDc hN⟩ rfl rfl hl.1 rfl (lv_room (Nat.le_of_ble_eq_true rfl)) dX9_chooseFewest_13 ⟨(Nat.le_of_ble_eq_true rfl), (Nat.le_of_ble_eq_true rfl)⟩) hS (fun q _ h => hFc q h) hFc (fun r_2 u t H1 locs ht hvm hw hB hz1 hk1 hS => ?_)
  obtain ⟨hP1, hK1, hD1⟩ := hB
  rw [ht] at hP1
  have hK1 := va_K.moved hvm.symm hK1
  obtain ⟨hP, hD⟩ := va_join (wr := []) (w1 := [(h0, .inr (9, [.ref t1, .ref t2, .int 0, .int (-1), .int 0]))]) hP hD [0] [] rfl rfl (by decide) (by decide) hk1 hFc hP1 hD1
  have hK := (hK.sub (tys' := []) [] rfl).app hK1
  generalize H1 = H at hP hS ⊢
  have hP : va_P (dC, dI) z_Cl [(h0, .inr (9, [.ref t1, .ref t2, .int 0, .int (-1), .int 0]))] H := hP
  have hD : va_D A [(h0, .inr (9, [.ref t1, .ref t2, .int 0, .int (-1), .int 0]))] := hD
  have hK : va_K (dC, dI) z_Cl [] s := hK
  have hw : r_2 = 0 := hw
  subst hw
  have hPc := hP.sub (ws' := [(h0, .inr (9, [.ref t1, .ref t2, .int 0, .int (-1), .int 0]))]) [0] rfl
  have hDc := hD.sub (ws' := [(h0, .inr (9, [.ref t1, .ref t2, .int 0, .int (-1), .int 0]))]) [0] (by decide) rfl
  have hKc := hK.sub (tys' := []) [] rfl
  have hFc := va_free (wc := [(h0, .inr (9, [.ref t1, .ref t2, .int 0, .int (-1), .int 0]))]) hD hS hA [0] rfl
  refine va_callv (va_runV (As := [.int 0]) (rest := []) ⟨hx, hb, hml, hown, hts⟩ (c_X9_choose l dC dI h0 t1 t2 H.size) (cwV 1 hts c_X9_chooseFewest_zg_3 rfl rfl rfl (by decide +kernel) ⟨(Nat.le_of_ble_eq_true rfl), (Nat.le_of_ble_eq_true rfl)⟩) ⟨z_blind, va_recv hKc hPc (ci := 9) (q0 := 0) rfl rfl, z_pre hPc hKc hDc hN⟩ rfl rfl hl.1 rfl (lv_room (Nat.le_of_ble_eq_true rfl)) dX9_chooseFewest_16 ⟨(Nat.le_of_ble_eq_true rfl), (Nat.le_of_ble_eq_true rfl)⟩) hS (fun q _ h => hFc q h) hFc (fun u t H1 locs ht hvm hw hB hz1 hk1 hS => ?_)
  obtain ⟨hP1, hK1, hD1⟩ := hB
  rw [ht] at hP1
  have hK1 := va_K.moved hvm.symm hK1
  obtain ⟨hP, hD⟩ := va_join (wr := []) (w1 := [(h0, .inr (9, [.ref t1, .ref t2, .int 0, .int (-1), .int 0]))]) hP hD [0] [] rfl rfl (by decide) (by decide) hk1 hFc hP1 hD1
  have hK := (hK.sub (tys' := []) [] rfl).app hK1
  generalize H1 = H at hP hS ⊢
  have hP : va_P (dC, dI) z_Cl [(h0, .inr (9, [.ref t1, .ref t2, .int 0, .int (-1), .int 0]))] H := hP
  have hD : va_D A [(h0, .inr (9, [.ref t1, .ref t2, .int 0, .int (-1), .int 0]))] := hD
  have hK : va_K (dC, dI) z_Cl [] s := hK
  refine lv_aload_n hx hb dX9_chooseFewest_19 rfl (lv_at hl 0 rfl) ?_
  refine lv_aload_n hx hb dX9_chooseFewest_20 rfl (lv_at hl 0 rfl) ?_
  refine va_get (D := (dC, dI)) (ci := 9) (v := .int 0) (C := RX9) (T := TX9) (N := 5) hx hb hts hin_9 hown hK hP 0 rfl rfl 4 (by decide) (hts (.fieldLink RX9 23 "LessonMaker$Told" "size" "I") (List.mem_of_getElem? (i := 2) rfl)) (fun _ h9 => h9) rfl dX9_chooseFewest_21 ?_
  refine va_put (D := (dC, dI)) (ci := 9) (v := .int 0) (ty := .int) (C := RX9) (T := TX9) (N := 5) hx hb hts hin_9 tyX9 tyX9_ok nmX9 hown hK hP hD hS 0 rfl rfl 3 (by decide) (hts (.fieldLink RX9 19 "LessonMaker$Told" "chosenOf" "I") (List.mem_of_getElem? (i := 1) rfl)) (fun _ h9 => h9) rfl (by decide +kernel) rfl rfl (Nat.le_of_ble_eq_true rfl) dX9_chooseFewest_24 (fun H locs hP hD hS => ?_)
  have hP : va_P (dC, dI) z_Cl [(h0, .inr (9, [.ref t1, .ref t2, .int 0, .int 0, .int 0]))] H := hP
  have hD : va_D A [(h0, .inr (9, [.ref t1, .ref t2, .int 0, .int 0, .int 0]))] := hD
  refine lv_aload_n hx hb dX9_chooseFewest_27 rfl (lv_at hl 0 rfl) ?_
  refine va_get (D := (dC, dI)) (ci := 9) (v := .int 0) (C := RX9) (T := TX9) (N := 5) hx hb hts hin_9 hown hK hP 0 rfl rfl 2 (by decide) (hts (.fieldLink RX9 26 "LessonMaker$Told" "chosenCount" "I") (List.mem_of_getElem? (i := 12) rfl)) (fun _ h9 => h9) rfl dX9_chooseFewest_28 ?_
  have hP9 := hP.sub (ws' := []) [] rfl
  have hD9 := hD.sub (ws' := []) [] (by decide) rfl
  have hK9 := hK.sub (tys' := []) [] rfl
  refine W.widen (k := 0) (n := 0) (Nat.le_of_ble_eq_true rfl) (Nat.le_of_ble_eq_true rfl) ?_
  exact W.iret (v := 0) hx hb hr (fun t ht hW => ⟨⟨0, (), rfl, rfl, by rw [ht]; exact hP9, va_K.moved hW.alike hK9, hD9⟩, hS.F ht⟩) hS.2.2 dX9_chooseFewest_31

def z_wX9_chosenAt : List Cond := .code yX9_chosenAt cX9_chosenAt 2 (some .int) :: ([.fieldLink RX9 26 "LessonMaker$Told" "chosenCount" "I"] ++ (u_ws RX9 TX9 5))
set_option maxHeartbeats 4000000 in
set_option maxRecDepth 100000 in
theorem c_X9_chosenAt (l : Launch) (dC : Nat → ClassId) (dI : Nat → Nat → Nat) (h0 : Nat) (t1 : Nat) (t2 : Nat) (p1 : Int32) (sz : Nat) : Met l yX9_chosenAt z_wX9_chosenAt ({ frames := 0, cells := 0, slots := 0, locals := 0 }) (va_Pc [.ref h0, .int p1] (z_in dC dI [(h0, .inr (9, [.ref t1, .ref t2, .int 0, .int (-1), .int 0]))] [] sz)) (va_Qi (fun (r : Int32) (_ : Unit) => r = (-1)) (fun (_ : Unit) t => z_out dC dI (va_A [(h0, .inr (9, [.ref t1, .ref t2, .int 0, .int (-1), .int 0]))] sz) [] [] t) (va_A [(h0, .inr (9, [.ref t1, .ref t2, .int 0, .int (-1), .int 0]))] sz)) 0 0 (va_A [(h0, .inr (9, [.ref t1, .ref t2, .int 0, .int (-1), .int 0]))] sz) := by
  refine Met.ofW (cc := cX9_chosenAt) (maxL := 2) (ret := (some .int)) (by decide) rfl ?_
  intro p e s m args below meth c s₁ B hml hv
  obtain ⟨rfl, hsz, hP, hK, hD0, hN⟩ := hv
  have hx := B.exec
  have hb := B.bytes
  have hr := B.returns
  have hts := atoms_spec (ws := z_wX9_chosenAt) B.pre
  have hown : s.vm.findClass RX9 = some m.cls := findClass_of_methodNamed B.named
  have hlocks := B.notSynchronized
  have hin_9 : ∀ w ∈ u_ws RX9 TX9 5, w ∈ z_wX9_chosenAt := by decide +kernel
  subst hsz
  have hD := hD0.self (sz := s.heap.size)
  generalize hAe : va_A [(h0, .inr (9, [.ref t1, .ref t2, .int 0, .int (-1), .int 0]))] s.heap.size = A at hD ⊢
  have hA : ∀ q : Nat, s.heap.size ≤ q → A q := fun q h => by rw [← hAe]; exact Or.inr h
  have hS : va_S A s.heap s.heap [] := va_S.rf
  have hP : va_P (dC, dI) z_Cl [(h0, .inr (9, [.ref t1, .ref t2, .int 0, .int (-1), .int 0]))] s.heap := hP
  have hl := lv_entry ([.ref h0, .int p1]) (n := 2) (Nat.le_of_ble_eq_true rfl)
  rw [lg_entry_eq]
  generalize (lg_sl ([.ref h0, .int p1]) ++ List.replicate (2 - (lg_sl ([.ref h0, .int p1])).length) Slot.unset).toArray = ls at hl ⊢
  have hl : lv_has ls 2 [(0, .ref h0), (1, .int p1)] := hl
  refine lv_iload_n hx hb dX9_chosenAt_0 rfl (lv_at hl 1 rfl) ?_
  refine lv_if_lt (tgt := 30) hx hb dX9_chosenAt_1 (by decide) (fun c_1 => ?_) (fun c_1 => ?_)
  · refine lv_iconst (v := (-1)) hx hb dX9_chosenAt_30 (by decide) ?_
    have hP9 := hP.sub (ws' := []) [] rfl
    have hD9 := hD.sub (ws' := []) [] (by decide) rfl
    have hK9 := hK.sub (tys' := []) [] rfl
    refine W.widen (k := 0) (n := 0) (Nat.le_of_ble_eq_true rfl) (Nat.le_of_ble_eq_true rfl) ?_
    exact W.iret (v := (-1)) hx hb hr (fun t ht hW => ⟨⟨(-1), (), rfl, rfl, by rw [ht]; exact hP9, va_K.moved hW.alike hK9, hD9⟩, hS.F ht⟩) hS.2.2 dX9_chosenAt_31
  · refine lv_iload_n hx hb dX9_chosenAt_4 rfl (lv_at hl 1 rfl) ?_
    refine lv_aload_n hx hb dX9_chosenAt_5 rfl (lv_at hl 0 rfl) ?_
    refine va_get (D := (dC, dI)) (ci := 9) (v := .int 0) (C := RX9) (T := TX9) (N := 5) hx hb hts hin_9 hown hK hP 0 rfl rfl 2 (by decide) (hts (.fieldLink RX9 26 "LessonMaker$Told" "chosenCount" "I") (List.mem_of_getElem? (i := 1) rfl)) (fun _ h9 => h9) rfl dX9_chosenAt_6 ?_
    refine lv_icmp_ge (tgt := 30) hx hb dX9_chosenAt_9 (by decide) (fun _ => ?_) (fun h9 => absurd (Int32.not_lt.mp c_1) h9)
    refine lv_iconst (v := (-1)) hx hb dX9_chosenAt_30 (by decide) ?_
    have hP9 := hP.sub (ws' := []) [] rfl
    have hD9 := hD.sub (ws' := []) [] (by decide) rfl
    have hK9 := hK.sub (tys' := []) [] rfl
    refine W.widen (k := 0) (n := 0) (Nat.le_of_ble_eq_true rfl) (Nat.le_of_ble_eq_true rfl) ?_
    exact W.iret (v := (-1)) hx hb hr (fun t ht hW => ⟨⟨(-1), (), rfl, rfl, by rw [ht]; exact hP9, va_K.moved hW.alike hK9, hD9⟩, hS.F ht⟩) hS.2.2 dX9_chosenAt_31

def z_wJ13_bitCount_95d88 : List Cond := .code yJ13_bitCount_95d88 cJ13_bitCount_95d88 2 (some .int) :: ([.constantLong RJ13 314 (6148914691236517205), .constantLong RJ13 316 (3689348814741910323), .constantLong RJ13 318 (1085102592571150095)] ++ (([] : List Cond)))
set_option maxHeartbeats 4000000 in
set_option maxRecDepth 100000 in
theorem c_J13_bitCount_95d88 (l : Launch) (dC : Nat → ClassId) (dI : Nat → Nat → Nat)  (sz : Nat) : Met l yJ13_bitCount_95d88 z_wJ13_bitCount_95d88 ({ frames := 0, cells := 0, slots := 0, locals := 0 }) (va_Pc [.long 0] (z_in dC dI [] [] sz)) (va_Qi (fun (r : Int32) (_ : Unit) => r = 0) (fun (_ : Unit) t => z_out dC dI (va_A [] sz) [] [] t) (va_A [] sz)) 0 0 (va_A [] sz) := by
  refine Met.ofW (cc := cJ13_bitCount_95d88) (maxL := 2) (ret := (some .int)) (by decide) rfl ?_
  intro p e s m args below meth c s₁ B hml hv
  obtain ⟨rfl, hsz, hP, hK, hD0, hN⟩ := hv
  have hx := B.exec
  have hb := B.bytes
  have hr := B.returns
  have hts := atoms_spec (ws := z_wJ13_bitCount_95d88) B.pre
  have hown : s.vm.findClass RJ13 = some m.cls := findClass_of_methodNamed B.named
  have hlocks := B.notSynchronized
  subst hsz
  have hD := hD0.self (sz := s.heap.size)
  generalize hAe : va_A [] s.heap.size = A at hD ⊢
  have hA : ∀ q : Nat, s.heap.size ≤ q → A q := fun q h => by rw [← hAe]; exact Or.inr h
  have hS : va_S A s.heap s.heap [] := va_S.rf
  have hP : va_P (dC, dI) z_Cl [] s.heap := hP
  have hl := lv_entry ([.long 0]) (n := 2) (Nat.le_of_ble_eq_true rfl)
  rw [lg_entry_eq]
  generalize (lg_sl ([.long 0]) ++ List.replicate (2 - (lg_sl ([.long 0])).length) Slot.unset).toArray = ls at hl ⊢
  have hl : lv_has ls 2 [(0, .long 0)] := hl
  refine lv_lload_n hx hb dJ13_bitCount_95d88_0 rfl (lv_at hl 0 rfl) ?_
  refine lv_lload_n hx hb dJ13_bitCount_95d88_1 rfl (lv_at hl 0 rfl) ?_
  refine lv_iconst (v := 1) hx hb dJ13_bitCount_95d88_2 (by decide) ?_
  refine lv_lushr (v := 0) hx hb dJ13_bitCount_95d88_3 (by decide) ?_
  refine lv_ldc2 hx hb hown (hts (.constantLong RJ13 314 (6148914691236517205)) (List.mem_of_getElem? (i := 1) rfl)) dJ13_bitCount_95d88_4 ?_
  refine lv_land hx hb dJ13_bitCount_95d88_7 ?_
  refine lv_topl (fun x_1 ex_1 => ?_)
  have ex_1 := ex_1.trans (show _ = (0 : Int64) by decide)
  subst ex_1
  refine lv_lsub hx hb dJ13_bitCount_95d88_8 ?_
  refine lv_topl (fun x_2 ex_2 => ?_)
  have ex_2 := ex_2.trans (show _ = (0 : Int64) by decide)
  subst ex_2
  refine lv_lstore_n (lv' := [(0, .long 0)]) hx hb dJ13_bitCount_95d88_9 rfl hl (by decide) rfl (fun ls hl => ?_)
  refine lv_lload_n hx hb dJ13_bitCount_95d88_10 rfl (lv_at hl 0 rfl) ?_
  refine lv_ldc2 hx hb hown (hts (.constantLong RJ13 316 (3689348814741910323)) (List.mem_of_getElem? (i := 2) rfl)) dJ13_bitCount_95d88_11 ?_
  refine lv_land hx hb dJ13_bitCount_95d88_14 ?_
  refine lv_topl (fun x_3 ex_3 => ?_)
  have ex_3 := ex_3.trans (show _ = (0 : Int64) by decide)
  subst ex_3
  refine lv_lload_n hx hb dJ13_bitCount_95d88_15 rfl (lv_at hl 0 rfl) ?_
  refine lv_iconst (v := 2) hx hb dJ13_bitCount_95d88_16 (by decide) ?_
  refine lv_lushr (v := 0) hx hb dJ13_bitCount_95d88_17 (by decide) ?_
  refine lv_ldc2 hx hb hown (hts (.constantLong RJ13 316 (3689348814741910323)) (List.mem_of_getElem? (i := 2) rfl)) dJ13_bitCount_95d88_18 ?_
  refine lv_land hx hb dJ13_bitCount_95d88_21 ?_
  refine lv_topl (fun x_4 ex_4 => ?_)
  have ex_4 := ex_4.trans (show _ = (0 : Int64) by decide)
  subst ex_4
  refine lv_ladd hx hb dJ13_bitCount_95d88_22 ?_
  refine lv_topl (fun x_5 ex_5 => ?_)
  have ex_5 := ex_5.trans (show _ = (0 : Int64) by decide)
  subst ex_5
  refine lv_lstore_n (lv' := [(0, .long 0)]) hx hb dJ13_bitCount_95d88_23 rfl hl (by decide) rfl (fun ls hl => ?_)
  refine lv_lload_n hx hb dJ13_bitCount_95d88_24 rfl (lv_at hl 0 rfl) ?_
  refine lv_lload_n hx hb dJ13_bitCount_95d88_25 rfl (lv_at hl 0 rfl) ?_
  refine lv_iconst (v := 4) hx hb dJ13_bitCount_95d88_26 (by decide) ?_
  refine lv_lushr (v := 0) hx hb dJ13_bitCount_95d88_27 (by decide) ?_
  refine lv_ladd hx hb dJ13_bitCount_95d88_28 ?_
  refine lv_topl (fun x_6 ex_6 => ?_)
  have ex_6 := ex_6.trans (show _ = (0 : Int64) by decide)
  subst ex_6
  refine lv_ldc2 hx hb hown (hts (.constantLong RJ13 318 (1085102592571150095)) (List.mem_of_getElem? (i := 3) rfl)) dJ13_bitCount_95d88_29 ?_
  refine lv_land hx hb dJ13_bitCount_95d88_32 ?_
  refine lv_topl (fun x_7 ex_7 => ?_)
  have ex_7 := ex_7.trans (show _ = (0 : Int64) by decide)
  subst ex_7
  refine lv_lstore_n (lv' := [(0, .long 0)]) hx hb dJ13_bitCount_95d88_33 rfl hl (by decide) rfl (fun ls hl => ?_)
  refine lv_lload_n hx hb dJ13_bitCount_95d88_34 rfl (lv_at hl 0 rfl) ?_
  refine lv_lload_n hx hb dJ13_bitCount_95d88_35 rfl (lv_at hl 0 rfl) ?_
  refine lv_bipush (v := 8) hx hb dJ13_bitCount_95d88_36 (by decide) ?_
  refine lv_lushr (v := 0) hx hb dJ13_bitCount_95d88_38 (by decide) ?_
  refine lv_ladd hx hb dJ13_bitCount_95d88_39 ?_
  refine lv_topl (fun x_8 ex_8 => ?_)
  have ex_8 := ex_8.trans (show _ = (0 : Int64) by decide)
  subst ex_8
  refine lv_lstore_n (lv' := [(0, .long 0)]) hx hb dJ13_bitCount_95d88_40 rfl hl (by decide) rfl (fun ls hl => ?_)
  refine lv_lload_n hx hb dJ13_bitCount_95d88_41 rfl (lv_at hl 0 rfl) ?_
  refine lv_lload_n hx hb dJ13_bitCount_95d88_42 rfl (lv_at hl 0 rfl) ?_
  refine lv_bipush (v := 16) hx hb dJ13_bitCount_95d88_43 (by decide) ?_
  refine lv_lushr (v := 0) hx hb dJ13_bitCount_95d88_45 (by decide) ?_
  refine lv_ladd hx hb dJ13_bitCount_95d88_46 ?_
  refine lv_topl (fun x_9 ex_9 => ?_)
  have ex_9 := ex_9.trans (show _ = (0 : Int64) by decide)
  subst ex_9
  refine lv_lstore_n (lv' := [(0, .long 0)]) hx hb dJ13_bitCount_95d88_47 rfl hl (by decide) rfl (fun ls hl => ?_)
  refine lv_lload_n hx hb dJ13_bitCount_95d88_48 rfl (lv_at hl 0 rfl) ?_
  refine lv_lload_n hx hb dJ13_bitCount_95d88_49 rfl (lv_at hl 0 rfl) ?_
  refine lv_bipush (v := 32) hx hb dJ13_bitCount_95d88_50 (by decide) ?_
  refine lv_lushr (v := 0) hx hb dJ13_bitCount_95d88_52 (by decide) ?_
  refine lv_ladd hx hb dJ13_bitCount_95d88_53 ?_
  refine lv_topl (fun x_10 ex_10 => ?_)
  have ex_10 := ex_10.trans (show _ = (0 : Int64) by decide)
  subst ex_10
  refine lv_lstore_n (lv' := [(0, .long 0)]) hx hb dJ13_bitCount_95d88_54 rfl hl (by decide) rfl (fun ls hl => ?_)
  refine lv_lload_n hx hb dJ13_bitCount_95d88_55 rfl (lv_at hl 0 rfl) ?_
  refine lv_l2i (v := 0) hx hb dJ13_bitCount_95d88_56 (by decide) ?_
  refine lv_bipush (v := 127) hx hb dJ13_bitCount_95d88_57 (by decide) ?_
  refine lv_iand hx hb dJ13_bitCount_95d88_59 ?_
  refine lv_topi (fun x_11 ex_11 => ?_)
  have ex_11 := ex_11.trans (show _ = (0 : Int32) by decide)
  subst ex_11
  have hP9 := hP.sub (ws' := []) [] rfl
  have hD9 := hD.sub (ws' := []) [] (by decide) rfl
  have hK9 := hK.sub (tys' := []) [] rfl
  refine W.widen (k := 0) (n := 0) (Nat.le_of_ble_eq_true rfl) (Nat.le_of_ble_eq_true rfl) ?_
  exact W.iret (v := 0) hx hb hr (fun t ht hW => ⟨⟨0, (), rfl, rfl, by rw [ht]; exact hP9, va_K.moved hW.alike hK9, hD9⟩, hS.F ht⟩) hS.2.2 dJ13_bitCount_95d88_60

def z_wX10_shown : List Cond := .code yX10_shown cX10_shown 1 (some .int) :: ([.fieldLink RX10 53 "LessonMaker" "told" "LLessonMaker$Told;", .fieldLink RX9 23 "LessonMaker$Told" "size" "I", .methodLink RX9 33 yX9_linesOf, .instanceMethod yX9_linesOf, .selects RX9 yX9_linesOf yX9_linesOf, .initialized RX9, .code yX9_linesOf cX9_linesOf 5 (some .long), .methodLink RX10 242 yX9_shownLines, .instanceMethod yX9_shownLines, .selects RX9 yX9_shownLines yX9_shownLines, .code yX9_shownLines cX9_shownLines 1 (some .long), .constantLong RJ13 314 (6148914691236517205), .constantLong RJ13 316 (3689348814741910323), .constantLong RJ13 318 (1085102592571150095), .methodLink RX10 194 yJ13_bitCount_95d88, .static yJ13_bitCount_95d88, .initialized RJ13, .code yJ13_bitCount_95d88 cJ13_bitCount_95d88 2 (some .int)] ++ (u_ws RX9 TX9 5 ++ u_ws RX10 TX10 14))
set_option maxRecDepth 20000 in
theorem c_X10_shown_zg_1 : GoodIn z_wX10_shown (wsV RX10 242 RX9 yX9_shownLines z_wX9_shownLines) := goodIn_r _ [8, 9, 10, 6, 11, 2, 3, 4, 5, 6, 7, 19, 20, 21, 22, 23] (by decide +kernel) (by decide +kernel)
set_option maxRecDepth 20000 in
theorem c_X10_shown_zg_3 : GoodIn z_wX10_shown (va_wsS RX10 194 yJ13_bitCount_95d88 z_wJ13_bitCount_95d88) := goodIn_r _ [15, 16, 17, 18, 12, 13, 14] (by decide +kernel) (by decide +kernel)
set_option maxHeartbeats 4000000 in
set_option maxRecDepth 100000 in
theorem c_X10_shown (l : Launch) (dC : Nat → ClassId) (dI : Nat → Nat → Nat) (h0 : Nat) (tp : Nat) (nw : Nat) (sp : Nat) (rd : Nat) (la : Nat) (tr : Nat) (ti : Nat) (ch : Nat) (td : Nat) (gr : Nat) (t1 : Nat) (t2 : Nat) (sz : Nat) : Met l yX10_shown z_wX10_shown ({ frames := 2, cells := 0, slots := 0, locals := 44 }) (va_Pc [.ref h0] (z_in dC dI [(h0, .inr (10, [.ref tp, .int 0, .ref nw, .ref sp, .ref rd, .ref la, .ref tr, .ref ti, .int 0, .ref ch, .ref td, .ref gr, .int 0, .int 0])), (td, .inr (9, [.ref t1, .ref t2, .int 0, .int (-1), .int 0]))] [] sz)) (va_Qi (fun (r : Int32) (_ : Unit) => r = 0) (fun (_ : Unit) t => z_out dC dI (va_A [(h0, .inr (10, [.ref tp, .int 0, .ref nw, .ref sp, .ref rd, .ref la, .ref tr, .ref ti, .int 0, .ref ch, .ref td, .ref gr, .int 0, .int 0])), (td, .inr (9, [.ref t1, .ref t2, .int 0, .int (-1), .int 0]))] sz) [] [] t) (va_A [(h0, .inr (10, [.ref tp, .int 0, .ref nw, .ref sp, .ref rd, .ref la, .ref tr, .ref ti, .int 0, .ref ch, .ref td, .ref gr, .int 0, .int 0])), (td, .inr (9, [.ref t1, .ref t2, .int 0, .int (-1), .int 0]))] sz)) 0 0 (va_A [(h0, .inr (10, [.ref tp, .int 0, .ref nw, .ref sp, .ref rd, .ref la, .ref tr, .ref ti, .int 0, .ref ch, .ref td, .ref gr, .int 0, .int 0])), (td, .inr (9, [.ref t1, .ref t2, .int 0, .int (-1), .int 0]))] sz) := by
  refine Met.ofW (cc := cX10_shown) (maxL := 1) (ret := (some .int)) (by decide) rfl ?_
  intro p e s m args below meth c s₁ B hml hv
  obtain ⟨rfl, hsz, hP, hK, hD0, hN⟩ := hv
  have hx := B.exec
  have hb := B.bytes
  have hr := B.returns
  have hts := atoms_spec (ws := z_wX10_shown) B.pre
  have hown : s.vm.findClass RX10 = some m.cls := findClass_of_methodNamed B.named
  have hlocks := B.notSynchronized
  have hin_10 : ∀ w ∈ u_ws RX10 TX10 14, w ∈ z_wX10_shown := by decide +kernel
  subst hsz
  have hD := hD0.self (sz := s.heap.size)
  generalize hAe : va_A [(h0, .inr (10, [.ref tp, .int 0, .ref nw, .ref sp, .ref rd, .ref la, .ref tr, .ref ti, .int 0, .ref ch, .ref td, .ref gr, .int 0, .int 0])), (td, .inr (9, [.ref t1, .ref t2, .int 0, .int (-1), .int 0]))] s.heap.size = A at hD ⊢
  have hA : ∀ q : Nat, s.heap.size ≤ q → A q := fun q h => by rw [← hAe]; exact Or.inr h
  have hS : va_S A s.heap s.heap [] := va_S.rf
  have hP : va_P (dC, dI) z_Cl [(h0, .inr (10, [.ref tp, .int 0, .ref nw, .ref sp, .ref rd, .ref la, .ref tr, .ref ti, .int 0, .ref ch, .ref td, .ref gr, .int 0, .int 0])), (td, .inr (9, [.ref t1, .ref t2, .int 0, .int (-1), .int 0]))] s.heap := hP
  have hl := lv_entry ([.ref h0]) (n := 1) (Nat.le_of_ble_eq_true rfl)
  rw [lg_entry_eq]
  generalize (lg_sl ([.ref h0]) ++ List.replicate (1 - (lg_sl ([.ref h0])).length) Slot.unset).toArray = ls at hl ⊢
  have hl : lv_has ls 1 [(0, .ref h0)] := hl
  refine lv_aload_n hx hb dX10_shown_0 rfl (lv_at hl 0 rfl) ?_
  refine va_get (D := (dC, dI)) (ci := 10) (v := .ref td) (C := RX10) (T := TX10) (N := 14) hx hb hts hin_10 hown hK hP 0 rfl rfl 10 (by decide) (hts (.fieldLink RX10 53 "LessonMaker" "told" "LLessonMaker$Told;") (List.mem_of_getElem? (i := 1) rfl)) (fun _ h9 => h9) rfl dX10_shown_1 ?_
  have hPc := hP.sub (ws' := [(td, .inr (9, [.ref t1, .ref t2, .int 0, .int (-1), .int 0]))]) [1] rfl
  have hDc := hD.sub (ws' := [(td, .inr (9, [.ref t1, .ref t2, .int 0, .int (-1), .int 0]))]) [1] (by decide) rfl
  have hKc := hK.sub (tys' := []) [] rfl
  have hFc := va_free (wc := [(td, .inr (9, [.ref t1, .ref t2, .int 0, .int (-1), .int 0]))]) hD hS hA [1] rfl
  refine va_calll (va_runV (As := []) (rest := []) ⟨hx, hb, hml, hown, hts⟩ (c_X9_shownLines l dC dI td t1 t2 s.heap.size) (cwV 0 hts c_X10_shown_zg_1 rfl rfl rfl (by decide +kernel) ⟨(Nat.le_of_ble_eq_true rfl), (Nat.le_of_ble_eq_true rfl)⟩) ⟨z_blind, va_recv hKc hPc (ci := 9) (q0 := 0) rfl rfl, z_pre hPc hKc hDc hN⟩ rfl rfl hl.1 rfl (lv_room (Nat.le_of_ble_eq_true rfl)) dX10_shown_4 ⟨(Nat.le_of_ble_eq_true rfl), (Nat.le_of_ble_eq_true rfl)⟩) hS (fun q _ h => hFc q h) hFc (fun r_2 u t H1 locs ht hvm hw hB hz1 hk1 hS => ?_)
  obtain ⟨hP1, hK1, hD1⟩ := hB
  rw [ht] at hP1
  have hK1 := va_K.moved hvm.symm hK1
  obtain ⟨hP, hD⟩ := va_join (wr := [(h0, .inr (10, [.ref tp, .int 0, .ref nw, .ref sp, .ref rd, .ref la, .ref tr, .ref ti, .int 0, .ref ch, .ref td, .ref gr, .int 0, .int 0]))]) (w1 := [(td, .inr (9, [.ref t1, .ref t2, .int 0, .int (-1), .int 0]))]) hP hD [1] [0] rfl rfl (by decide) (by decide) hk1 hFc hP1 hD1
  have hK := (hK.sub (tys' := []) [] rfl).app hK1
  generalize H1 = H at hP hS ⊢
  have hP : va_P (dC, dI) z_Cl [(h0, .inr (10, [.ref tp, .int 0, .ref nw, .ref sp, .ref rd, .ref la, .ref tr, .ref ti, .int 0, .ref ch, .ref td, .ref gr, .int 0, .int 0])), (td, .inr (9, [.ref t1, .ref t2, .int 0, .int (-1), .int 0]))] H := hP
  have hD : va_D A [(h0, .inr (10, [.ref tp, .int 0, .ref nw, .ref sp, .ref rd, .ref la, .ref tr, .ref ti, .int 0, .ref ch, .ref td, .ref gr, .int 0, .int 0])), (td, .inr (9, [.ref t1, .ref t2, .int 0, .int (-1), .int 0]))] := hD
  have hK : va_K (dC, dI) z_Cl [] s := hK
  have hw : r_2 = 0 := hw
  subst hw
  have hPc := hP.sub (ws' := []) [] rfl
  have hDc := hD.sub (ws' := []) [] (by decide) rfl
  have hKc := hK.sub (tys' := []) [] rfl
  have hFc := va_free (wc := []) hD hS hA [] rfl
  refine va_calli (va_runS (As := [.long 0]) (rest := []) ⟨hx, hb, hml, hown, hts⟩ (c_J13_bitCount_95d88 l dC dI  H.size) (va_cwS 1 hts c_X10_shown_zg_3 rfl rfl rfl (by decide +kernel) ⟨(Nat.le_of_ble_eq_true rfl), (Nat.le_of_ble_eq_true rfl)⟩) ⟨z_blind, z_pre hPc hKc hDc hN⟩ rfl rfl hl.1 rfl (lv_room (Nat.le_of_ble_eq_true rfl)) dX10_shown_7 ⟨(Nat.le_of_ble_eq_true rfl), (Nat.le_of_ble_eq_true rfl)⟩) hS (fun q _ h => hFc q h) hFc (fun r_4 u t H1 locs ht hvm hw hB hz1 hk1 hS => ?_)
  obtain ⟨hP1, hK1, hD1⟩ := hB
  rw [ht] at hP1
  have hK1 := va_K.moved hvm.symm hK1
  obtain ⟨hP, hD⟩ := va_join (wr := [(h0, .inr (10, [.ref tp, .int 0, .ref nw, .ref sp, .ref rd, .ref la, .ref tr, .ref ti, .int 0, .ref ch, .ref td, .ref gr, .int 0, .int 0])), (td, .inr (9, [.ref t1, .ref t2, .int 0, .int (-1), .int 0]))]) (w1 := []) hP hD [] [0, 1] rfl rfl (by decide) (by decide) hk1 hFc hP1 hD1
  have hK := (hK.sub (tys' := []) [] rfl).app hK1
  generalize H1 = H at hP hS ⊢
  have hP : va_P (dC, dI) z_Cl [(h0, .inr (10, [.ref tp, .int 0, .ref nw, .ref sp, .ref rd, .ref la, .ref tr, .ref ti, .int 0, .ref ch, .ref td, .ref gr, .int 0, .int 0])), (td, .inr (9, [.ref t1, .ref t2, .int 0, .int (-1), .int 0]))] H := hP
  have hD : va_D A [(h0, .inr (10, [.ref tp, .int 0, .ref nw, .ref sp, .ref rd, .ref la, .ref tr, .ref ti, .int 0, .ref ch, .ref td, .ref gr, .int 0, .int 0])), (td, .inr (9, [.ref t1, .ref t2, .int 0, .int (-1), .int 0]))] := hD
  have hK : va_K (dC, dI) z_Cl [] s := hK
  have hw : r_4 = 0 := hw
  subst hw
  have hP9 := hP.sub (ws' := []) [] rfl
  have hD9 := hD.sub (ws' := []) [] (by decide) rfl
  have hK9 := hK.sub (tys' := []) [] rfl
  refine W.widen (k := 0) (n := 0) (Nat.le_of_ble_eq_true rfl) (Nat.le_of_ble_eq_true rfl) ?_
  exact W.iret (v := 0) hx hb hr (fun t ht hW => ⟨⟨0, (), rfl, rfl, by rw [ht]; exact hP9, va_K.moved hW.alike hK9, hD9⟩, hS.F ht⟩) hS.2.2 dX10_shown_10

def z_wX10_fewest : List Cond := .code yX10_fewest cX10_fewest 1 (some .int) :: ([.fieldLink RX10 53 "LessonMaker" "told" "LLessonMaker$Told;", .fieldLink RX9 19 "LessonMaker$Told" "chosenOf" "I", .fieldLink RX9 23 "LessonMaker$Told" "size" "I", .methodLink RX9 33 yX9_linesOf, .instanceMethod yX9_linesOf, .selects RX9 yX9_linesOf yX9_linesOf, .initialized RX9, .code yX9_linesOf cX9_linesOf 5 (some .long), .methodLink RX9 37 yX9_fewestSet, .instanceMethod yX9_fewestSet, .selects RX9 yX9_fewestSet yX9_fewestSet, .code yX9_fewestSet cX9_fewestSet 5 (some .int), .fieldLink RX9 26 "LessonMaker$Told" "chosenCount" "I", .methodLink RX9 41 yX9_choose, .instanceMethod yX9_choose, .selects RX9 yX9_choose yX9_choose, .code yX9_choose cX9_choose 3 none, .methodLink RX10 246 yX9_chooseFewest, .instanceMethod yX9_chooseFewest, .selects RX9 yX9_chooseFewest yX9_chooseFewest, .code yX9_chooseFewest cX9_chooseFewest 1 (some .int)] ++ (u_ws RX9 TX9 5 ++ u_ws RX10 TX10 14))
set_option maxRecDepth 20000 in
theorem c_X10_fewest_zg_1 : GoodIn z_wX10_fewest (wsV RX10 246 RX9 yX9_chooseFewest z_wX9_chooseFewest) := goodIn_r _ [18, 19, 20, 7, 21, 2, 3, 4, 5, 6, 7, 8, 9, 10, 11, 12, 13, 14, 15, 16, 17, 22, 23, 24, 25, 26] (by decide +kernel) (by decide +kernel)
set_option maxHeartbeats 4000000 in
set_option maxRecDepth 100000 in
theorem c_X10_fewest (l : Launch) (dC : Nat → ClassId) (dI : Nat → Nat → Nat) (h0 : Nat) (tp : Nat) (nw : Nat) (sp : Nat) (rd : Nat) (la : Nat) (tr : Nat) (ti : Nat) (ch : Nat) (td : Nat) (gr : Nat) (t1 : Nat) (t2 : Nat) (sz : Nat) : Met l yX10_fewest z_wX10_fewest ({ frames := 3, cells := 0, slots := 0, locals := 68 }) (va_Pc [.ref h0] (z_in dC dI [(h0, .inr (10, [.ref tp, .int 0, .ref nw, .ref sp, .ref rd, .ref la, .ref tr, .ref ti, .int 0, .ref ch, .ref td, .ref gr, .int 0, .int 0])), (td, .inr (9, [.ref t1, .ref t2, .int 0, .int (-1), .int 0]))] [] sz)) (va_Qi (fun (r : Int32) (_ : Unit) => r = 0) (fun (_ : Unit) t => z_out dC dI (va_A [(h0, .inr (10, [.ref tp, .int 0, .ref nw, .ref sp, .ref rd, .ref la, .ref tr, .ref ti, .int 0, .ref ch, .ref td, .ref gr, .int 0, .int 0])), (td, .inr (9, [.ref t1, .ref t2, .int 0, .int (-1), .int 0]))] sz) [] [] t) (va_A [(h0, .inr (10, [.ref tp, .int 0, .ref nw, .ref sp, .ref rd, .ref la, .ref tr, .ref ti, .int 0, .ref ch, .ref td, .ref gr, .int 0, .int 0])), (td, .inr (9, [.ref t1, .ref t2, .int 0, .int (-1), .int 0]))] sz)) 0 0 (va_A [(h0, .inr (10, [.ref tp, .int 0, .ref nw, .ref sp, .ref rd, .ref la, .ref tr, .ref ti, .int 0, .ref ch, .ref td, .ref gr, .int 0, .int 0])), (td, .inr (9, [.ref t1, .ref t2, .int 0, .int (-1), .int 0]))] sz) := by
  refine Met.ofW (cc := cX10_fewest) (maxL := 1) (ret := (some .int)) (by decide) rfl ?_
  intro p e s m args below meth c s₁ B hml hv
  obtain ⟨rfl, hsz, hP, hK, hD0, hN⟩ := hv
  have hx := B.exec
  have hb := B.bytes
  have hr := B.returns
  have hts := atoms_spec (ws := z_wX10_fewest) B.pre
  have hown : s.vm.findClass RX10 = some m.cls := findClass_of_methodNamed B.named
  have hlocks := B.notSynchronized
  have hin_10 : ∀ w ∈ u_ws RX10 TX10 14, w ∈ z_wX10_fewest := by decide +kernel
  subst hsz
  have hD := hD0.self (sz := s.heap.size)
  generalize hAe : va_A [(h0, .inr (10, [.ref tp, .int 0, .ref nw, .ref sp, .ref rd, .ref la, .ref tr, .ref ti, .int 0, .ref ch, .ref td, .ref gr, .int 0, .int 0])), (td, .inr (9, [.ref t1, .ref t2, .int 0, .int (-1), .int 0]))] s.heap.size = A at hD ⊢
  have hA : ∀ q : Nat, s.heap.size ≤ q → A q := fun q h => by rw [← hAe]; exact Or.inr h
  have hS : va_S A s.heap s.heap [] := va_S.rf
  have hP : va_P (dC, dI) z_Cl [(h0, .inr (10, [.ref tp, .int 0, .ref nw, .ref sp, .ref rd, .ref la, .ref tr, .ref ti, .int 0, .ref ch, .ref td, .ref gr, .int 0, .int 0])), (td, .inr (9, [.ref t1, .ref t2, .int 0, .int (-1), .int 0]))] s.heap := hP
  have hl := lv_entry ([.ref h0]) (n := 1) (Nat.le_of_ble_eq_true rfl)
  rw [lg_entry_eq]
  generalize (lg_sl ([.ref h0]) ++ List.replicate (1 - (lg_sl ([.ref h0])).length) Slot.unset).toArray = ls at hl ⊢
  have hl : lv_has ls 1 [(0, .ref h0)] := hl
  refine lv_aload_n hx hb dX10_fewest_0 rfl (lv_at hl 0 rfl) ?_
  refine va_get (D := (dC, dI)) (ci := 10) (v := .ref td) (C := RX10) (T := TX10) (N := 14) hx hb hts hin_10 hown hK hP 0 rfl rfl 10 (by decide) (hts (.fieldLink RX10 53 "LessonMaker" "told" "LLessonMaker$Told;") (List.mem_of_getElem? (i := 1) rfl)) (fun _ h9 => h9) rfl dX10_fewest_1 ?_
  have hPc := hP.sub (ws' := [(td, .inr (9, [.ref t1, .ref t2, .int 0, .int (-1), .int 0]))]) [1] rfl
  have hDc := hD.sub (ws' := [(td, .inr (9, [.ref t1, .ref t2, .int 0, .int (-1), .int 0]))]) [1] (by decide) rfl
  have hKc := hK.sub (tys' := []) [] rfl
  have hFc := va_free (wc := [(td, .inr (9, [.ref t1, .ref t2, .int 0, .int (-1), .int 0]))]) hD hS hA [1] rfl
  refine va_calli (va_runV (As := []) (rest := []) ⟨hx, hb, hml, hown, hts⟩ (c_X9_chooseFewest l dC dI td t1 t2 s.heap.size) (cwV 0 hts c_X10_fewest_zg_1 rfl rfl rfl (by decide +kernel) ⟨(Nat.le_of_ble_eq_true rfl), (Nat.le_of_ble_eq_true rfl)⟩) ⟨z_blind, va_recv hKc hPc (ci := 9) (q0 := 0) rfl rfl, z_pre hPc hKc hDc hN⟩ rfl rfl hl.1 rfl (lv_room (Nat.le_of_ble_eq_true rfl)) dX10_fewest_4 ⟨(Nat.le_of_ble_eq_true rfl), (Nat.le_of_ble_eq_true rfl)⟩) hS (fun q _ h => hFc q h) hFc (fun r_2 u t H1 locs ht hvm hw hB hz1 hk1 hS => ?_)
  obtain ⟨hP1, hK1, hD1⟩ := hB
  rw [ht] at hP1
  have hK1 := va_K.moved hvm.symm hK1
  obtain ⟨hP, hD⟩ := va_join (wr := [(h0, .inr (10, [.ref tp, .int 0, .ref nw, .ref sp, .ref rd, .ref la, .ref tr, .ref ti, .int 0, .ref ch, .ref td, .ref gr, .int 0, .int 0]))]) (w1 := []) hP hD [1] [0] rfl rfl (by decide) (by decide) hk1 hFc hP1 hD1
  have hK := (hK.sub (tys' := []) [] rfl).app hK1
  generalize H1 = H at hP hS ⊢
  have hP : va_P (dC, dI) z_Cl [(h0, .inr (10, [.ref tp, .int 0, .ref nw, .ref sp, .ref rd, .ref la, .ref tr, .ref ti, .int 0, .ref ch, .ref td, .ref gr, .int 0, .int 0]))] H := hP
  have hD : va_D A [(h0, .inr (10, [.ref tp, .int 0, .ref nw, .ref sp, .ref rd, .ref la, .ref tr, .ref ti, .int 0, .ref ch, .ref td, .ref gr, .int 0, .int 0]))] := hD
  have hK : va_K (dC, dI) z_Cl [] s := hK
  have hw : r_2 = 0 := hw
  subst hw
  have hP9 := hP.sub (ws' := []) [] rfl
  have hD9 := hD.sub (ws' := []) [] (by decide) rfl
  have hK9 := hK.sub (tys' := []) [] rfl
  refine W.widen (k := 0) (n := 0) (Nat.le_of_ble_eq_true rfl) (Nat.le_of_ble_eq_true rfl) ?_
  exact W.iret (v := 0) hx hb hr (fun t ht hW => ⟨⟨0, (), rfl, rfl, by rw [ht]; exact hP9, va_K.moved hW.alike hK9, hD9⟩, hS.F ht⟩) hS.2.2 dX10_fewest_7

def z_wX10_picked : List Cond := .code yX10_picked cX10_picked 2 (some .int) :: ([.fieldLink RX10 53 "LessonMaker" "told" "LLessonMaker$Told;", .fieldLink RX9 26 "LessonMaker$Told" "chosenCount" "I", .methodLink RX10 250 yX9_chosenAt, .instanceMethod yX9_chosenAt, .selects RX9 yX9_chosenAt yX9_chosenAt, .initialized RX9, .code yX9_chosenAt cX9_chosenAt 2 (some .int)] ++ (u_ws RX9 TX9 5 ++ u_ws RX10 TX10 14))
set_option maxRecDepth 20000 in
theorem c_X10_picked_zg_1 : GoodIn z_wX10_picked (wsV RX10 250 RX9 yX9_chosenAt z_wX9_chosenAt) := goodIn_r _ [3, 4, 5, 6, 7, 2, 8, 9, 10, 11, 12] (by decide +kernel) (by decide +kernel)
set_option maxHeartbeats 4000000 in
set_option maxRecDepth 100000 in
theorem c_X10_picked (l : Launch) (dC : Nat → ClassId) (dI : Nat → Nat → Nat) (h0 : Nat) (tp : Nat) (nw : Nat) (sp : Nat) (rd : Nat) (la : Nat) (tr : Nat) (ti : Nat) (ch : Nat) (td : Nat) (gr : Nat) (t1 : Nat) (t2 : Nat) (p1 : Int32) (sz : Nat) : Met l yX10_picked z_wX10_picked ({ frames := 1, cells := 0, slots := 0, locals := 21 }) (va_Pc [.ref h0, .int p1] (z_in dC dI [(h0, .inr (10, [.ref tp, .int 0, .ref nw, .ref sp, .ref rd, .ref la, .ref tr, .ref ti, .int 0, .ref ch, .ref td, .ref gr, .int 0, .int 0])), (td, .inr (9, [.ref t1, .ref t2, .int 0, .int (-1), .int 0]))] [] sz)) (va_Qi (fun (r : Int32) (_ : Unit) => r = (-1)) (fun (_ : Unit) t => z_out dC dI (va_A [(h0, .inr (10, [.ref tp, .int 0, .ref nw, .ref sp, .ref rd, .ref la, .ref tr, .ref ti, .int 0, .ref ch, .ref td, .ref gr, .int 0, .int 0])), (td, .inr (9, [.ref t1, .ref t2, .int 0, .int (-1), .int 0]))] sz) [] [] t) (va_A [(h0, .inr (10, [.ref tp, .int 0, .ref nw, .ref sp, .ref rd, .ref la, .ref tr, .ref ti, .int 0, .ref ch, .ref td, .ref gr, .int 0, .int 0])), (td, .inr (9, [.ref t1, .ref t2, .int 0, .int (-1), .int 0]))] sz)) 0 0 (va_A [(h0, .inr (10, [.ref tp, .int 0, .ref nw, .ref sp, .ref rd, .ref la, .ref tr, .ref ti, .int 0, .ref ch, .ref td, .ref gr, .int 0, .int 0])), (td, .inr (9, [.ref t1, .ref t2, .int 0, .int (-1), .int 0]))] sz) := by
  refine Met.ofW (cc := cX10_picked) (maxL := 2) (ret := (some .int)) (by decide) rfl ?_
  intro p e s m args below meth c s₁ B hml hv
  obtain ⟨rfl, hsz, hP, hK, hD0, hN⟩ := hv
  have hx := B.exec
  have hb := B.bytes
  have hr := B.returns
  have hts := atoms_spec (ws := z_wX10_picked) B.pre
  have hown : s.vm.findClass RX10 = some m.cls := findClass_of_methodNamed B.named
  have hlocks := B.notSynchronized
  have hin_10 : ∀ w ∈ u_ws RX10 TX10 14, w ∈ z_wX10_picked := by decide +kernel
  subst hsz
  have hD := hD0.self (sz := s.heap.size)
  generalize hAe : va_A [(h0, .inr (10, [.ref tp, .int 0, .ref nw, .ref sp, .ref rd, .ref la, .ref tr, .ref ti, .int 0, .ref ch, .ref td, .ref gr, .int 0, .int 0])), (td, .inr (9, [.ref t1, .ref t2, .int 0, .int (-1), .int 0]))] s.heap.size = A at hD ⊢
  have hA : ∀ q : Nat, s.heap.size ≤ q → A q := fun q h => by rw [← hAe]; exact Or.inr h
  have hS : va_S A s.heap s.heap [] := va_S.rf
  have hP : va_P (dC, dI) z_Cl [(h0, .inr (10, [.ref tp, .int 0, .ref nw, .ref sp, .ref rd, .ref la, .ref tr, .ref ti, .int 0, .ref ch, .ref td, .ref gr, .int 0, .int 0])), (td, .inr (9, [.ref t1, .ref t2, .int 0, .int (-1), .int 0]))] s.heap := hP
  have hl := lv_entry ([.ref h0, .int p1]) (n := 2) (Nat.le_of_ble_eq_true rfl)
  rw [lg_entry_eq]
  generalize (lg_sl ([.ref h0, .int p1]) ++ List.replicate (2 - (lg_sl ([.ref h0, .int p1])).length) Slot.unset).toArray = ls at hl ⊢
  have hl : lv_has ls 2 [(0, .ref h0), (1, .int p1)] := hl
  refine lv_aload_n hx hb dX10_picked_0 rfl (lv_at hl 0 rfl) ?_
  refine va_get (D := (dC, dI)) (ci := 10) (v := .ref td) (C := RX10) (T := TX10) (N := 14) hx hb hts hin_10 hown hK hP 0 rfl rfl 10 (by decide) (hts (.fieldLink RX10 53 "LessonMaker" "told" "LLessonMaker$Told;") (List.mem_of_getElem? (i := 1) rfl)) (fun _ h9 => h9) rfl dX10_picked_1 ?_
  refine lv_iload_n hx hb dX10_picked_4 rfl (lv_at hl 1 rfl) ?_
  have hPc := hP.sub (ws' := [(td, .inr (9, [.ref t1, .ref t2, .int 0, .int (-1), .int 0]))]) [1] rfl
  have hDc := hD.sub (ws' := [(td, .inr (9, [.ref t1, .ref t2, .int 0, .int (-1), .int 0]))]) [1] (by decide) rfl
  have hKc := hK.sub (tys' := []) [] rfl
  have hFc := va_free (wc := [(td, .inr (9, [.ref t1, .ref t2, .int 0, .int (-1), .int 0]))]) hD hS hA [1] rfl
  refine va_calli (va_runV (As := [.int p1]) (rest := []) ⟨hx, hb, hml, hown, hts⟩ (c_X9_chosenAt l dC dI td t1 t2 p1 s.heap.size) (cwV 1 hts c_X10_picked_zg_1 rfl rfl rfl (by decide +kernel) ⟨(Nat.le_of_ble_eq_true rfl), (Nat.le_of_ble_eq_true rfl)⟩) ⟨z_blind, va_recv hKc hPc (ci := 9) (q0 := 0) rfl rfl, z_pre hPc hKc hDc hN⟩ rfl rfl hl.1 rfl (lv_room (Nat.le_of_ble_eq_true rfl)) dX10_picked_5 ⟨(Nat.le_of_ble_eq_true rfl), (Nat.le_of_ble_eq_true rfl)⟩) hS (fun q _ h => hFc q h) hFc (fun r_2 u t H1 locs ht hvm hw hB hz1 hk1 hS => ?_)
  obtain ⟨hP1, hK1, hD1⟩ := hB
  rw [ht] at hP1
  have hK1 := va_K.moved hvm.symm hK1
  obtain ⟨hP, hD⟩ := va_join (wr := [(h0, .inr (10, [.ref tp, .int 0, .ref nw, .ref sp, .ref rd, .ref la, .ref tr, .ref ti, .int 0, .ref ch, .ref td, .ref gr, .int 0, .int 0]))]) (w1 := []) hP hD [1] [0] rfl rfl (by decide) (by decide) hk1 hFc hP1 hD1
  have hK := (hK.sub (tys' := []) [] rfl).app hK1
  generalize H1 = H at hP hS ⊢
  have hP : va_P (dC, dI) z_Cl [(h0, .inr (10, [.ref tp, .int 0, .ref nw, .ref sp, .ref rd, .ref la, .ref tr, .ref ti, .int 0, .ref ch, .ref td, .ref gr, .int 0, .int 0]))] H := hP
  have hD : va_D A [(h0, .inr (10, [.ref tp, .int 0, .ref nw, .ref sp, .ref rd, .ref la, .ref tr, .ref ti, .int 0, .ref ch, .ref td, .ref gr, .int 0, .int 0]))] := hD
  have hK : va_K (dC, dI) z_Cl [] s := hK
  have hw : r_2 = (-1) := hw
  subst hw
  have hP9 := hP.sub (ws' := []) [] rfl
  have hD9 := hD.sub (ws' := []) [] (by decide) rfl
  have hK9 := hK.sub (tys' := []) [] rfl
  refine W.widen (k := 0) (n := 0) (Nat.le_of_ble_eq_true rfl) (Nat.le_of_ble_eq_true rfl) ?_
  exact W.iret (v := (-1)) hx hb hr (fun t ht hW => ⟨⟨(-1), (), rfl, rfl, by rw [ht]; exact hP9, va_K.moved hW.alike hK9, hD9⟩, hS.F ht⟩) hS.2.2 dX10_picked_8
