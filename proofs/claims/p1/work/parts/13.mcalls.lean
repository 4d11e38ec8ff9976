def z_wX14_isFunction : List Cond := .code yX14_isFunction cX14_isFunction 2 (some .boolean) :: ([.fieldLink RX14 318 "LessonMakerModel" "is" "Z"] ++ (u_ws RX14 TX14 40))
set_option maxHeartbeats 4000000 in
set_option maxRecDepth 100000 in
theorem c_X14_isFunction (l : Launch) (dC : Nat → ClassId) (dI : Nat → Nat → Nat) (h0 : Nat) (mp : Nat) (mq : Nat) (ms : Nat) (mo : Nat) (mt : Nat) (ml : Nat) (mw : Nat) (m1 : Nat) (m2 : Nat) (m3 : Nat) (m4 : Nat) (m5 : Nat) (m6 : Nat) (m7 : Nat) (m8 : Nat) (m9 : Nat) (p1 : Int32) (sz : Nat) : Met l yX14_isFunction z_wX14_isFunction ({ frames := 0, cells := 0, slots := 0, locals := 0 }) (va_Pc [.ref h0, .int p1] (z_in dC dI [(h0, .inr (14, [.int 0, .int 0, .int (-1), .int 0, .ref mp, .ref mq, .ref ms, .int 0, .int 0, .ref mo, .ref mt, .int 0, .int 0, .int 0, .int 0, .int 0, .int 0, .int 0, .int 0, .int 0, .int 0, .long 0, .ref ml, .ref mw, .int 0, .ref m1, .int 0, .int 0, .int 0, .int 0, .ref m2, .ref m3, .int 0, .int 0, .ref m4, .ref m5, .ref m6, .ref m7, .ref m8, .ref m9]))] [] sz)) (va_Qi (fun (r : Int32) (_ : Unit) => r = 0) (fun (_ : Unit) t => z_out dC dI (va_A [(h0, .inr (14, [.int 0, .int 0, .int (-1), .int 0, .ref mp, .ref mq, .ref ms, .int 0, .int 0, .ref mo, .ref mt, .int 0, .int 0, .int 0, .int 0, .int 0, .int 0, .int 0, .int 0, .int 0, .int 0, .long 0, .ref ml, .ref mw, .int 0, .ref m1, .int 0, .int 0, .int 0, .int 0, .ref m2, .ref m3, .int 0, .int 0, .ref m4, .ref m5, .ref m6, .ref m7, .ref m8, .ref m9]))] sz) [(h0, .inr (14, [.int 0, .int 0, .int (-1), .int 0, .ref mp, .ref mq, .ref ms, .int 0, .int 0, .ref mo, .ref mt, .int 0, .int 0, .int 0, .int 0, .int 0, .int 0, .int 0, .int 0, .int 0, .int 0, .long 0, .ref ml, .ref mw, .int 0, .ref m1, .int 0, .int 0, .int 0, .int 0, .ref m2, .ref m3, .int 0, .int 0, .ref m4, .ref m5, .ref m6, .ref m7, .ref m8, .ref m9]))] [] t) (va_A [(h0, .inr (14, [.int 0, .int 0, .int (-1), .int 0, .ref mp, .ref mq, .ref ms, .int 0, .int 0, .ref mo, .ref mt, .int 0, .int 0, .int 0, .int 0, .int 0, .int 0, .int 0, .int 0, .int 0, .int 0, .long 0, .ref ml, .ref mw, .int 0, .ref m1, .int 0, .int 0, .int 0, .int 0, .ref m2, .ref m3, .int 0, .int 0, .ref m4, .ref m5, .ref m6, .ref m7, .ref m8, .ref m9]))] sz)) 0 0 (va_A [(h0, .inr (14, [.int 0, .int 0, .int (-1), .int 0, .ref mp, .ref mq, .ref ms, .int 0, .int 0, .ref mo, .ref mt, .int 0, .int 0, .int 0, .int 0, .int 0, .int 0, .int 0, .int 0, .int 0, .int 0, .long 0, .ref ml, .ref mw, .int 0, .ref m1, .int 0, .int 0, .int 0, .int 0, .ref m2, .ref m3, .int 0, .int 0, .ref m4, .ref m5, .ref m6, .ref m7, .ref m8, .ref m9]))] sz) := by
  refine Met.ofW (cc := cX14_isFunction) (maxL := 2) (ret := (some .boolean)) (by decide) rfl ?_
  intro p e s m args below meth c s₁ B hml hv
  obtain ⟨rfl, hsz, hP, hK, hD0, hN⟩ := hv
  have hx := B.exec
  have hb := B.bytes
  have hr := B.returns
  have hts := atoms_spec (ws := z_wX14_isFunction) B.pre
  have hown : s.vm.findClass RX14 = some m.cls := findClass_of_methodNamed B.named
  have hlocks := B.notSynchronized
  have hin_14 : ∀ w ∈ u_ws RX14 TX14 40, w ∈ z_wX14_isFunction := by decide +kernel
  subst hsz
  have hD := hD0.self (sz := s.heap.size)
  generalize hAe : va_A [(h0, .inr (14, [.int 0, .int 0, .int (-1), .int 0, .ref mp, .ref mq, .ref ms, .int 0, .int 0, .ref mo, .ref mt, .int 0, .int 0, .int 0, .int 0, .int 0, .int 0, .int 0, .int 0, .int 0, .int 0, .long 0, .ref ml, .ref mw, .int 0, .ref m1, .int 0, .int 0, .int 0, .int 0, .ref m2, .ref m3, .int 0, .int 0, .ref m4, .ref m5, .ref m6, .ref m7, .ref m8, .ref m9]))] s.heap.size = A at hD ⊢
  have hA : ∀ q : Nat, s.heap.size ≤ q → A q := fun q h => by rw [← hAe]; exact Or.inr h
  have hS : va_S A s.heap s.heap [] := va_S.rf
  have hP : va_P (dC, dI) z_Cl [(h0, .inr (14, [.int 0, .int 0, .int (-1), .int 0, .ref mp, .ref mq, .ref ms, .int 0, .int 0, .ref mo, .ref mt, .int 0, .int 0, .int 0, .int 0, .int 0, .int 0, .int 0, .int 0, .int 0, .int 0, .long 0, .ref ml, .ref mw, .int 0, .ref m1, .int 0, .int 0, .int 0, .int 0, .ref m2, .ref m3, .int 0, .int 0, .ref m4, .ref m5, .ref m6, .ref m7, .ref m8, .ref m9]))] s.heap := hP
  have hl := lv_entry ([.ref h0, .int p1]) (n := 2) (Nat.le_of_ble_eq_true rfl)
  rw [lg_entry_eq]
  generalize (lg_sl ([.ref h0, .int p1]) ++ List.replicate (2 - (lg_sl ([.ref h0, .int p1])).length) Slot.unset).toArray = ls at hl ⊢
  have hl : lv_has ls 2 [(0, .ref h0), (1, .int p1)] := hl
  refine lv_aload_n hx hb dX14_isFunction_0 rfl (lv_at hl 0 rfl) ?_
  refine va_get (D := (dC, dI)) (ci := 14) (v := .int 0) (C := RX14) (T := TX14) (N := 40) hx hb hts hin_14 hown hK hP 0 rfl rfl 7 (by decide) (hts (.fieldLink RX14 318 "LessonMakerModel" "is" "Z") (List.mem_of_getElem? (i := 1) rfl)) (fun _ h9 => h9) rfl dX14_isFunction_1 ?_
  refine lv_if_eq (tgt := 26) hx hb dX14_isFunction_4 (by decide) (fun _ => ?_) (fun h9 => absurd (by decide) h9)
  refine lv_iconst (v := 0) hx hb dX14_isFunction_26 (by decide) ?_
  have hP9 := hP.sub (ws' := [(h0, .inr (14, [.int 0, .int 0, .int (-1), .int 0, .ref mp, .ref mq, .ref ms, .int 0, .int 0, .ref mo, .ref mt, .int 0, .int 0, .int 0, .int 0, .int 0, .int 0, .int 0, .int 0, .int 0, .int 0, .long 0, .ref ml, .ref mw, .int 0, .ref m1, .int 0, .int 0, .int 0, .int 0, .ref m2, .ref m3, .int 0, .int 0, .ref m4, .ref m5, .ref m6, .ref m7, .ref m8, .ref m9]))]) [0] rfl
  have hD9 := hD.sub (ws' := [(h0, .inr (14, [.int 0, .int 0, .int (-1), .int 0, .ref mp, .ref mq, .ref ms, .int 0, .int 0, .ref mo, .ref mt, .int 0, .int 0, .int 0, .int 0, .int 0, .int 0, .int 0, .int 0, .int 0, .int 0, .long 0, .ref ml, .ref mw, .int 0, .ref m1, .int 0, .int 0, .int 0, .int 0, .ref m2, .ref m3, .int 0, .int 0, .ref m4, .ref m5, .ref m6, .ref m7, .ref m8, .ref m9]))]) [0] (by decide) rfl
  have hK9 := hK.sub (tys' := []) [] rfl
  refine W.widen (k := 0) (n := 0) (Nat.le_of_ble_eq_true rfl) (Nat.le_of_ble_eq_true rfl) ?_
  exact W.zret (v := 0) hx hb hr (by decide) (fun t ht hW => ⟨⟨0, (), rfl, rfl, by rw [ht]; exact hP9, va_K.moved hW.alike hK9, hD9⟩, hS.F ht⟩) hS.2.2 dX14_isFunction_27

def z_wX14_isLine : List Cond := .code yX14_isLine cX14_isLine 2 (some .boolean) :: ([.fieldLink RX14 318 "LessonMakerModel" "is" "Z"] ++ (u_ws RX14 TX14 40))
set_option maxHeartbeats 4000000 in
set_option maxRecDepth 100000 in
theorem c_X14_isLine (l : Launch) (dC : Nat → ClassId) (dI : Nat → Nat → Nat) (h0 : Nat) (mp : Nat) (mq : Nat) (ms : Nat) (mo : Nat) (mt : Nat) (ml : Nat) (mw : Nat) (m1 : Nat) (m2 : Nat) (m3 : Nat) (m4 : Nat) (m5 : Nat) (m6 : Nat) (m7 : Nat) (m8 : Nat) (m9 : Nat) (p1 : Int32) (sz : Nat) : Met l yX14_isLine z_wX14_isLine ({ frames := 0, cells := 0, slots := 0, locals := 0 }) (va_Pc [.ref h0, .int p1] (z_in dC dI [(h0, .inr (14, [.int 0, .int 0, .int (-1), .int 0, .ref mp, .ref mq, .ref ms, .int 0, .int 0, .ref mo, .ref mt, .int 0, .int 0, .int 0, .int 0, .int 0, .int 0, .int 0, .int 0, .int 0, .int 0, .long 0, .ref ml, .ref mw, .int 0, .ref m1, .int 0, .int 0, .int 0, .int 0, .ref m2, .ref m3, .int 0, .int 0, .ref m4, .ref m5, .ref m6, .ref m7, .ref m8, .ref m9]))] [] sz)) (va_Qi (fun (r : Int32) (_ : Unit) => r = 0) (fun (_ : Unit) t => z_out dC dI (va_A [(h0, .inr (14, [.int 0, .int 0, .int (-1), .int 0, .ref mp, .ref mq, .ref ms, .int 0, .int 0, .ref mo, .ref mt, .int 0, .int 0, .int 0, .int 0, .int 0, .int 0, .int 0, .int 0, .int 0, .int 0, .long 0, .ref ml, .ref mw, .int 0, .ref m1, .int 0, .int 0, .int 0, .int 0, .ref m2, .ref m3, .int 0, .int 0, .ref m4, .ref m5, .ref m6, .ref m7, .ref m8, .ref m9]))] sz) [(h0, .inr (14, [.int 0, .int 0, .int (-1), .int 0, .ref mp, .ref mq, .ref ms, .int 0, .int 0, .ref mo, .ref mt, .int 0, .int 0, .int 0, .int 0, .int 0, .int 0, .int 0, .int 0, .int 0, .int 0, .long 0, .ref ml, .ref mw, .int 0, .ref m1, .int 0, .int 0, .int 0, .int 0, .ref m2, .ref m3, .int 0, .int 0, .ref m4, .ref m5, .ref m6, .ref m7, .ref m8, .ref m9]))] [] t) (va_A [(h0, .inr (14, [.int 0, .int 0, .int (-1), .int 0, .ref mp, .ref mq, .ref ms, .int 0, .int 0, .ref mo, .ref mt, .int 0, .int 0, .int 0, .int 0, .int 0, .int 0, .int 0, .int 0, .int 0, .int 0, .long 0, .ref ml, .ref mw, .int 0, .ref m1, .int 0, .int 0, .int 0, .int 0, .ref m2, .ref m3, .int 0, .int 0, .ref m4, .ref m5, .ref m6, .ref m7, .ref m8, .ref m9]))] sz)) 0 0 (va_A [(h0, .inr (14, [.int 0, .int 0, .int (-1), .int 0, .ref mp, .ref mq, .ref ms, .int 0, .int 0, .ref mo, .ref mt, .int 0, .int 0, .int 0, .int 0, .int 0, .int 0, .int 0, .int 0, .int 0, .int 0, .long 0, .ref ml, .ref mw, .int 0, .ref m1, .int 0, .int 0, .int 0, .int 0, .ref m2, .ref m3, .int 0, .int 0, .ref m4, .ref m5, .ref m6, .ref m7, .ref m8, .ref m9]))] sz) := by
  refine Met.ofW (cc := cX14_isLine) (maxL := 2) (ret := (some .boolean)) (by decide) rfl ?_
  intro p e s m args below meth c s₁ B hml hv
  obtain ⟨rfl, hsz, hP, hK, hD0, hN⟩ := hv
  have hx := B.exec
  have hb := B.bytes
  have hr := B.returns
  have hts := atoms_spec (ws := z_wX14_isLine) B.pre
  have hown : s.vm.findClass RX14 = some m.cls := findClass_of_methodNamed B.named
  have hlocks := B.notSynchronized
  have hin_14 : ∀ w ∈ u_ws RX14 TX14 40, w ∈ z_wX14_isLine := by decide +kernel
  subst hsz
  have hD := hD0.self (sz := s.heap.size)
  generalize hAe : va_A [(h0, .inr (14, [.int 0, .int 0, .int (-1), .int 0, .ref mp, .ref mq, .ref ms, .int 0, .int 0, .ref mo, .ref mt, .int 0, .int 0, .int 0, .int 0, .int 0, .int 0, .int 0, .int 0, .int 0, .int 0, .long 0, .ref ml, .ref mw, .int 0, .ref m1, .int 0, .int 0, .int 0, .int 0, .ref m2, .ref m3, .int 0, .int 0, .ref m4, .ref m5, .ref m6, .ref m7, .ref m8, .ref m9]))] s.heap.size = A at hD ⊢
  have hA : ∀ q : Nat, s.heap.size ≤ q → A q := fun q h => by rw [← hAe]; exact Or.inr h
  have hS : va_S A s.heap s.heap [] := va_S.rf
  have hP : va_P (dC, dI) z_Cl [(h0, .inr (14, [.int 0, .int 0, .int (-1), .int 0, .ref mp, .ref mq, .ref ms, .int 0, .int 0, .ref mo, .ref mt, .int 0, .int 0, .int 0, .int 0, .int 0, .int 0, .int 0, .int 0, .int 0, .int 0, .long 0, .ref ml, .ref mw, .int 0, .ref m1, .int 0, .int 0, .int 0, .int 0, .ref m2, .ref m3, .int 0, .int 0, .ref m4, .ref m5, .ref m6, .ref m7, .ref m8, .ref m9]))] s.heap := hP
  have hl := lv_entry ([.ref h0, .int p1]) (n := 2) (Nat.le_of_ble_eq_true rfl)
  rw [lg_entry_eq]
  generalize (lg_sl ([.ref h0, .int p1]) ++ List.replicate (2 - (lg_sl ([.ref h0, .int p1])).length) Slot.unset).toArray = ls at hl ⊢
  have hl : lv_has ls 2 [(0, .ref h0), (1, .int p1)] := hl
  refine lv_aload_n hx hb dX14_isLine_0 rfl (lv_at hl 0 rfl) ?_
  refine va_get (D := (dC, dI)) (ci := 14) (v := .int 0) (C := RX14) (T := TX14) (N := 40) hx hb hts hin_14 hown hK hP 0 rfl rfl 7 (by decide) (hts (.fieldLink RX14 318 "LessonMakerModel" "is" "Z") (List.mem_of_getElem? (i := 1) rfl)) (fun _ h9 => h9) rfl dX14_isLine_1 ?_
  refine lv_if_eq (tgt := 26) hx hb dX14_isLine_4 (by decide) (fun _ => ?_) (fun h9 => absurd (by decide) h9)
  refine lv_iconst (v := 0) hx hb dX14_isLine_26 (by decide) ?_
  have hP9 := hP.sub (ws' := [(h0, .inr (14, [.int 0, .int 0, .int (-1), .int 0, .ref mp, .ref mq, .ref ms, .int 0, .int 0, .ref mo, .ref mt, .int 0, .int 0, .int 0, .int 0, .int 0, .int 0, .int 0, .int 0, .int 0, .int 0, .long 0, .ref ml, .ref mw, .int 0, .ref m1, .int 0, .int 0, .int 0, .int 0, .ref m2, .ref m3, .int 0, .int 0, .ref m4, .ref m5, .ref m6, .ref m7, .ref m8, .ref m9]))]) [0] rfl
  have hD9 := hD.sub (ws' := [(h0, .inr (14, [.int 0, .int 0, .int (-1), .int 0, .ref mp, .ref mq, .ref ms, .int 0, .int 0, .ref mo, .ref mt, .int 0, .int 0, .int 0, .int 0, .int 0, .int 0, .int 0, .int 0, .int 0, .int 0, .long 0, .ref ml, .ref mw, .int 0, .ref m1, .int 0, .int 0, .int 0, .int 0, .ref m2, .ref m3, .int 0, .int 0, .ref m4, .ref m5, .ref m6, .ref m7, .ref m8, .ref m9]))]) [0] (by decide) rfl
  have hK9 := hK.sub (tys' := []) [] rfl
  refine W.widen (k := 0) (n := 0) (Nat.le_of_ble_eq_true rfl) (Nat.le_of_ble_eq_true rfl) ?_
  exact W.zret (v := 0) hx hb hr (by decide) (fun t ht hW => ⟨⟨0, (), rfl, rfl, by rw [ht]; exact hP9, va_K.moved hW.alike hK9, hD9⟩, hS.F ht⟩) hS.2.2 dX14_isLine_27

def z_wX14_refused : List Cond := .code yX14_refused cX14_refused 2 (some .int) :: ([.fieldLink RX14 79 "LessonMakerModel" "trouble" "I", .fieldLink RX14 9 "LessonMakerModel" "where" "I"] ++ (u_ws RX14 TX14 40))
set_option maxHeartbeats 4000000 in
set_option maxRecDepth 100000 in
theorem c_X14_refused (l : Launch) (dC : Nat → ClassId) (dI : Nat → Nat → Nat) (h0 : Nat) (mp : Nat) (mq : Nat) (ms : Nat) (mo : Nat) (mt : Nat) (ml : Nat) (mw : Nat) (m1 : Nat) (m2 : Nat) (m3 : Nat) (m4 : Nat) (m5 : Nat) (m6 : Nat) (m7 : Nat) (m8 : Nat) (m9 : Nat) (p1 : Int32) (sz : Nat) : Met l yX14_refused z_wX14_refused ({ frames := 0, cells := 0, slots := 0, locals := 0 }) (va_Pc [.ref h0, .int p1] (z_in dC dI [(h0, .inr (14, [.int 0, .int 0, .int (-1), .int 0, .ref mp, .ref mq, .ref ms, .int 0, .int 0, .ref mo, .ref mt, .int 0, .int 0, .int 0, .int 0, .int 0, .int 0, .int 0, .int 0, .int 0, .int 0, .long 0, .ref ml, .ref mw, .int 0, .ref m1, .int 0, .int 0, .int 0, .int 0, .ref m2, .ref m3, .int 0, .int 0, .ref m4, .ref m5, .ref m6, .ref m7, .ref m8, .ref m9]))] [] sz)) (va_Qi (fun (r : Int32) (_ : Unit) => r = (-1)) (fun (_ : Unit) t => z_out dC dI (va_A [(h0, .inr (14, [.int 0, .int 0, .int (-1), .int 0, .ref mp, .ref mq, .ref ms, .int 0, .int 0, .ref mo, .ref mt, .int 0, .int 0, .int 0, .int 0, .int 0, .int 0, .int 0, .int 0, .int 0, .int 0, .long 0, .ref ml, .ref mw, .int 0, .ref m1, .int 0, .int 0, .int 0, .int 0, .ref m2, .ref m3, .int 0, .int 0, .ref m4, .ref m5, .ref m6, .ref m7, .ref m8, .ref m9]))] sz) [] [] t) (va_A [(h0, .inr (14, [.int 0, .int 0, .int (-1), .int 0, .ref mp, .ref mq, .ref ms, .int 0, .int 0, .ref mo, .ref mt, .int 0, .int 0, .int 0, .int 0, .int 0, .int 0, .int 0, .int 0, .int 0, .int 0, .long 0, .ref ml, .ref mw, .int 0, .ref m1, .int 0, .int 0, .int 0, .int 0, .ref m2, .ref m3, .int 0, .int 0, .ref m4, .ref m5, .ref m6, .ref m7, .ref m8, .ref m9]))] sz)) 0 0 (va_A [(h0, .inr (14, [.int 0, .int 0, .int (-1), .int 0, .ref mp, .ref mq, .ref ms, .int 0, .int 0, .ref mo, .ref mt, .int 0, .int 0, .int 0, .int 0, .int 0, .int 0, .int 0, .int 0, .int 0, .int 0, .long 0, .ref ml, .ref mw, .int 0, .ref m1, .int 0, .int 0, .int 0, .int 0, .ref m2, .ref m3, .int 0, .int 0, .ref m4, .ref m5, .ref m6, .ref m7, .ref m8, .ref m9]))] sz) := by
  refine Met.ofW (cc := cX14_refused) (maxL := 2) (ret := (some .int)) (by decide) rfl ?_
  intro p e s m args below meth c s₁ B hml hv
  obtain ⟨rfl, hsz, hP, hK, hD0, hN⟩ := hv
  have hx := B.exec
  have hb := B.bytes
  have hr := B.returns
  have hts := atoms_spec (ws := z_wX14_refused) B.pre
  have hown : s.vm.findClass RX14 = some m.cls := findClass_of_methodNamed B.named
  have hlocks := B.notSynchronized
  have hin_14 : ∀ w ∈ u_ws RX14 TX14 40, w ∈ z_wX14_refused := by decide +kernel
  subst hsz
  have hD := hD0.self (sz := s.heap.size)
  generalize hAe : va_A [(h0, .inr (14, [.int 0, .int 0, .int (-1), .int 0, .ref mp, .ref mq, .ref ms, .int 0, .int 0, .ref mo, .ref mt, .int 0, .int 0, .int 0, .int 0, .int 0, .int 0, .int 0, .int 0, .int 0, .int 0, .long 0, .ref ml, .ref mw, .int 0, .ref m1, .int 0, .int 0, .int 0, .int 0, .ref m2, .ref m3, .int 0, .int 0, .ref m4, .ref m5, .ref m6, .ref m7, .ref m8, .ref m9]))] s.heap.size = A at hD ⊢
  have hA : ∀ q : Nat, s.heap.size ≤ q → A q := fun q h => by rw [← hAe]; exact Or.inr h
  have hS : va_S A s.heap s.heap [] := va_S.rf
  have hP : va_P (dC, dI) z_Cl [(h0, .inr (14, [.int 0, .int 0, .int (-1), .int 0, .ref mp, .ref mq, .ref ms, .int 0, .int 0, .ref mo, .ref mt, .int 0, .int 0, .int 0, .int 0, .int 0, .int 0, .int 0, .int 0, .int 0, .int 0, .long 0, .ref ml, .ref mw, .int 0, .ref m1, .int 0, .int 0, .int 0, .int 0, .ref m2, .ref m3, .int 0, .int 0, .ref m4, .ref m5, .ref m6, .ref m7, .ref m8, .ref m9]))] s.heap := hP
  have hl := lv_entry ([.ref h0, .int p1]) (n := 2) (Nat.le_of_ble_eq_true rfl)
  rw [lg_entry_eq]
  generalize (lg_sl ([.ref h0, .int p1]) ++ List.replicate (2 - (lg_sl ([.ref h0, .int p1])).length) Slot.unset).toArray = ls at hl ⊢
  have hl : lv_has ls 2 [(0, .ref h0), (1, .int p1)] := hl
  refine lv_aload_n hx hb dX14_refused_0 rfl (lv_at hl 0 rfl) ?_
  refine lv_iload_n hx hb dX14_refused_1 rfl (lv_at hl 1 rfl) ?_
  refine va_put (D := (dC, dI)) (ci := 14) (v := .int p1) (ty := .int) (C := RX14) (T := TX14) (N := 40) hx hb hts hin_14 tyX14 tyX14_ok nmX14 hown hK hP hD hS 0 rfl rfl 1 (by decide) (hts (.fieldLink RX14 79 "LessonMakerModel" "trouble" "I") (List.mem_of_getElem? (i := 1) rfl)) (fun _ h9 => h9) rfl (by decide +kernel) rfl rfl (Nat.le_of_ble_eq_true rfl) dX14_refused_2 (fun H locs hP hD hS => ?_)
  have hP : va_P (dC, dI) z_Cl [(h0, .inr (14, [.int 0, .int p1, .int (-1), .int 0, .ref mp, .ref mq, .ref ms, .int 0, .int 0, .ref mo, .ref mt, .int 0, .int 0, .int 0, .int 0, .int 0, .int 0, .int 0, .int 0, .int 0, .int 0, .long 0, .ref ml, .ref mw, .int 0, .ref m1, .int 0, .int 0, .int 0, .int 0, .ref m2, .ref m3, .int 0, .int 0, .ref m4, .ref m5, .ref m6, .ref m7, .ref m8, .ref m9]))] H := hP
  have hD : va_D A [(h0, .inr (14, [.int 0, .int p1, .int (-1), .int 0, .ref mp, .ref mq, .ref ms, .int 0, .int 0, .ref mo, .ref mt, .int 0, .int 0, .int 0, .int 0, .int 0, .int 0, .int 0, .int 0, .int 0, .int 0, .long 0, .ref ml, .ref mw, .int 0, .ref m1, .int 0, .int 0, .int 0, .int 0, .ref m2, .ref m3, .int 0, .int 0, .ref m4, .ref m5, .ref m6, .ref m7, .ref m8, .ref m9]))] := hD
  refine lv_aload_n hx hb dX14_refused_5 rfl (lv_at hl 0 rfl) ?_
  refine lv_iconst (v := (-1)) hx hb dX14_refused_6 (by decide) ?_
  refine va_put (D := (dC, dI)) (ci := 14) (v := .int (-1)) (ty := .int) (C := RX14) (T := TX14) (N := 40) hx hb hts hin_14 tyX14 tyX14_ok nmX14 hown hK hP hD hS 0 rfl rfl 2 (by decide) (hts (.fieldLink RX14 9 "LessonMakerModel" "where" "I") (List.mem_of_getElem? (i := 2) rfl)) (fun _ h9 => h9) rfl (by decide +kernel) rfl rfl (Nat.le_of_ble_eq_true rfl) dX14_refused_7 (fun H locs hP hD hS => ?_)
  have hP : va_P (dC, dI) z_Cl [(h0, .inr (14, [.int 0, .int p1, .int (-1), .int 0, .ref mp, .ref mq, .ref ms, .int 0, .int 0, .ref mo, .ref mt, .int 0, .int 0, .int 0, .int 0, .int 0, .int 0, .int 0, .int 0, .int 0, .int 0, .long 0, .ref ml, .ref mw, .int 0, .ref m1, .int 0, .int 0, .int 0, .int 0, .ref m2, .ref m3, .int 0, .int 0, .ref m4, .ref m5, .ref m6, .ref m7, .ref m8, .ref m9]))] H := hP
  have hD : va_D A [(h0, .inr (14, [.int 0, .int p1, .int (-1), .int 0, .ref mp, .ref mq, .ref ms, .int 0, .int 0, .ref mo, .ref mt, .int 0, .int 0, .int 0, .int 0, .int 0, .int 0, .int 0, .int 0, .int 0, .int 0, .long 0, .ref ml, .ref mw, .int 0, .ref m1, .int 0, .int 0, .int 0, .int 0, .ref m2, .ref m3, .int 0, .int 0, .ref m4, .ref m5, .ref m6, .ref m7, .ref m8, .ref m9]))] := hD
  refine lv_iconst (v := (-1)) hx hb dX14_refused_10 (by decide) ?_
  have hP9 := hP.sub (ws' := []) [] rfl
  have hD9 := hD.sub (ws' := []) [] (by decide) rfl
  have hK9 := hK.sub (tys' := []) [] rfl
  refine W.widen (k := 0) (n := 0) (Nat.le_of_ble_eq_true rfl) (Nat.le_of_ble_eq_true rfl) ?_
  exact W.iret (v := (-1)) hx hb hr (fun t ht hW => ⟨⟨(-1), (), rfl, rfl, by rw [ht]; exact hP9, va_K.moved hW.alike hK9, hD9⟩, hS.F ht⟩) hS.2.2 dX14_refused_11

def z_wX14_fault : List Cond := .code yX14_fault cX14_fault 1 (some .int) :: ([.fieldLink RX14 76 "LessonMakerModel" "thrown" "I", .fieldLink RX14 310 "LessonMakerModel" "fault" "I"] ++ (u_ws RX14 TX14 40))
set_option maxHeartbeats 4000000 in
set_option maxRecDepth 100000 in
theorem c_X14_fault (l : Launch) (dC : Nat → ClassId) (dI : Nat → Nat → Nat) (h0 : Nat) (mp : Nat) (mq : Nat) (ms : Nat) (mo : Nat) (mt : Nat) (ml : Nat) (mw : Nat) (m1 : Nat) (m2 : Nat) (m3 : Nat) (m4 : Nat) (m5 : Nat) (m6 : Nat) (m7 : Nat) (m8 : Nat) (m9 : Nat) (sz : Nat) : Met l yX14_fault z_wX14_fault ({ frames := 0, cells := 0, slots := 0, locals := 0 }) (va_Pc [.ref h0] (z_in dC dI [(h0, .inr (14, [.int 0, .int 0, .int (-1), .int 0, .ref mp, .ref mq, .ref ms, .int 0, .int 0, .ref mo, .ref mt, .int 0, .int 0, .int 0, .int 0, .int 0, .int 0, .int 0, .int 0, .int 0, .int 0, .long 0, .ref ml, .ref mw, .int 0, .ref m1, .int 0, .int 0, .int 0, .int 0, .ref m2, .ref m3, .int 0, .int 0, .ref m4, .ref m5, .ref m6, .ref m7, .ref m8, .ref m9]))] [] sz)) (va_Qi (fun (r : Int32) (_ : Unit) => r = 0) (fun (_ : Unit) t => z_out dC dI (va_A [(h0, .inr (14, [.int 0, .int 0, .int (-1), .int 0, .ref mp, .ref mq, .ref ms, .int 0, .int 0, .ref mo, .ref mt, .int 0, .int 0, .int 0, .int 0, .int 0, .int 0, .int 0, .int 0, .int 0, .int 0, .long 0, .ref ml, .ref mw, .int 0, .ref m1, .int 0, .int 0, .int 0, .int 0, .ref m2, .ref m3, .int 0, .int 0, .ref m4, .ref m5, .ref m6, .ref m7, .ref m8, .ref m9]))] sz) [] [] t) (va_A [(h0, .inr (14, [.int 0, .int 0, .int (-1), .int 0, .ref mp, .ref mq, .ref ms, .int 0, .int 0, .ref mo, .ref mt, .int 0, .int 0, .int 0, .int 0, .int 0, .int 0, .int 0, .int 0, .int 0, .int 0, .long 0, .ref ml, .ref mw, .int 0, .ref m1, .int 0, .int 0, .int 0, .int 0, .ref m2, .ref m3, .int 0, .int 0, .ref m4, .ref m5, .ref m6, .ref m7, .ref m8, .ref m9]))] sz)) 0 0 (va_A [(h0, .inr (14, [.int 0, .int 0, .int (-1), .int 0, .ref mp, .ref mq, .ref ms, .int 0, .int 0, .ref mo, .ref mt, .int 0, .int 0, .int 0, .int 0, .int 0, .int 0, .int 0, .int 0, .int 0, .int 0, .long 0, .ref ml, .ref mw, .int 0, .ref m1, .int 0, .int 0, .int 0, .int 0, .ref m2, .ref m3, .int 0, .int 0, .ref m4, .ref m5, .ref m6, .ref m7, .ref m8, .ref m9]))] sz) := by
  refine Met.ofW (cc := cX14_fault) (maxL := 1) (ret := (some .int)) (by decide) rfl ?_
  intro p e s m args below meth c s₁ B hml hv
  obtain ⟨rfl, hsz, hP, hK, hD0, hN⟩ := hv
  have hx := B.exec
  have hb := B.bytes
  have hr := B.returns
  have hts := atoms_spec (ws := z_wX14_fault) B.pre
  have hown : s.vm.findClass RX14 = some m.cls := findClass_of_methodNamed B.named
  have hlocks := B.notSynchronized
  have hin_14 : ∀ w ∈ u_ws RX14 TX14 40, w ∈ z_wX14_fault := by decide +kernel
  subst hsz
  have hD := hD0.self (sz := s.heap.size)
  generalize hAe : va_A [(h0, .inr (14, [.int 0, .int 0, .int (-1), .int 0, .ref mp, .ref mq, .ref ms, .int 0, .int 0, .ref mo, .ref mt, .int 0, .int 0, .int 0, .int 0, .int 0, .int 0, .int 0, .int 0, .int 0, .int 0, .long 0, .ref ml, .ref mw, .int 0, .ref m1, .int 0, .int 0, .int 0, .int 0, .ref m2, .ref m3, .int 0, .int 0, .ref m4, .ref m5, .ref m6, .ref m7, .ref m8, .ref m9]))] s.heap.size = A at hD ⊢
  have hA : ∀ q : Nat, s.heap.size ≤ q → A q := fun q h => by rw [← hAe]; exact Or.inr h
  have hS : va_S A s.heap s.heap [] := va_S.rf
  have hP : va_P (dC, dI) z_Cl [(h0, .inr (14, [.int 0, .int 0, .int (-1), .int 0, .ref mp, .ref mq, .ref ms, .int 0, .int 0, .ref mo, .ref mt, .int 0, .int 0, .int 0, .int 0, .int 0, .int 0, .int 0, .int 0, .int 0, .int 0, .long 0, .ref ml, .ref mw, .int 0, .ref m1, .int 0, .int 0, .int 0, .int 0, .ref m2, .ref m3, .int 0, .int 0, .ref m4, .ref m5, .ref m6, .ref m7, .ref m8, .ref m9]))] s.heap := hP
  have hl := lv_entry ([.ref h0]) (n := 1) (Nat.le_of_ble_eq_true rfl)
  rw [lg_entry_eq]
  generalize (lg_sl ([.ref h0]) ++ List.replicate (1 - (lg_sl ([.ref h0])).length) Slot.unset).toArray = ls at hl ⊢
  have hl : lv_has ls 1 [(0, .ref h0)] := hl
  refine lv_aload_n hx hb dX14_fault_0 rfl (lv_at hl 0 rfl) ?_
  refine lv_iconst (v := 0) hx hb dX14_fault_1 (by decide) ?_
  refine va_put (D := (dC, dI)) (ci := 14) (v := .int 0) (ty := .int) (C := RX14) (T := TX14) (N := 40) hx hb hts hin_14 tyX14 tyX14_ok nmX14 hown hK hP hD hS 0 rfl rfl 0 (by decide) (hts (.fieldLink RX14 76 "LessonMakerModel" "thrown" "I") (List.mem_of_getElem? (i := 1) rfl)) (fun _ h9 => h9) rfl (by decide +kernel) rfl rfl (Nat.le_of_ble_eq_true rfl) dX14_fault_2 (fun H locs hP hD hS => ?_)
  have hP : va_P (dC, dI) z_Cl [(h0, .inr (14, [.int 0, .int 0, .int (-1), .int 0, .ref mp, .ref mq, .ref ms, .int 0, .int 0, .ref mo, .ref mt, .int 0, .int 0, .int 0, .int 0, .int 0, .int 0, .int 0, .int 0, .int 0, .int 0, .long 0, .ref ml, .ref mw, .int 0, .ref m1, .int 0, .int 0, .int 0, .int 0, .ref m2, .ref m3, .int 0, .int 0, .ref m4, .ref m5, .ref m6, .ref m7, .ref m8, .ref m9]))] H := hP
  have hD : va_D A [(h0, .inr (14, [.int 0, .int 0, .int (-1), .int 0, .ref mp, .ref mq, .ref ms, .int 0, .int 0, .ref mo, .ref mt, .int 0, .int 0, .int 0, .int 0, .int 0, .int 0, .int 0, .int 0, .int 0, .int 0, .long 0, .ref ml, .ref mw, .int 0, .ref m1, .int 0, .int 0, .int 0, .int 0, .ref m2, .ref m3, .int 0, .int 0, .ref m4, .ref m5, .ref m6, .ref m7, .ref m8, .ref m9]))] := hD
  refine lv_aload_n hx hb dX14_fault_5 rfl (lv_at hl 0 rfl) ?_
  refine va_get (D := (dC, dI)) (ci := 14) (v := .int 0) (C := RX14) (T := TX14) (N := 40) hx hb hts hin_14 hown hK hP 0 rfl rfl 3 (by decide) (hts (.fieldLink RX14 310 "LessonMakerModel" "fault" "I") (List.mem_of_getElem? (i := 2) rfl)) (fun _ h9 => h9) rfl dX14_fault_6 ?_
  have hP9 := hP.sub (ws' := []) [] rfl
  have hD9 := hD.sub (ws' := []) [] (by decide) rfl
  have hK9 := hK.sub (tys' := []) [] rfl
  refine W.widen (k := 0) (n := 0) (Nat.le_of_ble_eq_true rfl) (Nat.le_of_ble_eq_true rfl) ?_
  exact W.iret (v := 0) hx hb hr (fun t ht hW => ⟨⟨0, (), rfl, rfl, by rw [ht]; exact hP9, va_K.moved hW.alike hK9, hD9⟩, hS.F ht⟩) hS.2.2 dX14_fault_9

def z_wX14_where : List Cond := .code yX14_where cX14_where 1 (some .int) :: ([.fieldLink RX14 76 "LessonMakerModel" "thrown" "I", .fieldLink RX14 9 "LessonMakerModel" "where" "I"] ++ (u_ws RX14 TX14 40))
set_option maxHeartbeats 4000000 in
set_option maxRecDepth 100000 in
theorem c_X14_where (l : Launch) (dC : Nat → ClassId) (dI : Nat → Nat → Nat) (h0 : Nat) (mp : Nat) (mq : Nat) (ms : Nat) (mo : Nat) (mt : Nat) (ml : Nat) (mw : Nat) (m1 : Nat) (m2 : Nat) (m3 : Nat) (m4 : Nat) (m5 : Nat) (m6 : Nat) (m7 : Nat) (m8 : Nat) (m9 : Nat) (sz : Nat) : Met l yX14_where z_wX14_where ({ frames := 0, cells := 0, slots := 0, locals := 0 }) (va_Pc [.ref h0] (z_in dC dI [(h0, .inr (14, [.int 0, .int 0, .int (-1), .int 0, .ref mp, .ref mq, .ref ms, .int 0, .int 0, .ref mo, .ref mt, .int 0, .int 0, .int 0, .int 0, .int 0, .int 0, .int 0, .int 0, .int 0, .int 0, .long 0, .ref ml, .ref mw, .int 0, .ref m1, .int 0, .int 0, .int 0, .int 0, .ref m2, .ref m3, .int 0, .int 0, .ref m4, .ref m5, .ref m6, .ref m7, .ref m8, .ref m9]))] [] sz)) (va_Qi (fun (r : Int32) (_ : Unit) => r = (-1)) (fun (_ : Unit) t => z_out dC dI (va_A [(h0, .inr (14, [.int 0, .int 0, .int (-1), .int 0, .ref mp, .ref mq, .ref ms, .int 0, .int 0, .ref mo, .ref mt, .int 0, .int 0, .int 0, .int 0, .int 0, .int 0, .int 0, .int 0, .int 0, .int 0, .long 0, .ref ml, .ref mw, .int 0, .ref m1, .int 0, .int 0, .int 0, .int 0, .ref m2, .ref m3, .int 0, .int 0, .ref m4, .ref m5, .ref m6, .ref m7, .ref m8, .ref m9]))] sz) [] [] t) (va_A [(h0, .inr (14, [.int 0, .int 0, .int (-1), .int 0, .ref mp, .ref mq, .ref ms, .int 0, .int 0, .ref mo, .ref mt, .int 0, .int 0, .int 0, .int 0, .int 0, .int 0, .int 0, .int 0, .int 0, .int 0, .long 0, .ref ml, .ref mw, .int 0, .ref m1, .int 0, .int 0, .int 0, .int 0, .ref m2, .ref m3, .int 0, .int 0, .ref m4, .ref m5, .ref m6, .ref m7, .ref m8, .ref m9]))] sz)) 0 0 (va_A [(h0, .inr (14, [.int 0, .int 0, .int (-1), .int 0, .ref mp, .ref mq, .ref ms, .int 0, .int 0, .ref mo, .ref mt, .int 0, .int 0, .int 0, .int 0, .int 0, .int 0, .int 0, .int 0, .int 0, .int 0, .long 0, .ref ml, .ref mw, .int 0, .ref m1, .int 0, .int 0, .int 0, .int 0, .ref m2, .ref m3, .int 0, .int 0, .ref m4, .ref m5, .ref m6, .ref m7, .ref m8, .ref m9]))] sz) := by
  refine Met.ofW (cc := cX14_where) (maxL := 1) (ret := (some .int)) (by decide) rfl ?_
  intro p e s m args below meth c s₁ B hml hv
  obtain ⟨rfl, hsz, hP, hK, hD0, hN⟩ := hv
  have hx := B.exec
  have hb := B.bytes
  have hr := B.returns
  have hts := atoms_spec (ws := z_wX14_where) B.pre
  have hown : s.vm.findClass RX14 = some m.cls := findClass_of_methodNamed B.named
  have hlocks := B.notSynchronized
  have hin_14 : ∀ w ∈ u_ws RX14 TX14 40, w ∈ z_wX14_where := by decide +kernel
  subst hsz
  have hD := hD0.self (sz := s.heap.size)
  generalize hAe : va_A [(h0, .inr (14, [.int 0, .int 0, .int (-1), .int 0, .ref mp, .ref mq, .ref ms, .int 0, .int 0, .ref mo, .ref mt, .int 0, .int 0, .int 0, .int 0, .int 0, .int 0, .int 0, .int 0, .int 0, .int 0, .long 0, .ref ml, .ref mw, .int 0, .ref m1, .int 0, .int 0, .int 0, .int 0, .ref m2, .ref m3, .int 0, .int 0, .ref m4, .ref m5, .ref m6, .ref m7, .ref m8, .ref m9]))] s.heap.size = A at hD ⊢
  have hA : ∀ q : Nat, s.heap.size ≤ q → A q := fun q h => by rw [← hAe]; exact Or.inr h
  have hS : va_S A s.heap s.heap [] := va_S.rf
  have hP : va_P (dC, dI) z_Cl [(h0, .inr (14, [.int 0, .int 0, .int (-1), .int 0, .ref mp, .ref mq, .ref ms, .int 0, .int 0, .ref mo, .ref mt, .int 0, .int 0, .int 0, .int 0, .int 0, .int 0, .int 0, .int 0, .int 0, .int 0, .long 0, .ref ml, .ref mw, .int 0, .ref m1, .int 0, .int 0, .int 0, .int 0, .ref m2, .ref m3, .int 0, .int 0, .ref m4, .ref m5, .ref m6, .ref m7, .ref m8, .ref m9]))] s.heap := hP
  have hl := lv_entry ([.ref h0]) (n := 1) (Nat.le_of_ble_eq_true rfl)
  rw [lg_entry_eq]
  generalize (lg_sl ([.ref h0]) ++ List.replicate (1 - (lg_sl ([.ref h0])).length) Slot.unset).toArray = ls at hl ⊢
  have hl : lv_has ls 1 [(0, .ref h0)] := hl
  refine lv_aload_n hx hb dX14_where_0 rfl (lv_at hl 0 rfl) ?_
  refine lv_iconst (v := 0) hx hb dX14_where_1 (by decide) ?_
  refine va_put (D := (dC, dI)) (ci := 14) (v := .int 0) (ty := .int) (C := RX14) (T := TX14) (N := 40) hx hb hts hin_14 tyX14 tyX14_ok nmX14 hown hK hP hD hS 0 rfl rfl 0 (by decide) (hts (.fieldLink RX14 76 "LessonMakerModel" "thrown" "I") (List.mem_of_getElem? (i := 1) rfl)) (fun _ h9 => h9) rfl (by decide +kernel) rfl rfl (Nat.le_of_ble_eq_true rfl) dX14_where_2 (fun H locs hP hD hS => ?_)
  have hP : va_P (dC, dI) z_Cl [(h0, .inr (14, [.int 0, .int 0, .int (-1), .int 0, .ref mp, .ref mq, .ref ms, .int 0, .int 0, .ref mo, .ref mt, .int 0, .int 0, .int 0, .int 0, .int 0, .int 0, .int 0, .int 0, .int 0, .int 0, .long 0, .ref ml, .ref mw, .int 0, .ref m1, .int 0, .int 0, .int 0, .int 0, .ref m2, .ref m3, .int 0, .int 0, .ref m4, .ref m5, .ref m6, .ref m7, .ref m8, .ref m9]))] H := hP
  have hD : va_D A [(h0, .inr (14, [.int 0, .int 0, .int (-1), .int 0, .ref mp, .ref mq, .ref ms, .int 0, .int 0, .ref mo, .ref mt, .int 0, .int 0, .int 0, .int 0, .int 0, .int 0, .int 0, .int 0, .int 0, .int 0, .long 0, .ref ml, .ref mw, .int 0, .ref m1, .int 0, .int 0, .int 0, .int 0, .ref m2, .ref m3, .int 0, .int 0, .ref m4, .ref m5, .ref m6, .ref m7, .ref m8, .ref m9]))] := hD
  refine lv_aload_n hx hb dX14_where_5 rfl (lv_at hl 0 rfl) ?_
  refine va_get (D := (dC, dI)) (ci := 14) (v := .int (-1)) (C := RX14) (T := TX14) (N := 40) hx hb hts hin_14 hown hK hP 0 rfl rfl 2 (by decide) (hts (.fieldLink RX14 9 "LessonMakerModel" "where" "I") (List.mem_of_getElem? (i := 2) rfl)) (fun _ h9 => h9) rfl dX14_where_6 ?_
  have hP9 := hP.sub (ws' := []) [] rfl
  have hD9 := hD.sub (ws' := []) [] (by decide) rfl
  have hK9 := hK.sub (tys' := []) [] rfl
  refine W.widen (k := 0) (n := 0) (Nat.le_of_ble_eq_true rfl) (Nat.le_of_ble_eq_true rfl) ?_
  exact W.iret (v := (-1)) hx hb hr (fun t ht hW => ⟨⟨(-1), (), rfl, rfl, by rw [ht]; exact hP9, va_K.moved hW.alike hK9, hD9⟩, hS.F ht⟩) hS.2.2 dX14_where_9

def z_wX14_function : List Cond := .code yX14_function cX14_function 3 (some .int) :: ([.fieldLink RX14 76 "LessonMakerModel" "thrown" "I", .fieldLink RX14 318 "LessonMakerModel" "is" "Z", .methodLink RX14 336 yX14_isFunction, .instanceMethod yX14_isFunction, .selects RX14 yX14_isFunction yX14_isFunction, .initialized RX14, .code yX14_isFunction cX14_isFunction 2 (some .boolean)] ++ (u_ws RX14 TX14 40))
set_option maxRecDepth 20000 in
theorem c_X14_function_zg_1 : GoodIn z_wX14_function (wsV RX14 336 RX14 yX14_isFunction z_wX14_isFunction) := goodIn_r _ [3, 4, 5, 6, 7, 2, 8, 9, 10, 11, 12, 13, 14, 15, 16, 17, 18, 19, 20, 21, 22, 23, 24, 25, 26, 27, 28, 29, 30, 31, 32, 33, 34, 35, 36, 37, 38, 39, 40, 41, 42, 43, 44, 45, 46, 47] (by decide +kernel) (by decide +kernel)
set_option maxHeartbeats 4000000 in
set_option maxRecDepth 100000 in
theorem c_X14_function (l : Launch) (dC : Nat → ClassId) (dI : Nat → Nat → Nat) (h0 : Nat) (mp : Nat) (mq : Nat) (ms : Nat) (mo : Nat) (mt : Nat) (ml : Nat) (mw : Nat) (m1 : Nat) (m2 : Nat) (m3 : Nat) (m4 : Nat) (m5 : Nat) (m6 : Nat) (m7 : Nat) (m8 : Nat) (m9 : Nat) (p1 : Int32) (p2 : Int32) (sz : Nat) : Met l yX14_function z_wX14_function ({ frames := 1, cells := 0, slots := 0, locals := 21 }) (va_Pc [.ref h0, .int p1, .int p2] (z_in dC dI [(h0, .inr (14, [.int 0, .int 0, .int (-1), .int 0, .ref mp, .ref mq, .ref ms, .int 0, .int 0, .ref mo, .ref mt, .int 0, .int 0, .int 0, .int 0, .int 0, .int 0, .int 0, .int 0, .int 0, .int 0, .long 0, .ref ml, .ref mw, .int 0, .ref m1, .int 0, .int 0, .int 0, .int 0, .ref m2, .ref m3, .int 0, .int 0, .ref m4, .ref m5, .ref m6, .ref m7, .ref m8, .ref m9]))] [] sz)) (va_Qi (fun (r : Int32) (_ : Unit) => r = (-1)) (fun (_ : Unit) t => z_out dC dI (va_A [(h0, .inr (14, [.int 0, .int 0, .int (-1), .int 0, .ref mp, .ref mq, .ref ms, .int 0, .int 0, .ref mo, .ref mt, .int 0, .int 0, .int 0, .int 0, .int 0, .int 0, .int 0, .int 0, .int 0, .int 0, .long 0, .ref ml, .ref mw, .int 0, .ref m1, .int 0, .int 0, .int 0, .int 0, .ref m2, .ref m3, .int 0, .int 0, .ref m4, .ref m5, .ref m6, .ref m7, .ref m8, .ref m9]))] sz) [] [] t) (va_A [(h0, .inr (14, [.int 0, .int 0, .int (-1), .int 0, .ref mp, .ref mq, .ref ms, .int 0, .int 0, .ref mo, .ref mt, .int 0, .int 0, .int 0, .int 0, .int 0, .int 0, .int 0, .int 0, .int 0, .int 0, .long 0, .ref ml, .ref mw, .int 0, .ref m1, .int 0, .int 0, .int 0, .int 0, .ref m2, .ref m3, .int 0, .int 0, .ref m4, .ref m5, .ref m6, .ref m7, .ref m8, .ref m9]))] sz)) 0 0 (va_A [(h0, .inr (14, [.int 0, .int 0, .int (-1), .int 0, .ref mp, .ref mq, .ref ms, .int 0, .int 0, .ref mo, .ref mt, .int 0, .int 0, .int 0, .int 0, .int 0, .int 0, .int 0, .int 0, .int 0, .int 0, .long 0, .ref ml, .ref mw, .int 0, .ref m1, .int 0, .int 0, .int 0, .int 0, .ref m2, .ref m3, .int 0, .int 0, .ref m4, .ref m5, .ref m6, .ref m7, .ref m8, .ref m9]))] sz) := by
  refine Met.ofW (cc := cX14_function) (maxL := 3) (ret := (some .int)) (by decide) rfl ?_
  intro p e s m args below meth c s₁ B hml hv
  obtain ⟨rfl, hsz, hP, hK, hD0, hN⟩ := hv
  have hx := B.exec
  have hb := B.bytes
  have hr := B.returns
  have hts := atoms_spec (ws := z_wX14_function) B.pre
  have hown : s.vm.findClass RX14 = some m.cls := findClass_of_methodNamed B.named
  have hlocks := B.notSynchronized
  have hin_14 : ∀ w ∈ u_ws RX14 TX14 40, w ∈ z_wX14_function := by decide +kernel
  subst hsz
  have hD := hD0.self (sz := s.heap.size)
  generalize hAe : va_A [(h0, .inr (14, [.int 0, .int 0, .int (-1), .int 0, .ref mp, .ref mq, .ref ms, .int 0, .int 0, .ref mo, .ref mt, .int 0, .int 0, .int 0, .int 0, .int 0, .int 0, .int 0, .int 0, .int 0, .int 0, .long 0, .ref ml, .ref mw, .int 0, .ref m1, .int 0, .int 0, .int 0, .int 0, .ref m2, .ref m3, .int 0, .int 0, .ref m4, .ref m5, .ref m6, .ref m7, .ref m8, .ref m9]))] s.heap.size = A at hD ⊢
  have hA : ∀ q : Nat, s.heap.size ≤ q → A q := fun q h => by rw [← hAe]; exact Or.inr h
  have hS : va_S A s.heap s.heap [] := va_S.rf
  have hP : va_P (dC, dI) z_Cl [(h0, .inr (14, [.int 0, .int 0, .int (-1), .int 0, .ref mp, .ref mq, .ref ms, .int 0, .int 0, .ref mo, .ref mt, .int 0, .int 0, .int 0, .int 0, .int 0, .int 0, .int 0, .int 0, .int 0, .int 0, .long 0, .ref ml, .ref mw, .int 0, .ref m1, .int 0, .int 0, .int 0, .int 0, .ref m2, .ref m3, .int 0, .int 0, .ref m4, .ref m5, .ref m6, .ref m7, .ref m8, .ref m9]))] s.heap := hP
  have hl := lv_entry ([.ref h0, .int p1, .int p2]) (n := 3) (Nat.le_of_ble_eq_true rfl)
  rw [lg_entry_eq]
  generalize (lg_sl ([.ref h0, .int p1, .int p2]) ++ List.replicate (3 - (lg_sl ([.ref h0, .int p1, .int p2])).length) Slot.unset).toArray = ls at hl ⊢
  have hl : lv_has ls 3 [(0, .ref h0), (1, .int p1), (2, .int p2)] := hl
  refine lv_aload_n hx hb dX14_function_0 rfl (lv_at hl 0 rfl) ?_
  refine lv_iconst (v := 0) hx hb dX14_function_1 (by decide) ?_
  refine va_put (D := (dC, dI)) (ci := 14) (v := .int 0) (ty := .int) (C := RX14) (T := TX14) (N := 40) hx hb hts hin_14 tyX14 tyX14_ok nmX14 hown hK hP hD hS 0 rfl rfl 0 (by decide) (hts (.fieldLink RX14 76 "LessonMakerModel" "thrown" "I") (List.mem_of_getElem? (i := 1) rfl)) (fun _ h9 => h9) rfl (by decide +kernel) rfl rfl (Nat.le_of_ble_eq_true rfl) dX14_function_2 (fun H locs hP hD hS => ?_)
  have hP : va_P (dC, dI) z_Cl [(h0, .inr (14, [.int 0, .int 0, .int (-1), .int 0, .ref mp, .ref mq, .ref ms, .int 0, .int 0, .ref mo, .ref mt, .int 0, .int 0, .int 0, .int 0, .int 0, .int 0, .int 0, .int 0, .int 0, .int 0, .long 0, .ref ml, .ref mw, .int 0, .ref m1, .int 0, .int 0, .int 0, .int 0, .ref m2, .ref m3, .int 0, .int 0, .ref m4, .ref m5, .ref m6, .ref m7, .ref m8, .ref m9]))] H := hP
  have hD : va_D A [(h0, .inr (14, [.int 0, .int 0, .int (-1), .int 0, .ref mp, .ref mq, .ref ms, .int 0, .int 0, .ref mo, .ref mt, .int 0, .int 0, .int 0, .int 0, .int 0, .int 0, .int 0, .int 0, .int 0, .int 0, .long 0, .ref ml, .ref mw, .int 0, .ref m1, .int 0, .int 0, .int 0, .int 0, .ref m2, .ref m3, .int 0, .int 0, .ref m4, .ref m5, .ref m6, .ref m7, .ref m8, .ref m9]))] := hD
  refine lv_aload_n hx hb dX14_function_5 rfl (lv_at hl 0 rfl) ?_
  refine lv_iload_n hx hb dX14_function_6 rfl (lv_at hl 1 rfl) ?_
  have hPc := hP.sub (ws' := [(h0, .inr (14, [.int 0, .int 0, .int (-1), .int 0, .ref mp, .ref mq, .ref ms, .int 0, .int 0, .ref mo, .ref mt, .int 0, .int 0, .int 0, .int 0, .int 0, .int 0, .int 0, .int 0, .int 0, .int 0, .long 0, .ref ml, .ref mw, .int 0, .ref m1, .int 0, .int 0, .int 0, .int 0, .ref m2, .ref m3, .int 0, .int 0, .ref m4, .ref m5, .ref m6, .ref m7, .ref m8, .ref m9]))]) [0] rfl
  have hDc := hD.sub (ws' := [(h0, .inr (14, [.int 0, .int 0, .int (-1), .int 0, .ref mp, .ref mq, .ref ms, .int 0, .int 0, .ref mo, .ref mt, .int 0, .int 0, .int 0, .int 0, .int 0, .int 0, .int 0, .int 0, .int 0, .int 0, .long 0, .ref ml, .ref mw, .int 0, .ref m1, .int 0, .int 0, .int 0, .int 0, .ref m2, .ref m3, .int 0, .int 0, .ref m4, .ref m5, .ref m6, .ref m7, .ref m8, .ref m9]))]) [0] (by decide) rfl
  have hKc := hK.sub (tys' := []) [] rfl
  have hFc := va_free (wc := [(h0, .inr (14, [.int 0, .int 0, .int (-1), .int 0, .ref mp, .ref mq, .ref ms, .int 0, .int 0, .ref mo, .ref mt, .int 0, .int 0, .int 0, .int 0, .int 0, .int 0, .int 0, .int 0, .int 0, .int 0, .long 0, .ref ml, .ref mw, .int 0, .ref m1, .int 0, .int 0, .int 0, .int 0, .ref m2, .ref m3, .int 0, .int 0, .ref m4, .ref m5, .ref m6, .ref m7, .ref m8, .ref m9]))]) hD hS hA [0] rfl
  refine va_calli (va_runV (As := [.int p1]) (rest := []) ⟨hx, hb, hml, hown, hts⟩ (c_X14_isFunction l dC dI h0 mp mq ms mo mt ml mw m1 m2 m3 m4 m5 m6 m7 m8 m9 p1 H.size) (cwV 1 hts c_X14_function_zg_1 rfl rfl rfl (by decide +kernel) ⟨(Nat.le_of_ble_eq_true rfl), (Nat.le_of_ble_eq_true rfl)⟩) ⟨z_blind, va_recv hKc hPc (ci := 14) (q0 := 0) rfl rfl, z_pre hPc hKc hDc hN⟩ rfl rfl hl.1 rfl (lv_room (Nat.le_of_ble_eq_true rfl)) dX14_function_7 ⟨(Nat.le_of_ble_eq_true rfl), (Nat.le_of_ble_eq_true rfl)⟩) hS (fun q _ h => hFc q h) hFc (fun r_2 u t H1 locs ht hvm hw hB hz1 hk1 hS => ?_)
  obtain ⟨hP1, hK1, hD1⟩ := hB
  rw [ht] at hP1
  have hK1 := va_K.moved hvm.symm hK1
  obtain ⟨hP, hD⟩ := va_join (wr := []) (w1 := [(h0, .inr (14, [.int 0, .int 0, .int (-1), .int 0, .ref mp, .ref mq, .ref ms, .int 0, .int 0, .ref mo, .ref mt, .int 0, .int 0, .int 0, .int 0, .int 0, .int 0, .int 0, .int 0, .int 0, .int 0, .long 0, .ref ml, .ref mw, .int 0, .ref m1, .int 0, .int 0, .int 0, .int 0, .ref m2, .ref m3, .int 0, .int 0, .ref m4, .ref m5, .ref m6, .ref m7, .ref m8, .ref m9]))]) hP hD [0] [] rfl rfl (by decide) (by decide) hk1 hFc hP1 hD1
  have hK := (hK.sub (tys' := []) [] rfl).app hK1
  generalize H1 = H at hP hS ⊢
  have hP : va_P (dC, dI) z_Cl [(h0, .inr (14, [.int 0, .int 0, .int (-1), .int 0, .ref mp, .ref mq, .ref ms, .int 0, .int 0, .ref mo, .ref mt, .int 0, .int 0, .int 0, .int 0, .int 0, .int 0, .int 0, .int 0, .int 0, .int 0, .long 0, .ref ml, .ref mw, .int 0, .ref m1, .int 0, .int 0, .int 0, .int 0, .ref m2, .ref m3, .int 0, .int 0, .ref m4, .ref m5, .ref m6, .ref m7, .ref m8, .ref m9]))] H := hP
  have hD : va_D A [(h0, .inr (14, [.int 0, .int 0, .int (-1), .int 0, .ref mp, .ref mq, .ref ms, .int 0, .int 0, .ref mo, .ref mt, .int 0, .int 0, .int 0, .int 0, .int 0, .int 0, .int 0, .int 0, .int 0, .int 0, .long 0, .ref ml, .ref mw, .int 0, .ref m1, .int 0, .int 0, .int 0, .int 0, .ref m2, .ref m3, .int 0, .int 0, .ref m4, .ref m5, .ref m6, .ref m7, .ref m8, .ref m9]))] := hD
  have hK : va_K (dC, dI) z_Cl [] s := hK
  have hw : r_2 = 0 := hw
  subst hw
  refine lv_if_ne (tgt := 15) hx hb dX14_function_10 (by decide) (fun h9 => absurd (by decide) h9) (fun _ => ?_)
  refine lv_iconst (v := (-1)) hx hb dX14_function_13 (by decide) ?_
  have hP9 := hP.sub (ws' := []) [] rfl
  have hD9 := hD.sub (ws' := []) [] (by decide) rfl
  have hK9 := hK.sub (tys' := []) [] rfl
  refine W.widen (k := 0) (n := 0) (Nat.le_of_ble_eq_true rfl) (Nat.le_of_ble_eq_true rfl) ?_
  exact W.iret (v := (-1)) hx hb hr (fun t ht hW => ⟨⟨(-1), (), rfl, rfl, by rw [ht]; exact hP9, va_K.moved hW.alike hK9, hD9⟩, hS.F ht⟩) hS.2.2 dX14_function_14

def z_wX14_line : List Cond := .code yX14_line cX14_line 3 (some .int) :: ([.fieldLink RX14 76 "LessonMakerModel" "thrown" "I", .fieldLink RX14 318 "LessonMakerModel" "is" "Z", .methodLink RX14 341 yX14_isLine, .instanceMethod yX14_isLine, .selects RX14 yX14_isLine yX14_isLine, .initialized RX14, .code yX14_isLine cX14_isLine 2 (some .boolean)] ++ (u_ws RX14 TX14 40))
set_option maxRecDepth 20000 in
theorem c_X14_line_zg_1 : GoodIn z_wX14_line (wsV RX14 341 RX14 yX14_isLine z_wX14_isLine) := goodIn_r _ [3, 4, 5, 6, 7, 2, 8, 9, 10, 11, 12, 13, 14, 15, 16, 17, 18, 19, 20, 21, 22, 23, 24, 25, 26, 27, 28, 29, 30, 31, 32, 33, 34, 35, 36, 37, 38, 39, 40, 41, 42, 43, 44, 45, 46, 47] (by decide +kernel) (by decide +kernel)
set_option maxHeartbeats 4000000 in
set_option maxRecDepth 100000 in
theorem c_X14_line (l : Launch) (dC : Nat → ClassId) (dI : Nat → Nat → Nat) (h0 : Nat) (mp : Nat) (mq : Nat) (ms : Nat) (mo : Nat) (mt : Nat) (ml : Nat) (mw : Nat) (m1 : Nat) (m2 : Nat) (m3 : Nat) (m4 : Nat) (m5 : Nat) (m6 : Nat) (m7 : Nat) (m8 : Nat) (m9 : Nat) (p1 : Int32) (p2 : Int32) (sz : Nat) : Met l yX14_line z_wX14_line ({ frames := 1, cells := 0, slots := 0, locals := 21 }) (va_Pc [.ref h0, .int p1, .int p2] (z_in dC dI [(h0, .inr (14, [.int 0, .int 0, .int (-1), .int 0, .ref mp, .ref mq, .ref ms, .int 0, .int 0, .ref mo, .ref mt, .int 0, .int 0, .int 0, .int 0, .int 0, .int 0, .int 0, .int 0, .int 0, .int 0, .long 0, .ref ml, .ref mw, .int 0, .ref m1, .int 0, .int 0, .int 0, .int 0, .ref m2, .ref m3, .int 0, .int 0, .ref m4, .ref m5, .ref m6, .ref m7, .ref m8, .ref m9]))] [] sz)) (va_Qi (fun (r : Int32) (_ : Unit) => r = (-1)) (fun (_ : Unit) t => z_out dC dI (va_A [(h0, .inr (14, [.int 0, .int 0, .int (-1), .int 0, .ref mp, .ref mq, .ref ms, .int 0, .int 0, .ref mo, .ref mt, .int 0, .int 0, .int 0, .int 0, .int 0, .int 0, .int 0, .int 0, .int 0, .int 0, .long 0, .ref ml, .ref mw, .int 0, .ref m1, .int 0, .int 0, .int 0, .int 0, .ref m2, .ref m3, .int 0, .int 0, .ref m4, .ref m5, .ref m6, .ref m7, .ref m8, .ref m9]))] sz) [] [] t) (va_A [(h0, .inr (14, [.int 0, .int 0, .int (-1), .int 0, .ref mp, .ref mq, .ref ms, .int 0, .int 0, .ref mo, .ref mt, .int 0, .int 0, .int 0, .int 0, .int 0, .int 0, .int 0, .int 0, .int 0, .int 0, .long 0, .ref ml, .ref mw, .int 0, .ref m1, .int 0, .int 0, .int 0, .int 0, .ref m2, .ref m3, .int 0, .int 0, .ref m4, .ref m5, .ref m6, .ref m7, .ref m8, .ref m9]))] sz)) 0 0 (va_A [(h0, .inr (14, [.int 0, .int 0, .int (-1), .int 0, .ref mp, .ref mq, .ref ms, .int 0, .int 0, .ref mo, .ref mt, .int 0, .int 0, .int 0, .int 0, .int 0, .int 0, .int 0, .int 0, .int 0, .int 0, .long 0, .ref ml, .ref mw, .int 0, .ref m1, .int 0, .int 0, .int 0, .int 0, .ref m2, .ref m3, .int 0, .int 0, .ref m4, .ref m5, .ref m6, .ref m7, .ref m8, .ref m9]))] sz) := by
  refine Met.ofW (cc := cX14_line) (maxL := 3) (ret := (some .int)) (by decide) rfl ?_
  intro p e s m args below meth c s₁ B hml hv
  obtain ⟨rfl, hsz, hP, hK, hD0, hN⟩ := hv
  have hx := B.exec
  have hb := B.bytes
  have hr := B.returns
  have hts := atoms_spec (ws := z_wX14_line) B.pre
  have hown : s.vm.findClass RX14 = some m.cls := findClass_of_methodNamed B.named
  have hlocks := B.notSynchronized
  have hin_14 : ∀ w ∈ u_ws RX14 TX14 40, w ∈ z_wX14_line := by decide +kernel
  subst hsz
  have hD := hD0.self (sz := s.heap.size)
  generalize hAe : va_A [(h0, .inr (14, [.int 0, .int 0, .int (-1), .int 0, .ref mp, .ref mq, .ref ms, .int 0, .int 0, .ref mo, .ref mt, .int 0, .int 0, .int 0, .int 0, .int 0, .int 0, .int 0, .int 0, .int 0, .int 0, .long 0, .ref ml, .ref mw, .int 0, .ref m1, .int 0, .int 0, .int 0, .int 0, .ref m2, .ref m3, .int 0, .int 0, .ref m4, .ref m5, .ref m6, .ref m7, .ref m8, .ref m9]))] s.heap.size = A at hD ⊢
  have hA : ∀ q : Nat, s.heap.size ≤ q → A q := fun q h => by rw [← hAe]; exact Or.inr h
  have hS : va_S A s.heap s.heap [] := va_S.rf
  have hP : va_P (dC, dI) z_Cl [(h0, .inr (14, [.int 0, .int 0, .int (-1), .int 0, .ref mp, .ref mq, .ref ms, .int 0, .int 0, .ref mo, .ref mt, .int 0, .int 0, .int 0, .int 0, .int 0, .int 0, .int 0, .int 0, .int 0, .int 0, .long 0, .ref ml, .ref mw, .int 0, .ref m1, .int 0, .int 0, .int 0, .int 0, .ref m2, .ref m3, .int 0, .int 0, .ref m4, .ref m5, .ref m6, .ref m7, .ref m8, .ref m9]))] s.heap := hP
  have hl := lv_entry ([.ref h0, .int p1, .int p2]) (n := 3) (Nat.le_of_ble_eq_true rfl)
  rw [lg_entry_eq]
  generalize (lg_sl ([.ref h0, .int p1, .int p2]) ++ List.replicate (3 - (lg_sl ([.ref h0, .int p1, .int p2])).length) Slot.unset).toArray = ls at hl ⊢
  have hl : lv_has ls 3 [(0, .ref h0), (1, .int p1), (2, .int p2)] := hl
  refine lv_aload_n hx hb dX14_line_0 rfl (lv_at hl 0 rfl) ?_
  refine lv_iconst (v := 0) hx hb dX14_line_1 (by decide) ?_
  refine va_put (D := (dC, dI)) (ci := 14) (v := .int 0) (ty := .int) (C := RX14) (T := TX14) (N := 40) hx hb hts hin_14 tyX14 tyX14_ok nmX14 hown hK hP hD hS 0 rfl rfl 0 (by decide) (hts (.fieldLink RX14 76 "LessonMakerModel" "thrown" "I") (List.mem_of_getElem? (i := 1) rfl)) (fun _ h9 => h9) rfl (by decide +kernel) rfl rfl (Nat.le_of_ble_eq_true rfl) dX14_line_2 (fun H locs hP hD hS => ?_)
  have hP : va_P (dC, dI) z_Cl [(h0, .inr (14, [.int 0, .int 0, .int (-1), .int 0, .ref mp, .ref mq, .ref ms, .int 0, .int 0, .ref mo, .ref mt, .int 0, .int 0, .int 0, .int 0, .int 0, .int 0, .int 0, .int 0, .int 0, .int 0, .long 0, .ref ml, .ref mw, .int 0, .ref m1, .int 0, .int 0, .int 0, .int 0, .ref m2, .ref m3, .int 0, .int 0, .ref m4, .ref m5, .ref m6, .ref m7, .ref m8, .ref m9]))] H := hP
  have hD : va_D A [(h0, .inr (14, [.int 0, .int 0, .int (-1), .int 0, .ref mp, .ref mq, .ref ms, .int 0, .int 0, .ref mo, .ref mt, .int 0, .int 0, .int 0, .int 0, .int 0, .int 0, .int 0, .int 0, .int 0, .int 0, .long 0, .ref ml, .ref mw, .int 0, .ref m1, .int 0, .int 0, .int 0, .int 0, .ref m2, .ref m3, .int 0, .int 0, .ref m4, .ref m5, .ref m6, .ref m7, .ref m8, .ref m9]))] := hD
  refine lv_aload_n hx hb dX14_line_5 rfl (lv_at hl 0 rfl) ?_
  refine lv_iload_n hx hb dX14_line_6 rfl (lv_at hl 1 rfl) ?_
  have hPc := hP.sub (ws' := [(h0, .inr (14, [.int 0, .int 0, .int (-1), .int 0, .ref mp, .ref mq, .ref ms, .int 0, .int 0, .ref mo, .ref mt, .int 0, .int 0, .int 0, .int 0, .int 0, .int 0, .int 0, .int 0, .int 0, .int 0, .long 0, .ref ml, .ref mw, .int 0, .ref m1, .int 0, .int 0, .int 0, .int 0, .ref m2, .ref m3, .int 0, .int 0, .ref m4, .ref m5, .ref m6, .ref m7, .ref m8, .ref m9]))]) [0] rfl
  have hDc := hD.sub (ws' := [(h0, .inr (14, [.int 0, .int 0, .int (-1), .int 0, .ref mp, .ref mq, .ref ms, .int 0, .int 0, .ref mo, .ref mt, .int 0, .int 0, .int 0, .int 0, .int 0, .int 0, .int 0, .int 0, .int 0, .int 0, .long 0, .ref ml, .ref mw, .int 0, .ref m1, .int 0, .int 0, .int 0, .int 0, .ref m2, .ref m3, .int 0, .int 0, .ref m4, .ref m5, .ref m6, .ref m7, .ref m8, .ref m9]))]) [0] (by decide) rfl
  have hKc := hK.sub (tys' := []) [] rfl
  have hFc := va_free (wc := [(h0, .inr (14, [.int 0, .int 0, .int (-1), .int 0, .ref mp, .ref mq, .ref ms, .int 0, .int 0, .ref mo, .ref mt, .int 0, .int 0, .int 0, .int 0, .int 0, .int 0, .int 0, .int 0, .int 0, .int 0, .long 0, .ref ml, .ref mw, .int 0, .ref m1, .int 0, .int 0, .int 0, .int 0, .ref m2, .ref m3, .int 0, .int 0, .ref m4, .ref m5, .ref m6, .ref m7, .ref m8, .ref m9]))]) hD hS hA [0] rfl
  refine va_calli (va_runV (As := [.int p1]) (rest := []) ⟨hx, hb, hml, hown, hts⟩ (c_X14_isLine l dC dI h0 mp mq ms mo mt ml mw m1 m2 m3 m4 m5 m6 m7 m8 m9 p1 H.size) (cwV 1 hts c_X14_line_zg_1 rfl rfl rfl (by decide +kernel) ⟨(Nat.le_of_ble_eq_true rfl), (Nat.le_of_ble_eq_true rfl)⟩) ⟨z_blind, va_recv hKc hPc (ci := 14) (q0 := 0) rfl rfl, z_pre hPc hKc hDc hN⟩ rfl rfl hl.1 rfl (lv_room (Nat.le_of_ble_eq_true rfl)) dX14_line_7 ⟨(Nat.le_of_ble_eq_true rfl), (Nat.le_of_ble_eq_true rfl)⟩) hS (fun q _ h => hFc q h) hFc (fun r_2 u t H1 locs ht hvm hw hB hz1 hk1 hS => ?_)
  obtain ⟨hP1, hK1, hD1⟩ := hB
  rw [ht] at hP1
  have hK1 := va_K.moved hvm.symm hK1
  obtain ⟨hP, hD⟩ := va_join (wr := []) (w1 := [(h0, .inr (14, [.int 0, .int 0, .int (-1), .int 0, .ref mp, .ref mq, .ref ms, .int 0, .int 0, .ref mo, .ref mt, .int 0, .int 0, .int 0, .int 0, .int 0, .int 0, .int 0, .int 0, .int 0, .int 0, .long 0, .ref ml, .ref mw, .int 0, .ref m1, .int 0, .int 0, .int 0, .int 0, .ref m2, .ref m3, .int 0, .int 0, .ref m4, .ref m5, .ref m6, .ref m7, .ref m8, .ref m9]))]) hP hD [0] [] rfl rfl (by decide) (by decide) hk1 hFc hP1 hD1
  have hK := (hK.sub (tys' := []) [] rfl).app hK1
  generalize H1 = H at hP hS ⊢
  have hP : va_P (dC, dI) z_Cl [(h0, .inr (14, [.int 0, .int 0, .int (-1), .int 0, .ref mp, .ref mq, .ref ms, .int 0, .int 0, .ref mo, .ref mt, .int 0, .int 0, .int 0, .int 0, .int 0, .int 0, .int 0, .int 0, .int 0, .int 0, .long 0, .ref ml, .ref mw, .int 0, .ref m1, .int 0, .int 0, .int 0, .int 0, .ref m2, .ref m3, .int 0, .int 0, .ref m4, .ref m5, .ref m6, .ref m7, .ref m8, .ref m9]))] H := hP
  have hD : va_D A [(h0, .inr (14, [.int 0, .int 0, .int (-1), .int 0, .ref mp, .ref mq, .ref ms, .int 0, .int 0, .ref mo, .ref mt, .int 0, .int 0, .int 0, .int 0, .int 0, .int 0, .int 0, .int 0, .int 0, .int 0, .long 0, .ref ml, .ref mw, .int 0, .ref m1, .int 0, .int 0, .int 0, .int 0, .ref m2, .ref m3, .int 0, .int 0, .ref m4, .ref m5, .ref m6, .ref m7, .ref m8, .ref m9]))] := hD
  have hK : va_K (dC, dI) z_Cl [] s := hK
  have hw : r_2 = 0 := hw
  subst hw
  refine lv_if_ne (tgt := 15) hx hb dX14_line_10 (by decide) (fun h9 => absurd (by decide) h9) (fun _ => ?_)
  refine lv_iconst (v := (-1)) hx hb dX14_line_13 (by decide) ?_
  have hP9 := hP.sub (ws' := []) [] rfl
  have hD9 := hD.sub (ws' := []) [] (by decide) rfl
  have hK9 := hK.sub (tys' := []) [] rfl
  refine W.widen (k := 0) (n := 0) (Nat.le_of_ble_eq_true rfl) (Nat.le_of_ble_eq_true rfl) ?_
  exact W.iret (v := (-1)) hx hb hr (fun t ht hW => ⟨⟨(-1), (), rfl, rfl, by rw [ht]; exact hP9, va_K.moved hW.alike hK9, hD9⟩, hS.F ht⟩) hS.2.2 dX14_line_14

def z_wX14_run : List Cond := .code yX14_run cX14_run 7 (some .int) :: ([.fieldLink RX14 76 "LessonMakerModel" "thrown" "I", .fieldLink RX14 318 "LessonMakerModel" "is" "Z", .methodLink RX14 336 yX14_isFunction, .instanceMethod yX14_isFunction, .selects RX14 yX14_isFunction yX14_isFunction, .initialized RX14, .code yX14_isFunction cX14_isFunction 2 (some .boolean), .fieldLink RX14 79 "LessonMakerModel" "trouble" "I", .fieldLink RX14 9 "LessonMakerModel" "where" "I", .methodLink RX14 307 yX14_refused, .instanceMethod yX14_refused, .selects RX14 yX14_refused yX14_refused, .code yX14_refused cX14_refused 2 (some .int)] ++ (u_ws RX14 TX14 40))
set_option maxRecDepth 20000 in
theorem c_X14_run_zg_1 : GoodIn z_wX14_run (wsV RX14 336 RX14 yX14_isFunction z_wX14_isFunction) := goodIn_r _ [3, 4, 5, 6, 7, 2, 14, 15, 16, 17, 18, 19, 20, 21, 22, 23, 24, 25, 26, 27, 28, 29, 30, 31, 32, 33, 34, 35, 36, 37, 38, 39, 40, 41, 42, 43, 44, 45, 46, 47, 48, 49, 50, 51, 52, 53] (by decide +kernel) (by decide +kernel)
set_option maxRecDepth 20000 in
theorem c_X14_run_zg_3 : GoodIn z_wX14_run (wsV RX14 307 RX14 yX14_refused z_wX14_refused) := goodIn_r _ [10, 11, 12, 6, 13, 8, 9, 14, 15, 16, 17, 18, 19, 20, 21, 22, 23, 24, 25, 26, 27, 28, 29, 30, 31, 32, 33, 34, 35, 36, 37, 38, 39, 40, 41, 42, 43, 44, 45, 46, 47, 48, 49, 50, 51, 52, 53] (by decide +kernel) (by decide +kernel)
set_option maxHeartbeats 4000000 in
set_option maxRecDepth 100000 in
theorem c_X14_run (l : Launch) (dC : Nat → ClassId) (dI : Nat → Nat → Nat) (h0 : Nat) (mp : Nat) (mq : Nat) (ms : Nat) (mo : Nat) (mt : Nat) (ml : Nat) (mw : Nat) (m1 : Nat) (m2 : Nat) (m3 : Nat) (m4 : Nat) (m5 : Nat) (m6 : Nat) (m7 : Nat) (m8 : Nat) (m9 : Nat) (p1 : Int32) (p2 : Int32) (p3 : Int32) (p4 : Int32) (p5 : Int32) (sz : Nat) : Met l yX14_run z_wX14_run ({ frames := 1, cells := 0, slots := 0, locals := 21 }) (va_Pc [.ref h0, .int p1, .int p2, .int p3, .int p4, .int p5] (z_in dC dI [(h0, .inr (14, [.int 0, .int 0, .int (-1), .int 0, .ref mp, .ref mq, .ref ms, .int 0, .int 0, .ref mo, .ref mt, .int 0, .int 0, .int 0, .int 0, .int 0, .int 0, .int 0, .int 0, .int 0, .int 0, .long 0, .ref ml, .ref mw, .int 0, .ref m1, .int 0, .int 0, .int 0, .int 0, .ref m2, .ref m3, .int 0, .int 0, .ref m4, .ref m5, .ref m6, .ref m7, .ref m8, .ref m9]))] [] sz)) (va_Qi (fun (r : Int32) (_ : Unit) => r = (-1)) (fun (_ : Unit) t => z_out dC dI (va_A [(h0, .inr (14, [.int 0, .int 0, .int (-1), .int 0, .ref mp, .ref mq, .ref ms, .int 0, .int 0, .ref mo, .ref mt, .int 0, .int 0, .int 0, .int 0, .int 0, .int 0, .int 0, .int 0, .int 0, .int 0, .long 0, .ref ml, .ref mw, .int 0, .ref m1, .int 0, .int 0, .int 0, .int 0, .ref m2, .ref m3, .int 0, .int 0, .ref m4, .ref m5, .ref m6, .ref m7, .ref m8, .ref m9]))] sz) [] [] t) (va_A [(h0, .inr (14, [.int 0, .int 0, .int (-1), .int 0, .ref mp, .ref mq, .ref ms, .int 0, .int 0, .ref mo, .ref mt, .int 0, .int 0, .int 0, .int 0, .int 0, .int 0, .int 0, .int 0, .int 0, .int 0, .long 0, .ref ml, .ref mw, .int 0, .ref m1, .int 0, .int 0, .int 0, .int 0, .ref m2, .ref m3, .int 0, .int 0, .ref m4, .ref m5, .ref m6, .ref m7, .ref m8, .ref m9]))] sz)) 0 0 (va_A [(h0, .inr (14, [.int 0, .int 0, .int (-1), .int 0, .ref mp, .ref mq, .ref ms, .int 0, .int 0, .ref mo, .ref mt, .int 0, .int 0, .int 0, .int 0, .int 0, .int 0, .int 0, .int 0, .int 0, .int 0, .long 0, .ref ml, .ref mw, .int 0, .ref m1, .int 0, .int 0, .int 0, .int 0, .ref m2, .ref m3, .int 0, .int 0, .ref m4, .ref m5, .ref m6, .ref m7, .ref m8, .ref m9]))] sz) := by
  refine Met.ofW (cc := cX14_run) (maxL := 7) (ret := (some .int)) (by decide) rfl ?_
  intro p e s m args below meth c s₁ B hml hv
  obtain ⟨rfl, hsz, hP, hK, hD0, hN⟩ := hv
  have hx := B.exec
  have hb := B.bytes
  have hr := B.returns
  have hts := atoms_spec (ws := z_wX14_run) B.pre
  have hown : s.vm.findClass RX14 = some m.cls := findClass_of_methodNamed B.named
  have hlocks := B.notSynchronized
  have hin_14 : ∀ w ∈ u_ws RX14 TX14 40, w ∈ z_wX14_run := by decide +kernel
  subst hsz
  have hD := hD0.self (sz := s.heap.size)
  generalize hAe : va_A [(h0, .inr (14, [.int 0, .int 0, .int (-1), .int 0, .ref mp, .ref mq, .ref ms, .int 0, .int 0, .ref mo, .ref mt, .int 0, .int 0, .int 0, .int 0, .int 0, .int 0, .int 0, .int 0, .int 0, .int 0, .long 0, .ref ml, .ref mw, .int 0, .ref m1, .int 0, .int 0, .int 0, .int 0, .ref m2, .ref m3, .int 0, .int 0, .ref m4, .ref m5, .ref m6, .ref m7, .ref m8, .ref m9]))] s.heap.size = A at hD ⊢
  have hA : ∀ q : Nat, s.heap.size ≤ q → A q := fun q h => by rw [← hAe]; exact Or.inr h
  have hS : va_S A s.heap s.heap [] := va_S.rf
  have hP : va_P (dC, dI) z_Cl [(h0, .inr (14, [.int 0, .int 0, .int (-1), .int 0, .ref mp, .ref mq, .ref ms, .int 0, .int 0, .ref mo, .ref mt, .int 0, .int 0, .int 0, .int 0, .int 0, .int 0, .int 0, .int 0, .int 0, .int 0, .long 0, .ref ml, .ref mw, .int 0, .ref m1, .int 0, .int 0, .int 0, .int 0, .ref m2, .ref m3, .int 0, .int 0, .ref m4, .ref m5, .ref m6, .ref m7, .ref m8, .ref m9]))] s.heap := hP
  have hl := lv_entry ([.ref h0, .int p1, .int p2, .int p3, .int p4, .int p5]) (n := 7) (Nat.le_of_ble_eq_true rfl)
  rw [lg_entry_eq]
  generalize (lg_sl ([.ref h0, .int p1, .int p2, .int p3, .int p4, .int p5]) ++ List.replicate (7 - (lg_sl ([.ref h0, .int p1, .int p2, .int p3, .int p4, .int p5])).length) Slot.unset).toArray = ls at hl ⊢
  have hl : lv_has ls 7 [(0, .ref h0), (1, .int p1), (2, .int p2), (3, .int p3), (4, .int p4), (5, .int p5)] := hl
  refine lv_aload_n hx hb dX14_run_0 rfl (lv_at hl 0 rfl) ?_
  refine lv_iconst (v := 0) hx hb dX14_run_1 (by decide) ?_
  refine va_put (D := (dC, dI)) (ci := 14) (v := .int 0) (ty := .int) (C := RX14) (T := TX14) (N := 40) hx hb hts hin_14 tyX14 tyX14_ok nmX14 hown hK hP hD hS 0 rfl rfl 0 (by decide) (hts (.fieldLink RX14 76 "LessonMakerModel" "thrown" "I") (List.mem_of_getElem? (i := 1) rfl)) (fun _ h9 => h9) rfl (by decide +kernel) rfl rfl (Nat.le_of_ble_eq_true rfl) dX14_run_2 (fun H locs hP hD hS => ?_)
  have hP : va_P (dC, dI) z_Cl [(h0, .inr (14, [.int 0, .int 0, .int (-1), .int 0, .ref mp, .ref mq, .ref ms, .int 0, .int 0, .ref mo, .ref mt, .int 0, .int 0, .int 0, .int 0, .int 0, .int 0, .int 0, .int 0, .int 0, .int 0, .long 0, .ref ml, .ref mw, .int 0, .ref m1, .int 0, .int 0, .int 0, .int 0, .ref m2, .ref m3, .int 0, .int 0, .ref m4, .ref m5, .ref m6, .ref m7, .ref m8, .ref m9]))] H := hP
  have hD : va_D A [(h0, .inr (14, [.int 0, .int 0, .int (-1), .int 0, .ref mp, .ref mq, .ref ms, .int 0, .int 0, .ref mo, .ref mt, .int 0, .int 0, .int 0, .int 0, .int 0, .int 0, .int 0, .int 0, .int 0, .int 0, .long 0, .ref ml, .ref mw, .int 0, .ref m1, .int 0, .int 0, .int 0, .int 0, .ref m2, .ref m3, .int 0, .int 0, .ref m4, .ref m5, .ref m6, .ref m7, .ref m8, .ref m9]))] := hD
  refine lv_aload_n hx hb dX14_run_5 rfl (lv_at hl 0 rfl) ?_
  refine lv_iload_n hx hb dX14_run_6 rfl (lv_at hl 1 rfl) ?_
  have hPc := hP.sub (ws' := [(h0, .inr (14, [.int 0, .int 0, .int (-1), .int 0, .ref mp, .ref mq, .ref ms, .int 0, .int 0, .ref mo, .ref mt, .int 0, .int 0, .int 0, .int 0, .int 0, .int 0, .int 0, .int 0, .int 0, .int 0, .long 0, .ref ml, .ref mw, .int 0, .ref m1, .int 0, .int 0, .int 0, .int 0, .ref m2, .ref m3, .int 0, .int 0, .ref m4, .ref m5, .ref m6, .ref m7, .ref m8, .ref m9]))]) [0] rfl
  have hDc := hD.sub (ws' := [(h0, .inr (14, [.int 0, .int 0, .int (-1), .int 0, .ref mp, .ref mq, .ref ms, .int 0, .int 0, .ref mo, .ref mt, .int 0, .int 0, .int 0, .int 0, .int 0, .int 0, .int 0, .int 0, .int 0, .int 0, .long 0, .ref ml, .ref mw, .int 0, .ref m1, .int 0, .int 0, .int 0, .int 0, .ref m2, .ref m3, .int 0, .int 0, .ref m4, .ref m5, .ref m6, .ref m7, .ref m8, .ref m9]))]) [0] (by decide) rfl
  have hKc := hK.sub (tys' := []) [] rfl
  have hFc := va_free (wc := [(h0, .inr (14, [.int 0, .int 0, .int (-1), .int 0, .ref mp, .ref mq, .ref ms, .int 0, .int 0, .ref mo, .ref mt, .int 0, .int 0, .int 0, .int 0, .int 0, .int 0, .int 0, .int 0, .int 0, .int 0, .long 0, .ref ml, .ref mw, .int 0, .ref m1, .int 0, .int 0, .int 0, .int 0, .ref m2, .ref m3, .int 0, .int 0, .ref m4, .ref m5, .ref m6, .ref m7, .ref m8, .ref m9]))]) hD hS hA [0] rfl
  refine va_calli (va_runV (As := [.int p1]) (rest := []) ⟨hx, hb, hml, hown, hts⟩ (c_X14_isFunction l dC dI h0 mp mq ms mo mt ml mw m1 m2 m3 m4 m5 m6 m7 m8 m9 p1 H.size) (cwV 1 hts c_X14_run_zg_1 rfl rfl rfl (by decide +kernel) ⟨(Nat.le_of_ble_eq_true rfl), (Nat.le_of_ble_eq_true rfl)⟩) ⟨z_blind, va_recv hKc hPc (ci := 14) (q0 := 0) rfl rfl, z_pre hPc hKc hDc hN⟩ rfl rfl hl.1 rfl (lv_room (Nat.le_of_ble_eq_true rfl)) dX14_run_7 ⟨(Nat.le_of_ble_eq_true rfl), (Nat.le_of_ble_eq_true rfl)⟩) hS (fun q _ h => hFc q h) hFc (fun r_2 u t H1 locs ht hvm hw hB hz1 hk1 hS => ?_)
  obtain ⟨hP1, hK1, hD1⟩ := hB
  rw [ht] at hP1
  have hK1 := va_K.moved hvm.symm hK1
  obtain ⟨hP, hD⟩ := va_join (wr := []) (w1 := [(h0, .inr (14, [.int 0, .int 0, .int (-1), .int 0, .ref mp, .ref mq, .ref ms, .int 0, .int 0, .ref mo, .ref mt, .int 0, .int 0, .int 0, .int 0, .int 0, .int 0, .int 0, .int 0, .int 0, .int 0, .long 0, .ref ml, .ref mw, .int 0, .ref m1, .int 0, .int 0, .int 0, .int 0, .ref m2, .ref m3, .int 0, .int 0, .ref m4, .ref m5, .ref m6, .ref m7, .ref m8, .ref m9]))]) hP hD [0] [] rfl rfl (by decide) (by decide) hk1 hFc hP1 hD1
  have hK := (hK.sub (tys' := []) [] rfl).app hK1
  generalize H1 = H at hP hS ⊢
  have hP : va_P (dC, dI) z_Cl [(h0, .inr (14, [.int 0, .int 0, .int (-1), .int 0, .ref mp, .ref mq, .ref ms, .int 0, .int 0, .ref mo, .ref mt, .int 0, .int 0, .int 0, .int 0, .int 0, .int 0, .int 0, .int 0, .int 0, .int 0, .long 0, .ref ml, .ref mw, .int 0, .ref m1, .int 0, .int 0, .int 0, .int 0, .ref m2, .ref m3, .int 0, .int 0, .ref m4, .ref m5, .ref m6, .ref m7, .ref m8, .ref m9]))] H := hP
  have hD : va_D A [(h0, .inr (14, [.int 0, .int 0, .int (-1), .int 0, .ref mp, .ref mq, .ref ms, .int 0, .int 0, .ref mo, .ref mt, .int 0, .int 0, .int 0, .int 0, .int 0, .int 0, .int 0, .int 0, .int 0, .int 0, .long 0, .ref ml, .ref mw, .int 0, .ref m1, .int 0, .int 0, .int 0, .int 0, .ref m2, .ref m3, .int 0, .int 0, .ref m4, .ref m5, .ref m6, .ref m7, .ref m8, .ref m9]))] := hD
  have hK : va_K (dC, dI) z_Cl [] s := hK
  have hw : r_2 = 0 := hw
  subst hw
  refine lv_if_ne (tgt := 19) hx hb dX14_run_10 (by decide) (fun h9 => absurd (by decide) h9) (fun _ => ?_)
  refine lv_aload_n hx hb dX14_run_13 rfl (lv_at hl 0 rfl) ?_
  refine lv_iconst (v := 1) hx hb dX14_run_14 (by decide) ?_
  have hPc := hP.sub (ws' := [(h0, .inr (14, [.int 0, .int 0, .int (-1), .int 0, .ref mp, .ref mq, .ref ms, .int 0, .int 0, .ref mo, .ref mt, .int 0, .int 0, .int 0, .int 0, .int 0, .int 0, .int 0, .int 0, .int 0, .int 0, .long 0, .ref ml, .ref mw, .int 0, .ref m1, .int 0, .int 0, .int 0, .int 0, .ref m2, .ref m3, .int 0, .int 0, .ref m4, .ref m5, .ref m6, .ref m7, .ref m8, .ref m9]))]) [0] rfl
  have hDc := hD.sub (ws' := [(h0, .inr (14, [.int 0, .int 0, .int (-1), .int 0, .ref mp, .ref mq, .ref ms, .int 0, .int 0, .ref mo, .ref mt, .int 0, .int 0, .int 0, .int 0, .int 0, .int 0, .int 0, .int 0, .int 0, .int 0, .long 0, .ref ml, .ref mw, .int 0, .ref m1, .int 0, .int 0, .int 0, .int 0, .ref m2, .ref m3, .int 0, .int 0, .ref m4, .ref m5, .ref m6, .ref m7, .ref m8, .ref m9]))]) [0] (by decide) rfl
  have hKc := hK.sub (tys' := []) [] rfl
  have hFc := va_free (wc := [(h0, .inr (14, [.int 0, .int 0, .int (-1), .int 0, .ref mp, .ref mq, .ref ms, .int 0, .int 0, .ref mo, .ref mt, .int 0, .int 0, .int 0, .int 0, .int 0, .int 0, .int 0, .int 0, .int 0, .int 0, .long 0, .ref ml, .ref mw, .int 0, .ref m1, .int 0, .int 0, .int 0, .int 0, .ref m2, .ref m3, .int 0, .int 0, .ref m4, .ref m5, .ref m6, .ref m7, .ref m8, .ref m9]))]) hD hS hA [0] rfl
  refine va_calli (va_runV (As := [.int 1]) (rest := []) ⟨hx, hb, hml, hown, hts⟩ (c_X14_refused l dC dI h0 mp mq ms mo mt ml mw m1 m2 m3 m4 m5 m6 m7 m8 m9 1 H.size) (cwV 1 hts c_X14_run_zg_3 rfl rfl rfl (by decide +kernel) ⟨(Nat.le_of_ble_eq_true rfl), (Nat.le_of_ble_eq_true rfl)⟩) ⟨z_blind, va_recv hKc hPc (ci := 14) (q0 := 0) rfl rfl, z_pre hPc hKc hDc hN⟩ rfl rfl hl.1 rfl (lv_room (Nat.le_of_ble_eq_true rfl)) dX14_run_15 ⟨(Nat.le_of_ble_eq_true rfl), (Nat.le_of_ble_eq_true rfl)⟩) hS (fun q _ h => hFc q h) hFc (fun r_4 u t H1 locs ht hvm hw hB hz1 hk1 hS => ?_)
  obtain ⟨hP1, hK1, hD1⟩ := hB
  rw [ht] at hP1
  have hK1 := va_K.moved hvm.symm hK1
  obtain ⟨hP, hD⟩ := va_join (wr := []) (w1 := []) hP hD [0] [] rfl rfl (by decide) (by decide) hk1 hFc hP1 hD1
  have hK := (hK.sub (tys' := []) [] rfl).app hK1
  generalize H1 = H at hP hS ⊢
  have hP : va_P (dC, dI) z_Cl [] H := hP
  have hD : va_D A [] := hD
  have hK : va_K (dC, dI) z_Cl [] s := hK
  have hw : r_4 = (-1) := hw
  subst hw
  have hP9 := hP.sub (ws' := []) [] rfl
  have hD9 := hD.sub (ws' := []) [] (by decide) rfl
  have hK9 := hK.sub (tys' := []) [] rfl
  refine W.widen (k := 0) (n := 0) (Nat.le_of_ble_eq_true rfl) (Nat.le_of_ble_eq_true rfl) ?_
  exact W.iret (v := (-1)) hx hb hr (fun t ht hW => ⟨⟨(-1), (), rfl, rfl, by rw [ht]; exact hP9, va_K.moved hW.alike hK9, hD9⟩, hS.F ht⟩) hS.2.2 dX14_run_18

def z_wX14_ran : List Cond := .code yX14_ran cX14_ran 2 (some .int) :: ([.fieldLink RX14 76 "LessonMakerModel" "thrown" "I", .fieldLink RX14 330 "LessonMakerModel" "hasRun" "Z", .fieldLink RX14 79 "LessonMakerModel" "trouble" "I", .fieldLink RX14 9 "LessonMakerModel" "where" "I", .methodLink RX14 307 yX14_refused, .instanceMethod yX14_refused, .selects RX14 yX14_refused yX14_refused, .initialized RX14, .code yX14_refused cX14_refused 2 (some .int)] ++ (u_ws RX14 TX14 40))
set_option maxRecDepth 20000 in
theorem c_X14_ran_zg_1 : GoodIn z_wX14_ran (wsV RX14 307 RX14 yX14_refused z_wX14_refused) := goodIn_r _ [5, 6, 7, 8, 9, 3, 4, 10, 11, 12, 13, 14, 15, 16, 17, 18, 19, 20, 21, 22, 23, 24, 25, 26, 27, 28, 29, 30, 31, 32, 33, 34, 35, 36, 37, 38, 39, 40, 41, 42, 43, 44, 45, 46, 47, 48, 49] (by decide +kernel) (by decide +kernel)
set_option maxHeartbeats 4000000 in
set_option maxRecDepth 100000 in
theorem c_X14_ran (l : Launch) (dC : Nat → ClassId) (dI : Nat → Nat → Nat) (h0 : Nat) (mp : Nat) (mq : Nat) (ms : Nat) (mo : Nat) (mt : Nat) (ml : Nat) (mw : Nat) (m1 : Nat) (m2 : Nat) (m3 : Nat) (m4 : Nat) (m5 : Nat) (m6 : Nat) (m7 : Nat) (m8 : Nat) (m9 : Nat) (p1 : Int32) (sz : Nat) : Met l yX14_ran z_wX14_ran ({ frames := 1, cells := 0, slots := 0, locals := 21 }) (va_Pc [.ref h0, .int p1] (z_in dC dI [(h0, .inr (14, [.int 0, .int 0, .int (-1), .int 0, .ref mp, .ref mq, .ref ms, .int 0, .int 0, .ref mo, .ref mt, .int 0, .int 0, .int 0, .int 0, .int 0, .int 0, .int 0, .int 0, .int 0, .int 0, .long 0, .ref ml, .ref mw, .int 0, .ref m1, .int 0, .int 0, .int 0, .int 0, .ref m2, .ref m3, .int 0, .int 0, .ref m4, .ref m5, .ref m6, .ref m7, .ref m8, .ref m9]))] [] sz)) (va_Qi (fun (r : Int32) (_ : Unit) => r = (-1)) (fun (_ : Unit) t => z_out dC dI (va_A [(h0, .inr (14, [.int 0, .int 0, .int (-1), .int 0, .ref mp, .ref mq, .ref ms, .int 0, .int 0, .ref mo, .ref mt, .int 0, .int 0, .int 0, .int 0, .int 0, .int 0, .int 0, .int 0, .int 0, .int 0, .long 0, .ref ml, .ref mw, .int 0, .ref m1, .int 0, .int 0, .int 0, .int 0, .ref m2, .ref m3, .int 0, .int 0, .ref m4, .ref m5, .ref m6, .ref m7, .ref m8, .ref m9]))] sz) [] [] t) (va_A [(h0, .inr (14, [.int 0, .int 0, .int (-1), .int 0, .ref mp, .ref mq, .ref ms, .int 0, .int 0, .ref mo, .ref mt, .int 0, .int 0, .int 0, .int 0, .int 0, .int 0, .int 0, .int 0, .int 0, .int 0, .long 0, .ref ml, .ref mw, .int 0, .ref m1, .int 0, .int 0, .int 0, .int 0, .ref m2, .ref m3, .int 0, .int 0, .ref m4, .ref m5, .ref m6, .ref m7, .ref m8, .ref m9]))] sz)) 0 0 (va_A [(h0, .inr (14, [.int 0, .int 0, .int (-1), .int 0, .ref mp, .ref mq, .ref ms, .int 0, .int 0, .ref mo, .ref mt, .int 0, .int 0, .int 0, .int 0, .int 0, .int 0, .int 0, .int 0, .int 0, .int 0, .long 0, .ref ml, .ref mw, .int 0, .ref m1, .int 0, .int 0, .int 0, .int 0, .ref m2, .ref m3, .int 0, .int 0, .ref m4, .ref m5, .ref m6, .ref m7, .ref m8, .ref m9]))] sz) := by
  refine Met.ofW (cc := cX14_ran) (maxL := 2) (ret := (some .int)) (by decide) rfl ?_
  intro p e s m args below meth c s₁ B hml hv
  obtain ⟨rfl, hsz, hP, hK, hD0, hN⟩ := hv
  have hx := B.exec
  have hb := B.bytes
  have hr := B.returns
  have hts := atoms_spec (ws := z_wX14_ran) B.pre
  have hown : s.vm.findClass RX14 = some m.cls := findClass_of_methodNamed B.named
  have hlocks := B.notSynchronized
  have hin_14 : ∀ w ∈ u_ws RX14 TX14 40, w ∈ z_wX14_ran := by decide +kernel
  subst hsz
  have hD := hD0.self (sz := s.heap.size)
  generalize hAe : va_A [(h0, .inr (14, [.int 0, .int 0, .int (-1), .int 0, .ref mp, .ref mq, .ref ms, .int 0, .int 0, .ref mo, .ref mt, .int 0, .int 0, .int 0, .int 0, .int 0, .int 0, .int 0, .int 0, .int 0, .int 0, .long 0, .ref ml, .ref mw, .int 0, .ref m1, .int 0, .int 0, .int 0, .int 0, .ref m2, .ref m3, .int 0, .int 0, .ref m4, .ref m5, .ref m6, .ref m7, .ref m8, .ref m9]))] s.heap.size = A at hD ⊢
  have hA : ∀ q : Nat, s.heap.size ≤ q → A q := fun q h => by rw [← hAe]; exact Or.inr h
  have hS : va_S A s.heap s.heap [] := va_S.rf
  have hP : va_P (dC, dI) z_Cl [(h0, .inr (14, [.int 0, .int 0, .int (-1), .int 0, .ref mp, .ref mq, .ref ms, .int 0, .int 0, .ref mo, .ref mt, .int 0, .int 0, .int 0, .int 0, .int 0, .int 0, .int 0, .int 0, .int 0, .int 0, .long 0, .ref ml, .ref mw, .int 0, .ref m1, .int 0, .int 0, .int 0, .int 0, .ref m2, .ref m3, .int 0, .int 0, .ref m4, .ref m5, .ref m6, .ref m7, .ref m8, .ref m9]))] s.heap := hP
  have hl := lv_entry ([.ref h0, .int p1]) (n := 2) (Nat.le_of_ble_eq_true rfl)
  rw [lg_entry_eq]
  generalize (lg_sl ([.ref h0, .int p1]) ++ List.replicate (2 - (lg_sl ([.ref h0, .int p1])).length) Slot.unset).toArray = ls at hl ⊢
  have hl : lv_has ls 2 [(0, .ref h0), (1, .int p1)] := hl
  refine lv_aload_n hx hb dX14_ran_0 rfl (lv_at hl 0 rfl) ?_
  refine lv_iconst (v := 0) hx hb dX14_ran_1 (by decide) ?_
  refine va_put (D := (dC, dI)) (ci := 14) (v := .int 0) (ty := .int) (C := RX14) (T := TX14) (N := 40) hx hb hts hin_14 tyX14 tyX14_ok nmX14 hown hK hP hD hS 0 rfl rfl 0 (by decide) (hts (.fieldLink RX14 76 "LessonMakerModel" "thrown" "I") (List.mem_of_getElem? (i := 1) rfl)) (fun _ h9 => h9) rfl (by decide +kernel) rfl rfl (Nat.le_of_ble_eq_true rfl) dX14_ran_2 (fun H locs hP hD hS => ?_)
  have hP : va_P (dC, dI) z_Cl [(h0, .inr (14, [.int 0, .int 0, .int (-1), .int 0, .ref mp, .ref mq, .ref ms, .int 0, .int 0, .ref mo, .ref mt, .int 0, .int 0, .int 0, .int 0, .int 0, .int 0, .int 0, .int 0, .int 0, .int 0, .long 0, .ref ml, .ref mw, .int 0, .ref m1, .int 0, .int 0, .int 0, .int 0, .ref m2, .ref m3, .int 0, .int 0, .ref m4, .ref m5, .ref m6, .ref m7, .ref m8, .ref m9]))] H := hP
  have hD : va_D A [(h0, .inr (14, [.int 0, .int 0, .int (-1), .int 0, .ref mp, .ref mq, .ref ms, .int 0, .int 0, .ref mo, .ref mt, .int 0, .int 0, .int 0, .int 0, .int 0, .int 0, .int 0, .int 0, .int 0, .int 0, .long 0, .ref ml, .ref mw, .int 0, .ref m1, .int 0, .int 0, .int 0, .int 0, .ref m2, .ref m3, .int 0, .int 0, .ref m4, .ref m5, .ref m6, .ref m7, .ref m8, .ref m9]))] := hD
  refine lv_aload_n hx hb dX14_ran_5 rfl (lv_at hl 0 rfl) ?_
  refine va_get (D := (dC, dI)) (ci := 14) (v := .int 0) (C := RX14) (T := TX14) (N := 40) hx hb hts hin_14 hown hK hP 0 rfl rfl 24 (by decide) (hts (.fieldLink RX14 330 "LessonMakerModel" "hasRun" "Z") (List.mem_of_getElem? (i := 2) rfl)) (fun _ h9 => h9) rfl dX14_ran_6 ?_
  refine lv_if_ne (tgt := 18) hx hb dX14_ran_9 (by decide) (fun h9 => absurd (by decide) h9) (fun _ => ?_)
  refine lv_aload_n hx hb dX14_ran_12 rfl (lv_at hl 0 rfl) ?_
  refine lv_iconst (v := 5) hx hb dX14_ran_13 (by decide) ?_
  have hPc := hP.sub (ws' := [(h0, .inr (14, [.int 0, .int 0, .int (-1), .int 0, .ref mp, .ref mq, .ref ms, .int 0, .int 0, .ref mo, .ref mt, .int 0, .int 0, .int 0, .int 0, .int 0, .int 0, .int 0, .int 0, .int 0, .int 0, .long 0, .ref ml, .ref mw, .int 0, .ref m1, .int 0, .int 0, .int 0, .int 0, .ref m2, .ref m3, .int 0, .int 0, .ref m4, .ref m5, .ref m6, .ref m7, .ref m8, .ref m9]))]) [0] rfl
  have hDc := hD.sub (ws' := [(h0, .inr (14, [.int 0, .int 0, .int (-1), .int 0, .ref mp, .ref mq, .ref ms, .int 0, .int 0, .ref mo, .ref mt, .int 0, .int 0, .int 0, .int 0, .int 0, .int 0, .int 0, .int 0, .int 0, .int 0, .long 0, .ref ml, .ref mw, .int 0, .ref m1, .int 0, .int 0, .int 0, .int 0, .ref m2, .ref m3, .int 0, .int 0, .ref m4, .ref m5, .ref m6, .ref m7, .ref m8, .ref m9]))]) [0] (by decide) rfl
  have hKc := hK.sub (tys' := []) [] rfl
  have hFc := va_free (wc := [(h0, .inr (14, [.int 0, .int 0, .int (-1), .int 0, .ref mp, .ref mq, .ref ms, .int 0, .int 0, .ref mo, .ref mt, .int 0, .int 0, .int 0, .int 0, .int 0, .int 0, .int 0, .int 0, .int 0, .int 0, .long 0, .ref ml, .ref mw, .int 0, .ref m1, .int 0, .int 0, .int 0, .int 0, .ref m2, .ref m3, .int 0, .int 0, .ref m4, .ref m5, .ref m6, .ref m7, .ref m8, .ref m9]))]) hD hS hA [0] rfl
  refine va_calli (va_runV (As := [.int 5]) (rest := []) ⟨hx, hb, hml, hown, hts⟩ (c_X14_refused l dC dI h0 mp mq ms mo mt ml mw m1 m2 m3 m4 m5 m6 m7 m8 m9 5 H.size) (cwV 1 hts c_X14_ran_zg_1 rfl rfl rfl (by decide +kernel) ⟨(Nat.le_of_ble_eq_true rfl), (Nat.le_of_ble_eq_true rfl)⟩) ⟨z_blind, va_recv hKc hPc (ci := 14) (q0 := 0) rfl rfl, z_pre hPc hKc hDc hN⟩ rfl rfl hl.1 rfl (lv_room (Nat.le_of_ble_eq_true rfl)) dX14_ran_14 ⟨(Nat.le_of_ble_eq_true rfl), (Nat.le_of_ble_eq_true rfl)⟩) hS (fun q _ h => hFc q h) hFc (fun r_2 u t H1 locs ht hvm hw hB hz1 hk1 hS => ?_)
  obtain ⟨hP1, hK1, hD1⟩ := hB
  rw [ht] at hP1
  have hK1 := va_K.moved hvm.symm hK1
  obtain ⟨hP, hD⟩ := va_join (wr := []) (w1 := []) hP hD [0] [] rfl rfl (by decide) (by decide) hk1 hFc hP1 hD1
  have hK := (hK.sub (tys' := []) [] rfl).app hK1
  generalize H1 = H at hP hS ⊢
  have hP : va_P (dC, dI) z_Cl [] H := hP
  have hD : va_D A [] := hD
  have hK : va_K (dC, dI) z_Cl [] s := hK
  have hw : r_2 = (-1) := hw
  subst hw
  have hP9 := hP.sub (ws' := []) [] rfl
  have hD9 := hD.sub (ws' := []) [] (by decide) rfl
  have hK9 := hK.sub (tys' := []) [] rfl
  refine W.widen (k := 0) (n := 0) (Nat.le_of_ble_eq_true rfl) (Nat.le_of_ble_eq_true rfl) ?_
  exact W.iret (v := (-1)) hx hb hr (fun t ht hW => ⟨⟨(-1), (), rfl, rfl, by rw [ht]; exact hP9, va_K.moved hW.alike hK9, hD9⟩, hS.F ht⟩) hS.2.2 dX14_ran_17

def z_wX14_covered : List Cond := .code yX14_covered cX14_covered 2 (some .int) :: ([.fieldLink RX14 76 "LessonMakerModel" "thrown" "I", .fieldLink RX14 330 "LessonMakerModel" "hasRun" "Z"] ++ (u_ws RX14 TX14 40))
set_option maxHeartbeats 4000000 in
set_option maxRecDepth 100000 in
theorem c_X14_covered (l : Launch) (dC : Nat → ClassId) (dI : Nat → Nat → Nat) (h0 : Nat) (mp : Nat) (mq : Nat) (ms : Nat) (mo : Nat) (mt : Nat) (ml : Nat) (mw : Nat) (m1 : Nat) (m2 : Nat) (m3 : Nat) (m4 : Nat) (m5 : Nat) (m6 : Nat) (m7 : Nat) (m8 : Nat) (m9 : Nat) (p1 : Int32) (sz : Nat) : Met l yX14_covered z_wX14_covered ({ frames := 0, cells := 0, slots := 0, locals := 0 }) (va_Pc [.ref h0, .int p1] (z_in dC dI [(h0, .inr (14, [.int 0, .int 0, .int (-1), .int 0, .ref mp, .ref mq, .ref ms, .int 0, .int 0, .ref mo, .ref mt, .int 0, .int 0, .int 0, .int 0, .int 0, .int 0, .int 0, .int 0, .int 0, .int 0, .long 0, .ref ml, .ref mw, .int 0, .ref m1, .int 0, .int 0, .int 0, .int 0, .ref m2, .ref m3, .int 0, .int 0, .ref m4, .ref m5, .ref m6, .ref m7, .ref m8, .ref m9]))] [] sz)) (va_Qi (fun (r : Int32) (_ : Unit) => r = (-1)) (fun (_ : Unit) t => z_out dC dI (va_A [(h0, .inr (14, [.int 0, .int 0, .int (-1), .int 0, .ref mp, .ref mq, .ref ms, .int 0, .int 0, .ref mo, .ref mt, .int 0, .int 0, .int 0, .int 0, .int 0, .int 0, .int 0, .int 0, .int 0, .int 0, .long 0, .ref ml, .ref mw, .int 0, .ref m1, .int 0, .int 0, .int 0, .int 0, .ref m2, .ref m3, .int 0, .int 0, .ref m4, .ref m5, .ref m6, .ref m7, .ref m8, .ref m9]))] sz) [] [] t) (va_A [(h0, .inr (14, [.int 0, .int 0, .int (-1), .int 0, .ref mp, .ref mq, .ref ms, .int 0, .int 0, .ref mo, .ref mt, .int 0, .int 0, .int 0, .int 0, .int 0, .int 0, .int 0, .int 0, .int 0, .int 0, .long 0, .ref ml, .ref mw, .int 0, .ref m1, .int 0, .int 0, .int 0, .int 0, .ref m2, .ref m3, .int 0, .int 0, .ref m4, .ref m5, .ref m6, .ref m7, .ref m8, .ref m9]))] sz)) 0 0 (va_A [(h0, .inr (14, [.int 0, .int 0, .int (-1), .int 0, .ref mp, .ref mq, .ref ms, .int 0, .int 0, .ref mo, .ref mt, .int 0, .int 0, .int 0, .int 0, .int 0, .int 0, .int 0, .int 0, .int 0, .int 0, .long 0, .ref ml, .ref mw, .int 0, .ref m1, .int 0, .int 0, .int 0, .int 0, .ref m2, .ref m3, .int 0, .int 0, .ref m4, .ref m5, .ref m6, .ref m7, .ref m8, .ref m9]))] sz) := by
  refine Met.ofW (cc := cX14_covered) (maxL := 2) (ret := (some .int)) (by decide) rfl ?_
  intro p e s m args below meth c s₁ B hml hv
  obtain ⟨rfl, hsz, hP, hK, hD0, hN⟩ := hv
  have hx := B.exec
  have hb := B.bytes
  have hr := B.returns
  have hts := atoms_spec (ws := z_wX14_covered) B.pre
  have hown : s.vm.findClass RX14 = some m.cls := findClass_of_methodNamed B.named
  have hlocks := B.notSynchronized
  have hin_14 : ∀ w ∈ u_ws RX14 TX14 40, w ∈ z_wX14_covered := by decide +kernel
  subst hsz
  have hD := hD0.self (sz := s.heap.size)
  generalize hAe : va_A [(h0, .inr (14, [.int 0, .int 0, .int (-1), .int 0, .ref mp, .ref mq, .ref ms, .int 0, .int 0, .ref mo, .ref mt, .int 0, .int 0, .int 0, .int 0, .int 0, .int 0, .int 0, .int 0, .int 0, .int 0, .long 0, .ref ml, .ref mw, .int 0, .ref m1, .int 0, .int 0, .int 0, .int 0, .ref m2, .ref m3, .int 0, .int 0, .ref m4, .ref m5, .ref m6, .ref m7, .ref m8, .ref m9]))] s.heap.size = A at hD ⊢
  have hA : ∀ q : Nat, s.heap.size ≤ q → A q := fun q h => by rw [← hAe]; exact Or.inr h
  have hS : va_S A s.heap s.heap [] := va_S.rf
  have hP : va_P (dC, dI) z_Cl [(h0, .inr (14, [.int 0, .int 0, .int (-1), .int 0, .ref mp, .ref mq, .ref ms, .int 0, .int 0, .ref mo, .ref mt, .int 0, .int 0, .int 0, .int 0, .int 0, .int 0, .int 0, .int 0, .int 0, .int 0, .long 0, .ref ml, .ref mw, .int 0, .ref m1, .int 0, .int 0, .int 0, .int 0, .ref m2, .ref m3, .int 0, .int 0, .ref m4, .ref m5, .ref m6, .ref m7, .ref m8, .ref m9]))] s.heap := hP
  have hl := lv_entry ([.ref h0, .int p1]) (n := 2) (Nat.le_of_ble_eq_true rfl)
  rw [lg_entry_eq]
  generalize (lg_sl ([.ref h0, .int p1]) ++ List.replicate (2 - (lg_sl ([.ref h0, .int p1])).length) Slot.unset).toArray = ls at hl ⊢
  have hl : lv_has ls 2 [(0, .ref h0), (1, .int p1)] := hl
  refine lv_aload_n hx hb dX14_covered_0 rfl (lv_at hl 0 rfl) ?_
  refine lv_iconst (v := 0) hx hb dX14_covered_1 (by decide) ?_
  refine va_put (D := (dC, dI)) (ci := 14) (v := .int 0) (ty := .int) (C := RX14) (T := TX14) (N := 40) hx hb hts hin_14 tyX14 tyX14_ok nmX14 hown hK hP hD hS 0 rfl rfl 0 (by decide) (hts (.fieldLink RX14 76 "LessonMakerModel" "thrown" "I") (List.mem_of_getElem? (i := 1) rfl)) (fun _ h9 => h9) rfl (by decide +kernel) rfl rfl (Nat.le_of_ble_eq_true rfl) dX14_covered_2 (fun H locs hP hD hS => ?_)
  have hP : va_P (dC, dI) z_Cl [(h0, .inr (14, [.int 0, .int 0, .int (-1), .int 0, .ref mp, .ref mq, .ref ms, .int 0, .int 0, .ref mo, .ref mt, .int 0, .int 0, .int 0, .int 0, .int 0, .int 0, .int 0, .int 0, .int 0, .int 0, .long 0, .ref ml, .ref mw, .int 0, .ref m1, .int 0, .int 0, .int 0, .int 0, .ref m2, .ref m3, .int 0, .int 0, .ref m4, .ref m5, .ref m6, .ref m7, .ref m8, .ref m9]))] H := hP
  have hD : va_D A [(h0, .inr (14, [.int 0, .int 0, .int (-1), .int 0, .ref mp, .ref mq, .ref ms, .int 0, .int 0, .ref mo, .ref mt, .int 0, .int 0, .int 0, .int 0, .int 0, .int 0, .int 0, .int 0, .int 0, .int 0, .long 0, .ref ml, .ref mw, .int 0, .ref m1, .int 0, .int 0, .int 0, .int 0, .ref m2, .ref m3, .int 0, .int 0, .ref m4, .ref m5, .ref m6, .ref m7, .ref m8, .ref m9]))] := hD
  refine lv_aload_n hx hb dX14_covered_5 rfl (lv_at hl 0 rfl) ?_
  refine va_get (D := (dC, dI)) (ci := 14) (v := .int 0) (C := RX14) (T := TX14) (N := 40) hx hb hts hin_14 hown hK hP 0 rfl rfl 24 (by decide) (hts (.fieldLink RX14 330 "LessonMakerModel" "hasRun" "Z") (List.mem_of_getElem? (i := 2) rfl)) (fun _ h9 => h9) rfl dX14_covered_6 ?_
  refine lv_if_eq (tgt := 35) hx hb dX14_covered_9 (by decide) (fun _ => ?_) (fun h9 => absurd (by decide) h9)
  refine lv_iconst (v := (-1)) hx hb dX14_covered_35 (by decide) ?_
  have hP9 := hP.sub (ws' := []) [] rfl
  have hD9 := hD.sub (ws' := []) [] (by decide) rfl
  have hK9 := hK.sub (tys' := []) [] rfl
  refine W.widen (k := 0) (n := 0) (Nat.le_of_ble_eq_true rfl) (Nat.le_of_ble_eq_true rfl) ?_
  exact W.iret (v := (-1)) hx hb hr (fun t ht hW => ⟨⟨(-1), (), rfl, rfl, by rw [ht]; exact hP9, va_K.moved hW.alike hK9, hD9⟩, hS.F ht⟩) hS.2.2 dX14_covered_36

def z_wX14_place : List Cond := .code yX14_place cX14_place 2 (some .int) :: ([.fieldLink RX14 76 "LessonMakerModel" "thrown" "I", .fieldLink RX14 330 "LessonMakerModel" "hasRun" "Z", .fieldLink RX14 79 "LessonMakerModel" "trouble" "I", .fieldLink RX14 9 "LessonMakerModel" "where" "I", .methodLink RX14 307 yX14_refused, .instanceMethod yX14_refused, .selects RX14 yX14_refused yX14_refused, .initialized RX14, .code yX14_refused cX14_refused 2 (some .int)] ++ (u_ws RX14 TX14 40))
set_option maxRecDepth 20000 in
theorem c_X14_place_zg_1 : GoodIn z_wX14_place (wsV RX14 307 RX14 yX14_refused z_wX14_refused) := goodIn_r _ [5, 6, 7, 8, 9, 3, 4, 10, 11, 12, 13, 14, 15, 16, 17, 18, 19, 20, 21, 22, 23, 24, 25, 26, 27, 28, 29, 30, 31, 32, 33, 34, 35, 36, 37, 38, 39, 40, 41, 42, 43, 44, 45, 46, 47, 48, 49] (by decide +kernel) (by decide +kernel)
set_option maxHeartbeats 4000000 in
set_option maxRecDepth 100000 in
theorem c_X14_place (l : Launch) (dC : Nat → ClassId) (dI : Nat → Nat → Nat) (h0 : Nat) (mp : Nat) (mq : Nat) (ms : Nat) (mo : Nat) (mt : Nat) (ml : Nat) (mw : Nat) (m1 : Nat) (m2 : Nat) (m3 : Nat) (m4 : Nat) (m5 : Nat) (m6 : Nat) (m7 : Nat) (m8 : Nat) (m9 : Nat) (p1 : Int32) (sz : Nat) : Met l yX14_place z_wX14_place ({ frames := 1, cells := 0, slots := 0, locals := 21 }) (va_Pc [.ref h0, .int p1] (z_in dC dI [(h0, .inr (14, [.int 0, .int 0, .int (-1), .int 0, .ref mp, .ref mq, .ref ms, .int 0, .int 0, .ref mo, .ref mt, .int 0, .int 0, .int 0, .int 0, .int 0, .int 0, .int 0, .int 0, .int 0, .int 0, .long 0, .ref ml, .ref mw, .int 0, .ref m1, .int 0, .int 0, .int 0, .int 0, .ref m2, .ref m3, .int 0, .int 0, .ref m4, .ref m5, .ref m6, .ref m7, .ref m8, .ref m9]))] [] sz)) (va_Qi (fun (r : Int32) (_ : Unit) => r = (-1)) (fun (_ : Unit) t => z_out dC dI (va_A [(h0, .inr (14, [.int 0, .int 0, .int (-1), .int 0, .ref mp, .ref mq, .ref ms, .int 0, .int 0, .ref mo, .ref mt, .int 0, .int 0, .int 0, .int 0, .int 0, .int 0, .int 0, .int 0, .int 0, .int 0, .long 0, .ref ml, .ref mw, .int 0, .ref m1, .int 0, .int 0, .int 0, .int 0, .ref m2, .ref m3, .int 0, .int 0, .ref m4, .ref m5, .ref m6, .ref m7, .ref m8, .ref m9]))] sz) [] [] t) (va_A [(h0, .inr (14, [.int 0, .int 0, .int (-1), .int 0, .ref mp, .ref mq, .ref ms, .int 0, .int 0, .ref mo, .ref mt, .int 0, .int 0, .int 0, .int 0, .int 0, .int 0, .int 0, .int 0, .int 0, .int 0, .long 0, .ref ml, .ref mw, .int 0, .ref m1, .int 0, .int 0, .int 0, .int 0, .ref m2, .ref m3, .int 0, .int 0, .ref m4, .ref m5, .ref m6, .ref m7, .ref m8, .ref m9]))] sz)) 0 0 (va_A [(h0, .inr (14, [.int 0, .int 0, .int (-1), .int 0, .ref mp, .ref mq, .ref ms, .int 0, .int 0, .ref mo, .ref mt, .int 0, .int 0, .int 0, .int 0, .int 0, .int 0, .int 0, .int 0, .int 0, .int 0, .long 0, .ref ml, .ref mw, .int 0, .ref m1, .int 0, .int 0, .int 0, .int 0, .ref m2, .ref m3, .int 0, .int 0, .ref m4, .ref m5, .ref m6, .ref m7, .ref m8, .ref m9]))] sz) := by
  refine Met.ofW (cc := cX14_place) (maxL := 2) (ret := (some .int)) (by decide) rfl ?_
  intro p e s m args below meth c s₁ B hml hv
  obtain ⟨rfl, hsz, hP, hK, hD0, hN⟩ := hv
  have hx := B.exec
  have hb := B.bytes
  have hr := B.returns
  have hts := atoms_spec (ws := z_wX14_place) B.pre
  have hown : s.vm.findClass RX14 = some m.cls := findClass_of_methodNamed B.named
  have hlocks := B.notSynchronized
  have hin_14 : ∀ w ∈ u_ws RX14 TX14 40, w ∈ z_wX14_place := by decide +kernel
  subst hsz
  have hD := hD0.self (sz := s.heap.size)
  generalize hAe : va_A [(h0, .inr (14, [.int 0, .int 0, .int (-1), .int 0, .ref mp, .ref mq, .ref ms, .int 0, .int 0, .ref mo, .ref mt, .int 0, .int 0, .int 0, .int 0, .int 0, .int 0, .int 0, .int 0, .int 0, .int 0, .long 0, .ref ml, .ref mw, .int 0, .ref m1, .int 0, .int 0, .int 0, .int 0, .ref m2, .ref m3, .int 0, .int 0, .ref m4, .ref m5, .ref m6, .ref m7, .ref m8, .ref m9]))] s.heap.size = A at hD ⊢
  have hA : ∀ q : Nat, s.heap.size ≤ q → A q := fun q h => by rw [← hAe]; exact Or.inr h
  have hS : va_S A s.heap s.heap [] := va_S.rf
  have hP : va_P (dC, dI) z_Cl [(h0, .inr (14, [.int 0, .int 0, .int (-1), .int 0, .ref mp, .ref mq, .ref ms, .int 0, .int 0, .ref mo, .ref mt, .int 0, .int 0, .int 0, .int 0, .int 0, .int 0, .int 0, .int 0, .int 0, .int 0, .long 0, .ref ml, .ref mw, .int 0, .ref m1, .int 0, .int 0, .int 0, .int 0, .ref m2, .ref m3, .int 0, .int 0, .ref m4, .ref m5, .ref m6, .ref m7, .ref m8, .ref m9]))] s.heap := hP
  have hl := lv_entry ([.ref h0, .int p1]) (n := 2) (Nat.le_of_ble_eq_true rfl)
  rw [lg_entry_eq]
  generalize (lg_sl ([.ref h0, .int p1]) ++ List.replicate (2 - (lg_sl ([.ref h0, .int p1])).length) Slot.unset).toArray = ls at hl ⊢
  have hl : lv_has ls 2 [(0, .ref h0), (1, .int p1)] := hl
  refine lv_aload_n hx hb dX14_place_0 rfl (lv_at hl 0 rfl) ?_
  refine lv_iconst (v := 0) hx hb dX14_place_1 (by decide) ?_
  refine va_put (D := (dC, dI)) (ci := 14) (v := .int 0) (ty := .int) (C := RX14) (T := TX14) (N := 40) hx hb hts hin_14 tyX14 tyX14_ok nmX14 hown hK hP hD hS 0 rfl rfl 0 (by decide) (hts (.fieldLink RX14 76 "LessonMakerModel" "thrown" "I") (List.mem_of_getElem? (i := 1) rfl)) (fun _ h9 => h9) rfl (by decide +kernel) rfl rfl (Nat.le_of_ble_eq_true rfl) dX14_place_2 (fun H locs hP hD hS => ?_)
  have hP : va_P (dC, dI) z_Cl [(h0, .inr (14, [.int 0, .int 0, .int (-1), .int 0, .ref mp, .ref mq, .ref ms, .int 0, .int 0, .ref mo, .ref mt, .int 0, .int 0, .int 0, .int 0, .int 0, .int 0, .int 0, .int 0, .int 0, .int 0, .long 0, .ref ml, .ref mw, .int 0, .ref m1, .int 0, .int 0, .int 0, .int 0, .ref m2, .ref m3, .int 0, .int 0, .ref m4, .ref m5, .ref m6, .ref m7, .ref m8, .ref m9]))] H := hP
  have hD : va_D A [(h0, .inr (14, [.int 0, .int 0, .int (-1), .int 0, .ref mp, .ref mq, .ref ms, .int 0, .int 0, .ref mo, .ref mt, .int 0, .int 0, .int 0, .int 0, .int 0, .int 0, .int 0, .int 0, .int 0, .int 0, .long 0, .ref ml, .ref mw, .int 0, .ref m1, .int 0, .int 0, .int 0, .int 0, .ref m2, .ref m3, .int 0, .int 0, .ref m4, .ref m5, .ref m6, .ref m7, .ref m8, .ref m9]))] := hD
  refine lv_aload_n hx hb dX14_place_5 rfl (lv_at hl 0 rfl) ?_
  refine va_get (D := (dC, dI)) (ci := 14) (v := .int 0) (C := RX14) (T := TX14) (N := 40) hx hb hts hin_14 hown hK hP 0 rfl rfl 24 (by decide) (hts (.fieldLink RX14 330 "LessonMakerModel" "hasRun" "Z") (List.mem_of_getElem? (i := 2) rfl)) (fun _ h9 => h9) rfl dX14_place_6 ?_
  refine lv_if_ne (tgt := 18) hx hb dX14_place_9 (by decide) (fun h9 => absurd (by decide) h9) (fun _ => ?_)
  refine lv_aload_n hx hb dX14_place_12 rfl (lv_at hl 0 rfl) ?_
  refine lv_iconst (v := 5) hx hb dX14_place_13 (by decide) ?_
  have hPc := hP.sub (ws' := [(h0, .inr (14, [.int 0, .int 0, .int (-1), .int 0, .ref mp, .ref mq, .ref ms, .int 0, .int 0, .ref mo, .ref mt, .int 0, .int 0, .int 0, .int 0, .int 0, .int 0, .int 0, .int 0, .int 0, .int 0, .long 0, .ref ml, .ref mw, .int 0, .ref m1, .int 0, .int 0, .int 0, .int 0, .ref m2, .ref m3, .int 0, .int 0, .ref m4, .ref m5, .ref m6, .ref m7, .ref m8, .ref m9]))]) [0] rfl
  have hDc := hD.sub (ws' := [(h0, .inr (14, [.int 0, .int 0, .int (-1), .int 0, .ref mp, .ref mq, .ref ms, .int 0, .int 0, .ref mo, .ref mt, .int 0, .int 0, .int 0, .int 0, .int 0, .int 0, .int 0, .int 0, .int 0, .int 0, .long 0, .ref ml, .ref mw, .int 0, .ref m1, .int 0, .int 0, .int 0, .int 0, .ref m2, .ref m3, .int 0, .int 0, .ref m4, .ref m5, .ref m6, .ref m7, .ref m8, .ref m9]))]) [0] (by decide) rfl
  have hKc := hK.sub (tys' := []) [] rfl
  have hFc := va_free (wc := [(h0, .inr (14, [.int 0, .int 0, .int (-1), .int 0, .ref mp, .ref mq, .ref ms, .int 0, .int 0, .ref mo, .ref mt, .int 0, .int 0, .int 0, .int 0, .int 0, .int 0, .int 0, .int 0, .int 0, .int 0, .long 0, .ref ml, .ref mw, .int 0, .ref m1, .int 0, .int 0, .int 0, .int 0, .ref m2, .ref m3, .int 0, .int 0, .ref m4, .ref m5, .ref m6, .ref m7, .ref m8, .ref m9]))]) hD hS hA [0] rfl
  refine va_calli (va_runV (As := [.int 5]) (rest := []) ⟨hx, hb, hml, hown, hts⟩ (c_X14_refused l dC dI h0 mp mq ms mo mt ml mw m1 m2 m3 m4 m5 m6 m7 m8 m9 5 H.size) (cwV 1 hts c_X14_place_zg_1 rfl rfl rfl (by decide +kernel) ⟨(Nat.le_of_ble_eq_true rfl), (Nat.le_of_ble_eq_true rfl)⟩) ⟨z_blind, va_recv hKc hPc (ci := 14) (q0 := 0) rfl rfl, z_pre hPc hKc hDc hN⟩ rfl rfl hl.1 rfl (lv_room (Nat.le_of_ble_eq_true rfl)) dX14_place_14 ⟨(Nat.le_of_ble_eq_true rfl), (Nat.le_of_ble_eq_true rfl)⟩) hS (fun q _ h => hFc q h) hFc (fun r_2 u t H1 locs ht hvm hw hB hz1 hk1 hS => ?_)
  obtain ⟨hP1, hK1, hD1⟩ := hB
  rw [ht] at hP1
  have hK1 := va_K.moved hvm.symm hK1
  obtain ⟨hP, hD⟩ := va_join (wr := []) (w1 := []) hP hD [0] [] rfl rfl (by decide) (by decide) hk1 hFc hP1 hD1
  have hK := (hK.sub (tys' := []) [] rfl).app hK1
  generalize H1 = H at hP hS ⊢
  have hP : va_P (dC, dI) z_Cl [] H := hP
  have hD : va_D A [] := hD
  have hK : va_K (dC, dI) z_Cl [] s := hK
  have hw : r_2 = (-1) := hw
  subst hw
  have hP9 := hP.sub (ws' := []) [] rfl
  have hD9 := hD.sub (ws' := []) [] (by decide) rfl
  have hK9 := hK.sub (tys' := []) [] rfl
  refine W.widen (k := 0) (n := 0) (Nat.le_of_ble_eq_true rfl) (Nat.le_of_ble_eq_true rfl) ?_
  exact W.iret (v := (-1)) hx hb hr (fun t ht hW => ⟨⟨(-1), (), rfl, rfl, by rw [ht]; exact hP9, va_K.moved hW.alike hK9, hD9⟩, hS.F ht⟩) hS.2.2 dX14_place_17

def z_wX14_wrong : List Cond := .code yX14_wrong cX14_wrong 6 (some .int) :: ([.fieldLink RX14 76 "LessonMakerModel" "thrown" "I", .fieldLink RX14 318 "LessonMakerModel" "is" "Z", .methodLink RX14 336 yX14_isFunction, .instanceMethod yX14_isFunction, .selects RX14 yX14_isFunction yX14_isFunction, .initialized RX14, .code yX14_isFunction cX14_isFunction 2 (some .boolean), .fieldLink RX14 79 "LessonMakerModel" "trouble" "I", .fieldLink RX14 9 "LessonMakerModel" "where" "I", .methodLink RX14 307 yX14_refused, .instanceMethod yX14_refused, .selects RX14 yX14_refused yX14_refused, .code yX14_refused cX14_refused 2 (some .int)] ++ (u_ws RX14 TX14 40))
set_option maxRecDepth 20000 in
theorem c_X14_wrong_zg_1 : GoodIn z_wX14_wrong (wsV RX14 336 RX14 yX14_isFunction z_wX14_isFunction) := goodIn_r _ [3, 4, 5, 6, 7, 2, 14, 15, 16, 17, 18, 19, 20, 21, 22, 23, 24, 25, 26, 27, 28, 29, 30, 31, 32, 33, 34, 35, 36, 37, 38, 39, 40, 41, 42, 43, 44, 45, 46, 47, 48, 49, 50, 51, 52, 53] (by decide +kernel) (by decide +kernel)
set_option maxRecDepth 20000 in
theorem c_X14_wrong_zg_3 : GoodIn z_wX14_wrong (wsV RX14 307 RX14 yX14_refused z_wX14_refused) := goodIn_r _ [10, 11, 12, 6, 13, 8, 9, 14, 15, 16, 17, 18, 19, 20, 21, 22, 23, 24, 25, 26, 27, 28, 29, 30, 31, 32, 33, 34, 35, 36, 37, 38, 39, 40, 41, 42, 43, 44, 45, 46, 47, 48, 49, 50, 51, 52, 53] (by decide +kernel) (by decide +kernel)
set_option maxHeartbeats 4000000 in
set_option maxRecDepth 100000 in
theorem c_X14_wrong (l : Launch) (dC : Nat → ClassId) (dI : Nat → Nat → Nat) (h0 : Nat) (mp : Nat) (mq : Nat) (ms : Nat) (mo : Nat) (mt : Nat) (ml : Nat) (mw : Nat) (m1 : Nat) (m2 : Nat) (m3 : Nat) (m4 : Nat) (m5 : Nat) (m6 : Nat) (m7 : Nat) (m8 : Nat) (m9 : Nat) (p1 : Int32) (p2 : Int32) (p3 : Int32) (p4 : Int32) (p5 : Int32) (sz : Nat) : Met l yX14_wrong z_wX14_wrong ({ frames := 1, cells := 0, slots := 0, locals := 21 }) (va_Pc [.ref h0, .int p1, .int p2, .int p3, .int p4, .int p5] (z_in dC dI [(h0, .inr (14, [.int 0, .int 0, .int (-1), .int 0, .ref mp, .ref mq, .ref ms, .int 0, .int 0, .ref mo, .ref mt, .int 0, .int 0, .int 0, .int 0, .int 0, .int 0, .int 0, .int 0, .int 0, .int 0, .long 0, .ref ml, .ref mw, .int 0, .ref m1, .int 0, .int 0, .int 0, .int 0, .ref m2, .ref m3, .int 0, .int 0, .ref m4, .ref m5, .ref m6, .ref m7, .ref m8, .ref m9]))] [] sz)) (va_Qi (fun (r : Int32) (_ : Unit) => r = (-1)) (fun (_ : Unit) t => z_out dC dI (va_A [(h0, .inr (14, [.int 0, .int 0, .int (-1), .int 0, .ref mp, .ref mq, .ref ms, .int 0, .int 0, .ref mo, .ref mt, .int 0, .int 0, .int 0, .int 0, .int 0, .int 0, .int 0, .int 0, .int 0, .int 0, .long 0, .ref ml, .ref mw, .int 0, .ref m1, .int 0, .int 0, .int 0, .int 0, .ref m2, .ref m3, .int 0, .int 0, .ref m4, .ref m5, .ref m6, .ref m7, .ref m8, .ref m9]))] sz) [] [] t) (va_A [(h0, .inr (14, [.int 0, .int 0, .int (-1), .int 0, .ref mp, .ref mq, .ref ms, .int 0, .int 0, .ref mo, .ref mt, .int 0, .int 0, .int 0, .int 0, .int 0, .int 0, .int 0, .int 0, .int 0, .int 0, .long 0, .ref ml, .ref mw, .int 0, .ref m1, .int 0, .int 0, .int 0, .int 0, .ref m2, .ref m3, .int 0, .int 0, .ref m4, .ref m5, .ref m6, .ref m7, .ref m8, .ref m9]))] sz)) 0 0 (va_A [(h0, .inr (14, [.int 0, .int 0, .int (-1), .int 0, .ref mp, .ref mq, .ref ms, .int 0, .int 0, .ref mo, .ref mt, .int 0, .int 0, .int 0, .int 0, .int 0, .int 0, .int 0, .int 0, .int 0, .int 0, .long 0, .ref ml, .ref mw, .int 0, .ref m1, .int 0, .int 0, .int 0, .int 0, .ref m2, .ref m3, .int 0, .int 0, .ref m4, .ref m5, .ref m6, .ref m7, .ref m8, .ref m9]))] sz) := by
  refine Met.ofW (cc := cX14_wrong) (maxL := 6) (ret := (some .int)) (by decide) rfl ?_
  intro p e s m args below meth c s₁ B hml hv
  obtain ⟨rfl, hsz, hP, hK, hD0, hN⟩ := hv
  have hx := B.exec
  have hb := B.bytes
  have hr := B.returns
  have hts := atoms_spec (ws := z_wX14_wrong) B.pre
  have hown : s.vm.findClass RX14 = some m.cls := findClass_of_methodNamed B.named
  have hlocks := B.notSynchronized
  have hin_14 : ∀ w ∈ u_ws RX14 TX14 40, w ∈ z_wX14_wrong := by decide +kernel
  subst hsz
  have hD := hD0.self (sz := s.heap.size)
  generalize hAe : va_A [(h0, .inr (14, [.int 0, .int 0, .int (-1), .int 0, .ref mp, .ref mq, .ref ms, .int 0, .int 0, .ref mo, .ref mt, .int 0, .int 0, .int 0, .int 0, .int 0, .int 0, .int 0, .int 0, .int 0, .int 0, .long 0, .ref ml, .ref mw, .int 0, .ref m1, .int 0, .int 0, .int 0, .int 0, .ref m2, .ref m3, .int 0, .int 0, .ref m4, .ref m5, .ref m6, .ref m7, .ref m8, .ref m9]))] s.heap.size = A at hD ⊢
  have hA : ∀ q : Nat, s.heap.size ≤ q → A q := fun q h => by rw [← hAe]; exact Or.inr h
  have hS : va_S A s.heap s.heap [] := va_S.rf
  have hP : va_P (dC, dI) z_Cl [(h0, .inr (14, [.int 0, .int 0, .int (-1), .int 0, .ref mp, .ref mq, .ref ms, .int 0, .int 0, .ref mo, .ref mt, .int 0, .int 0, .int 0, .int 0, .int 0, .int 0, .int 0, .int 0, .int 0, .int 0, .long 0, .ref ml, .ref mw, .int 0, .ref m1, .int 0, .int 0, .int 0, .int 0, .ref m2, .ref m3, .int 0, .int 0, .ref m4, .ref m5, .ref m6, .ref m7, .ref m8, .ref m9]))] s.heap := hP
  have hl := lv_entry ([.ref h0, .int p1, .int p2, .int p3, .int p4, .int p5]) (n := 6) (Nat.le_of_ble_eq_true rfl)
  rw [lg_entry_eq]
  generalize (lg_sl ([.ref h0, .int p1, .int p2, .int p3, .int p4, .int p5]) ++ List.replicate (6 - (lg_sl ([.ref h0, .int p1, .int p2, .int p3, .int p4, .int p5])).length) Slot.unset).toArray = ls at hl ⊢
  have hl : lv_has ls 6 [(0, .ref h0), (1, .int p1), (2, .int p2), (3, .int p3), (4, .int p4), (5, .int p5)] := hl
  refine lv_aload_n hx hb dX14_wrong_0 rfl (lv_at hl 0 rfl) ?_
  refine lv_iconst (v := 0) hx hb dX14_wrong_1 (by decide) ?_
  refine va_put (D := (dC, dI)) (ci := 14) (v := .int 0) (ty := .int) (C := RX14) (T := TX14) (N := 40) hx hb hts hin_14 tyX14 tyX14_ok nmX14 hown hK hP hD hS 0 rfl rfl 0 (by decide) (hts (.fieldLink RX14 76 "LessonMakerModel" "thrown" "I") (List.mem_of_getElem? (i := 1) rfl)) (fun _ h9 => h9) rfl (by decide +kernel) rfl rfl (Nat.le_of_ble_eq_true rfl) dX14_wrong_2 (fun H locs hP hD hS => ?_)
  have hP : va_P (dC, dI) z_Cl [(h0, .inr (14, [.int 0, .int 0, .int (-1), .int 0, .ref mp, .ref mq, .ref ms, .int 0, .int 0, .ref mo, .ref mt, .int 0, .int 0, .int 0, .int 0, .int 0, .int 0, .int 0, .int 0, .int 0, .int 0, .long 0, .ref ml, .ref mw, .int 0, .ref m1, .int 0, .int 0, .int 0, .int 0, .ref m2, .ref m3, .int 0, .int 0, .ref m4, .ref m5, .ref m6, .ref m7, .ref m8, .ref m9]))] H := hP
  have hD : va_D A [(h0, .inr (14, [.int 0, .int 0, .int (-1), .int 0, .ref mp, .ref mq, .ref ms, .int 0, .int 0, .ref mo, .ref mt, .int 0, .int 0, .int 0, .int 0, .int 0, .int 0, .int 0, .int 0, .int 0, .int 0, .long 0, .ref ml, .ref mw, .int 0, .ref m1, .int 0, .int 0, .int 0, .int 0, .ref m2, .ref m3, .int 0, .int 0, .ref m4, .ref m5, .ref m6, .ref m7, .ref m8, .ref m9]))] := hD
  refine lv_aload_n hx hb dX14_wrong_5 rfl (lv_at hl 0 rfl) ?_
  refine lv_iload_n hx hb dX14_wrong_6 rfl (lv_at hl 2 rfl) ?_
  have hPc := hP.sub (ws' := [(h0, .inr (14, [.int 0, .int 0, .int (-1), .int 0, .ref mp, .ref mq, .ref ms, .int 0, .int 0, .ref mo, .ref mt, .int 0, .int 0, .int 0, .int 0, .int 0, .int 0, .int 0, .int 0, .int 0, .int 0, .long 0, .ref ml, .ref mw, .int 0, .ref m1, .int 0, .int 0, .int 0, .int 0, .ref m2, .ref m3, .int 0, .int 0, .ref m4, .ref m5, .ref m6, .ref m7, .ref m8, .ref m9]))]) [0] rfl
  have hDc := hD.sub (ws' := [(h0, .inr (14, [.int 0, .int 0, .int (-1), .int 0, .ref mp, .ref mq, .ref ms, .int 0, .int 0, .ref mo, .ref mt, .int 0, .int 0, .int 0, .int 0, .int 0, .int 0, .int 0, .int 0, .int 0, .int 0, .long 0, .ref ml, .ref mw, .int 0, .ref m1, .int 0, .int 0, .int 0, .int 0, .ref m2, .ref m3, .int 0, .int 0, .ref m4, .ref m5, .ref m6, .ref m7, .ref m8, .ref m9]))]) [0] (by decide) rfl
  have hKc := hK.sub (tys' := []) [] rfl
  have hFc := va_free (wc := [(h0, .inr (14, [.int 0, .int 0, .int (-1), .int 0, .ref mp, .ref mq, .ref ms, .int 0, .int 0, .ref mo, .ref mt, .int 0, .int 0, .int 0, .int 0, .int 0, .int 0, .int 0, .int 0, .int 0, .int 0, .long 0, .ref ml, .ref mw, .int 0, .ref m1, .int 0, .int 0, .int 0, .int 0, .ref m2, .ref m3, .int 0, .int 0, .ref m4, .ref m5, .ref m6, .ref m7, .ref m8, .ref m9]))]) hD hS hA [0] rfl
  refine va_calli (va_runV (As := [.int p2]) (rest := []) ⟨hx, hb, hml, hown, hts⟩ (c_X14_isFunction l dC dI h0 mp mq ms mo mt ml mw m1 m2 m3 m4 m5 m6 m7 m8 m9 p2 H.size) (cwV 1 hts c_X14_wrong_zg_1 rfl rfl rfl (by decide +kernel) ⟨(Nat.le_of_ble_eq_true rfl), (Nat.le_of_ble_eq_true rfl)⟩) ⟨z_blind, va_recv hKc hPc (ci := 14) (q0 := 0) rfl rfl, z_pre hPc hKc hDc hN⟩ rfl rfl hl.1 rfl (lv_room (Nat.le_of_ble_eq_true rfl)) dX14_wrong_7 ⟨(Nat.le_of_ble_eq_true rfl), (Nat.le_of_ble_eq_true rfl)⟩) hS (fun q _ h => hFc q h) hFc (fun r_2 u t H1 locs ht hvm hw hB hz1 hk1 hS => ?_)
  obtain ⟨hP1, hK1, hD1⟩ := hB
  rw [ht] at hP1
  have hK1 := va_K.moved hvm.symm hK1
  obtain ⟨hP, hD⟩ := va_join (wr := []) (w1 := [(h0, .inr (14, [.int 0, .int 0, .int (-1), .int 0, .ref mp, .ref mq, .ref ms, .int 0, .int 0, .ref mo, .ref mt, .int 0, .int 0, .int 0, .int 0, .int 0, .int 0, .int 0, .int 0, .int 0, .int 0, .long 0, .ref ml, .ref mw, .int 0, .ref m1, .int 0, .int 0, .int 0, .int 0, .ref m2, .ref m3, .int 0, .int 0, .ref m4, .ref m5, .ref m6, .ref m7, .ref m8, .ref m9]))]) hP hD [0] [] rfl rfl (by decide) (by decide) hk1 hFc hP1 hD1
  have hK := (hK.sub (tys' := []) [] rfl).app hK1
  generalize H1 = H at hP hS ⊢
  have hP : va_P (dC, dI) z_Cl [(h0, .inr (14, [.int 0, .int 0, .int (-1), .int 0, .ref mp, .ref mq, .ref ms, .int 0, .int 0, .ref mo, .ref mt, .int 0, .int 0, .int 0, .int 0, .int 0, .int 0, .int 0, .int 0, .int 0, .int 0, .long 0, .ref ml, .ref mw, .int 0, .ref m1, .int 0, .int 0, .int 0, .int 0, .ref m2, .ref m3, .int 0, .int 0, .ref m4, .ref m5, .ref m6, .ref m7, .ref m8, .ref m9]))] H := hP
  have hD : va_D A [(h0, .inr (14, [.int 0, .int 0, .int (-1), .int 0, .ref mp, .ref mq, .ref ms, .int 0, .int 0, .ref mo, .ref mt, .int 0, .int 0, .int 0, .int 0, .int 0, .int 0, .int 0, .int 0, .int 0, .int 0, .long 0, .ref ml, .ref mw, .int 0, .ref m1, .int 0, .int 0, .int 0, .int 0, .ref m2, .ref m3, .int 0, .int 0, .ref m4, .ref m5, .ref m6, .ref m7, .ref m8, .ref m9]))] := hD
  have hK : va_K (dC, dI) z_Cl [] s := hK
  have hw : r_2 = 0 := hw
  subst hw
  refine lv_if_ne (tgt := 19) hx hb dX14_wrong_10 (by decide) (fun h9 => absurd (by decide) h9) (fun _ => ?_)
  refine lv_aload_n hx hb dX14_wrong_13 rfl (lv_at hl 0 rfl) ?_
  refine lv_iconst (v := 1) hx hb dX14_wrong_14 (by decide) ?_
  have hPc := hP.sub (ws' := [(h0, .inr (14, [.int 0, .int 0, .int (-1), .int 0, .ref mp, .ref mq, .ref ms, .int 0, .int 0, .ref mo, .ref mt, .int 0, .int 0, .int 0, .int 0, .int 0, .int 0, .int 0, .int 0, .int 0, .int 0, .long 0, .ref ml, .ref mw, .int 0, .ref m1, .int 0, .int 0, .int 0, .int 0, .ref m2, .ref m3, .int 0, .int 0, .ref m4, .ref m5, .ref m6, .ref m7, .ref m8, .ref m9]))]) [0] rfl
  have hDc := hD.sub (ws' := [(h0, .inr (14, [.int 0, .int 0, .int (-1), .int 0, .ref mp, .ref mq, .ref ms, .int 0, .int 0, .ref mo, .ref mt, .int 0, .int 0, .int 0, .int 0, .int 0, .int 0, .int 0, .int 0, .int 0, .int 0, .long 0, .ref ml, .ref mw, .int 0, .ref m1, .int 0, .int 0, .int 0, .int 0, .ref m2, .ref m3, .int 0, .int 0, .ref m4, .ref m5, .ref m6, .ref m7, .ref m8, .ref m9]))]) [0] (by decide) rfl
  have hKc := hK.sub (tys' := []) [] rfl
  have hFc := va_free (wc := [(h0, .inr (14, [.int 0, .int 0, .int (-1), .int 0, .ref mp, .ref mq, .ref ms, .int 0, .int 0, .ref mo, .ref mt, .int 0, .int 0, .int 0, .int 0, .int 0, .int 0, .int 0, .int 0, .int 0, .int 0, .long 0, .ref ml, .ref mw, .int 0, .ref m1, .int 0, .int 0, .int 0, .int 0, .ref m2, .ref m3, .int 0, .int 0, .ref m4, .ref m5, .ref m6, .ref m7, .ref m8, .ref m9]))]) hD hS hA [0] rfl
  refine va_calli (va_runV (As := [.int 1]) (rest := []) ⟨hx, hb, hml, hown, hts⟩ (c_X14_refused l dC dI h0 mp mq ms mo mt ml mw m1 m2 m3 m4 m5 m6 m7 m8 m9 1 H.size) (cwV 1 hts c_X14_wrong_zg_3 rfl rfl rfl (by decide +kernel) ⟨(Nat.le_of_ble_eq_true rfl), (Nat.le_of_ble_eq_true rfl)⟩) ⟨z_blind, va_recv hKc hPc (ci := 14) (q0 := 0) rfl rfl, z_pre hPc hKc hDc hN⟩ rfl rfl hl.1 rfl (lv_room (Nat.le_of_ble_eq_true rfl)) dX14_wrong_15 ⟨(Nat.le_of_ble_eq_true rfl), (Nat.le_of_ble_eq_true rfl)⟩) hS (fun q _ h => hFc q h) hFc (fun r_4 u t H1 locs ht hvm hw hB hz1 hk1 hS => ?_)
  obtain ⟨hP1, hK1, hD1⟩ := hB
  rw [ht] at hP1
  have hK1 := va_K.moved hvm.symm hK1
  obtain ⟨hP, hD⟩ := va_join (wr := []) (w1 := []) hP hD [0] [] rfl rfl (by decide) (by decide) hk1 hFc hP1 hD1
  have hK := (hK.sub (tys' := []) [] rfl).app hK1
  generalize H1 = H at hP hS ⊢
  have hP : va_P (dC, dI) z_Cl [] H := hP
  have hD : va_D A [] := hD
  have hK : va_K (dC, dI) z_Cl [] s := hK
  have hw : r_4 = (-1) := hw
  subst hw
  have hP9 := hP.sub (ws' := []) [] rfl
  have hD9 := hD.sub (ws' := []) [] (by decide) rfl
  have hK9 := hK.sub (tys' := []) [] rfl
  refine W.widen (k := 0) (n := 0) (Nat.le_of_ble_eq_true rfl) (Nat.le_of_ble_eq_true rfl) ?_
  exact W.iret (v := (-1)) hx hb hr (fun t ht hW => ⟨⟨(-1), (), rfl, rfl, by rw [ht]; exact hP9, va_K.moved hW.alike hK9, hD9⟩, hS.F ht⟩) hS.2.2 dX14_wrong_18

def z_wX14_unlike : List Cond := .code yX14_unlike cX14_unlike 12 (some .int) :: ([.fieldLink RX14 76 "LessonMakerModel" "thrown" "I", .fieldLink RX14 318 "LessonMakerModel" "is" "Z", .methodLink RX14 336 yX14_isFunction, .instanceMethod yX14_isFunction, .selects RX14 yX14_isFunction yX14_isFunction, .initialized RX14, .code yX14_isFunction cX14_isFunction 2 (some .boolean), .fieldLink RX14 79 "LessonMakerModel" "trouble" "I", .fieldLink RX14 9 "LessonMakerModel" "where" "I", .methodLink RX14 307 yX14_refused, .instanceMethod yX14_refused, .selects RX14 yX14_refused yX14_refused, .code yX14_refused cX14_refused 2 (some .int)] ++ (u_ws RX14 TX14 40))
set_option maxRecDepth 20000 in
theorem c_X14_unlike_zg_1 : GoodIn z_wX14_unlike (wsV RX14 336 RX14 yX14_isFunction z_wX14_isFunction) := goodIn_r _ [3, 4, 5, 6, 7, 2, 14, 15, 16, 17, 18, 19, 20, 21, 22, 23, 24, 25, 26, 27, 28, 29, 30, 31, 32, 33, 34, 35, 36, 37, 38, 39, 40, 41, 42, 43, 44, 45, 46, 47, 48, 49, 50, 51, 52, 53] (by decide +kernel) (by decide +kernel)
set_option maxRecDepth 20000 in
theorem c_X14_unlike_zg_3 : GoodIn z_wX14_unlike (wsV RX14 307 RX14 yX14_refused z_wX14_refused) := goodIn_r _ [10, 11, 12, 6, 13, 8, 9, 14, 15, 16, 17, 18, 19, 20, 21, 22, 23, 24, 25, 26, 27, 28, 29, 30, 31, 32, 33, 34, 35, 36, 37, 38, 39, 40, 41, 42, 43, 44, 45, 46, 47, 48, 49, 50, 51, 52, 53] (by decide +kernel) (by decide +kernel)
set_option maxHeartbeats 4000000 in
set_option maxRecDepth 100000 in
theorem c_X14_unlike (l : Launch) (dC : Nat → ClassId) (dI : Nat → Nat → Nat) (h0 : Nat) (mp : Nat) (mq : Nat) (ms : Nat) (mo : Nat) (mt : Nat) (ml : Nat) (mw : Nat) (m1 : Nat) (m2 : Nat) (m3 : Nat) (m4 : Nat) (m5 : Nat) (m6 : Nat) (m7 : Nat) (m8 : Nat) (m9 : Nat) (p1 : Int32) (p2 : Int32) (p3 : Int32) (p4 : Int32) (sz : Nat) : Met l yX14_unlike z_wX14_unlike ({ frames := 1, cells := 0, slots := 0, locals := 21 }) (va_Pc [.ref h0, .int p1, .int p2, .int p3, .int p4] (z_in dC dI [(h0, .inr (14, [.int 0, .int 0, .int (-1), .int 0, .ref mp, .ref mq, .ref ms, .int 0, .int 0, .ref mo, .ref mt, .int 0, .int 0, .int 0, .int 0, .int 0, .int 0, .int 0, .int 0, .int 0, .int 0, .long 0, .ref ml, .ref mw, .int 0, .ref m1, .int 0, .int 0, .int 0, .int 0, .ref m2, .ref m3, .int 0, .int 0, .ref m4, .ref m5, .ref m6, .ref m7, .ref m8, .ref m9]))] [] sz)) (va_Qi (fun (r : Int32) (_ : Unit) => r = (-1)) (fun (_ : Unit) t => z_out dC dI (va_A [(h0, .inr (14, [.int 0, .int 0, .int (-1), .int 0, .ref mp, .ref mq, .ref ms, .int 0, .int 0, .ref mo, .ref mt, .int 0, .int 0, .int 0, .int 0, .int 0, .int 0, .int 0, .int 0, .int 0, .int 0, .long 0, .ref ml, .ref mw, .int 0, .ref m1, .int 0, .int 0, .int 0, .int 0, .ref m2, .ref m3, .int 0, .int 0, .ref m4, .ref m5, .ref m6, .ref m7, .ref m8, .ref m9]))] sz) [] [] t) (va_A [(h0, .inr (14, [.int 0, .int 0, .int (-1), .int 0, .ref mp, .ref mq, .ref ms, .int 0, .int 0, .ref mo, .ref mt, .int 0, .int 0, .int 0, .int 0, .int 0, .int 0, .int 0, .int 0, .int 0, .int 0, .long 0, .ref ml, .ref mw, .int 0, .ref m1, .int 0, .int 0, .int 0, .int 0, .ref m2, .ref m3, .int 0, .int 0, .ref m4, .ref m5, .ref m6, .ref m7, .ref m8, .ref m9]))] sz)) 0 0 (va_A [(h0, .inr (14, [.int 0, .int 0, .int (-1), .int 0, .ref mp, .ref mq, .ref ms, .int 0, .int 0, .ref mo, .ref mt, .int 0, .int 0, .int 0, .int 0, .int 0, .int 0, .int 0, .int 0, .int 0, .int 0, .long 0, .ref ml, .ref mw, .int 0, .ref m1, .int 0, .int 0, .int 0, .int 0, .ref m2, .ref m3, .int 0, .int 0, .ref m4, .ref m5, .ref m6, .ref m7, .ref m8, .ref m9]))] sz) := by
  refine Met.ofW (cc := cX14_unlike) (maxL := 12) (ret := (some .int)) (by decide) rfl ?_
  intro p e s m args below meth c s₁ B hml hv
  obtain ⟨rfl, hsz, hP, hK, hD0, hN⟩ := hv
  have hx := B.exec
  have hb := B.bytes
  have hr := B.returns
  have hts := atoms_spec (ws := z_wX14_unlike) B.pre
  have hown : s.vm.findClass RX14 = some m.cls := findClass_of_methodNamed B.named
  have hlocks := B.notSynchronized
  have hin_14 : ∀ w ∈ u_ws RX14 TX14 40, w ∈ z_wX14_unlike := by decide +kernel
  subst hsz
  have hD := hD0.self (sz := s.heap.size)
  generalize hAe : va_A [(h0, .inr (14, [.int 0, .int 0, .int (-1), .int 0, .ref mp, .ref mq, .ref ms, .int 0, .int 0, .ref mo, .ref mt, .int 0, .int 0, .int 0, .int 0, .int 0, .int 0, .int 0, .int 0, .int 0, .int 0, .long 0, .ref ml, .ref mw, .int 0, .ref m1, .int 0, .int 0, .int 0, .int 0, .ref m2, .ref m3, .int 0, .int 0, .ref m4, .ref m5, .ref m6, .ref m7, .ref m8, .ref m9]))] s.heap.size = A at hD ⊢
  have hA : ∀ q : Nat, s.heap.size ≤ q → A q := fun q h => by rw [← hAe]; exact Or.inr h
  have hS : va_S A s.heap s.heap [] := va_S.rf
  have hP : va_P (dC, dI) z_Cl [(h0, .inr (14, [.int 0, .int 0, .int (-1), .int 0, .ref mp, .ref mq, .ref ms, .int 0, .int 0, .ref mo, .ref mt, .int 0, .int 0, .int 0, .int 0, .int 0, .int 0, .int 0, .int 0, .int 0, .int 0, .long 0, .ref ml, .ref mw, .int 0, .ref m1, .int 0, .int 0, .int 0, .int 0, .ref m2, .ref m3, .int 0, .int 0, .ref m4, .ref m5, .ref m6, .ref m7, .ref m8, .ref m9]))] s.heap := hP
  have hl := lv_entry ([.ref h0, .int p1, .int p2, .int p3, .int p4]) (n := 12) (Nat.le_of_ble_eq_true rfl)
  rw [lg_entry_eq]
  generalize (lg_sl ([.ref h0, .int p1, .int p2, .int p3, .int p4]) ++ List.replicate (12 - (lg_sl ([.ref h0, .int p1, .int p2, .int p3, .int p4])).length) Slot.unset).toArray = ls at hl ⊢
  have hl : lv_has ls 12 [(0, .ref h0), (1, .int p1), (2, .int p2), (3, .int p3), (4, .int p4)] := hl
  refine lv_aload_n hx hb dX14_unlike_0 rfl (lv_at hl 0 rfl) ?_
  refine lv_iconst (v := 0) hx hb dX14_unlike_1 (by decide) ?_
  refine va_put (D := (dC, dI)) (ci := 14) (v := .int 0) (ty := .int) (C := RX14) (T := TX14) (N := 40) hx hb hts hin_14 tyX14 tyX14_ok nmX14 hown hK hP hD hS 0 rfl rfl 0 (by decide) (hts (.fieldLink RX14 76 "LessonMakerModel" "thrown" "I") (List.mem_of_getElem? (i := 1) rfl)) (fun _ h9 => h9) rfl (by decide +kernel) rfl rfl (Nat.le_of_ble_eq_true rfl) dX14_unlike_2 (fun H locs hP hD hS => ?_)
  have hP : va_P (dC, dI) z_Cl [(h0, .inr (14, [.int 0, .int 0, .int (-1), .int 0, .ref mp, .ref mq, .ref ms, .int 0, .int 0, .ref mo, .ref mt, .int 0, .int 0, .int 0, .int 0, .int 0, .int 0, .int 0, .int 0, .int 0, .int 0, .long 0, .ref ml, .ref mw, .int 0, .ref m1, .int 0, .int 0, .int 0, .int 0, .ref m2, .ref m3, .int 0, .int 0, .ref m4, .ref m5, .ref m6, .ref m7, .ref m8, .ref m9]))] H := hP
  have hD : va_D A [(h0, .inr (14, [.int 0, .int 0, .int (-1), .int 0, .ref mp, .ref mq, .ref ms, .int 0, .int 0, .ref mo, .ref mt, .int 0, .int 0, .int 0, .int 0, .int 0, .int 0, .int 0, .int 0, .int 0, .int 0, .long 0, .ref ml, .ref mw, .int 0, .ref m1, .int 0, .int 0, .int 0, .int 0, .ref m2, .ref m3, .int 0, .int 0, .ref m4, .ref m5, .ref m6, .ref m7, .ref m8, .ref m9]))] := hD
  refine lv_aload_n hx hb dX14_unlike_5 rfl (lv_at hl 0 rfl) ?_
  refine lv_iload_n hx hb dX14_unlike_6 rfl (lv_at hl 1 rfl) ?_
  have hPc := hP.sub (ws' := [(h0, .inr (14, [.int 0, .int 0, .int (-1), .int 0, .ref mp, .ref mq, .ref ms, .int 0, .int 0, .ref mo, .ref mt, .int 0, .int 0, .int 0, .int 0, .int 0, .int 0, .int 0, .int 0, .int 0, .int 0, .long 0, .ref ml, .ref mw, .int 0, .ref m1, .int 0, .int 0, .int 0, .int 0, .ref m2, .ref m3, .int 0, .int 0, .ref m4, .ref m5, .ref m6, .ref m7, .ref m8, .ref m9]))]) [0] rfl
  have hDc := hD.sub (ws' := [(h0, .inr (14, [.int 0, .int 0, .int (-1), .int 0, .ref mp, .ref mq, .ref ms, .int 0, .int 0, .ref mo, .ref mt, .int 0, .int 0, .int 0, .int 0, .int 0, .int 0, .int 0, .int 0, .int 0, .int 0, .long 0, .ref ml, .ref mw, .int 0, .ref m1, .int 0, .int 0, .int 0, .int 0, .ref m2, .ref m3, .int 0, .int 0, .ref m4, .ref m5, .ref m6, .ref m7, .ref m8, .ref m9]))]) [0] (by decide) rfl
  have hKc := hK.sub (tys' := []) [] rfl
  have hFc := va_free (wc := [(h0, .inr (14, [.int 0, .int 0, .int (-1), .int 0, .ref mp, .ref mq, .ref ms, .int 0, .int 0, .ref mo, .ref mt, .int 0, .int 0, .int 0, .int 0, .int 0, .int 0, .int 0, .int 0, .int 0, .int 0, .long 0, .ref ml, .ref mw, .int 0, .ref m1, .int 0, .int 0, .int 0, .int 0, .ref m2, .ref m3, .int 0, .int 0, .ref m4, .ref m5, .ref m6, .ref m7, .ref m8, .ref m9]))]) hD hS hA [0] rfl
  refine va_calli (va_runV (As := [.int p1]) (rest := []) ⟨hx, hb, hml, hown, hts⟩ (c_X14_isFunction l dC dI h0 mp mq ms mo mt ml mw m1 m2 m3 m4 m5 m6 m7 m8 m9 p1 H.size) (cwV 1 hts c_X14_unlike_zg_1 rfl rfl rfl (by decide +kernel) ⟨(Nat.le_of_ble_eq_true rfl), (Nat.le_of_ble_eq_true rfl)⟩) ⟨z_blind, va_recv hKc hPc (ci := 14) (q0 := 0) rfl rfl, z_pre hPc hKc hDc hN⟩ rfl rfl hl.1 rfl (lv_room (Nat.le_of_ble_eq_true rfl)) dX14_unlike_7 ⟨(Nat.le_of_ble_eq_true rfl), (Nat.le_of_ble_eq_true rfl)⟩) hS (fun q _ h => hFc q h) hFc (fun r_2 u t H1 locs ht hvm hw hB hz1 hk1 hS => ?_)
  obtain ⟨hP1, hK1, hD1⟩ := hB
  rw [ht] at hP1
  have hK1 := va_K.moved hvm.symm hK1
  obtain ⟨hP, hD⟩ := va_join (wr := []) (w1 := [(h0, .inr (14, [.int 0, .int 0, .int (-1), .int 0, .ref mp, .ref mq, .ref ms, .int 0, .int 0, .ref mo, .ref mt, .int 0, .int 0, .int 0, .int 0, .int 0, .int 0, .int 0, .int 0, .int 0, .int 0, .long 0, .ref ml, .ref mw, .int 0, .ref m1, .int 0, .int 0, .int 0, .int 0, .ref m2, .ref m3, .int 0, .int 0, .ref m4, .ref m5, .ref m6, .ref m7, .ref m8, .ref m9]))]) hP hD [0] [] rfl rfl (by decide) (by decide) hk1 hFc hP1 hD1
  have hK := (hK.sub (tys' := []) [] rfl).app hK1
  generalize H1 = H at hP hS ⊢
  have hP : va_P (dC, dI) z_Cl [(h0, .inr (14, [.int 0, .int 0, .int (-1), .int 0, .ref mp, .ref mq, .ref ms, .int 0, .int 0, .ref mo, .ref mt, .int 0, .int 0, .int 0, .int 0, .int 0, .int 0, .int 0, .int 0, .int 0, .int 0, .long 0, .ref ml, .ref mw, .int 0, .ref m1, .int 0, .int 0, .int 0, .int 0, .ref m2, .ref m3, .int 0, .int 0, .ref m4, .ref m5, .ref m6, .ref m7, .ref m8, .ref m9]))] H := hP
  have hD : va_D A [(h0, .inr (14, [.int 0, .int 0, .int (-1), .int 0, .ref mp, .ref mq, .ref ms, .int 0, .int 0, .ref mo, .ref mt, .int 0, .int 0, .int 0, .int 0, .int 0, .int 0, .int 0, .int 0, .int 0, .int 0, .long 0, .ref ml, .ref mw, .int 0, .ref m1, .int 0, .int 0, .int 0, .int 0, .ref m2, .ref m3, .int 0, .int 0, .ref m4, .ref m5, .ref m6, .ref m7, .ref m8, .ref m9]))] := hD
  have hK : va_K (dC, dI) z_Cl [] s := hK
  have hw : r_2 = 0 := hw
  subst hw
  refine lv_if_ne (tgt := 19) hx hb dX14_unlike_10 (by decide) (fun h9 => absurd (by decide) h9) (fun _ => ?_)
  refine lv_aload_n hx hb dX14_unlike_13 rfl (lv_at hl 0 rfl) ?_
  refine lv_iconst (v := 1) hx hb dX14_unlike_14 (by decide) ?_
  have hPc := hP.sub (ws' := [(h0, .inr (14, [.int 0, .int 0, .int (-1), .int 0, .ref mp, .ref mq, .ref ms, .int 0, .int 0, .ref mo, .ref mt, .int 0, .int 0, .int 0, .int 0, .int 0, .int 0, .int 0, .int 0, .int 0, .int 0, .long 0, .ref ml, .ref mw, .int 0, .ref m1, .int 0, .int 0, .int 0, .int 0, .ref m2, .ref m3, .int 0, .int 0, .ref m4, .ref m5, .ref m6, .ref m7, .ref m8, .ref m9]))]) [0] rfl
  have hDc := hD.sub (ws' := [(h0, .inr (14, [.int 0, .int 0, .int (-1), .int 0, .ref mp, .ref mq, .ref ms, .int 0, .int 0, .ref mo, .ref mt, .int 0, .int 0, .int 0, .int 0, .int 0, .int 0, .int 0, .int 0, .int 0, .int 0, .long 0, .ref ml, .ref mw, .int 0, .ref m1, .int 0, .int 0, .int 0, .int 0, .ref m2, .ref m3, .int 0, .int 0, .ref m4, .ref m5, .ref m6, .ref m7, .ref m8, .ref m9]))]) [0] (by decide) rfl
  have hKc := hK.sub (tys' := []) [] rfl
  have hFc := va_free (wc := [(h0, .inr (14, [.int 0, .int 0, .int (-1), .int 0, .ref mp, .ref mq, .ref ms, .int 0, .int 0, .ref mo, .ref mt, .int 0, .int 0, .int 0, .int 0, .int 0, .int 0, .int 0, .int 0, .int 0, .int 0, .long 0, .ref ml, .ref mw, .int 0, .ref m1, .int 0, .int 0, .int 0, .int 0, .ref m2, .ref m3, .int 0, .int 0, .ref m4, .ref m5, .ref m6, .ref m7, .ref m8, .ref m9]))]) hD hS hA [0] rfl
  refine va_calli (va_runV (As := [.int 1]) (rest := []) ⟨hx, hb, hml, hown, hts⟩ (c_X14_refused l dC dI h0 mp mq ms mo mt ml mw m1 m2 m3 m4 m5 m6 m7 m8 m9 1 H.size) (cwV 1 hts c_X14_unlike_zg_3 rfl rfl rfl (by decide +kernel) ⟨(Nat.le_of_ble_eq_true rfl), (Nat.le_of_ble_eq_true rfl)⟩) ⟨z_blind, va_recv hKc hPc (ci := 14) (q0 := 0) rfl rfl, z_pre hPc hKc hDc hN⟩ rfl rfl hl.1 rfl (lv_room (Nat.le_of_ble_eq_true rfl)) dX14_unlike_15 ⟨(Nat.le_of_ble_eq_true rfl), (Nat.le_of_ble_eq_true rfl)⟩) hS (fun q _ h => hFc q h) hFc (fun r_4 u t H1 locs ht hvm hw hB hz1 hk1 hS => ?_)
  obtain ⟨hP1, hK1, hD1⟩ := hB
  rw [ht] at hP1
  have hK1 := va_K.moved hvm.symm hK1
  obtain ⟨hP, hD⟩ := va_join (wr := []) (w1 := []) hP hD [0] [] rfl rfl (by decide) (by decide) hk1 hFc hP1 hD1
  have hK := (hK.sub (tys' := []) [] rfl).app hK1
  generalize H1 = H at hP hS ⊢
  have hP : va_P (dC, dI) z_Cl [] H := hP
  have hD : va_D A [] := hD
  have hK : va_K (dC, dI) z_Cl [] s := hK
  have hw : r_4 = (-1) := hw
  subst hw
  have hP9 := hP.sub (ws' := []) [] rfl
  have hD9 := hD.sub (ws' := []) [] (by decide) rfl
  have hK9 := hK.sub (tys' := []) [] rfl
  refine W.widen (k := 0) (n := 0) (Nat.le_of_ble_eq_true rfl) (Nat.le_of_ble_eq_true rfl) ?_
  exact W.iret (v := (-1)) hx hb hr (fun t ht hW => ⟨⟨(-1), (), rfl, rfl, by rw [ht]; exact hP9, va_K.moved hW.alike hK9, hD9⟩, hS.F ht⟩) hS.2.2 dX14_unlike_18

def z_wX14_order : List Cond := .code yX14_order cX14_order 1 (some .int) :: ([.fieldLink RX14 76 "LessonMakerModel" "thrown" "I", .fieldLink RX14 318 "LessonMakerModel" "is" "Z"] ++ (u_ws RX14 TX14 40))
set_option maxHeartbeats 4000000 in
set_option maxRecDepth 100000 in
theorem c_X14_order (l : Launch) (dC : Nat → ClassId) (dI : Nat → Nat → Nat) (h0 : Nat) (mp : Nat) (mq : Nat) (ms : Nat) (mo : Nat) (mt : Nat) (ml : Nat) (mw : Nat) (m1 : Nat) (m2 : Nat) (m3 : Nat) (m4 : Nat) (m5 : Nat) (m6 : Nat) (m7 : Nat) (m8 : Nat) (m9 : Nat) (sz : Nat) : Met l yX14_order z_wX14_order ({ frames := 0, cells := 0, slots := 0, locals := 0 }) (va_Pc [.ref h0] (z_in dC dI [(h0, .inr (14, [.int 0, .int 0, .int (-1), .int 0, .ref mp, .ref mq, .ref ms, .int 0, .int 0, .ref mo, .ref mt, .int 0, .int 0, .int 0, .int 0, .int 0, .int 0, .int 0, .int 0, .int 0, .int 0, .long 0, .ref ml, .ref mw, .int 0, .ref m1, .int 0, .int 0, .int 0, .int 0, .ref m2, .ref m3, .int 0, .int 0, .ref m4, .ref m5, .ref m6, .ref m7, .ref m8, .ref m9]))] [] sz)) (va_Qi (fun (r : Int32) (_ : Unit) => r = (-2)) (fun (_ : Unit) t => z_out dC dI (va_A [(h0, .inr (14, [.int 0, .int 0, .int (-1), .int 0, .ref mp, .ref mq, .ref ms, .int 0, .int 0, .ref mo, .ref mt, .int 0, .int 0, .int 0, .int 0, .int 0, .int 0, .int 0, .int 0, .int 0, .int 0, .long 0, .ref ml, .ref mw, .int 0, .ref m1, .int 0, .int 0, .int 0, .int 0, .ref m2, .ref m3, .int 0, .int 0, .ref m4, .ref m5, .ref m6, .ref m7, .ref m8, .ref m9]))] sz) [] [] t) (va_A [(h0, .inr (14, [.int 0, .int 0, .int (-1), .int 0, .ref mp, .ref mq, .ref ms, .int 0, .int 0, .ref mo, .ref mt, .int 0, .int 0, .int 0, .int 0, .int 0, .int 0, .int 0, .int 0, .int 0, .int 0, .long 0, .ref ml, .ref mw, .int 0, .ref m1, .int 0, .int 0, .int 0, .int 0, .ref m2, .ref m3, .int 0, .int 0, .ref m4, .ref m5, .ref m6, .ref m7, .ref m8, .ref m9]))] sz)) 0 0 (va_A [(h0, .inr (14, [.int 0, .int 0, .int (-1), .int 0, .ref mp, .ref mq, .ref ms, .int 0, .int 0, .ref mo, .ref mt, .int 0, .int 0, .int 0, .int 0, .int 0, .int 0, .int 0, .int 0, .int 0, .int 0, .long 0, .ref ml, .ref mw, .int 0, .ref m1, .int 0, .int 0, .int 0, .int 0, .ref m2, .ref m3, .int 0, .int 0, .ref m4, .ref m5, .ref m6, .ref m7, .ref m8, .ref m9]))] sz) := by
  refine Met.ofW (cc := cX14_order) (maxL := 1) (ret := (some .int)) (by decide) rfl ?_
  intro p e s m args below meth c s₁ B hml hv
  obtain ⟨rfl, hsz, hP, hK, hD0, hN⟩ := hv
  have hx := B.exec
  have hb := B.bytes
  have hr := B.returns
  have hts := atoms_spec (ws := z_wX14_order) B.pre
  have hown : s.vm.findClass RX14 = some m.cls := findClass_of_methodNamed B.named
  have hlocks := B.notSynchronized
  have hin_14 : ∀ w ∈ u_ws RX14 TX14 40, w ∈ z_wX14_order := by decide +kernel
  subst hsz
  have hD := hD0.self (sz := s.heap.size)
  generalize hAe : va_A [(h0, .inr (14, [.int 0, .int 0, .int (-1), .int 0, .ref mp, .ref mq, .ref ms, .int 0, .int 0, .ref mo, .ref mt, .int 0, .int 0, .int 0, .int 0, .int 0, .int 0, .int 0, .int 0, .int 0, .int 0, .long 0, .ref ml, .ref mw, .int 0, .ref m1, .int 0, .int 0, .int 0, .int 0, .ref m2, .ref m3, .int 0, .int 0, .ref m4, .ref m5, .ref m6, .ref m7, .ref m8, .ref m9]))] s.heap.size = A at hD ⊢
  have hA : ∀ q : Nat, s.heap.size ≤ q → A q := fun q h => by rw [← hAe]; exact Or.inr h
  have hS : va_S A s.heap s.heap [] := va_S.rf
  have hP : va_P (dC, dI) z_Cl [(h0, .inr (14, [.int 0, .int 0, .int (-1), .int 0, .ref mp, .ref mq, .ref ms, .int 0, .int 0, .ref mo, .ref mt, .int 0, .int 0, .int 0, .int 0, .int 0, .int 0, .int 0, .int 0, .int 0, .int 0, .long 0, .ref ml, .ref mw, .int 0, .ref m1, .int 0, .int 0, .int 0, .int 0, .ref m2, .ref m3, .int 0, .int 0, .ref m4, .ref m5, .ref m6, .ref m7, .ref m8, .ref m9]))] s.heap := hP
  have hl := lv_entry ([.ref h0]) (n := 1) (Nat.le_of_ble_eq_true rfl)
  rw [lg_entry_eq]
  generalize (lg_sl ([.ref h0]) ++ List.replicate (1 - (lg_sl ([.ref h0])).length) Slot.unset).toArray = ls at hl ⊢
  have hl : lv_has ls 1 [(0, .ref h0)] := hl
  refine lv_aload_n hx hb dX14_order_0 rfl (lv_at hl 0 rfl) ?_
  refine lv_iconst (v := 0) hx hb dX14_order_1 (by decide) ?_
  refine va_put (D := (dC, dI)) (ci := 14) (v := .int 0) (ty := .int) (C := RX14) (T := TX14) (N := 40) hx hb hts hin_14 tyX14 tyX14_ok nmX14 hown hK hP hD hS 0 rfl rfl 0 (by decide) (hts (.fieldLink RX14 76 "LessonMakerModel" "thrown" "I") (List.mem_of_getElem? (i := 1) rfl)) (fun _ h9 => h9) rfl (by decide +kernel) rfl rfl (Nat.le_of_ble_eq_true rfl) dX14_order_2 (fun H locs hP hD hS => ?_)
  have hP : va_P (dC, dI) z_Cl [(h0, .inr (14, [.int 0, .int 0, .int (-1), .int 0, .ref mp, .ref mq, .ref ms, .int 0, .int 0, .ref mo, .ref mt, .int 0, .int 0, .int 0, .int 0, .int 0, .int 0, .int 0, .int 0, .int 0, .int 0, .long 0, .ref ml, .ref mw, .int 0, .ref m1, .int 0, .int 0, .int 0, .int 0, .ref m2, .ref m3, .int 0, .int 0, .ref m4, .ref m5, .ref m6, .ref m7, .ref m8, .ref m9]))] H := hP
  have hD : va_D A [(h0, .inr (14, [.int 0, .int 0, .int (-1), .int 0, .ref mp, .ref mq, .ref ms, .int 0, .int 0, .ref mo, .ref mt, .int 0, .int 0, .int 0, .int 0, .int 0, .int 0, .int 0, .int 0, .int 0, .int 0, .long 0, .ref ml, .ref mw, .int 0, .ref m1, .int 0, .int 0, .int 0, .int 0, .ref m2, .ref m3, .int 0, .int 0, .ref m4, .ref m5, .ref m6, .ref m7, .ref m8, .ref m9]))] := hD
  refine lv_aload_n hx hb dX14_order_5 rfl (lv_at hl 0 rfl) ?_
  refine va_get (D := (dC, dI)) (ci := 14) (v := .int 0) (C := RX14) (T := TX14) (N := 40) hx hb hts hin_14 hown hK hP 0 rfl rfl 7 (by decide) (hts (.fieldLink RX14 318 "LessonMakerModel" "is" "Z") (List.mem_of_getElem? (i := 2) rfl)) (fun _ h9 => h9) rfl dX14_order_6 ?_
  refine lv_if_ne (tgt := 15) hx hb dX14_order_9 (by decide) (fun h9 => absurd (by decide) h9) (fun _ => ?_)
  refine lv_bipush (v := (-2)) hx hb dX14_order_12 (by decide) ?_
  have hP9 := hP.sub (ws' := []) [] rfl
  have hD9 := hD.sub (ws' := []) [] (by decide) rfl
  have hK9 := hK.sub (tys' := []) [] rfl
  refine W.widen (k := 0) (n := 0) (Nat.le_of_ble_eq_true rfl) (Nat.le_of_ble_eq_true rfl) ?_
  exact W.iret (v := (-2)) hx hb hr (fun t ht hW => ⟨⟨(-2), (), rfl, rfl, by rw [ht]; exact hP9, va_K.moved hW.alike hK9, hD9⟩, hS.F ht⟩) hS.2.2 dX14_order_14

def z_wX14_chapter : List Cond := .code yX14_chapter cX14_chapter 5 (some .int) :: ([.fieldLink RX14 76 "LessonMakerModel" "thrown" "I", .fieldLink RX14 318 "LessonMakerModel" "is" "Z"] ++ (u_ws RX14 TX14 40))
set_option maxHeartbeats 4000000 in
set_option maxRecDepth 100000 in
theorem c_X14_chapter (l : Launch) (dC : Nat → ClassId) (dI : Nat → Nat → Nat) (h0 : Nat) (mp : Nat) (mq : Nat) (ms : Nat) (mo : Nat) (mt : Nat) (ml : Nat) (mw : Nat) (m1 : Nat) (m2 : Nat) (m3 : Nat) (m4 : Nat) (m5 : Nat) (m6 : Nat) (m7 : Nat) (m8 : Nat) (m9 : Nat) (p1 : Int32) (sz : Nat) : Met l yX14_chapter z_wX14_chapter ({ frames := 0, cells := 0, slots := 0, locals := 0 }) (va_Pc [.ref h0, .int p1] (z_in dC dI [(h0, .inr (14, [.int 0, .int 0, .int (-1), .int 0, .ref mp, .ref mq, .ref ms, .int 0, .int 0, .ref mo, .ref mt, .int 0, .int 0, .int 0, .int 0, .int 0, .int 0, .int 0, .int 0, .int 0, .int 0, .long 0, .ref ml, .ref mw, .int 0, .ref m1, .int 0, .int 0, .int 0, .int 0, .ref m2, .ref m3, .int 0, .int 0, .ref m4, .ref m5, .ref m6, .ref m7, .ref m8, .ref m9]))] [] sz)) (va_Qi (fun (r : Int32) (_ : Unit) => r = (-1)) (fun (_ : Unit) t => z_out dC dI (va_A [(h0, .inr (14, [.int 0, .int 0, .int (-1), .int 0, .ref mp, .ref mq, .ref ms, .int 0, .int 0, .ref mo, .ref mt, .int 0, .int 0, .int 0, .int 0, .int 0, .int 0, .int 0, .int 0, .int 0, .int 0, .long 0, .ref ml, .ref mw, .int 0, .ref m1, .int 0, .int 0, .int 0, .int 0, .ref m2, .ref m3, .int 0, .int 0, .ref m4, .ref m5, .ref m6, .ref m7, .ref m8, .ref m9]))] sz) [] [] t) (va_A [(h0, .inr (14, [.int 0, .int 0, .int (-1), .int 0, .ref mp, .ref mq, .ref ms, .int 0, .int 0, .ref mo, .ref mt, .int 0, .int 0, .int 0, .int 0, .int 0, .int 0, .int 0, .int 0, .int 0, .int 0, .long 0, .ref ml, .ref mw, .int 0, .ref m1, .int 0, .int 0, .int 0, .int 0, .ref m2, .ref m3, .int 0, .int 0, .ref m4, .ref m5, .ref m6, .ref m7, .ref m8, .ref m9]))] sz)) 0 0 (va_A [(h0, .inr (14, [.int 0, .int 0, .int (-1), .int 0, .ref mp, .ref mq, .ref ms, .int 0, .int 0, .ref mo, .ref mt, .int 0, .int 0, .int 0, .int 0, .int 0, .int 0, .int 0, .int 0, .int 0, .int 0, .long 0, .ref ml, .ref mw, .int 0, .ref m1, .int 0, .int 0, .int 0, .int 0, .ref m2, .ref m3, .int 0, .int 0, .ref m4, .ref m5, .ref m6, .ref m7, .ref m8, .ref m9]))] sz) := by
  refine Met.ofW (cc := cX14_chapter) (maxL := 5) (ret := (some .int)) (by decide) rfl ?_
  intro p e s m args below meth c s₁ B hml hv
  obtain ⟨rfl, hsz, hP, hK, hD0, hN⟩ := hv
  have hx := B.exec
  have hb := B.bytes
  have hr := B.returns
  have hts := atoms_spec (ws := z_wX14_chapter) B.pre
  have hown : s.vm.findClass RX14 = some m.cls := findClass_of_methodNamed B.named
  have hlocks := B.notSynchronized
  have hin_14 : ∀ w ∈ u_ws RX14 TX14 40, w ∈ z_wX14_chapter := by decide +kernel
  subst hsz
  have hD := hD0.self (sz := s.heap.size)
  generalize hAe : va_A [(h0, .inr (14, [.int 0, .int 0, .int (-1), .int 0, .ref mp, .ref mq, .ref ms, .int 0, .int 0, .ref mo, .ref mt, .int 0, .int 0, .int 0, .int 0, .int 0, .int 0, .int 0, .int 0, .int 0, .int 0, .long 0, .ref ml, .ref mw, .int 0, .ref m1, .int 0, .int 0, .int 0, .int 0, .ref m2, .ref m3, .int 0, .int 0, .ref m4, .ref m5, .ref m6, .ref m7, .ref m8, .ref m9]))] s.heap.size = A at hD ⊢
  have hA : ∀ q : Nat, s.heap.size ≤ q → A q := fun q h => by rw [← hAe]; exact Or.inr h
  have hS : va_S A s.heap s.heap [] := va_S.rf
  have hP : va_P (dC, dI) z_Cl [(h0, .inr (14, [.int 0, .int 0, .int (-1), .int 0, .ref mp, .ref mq, .ref ms, .int 0, .int 0, .ref mo, .ref mt, .int 0, .int 0, .int 0, .int 0, .int 0, .int 0, .int 0, .int 0, .int 0, .int 0, .long 0, .ref ml, .ref mw, .int 0, .ref m1, .int 0, .int 0, .int 0, .int 0, .ref m2, .ref m3, .int 0, .int 0, .ref m4, .ref m5, .ref m6, .ref m7, .ref m8, .ref m9]))] s.heap := hP
  have hl := lv_entry ([.ref h0, .int p1]) (n := 5) (Nat.le_of_ble_eq_true rfl)
  rw [lg_entry_eq]
  generalize (lg_sl ([.ref h0, .int p1]) ++ List.replicate (5 - (lg_sl ([.ref h0, .int p1])).length) Slot.unset).toArray = ls at hl ⊢
  have hl : lv_has ls 5 [(0, .ref h0), (1, .int p1)] := hl
  refine lv_aload_n hx hb dX14_chapter_0 rfl (lv_at hl 0 rfl) ?_
  refine lv_iconst (v := 0) hx hb dX14_chapter_1 (by decide) ?_
  refine va_put (D := (dC, dI)) (ci := 14) (v := .int 0) (ty := .int) (C := RX14) (T := TX14) (N := 40) hx hb hts hin_14 tyX14 tyX14_ok nmX14 hown hK hP hD hS 0 rfl rfl 0 (by decide) (hts (.fieldLink RX14 76 "LessonMakerModel" "thrown" "I") (List.mem_of_getElem? (i := 1) rfl)) (fun _ h9 => h9) rfl (by decide +kernel) rfl rfl (Nat.le_of_ble_eq_true rfl) dX14_chapter_2 (fun H locs hP hD hS => ?_)
  have hP : va_P (dC, dI) z_Cl [(h0, .inr (14, [.int 0, .int 0, .int (-1), .int 0, .ref mp, .ref mq, .ref ms, .int 0, .int 0, .ref mo, .ref mt, .int 0, .int 0, .int 0, .int 0, .int 0, .int 0, .int 0, .int 0, .int 0, .int 0, .long 0, .ref ml, .ref mw, .int 0, .ref m1, .int 0, .int 0, .int 0, .int 0, .ref m2, .ref m3, .int 0, .int 0, .ref m4, .ref m5, .ref m6, .ref m7, .ref m8, .ref m9]))] H := hP
  have hD : va_D A [(h0, .inr (14, [.int 0, .int 0, .int (-1), .int 0, .ref mp, .ref mq, .ref ms, .int 0, .int 0, .ref mo, .ref mt, .int 0, .int 0, .int 0, .int 0, .int 0, .int 0, .int 0, .int 0, .int 0, .int 0, .long 0, .ref ml, .ref mw, .int 0, .ref m1, .int 0, .int 0, .int 0, .int 0, .ref m2, .ref m3, .int 0, .int 0, .ref m4, .ref m5, .ref m6, .ref m7, .ref m8, .ref m9]))] := hD
  refine lv_aload_n hx hb dX14_chapter_5 rfl (lv_at hl 0 rfl) ?_
  refine va_get (D := (dC, dI)) (ci := 14) (v := .int 0) (C := RX14) (T := TX14) (N := 40) hx hb hts hin_14 hown hK hP 0 rfl rfl 7 (by decide) (hts (.fieldLink RX14 318 "LessonMakerModel" "is" "Z") (List.mem_of_getElem? (i := 2) rfl)) (fun _ h9 => h9) rfl dX14_chapter_6 ?_
  refine lv_if_eq (tgt := 27) hx hb dX14_chapter_9 (by decide) (fun _ => ?_) (fun h9 => absurd (by decide) h9)
  refine lv_iconst (v := (-1)) hx hb dX14_chapter_27 (by decide) ?_
  have hP9 := hP.sub (ws' := []) [] rfl
  have hD9 := hD.sub (ws' := []) [] (by decide) rfl
  have hK9 := hK.sub (tys' := []) [] rfl
  refine W.widen (k := 0) (n := 0) (Nat.le_of_ble_eq_true rfl) (Nat.le_of_ble_eq_true rfl) ?_
  exact W.iret (v := (-1)) hx hb hr (fun t ht hW => ⟨⟨(-1), (), rfl, rfl, by rw [ht]; exact hP9, va_K.moved hW.alike hK9, hD9⟩, hS.F ht⟩) hS.2.2 dX14_chapter_28

def z_wX14_tell : List Cond := .code yX14_tell cX14_tell 5 (some .int) :: ([.fieldLink RX14 76 "LessonMakerModel" "thrown" "I", .fieldLink RX14 318 "LessonMakerModel" "is" "Z", .methodLink RX14 336 yX14_isFunction, .instanceMethod yX14_isFunction, .selects RX14 yX14_isFunction yX14_isFunction, .initialized RX14, .code yX14_isFunction cX14_isFunction 2 (some .boolean), .fieldLink RX14 79 "LessonMakerModel" "trouble" "I", .fieldLink RX14 9 "LessonMakerModel" "where" "I", .methodLink RX14 307 yX14_refused, .instanceMethod yX14_refused, .selects RX14 yX14_refused yX14_refused, .code yX14_refused cX14_refused 2 (some .int)] ++ (u_ws RX14 TX14 40))
set_option maxRecDepth 20000 in
theorem c_X14_tell_zg_1 : GoodIn z_wX14_tell (wsV RX14 336 RX14 yX14_isFunction z_wX14_isFunction) := goodIn_r _ [3, 4, 5, 6, 7, 2, 14, 15, 16, 17, 18, 19, 20, 21, 22, 23, 24, 25, 26, 27, 28, 29, 30, 31, 32, 33, 34, 35, 36, 37, 38, 39, 40, 41, 42, 43, 44, 45, 46, 47, 48, 49, 50, 51, 52, 53] (by decide +kernel) (by decide +kernel)
set_option maxRecDepth 20000 in
theorem c_X14_tell_zg_3 : GoodIn z_wX14_tell (wsV RX14 307 RX14 yX14_refused z_wX14_refused) := goodIn_r _ [10, 11, 12, 6, 13, 8, 9, 14, 15, 16, 17, 18, 19, 20, 21, 22, 23, 24, 25, 26, 27, 28, 29, 30, 31, 32, 33, 34, 35, 36, 37, 38, 39, 40, 41, 42, 43, 44, 45, 46, 47, 48, 49, 50, 51, 52, 53] (by decide +kernel) (by decide +kernel)
set_option maxHeartbeats 4000000 in
set_option maxRecDepth 100000 in
theorem c_X14_tell (l : Launch) (dC : Nat → ClassId) (dI : Nat → Nat → Nat) (h0 : Nat) (mp : Nat) (mq : Nat) (ms : Nat) (mo : Nat) (mt : Nat) (ml : Nat) (mw : Nat) (m1 : Nat) (m2 : Nat) (m3 : Nat) (m4 : Nat) (m5 : Nat) (m6 : Nat) (m7 : Nat) (m8 : Nat) (m9 : Nat) (p1 : Int32) (p2 : Int32) (p3 : Int32) (p4 : Int32) (sz : Nat) : Met l yX14_tell z_wX14_tell ({ frames := 1, cells := 0, slots := 0, locals := 21 }) (va_Pc [.ref h0, .int p1, .int p2, .int p3, .int p4] (z_in dC dI [(h0, .inr (14, [.int 0, .int 0, .int (-1), .int 0, .ref mp, .ref mq, .ref ms, .int 0, .int 0, .ref mo, .ref mt, .int 0, .int 0, .int 0, .int 0, .int 0, .int 0, .int 0, .int 0, .int 0, .int 0, .long 0, .ref ml, .ref mw, .int 0, .ref m1, .int 0, .int 0, .int 0, .int 0, .ref m2, .ref m3, .int 0, .int 0, .ref m4, .ref m5, .ref m6, .ref m7, .ref m8, .ref m9]))] [] sz)) (va_Qi (fun (r : Int32) (_ : Unit) => r = (-1)) (fun (_ : Unit) t => z_out dC dI (va_A [(h0, .inr (14, [.int 0, .int 0, .int (-1), .int 0, .ref mp, .ref mq, .ref ms, .int 0, .int 0, .ref mo, .ref mt, .int 0, .int 0, .int 0, .int 0, .int 0, .int 0, .int 0, .int 0, .int 0, .int 0, .long 0, .ref ml, .ref mw, .int 0, .ref m1, .int 0, .int 0, .int 0, .int 0, .ref m2, .ref m3, .int 0, .int 0, .ref m4, .ref m5, .ref m6, .ref m7, .ref m8, .ref m9]))] sz) [] [] t) (va_A [(h0, .inr (14, [.int 0, .int 0, .int (-1), .int 0, .ref mp, .ref mq, .ref ms, .int 0, .int 0, .ref mo, .ref mt, .int 0, .int 0, .int 0, .int 0, .int 0, .int 0, .int 0, .int 0, .int 0, .int 0, .long 0, .ref ml, .ref mw, .int 0, .ref m1, .int 0, .int 0, .int 0, .int 0, .ref m2, .ref m3, .int 0, .int 0, .ref m4, .ref m5, .ref m6, .ref m7, .ref m8, .ref m9]))] sz)) 0 0 (va_A [(h0, .inr (14, [.int 0, .int 0, .int (-1), .int 0, .ref mp, .ref mq, .ref ms, .int 0, .int 0, .ref mo, .ref mt, .int 0, .int 0, .int 0, .int 0, .int 0, .int 0, .int 0, .int 0, .int 0, .int 0, .long 0, .ref ml, .ref mw, .int 0, .ref m1, .int 0, .int 0, .int 0, .int 0, .ref m2, .ref m3, .int 0, .int 0, .ref m4, .ref m5, .ref m6, .ref m7, .ref m8, .ref m9]))] sz) := by
  refine Met.ofW (cc := cX14_tell) (maxL := 5) (ret := (some .int)) (by decide) rfl ?_
  intro p e s m args below meth c s₁ B hml hv
  obtain ⟨rfl, hsz, hP, hK, hD0, hN⟩ := hv
  have hx := B.exec
  have hb := B.bytes
  have hr := B.returns
  have hts := atoms_spec (ws := z_wX14_tell) B.pre
  have hown : s.vm.findClass RX14 = some m.cls := findClass_of_methodNamed B.named
  have hlocks := B.notSynchronized
  have hin_14 : ∀ w ∈ u_ws RX14 TX14 40, w ∈ z_wX14_tell := by decide +kernel
  subst hsz
  have hD := hD0.self (sz := s.heap.size)
  generalize hAe : va_A [(h0, .inr (14, [.int 0, .int 0, .int (-1), .int 0, .ref mp, .ref mq, .ref ms, .int 0, .int 0, .ref mo, .ref mt, .int 0, .int 0, .int 0, .int 0, .int 0, .int 0, .int 0, .int 0, .int 0, .int 0, .long 0, .ref ml, .ref mw, .int 0, .ref m1, .int 0, .int 0, .int 0, .int 0, .ref m2, .ref m3, .int 0, .int 0, .ref m4, .ref m5, .ref m6, .ref m7, .ref m8, .ref m9]))] s.heap.size = A at hD ⊢
  have hA : ∀ q : Nat, s.heap.size ≤ q → A q := fun q h => by rw [← hAe]; exact Or.inr h
  have hS : va_S A s.heap s.heap [] := va_S.rf
  have hP : va_P (dC, dI) z_Cl [(h0, .inr (14, [.int 0, .int 0, .int (-1), .int 0, .ref mp, .ref mq, .ref ms, .int 0, .int 0, .ref mo, .ref mt, .int 0, .int 0, .int 0, .int 0, .int 0, .int 0, .int 0, .int 0, .int 0, .int 0, .long 0, .ref ml, .ref mw, .int 0, .ref m1, .int 0, .int 0, .int 0, .int 0, .ref m2, .ref m3, .int 0, .int 0, .ref m4, .ref m5, .ref m6, .ref m7, .ref m8, .ref m9]))] s.heap := hP
  have hl := lv_entry ([.ref h0, .int p1, .int p2, .int p3, .int p4]) (n := 5) (Nat.le_of_ble_eq_true rfl)
  rw [lg_entry_eq]
  generalize (lg_sl ([.ref h0, .int p1, .int p2, .int p3, .int p4]) ++ List.replicate (5 - (lg_sl ([.ref h0, .int p1, .int p2, .int p3, .int p4])).length) Slot.unset).toArray = ls at hl ⊢
  have hl : lv_has ls 5 [(0, .ref h0), (1, .int p1), (2, .int p2), (3, .int p3), (4, .int p4)] := hl
  refine lv_aload_n hx hb dX14_tell_0 rfl (lv_at hl 0 rfl) ?_
  refine lv_iconst (v := 0) hx hb dX14_tell_1 (by decide) ?_
  refine va_put (D := (dC, dI)) (ci := 14) (v := .int 0) (ty := .int) (C := RX14) (T := TX14) (N := 40) hx hb hts hin_14 tyX14 tyX14_ok nmX14 hown hK hP hD hS 0 rfl rfl 0 (by decide) (hts (.fieldLink RX14 76 "LessonMakerModel" "thrown" "I") (List.mem_of_getElem? (i := 1) rfl)) (fun _ h9 => h9) rfl (by decide +kernel) rfl rfl (Nat.le_of_ble_eq_true rfl) dX14_tell_2 (fun H locs hP hD hS => ?_)
  have hP : va_P (dC, dI) z_Cl [(h0, .inr (14, [.int 0, .int 0, .int (-1), .int 0, .ref mp, .ref mq, .ref ms, .int 0, .int 0, .ref mo, .ref mt, .int 0, .int 0, .int 0, .int 0, .int 0, .int 0, .int 0, .int 0, .int 0, .int 0, .long 0, .ref ml, .ref mw, .int 0, .ref m1, .int 0, .int 0, .int 0, .int 0, .ref m2, .ref m3, .int 0, .int 0, .ref m4, .ref m5, .ref m6, .ref m7, .ref m8, .ref m9]))] H := hP
  have hD : va_D A [(h0, .inr (14, [.int 0, .int 0, .int (-1), .int 0, .ref mp, .ref mq, .ref ms, .int 0, .int 0, .ref mo, .ref mt, .int 0, .int 0, .int 0, .int 0, .int 0, .int 0, .int 0, .int 0, .int 0, .int 0, .long 0, .ref ml, .ref mw, .int 0, .ref m1, .int 0, .int 0, .int 0, .int 0, .ref m2, .ref m3, .int 0, .int 0, .ref m4, .ref m5, .ref m6, .ref m7, .ref m8, .ref m9]))] := hD
  refine lv_aload_n hx hb dX14_tell_5 rfl (lv_at hl 0 rfl) ?_
  refine lv_iload_n hx hb dX14_tell_6 rfl (lv_at hl 1 rfl) ?_
  have hPc := hP.sub (ws' := [(h0, .inr (14, [.int 0, .int 0, .int (-1), .int 0, .ref mp, .ref mq, .ref ms, .int 0, .int 0, .ref mo, .ref mt, .int 0, .int 0, .int 0, .int 0, .int 0, .int 0, .int 0, .int 0, .int 0, .int 0, .long 0, .ref ml, .ref mw, .int 0, .ref m1, .int 0, .int 0, .int 0, .int 0, .ref m2, .ref m3, .int 0, .int 0, .ref m4, .ref m5, .ref m6, .ref m7, .ref m8, .ref m9]))]) [0] rfl
  have hDc := hD.sub (ws' := [(h0, .inr (14, [.int 0, .int 0, .int (-1), .int 0, .ref mp, .ref mq, .ref ms, .int 0, .int 0, .ref mo, .ref mt, .int 0, .int 0, .int 0, .int 0, .int 0, .int 0, .int 0, .int 0, .int 0, .int 0, .long 0, .ref ml, .ref mw, .int 0, .ref m1, .int 0, .int 0, .int 0, .int 0, .ref m2, .ref m3, .int 0, .int 0, .ref m4, .ref m5, .ref m6, .ref m7, .ref m8, .ref m9]))]) [0] (by decide) rfl
  have hKc := hK.sub (tys' := []) [] rfl
  have hFc := va_free (wc := [(h0, .inr (14, [.int 0, .int 0, .int (-1), .int 0, .ref mp, .ref mq, .ref ms, .int 0, .int 0, .ref mo, .ref mt, .int 0, .int 0, .int 0, .int 0, .int 0, .int 0, .int 0, .int 0, .int 0, .int 0, .long 0, .ref ml, .ref mw, .int 0, .ref m1, .int 0, .int 0, .int 0, .int 0, .ref m2, .ref m3, .int 0, .int 0, .ref m4, .ref m5, .ref m6, .ref m7, .ref m8, .ref m9]))]) hD hS hA [0] rfl
  refine va_calli (va_runV (As := [.int p1]) (rest := []) ⟨hx, hb, hml, hown, hts⟩ (c_X14_isFunction l dC dI h0 mp mq ms mo mt ml mw m1 m2 m3 m4 m5 m6 m7 m8 m9 p1 H.size) (cwV 1 hts c_X14_tell_zg_1 rfl rfl rfl (by decide +kernel) ⟨(Nat.le_of_ble_eq_true rfl), (Nat.le_of_ble_eq_true rfl)⟩) ⟨z_blind, va_recv hKc hPc (ci := 14) (q0 := 0) rfl rfl, z_pre hPc hKc hDc hN⟩ rfl rfl hl.1 rfl (lv_room (Nat.le_of_ble_eq_true rfl)) dX14_tell_7 ⟨(Nat.le_of_ble_eq_true rfl), (Nat.le_of_ble_eq_true rfl)⟩) hS (fun q _ h => hFc q h) hFc (fun r_2 u t H1 locs ht hvm hw hB hz1 hk1 hS => ?_)
  obtain ⟨hP1, hK1, hD1⟩ := hB
  rw [ht] at hP1
  have hK1 := va_K.moved hvm.symm hK1
  obtain ⟨hP, hD⟩ := va_join (wr := []) (w1 := [(h0, .inr (14, [.int 0, .int 0, .int (-1), .int 0, .ref mp, .ref mq, .ref ms, .int 0, .int 0, .ref mo, .ref mt, .int 0, .int 0, .int 0, .int 0, .int 0, .int 0, .int 0, .int 0, .int 0, .int 0, .long 0, .ref ml, .ref mw, .int 0, .ref m1, .int 0, .int 0, .int 0, .int 0, .ref m2, .ref m3, .int 0, .int 0, .ref m4, .ref m5, .ref m6, .ref m7, .ref m8, .ref m9]))]) hP hD [0] [] rfl rfl (by decide) (by decide) hk1 hFc hP1 hD1
  have hK := (hK.sub (tys' := []) [] rfl).app hK1
  generalize H1 = H at hP hS ⊢
  have hP : va_P (dC, dI) z_Cl [(h0, .inr (14, [.int 0, .int 0, .int (-1), .int 0, .ref mp, .ref mq, .ref ms, .int 0, .int 0, .ref mo, .ref mt, .int 0, .int 0, .int 0, .int 0, .int 0, .int 0, .int 0, .int 0, .int 0, .int 0, .long 0, .ref ml, .ref mw, .int 0, .ref m1, .int 0, .int 0, .int 0, .int 0, .ref m2, .ref m3, .int 0, .int 0, .ref m4, .ref m5, .ref m6, .ref m7, .ref m8, .ref m9]))] H := hP
  have hD : va_D A [(h0, .inr (14, [.int 0, .int 0, .int (-1), .int 0, .ref mp, .ref mq, .ref ms, .int 0, .int 0, .ref mo, .ref mt, .int 0, .int 0, .int 0, .int 0, .int 0, .int 0, .int 0, .int 0, .int 0, .int 0, .long 0, .ref ml, .ref mw, .int 0, .ref m1, .int 0, .int 0, .int 0, .int 0, .ref m2, .ref m3, .int 0, .int 0, .ref m4, .ref m5, .ref m6, .ref m7, .ref m8, .ref m9]))] := hD
  have hK : va_K (dC, dI) z_Cl [] s := hK
  have hw : r_2 = 0 := hw
  subst hw
  refine lv_if_ne (tgt := 19) hx hb dX14_tell_10 (by decide) (fun h9 => absurd (by decide) h9) (fun _ => ?_)
  refine lv_aload_n hx hb dX14_tell_13 rfl (lv_at hl 0 rfl) ?_
  refine lv_iconst (v := 1) hx hb dX14_tell_14 (by decide) ?_
  have hPc := hP.sub (ws' := [(h0, .inr (14, [.int 0, .int 0, .int (-1), .int 0, .ref mp, .ref mq, .ref ms, .int 0, .int 0, .ref mo, .ref mt, .int 0, .int 0, .int 0, .int 0, .int 0, .int 0, .int 0, .int 0, .int 0, .int 0, .long 0, .ref ml, .ref mw, .int 0, .ref m1, .int 0, .int 0, .int 0, .int 0, .ref m2, .ref m3, .int 0, .int 0, .ref m4, .ref m5, .ref m6, .ref m7, .ref m8, .ref m9]))]) [0] rfl
  have hDc := hD.sub (ws' := [(h0, .inr (14, [.int 0, .int 0, .int (-1), .int 0, .ref mp, .ref mq, .ref ms, .int 0, .int 0, .ref mo, .ref mt, .int 0, .int 0, .int 0, .int 0, .int 0, .int 0, .int 0, .int 0, .int 0, .int 0, .long 0, .ref ml, .ref mw, .int 0, .ref m1, .int 0, .int 0, .int 0, .int 0, .ref m2, .ref m3, .int 0, .int 0, .ref m4, .ref m5, .ref m6, .ref m7, .ref m8, .ref m9]))]) [0] (by decide) rfl
  have hKc := hK.sub (tys' := []) [] rfl
  have hFc := va_free (wc := [(h0, .inr (14, [.int 0, .int 0, .int (-1), .int 0, .ref mp, .ref mq, .ref ms, .int 0, .int 0, .ref mo, .ref mt, .int 0, .int 0, .int 0, .int 0, .int 0, .int 0, .int 0, .int 0, .int 0, .int 0, .long 0, .ref ml, .ref mw, .int 0, .ref m1, .int 0, .int 0, .int 0, .int 0, .ref m2, .ref m3, .int 0, .int 0, .ref m4, .ref m5, .ref m6, .ref m7, .ref m8, .ref m9]))]) hD hS hA [0] rfl
  refine va_calli (va_runV (As := [.int 1]) (rest := []) ⟨hx, hb, hml, hown, hts⟩ (c_X14_refused l dC dI h0 mp mq ms mo mt ml mw m1 m2 m3 m4 m5 m6 m7 m8 m9 1 H.size) (cwV 1 hts c_X14_tell_zg_3 rfl rfl rfl (by decide +kernel) ⟨(Nat.le_of_ble_eq_true rfl), (Nat.le_of_ble_eq_true rfl)⟩) ⟨z_blind, va_recv hKc hPc (ci := 14) (q0 := 0) rfl rfl, z_pre hPc hKc hDc hN⟩ rfl rfl hl.1 rfl (lv_room (Nat.le_of_ble_eq_true rfl)) dX14_tell_15 ⟨(Nat.le_of_ble_eq_true rfl), (Nat.le_of_ble_eq_true rfl)⟩) hS (fun q _ h => hFc q h) hFc (fun r_4 u t H1 locs ht hvm hw hB hz1 hk1 hS => ?_)
  obtain ⟨hP1, hK1, hD1⟩ := hB
  rw [ht] at hP1
  have hK1 := va_K.moved hvm.symm hK1
  obtain ⟨hP, hD⟩ := va_join (wr := []) (w1 := []) hP hD [0] [] rfl rfl (by decide) (by decide) hk1 hFc hP1 hD1
  have hK := (hK.sub (tys' := []) [] rfl).app hK1
  generalize H1 = H at hP hS ⊢
  have hP : va_P (dC, dI) z_Cl [] H := hP
  have hD : va_D A [] := hD
  have hK : va_K (dC, dI) z_Cl [] s := hK
  have hw : r_4 = (-1) := hw
  subst hw
  have hP9 := hP.sub (ws' := []) [] rfl
  have hD9 := hD.sub (ws' := []) [] (by decide) rfl
  have hK9 := hK.sub (tys' := []) [] rfl
  refine W.widen (k := 0) (n := 0) (Nat.le_of_ble_eq_true rfl) (Nat.le_of_ble_eq_true rfl) ?_
  exact W.iret (v := (-1)) hx hb hr (fun t ht hW => ⟨⟨(-1), (), rfl, rfl, by rw [ht]; exact hP9, va_K.moved hW.alike hK9, hD9⟩, hS.F ht⟩) hS.2.2 dX14_tell_18

def z_wX14_anew : List Cond := .code yX14_anew cX14_anew 6 (some .int) :: ([.fieldLink RX14 76 "LessonMakerModel" "thrown" "I", .fieldLink RX14 318 "LessonMakerModel" "is" "Z", .methodLink RX14 336 yX14_isFunction, .instanceMethod yX14_isFunction, .selects RX14 yX14_isFunction yX14_isFunction, .initialized RX14, .code yX14_isFunction cX14_isFunction 2 (some .boolean)] ++ (u_ws RX14 TX14 40))
set_option maxRecDepth 20000 in
theorem c_X14_anew_zg_1 : GoodIn z_wX14_anew (wsV RX14 336 RX14 yX14_isFunction z_wX14_isFunction) := goodIn_r _ [3, 4, 5, 6, 7, 2, 8, 9, 10, 11, 12, 13, 14, 15, 16, 17, 18, 19, 20, 21, 22, 23, 24, 25, 26, 27, 28, 29, 30, 31, 32, 33, 34, 35, 36, 37, 38, 39, 40, 41, 42, 43, 44, 45, 46, 47] (by decide +kernel) (by decide +kernel)
set_option maxHeartbeats 4000000 in
set_option maxRecDepth 100000 in
theorem c_X14_anew (l : Launch) (dC : Nat → ClassId) (dI : Nat → Nat → Nat) (h0 : Nat) (mp : Nat) (mq : Nat) (ms : Nat) (mo : Nat) (mt : Nat) (ml : Nat) (mw : Nat) (m1 : Nat) (m2 : Nat) (m3 : Nat) (m4 : Nat) (m5 : Nat) (m6 : Nat) (m7 : Nat) (m8 : Nat) (m9 : Nat) (p1 : Int32) (sz : Nat) : Met l yX14_anew z_wX14_anew ({ frames := 1, cells := 0, slots := 0, locals := 21 }) (va_Pc [.ref h0, .int p1] (z_in dC dI [(h0, .inr (14, [.int 0, .int 0, .int (-1), .int 0, .ref mp, .ref mq, .ref ms, .int 0, .int 0, .ref mo, .ref mt, .int 0, .int 0, .int 0, .int 0, .int 0, .int 0, .int 0, .int 0, .int 0, .int 0, .long 0, .ref ml, .ref mw, .int 0, .ref m1, .int 0, .int 0, .int 0, .int 0, .ref m2, .ref m3, .int 0, .int 0, .ref m4, .ref m5, .ref m6, .ref m7, .ref m8, .ref m9]))] [] sz)) (va_Qi (fun (r : Int32) (_ : Unit) => r = (-1)) (fun (_ : Unit) t => z_out dC dI (va_A [(h0, .inr (14, [.int 0, .int 0, .int (-1), .int 0, .ref mp, .ref mq, .ref ms, .int 0, .int 0, .ref mo, .ref mt, .int 0, .int 0, .int 0, .int 0, .int 0, .int 0, .int 0, .int 0, .int 0, .int 0, .long 0, .ref ml, .ref mw, .int 0, .ref m1, .int 0, .int 0, .int 0, .int 0, .ref m2, .ref m3, .int 0, .int 0, .ref m4, .ref m5, .ref m6, .ref m7, .ref m8, .ref m9]))] sz) [] [] t) (va_A [(h0, .inr (14, [.int 0, .int 0, .int (-1), .int 0, .ref mp, .ref mq, .ref ms, .int 0, .int 0, .ref mo, .ref mt, .int 0, .int 0, .int 0, .int 0, .int 0, .int 0, .int 0, .int 0, .int 0, .int 0, .long 0, .ref ml, .ref mw, .int 0, .ref m1, .int 0, .int 0, .int 0, .int 0, .ref m2, .ref m3, .int 0, .int 0, .ref m4, .ref m5, .ref m6, .ref m7, .ref m8, .ref m9]))] sz)) 0 0 (va_A [(h0, .inr (14, [.int 0, .int 0, .int (-1), .int 0, .ref mp, .ref mq, .ref ms, .int 0, .int 0, .ref mo, .ref mt, .int 0, .int 0, .int 0, .int 0, .int 0, .int 0, .int 0, .int 0, .int 0, .int 0, .long 0, .ref ml, .ref mw, .int 0, .ref m1, .int 0, .int 0, .int 0, .int 0, .ref m2, .ref m3, .int 0, .int 0, .ref m4, .ref m5, .ref m6, .ref m7, .ref m8, .ref m9]))] sz) := by
  refine Met.ofW (cc := cX14_anew) (maxL := 6) (ret := (some .int)) (by decide) rfl ?_
  intro p e s m args below meth c s₁ B hml hv
  obtain ⟨rfl, hsz, hP, hK, hD0, hN⟩ := hv
  have hx := B.exec
  have hb := B.bytes
  have hr := B.returns
  have hts := atoms_spec (ws := z_wX14_anew) B.pre
  have hown : s.vm.findClass RX14 = some m.cls := findClass_of_methodNamed B.named
  have hlocks := B.notSynchronized
  have hin_14 : ∀ w ∈ u_ws RX14 TX14 40, w ∈ z_wX14_anew := by decide +kernel
  subst hsz
  have hD := hD0.self (sz := s.heap.size)
  generalize hAe : va_A [(h0, .inr (14, [.int 0, .int 0, .int (-1), .int 0, .ref mp, .ref mq, .ref ms, .int 0, .int 0, .ref mo, .ref mt, .int 0, .int 0, .int 0, .int 0, .int 0, .int 0, .int 0, .int 0, .int 0, .int 0, .long 0, .ref ml, .ref mw, .int 0, .ref m1, .int 0, .int 0, .int 0, .int 0, .ref m2, .ref m3, .int 0, .int 0, .ref m4, .ref m5, .ref m6, .ref m7, .ref m8, .ref m9]))] s.heap.size = A at hD ⊢
  have hA : ∀ q : Nat, s.heap.size ≤ q → A q := fun q h => by rw [← hAe]; exact Or.inr h
  have hS : va_S A s.heap s.heap [] := va_S.rf
  have hP : va_P (dC, dI) z_Cl [(h0, .inr (14, [.int 0, .int 0, .int (-1), .int 0, .ref mp, .ref mq, .ref ms, .int 0, .int 0, .ref mo, .ref mt, .int 0, .int 0, .int 0, .int 0, .int 0, .int 0, .int 0, .int 0, .int 0, .int 0, .long 0, .ref ml, .ref mw, .int 0, .ref m1, .int 0, .int 0, .int 0, .int 0, .ref m2, .ref m3, .int 0, .int 0, .ref m4, .ref m5, .ref m6, .ref m7, .ref m8, .ref m9]))] s.heap := hP
  have hl := lv_entry ([.ref h0, .int p1]) (n := 6) (Nat.le_of_ble_eq_true rfl)
  rw [lg_entry_eq]
  generalize (lg_sl ([.ref h0, .int p1]) ++ List.replicate (6 - (lg_sl ([.ref h0, .int p1])).length) Slot.unset).toArray = ls at hl ⊢
  have hl : lv_has ls 6 [(0, .ref h0), (1, .int p1)] := hl
  refine lv_aload_n hx hb dX14_anew_0 rfl (lv_at hl 0 rfl) ?_
  refine lv_iconst (v := 0) hx hb dX14_anew_1 (by decide) ?_
  refine va_put (D := (dC, dI)) (ci := 14) (v := .int 0) (ty := .int) (C := RX14) (T := TX14) (N := 40) hx hb hts hin_14 tyX14 tyX14_ok nmX14 hown hK hP hD hS 0 rfl rfl 0 (by decide) (hts (.fieldLink RX14 76 "LessonMakerModel" "thrown" "I") (List.mem_of_getElem? (i := 1) rfl)) (fun _ h9 => h9) rfl (by decide +kernel) rfl rfl (Nat.le_of_ble_eq_true rfl) dX14_anew_2 (fun H locs hP hD hS => ?_)
  have hP : va_P (dC, dI) z_Cl [(h0, .inr (14, [.int 0, .int 0, .int (-1), .int 0, .ref mp, .ref mq, .ref ms, .int 0, .int 0, .ref mo, .ref mt, .int 0, .int 0, .int 0, .int 0, .int 0, .int 0, .int 0, .int 0, .int 0, .int 0, .long 0, .ref ml, .ref mw, .int 0, .ref m1, .int 0, .int 0, .int 0, .int 0, .ref m2, .ref m3, .int 0, .int 0, .ref m4, .ref m5, .ref m6, .ref m7, .ref m8, .ref m9]))] H := hP
  have hD : va_D A [(h0, .inr (14, [.int 0, .int 0, .int (-1), .int 0, .ref mp, .ref mq, .ref ms, .int 0, .int 0, .ref mo, .ref mt, .int 0, .int 0, .int 0, .int 0, .int 0, .int 0, .int 0, .int 0, .int 0, .int 0, .long 0, .ref ml, .ref mw, .int 0, .ref m1, .int 0, .int 0, .int 0, .int 0, .ref m2, .ref m3, .int 0, .int 0, .ref m4, .ref m5, .ref m6, .ref m7, .ref m8, .ref m9]))] := hD
  refine lv_aload_n hx hb dX14_anew_5 rfl (lv_at hl 0 rfl) ?_
  refine lv_iload_n hx hb dX14_anew_6 rfl (lv_at hl 1 rfl) ?_
  have hPc := hP.sub (ws' := [(h0, .inr (14, [.int 0, .int 0, .int (-1), .int 0, .ref mp, .ref mq, .ref ms, .int 0, .int 0, .ref mo, .ref mt, .int 0, .int 0, .int 0, .int 0, .int 0, .int 0, .int 0, .int 0, .int 0, .int 0, .long 0, .ref ml, .ref mw, .int 0, .ref m1, .int 0, .int 0, .int 0, .int 0, .ref m2, .ref m3, .int 0, .int 0, .ref m4, .ref m5, .ref m6, .ref m7, .ref m8, .ref m9]))]) [0] rfl
  have hDc := hD.sub (ws' := [(h0, .inr (14, [.int 0, .int 0, .int (-1), .int 0, .ref mp, .ref mq, .ref ms, .int 0, .int 0, .ref mo, .ref mt, .int 0, .int 0, .int 0, .int 0, .int 0, .int 0, .int 0, .int 0, .int 0, .int 0, .long 0, .ref ml, .ref mw, .int 0, .ref m1, .int 0, .int 0, .int 0, .int 0, .ref m2, .ref m3, .int 0, .int 0, .ref m4, .ref m5, .ref m6, .ref m7, .ref m8, .ref m9]))]) [0] (by decide) rfl
  have hKc := hK.sub (tys' := []) [] rfl
  have hFc := va_free (wc := [(h0, .inr (14, [.int 0, .int 0, .int (-1), .int 0, .ref mp, .ref mq, .ref ms, .int 0, .int 0, .ref mo, .ref mt, .int 0, .int 0, .int 0, .int 0, .int 0, .int 0, .int 0, .int 0, .int 0, .int 0, .long 0, .ref ml, .ref mw, .int 0, .ref m1, .int 0, .int 0, .int 0, .int 0, .ref m2, .ref m3, .int 0, .int 0, .ref m4, .ref m5, .ref m6, .ref m7, .ref m8, .ref m9]))]) hD hS hA [0] rfl
  refine va_calli (va_runV (As := [.int p1]) (rest := []) ⟨hx, hb, hml, hown, hts⟩ (c_X14_isFunction l dC dI h0 mp mq ms mo mt ml mw m1 m2 m3 m4 m5 m6 m7 m8 m9 p1 H.size) (cwV 1 hts c_X14_anew_zg_1 rfl rfl rfl (by decide +kernel) ⟨(Nat.le_of_ble_eq_true rfl), (Nat.le_of_ble_eq_true rfl)⟩) ⟨z_blind, va_recv hKc hPc (ci := 14) (q0 := 0) rfl rfl, z_pre hPc hKc hDc hN⟩ rfl rfl hl.1 rfl (lv_room (Nat.le_of_ble_eq_true rfl)) dX14_anew_7 ⟨(Nat.le_of_ble_eq_true rfl), (Nat.le_of_ble_eq_true rfl)⟩) hS (fun q _ h => hFc q h) hFc (fun r_2 u t H1 locs ht hvm hw hB hz1 hk1 hS => ?_)
  obtain ⟨hP1, hK1, hD1⟩ := hB
  rw [ht] at hP1
  have hK1 := va_K.moved hvm.symm hK1
  obtain ⟨hP, hD⟩ := va_join (wr := []) (w1 := [(h0, .inr (14, [.int 0, .int 0, .int (-1), .int 0, .ref mp, .ref mq, .ref ms, .int 0, .int 0, .ref mo, .ref mt, .int 0, .int 0, .int 0, .int 0, .int 0, .int 0, .int 0, .int 0, .int 0, .int 0, .long 0, .ref ml, .ref mw, .int 0, .ref m1, .int 0, .int 0, .int 0, .int 0, .ref m2, .ref m3, .int 0, .int 0, .ref m4, .ref m5, .ref m6, .ref m7, .ref m8, .ref m9]))]) hP hD [0] [] rfl rfl (by decide) (by decide) hk1 hFc hP1 hD1
  have hK := (hK.sub (tys' := []) [] rfl).app hK1
  generalize H1 = H at hP hS ⊢
  have hP : va_P (dC, dI) z_Cl [(h0, .inr (14, [.int 0, .int 0, .int (-1), .int 0, .ref mp, .ref mq, .ref ms, .int 0, .int 0, .ref mo, .ref mt, .int 0, .int 0, .int 0, .int 0, .int 0, .int 0, .int 0, .int 0, .int 0, .int 0, .long 0, .ref ml, .ref mw, .int 0, .ref m1, .int 0, .int 0, .int 0, .int 0, .ref m2, .ref m3, .int 0, .int 0, .ref m4, .ref m5, .ref m6, .ref m7, .ref m8, .ref m9]))] H := hP
  have hD : va_D A [(h0, .inr (14, [.int 0, .int 0, .int (-1), .int 0, .ref mp, .ref mq, .ref ms, .int 0, .int 0, .ref mo, .ref mt, .int 0, .int 0, .int 0, .int 0, .int 0, .int 0, .int 0, .int 0, .int 0, .int 0, .long 0, .ref ml, .ref mw, .int 0, .ref m1, .int 0, .int 0, .int 0, .int 0, .ref m2, .ref m3, .int 0, .int 0, .ref m4, .ref m5, .ref m6, .ref m7, .ref m8, .ref m9]))] := hD
  have hK : va_K (dC, dI) z_Cl [] s := hK
  have hw : r_2 = 0 := hw
  subst hw
  refine lv_if_ne (tgt := 15) hx hb dX14_anew_10 (by decide) (fun h9 => absurd (by decide) h9) (fun _ => ?_)
  refine lv_iconst (v := (-1)) hx hb dX14_anew_13 (by decide) ?_
  have hP9 := hP.sub (ws' := []) [] rfl
  have hD9 := hD.sub (ws' := []) [] (by decide) rfl
  have hK9 := hK.sub (tys' := []) [] rfl
  refine W.widen (k := 0) (n := 0) (Nat.le_of_ble_eq_true rfl) (Nat.le_of_ble_eq_true rfl) ?_
  exact W.iret (v := (-1)) hx hb hr (fun t ht hW => ⟨⟨(-1), (), rfl, rfl, by rw [ht]; exact hP9, va_K.moved hW.alike hK9, hD9⟩, hS.F ht⟩) hS.2.2 dX14_anew_14

def z_wX14_gone : List Cond := .code yX14_gone cX14_gone 3 (some .int) :: ([.fieldLink RX14 76 "LessonMakerModel" "thrown" "I", .fieldLink RX14 321 "LessonMakerModel" "isPast" "Z"] ++ (u_ws RX14 TX14 40))
set_option maxHeartbeats 4000000 in
set_option maxRecDepth 100000 in
theorem c_X14_gone (l : Launch) (dC : Nat → ClassId) (dI : Nat → Nat → Nat) (h0 : Nat) (mp : Nat) (mq : Nat) (ms : Nat) (mo : Nat) (mt : Nat) (ml : Nat) (mw : Nat) (m1 : Nat) (m2 : Nat) (m3 : Nat) (m4 : Nat) (m5 : Nat) (m6 : Nat) (m7 : Nat) (m8 : Nat) (m9 : Nat) (sz : Nat) : Met l yX14_gone z_wX14_gone ({ frames := 0, cells := 0, slots := 0, locals := 0 }) (va_Pc [.ref h0] (z_in dC dI [(h0, .inr (14, [.int 0, .int 0, .int (-1), .int 0, .ref mp, .ref mq, .ref ms, .int 0, .int 0, .ref mo, .ref mt, .int 0, .int 0, .int 0, .int 0, .int 0, .int 0, .int 0, .int 0, .int 0, .int 0, .long 0, .ref ml, .ref mw, .int 0, .ref m1, .int 0, .int 0, .int 0, .int 0, .ref m2, .ref m3, .int 0, .int 0, .ref m4, .ref m5, .ref m6, .ref m7, .ref m8, .ref m9]))] [] sz)) (va_Qi (fun (r : Int32) (_ : Unit) => r = 0) (fun (_ : Unit) t => z_out dC dI (va_A [(h0, .inr (14, [.int 0, .int 0, .int (-1), .int 0, .ref mp, .ref mq, .ref ms, .int 0, .int 0, .ref mo, .ref mt, .int 0, .int 0, .int 0, .int 0, .int 0, .int 0, .int 0, .int 0, .int 0, .int 0, .long 0, .ref ml, .ref mw, .int 0, .ref m1, .int 0, .int 0, .int 0, .int 0, .ref m2, .ref m3, .int 0, .int 0, .ref m4, .ref m5, .ref m6, .ref m7, .ref m8, .ref m9]))] sz) [] [] t) (va_A [(h0, .inr (14, [.int 0, .int 0, .int (-1), .int 0, .ref mp, .ref mq, .ref ms, .int 0, .int 0, .ref mo, .ref mt, .int 0, .int 0, .int 0, .int 0, .int 0, .int 0, .int 0, .int 0, .int 0, .int 0, .long 0, .ref ml, .ref mw, .int 0, .ref m1, .int 0, .int 0, .int 0, .int 0, .ref m2, .ref m3, .int 0, .int 0, .ref m4, .ref m5, .ref m6, .ref m7, .ref m8, .ref m9]))] sz)) 0 0 (va_A [(h0, .inr (14, [.int 0, .int 0, .int (-1), .int 0, .ref mp, .ref mq, .ref ms, .int 0, .int 0, .ref mo, .ref mt, .int 0, .int 0, .int 0, .int 0, .int 0, .int 0, .int 0, .int 0, .int 0, .int 0, .long 0, .ref ml, .ref mw, .int 0, .ref m1, .int 0, .int 0, .int 0, .int 0, .ref m2, .ref m3, .int 0, .int 0, .ref m4, .ref m5, .ref m6, .ref m7, .ref m8, .ref m9]))] sz) := by
  refine Met.ofW (cc := cX14_gone) (maxL := 3) (ret := (some .int)) (by decide) rfl ?_
  intro p e s m args below meth c s₁ B hml hv
  obtain ⟨rfl, hsz, hP, hK, hD0, hN⟩ := hv
  have hx := B.exec
  have hb := B.bytes
  have hr := B.returns
  have hts := atoms_spec (ws := z_wX14_gone) B.pre
  have hown : s.vm.findClass RX14 = some m.cls := findClass_of_methodNamed B.named
  have hlocks := B.notSynchronized
  have hin_14 : ∀ w ∈ u_ws RX14 TX14 40, w ∈ z_wX14_gone := by decide +kernel
  subst hsz
  have hD := hD0.self (sz := s.heap.size)
  generalize hAe : va_A [(h0, .inr (14, [.int 0, .int 0, .int (-1), .int 0, .ref mp, .ref mq, .ref ms, .int 0, .int 0, .ref mo, .ref mt, .int 0, .int 0, .int 0, .int 0, .int 0, .int 0, .int 0, .int 0, .int 0, .int 0, .long 0, .ref ml, .ref mw, .int 0, .ref m1, .int 0, .int 0, .int 0, .int 0, .ref m2, .ref m3, .int 0, .int 0, .ref m4, .ref m5, .ref m6, .ref m7, .ref m8, .ref m9]))] s.heap.size = A at hD ⊢
  have hA : ∀ q : Nat, s.heap.size ≤ q → A q := fun q h => by rw [← hAe]; exact Or.inr h
  have hS : va_S A s.heap s.heap [] := va_S.rf
  have hP : va_P (dC, dI) z_Cl [(h0, .inr (14, [.int 0, .int 0, .int (-1), .int 0, .ref mp, .ref mq, .ref ms, .int 0, .int 0, .ref mo, .ref mt, .int 0, .int 0, .int 0, .int 0, .int 0, .int 0, .int 0, .int 0, .int 0, .int 0, .long 0, .ref ml, .ref mw, .int 0, .ref m1, .int 0, .int 0, .int 0, .int 0, .ref m2, .ref m3, .int 0, .int 0, .ref m4, .ref m5, .ref m6, .ref m7, .ref m8, .ref m9]))] s.heap := hP
  have hl := lv_entry ([.ref h0]) (n := 3) (Nat.le_of_ble_eq_true rfl)
  rw [lg_entry_eq]
  generalize (lg_sl ([.ref h0]) ++ List.replicate (3 - (lg_sl ([.ref h0])).length) Slot.unset).toArray = ls at hl ⊢
  have hl : lv_has ls 3 [(0, .ref h0)] := hl
  refine lv_aload_n hx hb dX14_gone_0 rfl (lv_at hl 0 rfl) ?_
  refine lv_iconst (v := 0) hx hb dX14_gone_1 (by decide) ?_
  refine va_put (D := (dC, dI)) (ci := 14) (v := .int 0) (ty := .int) (C := RX14) (T := TX14) (N := 40) hx hb hts hin_14 tyX14 tyX14_ok nmX14 hown hK hP hD hS 0 rfl rfl 0 (by decide) (hts (.fieldLink RX14 76 "LessonMakerModel" "thrown" "I") (List.mem_of_getElem? (i := 1) rfl)) (fun _ h9 => h9) rfl (by decide +kernel) rfl rfl (Nat.le_of_ble_eq_true rfl) dX14_gone_2 (fun H locs hP hD hS => ?_)
  have hP : va_P (dC, dI) z_Cl [(h0, .inr (14, [.int 0, .int 0, .int (-1), .int 0, .ref mp, .ref mq, .ref ms, .int 0, .int 0, .ref mo, .ref mt, .int 0, .int 0, .int 0, .int 0, .int 0, .int 0, .int 0, .int 0, .int 0, .int 0, .long 0, .ref ml, .ref mw, .int 0, .ref m1, .int 0, .int 0, .int 0, .int 0, .ref m2, .ref m3, .int 0, .int 0, .ref m4, .ref m5, .ref m6, .ref m7, .ref m8, .ref m9]))] H := hP
  have hD : va_D A [(h0, .inr (14, [.int 0, .int 0, .int (-1), .int 0, .ref mp, .ref mq, .ref ms, .int 0, .int 0, .ref mo, .ref mt, .int 0, .int 0, .int 0, .int 0, .int 0, .int 0, .int 0, .int 0, .int 0, .int 0, .long 0, .ref ml, .ref mw, .int 0, .ref m1, .int 0, .int 0, .int 0, .int 0, .ref m2, .ref m3, .int 0, .int 0, .ref m4, .ref m5, .ref m6, .ref m7, .ref m8, .ref m9]))] := hD
  refine lv_iconst (v := 0) hx hb dX14_gone_5 (by decide) ?_
  refine lv_istore_n (lv' := [(1, .int 0), (0, .ref h0)]) hx hb dX14_gone_6 rfl hl (by decide) rfl (fun ls hl => ?_)
  refine lv_iconst (v := 0) hx hb dX14_gone_7 (by decide) ?_
  refine lv_istore_n (lv' := [(2, .int 0), (1, .int 0), (0, .ref h0)]) hx hb dX14_gone_8 rfl hl (by decide) rfl (fun ls hl => ?_)
  refine lv_aload_n hx hb dX14_gone_9 rfl (lv_at hl 2 rfl) ?_
  refine va_get (D := (dC, dI)) (ci := 14) (v := .int 0) (C := RX14) (T := TX14) (N := 40) hx hb hts hin_14 hown hK hP 0 rfl rfl 8 (by decide) (hts (.fieldLink RX14 321 "LessonMakerModel" "isPast" "Z") (List.mem_of_getElem? (i := 2) rfl)) (fun _ h9 => h9) rfl dX14_gone_10 ?_
  refine lv_if_eq (tgt := 61) hx hb dX14_gone_13 (by decide) (fun _ => ?_) (fun h9 => absurd (by decide) h9)
  refine lv_iload_n hx hb dX14_gone_61 rfl (lv_at hl 1 rfl) ?_
  have hP9 := hP.sub (ws' := []) [] rfl
  have hD9 := hD.sub (ws' := []) [] (by decide) rfl
  have hK9 := hK.sub (tys' := []) [] rfl
  refine W.widen (k := 0) (n := 0) (Nat.le_of_ble_eq_true rfl) (Nat.le_of_ble_eq_true rfl) ?_
  exact W.iret (v := 0) hx hb hr (fun t ht hW => ⟨⟨0, (), rfl, rfl, by rw [ht]; exact hP9, va_K.moved hW.alike hK9, hD9⟩, hS.F ht⟩) hS.2.2 dX14_gone_62

def z_wX14_trouble : List Cond := .code yX14_trouble cX14_trouble 1 (some .int) :: ([.fieldLink RX14 76 "LessonMakerModel" "thrown" "I", .fieldLink RX14 79 "LessonMakerModel" "trouble" "I"] ++ (u_ws RX14 TX14 40))
set_option maxHeartbeats 4000000 in
set_option maxRecDepth 100000 in
theorem c_X14_trouble (l : Launch) (dC : Nat → ClassId) (dI : Nat → Nat → Nat) (h0 : Nat) (mp : Nat) (mq : Nat) (ms : Nat) (mo : Nat) (mt : Nat) (ml : Nat) (mw : Nat) (m1 : Nat) (m2 : Nat) (m3 : Nat) (m4 : Nat) (m5 : Nat) (m6 : Nat) (m7 : Nat) (m8 : Nat) (m9 : Nat) (sz : Nat) : Met l yX14_trouble z_wX14_trouble ({ frames := 0, cells := 0, slots := 0, locals := 0 }) (va_Pc [.ref h0] (z_in dC dI [(h0, .inr (14, [.int 0, .int 0, .int (-1), .int 0, .ref mp, .ref mq, .ref ms, .int 0, .int 0, .ref mo, .ref mt, .int 0, .int 0, .int 0, .int 0, .int 0, .int 0, .int 0, .int 0, .int 0, .int 0, .long 0, .ref ml, .ref mw, .int 0, .ref m1, .int 0, .int 0, .int 0, .int 0, .ref m2, .ref m3, .int 0, .int 0, .ref m4, .ref m5, .ref m6, .ref m7, .ref m8, .ref m9]))] [] sz)) (va_Qi (fun (r : Int32) (_ : Unit) => r = 0) (fun (_ : Unit) t => z_out dC dI (va_A [(h0, .inr (14, [.int 0, .int 0, .int (-1), .int 0, .ref mp, .ref mq, .ref ms, .int 0, .int 0, .ref mo, .ref mt, .int 0, .int 0, .int 0, .int 0, .int 0, .int 0, .int 0, .int 0, .int 0, .int 0, .long 0, .ref ml, .ref mw, .int 0, .ref m1, .int 0, .int 0, .int 0, .int 0, .ref m2, .ref m3, .int 0, .int 0, .ref m4, .ref m5, .ref m6, .ref m7, .ref m8, .ref m9]))] sz) [] [] t) (va_A [(h0, .inr (14, [.int 0, .int 0, .int (-1), .int 0, .ref mp, .ref mq, .ref ms, .int 0, .int 0, .ref mo, .ref mt, .int 0, .int 0, .int 0, .int 0, .int 0, .int 0, .int 0, .int 0, .int 0, .int 0, .long 0, .ref ml, .ref mw, .int 0, .ref m1, .int 0, .int 0, .int 0, .int 0, .ref m2, .ref m3, .int 0, .int 0, .ref m4, .ref m5, .ref m6, .ref m7, .ref m8, .ref m9]))] sz)) 0 0 (va_A [(h0, .inr (14, [.int 0, .int 0, .int (-1), .int 0, .ref mp, .ref mq, .ref ms, .int 0, .int 0, .ref mo, .ref mt, .int 0, .int 0, .int 0, .int 0, .int 0, .int 0, .int 0, .int 0, .int 0, .int 0, .long 0, .ref ml, .ref mw, .int 0, .ref m1, .int 0, .int 0, .int 0, .int 0, .ref m2, .ref m3, .int 0, .int 0, .ref m4, .ref m5, .ref m6, .ref m7, .ref m8, .ref m9]))] sz) := by
  refine Met.ofW (cc := cX14_trouble) (maxL := 1) (ret := (some .int)) (by decide) rfl ?_
  intro p e s m args below meth c s₁ B hml hv
  obtain ⟨rfl, hsz, hP, hK, hD0, hN⟩ := hv
  have hx := B.exec
  have hb := B.bytes
  have hr := B.returns
  have hts := atoms_spec (ws := z_wX14_trouble) B.pre
  have hown : s.vm.findClass RX14 = some m.cls := findClass_of_methodNamed B.named
  have hlocks := B.notSynchronized
  have hin_14 : ∀ w ∈ u_ws RX14 TX14 40, w ∈ z_wX14_trouble := by decide +kernel
  subst hsz
  have hD := hD0.self (sz := s.heap.size)
  generalize hAe : va_A [(h0, .inr (14, [.int 0, .int 0, .int (-1), .int 0, .ref mp, .ref mq, .ref ms, .int 0, .int 0, .ref mo, .ref mt, .int 0, .int 0, .int 0, .int 0, .int 0, .int 0, .int 0, .int 0, .int 0, .int 0, .long 0, .ref ml, .ref mw, .int 0, .ref m1, .int 0, .int 0, .int 0, .int 0, .ref m2, .ref m3, .int 0, .int 0, .ref m4, .ref m5, .ref m6, .ref m7, .ref m8, .ref m9]))] s.heap.size = A at hD ⊢
  have hA : ∀ q : Nat, s.heap.size ≤ q → A q := fun q h => by rw [← hAe]; exact Or.inr h
  have hS : va_S A s.heap s.heap [] := va_S.rf
  have hP : va_P (dC, dI) z_Cl [(h0, .inr (14, [.int 0, .int 0, .int (-1), .int 0, .ref mp, .ref mq, .ref ms, .int 0, .int 0, .ref mo, .ref mt, .int 0, .int 0, .int 0, .int 0, .int 0, .int 0, .int 0, .int 0, .int 0, .int 0, .long 0, .ref ml, .ref mw, .int 0, .ref m1, .int 0, .int 0, .int 0, .int 0, .ref m2, .ref m3, .int 0, .int 0, .ref m4, .ref m5, .ref m6, .ref m7, .ref m8, .ref m9]))] s.heap := hP
  have hl := lv_entry ([.ref h0]) (n := 1) (Nat.le_of_ble_eq_true rfl)
  rw [lg_entry_eq]
  generalize (lg_sl ([.ref h0]) ++ List.replicate (1 - (lg_sl ([.ref h0])).length) Slot.unset).toArray = ls at hl ⊢
  have hl : lv_has ls 1 [(0, .ref h0)] := hl
  refine lv_aload_n hx hb dX14_trouble_0 rfl (lv_at hl 0 rfl) ?_
  refine lv_iconst (v := 0) hx hb dX14_trouble_1 (by decide) ?_
  refine va_put (D := (dC, dI)) (ci := 14) (v := .int 0) (ty := .int) (C := RX14) (T := TX14) (N := 40) hx hb hts hin_14 tyX14 tyX14_ok nmX14 hown hK hP hD hS 0 rfl rfl 0 (by decide) (hts (.fieldLink RX14 76 "LessonMakerModel" "thrown" "I") (List.mem_of_getElem? (i := 1) rfl)) (fun _ h9 => h9) rfl (by decide +kernel) rfl rfl (Nat.le_of_ble_eq_true rfl) dX14_trouble_2 (fun H locs hP hD hS => ?_)
  have hP : va_P (dC, dI) z_Cl [(h0, .inr (14, [.int 0, .int 0, .int (-1), .int 0, .ref mp, .ref mq, .ref ms, .int 0, .int 0, .ref mo, .ref mt, .int 0, .int 0, .int 0, .int 0, .int 0, .int 0, .int 0, .int 0, .int 0, .int 0, .long 0, .ref ml, .ref mw, .int 0, .ref m1, .int 0, .int 0, .int 0, .int 0, .ref m2, .ref m3, .int 0, .int 0, .ref m4, .ref m5, .ref m6, .ref m7, .ref m8, .ref m9]))] H := hP
  have hD : va_D A [(h0, .inr (14, [.int 0, .int 0, .int (-1), .int 0, .ref mp, .ref mq, .ref ms, .int 0, .int 0, .ref mo, .ref mt, .int 0, .int 0, .int 0, .int 0, .int 0, .int 0, .int 0, .int 0, .int 0, .int 0, .long 0, .ref ml, .ref mw, .int 0, .ref m1, .int 0, .int 0, .int 0, .int 0, .ref m2, .ref m3, .int 0, .int 0, .ref m4, .ref m5, .ref m6, .ref m7, .ref m8, .ref m9]))] := hD
  refine lv_aload_n hx hb dX14_trouble_5 rfl (lv_at hl 0 rfl) ?_
  refine va_get (D := (dC, dI)) (ci := 14) (v := .int 0) (C := RX14) (T := TX14) (N := 40) hx hb hts hin_14 hown hK hP 0 rfl rfl 1 (by decide) (hts (.fieldLink RX14 79 "LessonMakerModel" "trouble" "I") (List.mem_of_getElem? (i := 2) rfl)) (fun _ h9 => h9) rfl dX14_trouble_6 ?_
  have hP9 := hP.sub (ws' := []) [] rfl
  have hD9 := hD.sub (ws' := []) [] (by decide) rfl
  have hK9 := hK.sub (tys' := []) [] rfl
  refine W.widen (k := 0) (n := 0) (Nat.le_of_ble_eq_true rfl) (Nat.le_of_ble_eq_true rfl) ?_
  exact W.iret (v := 0) hx hb hr (fun t ht hW => ⟨⟨0, (), rfl, rfl, by rw [ht]; exact hP9, va_K.moved hW.alike hK9, hD9⟩, hS.F ht⟩) hS.2.2 dX14_trouble_9

def z_wX14_picked : List Cond := .code yX14_picked cX14_picked 2 (some .int) :: ([.fieldLink RX14 76 "LessonMakerModel" "thrown" "I", .fieldLink RX14 327 "LessonMakerModel" "picks" "I"] ++ (u_ws RX14 TX14 40))
set_option maxHeartbeats 4000000 in
set_option maxRecDepth 100000 in
theorem c_X14_picked (l : Launch) (dC : Nat → ClassId) (dI : Nat → Nat → Nat) (h0 : Nat) (mp : Nat) (mq : Nat) (ms : Nat) (mo : Nat) (mt : Nat) (ml : Nat) (mw : Nat) (m1 : Nat) (m2 : Nat) (m3 : Nat) (m4 : Nat) (m5 : Nat) (m6 : Nat) (m7 : Nat) (m8 : Nat) (m9 : Nat) (p1 : Int32) (sz : Nat) : Met l yX14_picked z_wX14_picked ({ frames := 0, cells := 0, slots := 0, locals := 0 }) (va_Pc [.ref h0, .int p1] (z_in dC dI [(h0, .inr (14, [.int 0, .int 0, .int (-1), .int 0, .ref mp, .ref mq, .ref ms, .int 0, .int 0, .ref mo, .ref mt, .int 0, .int 0, .int 0, .int 0, .int 0, .int 0, .int 0, .int 0, .int 0, .int 0, .long 0, .ref ml, .ref mw, .int 0, .ref m1, .int 0, .int 0, .int 0, .int 0, .ref m2, .ref m3, .int 0, .int 0, .ref m4, .ref m5, .ref m6, .ref m7, .ref m8, .ref m9]))] [] sz)) (va_Qi (fun (r : Int32) (_ : Unit) => r = (-1)) (fun (_ : Unit) t => z_out dC dI (va_A [(h0, .inr (14, [.int 0, .int 0, .int (-1), .int 0, .ref mp, .ref mq, .ref ms, .int 0, .int 0, .ref mo, .ref mt, .int 0, .int 0, .int 0, .int 0, .int 0, .int 0, .int 0, .int 0, .int 0, .int 0, .long 0, .ref ml, .ref mw, .int 0, .ref m1, .int 0, .int 0, .int 0, .int 0, .ref m2, .ref m3, .int 0, .int 0, .ref m4, .ref m5, .ref m6, .ref m7, .ref m8, .ref m9]))] sz) [] [] t) (va_A [(h0, .inr (14, [.int 0, .int 0, .int (-1), .int 0, .ref mp, .ref mq, .ref ms, .int 0, .int 0, .ref mo, .ref mt, .int 0, .int 0, .int 0, .int 0, .int 0, .int 0, .int 0, .int 0, .int 0, .int 0, .long 0, .ref ml, .ref mw, .int 0, .ref m1, .int 0, .int 0, .int 0, .int 0, .ref m2, .ref m3, .int 0, .int 0, .ref m4, .ref m5, .ref m6, .ref m7, .ref m8, .ref m9]))] sz)) 0 0 (va_A [(h0, .inr (14, [.int 0, .int 0, .int (-1), .int 0, .ref mp, .ref mq, .ref ms, .int 0, .int 0, .ref mo, .ref mt, .int 0, .int 0, .int 0, .int 0, .int 0, .int 0, .int 0, .int 0, .int 0, .int 0, .long 0, .ref ml, .ref mw, .int 0, .ref m1, .int 0, .int 0, .int 0, .int 0, .ref m2, .ref m3, .int 0, .int 0, .ref m4, .ref m5, .ref m6, .ref m7, .ref m8, .ref m9]))] sz) := by
  refine Met.ofW (cc := cX14_picked) (maxL := 2) (ret := (some .int)) (by decide) rfl ?_
  intro p e s m args below meth c s₁ B hml hv
  obtain ⟨rfl, hsz, hP, hK, hD0, hN⟩ := hv
  have hx := B.exec
  have hb := B.bytes
  have hr := B.returns
  have hts := atoms_spec (ws := z_wX14_picked) B.pre
  have hown : s.vm.findClass RX14 = some m.cls := findClass_of_methodNamed B.named
  have hlocks := B.notSynchronized
  have hin_14 : ∀ w ∈ u_ws RX14 TX14 40, w ∈ z_wX14_picked := by decide +kernel
  subst hsz
  have hD := hD0.self (sz := s.heap.size)
  generalize hAe : va_A [(h0, .inr (14, [.int 0, .int 0, .int (-1), .int 0, .ref mp, .ref mq, .ref ms, .int 0, .int 0, .ref mo, .ref mt, .int 0, .int 0, .int 0, .int 0, .int 0, .int 0, .int 0, .int 0, .int 0, .int 0, .long 0, .ref ml, .ref mw, .int 0, .ref m1, .int 0, .int 0, .int 0, .int 0, .ref m2, .ref m3, .int 0, .int 0, .ref m4, .ref m5, .ref m6, .ref m7, .ref m8, .ref m9]))] s.heap.size = A at hD ⊢
  have hA : ∀ q : Nat, s.heap.size ≤ q → A q := fun q h => by rw [← hAe]; exact Or.inr h
  have hS : va_S A s.heap s.heap [] := va_S.rf
  have hP : va_P (dC, dI) z_Cl [(h0, .inr (14, [.int 0, .int 0, .int (-1), .int 0, .ref mp, .ref mq, .ref ms, .int 0, .int 0, .ref mo, .ref mt, .int 0, .int 0, .int 0, .int 0, .int 0, .int 0, .int 0, .int 0, .int 0, .int 0, .long 0, .ref ml, .ref mw, .int 0, .ref m1, .int 0, .int 0, .int 0, .int 0, .ref m2, .ref m3, .int 0, .int 0, .ref m4, .ref m5, .ref m6, .ref m7, .ref m8, .ref m9]))] s.heap := hP
  have hl := lv_entry ([.ref h0, .int p1]) (n := 2) (Nat.le_of_ble_eq_true rfl)
  rw [lg_entry_eq]
  generalize (lg_sl ([.ref h0, .int p1]) ++ List.replicate (2 - (lg_sl ([.ref h0, .int p1])).length) Slot.unset).toArray = ls at hl ⊢
  have hl : lv_has ls 2 [(0, .ref h0), (1, .int p1)] := hl
  refine lv_aload_n hx hb dX14_picked_0 rfl (lv_at hl 0 rfl) ?_
  refine lv_iconst (v := 0) hx hb dX14_picked_1 (by decide) ?_
  refine va_put (D := (dC, dI)) (ci := 14) (v := .int 0) (ty := .int) (C := RX14) (T := TX14) (N := 40) hx hb hts hin_14 tyX14 tyX14_ok nmX14 hown hK hP hD hS 0 rfl rfl 0 (by decide) (hts (.fieldLink RX14 76 "LessonMakerModel" "thrown" "I") (List.mem_of_getElem? (i := 1) rfl)) (fun _ h9 => h9) rfl (by decide +kernel) rfl rfl (Nat.le_of_ble_eq_true rfl) dX14_picked_2 (fun H locs hP hD hS => ?_)
  have hP : va_P (dC, dI) z_Cl [(h0, .inr (14, [.int 0, .int 0, .int (-1), .int 0, .ref mp, .ref mq, .ref ms, .int 0, .int 0, .ref mo, .ref mt, .int 0, .int 0, .int 0, .int 0, .int 0, .int 0, .int 0, .int 0, .int 0, .int 0, .long 0, .ref ml, .ref mw, .int 0, .ref m1, .int 0, .int 0, .int 0, .int 0, .ref m2, .ref m3, .int 0, .int 0, .ref m4, .ref m5, .ref m6, .ref m7, .ref m8, .ref m9]))] H := hP
  have hD : va_D A [(h0, .inr (14, [.int 0, .int 0, .int (-1), .int 0, .ref mp, .ref mq, .ref ms, .int 0, .int 0, .ref mo, .ref mt, .int 0, .int 0, .int 0, .int 0, .int 0, .int 0, .int 0, .int 0, .int 0, .int 0, .long 0, .ref ml, .ref mw, .int 0, .ref m1, .int 0, .int 0, .int 0, .int 0, .ref m2, .ref m3, .int 0, .int 0, .ref m4, .ref m5, .ref m6, .ref m7, .ref m8, .ref m9]))] := hD
  refine lv_iload_n hx hb dX14_picked_5 rfl (lv_at hl 1 rfl) ?_
  refine lv_if_lt (tgt := 26) hx hb dX14_picked_6 (by decide) (fun c_1 => ?_) (fun c_1 => ?_)
  · refine lv_iconst (v := (-1)) hx hb dX14_picked_26 (by decide) ?_
    have hP9 := hP.sub (ws' := []) [] rfl
    have hD9 := hD.sub (ws' := []) [] (by decide) rfl
    have hK9 := hK.sub (tys' := []) [] rfl
    refine W.widen (k := 0) (n := 0) (Nat.le_of_ble_eq_true rfl) (Nat.le_of_ble_eq_true rfl) ?_
    exact W.iret (v := (-1)) hx hb hr (fun t ht hW => ⟨⟨(-1), (), rfl, rfl, by rw [ht]; exact hP9, va_K.moved hW.alike hK9, hD9⟩, hS.F ht⟩) hS.2.2 dX14_picked_27
  · refine lv_iload_n hx hb dX14_picked_9 rfl (lv_at hl 1 rfl) ?_
    refine lv_aload_n hx hb dX14_picked_10 rfl (lv_at hl 0 rfl) ?_
    refine va_get (D := (dC, dI)) (ci := 14) (v := .int 0) (C := RX14) (T := TX14) (N := 40) hx hb hts hin_14 hown hK hP 0 rfl rfl 33 (by decide) (hts (.fieldLink RX14 327 "LessonMakerModel" "picks" "I") (List.mem_of_getElem? (i := 2) rfl)) (fun _ h9 => h9) rfl dX14_picked_11 ?_
    refine lv_icmp_ge (tgt := 26) hx hb dX14_picked_14 (by decide) (fun _ => ?_) (fun h9 => absurd (Int32.not_lt.mp c_1) h9)
    refine lv_iconst (v := (-1)) hx hb dX14_picked_26 (by decide) ?_
    have hP9 := hP.sub (ws' := []) [] rfl
    have hD9 := hD.sub (ws' := []) [] (by decide) rfl
    have hK9 := hK.sub (tys' := []) [] rfl
    refine W.widen (k := 0) (n := 0) (Nat.le_of_ble_eq_true rfl) (Nat.le_of_ble_eq_true rfl) ?_
    exact W.iret (v := (-1)) hx hb hr (fun t ht hW => ⟨⟨(-1), (), rfl, rfl, by rw [ht]; exact hP9, va_K.moved hW.alike hK9, hD9⟩, hS.F ht⟩) hS.2.2 dX14_picked_27

def z_wX14_feed : List Cond := .code yX14_feed cX14_feed 8 (some .int) :: ([.fieldLink RX14 76 "LessonMakerModel" "thrown" "I", .fieldLink RX14 304 "LessonMakerModel" "taped" "I", .fieldLink RX14 33 "LessonMakerModel" "tape" "[B"] ++ (u_ws RX14 TX14 40))
set_option maxHeartbeats 4000000 in
set_option maxRecDepth 100000 in
theorem c_X14_feed (l : Launch) (dC : Nat → ClassId) (dI : Nat → Nat → Nat) (h0 : Nat) (mp : Nat) (mq : Nat) (ms : Nat) (mo : Nat) (mt : Nat) (ml : Nat) (mw : Nat) (m1 : Nat) (m2 : Nat) (m3 : Nat) (m4 : Nat) (m5 : Nat) (m6 : Nat) (m7 : Nat) (m8 : Nat) (m9 : Nat) (kt : ClassId) (ft : Nat → Int32) (p1 : Int32) (p2 : Int32) (p3 : Int32) (p4 : Int32) (p5 : Int32) (sz : Nat) : Met l yX14_feed z_wX14_feed ({ frames := 0, cells := 0, slots := 0, locals := 0 }) (va_Pc [.ref h0, .int p1, .int p2, .int p3, .int p4, .int p5] (z_in dC dI [(h0, .inr (14, [.int 0, .int 0, .int (-1), .int 0, .ref mp, .ref mq, .ref ms, .int 0, .int 0, .ref mo, .ref mt, .int 0, .int 0, .int 0, .int 0, .int 0, .int 0, .int 0, .int 0, .int 0, .int 0, .long 0, .ref ml, .ref mw, .int 0, .ref m1, .int 0, .int 0, .int 0, .int 0, .ref m2, .ref m3, .int 0, .int 0, .ref m4, .ref m5, .ref m6, .ref m7, .ref m8, .ref m9])), (mt, .inl (kt, 600, .inl ft))] [(kt, .byte)] sz)) (va_Qi (fun (r : Int32) (_ : Unit) => r = 20) (fun (_ : Unit) t => z_out dC dI (va_A [(h0, .inr (14, [.int 0, .int 0, .int (-1), .int 0, .ref mp, .ref mq, .ref ms, .int 0, .int 0, .ref mo, .ref mt, .int 0, .int 0, .int 0, .int 0, .int 0, .int 0, .int 0, .int 0, .int 0, .int 0, .long 0, .ref ml, .ref mw, .int 0, .ref m1, .int 0, .int 0, .int 0, .int 0, .ref m2, .ref m3, .int 0, .int 0, .ref m4, .ref m5, .ref m6, .ref m7, .ref m8, .ref m9])), (mt, .inl (kt, 600, .inl ft))] sz) [] [] t) (va_A [(h0, .inr (14, [.int 0, .int 0, .int (-1), .int 0, .ref mp, .ref mq, .ref ms, .int 0, .int 0, .ref mo, .ref mt, .int 0, .int 0, .int 0, .int 0, .int 0, .int 0, .int 0, .int 0, .int 0, .int 0, .long 0, .ref ml, .ref mw, .int 0, .ref m1, .int 0, .int 0, .int 0, .int 0, .ref m2, .ref m3, .int 0, .int 0, .ref m4, .ref m5, .ref m6, .ref m7, .ref m8, .ref m9])), (mt, .inl (kt, 600, .inl ft))] sz)) 0 0 (va_A [(h0, .inr (14, [.int 0, .int 0, .int (-1), .int 0, .ref mp, .ref mq, .ref ms, .int 0, .int 0, .ref mo, .ref mt, .int 0, .int 0, .int 0, .int 0, .int 0, .int 0, .int 0, .int 0, .int 0, .int 0, .long 0, .ref ml, .ref mw, .int 0, .ref m1, .int 0, .int 0, .int 0, .int 0, .ref m2, .ref m3, .int 0, .int 0, .ref m4, .ref m5, .ref m6, .ref m7, .ref m8, .ref m9])), (mt, .inl (kt, 600, .inl ft))] sz) := by
  refine Met.ofW (cc := cX14_feed) (maxL := 8) (ret := (some .int)) (by decide) rfl ?_
  intro p e s m args below meth c s₁ B hml hv
  obtain ⟨rfl, hsz, hP, hK, hD0, hN⟩ := hv
  have hx := B.exec
  have hb := B.bytes
  have hr := B.returns
  have hts := atoms_spec (ws := z_wX14_feed) B.pre
  have hown : s.vm.findClass RX14 = some m.cls := findClass_of_methodNamed B.named
  have hlocks := B.notSynchronized
  have hin_14 : ∀ w ∈ u_ws RX14 TX14 40, w ∈ z_wX14_feed := by decide +kernel
  subst hsz
  have hD := hD0.self (sz := s.heap.size)
  generalize hAe : va_A [(h0, .inr (14, [.int 0, .int 0, .int (-1), .int 0, .ref mp, .ref mq, .ref ms, .int 0, .int 0, .ref mo, .ref mt, .int 0, .int 0, .int 0, .int 0, .int 0, .int 0, .int 0, .int 0, .int 0, .int 0, .long 0, .ref ml, .ref mw, .int 0, .ref m1, .int 0, .int 0, .int 0, .int 0, .ref m2, .ref m3, .int 0, .int 0, .ref m4, .ref m5, .ref m6, .ref m7, .ref m8, .ref m9])), (mt, .inl (kt, 600, .inl ft))] s.heap.size = A at hD ⊢
  have hA : ∀ q : Nat, s.heap.size ≤ q → A q := fun q h => by rw [← hAe]; exact Or.inr h
  have hS : va_S A s.heap s.heap [] := va_S.rf
  have hP : va_P (dC, dI) z_Cl [(h0, .inr (14, [.int 0, .int 0, .int (-1), .int 0, .ref mp, .ref mq, .ref ms, .int 0, .int 0, .ref mo, .ref mt, .int 0, .int 0, .int 0, .int 0, .int 0, .int 0, .int 0, .int 0, .int 0, .int 0, .long 0, .ref ml, .ref mw, .int 0, .ref m1, .int 0, .int 0, .int 0, .int 0, .ref m2, .ref m3, .int 0, .int 0, .ref m4, .ref m5, .ref m6, .ref m7, .ref m8, .ref m9])), (mt, .inl (kt, 600, .inl ft))] s.heap := hP
  have hl := lv_entry ([.ref h0, .int p1, .int p2, .int p3, .int p4, .int p5]) (n := 8) (Nat.le_of_ble_eq_true rfl)
  rw [lg_entry_eq]
  generalize (lg_sl ([.ref h0, .int p1, .int p2, .int p3, .int p4, .int p5]) ++ List.replicate (8 - (lg_sl ([.ref h0, .int p1, .int p2, .int p3, .int p4, .int p5])).length) Slot.unset).toArray = ls at hl ⊢
  have hl : lv_has ls 8 [(0, .ref h0), (1, .int p1), (2, .int p2), (3, .int p3), (4, .int p4), (5, .int p5)] := hl
  refine lv_aload_n hx hb dX14_feed_0 rfl (lv_at hl 0 rfl) ?_
  refine lv_iconst (v := 0) hx hb dX14_feed_1 (by decide) ?_
  refine va_put (D := (dC, dI)) (ci := 14) (v := .int 0) (ty := .int) (C := RX14) (T := TX14) (N := 40) hx hb hts hin_14 tyX14 tyX14_ok nmX14 hown hK hP hD hS 0 rfl rfl 0 (by decide) (hts (.fieldLink RX14 76 "LessonMakerModel" "thrown" "I") (List.mem_of_getElem? (i := 1) rfl)) (fun _ h9 => h9) rfl (by decide +kernel) rfl rfl (Nat.le_of_ble_eq_true rfl) dX14_feed_2 (fun H locs hP hD hS => ?_)
  have hP : va_P (dC, dI) z_Cl [(h0, .inr (14, [.int 0, .int 0, .int (-1), .int 0, .ref mp, .ref mq, .ref ms, .int 0, .int 0, .ref mo, .ref mt, .int 0, .int 0, .int 0, .int 0, .int 0, .int 0, .int 0, .int 0, .int 0, .int 0, .long 0, .ref ml, .ref mw, .int 0, .ref m1, .int 0, .int 0, .int 0, .int 0, .ref m2, .ref m3, .int 0, .int 0, .ref m4, .ref m5, .ref m6, .ref m7, .ref m8, .ref m9])), (mt, .inl (kt, 600, .inl ft))] H := hP
  have hD : va_D A [(h0, .inr (14, [.int 0, .int 0, .int (-1), .int 0, .ref mp, .ref mq, .ref ms, .int 0, .int 0, .ref mo, .ref mt, .int 0, .int 0, .int 0, .int 0, .int 0, .int 0, .int 0, .int 0, .int 0, .int 0, .long 0, .ref ml, .ref mw, .int 0, .ref m1, .int 0, .int 0, .int 0, .int 0, .ref m2, .ref m3, .int 0, .int 0, .ref m4, .ref m5, .ref m6, .ref m7, .ref m8, .ref m9])), (mt, .inl (kt, 600, .inl ft))] := hD
  refine lv_aload_n hx hb dX14_feed_5 rfl (lv_at hl 0 rfl) ?_
  refine va_get (D := (dC, dI)) (ci := 14) (v := .int 0) (C := RX14) (T := TX14) (N := 40) hx hb hts hin_14 hown hK hP 0 rfl rfl 11 (by decide) (hts (.fieldLink RX14 304 "LessonMakerModel" "taped" "I") (List.mem_of_getElem? (i := 2) rfl)) (fun _ h9 => h9) rfl dX14_feed_6 ?_
  refine lv_bipush (v := 20) hx hb dX14_feed_9 (by decide) ?_
  refine lv_iadd hx hb dX14_feed_11 ?_
  refine lv_topi (fun x_1 ex_1 => ?_)
  have ex_1 := ex_1.trans (show _ = (20 : Int32) by decide)
  subst ex_1
  refine lv_sipush (v := 600) hx hb dX14_feed_12 (by decide) ?_
  refine lv_icmp_le (tgt := 20) hx hb dX14_feed_15 (by decide) (fun _ => ?_) (fun h9 => absurd (by decide) h9)
  refine lv_iconst (v := 0) hx hb dX14_feed_20 (by decide) ?_
  refine lv_istore (lv' := [(6, .int 0), (0, .ref h0), (1, .int p1), (2, .int p2), (3, .int p3), (4, .int p4), (5, .int p5)]) hx hb dX14_feed_21 hl (by decide) rfl (fun ls hl => ?_)
  refine lv_iload hx hb dX14_feed_23 (lv_at hl 0 rfl) ?_
  refine lv_bipush (v := 20) hx hb dX14_feed_25 (by decide) ?_
  refine lv_icmp_ge (tgt := 117) hx hb dX14_feed_27 (by decide) (fun h9 => absurd h9 (by decide)) (fun _ => ?_)
  refine lv_iload hx hb dX14_feed_30 (lv_at hl 0 rfl) ?_
  refine lv_iconst (v := 4) hx hb dX14_feed_32 (by decide) ?_
  refine lv_icmp_ge (tgt := 40) hx hb dX14_feed_33 (by decide) (fun h9 => absurd h9 (by decide)) (fun _ => ?_)
  refine lv_iload_n hx hb dX14_feed_36 rfl (lv_at hl 2 rfl) ?_
  refine lv_goto (tgt := 76) hx hb dX14_feed_37 (by decide) ?_
  refine lv_istore (lv' := [(7, .int p1), (6, .int 0), (0, .ref h0), (1, .int p1), (2, .int p2), (3, .int p3), (4, .int p4), (5, .int p5)]) hx hb dX14_feed_76 hl (by decide) rfl (fun ls hl => ?_)
  refine lv_aload_n hx hb dX14_feed_78 rfl (lv_at hl 2 rfl) ?_
  refine va_get (D := (dC, dI)) (ci := 14) (v := .ref mt) (C := RX14) (T := TX14) (N := 40) hx hb hts hin_14 hown hK hP 0 rfl rfl 10 (by decide) (hts (.fieldLink RX14 33 "LessonMakerModel" "tape" "[B") (List.mem_of_getElem? (i := 3) rfl)) (fun _ h9 => h9) rfl dX14_feed_79 ?_
  refine lv_aload_n hx hb dX14_feed_82 rfl (lv_at hl 2 rfl) ?_
  refine va_get (D := (dC, dI)) (ci := 14) (v := .int 0) (C := RX14) (T := TX14) (N := 40) hx hb hts hin_14 hown hK hP 0 rfl rfl 11 (by decide) (hts (.fieldLink RX14 304 "LessonMakerModel" "taped" "I") (List.mem_of_getElem? (i := 2) rfl)) (fun _ h9 => h9) rfl dX14_feed_83 ?_
  refine lv_iload hx hb dX14_feed_86 (lv_at hl 0 rfl) ?_
  refine lv_bipush (v := 24) hx hb dX14_feed_88 (by decide) ?_
  refine lv_bipush (v := 8) hx hb dX14_feed_90 (by decide) ?_
  refine lv_iload hx hb dX14_feed_92 (lv_at hl 1 rfl) ?_
  refine lv_iconst (v := 4) hx hb dX14_feed_94 (by decide) ?_
  refine lv_irem hx hb dX14_feed_95 (by decide) ?_
  refine lv_topi (fun x_2 ex_2 => ?_)
  have ex_2 := ex_2.trans (show _ = (0 : Int32) by decide)
  subst ex_2
  refine lv_imul hx hb dX14_feed_96 ?_
  refine lv_topi (fun x_3 ex_3 => ?_)
  have ex_3 := ex_3.trans (show _ = (0 : Int32) by decide)
  subst ex_3
  refine lv_isub hx hb dX14_feed_97 ?_
  refine lv_topi (fun x_4 ex_4 => ?_)
  have ex_4 := ex_4.trans (show _ = (24 : Int32) by decide)
  subst ex_4
  refine lv_ishr hx hb dX14_feed_98 ?_
  refine lv_topi (fun x_5 ex_5 => ?_)
  refine lv_i2b hx hb dX14_feed_99 rfl ?_
  refine lv_topi (fun y_7 ey_7 => ?_)
  refine va_bast hx hb hK hP hD hS 1 0 rfl rfl (i := 0) (z_io (by decide)) dX14_feed_100 (fun H locs hP hD hS => ?_)
  obtain ⟨g_8, eg_8⟩ : ∃ z, z = upd ft (Int32.toNatClampNeg 0) (vp_nar .byte y_7) := ⟨_, rfl⟩
  rw [← eg_8] at hP hD
  have hP : va_P (dC, dI) z_Cl [(h0, .inr (14, [.int 0, .int 0, .int (-1), .int 0, .ref mp, .ref mq, .ref ms, .int 0, .int 0, .ref mo, .ref mt, .int 0, .int 0, .int 0, .int 0, .int 0, .int 0, .int 0, .int 0, .int 0, .int 0, .long 0, .ref ml, .ref mw, .int 0, .ref m1, .int 0, .int 0, .int 0, .int 0, .ref m2, .ref m3, .int 0, .int 0, .ref m4, .ref m5, .ref m6, .ref m7, .ref m8, .ref m9])), (mt, .inl (kt, 600, .inl g_8))] H := hP
  have hD : va_D A [(h0, .inr (14, [.int 0, .int 0, .int (-1), .int 0, .ref mp, .ref mq, .ref ms, .int 0, .int 0, .ref mo, .ref mt, .int 0, .int 0, .int 0, .int 0, .int 0, .int 0, .int 0, .int 0, .int 0, .int 0, .long 0, .ref ml, .ref mw, .int 0, .ref m1, .int 0, .int 0, .int 0, .int 0, .ref m2, .ref m3, .int 0, .int 0, .ref m4, .ref m5, .ref m6, .ref m7, .ref m8, .ref m9])), (mt, .inl (kt, 600, .inl g_8))] := hD
  refine lv_aload_n hx hb dX14_feed_101 rfl (lv_at hl 2 rfl) ?_
  refine lv_dup hx hb dX14_feed_102 rfl ?_
  refine va_get (D := (dC, dI)) (ci := 14) (v := .int 0) (C := RX14) (T := TX14) (N := 40) hx hb hts hin_14 hown hK hP 0 rfl rfl 11 (by decide) (hts (.fieldLink RX14 304 "LessonMakerModel" "taped" "I") (List.mem_of_getElem? (i := 2) rfl)) (fun _ h9 => h9) rfl dX14_feed_103 ?_
  refine lv_iconst (v := 1) hx hb dX14_feed_106 (by decide) ?_
  refine lv_iadd hx hb dX14_feed_107 ?_
  refine lv_topi (fun x_9 ex_9 => ?_)
  have ex_9 := ex_9.trans (show _ = (1 : Int32) by decide)
  subst ex_9
  refine va_put (D := (dC, dI)) (ci := 14) (v := .int 1) (ty := .int) (C := RX14) (T := TX14) (N := 40) hx hb hts hin_14 tyX14 tyX14_ok nmX14 hown hK hP hD hS 0 rfl rfl 11 (by decide) (hts (.fieldLink RX14 304 "LessonMakerModel" "taped" "I") (List.mem_of_getElem? (i := 2) rfl)) (fun _ h9 => h9) rfl (by decide +kernel) rfl rfl (Nat.le_of_ble_eq_true rfl) dX14_feed_108 (fun H locs hP hD hS => ?_)
  have hP : va_P (dC, dI) z_Cl [(h0, .inr (14, [.int 0, .int 0, .int (-1), .int 0, .ref mp, .ref mq, .ref ms, .int 0, .int 0, .ref mo, .ref mt, .int 1, .int 0, .int 0, .int 0, .int 0, .int 0, .int 0, .int 0, .int 0, .int 0, .long 0, .ref ml, .ref mw, .int 0, .ref m1, .int 0, .int 0, .int 0, .int 0, .ref m2, .ref m3, .int 0, .int 0, .ref m4, .ref m5, .ref m6, .ref m7, .ref m8, .ref m9])), (mt, .inl (kt, 600, .inl g_8))] H := hP
  have hD : va_D A [(h0, .inr (14, [.int 0, .int 0, .int (-1), .int 0, .ref mp, .ref mq, .ref ms, .int 0, .int 0, .ref mo, .ref mt, .int 1, .int 0, .int 0, .int 0, .int 0, .int 0, .int 0, .int 0, .int 0, .int 0, .long 0, .ref ml, .ref mw, .int 0, .ref m1, .int 0, .int 0, .int 0, .int 0, .ref m2, .ref m3, .int 0, .int 0, .ref m4, .ref m5, .ref m6, .ref m7, .ref m8, .ref m9])), (mt, .inl (kt, 600, .inl g_8))] := hD
  refine lv_iinc (v := 1) (lv' := [(6, .int 1), (7, .int p1), (0, .ref h0), (1, .int p1), (2, .int p2), (3, .int p3), (4, .int p4), (5, .int p5)]) hx hb dX14_feed_111 hl (k := 1) rfl (by decide) (by decide) rfl (fun ls hl => ?_)
  refine lv_goto (tgt := 23) hx hb dX14_feed_114 (by decide) ?_
  refine lv_iload hx hb dX14_feed_23 (lv_at hl 0 rfl) ?_
  refine lv_bipush (v := 20) hx hb dX14_feed_25 (by decide) ?_
  refine lv_icmp_ge (tgt := 117) hx hb dX14_feed_27 (by decide) (fun h9 => absurd h9 (by decide)) (fun _ => ?_)
  refine lv_iload hx hb dX14_feed_30 (lv_at hl 0 rfl) ?_
  refine lv_iconst (v := 4) hx hb dX14_feed_32 (by decide) ?_
  refine lv_icmp_ge (tgt := 40) hx hb dX14_feed_33 (by decide) (fun h9 => absurd h9 (by decide)) (fun _ => ?_)
  refine lv_iload_n hx hb dX14_feed_36 rfl (lv_at hl 3 rfl) ?_
  refine lv_goto (tgt := 76) hx hb dX14_feed_37 (by decide) ?_
  refine lv_istore (lv' := [(7, .int p1), (6, .int 1), (0, .ref h0), (1, .int p1), (2, .int p2), (3, .int p3), (4, .int p4), (5, .int p5)]) hx hb dX14_feed_76 hl (by decide) rfl (fun ls hl => ?_)
  refine lv_aload_n hx hb dX14_feed_78 rfl (lv_at hl 2 rfl) ?_
  refine va_get (D := (dC, dI)) (ci := 14) (v := .ref mt) (C := RX14) (T := TX14) (N := 40) hx hb hts hin_14 hown hK hP 0 rfl rfl 10 (by decide) (hts (.fieldLink RX14 33 "LessonMakerModel" "tape" "[B") (List.mem_of_getElem? (i := 3) rfl)) (fun _ h9 => h9) rfl dX14_feed_79 ?_
  refine lv_aload_n hx hb dX14_feed_82 rfl (lv_at hl 2 rfl) ?_
  refine va_get (D := (dC, dI)) (ci := 14) (v := .int 1) (C := RX14) (T := TX14) (N := 40) hx hb hts hin_14 hown hK hP 0 rfl rfl 11 (by decide) (hts (.fieldLink RX14 304 "LessonMakerModel" "taped" "I") (List.mem_of_getElem? (i := 2) rfl)) (fun _ h9 => h9) rfl dX14_feed_83 ?_
  refine lv_iload hx hb dX14_feed_86 (lv_at hl 0 rfl) ?_
  refine lv_bipush (v := 24) hx hb dX14_feed_88 (by decide) ?_
  refine lv_bipush (v := 8) hx hb dX14_feed_90 (by decide) ?_
  refine lv_iload hx hb dX14_feed_92 (lv_at hl 1 rfl) ?_
  refine lv_iconst (v := 4) hx hb dX14_feed_94 (by decide) ?_
  refine lv_irem hx hb dX14_feed_95 (by decide) ?_
  refine lv_topi (fun x_10 ex_10 => ?_)
  have ex_10 := ex_10.trans (show _ = (1 : Int32) by decide)
  subst ex_10
  refine lv_imul hx hb dX14_feed_96 ?_
  refine lv_topi (fun x_11 ex_11 => ?_)
  have ex_11 := ex_11.trans (show _ = (8 : Int32) by decide)
  subst ex_11
  refine lv_isub hx hb dX14_feed_97 ?_
  refine lv_topi (fun x_12 ex_12 => ?_)
  have ex_12 := ex_12.trans (show _ = (16 : Int32) by decide)
  subst ex_12
  refine lv_ishr hx hb dX14_feed_98 ?_
  refine lv_topi (fun x_13 ex_13 => ?_)
  refine lv_i2b hx hb dX14_feed_99 rfl ?_
  refine lv_topi (fun y_15 ey_15 => ?_)
  refine va_bast hx hb hK hP hD hS 1 0 rfl rfl (i := 1) (z_io (by decide)) dX14_feed_100 (fun H locs hP hD hS => ?_)
  obtain ⟨g_16, eg_16⟩ : ∃ z, z = upd g_8 (Int32.toNatClampNeg 1) (vp_nar .byte y_15) := ⟨_, rfl⟩
  rw [← eg_16] at hP hD
  have hP : va_P (dC, dI) z_Cl [(h0, .inr (14, [.int 0, .int 0, .int (-1), .int 0, .ref mp, .ref mq, .ref ms, .int 0, .int 0, .ref mo, .ref mt, .int 1, .int 0, .int 0, .int 0, .int 0, .int 0, .int 0, .int 0, .int 0, .int 0, .long 0, .ref ml, .ref mw, .int 0, .ref m1, .int 0, .int 0, .int 0, .int 0, .ref m2, .ref m3, .int 0, .int 0, .ref m4, .ref m5, .ref m6, .ref m7, .ref m8, .ref m9])), (mt, .inl (kt, 600, .inl g_16))] H := hP
  have hD : va_D A [(h0, .inr (14, [.int 0, .int 0, .int (-1), .int 0, .ref mp, .ref mq, .ref ms, .int 0, .int 0, .ref mo, .ref mt, .int 1, .int 0, .int 0, .int 0, .int 0, .int 0, .int 0, .int 0, .int 0, .int 0, .long 0, .ref ml, .ref mw, .int 0, .ref m1, .int 0, .int 0, .int 0, .int 0, .ref m2, .ref m3, .int 0, .int 0, .ref m4, .ref m5, .ref m6, .ref m7, .ref m8, .ref m9])), (mt, .inl (kt, 600, .inl g_16))] := hD
  refine lv_aload_n hx hb dX14_feed_101 rfl (lv_at hl 2 rfl) ?_
  refine lv_dup hx hb dX14_feed_102 rfl ?_
  refine va_get (D := (dC, dI)) (ci := 14) (v := .int 1) (C := RX14) (T := TX14) (N := 40) hx hb hts hin_14 hown hK hP 0 rfl rfl 11 (by decide) (hts (.fieldLink RX14 304 "LessonMakerModel" "taped" "I") (List.mem_of_getElem? (i := 2) rfl)) (fun _ h9 => h9) rfl dX14_feed_103 ?_
  refine lv_iconst (v := 1) hx hb dX14_feed_106 (by decide) ?_
  refine lv_iadd hx hb dX14_feed_107 ?_
  refine lv_topi (fun x_17 ex_17 => ?_)
  have ex_17 := ex_17.trans (show _ = (2 : Int32) by decide)
  subst ex_17
  refine va_put (D := (dC, dI)) (ci := 14) (v := .int 2) (ty := .int) (C := RX14) (T := TX14) (N := 40) hx hb hts hin_14 tyX14 tyX14_ok nmX14 hown hK hP hD hS 0 rfl rfl 11 (by decide) (hts (.fieldLink RX14 304 "LessonMakerModel" "taped" "I") (List.mem_of_getElem? (i := 2) rfl)) (fun _ h9 => h9) rfl (by decide +kernel) rfl rfl (Nat.le_of_ble_eq_true rfl) dX14_feed_108 (fun H locs hP hD hS => ?_)
  have hP : va_P (dC, dI) z_Cl [(h0, .inr (14, [.int 0, .int 0, .int (-1), .int 0, .ref mp, .ref mq, .ref ms, .int 0, .int 0, .ref mo, .ref mt, .int 2, .int 0, .int 0, .int 0, .int 0, .int 0, .int 0, .int 0, .int 0, .int 0, .long 0, .ref ml, .ref mw, .int 0, .ref m1, .int 0, .int 0, .int 0, .int 0, .ref m2, .ref m3, .int 0, .int 0, .ref m4, .ref m5, .ref m6, .ref m7, .ref m8, .ref m9])), (mt, .inl (kt, 600, .inl g_16))] H := hP
  have hD : va_D A [(h0, .inr (14, [.int 0, .int 0, .int (-1), .int 0, .ref mp, .ref mq, .ref ms, .int 0, .int 0, .ref mo, .ref mt, .int 2, .int 0, .int 0, .int 0, .int 0, .int 0, .int 0, .int 0, .int 0, .int 0, .long 0, .ref ml, .ref mw, .int 0, .ref m1, .int 0, .int 0, .int 0, .int 0, .ref m2, .ref m3, .int 0, .int 0, .ref m4, .ref m5, .ref m6, .ref m7, .ref m8, .ref m9])), (mt, .inl (kt, 600, .inl g_16))] := hD
  refine lv_iinc (v := 2) (lv' := [(6, .int 2), (7, .int p1), (0, .ref h0), (1, .int p1), (2, .int p2), (3, .int p3), (4, .int p4), (5, .int p5)]) hx hb dX14_feed_111 hl (k := 1) rfl (by decide) (by decide) rfl (fun ls hl => ?_)
  refine lv_goto (tgt := 23) hx hb dX14_feed_114 (by decide) ?_
  refine lv_iload hx hb dX14_feed_23 (lv_at hl 0 rfl) ?_
  refine lv_bipush (v := 20) hx hb dX14_feed_25 (by decide) ?_
  refine lv_icmp_ge (tgt := 117) hx hb dX14_feed_27 (by decide) (fun h9 => absurd h9 (by decide)) (fun _ => ?_)
  refine lv_iload hx hb dX14_feed_30 (lv_at hl 0 rfl) ?_
  refine lv_iconst (v := 4) hx hb dX14_feed_32 (by decide) ?_
  refine lv_icmp_ge (tgt := 40) hx hb dX14_feed_33 (by decide) (fun h9 => absurd h9 (by decide)) (fun _ => ?_)
  refine lv_iload_n hx hb dX14_feed_36 rfl (lv_at hl 3 rfl) ?_
  refine lv_goto (tgt := 76) hx hb dX14_feed_37 (by decide) ?_
  refine lv_istore (lv' := [(7, .int p1), (6, .int 2), (0, .ref h0), (1, .int p1), (2, .int p2), (3, .int p3), (4, .int p4), (5, .int p5)]) hx hb dX14_feed_76 hl (by decide) rfl (fun ls hl => ?_)
  refine lv_aload_n hx hb dX14_feed_78 rfl (lv_at hl 2 rfl) ?_
  refine va_get (D := (dC, dI)) (ci := 14) (v := .ref mt) (C := RX14) (T := TX14) (N := 40) hx hb hts hin_14 hown hK hP 0 rfl rfl 10 (by decide) (hts (.fieldLink RX14 33 "LessonMakerModel" "tape" "[B") (List.mem_of_getElem? (i := 3) rfl)) (fun _ h9 => h9) rfl dX14_feed_79 ?_
  refine lv_aload_n hx hb dX14_feed_82 rfl (lv_at hl 2 rfl) ?_
  refine va_get (D := (dC, dI)) (ci := 14) (v := .int 2) (C := RX14) (T := TX14) (N := 40) hx hb hts hin_14 hown hK hP 0 rfl rfl 11 (by decide) (hts (.fieldLink RX14 304 "LessonMakerModel" "taped" "I") (List.mem_of_getElem? (i := 2) rfl)) (fun _ h9 => h9) rfl dX14_feed_83 ?_
  refine lv_iload hx hb dX14_feed_86 (lv_at hl 0 rfl) ?_
  refine lv_bipush (v := 24) hx hb dX14_feed_88 (by decide) ?_
  refine lv_bipush (v := 8) hx hb dX14_feed_90 (by decide) ?_
  refine lv_iload hx hb dX14_feed_92 (lv_at hl 1 rfl) ?_
  refine lv_iconst (v := 4) hx hb dX14_feed_94 (by decide) ?_
  refine lv_irem hx hb dX14_feed_95 (by decide) ?_
  refine lv_topi (fun x_18 ex_18 => ?_)
  have ex_18 := ex_18.trans (show _ = (2 : Int32) by decide)
  subst ex_18
  refine lv_imul hx hb dX14_feed_96 ?_
  refine lv_topi (fun x_19 ex_19 => ?_)
  have ex_19 := ex_19.trans (show _ = (16 : Int32) by decide)
  subst ex_19
  refine lv_isub hx hb dX14_feed_97 ?_
  refine lv_topi (fun x_20 ex_20 => ?_)
  have ex_20 := ex_20.trans (show _ = (8 : Int32) by decide)
  subst ex_20
  refine lv_ishr hx hb dX14_feed_98 ?_
  refine lv_topi (fun x_21 ex_21 => ?_)
  refine lv_i2b hx hb dX14_feed_99 rfl ?_
  refine lv_topi (fun y_23 ey_23 => ?_)
  refine va_bast hx hb hK hP hD hS 1 0 rfl rfl (i := 2) (z_io (by decide)) dX14_feed_100 (fun H locs hP hD hS => ?_)
  obtain ⟨g_24, eg_24⟩ : ∃ z, z = upd g_16 (Int32.toNatClampNeg 2) (vp_nar .byte y_23) := ⟨_, rfl⟩
  rw [← eg_24] at hP hD
  have hP : va_P (dC, dI) z_Cl [(h0, .inr (14, [.int 0, .int 0, .int (-1), .int 0, .ref mp, .ref mq, .ref ms, .int 0, .int 0, .ref mo, .ref mt, .int 2, .int 0, .int 0, .int 0, .int 0, .int 0, .int 0, .int 0, .int 0, .int 0, .long 0, .ref ml, .ref mw, .int 0, .ref m1, .int 0, .int 0, .int 0, .int 0, .ref m2, .ref m3, .int 0, .int 0, .ref m4, .ref m5, .ref m6, .ref m7, .ref m8, .ref m9])), (mt, .inl (kt, 600, .inl g_24))] H := hP
  have hD : va_D A [(h0, .inr (14, [.int 0, .int 0, .int (-1), .int 0, .ref mp, .ref mq, .ref ms, .int 0, .int 0, .ref mo, .ref mt, .int 2, .int 0, .int 0, .int 0, .int 0, .int 0, .int 0, .int 0, .int 0, .int 0, .long 0, .ref ml, .ref mw, .int 0, .ref m1, .int 0, .int 0, .int 0, .int 0, .ref m2, .ref m3, .int 0, .int 0, .ref m4, .ref m5, .ref m6, .ref m7, .ref m8, .ref m9])), (mt, .inl (kt, 600, .inl g_24))] := hD
  refine lv_aload_n hx hb dX14_feed_101 rfl (lv_at hl 2 rfl) ?_
  refine lv_dup hx hb dX14_feed_102 rfl ?_
  refine va_get (D := (dC, dI)) (ci := 14) (v := .int 2) (C := RX14) (T := TX14) (N := 40) hx hb hts hin_14 hown hK hP 0 rfl rfl 11 (by decide) (hts (.fieldLink RX14 304 "LessonMakerModel" "taped" "I") (List.mem_of_getElem? (i := 2) rfl)) (fun _ h9 => h9) rfl dX14_feed_103 ?_
  refine lv_iconst (v := 1) hx hb dX14_feed_106 (by decide) ?_
  refine lv_iadd hx hb dX14_feed_107 ?_
  refine lv_topi (fun x_25 ex_25 => ?_)
  have ex_25 := ex_25.trans (show _ = (3 : Int32) by decide)
  subst ex_25
  refine va_put (D := (dC, dI)) (ci := 14) (v := .int 3) (ty := .int) (C := RX14) (T := TX14) (N := 40) hx hb hts hin_14 tyX14 tyX14_ok nmX14 hown hK hP hD hS 0 rfl rfl 11 (by decide) (hts (.fieldLink RX14 304 "LessonMakerModel" "taped" "I") (List.mem_of_getElem? (i := 2) rfl)) (fun _ h9 => h9) rfl (by decide +kernel) rfl rfl (Nat.le_of_ble_eq_true rfl) dX14_feed_108 (fun H locs hP hD hS => ?_)
  have hP : va_P (dC, dI) z_Cl [(h0, .inr (14, [.int 0, .int 0, .int (-1), .int 0, .ref mp, .ref mq, .ref ms, .int 0, .int 0, .ref mo, .ref mt, .int 3, .int 0, .int 0, .int 0, .int 0, .int 0, .int 0, .int 0, .int 0, .int 0, .long 0, .ref ml, .ref mw, .int 0, .ref m1, .int 0, .int 0, .int 0, .int 0, .ref m2, .ref m3, .int 0, .int 0, .ref m4, .ref m5, .ref m6, .ref m7, .ref m8, .ref m9])), (mt, .inl (kt, 600, .inl g_24))] H := hP
  have hD : va_D A [(h0, .inr (14, [.int 0, .int 0, .int (-1), .int 0, .ref mp, .ref mq, .ref ms, .int 0, .int 0, .ref mo, .ref mt, .int 3, .int 0, .int 0, .int 0, .int 0, .int 0, .int 0, .int 0, .int 0, .int 0, .long 0, .ref ml, .ref mw, .int 0, .ref m1, .int 0, .int 0, .int 0, .int 0, .ref m2, .ref m3, .int 0, .int 0, .ref m4, .ref m5, .ref m6, .ref m7, .ref m8, .ref m9])), (mt, .inl (kt, 600, .inl g_24))] := hD
  refine lv_iinc (v := 3) (lv' := [(6, .int 3), (7, .int p1), (0, .ref h0), (1, .int p1), (2, .int p2), (3, .int p3), (4, .int p4), (5, .int p5)]) hx hb dX14_feed_111 hl (k := 1) rfl (by decide) (by decide) rfl (fun ls hl => ?_)
  refine lv_goto (tgt := 23) hx hb dX14_feed_114 (by decide) ?_
  refine lv_iload hx hb dX14_feed_23 (lv_at hl 0 rfl) ?_
  refine lv_bipush (v := 20) hx hb dX14_feed_25 (by decide) ?_
  refine lv_icmp_ge (tgt := 117) hx hb dX14_feed_27 (by decide) (fun h9 => absurd h9 (by decide)) (fun _ => ?_)
  refine lv_iload hx hb dX14_feed_30 (lv_at hl 0 rfl) ?_
  refine lv_iconst (v := 4) hx hb dX14_feed_32 (by decide) ?_
  refine lv_icmp_ge (tgt := 40) hx hb dX14_feed_33 (by decide) (fun h9 => absurd h9 (by decide)) (fun _ => ?_)
  refine lv_iload_n hx hb dX14_feed_36 rfl (lv_at hl 3 rfl) ?_
  refine lv_goto (tgt := 76) hx hb dX14_feed_37 (by decide) ?_
  refine lv_istore (lv' := [(7, .int p1), (6, .int 3), (0, .ref h0), (1, .int p1), (2, .int p2), (3, .int p3), (4, .int p4), (5, .int p5)]) hx hb dX14_feed_76 hl (by decide) rfl (fun ls hl => ?_)
  refine lv_aload_n hx hb dX14_feed_78 rfl (lv_at hl 2 rfl) ?_
  refine va_get (D := (dC, dI)) (ci := 14) (v := .ref mt) (C := RX14) (T := TX14) (N := 40) hx hb hts hin_14 hown hK hP 0 rfl rfl 10 (by decide) (hts (.fieldLink RX14 33 "LessonMakerModel" "tape" "[B") (List.mem_of_getElem? (i := 3) rfl)) (fun _ h9 => h9) rfl dX14_feed_79 ?_
  refine lv_aload_n hx hb dX14_feed_82 rfl (lv_at hl 2 rfl) ?_
  refine va_get (D := (dC, dI)) (ci := 14) (v := .int 3) (C := RX14) (T := TX14) (N := 40) hx hb hts hin_14 hown hK hP 0 rfl rfl 11 (by decide) (hts (.fieldLink RX14 304 "LessonMakerModel" "taped" "I") (List.mem_of_getElem? (i := 2) rfl)) (fun _ h9 => h9) rfl dX14_feed_83 ?_
  refine lv_iload hx hb dX14_feed_86 (lv_at hl 0 rfl) ?_
  refine lv_bipush (v := 24) hx hb dX14_feed_88 (by decide) ?_
  refine lv_bipush (v := 8) hx hb dX14_feed_90 (by decide) ?_
  refine lv_iload hx hb dX14_feed_92 (lv_at hl 1 rfl) ?_
  refine lv_iconst (v := 4) hx hb dX14_feed_94 (by decide) ?_
  refine lv_irem hx hb dX14_feed_95 (by decide) ?_
  refine lv_topi (fun x_26 ex_26 => ?_)
  have ex_26 := ex_26.trans (show _ = (3 : Int32) by decide)
  subst ex_26
  refine lv_imul hx hb dX14_feed_96 ?_
  refine lv_topi (fun x_27 ex_27 => ?_)
  have ex_27 := ex_27.trans (show _ = (24 : Int32) by decide)
  subst ex_27
  refine lv_isub hx hb dX14_feed_97 ?_
  refine lv_topi (fun x_28 ex_28 => ?_)
  have ex_28 := ex_28.trans (show _ = (0 : Int32) by decide)
  subst ex_28
  refine lv_ishr hx hb dX14_feed_98 ?_
  refine lv_topi (fun x_29 ex_29 => ?_)
  refine lv_i2b hx hb dX14_feed_99 rfl ?_
  refine lv_topi (fun y_31 ey_31 => ?_)
  refine va_bast hx hb hK hP hD hS 1 0 rfl rfl (i := 3) (z_io (by decide)) dX14_feed_100 (fun H locs hP hD hS => ?_)
  obtain ⟨g_32, eg_32⟩ : ∃ z, z = upd g_24 (Int32.toNatClampNeg 3) (vp_nar .byte y_31) := ⟨_, rfl⟩
  rw [← eg_32] at hP hD
  have hP : va_P (dC, dI) z_Cl [(h0, .inr (14, [.int 0, .int 0, .int (-1), .int 0, .ref mp, .ref mq, .ref ms, .int 0, .int 0, .ref mo, .ref mt, .int 3, .int 0, .int 0, .int 0, .int 0, .int 0, .int 0, .int 0, .int 0, .int 0, .long 0, .ref ml, .ref mw, .int 0, .ref m1, .int 0, .int 0, .int 0, .int 0, .ref m2, .ref m3, .int 0, .int 0, .ref m4, .ref m5, .ref m6, .ref m7, .ref m8, .ref m9])), (mt, .inl (kt, 600, .inl g_32))] H := hP
  have hD : va_D A [(h0, .inr (14, [.int 0, .int 0, .int (-1), .int 0, .ref mp, .ref mq, .ref ms, .int 0, .int 0, .ref mo, .ref mt, .int 3, .int 0, .int 0, .int 0, .int 0, .int 0, .int 0, .int 0, .int 0, .int 0, .long 0, .ref ml, .ref mw, .int 0, .ref m1, .int 0, .int 0, .int 0, .int 0, .ref m2, .ref m3, .int 0, .int 0, .ref m4, .ref m5, .ref m6, .ref m7, .ref m8, .ref m9])), (mt, .inl (kt, 600, .inl g_32))] := hD
  refine lv_aload_n hx hb dX14_feed_101 rfl (lv_at hl 2 rfl) ?_
  refine lv_dup hx hb dX14_feed_102 rfl ?_
  refine va_get (D := (dC, dI)) (ci := 14) (v := .int 3) (C := RX14) (T := TX14) (N := 40) hx hb hts hin_14 hown hK hP 0 rfl rfl 11 (by decide) (hts (.fieldLink RX14 304 "LessonMakerModel" "taped" "I") (List.mem_of_getElem? (i := 2) rfl)) (fun _ h9 => h9) rfl dX14_feed_103 ?_
  refine lv_iconst (v := 1) hx hb dX14_feed_106 (by decide) ?_
  refine lv_iadd hx hb dX14_feed_107 ?_
  refine lv_topi (fun x_33 ex_33 => ?_)
  have ex_33 := ex_33.trans (show _ = (4 : Int32) by decide)
  subst ex_33
  refine va_put (D := (dC, dI)) (ci := 14) (v := .int 4) (ty := .int) (C := RX14) (T := TX14) (N := 40) hx hb hts hin_14 tyX14 tyX14_ok nmX14 hown hK hP hD hS 0 rfl rfl 11 (by decide) (hts (.fieldLink RX14 304 "LessonMakerModel" "taped" "I") (List.mem_of_getElem? (i := 2) rfl)) (fun _ h9 => h9) rfl (by decide +kernel) rfl rfl (Nat.le_of_ble_eq_true rfl) dX14_feed_108 (fun H locs hP hD hS => ?_)
  have hP : va_P (dC, dI) z_Cl [(h0, .inr (14, [.int 0, .int 0, .int (-1), .int 0, .ref mp, .ref mq, .ref ms, .int 0, .int 0, .ref mo, .ref mt, .int 4, .int 0, .int 0, .int 0, .int 0, .int 0, .int 0, .int 0, .int 0, .int 0, .long 0, .ref ml, .ref mw, .int 0, .ref m1, .int 0, .int 0, .int 0, .int 0, .ref m2, .ref m3, .int 0, .int 0, .ref m4, .ref m5, .ref m6, .ref m7, .ref m8, .ref m9])), (mt, .inl (kt, 600, .inl g_32))] H := hP
  have hD : va_D A [(h0, .inr (14, [.int 0, .int 0, .int (-1), .int 0, .ref mp, .ref mq, .ref ms, .int 0, .int 0, .ref mo, .ref mt, .int 4, .int 0, .int 0, .int 0, .int 0, .int 0, .int 0, .int 0, .int 0, .int 0, .long 0, .ref ml, .ref mw, .int 0, .ref m1, .int 0, .int 0, .int 0, .int 0, .ref m2, .ref m3, .int 0, .int 0, .ref m4, .ref m5, .ref m6, .ref m7, .ref m8, .ref m9])), (mt, .inl (kt, 600, .inl g_32))] := hD
  refine lv_iinc (v := 4) (lv' := [(6, .int 4), (7, .int p1), (0, .ref h0), (1, .int p1), (2, .int p2), (3, .int p3), (4, .int p4), (5, .int p5)]) hx hb dX14_feed_111 hl (k := 1) rfl (by decide) (by decide) rfl (fun ls hl => ?_)
  refine lv_goto (tgt := 23) hx hb dX14_feed_114 (by decide) ?_
  refine lv_iload hx hb dX14_feed_23 (lv_at hl 0 rfl) ?_
  refine lv_bipush (v := 20) hx hb dX14_feed_25 (by decide) ?_
  refine lv_icmp_ge (tgt := 117) hx hb dX14_feed_27 (by decide) (fun h9 => absurd h9 (by decide)) (fun _ => ?_)
  refine lv_iload hx hb dX14_feed_30 (lv_at hl 0 rfl) ?_
  refine lv_iconst (v := 4) hx hb dX14_feed_32 (by decide) ?_
  refine lv_icmp_ge (tgt := 40) hx hb dX14_feed_33 (by decide) (fun _ => ?_) (fun h9 => absurd (by decide) h9)
  refine lv_iload hx hb dX14_feed_40 (lv_at hl 0 rfl) ?_
  refine lv_bipush (v := 8) hx hb dX14_feed_42 (by decide) ?_
  refine lv_icmp_ge (tgt := 51) hx hb dX14_feed_44 (by decide) (fun h9 => absurd h9 (by decide)) (fun _ => ?_)
  refine lv_iload_n hx hb dX14_feed_47 rfl (lv_at hl 4 rfl) ?_
  refine lv_goto (tgt := 76) hx hb dX14_feed_48 (by decide) ?_
  refine lv_istore (lv' := [(7, .int p2), (6, .int 4), (0, .ref h0), (1, .int p1), (2, .int p2), (3, .int p3), (4, .int p4), (5, .int p5)]) hx hb dX14_feed_76 hl (by decide) rfl (fun ls hl => ?_)
  refine lv_aload_n hx hb dX14_feed_78 rfl (lv_at hl 2 rfl) ?_
  refine va_get (D := (dC, dI)) (ci := 14) (v := .ref mt) (C := RX14) (T := TX14) (N := 40) hx hb hts hin_14 hown hK hP 0 rfl rfl 10 (by decide) (hts (.fieldLink RX14 33 "LessonMakerModel" "tape" "[B") (List.mem_of_getElem? (i := 3) rfl)) (fun _ h9 => h9) rfl dX14_feed_79 ?_
  refine lv_aload_n hx hb dX14_feed_82 rfl (lv_at hl 2 rfl) ?_
  refine va_get (D := (dC, dI)) (ci := 14) (v := .int 4) (C := RX14) (T := TX14) (N := 40) hx hb hts hin_14 hown hK hP 0 rfl rfl 11 (by decide) (hts (.fieldLink RX14 304 "LessonMakerModel" "taped" "I") (List.mem_of_getElem? (i := 2) rfl)) (fun _ h9 => h9) rfl dX14_feed_83 ?_
  refine lv_iload hx hb dX14_feed_86 (lv_at hl 0 rfl) ?_
  refine lv_bipush (v := 24) hx hb dX14_feed_88 (by decide) ?_
  refine lv_bipush (v := 8) hx hb dX14_feed_90 (by decide) ?_
  refine lv_iload hx hb dX14_feed_92 (lv_at hl 1 rfl) ?_
  refine lv_iconst (v := 4) hx hb dX14_feed_94 (by decide) ?_
  refine lv_irem hx hb dX14_feed_95 (by decide) ?_
  refine lv_topi (fun x_34 ex_34 => ?_)
  have ex_34 := ex_34.trans (show _ = (0 : Int32) by decide)
  subst ex_34
  refine lv_imul hx hb dX14_feed_96 ?_
  refine lv_topi (fun x_35 ex_35 => ?_)
  have ex_35 := ex_35.trans (show _ = (0 : Int32) by decide)
  subst ex_35
  refine lv_isub hx hb dX14_feed_97 ?_
  refine lv_topi (fun x_36 ex_36 => ?_)
  have ex_36 := ex_36.trans (show _ = (24 : Int32) by decide)
  subst ex_36
  refine lv_ishr hx hb dX14_feed_98 ?_
  refine lv_topi (fun x_37 ex_37 => ?_)
  refine lv_i2b hx hb dX14_feed_99 rfl ?_
  refine lv_topi (fun y_39 ey_39 => ?_)
  refine va_bast hx hb hK hP hD hS 1 0 rfl rfl (i := 4) (z_io (by decide)) dX14_feed_100 (fun H locs hP hD hS => ?_)
  obtain ⟨g_40, eg_40⟩ : ∃ z, z = upd g_32 (Int32.toNatClampNeg 4) (vp_nar .byte y_39) := ⟨_, rfl⟩
  rw [← eg_40] at hP hD
  have hP : va_P (dC, dI) z_Cl [(h0, .inr (14, [.int 0, .int 0, .int (-1), .int 0, .ref mp, .ref mq, .ref ms, .int 0, .int 0, .ref mo, .ref mt, .int 4, .int 0, .int 0, .int 0, .int 0, .int 0, .int 0, .int 0, .int 0, .int 0, .long 0, .ref ml, .ref mw, .int 0, .ref m1, .int 0, .int 0, .int 0, .int 0, .ref m2, .ref m3, .int 0, .int 0, .ref m4, .ref m5, .ref m6, .ref m7, .ref m8, .ref m9])), (mt, .inl (kt, 600, .inl g_40))] H := hP
  have hD : va_D A [(h0, .inr (14, [.int 0, .int 0, .int (-1), .int 0, .ref mp, .ref mq, .ref ms, .int 0, .int 0, .ref mo, .ref mt, .int 4, .int 0, .int 0, .int 0, .int 0, .int 0, .int 0, .int 0, .int 0, .int 0, .long 0, .ref ml, .ref mw, .int 0, .ref m1, .int 0, .int 0, .int 0, .int 0, .ref m2, .ref m3, .int 0, .int 0, .ref m4, .ref m5, .ref m6, .ref m7, .ref m8, .ref m9])), (mt, .inl (kt, 600, .inl g_40))] := hD
  refine lv_aload_n hx hb dX14_feed_101 rfl (lv_at hl 2 rfl) ?_
  refine lv_dup hx hb dX14_feed_102 rfl ?_
  refine va_get (D := (dC, dI)) (ci := 14) (v := .int 4) (C := RX14) (T := TX14) (N := 40) hx hb hts hin_14 hown hK hP 0 rfl rfl 11 (by decide) (hts (.fieldLink RX14 304 "LessonMakerModel" "taped" "I") (List.mem_of_getElem? (i := 2) rfl)) (fun _ h9 => h9) rfl dX14_feed_103 ?_
  refine lv_iconst (v := 1) hx hb dX14_feed_106 (by decide) ?_
  refine lv_iadd hx hb dX14_feed_107 ?_
  refine lv_topi (fun x_41 ex_41 => ?_)
  have ex_41 := ex_41.trans (show _ = (5 : Int32) by decide)
  subst ex_41
  refine va_put (D := (dC, dI)) (ci := 14) (v := .int 5) (ty := .int) (C := RX14) (T := TX14) (N := 40) hx hb hts hin_14 tyX14 tyX14_ok nmX14 hown hK hP hD hS 0 rfl rfl 11 (by decide) (hts (.fieldLink RX14 304 "LessonMakerModel" "taped" "I") (List.mem_of_getElem? (i := 2) rfl)) (fun _ h9 => h9) rfl (by decide +kernel) rfl rfl (Nat.le_of_ble_eq_true rfl) dX14_feed_108 (fun H locs hP hD hS => ?_)
  have hP : va_P (dC, dI) z_Cl [(h0, .inr (14, [.int 0, .int 0, .int (-1), .int 0, .ref mp, .ref mq, .ref ms, .int 0, .int 0, .ref mo, .ref mt, .int 5, .int 0, .int 0, .int 0, .int 0, .int 0, .int 0, .int 0, .int 0, .int 0, .long 0, .ref ml, .ref mw, .int 0, .ref m1, .int 0, .int 0, .int 0, .int 0, .ref m2, .ref m3, .int 0, .int 0, .ref m4, .ref m5, .ref m6, .ref m7, .ref m8, .ref m9])), (mt, .inl (kt, 600, .inl g_40))] H := hP
  have hD : va_D A [(h0, .inr (14, [.int 0, .int 0, .int (-1), .int 0, .ref mp, .ref mq, .ref ms, .int 0, .int 0, .ref mo, .ref mt, .int 5, .int 0, .int 0, .int 0, .int 0, .int 0, .int 0, .int 0, .int 0, .int 0, .long 0, .ref ml, .ref mw, .int 0, .ref m1, .int 0, .int 0, .int 0, .int 0, .ref m2, .ref m3, .int 0, .int 0, .ref m4, .ref m5, .ref m6, .ref m7, .ref m8, .ref m9])), (mt, .inl (kt, 600, .inl g_40))] := hD
  refine lv_iinc (v := 5) (lv' := [(6, .int 5), (7, .int p2), (0, .ref h0), (1, .int p1), (2, .int p2), (3, .int p3), (4, .int p4), (5, .int p5)]) hx hb dX14_feed_111 hl (k := 1) rfl (by decide) (by decide) rfl (fun ls hl => ?_)
  refine lv_goto (tgt := 23) hx hb dX14_feed_114 (by decide) ?_
  refine lv_iload hx hb dX14_feed_23 (lv_at hl 0 rfl) ?_
  refine lv_bipush (v := 20) hx hb dX14_feed_25 (by decide) ?_
  refine lv_icmp_ge (tgt := 117) hx hb dX14_feed_27 (by decide) (fun h9 => absurd h9 (by decide)) (fun _ => ?_)
  refine lv_iload hx hb dX14_feed_30 (lv_at hl 0 rfl) ?_
  refine lv_iconst (v := 4) hx hb dX14_feed_32 (by decide) ?_
  refine lv_icmp_ge (tgt := 40) hx hb dX14_feed_33 (by decide) (fun _ => ?_) (fun h9 => absurd (by decide) h9)
  refine lv_iload hx hb dX14_feed_40 (lv_at hl 0 rfl) ?_
  refine lv_bipush (v := 8) hx hb dX14_feed_42 (by decide) ?_
  refine lv_icmp_ge (tgt := 51) hx hb dX14_feed_44 (by decide) (fun h9 => absurd h9 (by decide)) (fun _ => ?_)
  refine lv_iload_n hx hb dX14_feed_47 rfl (lv_at hl 4 rfl) ?_
  refine lv_goto (tgt := 76) hx hb dX14_feed_48 (by decide) ?_
  refine lv_istore (lv' := [(7, .int p2), (6, .int 5), (0, .ref h0), (1, .int p1), (2, .int p2), (3, .int p3), (4, .int p4), (5, .int p5)]) hx hb dX14_feed_76 hl (by decide) rfl (fun ls hl => ?_)
  refine lv_aload_n hx hb dX14_feed_78 rfl (lv_at hl 2 rfl) ?_
  refine va_get (D := (dC, dI)) (ci := 14) (v := .ref mt) (C := RX14) (T := TX14) (N := 40) hx hb hts hin_14 hown hK hP 0 rfl rfl 10 (by decide) (hts (.fieldLink RX14 33 "LessonMakerModel" "tape" "[B") (List.mem_of_getElem? (i := 3) rfl)) (fun _ h9 => h9) rfl dX14_feed_79 ?_
  refine lv_aload_n hx hb dX14_feed_82 rfl (lv_at hl 2 rfl) ?_
  refine va_get (D := (dC, dI)) (ci := 14) (v := .int 5) (C := RX14) (T := TX14) (N := 40) hx hb hts hin_14 hown hK hP 0 rfl rfl 11 (by decide) (hts (.fieldLink RX14 304 "LessonMakerModel" "taped" "I") (List.mem_of_getElem? (i := 2) rfl)) (fun _ h9 => h9) rfl dX14_feed_83 ?_
  refine lv_iload hx hb dX14_feed_86 (lv_at hl 0 rfl) ?_
  refine lv_bipush (v := 24) hx hb dX14_feed_88 (by decide) ?_
  refine lv_bipush (v := 8) hx hb dX14_feed_90 (by decide) ?_
  refine lv_iload hx hb dX14_feed_92 (lv_at hl 1 rfl) ?_
  refine lv_iconst (v := 4) hx hb dX14_feed_94 (by decide) ?_
  refine lv_irem hx hb dX14_feed_95 (by decide) ?_
  refine lv_topi (fun x_42 ex_42 => ?_)
  have ex_42 := ex_42.trans (show _ = (1 : Int32) by decide)
  subst ex_42
  refine lv_imul hx hb dX14_feed_96 ?_
  refine lv_topi (fun x_43 ex_43 => ?_)
  have ex_43 := ex_43.trans (show _ = (8 : Int32) by decide)
  subst ex_43
  refine lv_isub hx hb dX14_feed_97 ?_
  refine lv_topi (fun x_44 ex_44 => ?_)
  have ex_44 := ex_44.trans (show _ = (16 : Int32) by decide)
  subst ex_44
  refine lv_ishr hx hb dX14_feed_98 ?_
  refine lv_topi (fun x_45 ex_45 => ?_)
  refine lv_i2b hx hb dX14_feed_99 rfl ?_
  refine lv_topi (fun y_47 ey_47 => ?_)
  refine va_bast hx hb hK hP hD hS 1 0 rfl rfl (i := 5) (z_io (by decide)) dX14_feed_100 (fun H locs hP hD hS => ?_)
  obtain ⟨g_48, eg_48⟩ : ∃ z, z = upd g_40 (Int32.toNatClampNeg 5) (vp_nar .byte y_47) := ⟨_, rfl⟩
  rw [← eg_48] at hP hD
  have hP : va_P (dC, dI) z_Cl [(h0, .inr (14, [.int 0, .int 0, .int (-1), .int 0, .ref mp, .ref mq, .ref ms, .int 0, .int 0, .ref mo, .ref mt, .int 5, .int 0, .int 0, .int 0, .int 0, .int 0, .int 0, .int 0, .int 0, .int 0, .long 0, .ref ml, .ref mw, .int 0, .ref m1, .int 0, .int 0, .int 0, .int 0, .ref m2, .ref m3, .int 0, .int 0, .ref m4, .ref m5, .ref m6, .ref m7, .ref m8, .ref m9])), (mt, .inl (kt, 600, .inl g_48))] H := hP
  have hD : va_D A [(h0, .inr (14, [.int 0, .int 0, .int (-1), .int 0, .ref mp, .ref mq, .ref ms, .int 0, .int 0, .ref mo, .ref mt, .int 5, .int 0, .int 0, .int 0, .int 0, .int 0, .int 0, .int 0, .int 0, .int 0, .long 0, .ref ml, .ref mw, .int 0, .ref m1, .int 0, .int 0, .int 0, .int 0, .ref m2, .ref m3, .int 0, .int 0, .ref m4, .ref m5, .ref m6, .ref m7, .ref m8, .ref m9])), (mt, .inl (kt, 600, .inl g_48))] := hD
  refine lv_aload_n hx hb dX14_feed_101 rfl (lv_at hl 2 rfl) ?_
  refine lv_dup hx hb dX14_feed_102 rfl ?_
  refine va_get (D := (dC, dI)) (ci := 14) (v := .int 5) (C := RX14) (T := TX14) (N := 40) hx hb hts hin_14 hown hK hP 0 rfl rfl 11 (by decide) (hts (.fieldLink RX14 304 "LessonMakerModel" "taped" "I") (List.mem_of_getElem? (i := 2) rfl)) (fun _ h9 => h9) rfl dX14_feed_103 ?_
  refine lv_iconst (v := 1) hx hb dX14_feed_106 (by decide) ?_
  refine lv_iadd hx hb dX14_feed_107 ?_
  refine lv_topi (fun x_49 ex_49 => ?_)
  have ex_49 := ex_49.trans (show _ = (6 : Int32) by decide)
  subst ex_49
  refine va_put (D := (dC, dI)) (ci := 14) (v := .int 6) (ty := .int) (C := RX14) (T := TX14) (N := 40) hx hb hts hin_14 tyX14 tyX14_ok nmX14 hown hK hP hD hS 0 rfl rfl 11 (by decide) (hts (.fieldLink RX14 304 "LessonMakerModel" "taped" "I") (List.mem_of_getElem? (i := 2) rfl)) (fun _ h9 => h9) rfl (by decide +kernel) rfl rfl (Nat.le_of_ble_eq_true rfl) dX14_feed_108 (fun H locs hP hD hS => ?_)
  have hP : va_P (dC, dI) z_Cl [(h0, .inr (14, [.int 0, .int 0, .int (-1), .int 0, .ref mp, .ref mq, .ref ms, .int 0, .int 0, .ref mo, .ref mt, .int 6, .int 0, .int 0, .int 0, .int 0, .int 0, .int 0, .int 0, .int 0, .int 0, .long 0, .ref ml, .ref mw, .int 0, .ref m1, .int 0, .int 0, .int 0, .int 0, .ref m2, .ref m3, .int 0, .int 0, .ref m4, .ref m5, .ref m6, .ref m7, .ref m8, .ref m9])), (mt, .inl (kt, 600, .inl g_48))] H := hP
  have hD : va_D A [(h0, .inr (14, [.int 0, .int 0, .int (-1), .int 0, .ref mp, .ref mq, .ref ms, .int 0, .int 0, .ref mo, .ref mt, .int 6, .int 0, .int 0, .int 0, .int 0, .int 0, .int 0, .int 0, .int 0, .int 0, .long 0, .ref ml, .ref mw, .int 0, .ref m1, .int 0, .int 0, .int 0, .int 0, .ref m2, .ref m3, .int 0, .int 0, .ref m4, .ref m5, .ref m6, .ref m7, .ref m8, .ref m9])), (mt, .inl (kt, 600, .inl g_48))] := hD
  refine lv_iinc (v := 6) (lv' := [(6, .int 6), (7, .int p2), (0, .ref h0), (1, .int p1), (2, .int p2), (3, .int p3), (4, .int p4), (5, .int p5)]) hx hb dX14_feed_111 hl (k := 1) rfl (by decide) (by decide) rfl (fun ls hl => ?_)
  refine lv_goto (tgt := 23) hx hb dX14_feed_114 (by decide) ?_
  refine lv_iload hx hb dX14_feed_23 (lv_at hl 0 rfl) ?_
  refine lv_bipush (v := 20) hx hb dX14_feed_25 (by decide) ?_
  refine lv_icmp_ge (tgt := 117) hx hb dX14_feed_27 (by decide) (fun h9 => absurd h9 (by decide)) (fun _ => ?_)
  refine lv_iload hx hb dX14_feed_30 (lv_at hl 0 rfl) ?_
  refine lv_iconst (v := 4) hx hb dX14_feed_32 (by decide) ?_
  refine lv_icmp_ge (tgt := 40) hx hb dX14_feed_33 (by decide) (fun _ => ?_) (fun h9 => absurd (by decide) h9)
  refine lv_iload hx hb dX14_feed_40 (lv_at hl 0 rfl) ?_
  refine lv_bipush (v := 8) hx hb dX14_feed_42 (by decide) ?_
  refine lv_icmp_ge (tgt := 51) hx hb dX14_feed_44 (by decide) (fun h9 => absurd h9 (by decide)) (fun _ => ?_)
  refine lv_iload_n hx hb dX14_feed_47 rfl (lv_at hl 4 rfl) ?_
  refine lv_goto (tgt := 76) hx hb dX14_feed_48 (by decide) ?_
  refine lv_istore (lv' := [(7, .int p2), (6, .int 6), (0, .ref h0), (1, .int p1), (2, .int p2), (3, .int p3), (4, .int p4), (5, .int p5)]) hx hb dX14_feed_76 hl (by decide) rfl (fun ls hl => ?_)
  refine lv_aload_n hx hb dX14_feed_78 rfl (lv_at hl 2 rfl) ?_
  refine va_get (D := (dC, dI)) (ci := 14) (v := .ref mt) (C := RX14) (T := TX14) (N := 40) hx hb hts hin_14 hown hK hP 0 rfl rfl 10 (by decide) (hts (.fieldLink RX14 33 "LessonMakerModel" "tape" "[B") (List.mem_of_getElem? (i := 3) rfl)) (fun _ h9 => h9) rfl dX14_feed_79 ?_
  refine lv_aload_n hx hb dX14_feed_82 rfl (lv_at hl 2 rfl) ?_
  refine va_get (D := (dC, dI)) (ci := 14) (v := .int 6) (C := RX14) (T := TX14) (N := 40) hx hb hts hin_14 hown hK hP 0 rfl rfl 11 (by decide) (hts (.fieldLink RX14 304 "LessonMakerModel" "taped" "I") (List.mem_of_getElem? (i := 2) rfl)) (fun _ h9 => h9) rfl dX14_feed_83 ?_
  refine lv_iload hx hb dX14_feed_86 (lv_at hl 0 rfl) ?_
  refine lv_bipush (v := 24) hx hb dX14_feed_88 (by decide) ?_
  refine lv_bipush (v := 8) hx hb dX14_feed_90 (by decide) ?_
  refine lv_iload hx hb dX14_feed_92 (lv_at hl 1 rfl) ?_
  refine lv_iconst (v := 4) hx hb dX14_feed_94 (by decide) ?_
  refine lv_irem hx hb dX14_feed_95 (by decide) ?_
  refine lv_topi (fun x_50 ex_50 => ?_)
  have ex_50 := ex_50.trans (show _ = (2 : Int32) by decide)
  subst ex_50
  refine lv_imul hx hb dX14_feed_96 ?_
  refine lv_topi (fun x_51 ex_51 => ?_)
  have ex_51 := ex_51.trans (show _ = (16 : Int32) by decide)
  subst ex_51
  refine lv_isub hx hb dX14_feed_97 ?_
  refine lv_topi (fun x_52 ex_52 => ?_)
  have ex_52 := ex_52.trans (show _ = (8 : Int32) by decide)
  subst ex_52
  refine lv_ishr hx hb dX14_feed_98 ?_
  refine lv_topi (fun x_53 ex_53 => ?_)
  refine lv_i2b hx hb dX14_feed_99 rfl ?_
  refine lv_topi (fun y_55 ey_55 => ?_)
  refine va_bast hx hb hK hP hD hS 1 0 rfl rfl (i := 6) (z_io (by decide)) dX14_feed_100 (fun H locs hP hD hS => ?_)
  obtain ⟨g_56, eg_56⟩ : ∃ z, z = upd g_48 (Int32.toNatClampNeg 6) (vp_nar .byte y_55) := ⟨_, rfl⟩
  rw [← eg_56] at hP hD
  have hP : va_P (dC, dI) z_Cl [(h0, .inr (14, [.int 0, .int 0, .int (-1), .int 0, .ref mp, .ref mq, .ref ms, .int 0, .int 0, .ref mo, .ref mt, .int 6, .int 0, .int 0, .int 0, .int 0, .int 0, .int 0, .int 0, .int 0, .int 0, .long 0, .ref ml, .ref mw, .int 0, .ref m1, .int 0, .int 0, .int 0, .int 0, .ref m2, .ref m3, .int 0, .int 0, .ref m4, .ref m5, .ref m6, .ref m7, .ref m8, .ref m9])), (mt, .inl (kt, 600, .inl g_56))] H := hP
  have hD : va_D A [(h0, .inr (14, [.int 0, .int 0, .int (-1), .int 0, .ref mp, .ref mq, .ref ms, .int 0, .int 0, .ref mo, .ref mt, .int 6, .int 0, .int 0, .int 0, .int 0, .int 0, .int 0, .int 0, .int 0, .int 0, .long 0, .ref ml, .ref mw, .int 0, .ref m1, .int 0, .int 0, .int 0, .int 0, .ref m2, .ref m3, .int 0, .int 0, .ref m4, .ref m5, .ref m6, .ref m7, .ref m8, .ref m9])), (mt, .inl (kt, 600, .inl g_56))] := hD
  refine lv_aload_n hx hb dX14_feed_101 rfl (lv_at hl 2 rfl) ?_
  refine lv_dup hx hb dX14_feed_102 rfl ?_
  refine va_get (D := (dC, dI)) (ci := 14) (v := .int 6) (C := RX14) (T := TX14) (N := 40) hx hb hts hin_14 hown hK hP 0 rfl rfl 11 (by decide) (hts (.fieldLink RX14 304 "LessonMakerModel" "taped" "I") (List.mem_of_getElem? (i := 2) rfl)) (fun _ h9 => h9) rfl dX14_feed_103 ?_
  refine lv_iconst (v := 1) hx hb dX14_feed_106 (by decide) ?_
  refine lv_iadd hx hb dX14_feed_107 ?_
  refine lv_topi (fun x_57 ex_57 => ?_)
  have ex_57 := ex_57.trans (show _ = (7 : Int32) by decide)
  subst ex_57
  refine va_put (D := (dC, dI)) (ci := 14) (v := .int 7) (ty := .int) (C := RX14) (T := TX14) (N := 40) hx hb hts hin_14 tyX14 tyX14_ok nmX14 hown hK hP hD hS 0 rfl rfl 11 (by decide) (hts (.fieldLink RX14 304 "LessonMakerModel" "taped" "I") (List.mem_of_getElem? (i := 2) rfl)) (fun _ h9 => h9) rfl (by decide +kernel) rfl rfl (Nat.le_of_ble_eq_true rfl) dX14_feed_108 (fun H locs hP hD hS => ?_)
  have hP : va_P (dC, dI) z_Cl [(h0, .inr (14, [.int 0, .int 0, .int (-1), .int 0, .ref mp, .ref mq, .ref ms, .int 0, .int 0, .ref mo, .ref mt, .int 7, .int 0, .int 0, .int 0, .int 0, .int 0, .int 0, .int 0, .int 0, .int 0, .long 0, .ref ml, .ref mw, .int 0, .ref m1, .int 0, .int 0, .int 0, .int 0, .ref m2, .ref m3, .int 0, .int 0, .ref m4, .ref m5, .ref m6, .ref m7, .ref m8, .ref m9])), (mt, .inl (kt, 600, .inl g_56))] H := hP
  have hD : va_D A [(h0, .inr (14, [.int 0, .int 0, .int (-1), .int 0, .ref mp, .ref mq, .ref ms, .int 0, .int 0, .ref mo, .ref mt, .int 7, .int 0, .int 0, .int 0, .int 0, .int 0, .int 0, .int 0, .int 0, .int 0, .long 0, .ref ml, .ref mw, .int 0, .ref m1, .int 0, .int 0, .int 0, .int 0, .ref m2, .ref m3, .int 0, .int 0, .ref m4, .ref m5, .ref m6, .ref m7, .ref m8, .ref m9])), (mt, .inl (kt, 600, .inl g_56))] := hD
  refine lv_iinc (v := 7) (lv' := [(6, .int 7), (7, .int p2), (0, .ref h0), (1, .int p1), (2, .int p2), (3, .int p3), (4, .int p4), (5, .int p5)]) hx hb dX14_feed_111 hl (k := 1) rfl (by decide) (by decide) rfl (fun ls hl => ?_)
  refine lv_goto (tgt := 23) hx hb dX14_feed_114 (by decide) ?_
  refine lv_iload hx hb dX14_feed_23 (lv_at hl 0 rfl) ?_
  refine lv_bipush (v := 20) hx hb dX14_feed_25 (by decide) ?_
  refine lv_icmp_ge (tgt := 117) hx hb dX14_feed_27 (by decide) (fun h9 => absurd h9 (by decide)) (fun _ => ?_)
  refine lv_iload hx hb dX14_feed_30 (lv_at hl 0 rfl) ?_
  refine lv_iconst (v := 4) hx hb dX14_feed_32 (by decide) ?_
  refine lv_icmp_ge (tgt := 40) hx hb dX14_feed_33 (by decide) (fun _ => ?_) (fun h9 => absurd (by decide) h9)
  refine lv_iload hx hb dX14_feed_40 (lv_at hl 0 rfl) ?_
  refine lv_bipush (v := 8) hx hb dX14_feed_42 (by decide) ?_
  refine lv_icmp_ge (tgt := 51) hx hb dX14_feed_44 (by decide) (fun h9 => absurd h9 (by decide)) (fun _ => ?_)
  refine lv_iload_n hx hb dX14_feed_47 rfl (lv_at hl 4 rfl) ?_
  refine lv_goto (tgt := 76) hx hb dX14_feed_48 (by decide) ?_
  refine lv_istore (lv' := [(7, .int p2), (6, .int 7), (0, .ref h0), (1, .int p1), (2, .int p2), (3, .int p3), (4, .int p4), (5, .int p5)]) hx hb dX14_feed_76 hl (by decide) rfl (fun ls hl => ?_)
  refine lv_aload_n hx hb dX14_feed_78 rfl (lv_at hl 2 rfl) ?_
  refine va_get (D := (dC, dI)) (ci := 14) (v := .ref mt) (C := RX14) (T := TX14) (N := 40) hx hb hts hin_14 hown hK hP 0 rfl rfl 10 (by decide) (hts (.fieldLink RX14 33 "LessonMakerModel" "tape" "[B") (List.mem_of_getElem? (i := 3) rfl)) (fun _ h9 => h9) rfl dX14_feed_79 ?_
  refine lv_aload_n hx hb dX14_feed_82 rfl (lv_at hl 2 rfl) ?_
  refine va_get (D := (dC, dI)) (ci := 14) (v := .int 7) (C := RX14) (T := TX14) (N := 40) hx hb hts hin_14 hown hK hP 0 rfl rfl 11 (by decide) (hts (.fieldLink RX14 304 "LessonMakerModel" "taped" "I") (List.mem_of_getElem? (i := 2) rfl)) (fun _ h9 => h9) rfl dX14_feed_83 ?_
  refine lv_iload hx hb dX14_feed_86 (lv_at hl 0 rfl) ?_
  refine lv_bipush (v := 24) hx hb dX14_feed_88 (by decide) ?_
  refine lv_bipush (v := 8) hx hb dX14_feed_90 (by decide) ?_
  refine lv_iload hx hb dX14_feed_92 (lv_at hl 1 rfl) ?_
  refine lv_iconst (v := 4) hx hb dX14_feed_94 (by decide) ?_
  refine lv_irem hx hb dX14_feed_95 (by decide) ?_
  refine lv_topi (fun x_58 ex_58 => ?_)
  have ex_58 := ex_58.trans (show _ = (3 : Int32) by decide)
  subst ex_58
  refine lv_imul hx hb dX14_feed_96 ?_
  refine lv_topi (fun x_59 ex_59 => ?_)
  have ex_59 := ex_59.trans (show _ = (24 : Int32) by decide)
  subst ex_59
  refine lv_isub hx hb dX14_feed_97 ?_
  refine lv_topi (fun x_60 ex_60 => ?_)
  have ex_60 := ex_60.trans (show _ = (0 : Int32) by decide)
  subst ex_60
  refine lv_ishr hx hb dX14_feed_98 ?_
  refine lv_topi (fun x_61 ex_61 => ?_)
  refine lv_i2b hx hb dX14_feed_99 rfl ?_
  refine lv_topi (fun y_63 ey_63 => ?_)
  refine va_bast hx hb hK hP hD hS 1 0 rfl rfl (i := 7) (z_io (by decide)) dX14_feed_100 (fun H locs hP hD hS => ?_)
  obtain ⟨g_64, eg_64⟩ : ∃ z, z = upd g_56 (Int32.toNatClampNeg 7) (vp_nar .byte y_63) := ⟨_, rfl⟩
  rw [← eg_64] at hP hD
  have hP : va_P (dC, dI) z_Cl [(h0, .inr (14, [.int 0, .int 0, .int (-1), .int 0, .ref mp, .ref mq, .ref ms, .int 0, .int 0, .ref mo, .ref mt, .int 7, .int 0, .int 0, .int 0, .int 0, .int 0, .int 0, .int 0, .int 0, .int 0, .long 0, .ref ml, .ref mw, .int 0, .ref m1, .int 0, .int 0, .int 0, .int 0, .ref m2, .ref m3, .int 0, .int 0, .ref m4, .ref m5, .ref m6, .ref m7, .ref m8, .ref m9])), (mt, .inl (kt, 600, .inl g_64))] H := hP
  have hD : va_D A [(h0, .inr (14, [.int 0, .int 0, .int (-1), .int 0, .ref mp, .ref mq, .ref ms, .int 0, .int 0, .ref mo, .ref mt, .int 7, .int 0, .int 0, .int 0, .int 0, .int 0, .int 0, .int 0, .int 0, .int 0, .long 0, .ref ml, .ref mw, .int 0, .ref m1, .int 0, .int 0, .int 0, .int 0, .ref m2, .ref m3, .int 0, .int 0, .ref m4, .ref m5, .ref m6, .ref m7, .ref m8, .ref m9])), (mt, .inl (kt, 600, .inl g_64))] := hD
  refine lv_aload_n hx hb dX14_feed_101 rfl (lv_at hl 2 rfl) ?_
  refine lv_dup hx hb dX14_feed_102 rfl ?_
  refine va_get (D := (dC, dI)) (ci := 14) (v := .int 7) (C := RX14) (T := TX14) (N := 40) hx hb hts hin_14 hown hK hP 0 rfl rfl 11 (by decide) (hts (.fieldLink RX14 304 "LessonMakerModel" "taped" "I") (List.mem_of_getElem? (i := 2) rfl)) (fun _ h9 => h9) rfl dX14_feed_103 ?_
  refine lv_iconst (v := 1) hx hb dX14_feed_106 (by decide) ?_
  refine lv_iadd hx hb dX14_feed_107 ?_
  refine lv_topi (fun x_65 ex_65 => ?_)
  have ex_65 := ex_65.trans (show _ = (8 : Int32) by decide)
  subst ex_65
  refine va_put (D := (dC, dI)) (ci := 14) (v := .int 8) (ty := .int) (C := RX14) (T := TX14) (N := 40) hx hb hts hin_14 tyX14 tyX14_ok nmX14 hown hK hP hD hS 0 rfl rfl 11 (by decide) (hts (.fieldLink RX14 304 "LessonMakerModel" "taped" "I") (List.mem_of_getElem? (i := 2) rfl)) (fun _ h9 => h9) rfl (by decide +kernel) rfl rfl (Nat.le_of_ble_eq_true rfl) dX14_feed_108 (fun H locs hP hD hS => ?_)
  have hP : va_P (dC, dI) z_Cl [(h0, .inr (14, [.int 0, .int 0, .int (-1), .int 0, .ref mp, .ref mq, .ref ms, .int 0, .int 0, .ref mo, .ref mt, .int 8, .int 0, .int 0, .int 0, .int 0, .int 0, .int 0, .int 0, .int 0, .int 0, .long 0, .ref ml, .ref mw, .int 0, .ref m1, .int 0, .int 0, .int 0, .int 0, .ref m2, .ref m3, .int 0, .int 0, .ref m4, .ref m5, .ref m6, .ref m7, .ref m8, .ref m9])), (mt, .inl (kt, 600, .inl g_64))] H := hP
  have hD : va_D A [(h0, .inr (14, [.int 0, .int 0, .int (-1), .int 0, .ref mp, .ref mq, .ref ms, .int 0, .int 0, .ref mo, .ref mt, .int 8, .int 0, .int 0, .int 0, .int 0, .int 0, .int 0, .int 0, .int 0, .int 0, .long 0, .ref ml, .ref mw, .int 0, .ref m1, .int 0, .int 0, .int 0, .int 0, .ref m2, .ref m3, .int 0, .int 0, .ref m4, .ref m5, .ref m6, .ref m7, .ref m8, .ref m9])), (mt, .inl (kt, 600, .inl g_64))] := hD
  refine lv_iinc (v := 8) (lv' := [(6, .int 8), (7, .int p2), (0, .ref h0), (1, .int p1), (2, .int p2), (3, .int p3), (4, .int p4), (5, .int p5)]) hx hb dX14_feed_111 hl (k := 1) rfl (by decide) (by decide) rfl (fun ls hl => ?_)
  refine lv_goto (tgt := 23) hx hb dX14_feed_114 (by decide) ?_
  refine lv_iload hx hb dX14_feed_23 (lv_at hl 0 rfl) ?_
  refine lv_bipush (v := 20) hx hb dX14_feed_25 (by decide) ?_
  refine lv_icmp_ge (tgt := 117) hx hb dX14_feed_27 (by decide) (fun h9 => absurd h9 (by decide)) (fun _ => ?_)
  refine lv_iload hx hb dX14_feed_30 (lv_at hl 0 rfl) ?_
  refine lv_iconst (v := 4) hx hb dX14_feed_32 (by decide) ?_
  refine lv_icmp_ge (tgt := 40) hx hb dX14_feed_33 (by decide) (fun _ => ?_) (fun h9 => absurd (by decide) h9)
  refine lv_iload hx hb dX14_feed_40 (lv_at hl 0 rfl) ?_
  refine lv_bipush (v := 8) hx hb dX14_feed_42 (by decide) ?_
  refine lv_icmp_ge (tgt := 51) hx hb dX14_feed_44 (by decide) (fun _ => ?_) (fun h9 => absurd (by decide) h9)
  refine lv_iload hx hb dX14_feed_51 (lv_at hl 0 rfl) ?_
  refine lv_bipush (v := 12) hx hb dX14_feed_53 (by decide) ?_
  refine lv_icmp_ge (tgt := 62) hx hb dX14_feed_55 (by decide) (fun h9 => absurd h9 (by decide)) (fun _ => ?_)
  refine lv_iload_n hx hb dX14_feed_58 rfl (lv_at hl 5 rfl) ?_
  refine lv_goto (tgt := 76) hx hb dX14_feed_59 (by decide) ?_
  refine lv_istore (lv' := [(7, .int p3), (6, .int 8), (0, .ref h0), (1, .int p1), (2, .int p2), (3, .int p3), (4, .int p4), (5, .int p5)]) hx hb dX14_feed_76 hl (by decide) rfl (fun ls hl => ?_)
  refine lv_aload_n hx hb dX14_feed_78 rfl (lv_at hl 2 rfl) ?_
  refine va_get (D := (dC, dI)) (ci := 14) (v := .ref mt) (C := RX14) (T := TX14) (N := 40) hx hb hts hin_14 hown hK hP 0 rfl rfl 10 (by decide) (hts (.fieldLink RX14 33 "LessonMakerModel" "tape" "[B") (List.mem_of_getElem? (i := 3) rfl)) (fun _ h9 => h9) rfl dX14_feed_79 ?_
  refine lv_aload_n hx hb dX14_feed_82 rfl (lv_at hl 2 rfl) ?_
  refine va_get (D := (dC, dI)) (ci := 14) (v := .int 8) (C := RX14) (T := TX14) (N := 40) hx hb hts hin_14 hown hK hP 0 rfl rfl 11 (by decide) (hts (.fieldLink RX14 304 "LessonMakerModel" "taped" "I") (List.mem_of_getElem? (i := 2) rfl)) (fun _ h9 => h9) rfl dX14_feed_83 ?_
  refine lv_iload hx hb dX14_feed_86 (lv_at hl 0 rfl) ?_
  refine lv_bipush (v := 24) hx hb dX14_feed_88 (by decide) ?_
  refine lv_bipush (v := 8) hx hb dX14_feed_90 (by decide) ?_
  refine lv_iload hx hb dX14_feed_92 (lv_at hl 1 rfl) ?_
  refine lv_iconst (v := 4) hx hb dX14_feed_94 (by decide) ?_
  refine lv_irem hx hb dX14_feed_95 (by decide) ?_
  refine lv_topi (fun x_66 ex_66 => ?_)
  have ex_66 := ex_66.trans (show _ = (0 : Int32) by decide)
  subst ex_66
  refine lv_imul hx hb dX14_feed_96 ?_
  refine lv_topi (fun x_67 ex_67 => ?_)
  have ex_67 := ex_67.trans (show _ = (0 : Int32) by decide)
  subst ex_67
  refine lv_isub hx hb dX14_feed_97 ?_
  refine lv_topi (fun x_68 ex_68 => ?_)
  have ex_68 := ex_68.trans (show _ = (24 : Int32) by decide)
  subst ex_68
  refine lv_ishr hx hb dX14_feed_98 ?_
  refine lv_topi (fun x_69 ex_69 => ?_)
  refine lv_i2b hx hb dX14_feed_99 rfl ?_
  refine lv_topi (fun y_71 ey_71 => ?_)
  refine va_bast hx hb hK hP hD hS 1 0 rfl rfl (i := 8) (z_io (by decide)) dX14_feed_100 (fun H locs hP hD hS => ?_)
  obtain ⟨g_72, eg_72⟩ : ∃ z, z = upd g_64 (Int32.toNatClampNeg 8) (vp_nar .byte y_71) := ⟨_, rfl⟩
  rw [← eg_72] at hP hD
  have hP : va_P (dC, dI) z_Cl [(h0, .inr (14, [.int 0, .int 0, .int (-1), .int 0, .ref mp, .ref mq, .ref ms, .int 0, .int 0, .ref mo, .ref mt, .int 8, .int 0, .int 0, .int 0, .int 0, .int 0, .int 0, .int 0, .int 0, .int 0, .long 0, .ref ml, .ref mw, .int 0, .ref m1, .int 0, .int 0, .int 0, .int 0, .ref m2, .ref m3, .int 0, .int 0, .ref m4, .ref m5, .ref m6, .ref m7, .ref m8, .ref m9])), (mt, .inl (kt, 600, .inl g_72))] H := hP
  have hD : va_D A [(h0, .inr (14, [.int 0, .int 0, .int (-1), .int 0, .ref mp, .ref mq, .ref ms, .int 0, .int 0, .ref mo, .ref mt, .int 8, .int 0, .int 0, .int 0, .int 0, .int 0, .int 0, .int 0, .int 0, .int 0, .long 0, .ref ml, .ref mw, .int 0, .ref m1, .int 0, .int 0, .int 0, .int 0, .ref m2, .ref m3, .int 0, .int 0, .ref m4, .ref m5, .ref m6, .ref m7, .ref m8, .ref m9])), (mt, .inl (kt, 600, .inl g_72))] := hD
  refine lv_aload_n hx hb dX14_feed_101 rfl (lv_at hl 2 rfl) ?_
  refine lv_dup hx hb dX14_feed_102 rfl ?_
  refine va_get (D := (dC, dI)) (ci := 14) (v := .int 8) (C := RX14) (T := TX14) (N := 40) hx hb hts hin_14 hown hK hP 0 rfl rfl 11 (by decide) (hts (.fieldLink RX14 304 "LessonMakerModel" "taped" "I") (List.mem_of_getElem? (i := 2) rfl)) (fun _ h9 => h9) rfl dX14_feed_103 ?_
  refine lv_iconst (v := 1) hx hb dX14_feed_106 (by decide) ?_
  refine lv_iadd hx hb dX14_feed_107 ?_
  refine lv_topi (fun x_73 ex_73 => ?_)
  have ex_73 := ex_73.trans (show _ = (9 : Int32) by decide)
  subst ex_73
  refine va_put (D := (dC, dI)) (ci := 14) (v := .int 9) (ty := .int) (C := RX14) (T := TX14) (N := 40) hx hb hts hin_14 tyX14 tyX14_ok nmX14 hown hK hP hD hS 0 rfl rfl 11 (by decide) (hts (.fieldLink RX14 304 "LessonMakerModel" "taped" "I") (List.mem_of_getElem? (i := 2) rfl)) (fun _ h9 => h9) rfl (by decide +kernel) rfl rfl (Nat.le_of_ble_eq_true rfl) dX14_feed_108 (fun H locs hP hD hS => ?_)
  have hP : va_P (dC, dI) z_Cl [(h0, .inr (14, [.int 0, .int 0, .int (-1), .int 0, .ref mp, .ref mq, .ref ms, .int 0, .int 0, .ref mo, .ref mt, .int 9, .int 0, .int 0, .int 0, .int 0, .int 0, .int 0, .int 0, .int 0, .int 0, .long 0, .ref ml, .ref mw, .int 0, .ref m1, .int 0, .int 0, .int 0, .int 0, .ref m2, .ref m3, .int 0, .int 0, .ref m4, .ref m5, .ref m6, .ref m7, .ref m8, .ref m9])), (mt, .inl (kt, 600, .inl g_72))] H := hP
  have hD : va_D A [(h0, .inr (14, [.int 0, .int 0, .int (-1), .int 0, .ref mp, .ref mq, .ref ms, .int 0, .int 0, .ref mo, .ref mt, .int 9, .int 0, .int 0, .int 0, .int 0, .int 0, .int 0, .int 0, .int 0, .int 0, .long 0, .ref ml, .ref mw, .int 0, .ref m1, .int 0, .int 0, .int 0, .int 0, .ref m2, .ref m3, .int 0, .int 0, .ref m4, .ref m5, .ref m6, .ref m7, .ref m8, .ref m9])), (mt, .inl (kt, 600, .inl g_72))] := hD
  refine lv_iinc (v := 9) (lv' := [(6, .int 9), (7, .int p3), (0, .ref h0), (1, .int p1), (2, .int p2), (3, .int p3), (4, .int p4), (5, .int p5)]) hx hb dX14_feed_111 hl (k := 1) rfl (by decide) (by decide) rfl (fun ls hl => ?_)
  refine lv_goto (tgt := 23) hx hb dX14_feed_114 (by decide) ?_
  refine lv_iload hx hb dX14_feed_23 (lv_at hl 0 rfl) ?_
  refine lv_bipush (v := 20) hx hb dX14_feed_25 (by decide) ?_
  refine lv_icmp_ge (tgt := 117) hx hb dX14_feed_27 (by decide) (fun h9 => absurd h9 (by decide)) (fun _ => ?_)
  refine lv_iload hx hb dX14_feed_30 (lv_at hl 0 rfl) ?_
  refine lv_iconst (v := 4) hx hb dX14_feed_32 (by decide) ?_
  refine lv_icmp_ge (tgt := 40) hx hb dX14_feed_33 (by decide) (fun _ => ?_) (fun h9 => absurd (by decide) h9)
  refine lv_iload hx hb dX14_feed_40 (lv_at hl 0 rfl) ?_
  refine lv_bipush (v := 8) hx hb dX14_feed_42 (by decide) ?_
  refine lv_icmp_ge (tgt := 51) hx hb dX14_feed_44 (by decide) (fun _ => ?_) (fun h9 => absurd (by decide) h9)
  refine lv_iload hx hb dX14_feed_51 (lv_at hl 0 rfl) ?_
  refine lv_bipush (v := 12) hx hb dX14_feed_53 (by decide) ?_
  refine lv_icmp_ge (tgt := 62) hx hb dX14_feed_55 (by decide) (fun h9 => absurd h9 (by decide)) (fun _ => ?_)
  refine lv_iload_n hx hb dX14_feed_58 rfl (lv_at hl 5 rfl) ?_
  refine lv_goto (tgt := 76) hx hb dX14_feed_59 (by decide) ?_
  refine lv_istore (lv' := [(7, .int p3), (6, .int 9), (0, .ref h0), (1, .int p1), (2, .int p2), (3, .int p3), (4, .int p4), (5, .int p5)]) hx hb dX14_feed_76 hl (by decide) rfl (fun ls hl => ?_)
  refine lv_aload_n hx hb dX14_feed_78 rfl (lv_at hl 2 rfl) ?_
  refine va_get (D := (dC, dI)) (ci := 14) (v := .ref mt) (C := RX14) (T := TX14) (N := 40) hx hb hts hin_14 hown hK hP 0 rfl rfl 10 (by decide) (hts (.fieldLink RX14 33 "LessonMakerModel" "tape" "[B") (List.mem_of_getElem? (i := 3) rfl)) (fun _ h9 => h9) rfl dX14_feed_79 ?_
  refine lv_aload_n hx hb dX14_feed_82 rfl (lv_at hl 2 rfl) ?_
  refine va_get (D := (dC, dI)) (ci := 14) (v := .int 9) (C := RX14) (T := TX14) (N := 40) hx hb hts hin_14 hown hK hP 0 rfl rfl 11 (by decide) (hts (.fieldLink RX14 304 "LessonMakerModel" "taped" "I") (List.mem_of_getElem? (i := 2) rfl)) (fun _ h9 => h9) rfl dX14_feed_83 ?_
  refine lv_iload hx hb dX14_feed_86 (lv_at hl 0 rfl) ?_
  refine lv_bipush (v := 24) hx hb dX14_feed_88 (by decide) ?_
  refine lv_bipush (v := 8) hx hb dX14_feed_90 (by decide) ?_
  refine lv_iload hx hb dX14_feed_92 (lv_at hl 1 rfl) ?_
  refine lv_iconst (v := 4) hx hb dX14_feed_94 (by decide) ?_
  refine lv_irem hx hb dX14_feed_95 (by decide) ?_
  refine lv_topi (fun x_74 ex_74 => ?_)
  have ex_74 := ex_74.trans (show _ = (1 : Int32) by decide)
  subst ex_74
  refine lv_imul hx hb dX14_feed_96 ?_
  refine lv_topi (fun x_75 ex_75 => ?_)
  have ex_75 := ex_75.trans (show _ = (8 : Int32) by decide)
  subst ex_75
  refine lv_isub hx hb dX14_feed_97 ?_
  refine lv_topi (fun x_76 ex_76 => ?_)
  have ex_76 := ex_76.trans (show _ = (16 : Int32) by decide)
  subst ex_76
  refine lv_ishr hx hb dX14_feed_98 ?_
  refine lv_topi (fun x_77 ex_77 => ?_)
  refine lv_i2b hx hb dX14_feed_99 rfl ?_
  refine lv_topi (fun y_79 ey_79 => ?_)
  refine va_bast hx hb hK hP hD hS 1 0 rfl rfl (i := 9) (z_io (by decide)) dX14_feed_100 (fun H locs hP hD hS => ?_)
  obtain ⟨g_80, eg_80⟩ : ∃ z, z = upd g_72 (Int32.toNatClampNeg 9) (vp_nar .byte y_79) := ⟨_, rfl⟩
  rw [← eg_80] at hP hD
  have hP : va_P (dC, dI) z_Cl [(h0, .inr (14, [.int 0, .int 0, .int (-1), .int 0, .ref mp, .ref mq, .ref ms, .int 0, .int 0, .ref mo, .ref mt, .int 9, .int 0, .int 0, .int 0, .int 0, .int 0, .int 0, .int 0, .int 0, .int 0, .long 0, .ref ml, .ref mw, .int 0, .ref m1, .int 0, .int 0, .int 0, .int 0, .ref m2, .ref m3, .int 0, .int 0, .ref m4, .ref m5, .ref m6, .ref m7, .ref m8, .ref m9])), (mt, .inl (kt, 600, .inl g_80))] H := hP
  have hD : va_D A [(h0, .inr (14, [.int 0, .int 0, .int (-1), .int 0, .ref mp, .ref mq, .ref ms, .int 0, .int 0, .ref mo, .ref mt, .int 9, .int 0, .int 0, .int 0, .int 0, .int 0, .int 0, .int 0, .int 0, .int 0, .long 0, .ref ml, .ref mw, .int 0, .ref m1, .int 0, .int 0, .int 0, .int 0, .ref m2, .ref m3, .int 0, .int 0, .ref m4, .ref m5, .ref m6, .ref m7, .ref m8, .ref m9])), (mt, .inl (kt, 600, .inl g_80))] := hD
  refine lv_aload_n hx hb dX14_feed_101 rfl (lv_at hl 2 rfl) ?_
  refine lv_dup hx hb dX14_feed_102 rfl ?_
  refine va_get (D := (dC, dI)) (ci := 14) (v := .int 9) (C := RX14) (T := TX14) (N := 40) hx hb hts hin_14 hown hK hP 0 rfl rfl 11 (by decide) (hts (.fieldLink RX14 304 "LessonMakerModel" "taped" "I") (List.mem_of_getElem? (i := 2) rfl)) (fun _ h9 => h9) rfl dX14_feed_103 ?_
  refine lv_iconst (v := 1) hx hb dX14_feed_106 (by decide) ?_
  refine lv_iadd hx hb dX14_feed_107 ?_
  refine lv_topi (fun x_81 ex_81 => ?_)
  have ex_81 := ex_81.trans (show _ = (10 : Int32) by decide)
  subst ex_81
  refine va_put (D := (dC, dI)) (ci := 14) (v := .int 10) (ty := .int) (C := RX14) (T := TX14) (N := 40) hx hb hts hin_14 tyX14 tyX14_ok nmX14 hown hK hP hD hS 0 rfl rfl 11 (by decide) (hts (.fieldLink RX14 304 "LessonMakerModel" "taped" "I") (List.mem_of_getElem? (i := 2) rfl)) (fun _ h9 => h9) rfl (by decide +kernel) rfl rfl (Nat.le_of_ble_eq_true rfl) dX14_feed_108 (fun H locs hP hD hS => ?_)
  have hP : va_P (dC, dI) z_Cl [(h0, .inr (14, [.int 0, .int 0, .int (-1), .int 0, .ref mp, .ref mq, .ref ms, .int 0, .int 0, .ref mo, .ref mt, .int 10, .int 0, .int 0, .int 0, .int 0, .int 0, .int 0, .int 0, .int 0, .int 0, .long 0, .ref ml, .ref mw, .int 0, .ref m1, .int 0, .int 0, .int 0, .int 0, .ref m2, .ref m3, .int 0, .int 0, .ref m4, .ref m5, .ref m6, .ref m7, .ref m8, .ref m9])), (mt, .inl (kt, 600, .inl g_80))] H := hP
  have hD : va_D A [(h0, .inr (14, [.int 0, .int 0, .int (-1), .int 0, .ref mp, .ref mq, .ref ms, .int 0, .int 0, .ref mo, .ref mt, .int 10, .int 0, .int 0, .int 0, .int 0, .int 0, .int 0, .int 0, .int 0, .int 0, .long 0, .ref ml, .ref mw, .int 0, .ref m1, .int 0, .int 0, .int 0, .int 0, .ref m2, .ref m3, .int 0, .int 0, .ref m4, .ref m5, .ref m6, .ref m7, .ref m8, .ref m9])), (mt, .inl (kt, 600, .inl g_80))] := hD
  refine lv_iinc (v := 10) (lv' := [(6, .int 10), (7, .int p3), (0, .ref h0), (1, .int p1), (2, .int p2), (3, .int p3), (4, .int p4), (5, .int p5)]) hx hb dX14_feed_111 hl (k := 1) rfl (by decide) (by decide) rfl (fun ls hl => ?_)
  refine lv_goto (tgt := 23) hx hb dX14_feed_114 (by decide) ?_
  refine lv_iload hx hb dX14_feed_23 (lv_at hl 0 rfl) ?_
  refine lv_bipush (v := 20) hx hb dX14_feed_25 (by decide) ?_
  refine lv_icmp_ge (tgt := 117) hx hb dX14_feed_27 (by decide) (fun h9 => absurd h9 (by decide)) (fun _ => ?_)
  refine lv_iload hx hb dX14_feed_30 (lv_at hl 0 rfl) ?_
  refine lv_iconst (v := 4) hx hb dX14_feed_32 (by decide) ?_
  refine lv_icmp_ge (tgt := 40) hx hb dX14_feed_33 (by decide) (fun _ => ?_) (fun h9 => absurd (by decide) h9)
  refine lv_iload hx hb dX14_feed_40 (lv_at hl 0 rfl) ?_
  refine lv_bipush (v := 8) hx hb dX14_feed_42 (by decide) ?_
  refine lv_icmp_ge (tgt := 51) hx hb dX14_feed_44 (by decide) (fun _ => ?_) (fun h9 => absurd (by decide) h9)
  refine lv_iload hx hb dX14_feed_51 (lv_at hl 0 rfl) ?_
  refine lv_bipush (v := 12) hx hb dX14_feed_53 (by decide) ?_
  refine lv_icmp_ge (tgt := 62) hx hb dX14_feed_55 (by decide) (fun h9 => absurd h9 (by decide)) (fun _ => ?_)
  refine lv_iload_n hx hb dX14_feed_58 rfl (lv_at hl 5 rfl) ?_
  refine lv_goto (tgt := 76) hx hb dX14_feed_59 (by decide) ?_
  refine lv_istore (lv' := [(7, .int p3), (6, .int 10), (0, .ref h0), (1, .int p1), (2, .int p2), (3, .int p3), (4, .int p4), (5, .int p5)]) hx hb dX14_feed_76 hl (by decide) rfl (fun ls hl => ?_)
  refine lv_aload_n hx hb dX14_feed_78 rfl (lv_at hl 2 rfl) ?_
  refine va_get (D := (dC, dI)) (ci := 14) (v := .ref mt) (C := RX14) (T := TX14) (N := 40) hx hb hts hin_14 hown hK hP 0 rfl rfl 10 (by decide) (hts (.fieldLink RX14 33 "LessonMakerModel" "tape" "[B") (List.mem_of_getElem? (i := 3) rfl)) (fun _ h9 => h9) rfl dX14_feed_79 ?_
  refine lv_aload_n hx hb dX14_feed_82 rfl (lv_at hl 2 rfl) ?_
  refine va_get (D := (dC, dI)) (ci := 14) (v := .int 10) (C := RX14) (T := TX14) (N := 40) hx hb hts hin_14 hown hK hP 0 rfl rfl 11 (by decide) (hts (.fieldLink RX14 304 "LessonMakerModel" "taped" "I") (List.mem_of_getElem? (i := 2) rfl)) (fun _ h9 => h9) rfl dX14_feed_83 ?_
  refine lv_iload hx hb dX14_feed_86 (lv_at hl 0 rfl) ?_
  refine lv_bipush (v := 24) hx hb dX14_feed_88 (by decide) ?_
  refine lv_bipush (v := 8) hx hb dX14_feed_90 (by decide) ?_
  refine lv_iload hx hb dX14_feed_92 (lv_at hl 1 rfl) ?_
  refine lv_iconst (v := 4) hx hb dX14_feed_94 (by decide) ?_
  refine lv_irem hx hb dX14_feed_95 (by decide) ?_
  refine lv_topi (fun x_82 ex_82 => ?_)
  have ex_82 := ex_82.trans (show _ = (2 : Int32) by decide)
  subst ex_82
  refine lv_imul hx hb dX14_feed_96 ?_
  refine lv_topi (fun x_83 ex_83 => ?_)
  have ex_83 := ex_83.trans (show _ = (16 : Int32) by decide)
  subst ex_83
  refine lv_isub hx hb dX14_feed_97 ?_
  refine lv_topi (fun x_84 ex_84 => ?_)
  have ex_84 := ex_84.trans (show _ = (8 : Int32) by decide)
  subst ex_84
  refine lv_ishr hx hb dX14_feed_98 ?_
  refine lv_topi (fun x_85 ex_85 => ?_)
  refine lv_i2b hx hb dX14_feed_99 rfl ?_
  refine lv_topi (fun y_87 ey_87 => ?_)
  refine va_bast hx hb hK hP hD hS 1 0 rfl rfl (i := 10) (z_io (by decide)) dX14_feed_100 (fun H locs hP hD hS => ?_)
  obtain ⟨g_88, eg_88⟩ : ∃ z, z = upd g_80 (Int32.toNatClampNeg 10) (vp_nar .byte y_87) := ⟨_, rfl⟩
  rw [← eg_88] at hP hD
  have hP : va_P (dC, dI) z_Cl [(h0, .inr (14, [.int 0, .int 0, .int (-1), .int 0, .ref mp, .ref mq, .ref ms, .int 0, .int 0, .ref mo, .ref mt, .int 10, .int 0, .int 0, .int 0, .int 0, .int 0, .int 0, .int 0, .int 0, .int 0, .long 0, .ref ml, .ref mw, .int 0, .ref m1, .int 0, .int 0, .int 0, .int 0, .ref m2, .ref m3, .int 0, .int 0, .ref m4, .ref m5, .ref m6, .ref m7, .ref m8, .ref m9])), (mt, .inl (kt, 600, .inl g_88))] H := hP
  have hD : va_D A [(h0, .inr (14, [.int 0, .int 0, .int (-1), .int 0, .ref mp, .ref mq, .ref ms, .int 0, .int 0, .ref mo, .ref mt, .int 10, .int 0, .int 0, .int 0, .int 0, .int 0, .int 0, .int 0, .int 0, .int 0, .long 0, .ref ml, .ref mw, .int 0, .ref m1, .int 0, .int 0, .int 0, .int 0, .ref m2, .ref m3, .int 0, .int 0, .ref m4, .ref m5, .ref m6, .ref m7, .ref m8, .ref m9])), (mt, .inl (kt, 600, .inl g_88))] := hD
  refine lv_aload_n hx hb dX14_feed_101 rfl (lv_at hl 2 rfl) ?_
  refine lv_dup hx hb dX14_feed_102 rfl ?_
  refine va_get (D := (dC, dI)) (ci := 14) (v := .int 10) (C := RX14) (T := TX14) (N := 40) hx hb hts hin_14 hown hK hP 0 rfl rfl 11 (by decide) (hts (.fieldLink RX14 304 "LessonMakerModel" "taped" "I") (List.mem_of_getElem? (i := 2) rfl)) (fun _ h9 => h9) rfl dX14_feed_103 ?_
  refine lv_iconst (v := 1) hx hb dX14_feed_106 (by decide) ?_
  refine lv_iadd hx hb dX14_feed_107 ?_
  refine lv_topi (fun x_89 ex_89 => ?_)
  have ex_89 := ex_89.trans (show _ = (11 : Int32) by decide)
  subst ex_89
  refine va_put (D := (dC, dI)) (ci := 14) (v := .int 11) (ty := .int) (C := RX14) (T := TX14) (N := 40) hx hb hts hin_14 tyX14 tyX14_ok nmX14 hown hK hP hD hS 0 rfl rfl 11 (by decide) (hts (.fieldLink RX14 304 "LessonMakerModel" "taped" "I") (List.mem_of_getElem? (i := 2) rfl)) (fun _ h9 => h9) rfl (by decide +kernel) rfl rfl (Nat.le_of_ble_eq_true rfl) dX14_feed_108 (fun H locs hP hD hS => ?_)
  have hP : va_P (dC, dI) z_Cl [(h0, .inr (14, [.int 0, .int 0, .int (-1), .int 0, .ref mp, .ref mq, .ref ms, .int 0, .int 0, .ref mo, .ref mt, .int 11, .int 0, .int 0, .int 0, .int 0, .int 0, .int 0, .int 0, .int 0, .int 0, .long 0, .ref ml, .ref mw, .int 0, .ref m1, .int 0, .int 0, .int 0, .int 0, .ref m2, .ref m3, .int 0, .int 0, .ref m4, .ref m5, .ref m6, .ref m7, .ref m8, .ref m9])), (mt, .inl (kt, 600, .inl g_88))] H := hP
  have hD : va_D A [(h0, .inr (14, [.int 0, .int 0, .int (-1), .int 0, .ref mp, .ref mq, .ref ms, .int 0, .int 0, .ref mo, .ref mt, .int 11, .int 0, .int 0, .int 0, .int 0, .int 0, .int 0, .int 0, .int 0, .int 0, .long 0, .ref ml, .ref mw, .int 0, .ref m1, .int 0, .int 0, .int 0, .int 0, .ref m2, .ref m3, .int 0, .int 0, .ref m4, .ref m5, .ref m6, .ref m7, .ref m8, .ref m9])), (mt, .inl (kt, 600, .inl g_88))] := hD
  refine lv_iinc (v := 11) (lv' := [(6, .int 11), (7, .int p3), (0, .ref h0), (1, .int p1), (2, .int p2), (3, .int p3), (4, .int p4), (5, .int p5)]) hx hb dX14_feed_111 hl (k := 1) rfl (by decide) (by decide) rfl (fun ls hl => ?_)
  refine lv_goto (tgt := 23) hx hb dX14_feed_114 (by decide) ?_
  refine lv_iload hx hb dX14_feed_23 (lv_at hl 0 rfl) ?_
  refine lv_bipush (v := 20) hx hb dX14_feed_25 (by decide) ?_
  refine lv_icmp_ge (tgt := 117) hx hb dX14_feed_27 (by decide) (fun h9 => absurd h9 (by decide)) (fun _ => ?_)
  refine lv_iload hx hb dX14_feed_30 (lv_at hl 0 rfl) ?_
  refine lv_iconst (v := 4) hx hb dX14_feed_32 (by decide) ?_
  refine lv_icmp_ge (tgt := 40) hx hb dX14_feed_33 (by decide) (fun _ => ?_) (fun h9 => absurd (by decide) h9)
  refine lv_iload hx hb dX14_feed_40 (lv_at hl 0 rfl) ?_
  refine lv_bipush (v := 8) hx hb dX14_feed_42 (by decide) ?_
  refine lv_icmp_ge (tgt := 51) hx hb dX14_feed_44 (by decide) (fun _ => ?_) (fun h9 => absurd (by decide) h9)
  refine lv_iload hx hb dX14_feed_51 (lv_at hl 0 rfl) ?_
  refine lv_bipush (v := 12) hx hb dX14_feed_53 (by decide) ?_
  refine lv_icmp_ge (tgt := 62) hx hb dX14_feed_55 (by decide) (fun h9 => absurd h9 (by decide)) (fun _ => ?_)
  refine lv_iload_n hx hb dX14_feed_58 rfl (lv_at hl 5 rfl) ?_
  refine lv_goto (tgt := 76) hx hb dX14_feed_59 (by decide) ?_
  refine lv_istore (lv' := [(7, .int p3), (6, .int 11), (0, .ref h0), (1, .int p1), (2, .int p2), (3, .int p3), (4, .int p4), (5, .int p5)]) hx hb dX14_feed_76 hl (by decide) rfl (fun ls hl => ?_)
  refine lv_aload_n hx hb dX14_feed_78 rfl (lv_at hl 2 rfl) ?_
  refine va_get (D := (dC, dI)) (ci := 14) (v := .ref mt) (C := RX14) (T := TX14) (N := 40) hx hb hts hin_14 hown hK hP 0 rfl rfl 10 (by decide) (hts (.fieldLink RX14 33 "LessonMakerModel" "tape" "[B") (List.mem_of_getElem? (i := 3) rfl)) (fun _ h9 => h9) rfl dX14_feed_79 ?_
  refine lv_aload_n hx hb dX14_feed_82 rfl (lv_at hl 2 rfl) ?_
  refine va_get (D := (dC, dI)) (ci := 14) (v := .int 11) (C := RX14) (T := TX14) (N := 40) hx hb hts hin_14 hown hK hP 0 rfl rfl 11 (by decide) (hts (.fieldLink RX14 304 "LessonMakerModel" "taped" "I") (List.mem_of_getElem? (i := 2) rfl)) (fun _ h9 => h9) rfl dX14_feed_83 ?_
  refine lv_iload hx hb dX14_feed_86 (lv_at hl 0 rfl) ?_
  refine lv_bipush (v := 24) hx hb dX14_feed_88 (by decide) ?_
  refine lv_bipush (v := 8) hx hb dX14_feed_90 (by decide) ?_
  refine lv_iload hx hb dX14_feed_92 (lv_at hl 1 rfl) ?_
  refine lv_iconst (v := 4) hx hb dX14_feed_94 (by decide) ?_
  refine lv_irem hx hb dX14_feed_95 (by decide) ?_
  refine lv_topi (fun x_90 ex_90 => ?_)
  have ex_90 := ex_90.trans (show _ = (3 : Int32) by decide)
  subst ex_90
  refine lv_imul hx hb dX14_feed_96 ?_
  refine lv_topi (fun x_91 ex_91 => ?_)
  have ex_91 := ex_91.trans (show _ = (24 : Int32) by decide)
  subst ex_91
  refine lv_isub hx hb dX14_feed_97 ?_
  refine lv_topi (fun x_92 ex_92 => ?_)
  have ex_92 := ex_92.trans (show _ = (0 : Int32) by decide)
  subst ex_92
  refine lv_ishr hx hb dX14_feed_98 ?_
  refine lv_topi (fun x_93 ex_93 => ?_)
  refine lv_i2b hx hb dX14_feed_99 rfl ?_
  refine lv_topi (fun y_95 ey_95 => ?_)
  refine va_bast hx hb hK hP hD hS 1 0 rfl rfl (i := 11) (z_io (by decide)) dX14_feed_100 (fun H locs hP hD hS => ?_)
  obtain ⟨g_96, eg_96⟩ : ∃ z, z = upd g_88 (Int32.toNatClampNeg 11) (vp_nar .byte y_95) := ⟨_, rfl⟩
  rw [← eg_96] at hP hD
  have hP : va_P (dC, dI) z_Cl [(h0, .inr (14, [.int 0, .int 0, .int (-1), .int 0, .ref mp, .ref mq, .ref ms, .int 0, .int 0, .ref mo, .ref mt, .int 11, .int 0, .int 0, .int 0, .int 0, .int 0, .int 0, .int 0, .int 0, .int 0, .long 0, .ref ml, .ref mw, .int 0, .ref m1, .int 0, .int 0, .int 0, .int 0, .ref m2, .ref m3, .int 0, .int 0, .ref m4, .ref m5, .ref m6, .ref m7, .ref m8, .ref m9])), (mt, .inl (kt, 600, .inl g_96))] H := hP
  have hD : va_D A [(h0, .inr (14, [.int 0, .int 0, .int (-1), .int 0, .ref mp, .ref mq, .ref ms, .int 0, .int 0, .ref mo, .ref mt, .int 11, .int 0, .int 0, .int 0, .int 0, .int 0, .int 0, .int 0, .int 0, .int 0, .long 0, .ref ml, .ref mw, .int 0, .ref m1, .int 0, .int 0, .int 0, .int 0, .ref m2, .ref m3, .int 0, .int 0, .ref m4, .ref m5, .ref m6, .ref m7, .ref m8, .ref m9])), (mt, .inl (kt, 600, .inl g_96))] := hD
  refine lv_aload_n hx hb dX14_feed_101 rfl (lv_at hl 2 rfl) ?_
  refine lv_dup hx hb dX14_feed_102 rfl ?_
  refine va_get (D := (dC, dI)) (ci := 14) (v := .int 11) (C := RX14) (T := TX14) (N := 40) hx hb hts hin_14 hown hK hP 0 rfl rfl 11 (by decide) (hts (.fieldLink RX14 304 "LessonMakerModel" "taped" "I") (List.mem_of_getElem? (i := 2) rfl)) (fun _ h9 => h9) rfl dX14_feed_103 ?_
  refine lv_iconst (v := 1) hx hb dX14_feed_106 (by decide) ?_
  refine lv_iadd hx hb dX14_feed_107 ?_
  refine lv_topi (fun x_97 ex_97 => ?_)
  have ex_97 := ex_97.trans (show _ = (12 : Int32) by decide)
  subst ex_97
  refine va_put (D := (dC, dI)) (ci := 14) (v := .int 12) (ty := .int) (C := RX14) (T := TX14) (N := 40) hx hb hts hin_14 tyX14 tyX14_ok nmX14 hown hK hP hD hS 0 rfl rfl 11 (by decide) (hts (.fieldLink RX14 304 "LessonMakerModel" "taped" "I") (List.mem_of_getElem? (i := 2) rfl)) (fun _ h9 => h9) rfl (by decide +kernel) rfl rfl (Nat.le_of_ble_eq_true rfl) dX14_feed_108 (fun H locs hP hD hS => ?_)
  have hP : va_P (dC, dI) z_Cl [(h0, .inr (14, [.int 0, .int 0, .int (-1), .int 0, .ref mp, .ref mq, .ref ms, .int 0, .int 0, .ref mo, .ref mt, .int 12, .int 0, .int 0, .int 0, .int 0, .int 0, .int 0, .int 0, .int 0, .int 0, .long 0, .ref ml, .ref mw, .int 0, .ref m1, .int 0, .int 0, .int 0, .int 0, .ref m2, .ref m3, .int 0, .int 0, .ref m4, .ref m5, .ref m6, .ref m7, .ref m8, .ref m9])), (mt, .inl (kt, 600, .inl g_96))] H := hP
  have hD : va_D A [(h0, .inr (14, [.int 0, .int 0, .int (-1), .int 0, .ref mp, .ref mq, .ref ms, .int 0, .int 0, .ref mo, .ref mt, .int 12, .int 0, .int 0, .int 0, .int 0, .int 0, .int 0, .int 0, .int 0, .int 0, .long 0, .ref ml, .ref mw, .int 0, .ref m1, .int 0, .int 0, .int 0, .int 0, .ref m2, .ref m3, .int 0, .int 0, .ref m4, .ref m5, .ref m6, .ref m7, .ref m8, .ref m9])), (mt, .inl (kt, 600, .inl g_96))] := hD
  refine lv_iinc (v := 12) (lv' := [(6, .int 12), (7, .int p3), (0, .ref h0), (1, .int p1), (2, .int p2), (3, .int p3), (4, .int p4), (5, .int p5)]) hx hb dX14_feed_111 hl (k := 1) rfl (by decide) (by decide) rfl (fun ls hl => ?_)
  refine lv_goto (tgt := 23) hx hb dX14_feed_114 (by decide) ?_
  refine lv_iload hx hb dX14_feed_23 (lv_at hl 0 rfl) ?_
  refine lv_bipush (v := 20) hx hb dX14_feed_25 (by decide) ?_
  refine lv_icmp_ge (tgt := 117) hx hb dX14_feed_27 (by decide) (fun h9 => absurd h9 (by decide)) (fun _ => ?_)
  refine lv_iload hx hb dX14_feed_30 (lv_at hl 0 rfl) ?_
  refine lv_iconst (v := 4) hx hb dX14_feed_32 (by decide) ?_
  refine lv_icmp_ge (tgt := 40) hx hb dX14_feed_33 (by decide) (fun _ => ?_) (fun h9 => absurd (by decide) h9)
  refine lv_iload hx hb dX14_feed_40 (lv_at hl 0 rfl) ?_
  refine lv_bipush (v := 8) hx hb dX14_feed_42 (by decide) ?_
  refine lv_icmp_ge (tgt := 51) hx hb dX14_feed_44 (by decide) (fun _ => ?_) (fun h9 => absurd (by decide) h9)
  refine lv_iload hx hb dX14_feed_51 (lv_at hl 0 rfl) ?_
  refine lv_bipush (v := 12) hx hb dX14_feed_53 (by decide) ?_
  refine lv_icmp_ge (tgt := 62) hx hb dX14_feed_55 (by decide) (fun _ => ?_) (fun h9 => absurd (by decide) h9)
  refine lv_iload hx hb dX14_feed_62 (lv_at hl 0 rfl) ?_
  refine lv_bipush (v := 16) hx hb dX14_feed_64 (by decide) ?_
  refine lv_icmp_ge (tgt := 74) hx hb dX14_feed_66 (by decide) (fun h9 => absurd h9 (by decide)) (fun _ => ?_)
  refine lv_iload hx hb dX14_feed_69 (lv_at hl 6 rfl) ?_
  refine lv_goto (tgt := 76) hx hb dX14_feed_71 (by decide) ?_
  refine lv_istore (lv' := [(7, .int p4), (6, .int 12), (0, .ref h0), (1, .int p1), (2, .int p2), (3, .int p3), (4, .int p4), (5, .int p5)]) hx hb dX14_feed_76 hl (by decide) rfl (fun ls hl => ?_)
  refine lv_aload_n hx hb dX14_feed_78 rfl (lv_at hl 2 rfl) ?_
  refine va_get (D := (dC, dI)) (ci := 14) (v := .ref mt) (C := RX14) (T := TX14) (N := 40) hx hb hts hin_14 hown hK hP 0 rfl rfl 10 (by decide) (hts (.fieldLink RX14 33 "LessonMakerModel" "tape" "[B") (List.mem_of_getElem? (i := 3) rfl)) (fun _ h9 => h9) rfl dX14_feed_79 ?_
  refine lv_aload_n hx hb dX14_feed_82 rfl (lv_at hl 2 rfl) ?_
  refine va_get (D := (dC, dI)) (ci := 14) (v := .int 12) (C := RX14) (T := TX14) (N := 40) hx hb hts hin_14 hown hK hP 0 rfl rfl 11 (by decide) (hts (.fieldLink RX14 304 "LessonMakerModel" "taped" "I") (List.mem_of_getElem? (i := 2) rfl)) (fun _ h9 => h9) rfl dX14_feed_83 ?_
  refine lv_iload hx hb dX14_feed_86 (lv_at hl 0 rfl) ?_
  refine lv_bipush (v := 24) hx hb dX14_feed_88 (by decide) ?_
  refine lv_bipush (v := 8) hx hb dX14_feed_90 (by decide) ?_
  refine lv_iload hx hb dX14_feed_92 (lv_at hl 1 rfl) ?_
  refine lv_iconst (v := 4) hx hb dX14_feed_94 (by decide) ?_
  refine lv_irem hx hb dX14_feed_95 (by decide) ?_
  refine lv_topi (fun x_98 ex_98 => ?_)
  have ex_98 := ex_98.trans (show _ = (0 : Int32) by decide)
  subst ex_98
  refine lv_imul hx hb dX14_feed_96 ?_
  refine lv_topi (fun x_99 ex_99 => ?_)
  have ex_99 := ex_99.trans (show _ = (0 : Int32) by decide)
  subst ex_99
  refine lv_isub hx hb dX14_feed_97 ?_
  refine lv_topi (fun x_100 ex_100 => ?_)
  have ex_100 := ex_100.trans (show _ = (24 : Int32) by decide)
  subst ex_100
  refine lv_ishr hx hb dX14_feed_98 ?_
  refine lv_topi (fun x_101 ex_101 => ?_)
  refine lv_i2b hx hb dX14_feed_99 rfl ?_
  refine lv_topi (fun y_103 ey_103 => ?_)
  refine va_bast hx hb hK hP hD hS 1 0 rfl rfl (i := 12) (z_io (by decide)) dX14_feed_100 (fun H locs hP hD hS => ?_)
  obtain ⟨g_104, eg_104⟩ : ∃ z, z = upd g_96 (Int32.toNatClampNeg 12) (vp_nar .byte y_103) := ⟨_, rfl⟩
  rw [← eg_104] at hP hD
  have hP : va_P (dC, dI) z_Cl [(h0, .inr (14, [.int 0, .int 0, .int (-1), .int 0, .ref mp, .ref mq, .ref ms, .int 0, .int 0, .ref mo, .ref mt, .int 12, .int 0, .int 0, .int 0, .int 0, .int 0, .int 0, .int 0, .int 0, .int 0, .long 0, .ref ml, .ref mw, .int 0, .ref m1, .int 0, .int 0, .int 0, .int 0, .ref m2, .ref m3, .int 0, .int 0, .ref m4, .ref m5, .ref m6, .ref m7, .ref m8, .ref m9])), (mt, .inl (kt, 600, .inl g_104))] H := hP
  have hD : va_D A [(h0, .inr (14, [.int 0, .int 0, .int (-1), .int 0, .ref mp, .ref mq, .ref ms, .int 0, .int 0, .ref mo, .ref mt, .int 12, .int 0, .int 0, .int 0, .int 0, .int 0, .int 0, .int 0, .int 0, .int 0, .long 0, .ref ml, .ref mw, .int 0, .ref m1, .int 0, .int 0, .int 0, .int 0, .ref m2, .ref m3, .int 0, .int 0, .ref m4, .ref m5, .ref m6, .ref m7, .ref m8, .ref m9])), (mt, .inl (kt, 600, .inl g_104))] := hD
  refine lv_aload_n hx hb dX14_feed_101 rfl (lv_at hl 2 rfl) ?_
  refine lv_dup hx hb dX14_feed_102 rfl ?_
  refine va_get (D := (dC, dI)) (ci := 14) (v := .int 12) (C := RX14) (T := TX14) (N := 40) hx hb hts hin_14 hown hK hP 0 rfl rfl 11 (by decide) (hts (.fieldLink RX14 304 "LessonMakerModel" "taped" "I") (List.mem_of_getElem? (i := 2) rfl)) (fun _ h9 => h9) rfl dX14_feed_103 ?_
  refine lv_iconst (v := 1) hx hb dX14_feed_106 (by decide) ?_
  refine lv_iadd hx hb dX14_feed_107 ?_
  refine lv_topi (fun x_105 ex_105 => ?_)
  have ex_105 := ex_105.trans (show _ = (13 : Int32) by decide)
  subst ex_105
  refine va_put (D := (dC, dI)) (ci := 14) (v := .int 13) (ty := .int) (C := RX14) (T := TX14) (N := 40) hx hb hts hin_14 tyX14 tyX14_ok nmX14 hown hK hP hD hS 0 rfl rfl 11 (by decide) (hts (.fieldLink RX14 304 "LessonMakerModel" "taped" "I") (List.mem_of_getElem? (i := 2) rfl)) (fun _ h9 => h9) rfl (by decide +kernel) rfl rfl (Nat.le_of_ble_eq_true rfl) dX14_feed_108 (fun H locs hP hD hS => ?_)
  have hP : va_P (dC, dI) z_Cl [(h0, .inr (14, [.int 0, .int 0, .int (-1), .int 0, .ref mp, .ref mq, .ref ms, .int 0, .int 0, .ref mo, .ref mt, .int 13, .int 0, .int 0, .int 0, .int 0, .int 0, .int 0, .int 0, .int 0, .int 0, .long 0, .ref ml, .ref mw, .int 0, .ref m1, .int 0, .int 0, .int 0, .int 0, .ref m2, .ref m3, .int 0, .int 0, .ref m4, .ref m5, .ref m6, .ref m7, .ref m8, .ref m9])), (mt, .inl (kt, 600, .inl g_104))] H := hP
  have hD : va_D A [(h0, .inr (14, [.int 0, .int 0, .int (-1), .int 0, .ref mp, .ref mq, .ref ms, .int 0, .int 0, .ref mo, .ref mt, .int 13, .int 0, .int 0, .int 0, .int 0, .int 0, .int 0, .int 0, .int 0, .int 0, .long 0, .ref ml, .ref mw, .int 0, .ref m1, .int 0, .int 0, .int 0, .int 0, .ref m2, .ref m3, .int 0, .int 0, .ref m4, .ref m5, .ref m6, .ref m7, .ref m8, .ref m9])), (mt, .inl (kt, 600, .inl g_104))] := hD
  refine lv_iinc (v := 13) (lv' := [(6, .int 13), (7, .int p4), (0, .ref h0), (1, .int p1), (2, .int p2), (3, .int p3), (4, .int p4), (5, .int p5)]) hx hb dX14_feed_111 hl (k := 1) rfl (by decide) (by decide) rfl (fun ls hl => ?_)
  refine lv_goto (tgt := 23) hx hb dX14_feed_114 (by decide) ?_
  refine lv_iload hx hb dX14_feed_23 (lv_at hl 0 rfl) ?_
  refine lv_bipush (v := 20) hx hb dX14_feed_25 (by decide) ?_
  refine lv_icmp_ge (tgt := 117) hx hb dX14_feed_27 (by decide) (fun h9 => absurd h9 (by decide)) (fun _ => ?_)
  refine lv_iload hx hb dX14_feed_30 (lv_at hl 0 rfl) ?_
  refine lv_iconst (v := 4) hx hb dX14_feed_32 (by decide) ?_
  refine lv_icmp_ge (tgt := 40) hx hb dX14_feed_33 (by decide) (fun _ => ?_) (fun h9 => absurd (by decide) h9)
  refine lv_iload hx hb dX14_feed_40 (lv_at hl 0 rfl) ?_
  refine lv_bipush (v := 8) hx hb dX14_feed_42 (by decide) ?_
  refine lv_icmp_ge (tgt := 51) hx hb dX14_feed_44 (by decide) (fun _ => ?_) (fun h9 => absurd (by decide) h9)
  refine lv_iload hx hb dX14_feed_51 (lv_at hl 0 rfl) ?_
  refine lv_bipush (v := 12) hx hb dX14_feed_53 (by decide) ?_
  refine lv_icmp_ge (tgt := 62) hx hb dX14_feed_55 (by decide) (fun _ => ?_) (fun h9 => absurd (by decide) h9)
  refine lv_iload hx hb dX14_feed_62 (lv_at hl 0 rfl) ?_
  refine lv_bipush (v := 16) hx hb dX14_feed_64 (by decide) ?_
  refine lv_icmp_ge (tgt := 74) hx hb dX14_feed_66 (by decide) (fun h9 => absurd h9 (by decide)) (fun _ => ?_)
  refine lv_iload hx hb dX14_feed_69 (lv_at hl 6 rfl) ?_
  refine lv_goto (tgt := 76) hx hb dX14_feed_71 (by decide) ?_
  refine lv_istore (lv' := [(7, .int p4), (6, .int 13), (0, .ref h0), (1, .int p1), (2, .int p2), (3, .int p3), (4, .int p4), (5, .int p5)]) hx hb dX14_feed_76 hl (by decide) rfl (fun ls hl => ?_)
  refine lv_aload_n hx hb dX14_feed_78 rfl (lv_at hl 2 rfl) ?_
  refine va_get (D := (dC, dI)) (ci := 14) (v := .ref mt) (C := RX14) (T := TX14) (N := 40) hx hb hts hin_14 hown hK hP 0 rfl rfl 10 (by decide) (hts (.fieldLink RX14 33 "LessonMakerModel" "tape" "[B") (List.mem_of_getElem? (i := 3) rfl)) (fun _ h9 => h9) rfl dX14_feed_79 ?_
  refine lv_aload_n hx hb dX14_feed_82 rfl (lv_at hl 2 rfl) ?_
  refine va_get (D := (dC, dI)) (ci := 14) (v := .int 13) (C := RX14) (T := TX14) (N := 40) hx hb hts hin_14 hown hK hP 0 rfl rfl 11 (by decide) (hts (.fieldLink RX14 304 "LessonMakerModel" "taped" "I") (List.mem_of_getElem? (i := 2) rfl)) (fun _ h9 => h9) rfl dX14_feed_83 ?_
  refine lv_iload hx hb dX14_feed_86 (lv_at hl 0 rfl) ?_
  refine lv_bipush (v := 24) hx hb dX14_feed_88 (by decide) ?_
  refine lv_bipush (v := 8) hx hb dX14_feed_90 (by decide) ?_
  refine lv_iload hx hb dX14_feed_92 (lv_at hl 1 rfl) ?_
  refine lv_iconst (v := 4) hx hb dX14_feed_94 (by decide) ?_
  refine lv_irem hx hb dX14_feed_95 (by decide) ?_
  refine lv_topi (fun x_106 ex_106 => ?_)
  have ex_106 := ex_106.trans (show _ = (1 : Int32) by decide)
  subst ex_106
  refine lv_imul hx hb dX14_feed_96 ?_
  refine lv_topi (fun x_107 ex_107 => ?_)
  have ex_107 := ex_107.trans (show _ = (8 : Int32) by decide)
  subst ex_107
  refine lv_isub hx hb dX14_feed_97 ?_
  refine lv_topi (fun x_108 ex_108 => ?_)
  have ex_108 := ex_108.trans (show _ = (16 : Int32) by decide)
  subst ex_108
  refine lv_ishr hx hb dX14_feed_98 ?_
  refine lv_topi (fun x_109 ex_109 => ?_)
  refine lv_i2b hx hb dX14_feed_99 rfl ?_
  refine lv_topi (fun y_111 ey_111 => ?_)
  refine va_bast hx hb hK hP hD hS 1 0 rfl rfl (i := 13) (z_io (by decide)) dX14_feed_100 (fun H locs hP hD hS => ?_)
  obtain ⟨g_112, eg_112⟩ : ∃ z, z = upd g_104 (Int32.toNatClampNeg 13) (vp_nar .byte y_111) := ⟨_, rfl⟩
  rw [← eg_112] at hP hD
  have hP : va_P (dC, dI) z_Cl [(h0, .inr (14, [.int 0, .int 0, .int (-1), .int 0, .ref mp, .ref mq, .ref ms, .int 0, .int 0, .ref mo, .ref mt, .int 13, .int 0, .int 0, .int 0, .int 0, .int 0, .int 0, .int 0, .int 0, .int 0, .long 0, .ref ml, .ref mw, .int 0, .ref m1, .int 0, .int 0, .int 0, .int 0, .ref m2, .ref m3, .int 0, .int 0, .ref m4, .ref m5, .ref m6, .ref m7, .ref m8, .ref m9])), (mt, .inl (kt, 600, .inl g_112))] H := hP
  have hD : va_D A [(h0, .inr (14, [.int 0, .int 0, .int (-1), .int 0, .ref mp, .ref mq, .ref ms, .int 0, .int 0, .ref mo, .ref mt, .int 13, .int 0, .int 0, .int 0, .int 0, .int 0, .int 0, .int 0, .int 0, .int 0, .long 0, .ref ml, .ref mw, .int 0, .ref m1, .int 0, .int 0, .int 0, .int 0, .ref m2, .ref m3, .int 0, .int 0, .ref m4, .ref m5, .ref m6, .ref m7, .ref m8, .ref m9])), (mt, .inl (kt, 600, .inl g_112))] := hD
  refine lv_aload_n hx hb dX14_feed_101 rfl (lv_at hl 2 rfl) ?_
  refine lv_dup hx hb dX14_feed_102 rfl ?_
  refine va_get (D := (dC, dI)) (ci := 14) (v := .int 13) (C := RX14) (T := TX14) (N := 40) hx hb hts hin_14 hown hK hP 0 rfl rfl 11 (by decide) (hts (.fieldLink RX14 304 "LessonMakerModel" "taped" "I") (List.mem_of_getElem? (i := 2) rfl)) (fun _ h9 => h9) rfl dX14_feed_103 ?_
  refine lv_iconst (v := 1) hx hb dX14_feed_106 (by decide) ?_
  refine lv_iadd hx hb dX14_feed_107 ?_
  refine lv_topi (fun x_113 ex_113 => ?_)
  have ex_113 := ex_113.trans (show _ = (14 : Int32) by decide)
  subst ex_113
  refine va_put (D := (dC, dI)) (ci := 14) (v := .int 14) (ty := .int) (C := RX14) (T := TX14) (N := 40) hx hb hts hin_14 tyX14 tyX14_ok nmX14 hown hK hP hD hS 0 rfl rfl 11 (by decide) (hts (.fieldLink RX14 304 "LessonMakerModel" "taped" "I") (List.mem_of_getElem? (i := 2) rfl)) (fun _ h9 => h9) rfl (by decide +kernel) rfl rfl (Nat.le_of_ble_eq_true rfl) dX14_feed_108 (fun H locs hP hD hS => ?_)
  have hP : va_P (dC, dI) z_Cl [(h0, .inr (14, [.int 0, .int 0, .int (-1), .int 0, .ref mp, .ref mq, .ref ms, .int 0, .int 0, .ref mo, .ref mt, .int 14, .int 0, .int 0, .int 0, .int 0, .int 0, .int 0, .int 0, .int 0, .int 0, .long 0, .ref ml, .ref mw, .int 0, .ref m1, .int 0, .int 0, .int 0, .int 0, .ref m2, .ref m3, .int 0, .int 0, .ref m4, .ref m5, .ref m6, .ref m7, .ref m8, .ref m9])), (mt, .inl (kt, 600, .inl g_112))] H := hP
  have hD : va_D A [(h0, .inr (14, [.int 0, .int 0, .int (-1), .int 0, .ref mp, .ref mq, .ref ms, .int 0, .int 0, .ref mo, .ref mt, .int 14, .int 0, .int 0, .int 0, .int 0, .int 0, .int 0, .int 0, .int 0, .int 0, .long 0, .ref ml, .ref mw, .int 0, .ref m1, .int 0, .int 0, .int 0, .int 0, .ref m2, .ref m3, .int 0, .int 0, .ref m4, .ref m5, .ref m6, .ref m7, .ref m8, .ref m9])), (mt, .inl (kt, 600, .inl g_112))] := hD
  refine lv_iinc (v := 14) (lv' := [(6, .int 14), (7, .int p4), (0, .ref h0), (1, .int p1), (2, .int p2), (3, .int p3), (4, .int p4), (5, .int p5)]) hx hb dX14_feed_111 hl (k := 1) rfl (by decide) (by decide) rfl (fun ls hl => ?_)
  refine lv_goto (tgt := 23) hx hb dX14_feed_114 (by decide) ?_
  refine lv_iload hx hb dX14_feed_23 (lv_at hl 0 rfl) ?_
  refine lv_bipush (v := 20) hx hb dX14_feed_25 (by decide) ?_
  refine lv_icmp_ge (tgt := 117) hx hb dX14_feed_27 (by decide) (fun h9 => absurd h9 (by decide)) (fun _ => ?_)
  refine lv_iload hx hb dX14_feed_30 (lv_at hl 0 rfl) ?_
  refine lv_iconst (v := 4) hx hb dX14_feed_32 (by decide) ?_
  refine lv_icmp_ge (tgt := 40) hx hb dX14_feed_33 (by decide) (fun _ => ?_) (fun h9 => absurd (by decide) h9)
  refine lv_iload hx hb dX14_feed_40 (lv_at hl 0 rfl) ?_
  refine lv_bipush (v := 8) hx hb dX14_feed_42 (by decide) ?_
  refine lv_icmp_ge (tgt := 51) hx hb dX14_feed_44 (by decide) (fun _ => ?_) (fun h9 => absurd (by decide) h9)
  refine lv_iload hx hb dX14_feed_51 (lv_at hl 0 rfl) ?_
  refine lv_bipush (v := 12) hx hb dX14_feed_53 (by decide) ?_
  refine lv_icmp_ge (tgt := 62) hx hb dX14_feed_55 (by decide) (fun _ => ?_) (fun h9 => absurd (by decide) h9)
  refine lv_iload hx hb dX14_feed_62 (lv_at hl 0 rfl) ?_
  refine lv_bipush (v := 16) hx hb dX14_feed_64 (by decide) ?_
  refine lv_icmp_ge (tgt := 74) hx hb dX14_feed_66 (by decide) (fun h9 => absurd h9 (by decide)) (fun _ => ?_)
  refine lv_iload hx hb dX14_feed_69 (lv_at hl 6 rfl) ?_
  refine lv_goto (tgt := 76) hx hb dX14_feed_71 (by decide) ?_
  refine lv_istore (lv' := [(7, .int p4), (6, .int 14), (0, .ref h0), (1, .int p1), (2, .int p2), (3, .int p3), (4, .int p4), (5, .int p5)]) hx hb dX14_feed_76 hl (by decide) rfl (fun ls hl => ?_)
  refine lv_aload_n hx hb dX14_feed_78 rfl (lv_at hl 2 rfl) ?_
  refine va_get (D := (dC, dI)) (ci := 14) (v := .ref mt) (C := RX14) (T := TX14) (N := 40) hx hb hts hin_14 hown hK hP 0 rfl rfl 10 (by decide) (hts (.fieldLink RX14 33 "LessonMakerModel" "tape" "[B") (List.mem_of_getElem? (i := 3) rfl)) (fun _ h9 => h9) rfl dX14_feed_79 ?_
  refine lv_aload_n hx hb dX14_feed_82 rfl (lv_at hl 2 rfl) ?_
  refine va_get (D := (dC, dI)) (ci := 14) (v := .int 14) (C := RX14) (T := TX14) (N := 40) hx hb hts hin_14 hown hK hP 0 rfl rfl 11 (by decide) (hts (.fieldLink RX14 304 "LessonMakerModel" "taped" "I") (List.mem_of_getElem? (i := 2) rfl)) (fun _ h9 => h9) rfl dX14_feed_83 ?_
  refine lv_iload hx hb dX14_feed_86 (lv_at hl 0 rfl) ?_
  refine lv_bipush (v := 24) hx hb dX14_feed_88 (by decide) ?_
  refine lv_bipush (v := 8) hx hb dX14_feed_90 (by decide) ?_
  refine lv_iload hx hb dX14_feed_92 (lv_at hl 1 rfl) ?_
  refine lv_iconst (v := 4) hx hb dX14_feed_94 (by decide) ?_
  refine lv_irem hx hb dX14_feed_95 (by decide) ?_
  refine lv_topi (fun x_114 ex_114 => ?_)
  have ex_114 := ex_114.trans (show _ = (2 : Int32) by decide)
  subst ex_114
  refine lv_imul hx hb dX14_feed_96 ?_
  refine lv_topi (fun x_115 ex_115 => ?_)
  have ex_115 := ex_115.trans (show _ = (16 : Int32) by decide)
  subst ex_115
  refine lv_isub hx hb dX14_feed_97 ?_
  refine lv_topi (fun x_116 ex_116 => ?_)
  have ex_116 := ex_116.trans (show _ = (8 : Int32) by decide)
  subst ex_116
  refine lv_ishr hx hb dX14_feed_98 ?_
  refine lv_topi (fun x_117 ex_117 => ?_)
  refine lv_i2b hx hb dX14_feed_99 rfl ?_
  refine lv_topi (fun y_119 ey_119 => ?_)
  refine va_bast hx hb hK hP hD hS 1 0 rfl rfl (i := 14) (z_io (by decide)) dX14_feed_100 (fun H locs hP hD hS => ?_)
  obtain ⟨g_120, eg_120⟩ : ∃ z, z = upd g_112 (Int32.toNatClampNeg 14) (vp_nar .byte y_119) := ⟨_, rfl⟩
  rw [← eg_120] at hP hD
  have hP : va_P (dC, dI) z_Cl [(h0, .inr (14, [.int 0, .int 0, .int (-1), .int 0, .ref mp, .ref mq, .ref ms, .int 0, .int 0, .ref mo, .ref mt, .int 14, .int 0, .int 0, .int 0, .int 0, .int 0, .int 0, .int 0, .int 0, .int 0, .long 0, .ref ml, .ref mw, .int 0, .ref m1, .int 0, .int 0, .int 0, .int 0, .ref m2, .ref m3, .int 0, .int 0, .ref m4, .ref m5, .ref m6, .ref m7, .ref m8, .ref m9])), (mt, .inl (kt, 600, .inl g_120))] H := hP
  have hD : va_D A [(h0, .inr (14, [.int 0, .int 0, .int (-1), .int 0, .ref mp, .ref mq, .ref ms, .int 0, .int 0, .ref mo, .ref mt, .int 14, .int 0, .int 0, .int 0, .int 0, .int 0, .int 0, .int 0, .int 0, .int 0, .long 0, .ref ml, .ref mw, .int 0, .ref m1, .int 0, .int 0, .int 0, .int 0, .ref m2, .ref m3, .int 0, .int 0, .ref m4, .ref m5, .ref m6, .ref m7, .ref m8, .ref m9])), (mt, .inl (kt, 600, .inl g_120))] := hD
  refine lv_aload_n hx hb dX14_feed_101 rfl (lv_at hl 2 rfl) ?_
  refine lv_dup hx hb dX14_feed_102 rfl ?_
  refine va_get (D := (dC, dI)) (ci := 14) (v := .int 14) (C := RX14) (T := TX14) (N := 40) hx hb hts hin_14 hown hK hP 0 rfl rfl 11 (by decide) (hts (.fieldLink RX14 304 "LessonMakerModel" "taped" "I") (List.mem_of_getElem? (i := 2) rfl)) (fun _ h9 => h9) rfl dX14_feed_103 ?_
  refine lv_iconst (v := 1) hx hb dX14_feed_106 (by decide) ?_
  refine lv_iadd hx hb dX14_feed_107 ?_
  refine lv_topi (fun x_121 ex_121 => ?_)
  have ex_121 := ex_121.trans (show _ = (15 : Int32) by decide)
  subst ex_121
  refine va_put (D := (dC, dI)) (ci := 14) (v := .int 15) (ty := .int) (C := RX14) (T := TX14) (N := 40) hx hb hts hin_14 tyX14 tyX14_ok nmX14 hown hK hP hD hS 0 rfl rfl 11 (by decide) (hts (.fieldLink RX14 304 "LessonMakerModel" "taped" "I") (List.mem_of_getElem? (i := 2) rfl)) (fun _ h9 => h9) rfl (by decide +kernel) rfl rfl (Nat.le_of_ble_eq_true rfl) dX14_feed_108 (fun H locs hP hD hS => ?_)
  have hP : va_P (dC, dI) z_Cl [(h0, .inr (14, [.int 0, .int 0, .int (-1), .int 0, .ref mp, .ref mq, .ref ms, .int 0, .int 0, .ref mo, .ref mt, .int 15, .int 0, .int 0, .int 0, .int 0, .int 0, .int 0, .int 0, .int 0, .int 0, .long 0, .ref ml, .ref mw, .int 0, .ref m1, .int 0, .int 0, .int 0, .int 0, .ref m2, .ref m3, .int 0, .int 0, .ref m4, .ref m5, .ref m6, .ref m7, .ref m8, .ref m9])), (mt, .inl (kt, 600, .inl g_120))] H := hP
  have hD : va_D A [(h0, .inr (14, [.int 0, .int 0, .int (-1), .int 0, .ref mp, .ref mq, .ref ms, .int 0, .int 0, .ref mo, .ref mt, .int 15, .int 0, .int 0, .int 0, .int 0, .int 0, .int 0, .int 0, .int 0, .int 0, .long 0, .ref ml, .ref mw, .int 0, .ref m1, .int 0, .int 0, .int 0, .int 0, .ref m2, .ref m3, .int 0, .int 0, .ref m4, .ref m5, .ref m6, .ref m7, .ref m8, .ref m9])), (mt, .inl (kt, 600, .inl g_120))] := hD
  refine lv_iinc (v := 15) (lv' := [(6, .int 15), (7, .int p4), (0, .ref h0), (1, .int p1), (2, .int p2), (3, .int p3), (4, .int p4), (5, .int p5)]) hx hb dX14_feed_111 hl (k := 1) rfl (by decide) (by decide) rfl (fun ls hl => ?_)
  refine lv_goto (tgt := 23) hx hb dX14_feed_114 (by decide) ?_
  refine lv_iload hx hb dX14_feed_23 (lv_at hl 0 rfl) ?_
  refine lv_bipush (v := 20) hx hb dX14_feed_25 (by decide) ?_
  refine lv_icmp_ge (tgt := 117) hx hb dX14_feed_27 (by decide) (fun h9 => absurd h9 (by decide)) (fun _ => ?_)
  refine lv_iload hx hb dX14_feed_30 (lv_at hl 0 rfl) ?_
  refine lv_iconst (v := 4) hx hb dX14_feed_32 (by decide) ?_
  refine lv_icmp_ge (tgt := 40) hx hb dX14_feed_33 (by decide) (fun _ => ?_) (fun h9 => absurd (by decide) h9)
  refine lv_iload hx hb dX14_feed_40 (lv_at hl 0 rfl) ?_
  refine lv_bipush (v := 8) hx hb dX14_feed_42 (by decide) ?_
  refine lv_icmp_ge (tgt := 51) hx hb dX14_feed_44 (by decide) (fun _ => ?_) (fun h9 => absurd (by decide) h9)
  refine lv_iload hx hb dX14_feed_51 (lv_at hl 0 rfl) ?_
  refine lv_bipush (v := 12) hx hb dX14_feed_53 (by decide) ?_
  refine lv_icmp_ge (tgt := 62) hx hb dX14_feed_55 (by decide) (fun _ => ?_) (fun h9 => absurd (by decide) h9)
  refine lv_iload hx hb dX14_feed_62 (lv_at hl 0 rfl) ?_
  refine lv_bipush (v := 16) hx hb dX14_feed_64 (by decide) ?_
  refine lv_icmp_ge (tgt := 74) hx hb dX14_feed_66 (by decide) (fun h9 => absurd h9 (by decide)) (fun _ => ?_)
  refine lv_iload hx hb dX14_feed_69 (lv_at hl 6 rfl) ?_
  refine lv_goto (tgt := 76) hx hb dX14_feed_71 (by decide) ?_
  refine lv_istore (lv' := [(7, .int p4), (6, .int 15), (0, .ref h0), (1, .int p1), (2, .int p2), (3, .int p3), (4, .int p4), (5, .int p5)]) hx hb dX14_feed_76 hl (by decide) rfl (fun ls hl => ?_)
  refine lv_aload_n hx hb dX14_feed_78 rfl (lv_at hl 2 rfl) ?_
  refine va_get (D := (dC, dI)) (ci := 14) (v := .ref mt) (C := RX14) (T := TX14) (N := 40) hx hb hts hin_14 hown hK hP 0 rfl rfl 10 (by decide) (hts (.fieldLink RX14 33 "LessonMakerModel" "tape" "[B") (List.mem_of_getElem? (i := 3) rfl)) (fun _ h9 => h9) rfl dX14_feed_79 ?_
  refine lv_aload_n hx hb dX14_feed_82 rfl (lv_at hl 2 rfl) ?_
  refine va_get (D := (dC, dI)) (ci := 14) (v := .int 15) (C := RX14) (T := TX14) (N := 40) hx hb hts hin_14 hown hK hP 0 rfl rfl 11 (by decide) (hts (.fieldLink RX14 304 "LessonMakerModel" "taped" "I") (List.mem_of_getElem? (i := 2) rfl)) (fun _ h9 => h9) rfl dX14_feed_83 ?_
  refine lv_iload hx hb dX14_feed_86 (lv_at hl 0 rfl) ?_
  refine lv_bipush (v := 24) hx hb dX14_feed_88 (by decide) ?_
  refine lv_bipush (v := 8) hx hb dX14_feed_90 (by decide) ?_
  refine lv_iload hx hb dX14_feed_92 (lv_at hl 1 rfl) ?_
  refine lv_iconst (v := 4) hx hb dX14_feed_94 (by decide) ?_
  refine lv_irem hx hb dX14_feed_95 (by decide) ?_
  refine lv_topi (fun x_122 ex_122 => ?_)
  have ex_122 := ex_122.trans (show _ = (3 : Int32) by decide)
  subst ex_122
  refine lv_imul hx hb dX14_feed_96 ?_
  refine lv_topi (fun x_123 ex_123 => ?_)
  have ex_123 := ex_123.trans (show _ = (24 : Int32) by decide)
  subst ex_123
  refine lv_isub hx hb dX14_feed_97 ?_
  refine lv_topi (fun x_124 ex_124 => ?_)
  have ex_124 := ex_124.trans (show _ = (0 : Int32) by decide)
  subst ex_124
  refine lv_ishr hx hb dX14_feed_98 ?_
  refine lv_topi (fun x_125 ex_125 => ?_)
  refine lv_i2b hx hb dX14_feed_99 rfl ?_
  refine lv_topi (fun y_127 ey_127 => ?_)
  refine va_bast hx hb hK hP hD hS 1 0 rfl rfl (i := 15) (z_io (by decide)) dX14_feed_100 (fun H locs hP hD hS => ?_)
  obtain ⟨g_128, eg_128⟩ : ∃ z, z = upd g_120 (Int32.toNatClampNeg 15) (vp_nar .byte y_127) := ⟨_, rfl⟩
  rw [← eg_128] at hP hD
  have hP : va_P (dC, dI) z_Cl [(h0, .inr (14, [.int 0, .int 0, .int (-1), .int 0, .ref mp, .ref mq, .ref ms, .int 0, .int 0, .ref mo, .ref mt, .int 15, .int 0, .int 0, .int 0, .int 0, .int 0, .int 0, .int 0, .int 0, .int 0, .long 0, .ref ml, .ref mw, .int 0, .ref m1, .int 0, .int 0, .int 0, .int 0, .ref m2, .ref m3, .int 0, .int 0, .ref m4, .ref m5, .ref m6, .ref m7, .ref m8, .ref m9])), (mt, .inl (kt, 600, .inl g_128))] H := hP
  have hD : va_D A [(h0, .inr (14, [.int 0, .int 0, .int (-1), .int 0, .ref mp, .ref mq, .ref ms, .int 0, .int 0, .ref mo, .ref mt, .int 15, .int 0, .int 0, .int 0, .int 0, .int 0, .int 0, .int 0, .int 0, .int 0, .long 0, .ref ml, .ref mw, .int 0, .ref m1, .int 0, .int 0, .int 0, .int 0, .ref m2, .ref m3, .int 0, .int 0, .ref m4, .ref m5, .ref m6, .ref m7, .ref m8, .ref m9])), (mt, .inl (kt, 600, .inl g_128))] := hD
  refine lv_aload_n hx hb dX14_feed_101 rfl (lv_at hl 2 rfl) ?_
  refine lv_dup hx hb dX14_feed_102 rfl ?_
  refine va_get (D := (dC, dI)) (ci := 14) (v := .int 15) (C := RX14) (T := TX14) (N := 40) hx hb hts hin_14 hown hK hP 0 rfl rfl 11 (by decide) (hts (.fieldLink RX14 304 "LessonMakerModel" "taped" "I") (List.mem_of_getElem? (i := 2) rfl)) (fun _ h9 => h9) rfl dX14_feed_103 ?_
  refine lv_iconst (v := 1) hx hb dX14_feed_106 (by decide) ?_
  refine lv_iadd hx hb dX14_feed_107 ?_
  refine lv_topi (fun x_129 ex_129 => ?_)
  have ex_129 := ex_129.trans (show _ = (16 : Int32) by decide)
  subst ex_129
  refine va_put (D := (dC, dI)) (ci := 14) (v := .int 16) (ty := .int) (C := RX14) (T := TX14) (N := 40) hx hb hts hin_14 tyX14 tyX14_ok nmX14 hown hK hP hD hS 0 rfl rfl 11 (by decide) (hts (.fieldLink RX14 304 "LessonMakerModel" "taped" "I") (List.mem_of_getElem? (i := 2) rfl)) (fun _ h9 => h9) rfl (by decide +kernel) rfl rfl (Nat.le_of_ble_eq_true rfl) dX14_feed_108 (fun H locs hP hD hS => ?_)
  have hP : va_P (dC, dI) z_Cl [(h0, .inr (14, [.int 0, .int 0, .int (-1), .int 0, .ref mp, .ref mq, .ref ms, .int 0, .int 0, .ref mo, .ref mt, .int 16, .int 0, .int 0, .int 0, .int 0, .int 0, .int 0, .int 0, .int 0, .int 0, .long 0, .ref ml, .ref mw, .int 0, .ref m1, .int 0, .int 0, .int 0, .int 0, .ref m2, .ref m3, .int 0, .int 0, .ref m4, .ref m5, .ref m6, .ref m7, .ref m8, .ref m9])), (mt, .inl (kt, 600, .inl g_128))] H := hP
  have hD : va_D A [(h0, .inr (14, [.int 0, .int 0, .int (-1), .int 0, .ref mp, .ref mq, .ref ms, .int 0, .int 0, .ref mo, .ref mt, .int 16, .int 0, .int 0, .int 0, .int 0, .int 0, .int 0, .int 0, .int 0, .int 0, .long 0, .ref ml, .ref mw, .int 0, .ref m1, .int 0, .int 0, .int 0, .int 0, .ref m2, .ref m3, .int 0, .int 0, .ref m4, .ref m5, .ref m6, .ref m7, .ref m8, .ref m9])), (mt, .inl (kt, 600, .inl g_128))] := hD
  refine lv_iinc (v := 16) (lv' := [(6, .int 16), (7, .int p4), (0, .ref h0), (1, .int p1), (2, .int p2), (3, .int p3), (4, .int p4), (5, .int p5)]) hx hb dX14_feed_111 hl (k := 1) rfl (by decide) (by decide) rfl (fun ls hl => ?_)
  refine lv_goto (tgt := 23) hx hb dX14_feed_114 (by decide) ?_
  refine lv_iload hx hb dX14_feed_23 (lv_at hl 0 rfl) ?_
  refine lv_bipush (v := 20) hx hb dX14_feed_25 (by decide) ?_
  refine lv_icmp_ge (tgt := 117) hx hb dX14_feed_27 (by decide) (fun h9 => absurd h9 (by decide)) (fun _ => ?_)
  refine lv_iload hx hb dX14_feed_30 (lv_at hl 0 rfl) ?_
  refine lv_iconst (v := 4) hx hb dX14_feed_32 (by decide) ?_
  refine lv_icmp_ge (tgt := 40) hx hb dX14_feed_33 (by decide) (fun _ => ?_) (fun h9 => absurd (by decide) h9)
  refine lv_iload hx hb dX14_feed_40 (lv_at hl 0 rfl) ?_
  refine lv_bipush (v := 8) hx hb dX14_feed_42 (by decide) ?_
  refine lv_icmp_ge (tgt := 51) hx hb dX14_feed_44 (by decide) (fun _ => ?_) (fun h9 => absurd (by decide) h9)
  refine lv_iload hx hb dX14_feed_51 (lv_at hl 0 rfl) ?_
  refine lv_bipush (v := 12) hx hb dX14_feed_53 (by decide) ?_
  refine lv_icmp_ge (tgt := 62) hx hb dX14_feed_55 (by decide) (fun _ => ?_) (fun h9 => absurd (by decide) h9)
  refine lv_iload hx hb dX14_feed_62 (lv_at hl 0 rfl) ?_
  refine lv_bipush (v := 16) hx hb dX14_feed_64 (by decide) ?_
  refine lv_icmp_ge (tgt := 74) hx hb dX14_feed_66 (by decide) (fun _ => ?_) (fun h9 => absurd (by decide) h9)
  refine lv_iload hx hb dX14_feed_74 (lv_at hl 7 rfl) ?_
  refine lv_istore (lv' := [(7, .int p5), (6, .int 16), (0, .ref h0), (1, .int p1), (2, .int p2), (3, .int p3), (4, .int p4), (5, .int p5)]) hx hb dX14_feed_76 hl (by decide) rfl (fun ls hl => ?_)
  refine lv_aload_n hx hb dX14_feed_78 rfl (lv_at hl 2 rfl) ?_
  refine va_get (D := (dC, dI)) (ci := 14) (v := .ref mt) (C := RX14) (T := TX14) (N := 40) hx hb hts hin_14 hown hK hP 0 rfl rfl 10 (by decide) (hts (.fieldLink RX14 33 "LessonMakerModel" "tape" "[B") (List.mem_of_getElem? (i := 3) rfl)) (fun _ h9 => h9) rfl dX14_feed_79 ?_
  refine lv_aload_n hx hb dX14_feed_82 rfl (lv_at hl 2 rfl) ?_
  refine va_get (D := (dC, dI)) (ci := 14) (v := .int 16) (C := RX14) (T := TX14) (N := 40) hx hb hts hin_14 hown hK hP 0 rfl rfl 11 (by decide) (hts (.fieldLink RX14 304 "LessonMakerModel" "taped" "I") (List.mem_of_getElem? (i := 2) rfl)) (fun _ h9 => h9) rfl dX14_feed_83 ?_
  refine lv_iload hx hb dX14_feed_86 (lv_at hl 0 rfl) ?_
  refine lv_bipush (v := 24) hx hb dX14_feed_88 (by decide) ?_
  refine lv_bipush (v := 8) hx hb dX14_feed_90 (by decide) ?_
  refine lv_iload hx hb dX14_feed_92 (lv_at hl 1 rfl) ?_
  refine lv_iconst (v := 4) hx hb dX14_feed_94 (by decide) ?_
  refine lv_irem hx hb dX14_feed_95 (by decide) ?_
  refine lv_topi (fun x_130 ex_130 => ?_)
  have ex_130 := ex_130.trans (show _ = (0 : Int32) by decide)
  subst ex_130
  refine lv_imul hx hb dX14_feed_96 ?_
  refine lv_topi (fun x_131 ex_131 => ?_)
  have ex_131 := ex_131.trans (show _ = (0 : Int32) by decide)
  subst ex_131
  refine lv_isub hx hb dX14_feed_97 ?_
  refine lv_topi (fun x_132 ex_132 => ?_)
  have ex_132 := ex_132.trans (show _ = (24 : Int32) by decide)
  subst ex_132
  refine lv_ishr hx hb dX14_feed_98 ?_
  refine lv_topi (fun x_133 ex_133 => ?_)
  refine lv_i2b hx hb dX14_feed_99 rfl ?_
  refine lv_topi (fun y_135 ey_135 => ?_)
  refine va_bast hx hb hK hP hD hS 1 0 rfl rfl (i := 16) (z_io (by decide)) dX14_feed_100 (fun H locs hP hD hS => ?_)
  obtain ⟨g_136, eg_136⟩ : ∃ z, z = upd g_128 (Int32.toNatClampNeg 16) (vp_nar .byte y_135) := ⟨_, rfl⟩
  rw [← eg_136] at hP hD
  have hP : va_P (dC, dI) z_Cl [(h0, .inr (14, [.int 0, .int 0, .int (-1), .int 0, .ref mp, .ref mq, .ref ms, .int 0, .int 0, .ref mo, .ref mt, .int 16, .int 0, .int 0, .int 0, .int 0, .int 0, .int 0, .int 0, .int 0, .int 0, .long 0, .ref ml, .ref mw, .int 0, .ref m1, .int 0, .int 0, .int 0, .int 0, .ref m2, .ref m3, .int 0, .int 0, .ref m4, .ref m5, .ref m6, .ref m7, .ref m8, .ref m9])), (mt, .inl (kt, 600, .inl g_136))] H := hP
  have hD : va_D A [(h0, .inr (14, [.int 0, .int 0, .int (-1), .int 0, .ref mp, .ref mq, .ref ms, .int 0, .int 0, .ref mo, .ref mt, .int 16, .int 0, .int 0, .int 0, .int 0, .int 0, .int 0, .int 0, .int 0, .int 0, .long 0, .ref ml, .ref mw, .int 0, .ref m1, .int 0, .int 0, .int 0, .int 0, .ref m2, .ref m3, .int 0, .int 0, .ref m4, .ref m5, .ref m6, .ref m7, .ref m8, .ref m9])), (mt, .inl (kt, 600, .inl g_136))] := hD
  refine lv_aload_n hx hb dX14_feed_101 rfl (lv_at hl 2 rfl) ?_
  refine lv_dup hx hb dX14_feed_102 rfl ?_
  refine va_get (D := (dC, dI)) (ci := 14) (v := .int 16) (C := RX14) (T := TX14) (N := 40) hx hb hts hin_14 hown hK hP 0 rfl rfl 11 (by decide) (hts (.fieldLink RX14 304 "LessonMakerModel" "taped" "I") (List.mem_of_getElem? (i := 2) rfl)) (fun _ h9 => h9) rfl dX14_feed_103 ?_
  refine lv_iconst (v := 1) hx hb dX14_feed_106 (by decide) ?_
  refine lv_iadd hx hb dX14_feed_107 ?_
  refine lv_topi (fun x_137 ex_137 => ?_)
  have ex_137 := ex_137.trans (show _ = (17 : Int32) by decide)
  subst ex_137
  refine va_put (D := (dC, dI)) (ci := 14) (v := .int 17) (ty := .int) (C := RX14) (T := TX14) (N := 40) hx hb hts hin_14 tyX14 tyX14_ok nmX14 hown hK hP hD hS 0 rfl rfl 11 (by decide) (hts (.fieldLink RX14 304 "LessonMakerModel" "taped" "I") (List.mem_of_getElem? (i := 2) rfl)) (fun _ h9 => h9) rfl (by decide +kernel) rfl rfl (Nat.le_of_ble_eq_true rfl) dX14_feed_108 (fun H locs hP hD hS => ?_)
  have hP : va_P (dC, dI) z_Cl [(h0, .inr (14, [.int 0, .int 0, .int (-1), .int 0, .ref mp, .ref mq, .ref ms, .int 0, .int 0, .ref mo, .ref mt, .int 17, .int 0, .int 0, .int 0, .int 0, .int 0, .int 0, .int 0, .int 0, .int 0, .long 0, .ref ml, .ref mw, .int 0, .ref m1, .int 0, .int 0, .int 0, .int 0, .ref m2, .ref m3, .int 0, .int 0, .ref m4, .ref m5, .ref m6, .ref m7, .ref m8, .ref m9])), (mt, .inl (kt, 600, .inl g_136))] H := hP
  have hD : va_D A [(h0, .inr (14, [.int 0, .int 0, .int (-1), .int 0, .ref mp, .ref mq, .ref ms, .int 0, .int 0, .ref mo, .ref mt, .int 17, .int 0, .int 0, .int 0, .int 0, .int 0, .int 0, .int 0, .int 0, .int 0, .long 0, .ref ml, .ref mw, .int 0, .ref m1, .int 0, .int 0, .int 0, .int 0, .ref m2, .ref m3, .int 0, .int 0, .ref m4, .ref m5, .ref m6, .ref m7, .ref m8, .ref m9])), (mt, .inl (kt, 600, .inl g_136))] := hD
  refine lv_iinc (v := 17) (lv' := [(6, .int 17), (7, .int p5), (0, .ref h0), (1, .int p1), (2, .int p2), (3, .int p3), (4, .int p4), (5, .int p5)]) hx hb dX14_feed_111 hl (k := 1) rfl (by decide) (by decide) rfl (fun ls hl => ?_)
  refine lv_goto (tgt := 23) hx hb dX14_feed_114 (by decide) ?_
  refine lv_iload hx hb dX14_feed_23 (lv_at hl 0 rfl) ?_
  refine lv_bipush (v := 20) hx hb dX14_feed_25 (by decide) ?_
  refine lv_icmp_ge (tgt := 117) hx hb dX14_feed_27 (by decide) (fun h9 => absurd h9 (by decide)) (fun _ => ?_)
  refine lv_iload hx hb dX14_feed_30 (lv_at hl 0 rfl) ?_
  refine lv_iconst (v := 4) hx hb dX14_feed_32 (by decide) ?_
  refine lv_icmp_ge (tgt := 40) hx hb dX14_feed_33 (by decide) (fun _ => ?_) (fun h9 => absurd (by decide) h9)
  refine lv_iload hx hb dX14_feed_40 (lv_at hl 0 rfl) ?_
  refine lv_bipush (v := 8) hx hb dX14_feed_42 (by decide) ?_
  refine lv_icmp_ge (tgt := 51) hx hb dX14_feed_44 (by decide) (fun _ => ?_) (fun h9 => absurd (by decide) h9)
  refine lv_iload hx hb dX14_feed_51 (lv_at hl 0 rfl) ?_
  refine lv_bipush (v := 12) hx hb dX14_feed_53 (by decide) ?_
  refine lv_icmp_ge (tgt := 62) hx hb dX14_feed_55 (by decide) (fun _ => ?_) (fun h9 => absurd (by decide) h9)
  refine lv_iload hx hb dX14_feed_62 (lv_at hl 0 rfl) ?_
  refine lv_bipush (v := 16) hx hb dX14_feed_64 (by decide) ?_
  refine lv_icmp_ge (tgt := 74) hx hb dX14_feed_66 (by decide) (fun _ => ?_) (fun h9 => absurd (by decide) h9)
  refine lv_iload hx hb dX14_feed_74 (lv_at hl 7 rfl) ?_
  refine lv_istore (lv' := [(7, .int p5), (6, .int 17), (0, .ref h0), (1, .int p1), (2, .int p2), (3, .int p3), (4, .int p4), (5, .int p5)]) hx hb dX14_feed_76 hl (by decide) rfl (fun ls hl => ?_)
  refine lv_aload_n hx hb dX14_feed_78 rfl (lv_at hl 2 rfl) ?_
  refine va_get (D := (dC, dI)) (ci := 14) (v := .ref mt) (C := RX14) (T := TX14) (N := 40) hx hb hts hin_14 hown hK hP 0 rfl rfl 10 (by decide) (hts (.fieldLink RX14 33 "LessonMakerModel" "tape" "[B") (List.mem_of_getElem? (i := 3) rfl)) (fun _ h9 => h9) rfl dX14_feed_79 ?_
  refine lv_aload_n hx hb dX14_feed_82 rfl (lv_at hl 2 rfl) ?_
  refine va_get (D := (dC, dI)) (ci := 14) (v := .int 17) (C := RX14) (T := TX14) (N := 40) hx hb hts hin_14 hown hK hP 0 rfl rfl 11 (by decide) (hts (.fieldLink RX14 304 "LessonMakerModel" "taped" "I") (List.mem_of_getElem? (i := 2) rfl)) (fun _ h9 => h9) rfl dX14_feed_83 ?_
  refine lv_iload hx hb dX14_feed_86 (lv_at hl 0 rfl) ?_
  refine lv_bipush (v := 24) hx hb dX14_feed_88 (by decide) ?_
  refine lv_bipush (v := 8) hx hb dX14_feed_90 (by decide) ?_
  refine lv_iload hx hb dX14_feed_92 (lv_at hl 1 rfl) ?_
  refine lv_iconst (v := 4) hx hb dX14_feed_94 (by decide) ?_
  refine lv_irem hx hb dX14_feed_95 (by decide) ?_
  refine lv_topi (fun x_138 ex_138 => ?_)
  have ex_138 := ex_138.trans (show _ = (1 : Int32) by decide)
  subst ex_138
  refine lv_imul hx hb dX14_feed_96 ?_
  refine lv_topi (fun x_139 ex_139 => ?_)
  have ex_139 := ex_139.trans (show _ = (8 : Int32) by decide)
  subst ex_139
  refine lv_isub hx hb dX14_feed_97 ?_
  refine lv_topi (fun x_140 ex_140 => ?_)
  have ex_140 := ex_140.trans (show _ = (16 : Int32) by decide)
  subst ex_140
  refine lv_ishr hx hb dX14_feed_98 ?_
  refine lv_topi (fun x_141 ex_141 => ?_)
  refine lv_i2b hx hb dX14_feed_99 rfl ?_
  refine lv_topi (fun y_143 ey_143 => ?_)
  refine va_bast hx hb hK hP hD hS 1 0 rfl rfl (i := 17) (z_io (by decide)) dX14_feed_100 (fun H locs hP hD hS => ?_)
  obtain ⟨g_144, eg_144⟩ : ∃ z, z = upd g_136 (Int32.toNatClampNeg 17) (vp_nar .byte y_143) := ⟨_, rfl⟩
  rw [← eg_144] at hP hD
  have hP : va_P (dC, dI) z_Cl [(h0, .inr (14, [.int 0, .int 0, .int (-1), .int 0, .ref mp, .ref mq, .ref ms, .int 0, .int 0, .ref mo, .ref mt, .int 17, .int 0, .int 0, .int 0, .int 0, .int 0, .int 0, .int 0, .int 0, .int 0, .long 0, .ref ml, .ref mw, .int 0, .ref m1, .int 0, .int 0, .int 0, .int 0, .ref m2, .ref m3, .int 0, .int 0, .ref m4, .ref m5, .ref m6, .ref m7, .ref m8, .ref m9])), (mt, .inl (kt, 600, .inl g_144))] H := hP
  have hD : va_D A [(h0, .inr (14, [.int 0, .int 0, .int (-1), .int 0, .ref mp, .ref mq, .ref ms, .int 0, .int 0, .ref mo, .ref mt, .int 17, .int 0, .int 0, .int 0, .int 0, .int 0, .int 0, .int 0, .int 0, .int 0, .long 0, .ref ml, .ref mw, .int 0, .ref m1, .int 0, .int 0, .int 0, .int 0, .ref m2, .ref m3, .int 0, .int 0, .ref m4, .ref m5, .ref m6, .ref m7, .ref m8, .ref m9])), (mt, .inl (kt, 600, .inl g_144))] := hD
  refine lv_aload_n hx hb dX14_feed_101 rfl (lv_at hl 2 rfl) ?_
  refine lv_dup hx hb dX14_feed_102 rfl ?_
  refine va_get (D := (dC, dI)) (ci := 14) (v := .int 17) (C := RX14) (T := TX14) (N := 40) hx hb hts hin_14 hown hK hP 0 rfl rfl 11 (by decide) (hts (.fieldLink RX14 304 "LessonMakerModel" "taped" "I") (List.mem_of_getElem? (i := 2) rfl)) (fun _ h9 => h9) rfl dX14_feed_103 ?_
  refine lv_iconst (v := 1) hx hb dX14_feed_106 (by decide) ?_
  refine lv_iadd hx hb dX14_feed_107 ?_
  refine lv_topi (fun x_145 ex_145 => ?_)
  have ex_145 := ex_145.trans (show _ = (18 : Int32) by decide)
  subst ex_145
  refine va_put (D := (dC, dI)) (ci := 14) (v := .int 18) (ty := .int) (C := RX14) (T := TX14) (N := 40) hx hb hts hin_14 tyX14 tyX14_ok nmX14 hown hK hP hD hS 0 rfl rfl 11 (by decide) (hts (.fieldLink RX14 304 "LessonMakerModel" "taped" "I") (List.mem_of_getElem? (i := 2) rfl)) (fun _ h9 => h9) rfl (by decide +kernel) rfl rfl (Nat.le_of_ble_eq_true rfl) dX14_feed_108 (fun H locs hP hD hS => ?_)
  have hP : va_P (dC, dI) z_Cl [(h0, .inr (14, [.int 0, .int 0, .int (-1), .int 0, .ref mp, .ref mq, .ref ms, .int 0, .int 0, .ref mo, .ref mt, .int 18, .int 0, .int 0, .int 0, .int 0, .int 0, .int 0, .int 0, .int 0, .int 0, .long 0, .ref ml, .ref mw, .int 0, .ref m1, .int 0, .int 0, .int 0, .int 0, .ref m2, .ref m3, .int 0, .int 0, .ref m4, .ref m5, .ref m6, .ref m7, .ref m8, .ref m9])), (mt, .inl (kt, 600, .inl g_144))] H := hP
  have hD : va_D A [(h0, .inr (14, [.int 0, .int 0, .int (-1), .int 0, .ref mp, .ref mq, .ref ms, .int 0, .int 0, .ref mo, .ref mt, .int 18, .int 0, .int 0, .int 0, .int 0, .int 0, .int 0, .int 0, .int 0, .int 0, .long 0, .ref ml, .ref mw, .int 0, .ref m1, .int 0, .int 0, .int 0, .int 0, .ref m2, .ref m3, .int 0, .int 0, .ref m4, .ref m5, .ref m6, .ref m7, .ref m8, .ref m9])), (mt, .inl (kt, 600, .inl g_144))] := hD
  refine lv_iinc (v := 18) (lv' := [(6, .int 18), (7, .int p5), (0, .ref h0), (1, .int p1), (2, .int p2), (3, .int p3), (4, .int p4), (5, .int p5)]) hx hb dX14_feed_111 hl (k := 1) rfl (by decide) (by decide) rfl (fun ls hl => ?_)
  refine lv_goto (tgt := 23) hx hb dX14_feed_114 (by decide) ?_
  refine lv_iload hx hb dX14_feed_23 (lv_at hl 0 rfl) ?_
  refine lv_bipush (v := 20) hx hb dX14_feed_25 (by decide) ?_
  refine lv_icmp_ge (tgt := 117) hx hb dX14_feed_27 (by decide) (fun h9 => absurd h9 (by decide)) (fun _ => ?_)
  refine lv_iload hx hb dX14_feed_30 (lv_at hl 0 rfl) ?_
  refine lv_iconst (v := 4) hx hb dX14_feed_32 (by decide) ?_
  refine lv_icmp_ge (tgt := 40) hx hb dX14_feed_33 (by decide) (fun _ => ?_) (fun h9 => absurd (by decide) h9)
  refine lv_iload hx hb dX14_feed_40 (lv_at hl 0 rfl) ?_
  refine lv_bipush (v := 8) hx hb dX14_feed_42 (by decide) ?_
  refine lv_icmp_ge (tgt := 51) hx hb dX14_feed_44 (by decide) (fun _ => ?_) (fun h9 => absurd (by decide) h9)
  refine lv_iload hx hb dX14_feed_51 (lv_at hl 0 rfl) ?_
  refine lv_bipush (v := 12) hx hb dX14_feed_53 (by decide) ?_
  refine lv_icmp_ge (tgt := 62) hx hb dX14_feed_55 (by decide) (fun _ => ?_) (fun h9 => absurd (by decide) h9)
  refine lv_iload hx hb dX14_feed_62 (lv_at hl 0 rfl) ?_
  refine lv_bipush (v := 16) hx hb dX14_feed_64 (by decide) ?_
  refine lv_icmp_ge (tgt := 74) hx hb dX14_feed_66 (by decide) (fun _ => ?_) (fun h9 => absurd (by decide) h9)
  refine lv_iload hx hb dX14_feed_74 (lv_at hl 7 rfl) ?_
  refine lv_istore (lv' := [(7, .int p5), (6, .int 18), (0, .ref h0), (1, .int p1), (2, .int p2), (3, .int p3), (4, .int p4), (5, .int p5)]) hx hb dX14_feed_76 hl (by decide) rfl (fun ls hl => ?_)
  refine lv_aload_n hx hb dX14_feed_78 rfl (lv_at hl 2 rfl) ?_
  refine va_get (D := (dC, dI)) (ci := 14) (v := .ref mt) (C := RX14) (T := TX14) (N := 40) hx hb hts hin_14 hown hK hP 0 rfl rfl 10 (by decide) (hts (.fieldLink RX14 33 "LessonMakerModel" "tape" "[B") (List.mem_of_getElem? (i := 3) rfl)) (fun _ h9 => h9) rfl dX14_feed_79 ?_
  refine lv_aload_n hx hb dX14_feed_82 rfl (lv_at hl 2 rfl) ?_
  refine va_get (D := (dC, dI)) (ci := 14) (v := .int 18) (C := RX14) (T := TX14) (N := 40) hx hb hts hin_14 hown hK hP 0 rfl rfl 11 (by decide) (hts (.fieldLink RX14 304 "LessonMakerModel" "taped" "I") (List.mem_of_getElem? (i := 2) rfl)) (fun _ h9 => h9) rfl dX14_feed_83 ?_
  refine lv_iload hx hb dX14_feed_86 (lv_at hl 0 rfl) ?_
  refine lv_bipush (v := 24) hx hb dX14_feed_88 (by decide) ?_
  refine lv_bipush (v := 8) hx hb dX14_feed_90 (by decide) ?_
  refine lv_iload hx hb dX14_feed_92 (lv_at hl 1 rfl) ?_
  refine lv_iconst (v := 4) hx hb dX14_feed_94 (by decide) ?_
  refine lv_irem hx hb dX14_feed_95 (by decide) ?_
  refine lv_topi (fun x_146 ex_146 => ?_)
  have ex_146 := ex_146.trans (show _ = (2 : Int32) by decide)
  subst ex_146
  refine lv_imul hx hb dX14_feed_96 ?_
  refine lv_topi (fun x_147 ex_147 => ?_)
  have ex_147 := ex_147.trans (show _ = (16 : Int32) by decide)
  subst ex_147
  refine lv_isub hx hb dX14_feed_97 ?_
  refine lv_topi (fun x_148 ex_148 => ?_)
  have ex_148 := ex_148.trans (show _ = (8 : Int32) by decide)
  subst ex_148
  refine lv_ishr hx hb dX14_feed_98 ?_
  refine lv_topi (fun x_149 ex_149 => ?_)
  refine lv_i2b hx hb dX14_feed_99 rfl ?_
  refine lv_topi (fun y_151 ey_151 => ?_)
  refine va_bast hx hb hK hP hD hS 1 0 rfl rfl (i := 18) (z_io (by decide)) dX14_feed_100 (fun H locs hP hD hS => ?_)
  obtain ⟨g_152, eg_152⟩ : ∃ z, z = upd g_144 (Int32.toNatClampNeg 18) (vp_nar .byte y_151) := ⟨_, rfl⟩
  rw [← eg_152] at hP hD
  have hP : va_P (dC, dI) z_Cl [(h0, .inr (14, [.int 0, .int 0, .int (-1), .int 0, .ref mp, .ref mq, .ref ms, .int 0, .int 0, .ref mo, .ref mt, .int 18, .int 0, .int 0, .int 0, .int 0, .int 0, .int 0, .int 0, .int 0, .int 0, .long 0, .ref ml, .ref mw, .int 0, .ref m1, .int 0, .int 0, .int 0, .int 0, .ref m2, .ref m3, .int 0, .int 0, .ref m4, .ref m5, .ref m6, .ref m7, .ref m8, .ref m9])), (mt, .inl (kt, 600, .inl g_152))] H := hP
  have hD : va_D A [(h0, .inr (14, [.int 0, .int 0, .int (-1), .int 0, .ref mp, .ref mq, .ref ms, .int 0, .int 0, .ref mo, .ref mt, .int 18, .int 0, .int 0, .int 0, .int 0, .int 0, .int 0, .int 0, .int 0, .int 0, .long 0, .ref ml, .ref mw, .int 0, .ref m1, .int 0, .int 0, .int 0, .int 0, .ref m2, .ref m3, .int 0, .int 0, .ref m4, .ref m5, .ref m6, .ref m7, .ref m8, .ref m9])), (mt, .inl (kt, 600, .inl g_152))] := hD
  refine lv_aload_n hx hb dX14_feed_101 rfl (lv_at hl 2 rfl) ?_
  refine lv_dup hx hb dX14_feed_102 rfl ?_
  refine va_get (D := (dC, dI)) (ci := 14) (v := .int 18) (C := RX14) (T := TX14) (N := 40) hx hb hts hin_14 hown hK hP 0 rfl rfl 11 (by decide) (hts (.fieldLink RX14 304 "LessonMakerModel" "taped" "I") (List.mem_of_getElem? (i := 2) rfl)) (fun _ h9 => h9) rfl dX14_feed_103 ?_
  refine lv_iconst (v := 1) hx hb dX14_feed_106 (by decide) ?_
  refine lv_iadd hx hb dX14_feed_107 ?_
  refine lv_topi (fun x_153 ex_153 => ?_)
  have ex_153 := ex_153.trans (show _ = (19 : Int32) by decide)
  subst ex_153
  refine va_put (D := (dC, dI)) (ci := 14) (v := .int 19) (ty := .int) (C := RX14) (T := TX14) (N := 40) hx hb hts hin_14 tyX14 tyX14_ok nmX14 hown hK hP hD hS 0 rfl rfl 11 (by decide) (hts (.fieldLink RX14 304 "LessonMakerModel" "taped" "I") (List.mem_of_getElem? (i := 2) rfl)) (fun _ h9 => h9) rfl (by decide +kernel) rfl rfl (Nat.le_of_ble_eq_true rfl) dX14_feed_108 (fun H locs hP hD hS => ?_)
  have hP : va_P (dC, dI) z_Cl [(h0, .inr (14, [.int 0, .int 0, .int (-1), .int 0, .ref mp, .ref mq, .ref ms, .int 0, .int 0, .ref mo, .ref mt, .int 19, .int 0, .int 0, .int 0, .int 0, .int 0, .int 0, .int 0, .int 0, .int 0, .long 0, .ref ml, .ref mw, .int 0, .ref m1, .int 0, .int 0, .int 0, .int 0, .ref m2, .ref m3, .int 0, .int 0, .ref m4, .ref m5, .ref m6, .ref m7, .ref m8, .ref m9])), (mt, .inl (kt, 600, .inl g_152))] H := hP
  have hD : va_D A [(h0, .inr (14, [.int 0, .int 0, .int (-1), .int 0, .ref mp, .ref mq, .ref ms, .int 0, .int 0, .ref mo, .ref mt, .int 19, .int 0, .int 0, .int 0, .int 0, .int 0, .int 0, .int 0, .int 0, .int 0, .long 0, .ref ml, .ref mw, .int 0, .ref m1, .int 0, .int 0, .int 0, .int 0, .ref m2, .ref m3, .int 0, .int 0, .ref m4, .ref m5, .ref m6, .ref m7, .ref m8, .ref m9])), (mt, .inl (kt, 600, .inl g_152))] := hD
  refine lv_iinc (v := 19) (lv' := [(6, .int 19), (7, .int p5), (0, .ref h0), (1, .int p1), (2, .int p2), (3, .int p3), (4, .int p4), (5, .int p5)]) hx hb dX14_feed_111 hl (k := 1) rfl (by decide) (by decide) rfl (fun ls hl => ?_)
  refine lv_goto (tgt := 23) hx hb dX14_feed_114 (by decide) ?_
  refine lv_iload hx hb dX14_feed_23 (lv_at hl 0 rfl) ?_
  refine lv_bipush (v := 20) hx hb dX14_feed_25 (by decide) ?_
  refine lv_icmp_ge (tgt := 117) hx hb dX14_feed_27 (by decide) (fun h9 => absurd h9 (by decide)) (fun _ => ?_)
  refine lv_iload hx hb dX14_feed_30 (lv_at hl 0 rfl) ?_
  refine lv_iconst (v := 4) hx hb dX14_feed_32 (by decide) ?_
  refine lv_icmp_ge (tgt := 40) hx hb dX14_feed_33 (by decide) (fun _ => ?_) (fun h9 => absurd (by decide) h9)
  refine lv_iload hx hb dX14_feed_40 (lv_at hl 0 rfl) ?_
  refine lv_bipush (v := 8) hx hb dX14_feed_42 (by decide) ?_
  refine lv_icmp_ge (tgt := 51) hx hb dX14_feed_44 (by decide) (fun _ => ?_) (fun h9 => absurd (by decide) h9)
  refine lv_iload hx hb dX14_feed_51 (lv_at hl 0 rfl) ?_
  refine lv_bipush (v := 12) hx hb dX14_feed_53 (by decide) ?_
  refine lv_icmp_ge (tgt := 62) hx hb dX14_feed_55 (by decide) (fun _ => ?_) (fun h9 => absurd (by decide) h9)
  refine lv_iload hx hb dX14_feed_62 (lv_at hl 0 rfl) ?_
  refine lv_bipush (v := 16) hx hb dX14_feed_64 (by decide) ?_
  refine lv_icmp_ge (tgt := 74) hx hb dX14_feed_66 (by decide) (fun _ => ?_) (fun h9 => absurd (by decide) h9)
  refine lv_iload hx hb dX14_feed_74 (lv_at hl 7 rfl) ?_
  refine lv_istore (lv' := [(7, .int p5), (6, .int 19), (0, .ref h0), (1, .int p1), (2, .int p2), (3, .int p3), (4, .int p4), (5, .int p5)]) hx hb dX14_feed_76 hl (by decide) rfl (fun ls hl => ?_)
  refine lv_aload_n hx hb dX14_feed_78 rfl (lv_at hl 2 rfl) ?_
  refine va_get (D := (dC, dI)) (ci := 14) (v := .ref mt) (C := RX14) (T := TX14) (N := 40) hx hb hts hin_14 hown hK hP 0 rfl rfl 10 (by decide) (hts (.fieldLink RX14 33 "LessonMakerModel" "tape" "[B") (List.mem_of_getElem? (i := 3) rfl)) (fun _ h9 => h9) rfl dX14_feed_79 ?_
  refine lv_aload_n hx hb dX14_feed_82 rfl (lv_at hl 2 rfl) ?_
  refine va_get (D := (dC, dI)) (ci := 14) (v := .int 19) (C := RX14) (T := TX14) (N := 40) hx hb hts hin_14 hown hK hP 0 rfl rfl 11 (by decide) (hts (.fieldLink RX14 304 "LessonMakerModel" "taped" "I") (List.mem_of_getElem? (i := 2) rfl)) (fun _ h9 => h9) rfl dX14_feed_83 ?_
  refine lv_iload hx hb dX14_feed_86 (lv_at hl 0 rfl) ?_
  refine lv_bipush (v := 24) hx hb dX14_feed_88 (by decide) ?_
  refine lv_bipush (v := 8) hx hb dX14_feed_90 (by decide) ?_
  refine lv_iload hx hb dX14_feed_92 (lv_at hl 1 rfl) ?_
  refine lv_iconst (v := 4) hx hb dX14_feed_94 (by decide) ?_
  refine lv_irem hx hb dX14_feed_95 (by decide) ?_
  refine lv_topi (fun x_154 ex_154 => ?_)
  have ex_154 := ex_154.trans (show _ = (3 : Int32) by decide)
  subst ex_154
  refine lv_imul hx hb dX14_feed_96 ?_
  refine lv_topi (fun x_155 ex_155 => ?_)
  have ex_155 := ex_155.trans (show _ = (24 : Int32) by decide)
  subst ex_155
  refine lv_isub hx hb dX14_feed_97 ?_
  refine lv_topi (fun x_156 ex_156 => ?_)
  have ex_156 := ex_156.trans (show _ = (0 : Int32) by decide)
  subst ex_156
  refine lv_ishr hx hb dX14_feed_98 ?_
  refine lv_topi (fun x_157 ex_157 => ?_)
  refine lv_i2b hx hb dX14_feed_99 rfl ?_
  refine lv_topi (fun y_159 ey_159 => ?_)
  refine va_bast hx hb hK hP hD hS 1 0 rfl rfl (i := 19) (z_io (by decide)) dX14_feed_100 (fun H locs hP hD hS => ?_)
  obtain ⟨g_160, eg_160⟩ : ∃ z, z = upd g_152 (Int32.toNatClampNeg 19) (vp_nar .byte y_159) := ⟨_, rfl⟩
  rw [← eg_160] at hP hD
  have hP : va_P (dC, dI) z_Cl [(h0, .inr (14, [.int 0, .int 0, .int (-1), .int 0, .ref mp, .ref mq, .ref ms, .int 0, .int 0, .ref mo, .ref mt, .int 19, .int 0, .int 0, .int 0, .int 0, .int 0, .int 0, .int 0, .int 0, .int 0, .long 0, .ref ml, .ref mw, .int 0, .ref m1, .int 0, .int 0, .int 0, .int 0, .ref m2, .ref m3, .int 0, .int 0, .ref m4, .ref m5, .ref m6, .ref m7, .ref m8, .ref m9])), (mt, .inl (kt, 600, .inl g_160))] H := hP
  have hD : va_D A [(h0, .inr (14, [.int 0, .int 0, .int (-1), .int 0, .ref mp, .ref mq, .ref ms, .int 0, .int 0, .ref mo, .ref mt, .int 19, .int 0, .int 0, .int 0, .int 0, .int 0, .int 0, .int 0, .int 0, .int 0, .long 0, .ref ml, .ref mw, .int 0, .ref m1, .int 0, .int 0, .int 0, .int 0, .ref m2, .ref m3, .int 0, .int 0, .ref m4, .ref m5, .ref m6, .ref m7, .ref m8, .ref m9])), (mt, .inl (kt, 600, .inl g_160))] := hD
  refine lv_aload_n hx hb dX14_feed_101 rfl (lv_at hl 2 rfl) ?_
  refine lv_dup hx hb dX14_feed_102 rfl ?_
  refine va_get (D := (dC, dI)) (ci := 14) (v := .int 19) (C := RX14) (T := TX14) (N := 40) hx hb hts hin_14 hown hK hP 0 rfl rfl 11 (by decide) (hts (.fieldLink RX14 304 "LessonMakerModel" "taped" "I") (List.mem_of_getElem? (i := 2) rfl)) (fun _ h9 => h9) rfl dX14_feed_103 ?_
  refine lv_iconst (v := 1) hx hb dX14_feed_106 (by decide) ?_
  refine lv_iadd hx hb dX14_feed_107 ?_
  refine lv_topi (fun x_161 ex_161 => ?_)
  have ex_161 := ex_161.trans (show _ = (20 : Int32) by decide)
  subst ex_161
  refine va_put (D := (dC, dI)) (ci := 14) (v := .int 20) (ty := .int) (C := RX14) (T := TX14) (N := 40) hx hb hts hin_14 tyX14 tyX14_ok nmX14 hown hK hP hD hS 0 rfl rfl 11 (by decide) (hts (.fieldLink RX14 304 "LessonMakerModel" "taped" "I") (List.mem_of_getElem? (i := 2) rfl)) (fun _ h9 => h9) rfl (by decide +kernel) rfl rfl (Nat.le_of_ble_eq_true rfl) dX14_feed_108 (fun H locs hP hD hS => ?_)
  have hP : va_P (dC, dI) z_Cl [(h0, .inr (14, [.int 0, .int 0, .int (-1), .int 0, .ref mp, .ref mq, .ref ms, .int 0, .int 0, .ref mo, .ref mt, .int 20, .int 0, .int 0, .int 0, .int 0, .int 0, .int 0, .int 0, .int 0, .int 0, .long 0, .ref ml, .ref mw, .int 0, .ref m1, .int 0, .int 0, .int 0, .int 0, .ref m2, .ref m3, .int 0, .int 0, .ref m4, .ref m5, .ref m6, .ref m7, .ref m8, .ref m9])), (mt, .inl (kt, 600, .inl g_160))] H := hP
  have hD : va_D A [(h0, .inr (14, [.int 0, .int 0, .int (-1), .int 0, .ref mp, .ref mq, .ref ms, .int 0, .int 0, .ref mo, .ref mt, .int 20, .int 0, .int 0, .int 0, .int 0, .int 0, .int 0, .int 0, .int 0, .int 0, .long 0, .ref ml, .ref mw, .int 0, .ref m1, .int 0, .int 0, .int 0, .int 0, .ref m2, .ref m3, .int 0, .int 0, .ref m4, .ref m5, .ref m6, .ref m7, .ref m8, .ref m9])), (mt, .inl (kt, 600, .inl g_160))] := hD
  refine lv_iinc (v := 20) (lv' := [(6, .int 20), (7, .int p5), (0, .ref h0), (1, .int p1), (2, .int p2), (3, .int p3), (4, .int p4), (5, .int p5)]) hx hb dX14_feed_111 hl (k := 1) rfl (by decide) (by decide) rfl (fun ls hl => ?_)
  refine lv_goto (tgt := 23) hx hb dX14_feed_114 (by decide) ?_
  refine lv_iload hx hb dX14_feed_23 (lv_at hl 0 rfl) ?_
  refine lv_bipush (v := 20) hx hb dX14_feed_25 (by decide) ?_
  refine lv_icmp_ge (tgt := 117) hx hb dX14_feed_27 (by decide) (fun _ => ?_) (fun h9 => absurd (by decide) h9)
  refine lv_aload_n hx hb dX14_feed_117 rfl (lv_at hl 2 rfl) ?_
  refine va_get (D := (dC, dI)) (ci := 14) (v := .int 20) (C := RX14) (T := TX14) (N := 40) hx hb hts hin_14 hown hK hP 0 rfl rfl 11 (by decide) (hts (.fieldLink RX14 304 "LessonMakerModel" "taped" "I") (List.mem_of_getElem? (i := 2) rfl)) (fun _ h9 => h9) rfl dX14_feed_118 ?_
  have hP9 := hP.sub (ws' := []) [] rfl
  have hD9 := hD.sub (ws' := []) [] (by decide) rfl
  have hK9 := hK.sub (tys' := []) [] rfl
  refine W.widen (k := 0) (n := 0) (Nat.le_of_ble_eq_true rfl) (Nat.le_of_ble_eq_true rfl) ?_
  exact W.iret (v := 20) hx hb hr (fun t ht hW => ⟨⟨20, (), rfl, rfl, by rw [ht]; exact hP9, va_K.moved hW.alike hK9, hD9⟩, hS.F ht⟩) hS.2.2 dX14_feed_121

def z_wX14_shownBy : List Cond := .code yX14_shownBy cX14_shownBy 4 (some .long) :: ([.fieldLink RX14 324 "LessonMakerModel" "runs" "I"] ++ (u_ws RX14 TX14 40))
set_option maxHeartbeats 4000000 in
set_option maxRecDepth 100000 in
theorem c_X14_shownBy (l : Launch) (dC : Nat → ClassId) (dI : Nat → Nat → Nat) (h0 : Nat) (mp : Nat) (mq : Nat) (ms : Nat) (mo : Nat) (mt : Nat) (ml : Nat) (mw : Nat) (m1 : Nat) (m2 : Nat) (m3 : Nat) (m4 : Nat) (m5 : Nat) (m6 : Nat) (m7 : Nat) (m8 : Nat) (m9 : Nat) (sz : Nat) : Met l yX14_shownBy z_wX14_shownBy ({ frames := 0, cells := 0, slots := 0, locals := 0 }) (va_Pc [.ref h0] (z_in dC dI [(h0, .inr (14, [.int 0, .int 0, .int (-1), .int 0, .ref mp, .ref mq, .ref ms, .int 0, .int 0, .ref mo, .ref mt, .int 0, .int 0, .int 0, .int 0, .int 0, .int 0, .int 0, .int 0, .int 0, .int 0, .long 0, .ref ml, .ref mw, .int 0, .ref m1, .int 0, .int 0, .int 0, .int 0, .ref m2, .ref m3, .int 0, .int 0, .ref m4, .ref m5, .ref m6, .ref m7, .ref m8, .ref m9]))] [] sz)) (va_Ql (fun (r : Int64) (_ : Unit) => r = 0) (fun (_ : Unit) t => z_out dC dI (va_A [(h0, .inr (14, [.int 0, .int 0, .int (-1), .int 0, .ref mp, .ref mq, .ref ms, .int 0, .int 0, .ref mo, .ref mt, .int 0, .int 0, .int 0, .int 0, .int 0, .int 0, .int 0, .int 0, .int 0, .int 0, .long 0, .ref ml, .ref mw, .int 0, .ref m1, .int 0, .int 0, .int 0, .int 0, .ref m2, .ref m3, .int 0, .int 0, .ref m4, .ref m5, .ref m6, .ref m7, .ref m8, .ref m9]))] sz) [(h0, .inr (14, [.int 0, .int 0, .int (-1), .int 0, .ref mp, .ref mq, .ref ms, .int 0, .int 0, .ref mo, .ref mt, .int 0, .int 0, .int 0, .int 0, .int 0, .int 0, .int 0, .int 0, .int 0, .int 0, .long 0, .ref ml, .ref mw, .int 0, .ref m1, .int 0, .int 0, .int 0, .int 0, .ref m2, .ref m3, .int 0, .int 0, .ref m4, .ref m5, .ref m6, .ref m7, .ref m8, .ref m9]))] [] t) (va_A [(h0, .inr (14, [.int 0, .int 0, .int (-1), .int 0, .ref mp, .ref mq, .ref ms, .int 0, .int 0, .ref mo, .ref mt, .int 0, .int 0, .int 0, .int 0, .int 0, .int 0, .int 0, .int 0, .int 0, .int 0, .long 0, .ref ml, .ref mw, .int 0, .ref m1, .int 0, .int 0, .int 0, .int 0, .ref m2, .ref m3, .int 0, .int 0, .ref m4, .ref m5, .ref m6, .ref m7, .ref m8, .ref m9]))] sz)) 0 0 (va_A [(h0, .inr (14, [.int 0, .int 0, .int (-1), .int 0, .ref mp, .ref mq, .ref ms, .int 0, .int 0, .ref mo, .ref mt, .int 0, .int 0, .int 0, .int 0, .int 0, .int 0, .int 0, .int 0, .int 0, .int 0, .long 0, .ref ml, .ref mw, .int 0, .ref m1, .int 0, .int 0, .int 0, .int 0, .ref m2, .ref m3, .int 0, .int 0, .ref m4, .ref m5, .ref m6, .ref m7, .ref m8, .ref m9]))] sz) := by
  refine Met.ofW (cc := cX14_shownBy) (maxL := 4) (ret := (some .long)) (by decide) rfl ?_
  intro p e s m args below meth c s₁ B hml hv
  obtain ⟨rfl, hsz, hP, hK, hD0, hN⟩ := hv
  have hx := B.exec
  have hb := B.bytes
  have hr := B.returns
  have hts := atoms_spec (ws := z_wX14_shownBy) B.pre
  have hown : s.vm.findClass RX14 = some m.cls := findClass_of_methodNamed B.named
  have hlocks := B.notSynchronized
  have hin_14 : ∀ w ∈ u_ws RX14 TX14 40, w ∈ z_wX14_shownBy := by decide +kernel
  subst hsz
  have hD := hD0.self (sz := s.heap.size)
  generalize hAe : va_A [(h0, .inr (14, [.int 0, .int 0, .int (-1), .int 0, .ref mp, .ref mq, .ref ms, .int 0, .int 0, .ref mo, .ref mt, .int 0, .int 0, .int 0, .int 0, .int 0, .int 0, .int 0, .int 0, .int 0, .int 0, .long 0, .ref ml, .ref mw, .int 0, .ref m1, .int 0, .int 0, .int 0, .int 0, .ref m2, .ref m3, .int 0, .int 0, .ref m4, .ref m5, .ref m6, .ref m7, .ref m8, .ref m9]))] s.heap.size = A at hD ⊢
  have hA : ∀ q : Nat, s.heap.size ≤ q → A q := fun q h => by rw [← hAe]; exact Or.inr h
  have hS : va_S A s.heap s.heap [] := va_S.rf
  have hP : va_P (dC, dI) z_Cl [(h0, .inr (14, [.int 0, .int 0, .int (-1), .int 0, .ref mp, .ref mq, .ref ms, .int 0, .int 0, .ref mo, .ref mt, .int 0, .int 0, .int 0, .int 0, .int 0, .int 0, .int 0, .int 0, .int 0, .int 0, .long 0, .ref ml, .ref mw, .int 0, .ref m1, .int 0, .int 0, .int 0, .int 0, .ref m2, .ref m3, .int 0, .int 0, .ref m4, .ref m5, .ref m6, .ref m7, .ref m8, .ref m9]))] s.heap := hP
  have hl := lv_entry ([.ref h0]) (n := 4) (Nat.le_of_ble_eq_true rfl)
  rw [lg_entry_eq]
  generalize (lg_sl ([.ref h0]) ++ List.replicate (4 - (lg_sl ([.ref h0])).length) Slot.unset).toArray = ls at hl ⊢
  have hl : lv_has ls 4 [(0, .ref h0)] := hl
  refine lv_lconst (v := 0) hx hb dX14_shownBy_0 (by decide) ?_
  refine lv_lstore_n (lv' := [(1, .long 0), (0, .ref h0)]) hx hb dX14_shownBy_1 rfl hl (by decide) rfl (fun ls hl => ?_)
  refine lv_iconst (v := 0) hx hb dX14_shownBy_2 (by decide) ?_
  refine lv_istore_n (lv' := [(3, .int 0), (1, .long 0), (0, .ref h0)]) hx hb dX14_shownBy_3 rfl hl (by decide) rfl (fun ls hl => ?_)
  refine lv_iload_n hx hb dX14_shownBy_4 rfl (lv_at hl 0 rfl) ?_
  refine lv_aload_n hx hb dX14_shownBy_5 rfl (lv_at hl 2 rfl) ?_
  refine va_get (D := (dC, dI)) (ci := 14) (v := .int 0) (C := RX14) (T := TX14) (N := 40) hx hb hts hin_14 hown hK hP 0 rfl rfl 32 (by decide) (hts (.fieldLink RX14 324 "LessonMakerModel" "runs" "I") (List.mem_of_getElem? (i := 1) rfl)) (fun _ h9 => h9) rfl dX14_shownBy_6 ?_
  refine lv_icmp_ge (tgt := 72) hx hb dX14_shownBy_9 (by decide) (fun _ => ?_) (fun h9 => absurd (by decide) h9)
  refine lv_lload_n hx hb dX14_shownBy_72 rfl (lv_at hl 1 rfl) ?_
  have hP9 := hP.sub (ws' := [(h0, .inr (14, [.int 0, .int 0, .int (-1), .int 0, .ref mp, .ref mq, .ref ms, .int 0, .int 0, .ref mo, .ref mt, .int 0, .int 0, .int 0, .int 0, .int 0, .int 0, .int 0, .int 0, .int 0, .int 0, .long 0, .ref ml, .ref mw, .int 0, .ref m1, .int 0, .int 0, .int 0, .int 0, .ref m2, .ref m3, .int 0, .int 0, .ref m4, .ref m5, .ref m6, .ref m7, .ref m8, .ref m9]))]) [0] rfl
  have hD9 := hD.sub (ws' := [(h0, .inr (14, [.int 0, .int 0, .int (-1), .int 0, .ref mp, .ref mq, .ref ms, .int 0, .int 0, .ref mo, .ref mt, .int 0, .int 0, .int 0, .int 0, .int 0, .int 0, .int 0, .int 0, .int 0, .int 0, .long 0, .ref ml, .ref mw, .int 0, .ref m1, .int 0, .int 0, .int 0, .int 0, .ref m2, .ref m3, .int 0, .int 0, .ref m4, .ref m5, .ref m6, .ref m7, .ref m8, .ref m9]))]) [0] (by decide) rfl
  have hK9 := hK.sub (tys' := []) [] rfl
  refine W.widen (k := 0) (n := 0) (Nat.le_of_ble_eq_true rfl) (Nat.le_of_ble_eq_true rfl) ?_
  exact W.lret (v := 0) hx hb hr (fun t ht hW => ⟨⟨0, (), rfl, rfl, by rw [ht]; exact hP9, va_K.moved hW.alike hK9, hD9⟩, hS.F ht⟩) hS.2.2 dX14_shownBy_73

def z_wX14_lines : List Cond := .code yX14_lines cX14_lines 4 (some .int) :: ([] ++ (([] : List Cond)))
set_option maxHeartbeats 4000000 in
set_option maxRecDepth 100000 in
theorem c_X14_lines (l : Launch) (dC : Nat → ClassId) (dI : Nat → Nat → Nat)  (sz : Nat) : Met l yX14_lines z_wX14_lines ({ frames := 0, cells := 0, slots := 0, locals := 0 }) (va_Pc [.long 0] (z_in dC dI [] [] sz)) (va_Qi (fun (r : Int32) (_ : Unit) => r = 0) (fun (_ : Unit) t => z_out dC dI (va_A [] sz) [] [] t) (va_A [] sz)) 0 0 (va_A [] sz) := by
  refine Met.ofW (cc := cX14_lines) (maxL := 4) (ret := (some .int)) (by decide) rfl ?_
  intro p e s m args below meth c s₁ B hml hv
  obtain ⟨rfl, hsz, hP, hK, hD0, hN⟩ := hv
  have hx := B.exec
  have hb := B.bytes
  have hr := B.returns
  have hts := atoms_spec (ws := z_wX14_lines) B.pre
  have hown : s.vm.findClass RX14 = some m.cls := findClass_of_methodNamed B.named
  have hlocks := B.notSynchronized
  subst hsz
  have hD := hD0.self (sz := s.heap.size)
  generalize hAe : va_A [] s.heap.size = A at hD ⊢
  have hA : ∀ q : Nat, s.heap.size ≤ q → A q := fun q h => by rw [← hAe]; exact Or.inr h
  have hS : va_S A s.heap s.heap [] := va_S.rf
  have hP : va_P (dC, dI) z_Cl [] s.heap := hP
  have hl := lv_entry ([.long 0]) (n := 4) (Nat.le_of_ble_eq_true rfl)
  rw [lg_entry_eq]
  generalize (lg_sl ([.long 0]) ++ List.replicate (4 - (lg_sl ([.long 0])).length) Slot.unset).toArray = ls at hl ⊢
  have hl : lv_has ls 4 [(0, .long 0)] := hl
  refine lv_iconst (v := 0) hx hb dX14_lines_0 (by decide) ?_
  refine lv_istore_n (lv' := [(2, .int 0), (0, .long 0)]) hx hb dX14_lines_1 rfl hl (by decide) rfl (fun ls hl => ?_)
  refine lv_iconst (v := 0) hx hb dX14_lines_2 (by decide) ?_
  refine lv_istore_n (lv' := [(3, .int 0), (2, .int 0), (0, .long 0)]) hx hb dX14_lines_3 rfl hl (by decide) rfl (fun ls hl => ?_)
  refine lv_iload_n hx hb dX14_lines_4 rfl (lv_at hl 0 rfl) ?_
  refine lv_bipush (v := 60) hx hb dX14_lines_5 (by decide) ?_
  refine lv_icmp_ge (tgt := 34) hx hb dX14_lines_7 (by decide) (fun h9 => absurd h9 (by decide)) (fun _ => ?_)
  refine lv_iload_n hx hb dX14_lines_10 rfl (lv_at hl 1 rfl) ?_
  refine lv_lload_n hx hb dX14_lines_11 rfl (lv_at hl 2 rfl) ?_
  refine lv_iload_n hx hb dX14_lines_12 rfl (lv_at hl 0 rfl) ?_
  refine lv_lshr (v := 0) hx hb dX14_lines_13 (by decide) ?_
  refine lv_lconst (v := 1) hx hb dX14_lines_14 (by decide) ?_
  refine lv_land hx hb dX14_lines_15 ?_
  refine lv_topl (fun x_1 ex_1 => ?_)
  have ex_1 := ex_1.trans (show _ = (0 : Int64) by decide)
  subst ex_1
  refine lv_lconst (v := 1) hx hb dX14_lines_16 (by decide) ?_
  refine W.lcmp hx hb dX14_lines_17 ?_
  refine lv_topi (fun x_2 ex_2 => ?_)
  have ex_2 := ex_2.trans (show _ = (-1 : Int32) by decide)
  subst ex_2
  refine lv_if_ne (tgt := 25) hx hb dX14_lines_18 (by decide) (fun _ => ?_) (fun h9 => absurd h9 (by decide))
  refine lv_iconst (v := 0) hx hb dX14_lines_25 (by decide) ?_
  refine lv_iadd hx hb dX14_lines_26 ?_
  refine lv_topi (fun x_3 ex_3 => ?_)
  have ex_3 := ex_3.trans (show _ = (0 : Int32) by decide)
  subst ex_3
  refine lv_istore_n (lv' := [(2, .int 0), (3, .int 0), (0, .long 0)]) hx hb dX14_lines_27 rfl hl (by decide) rfl (fun ls hl => ?_)
  refine lv_iinc (v := 1) (lv' := [(3, .int 1), (2, .int 0), (0, .long 0)]) hx hb dX14_lines_28 hl (k := 1) rfl (by decide) (by decide) rfl (fun ls hl => ?_)
  refine lv_goto (tgt := 4) hx hb dX14_lines_31 (by decide) ?_
  refine lv_iload_n hx hb dX14_lines_4 rfl (lv_at hl 0 rfl) ?_
  refine lv_bipush (v := 60) hx hb dX14_lines_5 (by decide) ?_
  refine lv_icmp_ge (tgt := 34) hx hb dX14_lines_7 (by decide) (fun h9 => absurd h9 (by decide)) (fun _ => ?_)
  refine lv_iload_n hx hb dX14_lines_10 rfl (lv_at hl 1 rfl) ?_
  refine lv_lload_n hx hb dX14_lines_11 rfl (lv_at hl 2 rfl) ?_
  refine lv_iload_n hx hb dX14_lines_12 rfl (lv_at hl 0 rfl) ?_
  refine lv_lshr (v := 0) hx hb dX14_lines_13 (by decide) ?_
  refine lv_lconst (v := 1) hx hb dX14_lines_14 (by decide) ?_
  refine lv_land hx hb dX14_lines_15 ?_
  refine lv_topl (fun x_4 ex_4 => ?_)
  have ex_4 := ex_4.trans (show _ = (0 : Int64) by decide)
  subst ex_4
  refine lv_lconst (v := 1) hx hb dX14_lines_16 (by decide) ?_
  refine W.lcmp hx hb dX14_lines_17 ?_
  refine lv_topi (fun x_5 ex_5 => ?_)
  have ex_5 := ex_5.trans (show _ = (-1 : Int32) by decide)
  subst ex_5
  refine lv_if_ne (tgt := 25) hx hb dX14_lines_18 (by decide) (fun _ => ?_) (fun h9 => absurd h9 (by decide))
  refine lv_iconst (v := 0) hx hb dX14_lines_25 (by decide) ?_
  refine lv_iadd hx hb dX14_lines_26 ?_
  refine lv_topi (fun x_6 ex_6 => ?_)
  have ex_6 := ex_6.trans (show _ = (0 : Int32) by decide)
  subst ex_6
  refine lv_istore_n (lv' := [(2, .int 0), (3, .int 1), (0, .long 0)]) hx hb dX14_lines_27 rfl hl (by decide) rfl (fun ls hl => ?_)
  refine lv_iinc (v := 2) (lv' := [(3, .int 2), (2, .int 0), (0, .long 0)]) hx hb dX14_lines_28 hl (k := 1) rfl (by decide) (by decide) rfl (fun ls hl => ?_)
  refine lv_goto (tgt := 4) hx hb dX14_lines_31 (by decide) ?_
  refine lv_iload_n hx hb dX14_lines_4 rfl (lv_at hl 0 rfl) ?_
  refine lv_bipush (v := 60) hx hb dX14_lines_5 (by decide) ?_
  refine lv_icmp_ge (tgt := 34) hx hb dX14_lines_7 (by decide) (fun h9 => absurd h9 (by decide)) (fun _ => ?_)
  refine lv_iload_n hx hb dX14_lines_10 rfl (lv_at hl 1 rfl) ?_
  refine lv_lload_n hx hb dX14_lines_11 rfl (lv_at hl 2 rfl) ?_
  refine lv_iload_n hx hb dX14_lines_12 rfl (lv_at hl 0 rfl) ?_
  refine lv_lshr (v := 0) hx hb dX14_lines_13 (by decide) ?_
  refine lv_lconst (v := 1) hx hb dX14_lines_14 (by decide) ?_
  refine lv_land hx hb dX14_lines_15 ?_
  refine lv_topl (fun x_7 ex_7 => ?_)
  have ex_7 := ex_7.trans (show _ = (0 : Int64) by decide)
  subst ex_7
  refine lv_lconst (v := 1) hx hb dX14_lines_16 (by decide) ?_
  refine W.lcmp hx hb dX14_lines_17 ?_
  refine lv_topi (fun x_8 ex_8 => ?_)
  have ex_8 := ex_8.trans (show _ = (-1 : Int32) by decide)
  subst ex_8
  refine lv_if_ne (tgt := 25) hx hb dX14_lines_18 (by decide) (fun _ => ?_) (fun h9 => absurd h9 (by decide))
  refine lv_iconst (v := 0) hx hb dX14_lines_25 (by decide) ?_
  refine lv_iadd hx hb dX14_lines_26 ?_
  refine lv_topi (fun x_9 ex_9 => ?_)
  have ex_9 := ex_9.trans (show _ = (0 : Int32) by decide)
  subst ex_9
  refine lv_istore_n (lv' := [(2, .int 0), (3, .int 2), (0, .long 0)]) hx hb dX14_lines_27 rfl hl (by decide) rfl (fun ls hl => ?_)
  refine lv_iinc (v := 3) (lv' := [(3, .int 3), (2, .int 0), (0, .long 0)]) hx hb dX14_lines_28 hl (k := 1) rfl (by decide) (by decide) rfl (fun ls hl => ?_)
  refine lv_goto (tgt := 4) hx hb dX14_lines_31 (by decide) ?_
  refine lv_iload_n hx hb dX14_lines_4 rfl (lv_at hl 0 rfl) ?_
  refine lv_bipush (v := 60) hx hb dX14_lines_5 (by decide) ?_
  refine lv_icmp_ge (tgt := 34) hx hb dX14_lines_7 (by decide) (fun h9 => absurd h9 (by decide)) (fun _ => ?_)
  refine lv_iload_n hx hb dX14_lines_10 rfl (lv_at hl 1 rfl) ?_
  refine lv_lload_n hx hb dX14_lines_11 rfl (lv_at hl 2 rfl) ?_
  refine lv_iload_n hx hb dX14_lines_12 rfl (lv_at hl 0 rfl) ?_
  refine lv_lshr (v := 0) hx hb dX14_lines_13 (by decide) ?_
  refine lv_lconst (v := 1) hx hb dX14_lines_14 (by decide) ?_
  refine lv_land hx hb dX14_lines_15 ?_
  refine lv_topl (fun x_10 ex_10 => ?_)
  have ex_10 := ex_10.trans (show _ = (0 : Int64) by decide)
  subst ex_10
  refine lv_lconst (v := 1) hx hb dX14_lines_16 (by decide) ?_
  refine W.lcmp hx hb dX14_lines_17 ?_
  refine lv_topi (fun x_11 ex_11 => ?_)
  have ex_11 := ex_11.trans (show _ = (-1 : Int32) by decide)
  subst ex_11
  refine lv_if_ne (tgt := 25) hx hb dX14_lines_18 (by decide) (fun _ => ?_) (fun h9 => absurd h9 (by decide))
  refine lv_iconst (v := 0) hx hb dX14_lines_25 (by decide) ?_
  refine lv_iadd hx hb dX14_lines_26 ?_
  refine lv_topi (fun x_12 ex_12 => ?_)
  have ex_12 := ex_12.trans (show _ = (0 : Int32) by decide)
  subst ex_12
  refine lv_istore_n (lv' := [(2, .int 0), (3, .int 3), (0, .long 0)]) hx hb dX14_lines_27 rfl hl (by decide) rfl (fun ls hl => ?_)
  refine lv_iinc (v := 4) (lv' := [(3, .int 4), (2, .int 0), (0, .long 0)]) hx hb dX14_lines_28 hl (k := 1) rfl (by decide) (by decide) rfl (fun ls hl => ?_)
  refine lv_goto (tgt := 4) hx hb dX14_lines_31 (by decide) ?_
  refine lv_iload_n hx hb dX14_lines_4 rfl (lv_at hl 0 rfl) ?_
  refine lv_bipush (v := 60) hx hb dX14_lines_5 (by decide) ?_
  refine lv_icmp_ge (tgt := 34) hx hb dX14_lines_7 (by decide) (fun h9 => absurd h9 (by decide)) (fun _ => ?_)
  refine lv_iload_n hx hb dX14_lines_10 rfl (lv_at hl 1 rfl) ?_
  refine lv_lload_n hx hb dX14_lines_11 rfl (lv_at hl 2 rfl) ?_
  refine lv_iload_n hx hb dX14_lines_12 rfl (lv_at hl 0 rfl) ?_
  refine lv_lshr (v := 0) hx hb dX14_lines_13 (by decide) ?_
  refine lv_lconst (v := 1) hx hb dX14_lines_14 (by decide) ?_
  refine lv_land hx hb dX14_lines_15 ?_
  refine lv_topl (fun x_13 ex_13 => ?_)
  have ex_13 := ex_13.trans (show _ = (0 : Int64) by decide)
  subst ex_13
  refine lv_lconst (v := 1) hx hb dX14_lines_16 (by decide) ?_
  refine W.lcmp hx hb dX14_lines_17 ?_
  refine lv_topi (fun x_14 ex_14 => ?_)
  have ex_14 := ex_14.trans (show _ = (-1 : Int32) by decide)
  subst ex_14
  refine lv_if_ne (tgt := 25) hx hb dX14_lines_18 (by decide) (fun _ => ?_) (fun h9 => absurd h9 (by decide))
  refine lv_iconst (v := 0) hx hb dX14_lines_25 (by decide) ?_
  refine lv_iadd hx hb dX14_lines_26 ?_
  refine lv_topi (fun x_15 ex_15 => ?_)
  have ex_15 := ex_15.trans (show _ = (0 : Int32) by decide)
  subst ex_15
  refine lv_istore_n (lv' := [(2, .int 0), (3, .int 4), (0, .long 0)]) hx hb dX14_lines_27 rfl hl (by decide) rfl (fun ls hl => ?_)
  refine lv_iinc (v := 5) (lv' := [(3, .int 5), (2, .int 0), (0, .long 0)]) hx hb dX14_lines_28 hl (k := 1) rfl (by decide) (by decide) rfl (fun ls hl => ?_)
  refine lv_goto (tgt := 4) hx hb dX14_lines_31 (by decide) ?_
  refine lv_iload_n hx hb dX14_lines_4 rfl (lv_at hl 0 rfl) ?_
  refine lv_bipush (v := 60) hx hb dX14_lines_5 (by decide) ?_
  refine lv_icmp_ge (tgt := 34) hx hb dX14_lines_7 (by decide) (fun h9 => absurd h9 (by decide)) (fun _ => ?_)
  refine lv_iload_n hx hb dX14_lines_10 rfl (lv_at hl 1 rfl) ?_
  refine lv_lload_n hx hb dX14_lines_11 rfl (lv_at hl 2 rfl) ?_
  refine lv_iload_n hx hb dX14_lines_12 rfl (lv_at hl 0 rfl) ?_
  refine lv_lshr (v := 0) hx hb dX14_lines_13 (by decide) ?_
  refine lv_lconst (v := 1) hx hb dX14_lines_14 (by decide) ?_
  refine lv_land hx hb dX14_lines_15 ?_
  refine lv_topl (fun x_16 ex_16 => ?_)
  have ex_16 := ex_16.trans (show _ = (0 : Int64) by decide)
  subst ex_16
  refine lv_lconst (v := 1) hx hb dX14_lines_16 (by decide) ?_
  refine W.lcmp hx hb dX14_lines_17 ?_
  refine lv_topi (fun x_17 ex_17 => ?_)
  have ex_17 := ex_17.trans (show _ = (-1 : Int32) by decide)
  subst ex_17
  refine lv_if_ne (tgt := 25) hx hb dX14_lines_18 (by decide) (fun _ => ?_) (fun h9 => absurd h9 (by decide))
  refine lv_iconst (v := 0) hx hb dX14_lines_25 (by decide) ?_
  refine lv_iadd hx hb dX14_lines_26 ?_
  refine lv_topi (fun x_18 ex_18 => ?_)
  have ex_18 := ex_18.trans (show _ = (0 : Int32) by decide)
  subst ex_18
  refine lv_istore_n (lv' := [(2, .int 0), (3, .int 5), (0, .long 0)]) hx hb dX14_lines_27 rfl hl (by decide) rfl (fun ls hl => ?_)
  refine lv_iinc (v := 6) (lv' := [(3, .int 6), (2, .int 0), (0, .long 0)]) hx hb dX14_lines_28 hl (k := 1) rfl (by decide) (by decide) rfl (fun ls hl => ?_)
  refine lv_goto (tgt := 4) hx hb dX14_lines_31 (by decide) ?_
  refine lv_iload_n hx hb dX14_lines_4 rfl (lv_at hl 0 rfl) ?_
  refine lv_bipush (v := 60) hx hb dX14_lines_5 (by decide) ?_
  refine lv_icmp_ge (tgt := 34) hx hb dX14_lines_7 (by decide) (fun h9 => absurd h9 (by decide)) (fun _ => ?_)
  refine lv_iload_n hx hb dX14_lines_10 rfl (lv_at hl 1 rfl) ?_
  refine lv_lload_n hx hb dX14_lines_11 rfl (lv_at hl 2 rfl) ?_
  refine lv_iload_n hx hb dX14_lines_12 rfl (lv_at hl 0 rfl) ?_
  refine lv_lshr (v := 0) hx hb dX14_lines_13 (by decide) ?_
  refine lv_lconst (v := 1) hx hb dX14_lines_14 (by decide) ?_
  refine lv_land hx hb dX14_lines_15 ?_
  refine lv_topl (fun x_19 ex_19 => ?_)
  have ex_19 := ex_19.trans (show _ = (0 : Int64) by decide)
  subst ex_19
  refine lv_lconst (v := 1) hx hb dX14_lines_16 (by decide) ?_
  refine W.lcmp hx hb dX14_lines_17 ?_
  refine lv_topi (fun x_20 ex_20 => ?_)
  have ex_20 := ex_20.trans (show _ = (-1 : Int32) by decide)
  subst ex_20
  refine lv_if_ne (tgt := 25) hx hb dX14_lines_18 (by decide) (fun _ => ?_) (fun h9 => absurd h9 (by decide))
  refine lv_iconst (v := 0) hx hb dX14_lines_25 (by decide) ?_
  refine lv_iadd hx hb dX14_lines_26 ?_
  refine lv_topi (fun x_21 ex_21 => ?_)
  have ex_21 := ex_21.trans (show _ = (0 : Int32) by decide)
  subst ex_21
  refine lv_istore_n (lv' := [(2, .int 0), (3, .int 6), (0, .long 0)]) hx hb dX14_lines_27 rfl hl (by decide) rfl (fun ls hl => ?_)
  refine lv_iinc (v := 7) (lv' := [(3, .int 7), (2, .int 0), (0, .long 0)]) hx hb dX14_lines_28 hl (k := 1) rfl (by decide) (by decide) rfl (fun ls hl => ?_)
  refine lv_goto (tgt := 4) hx hb dX14_lines_31 (by decide) ?_
  refine lv_iload_n hx hb dX14_lines_4 rfl (lv_at hl 0 rfl) ?_
  refine lv_bipush (v := 60) hx hb dX14_lines_5 (by decide) ?_
  refine lv_icmp_ge (tgt := 34) hx hb dX14_lines_7 (by decide) (fun h9 => absurd h9 (by decide)) (fun _ => ?_)
  refine lv_iload_n hx hb dX14_lines_10 rfl (lv_at hl 1 rfl) ?_
  refine lv_lload_n hx hb dX14_lines_11 rfl (lv_at hl 2 rfl) ?_
  refine lv_iload_n hx hb dX14_lines_12 rfl (lv_at hl 0 rfl) ?_
  refine lv_lshr (v := 0) hx hb dX14_lines_13 (by decide) ?_
  refine lv_lconst (v := 1) hx hb dX14_lines_14 (by decide) ?_
  refine lv_land hx hb dX14_lines_15 ?_
  refine lv_topl (fun x_22 ex_22 => ?_)
  have ex_22 := ex_22.trans (show _ = (0 : Int64) by decide)
  subst ex_22
  refine lv_lconst (v := 1) hx hb dX14_lines_16 (by decide) ?_
  refine W.lcmp hx hb dX14_lines_17 ?_
  refine lv_topi (fun x_23 ex_23 => ?_)
  have ex_23 := ex_23.trans (show _ = (-1 : Int32) by decide)
  subst ex_23
  refine lv_if_ne (tgt := 25) hx hb dX14_lines_18 (by decide) (fun _ => ?_) (fun h9 => absurd h9 (by decide))
  refine lv_iconst (v := 0) hx hb dX14_lines_25 (by decide) ?_
  refine lv_iadd hx hb dX14_lines_26 ?_
  refine lv_topi (fun x_24 ex_24 => ?_)
  have ex_24 := ex_24.trans (show _ = (0 : Int32) by decide)
  subst ex_24
  refine lv_istore_n (lv' := [(2, .int 0), (3, .int 7), (0, .long 0)]) hx hb dX14_lines_27 rfl hl (by decide) rfl (fun ls hl => ?_)
  refine lv_iinc (v := 8) (lv' := [(3, .int 8), (2, .int 0), (0, .long 0)]) hx hb dX14_lines_28 hl (k := 1) rfl (by decide) (by decide) rfl (fun ls hl => ?_)
  refine lv_goto (tgt := 4) hx hb dX14_lines_31 (by decide) ?_
  refine lv_iload_n hx hb dX14_lines_4 rfl (lv_at hl 0 rfl) ?_
  refine lv_bipush (v := 60) hx hb dX14_lines_5 (by decide) ?_
  refine lv_icmp_ge (tgt := 34) hx hb dX14_lines_7 (by decide) (fun h9 => absurd h9 (by decide)) (fun _ => ?_)
  refine lv_iload_n hx hb dX14_lines_10 rfl (lv_at hl 1 rfl) ?_
  refine lv_lload_n hx hb dX14_lines_11 rfl (lv_at hl 2 rfl) ?_
  refine lv_iload_n hx hb dX14_lines_12 rfl (lv_at hl 0 rfl) ?_
  refine lv_lshr (v := 0) hx hb dX14_lines_13 (by decide) ?_
  refine lv_lconst (v := 1) hx hb dX14_lines_14 (by decide) ?_
  refine lv_land hx hb dX14_lines_15 ?_
  refine lv_topl (fun x_25 ex_25 => ?_)
  have ex_25 := ex_25.trans (show _ = (0 : Int64) by decide)
  subst ex_25
  refine lv_lconst (v := 1) hx hb dX14_lines_16 (by decide) ?_
  refine W.lcmp hx hb dX14_lines_17 ?_
  refine lv_topi (fun x_26 ex_26 => ?_)
  have ex_26 := ex_26.trans (show _ = (-1 : Int32) by decide)
  subst ex_26
  refine lv_if_ne (tgt := 25) hx hb dX14_lines_18 (by decide) (fun _ => ?_) (fun h9 => absurd h9 (by decide))
  refine lv_iconst (v := 0) hx hb dX14_lines_25 (by decide) ?_
  refine lv_iadd hx hb dX14_lines_26 ?_
  refine lv_topi (fun x_27 ex_27 => ?_)
  have ex_27 := ex_27.trans (show _ = (0 : Int32) by decide)
  subst ex_27
  refine lv_istore_n (lv' := [(2, .int 0), (3, .int 8), (0, .long 0)]) hx hb dX14_lines_27 rfl hl (by decide) rfl (fun ls hl => ?_)
  refine lv_iinc (v := 9) (lv' := [(3, .int 9), (2, .int 0), (0, .long 0)]) hx hb dX14_lines_28 hl (k := 1) rfl (by decide) (by decide) rfl (fun ls hl => ?_)
  refine lv_goto (tgt := 4) hx hb dX14_lines_31 (by decide) ?_
  refine lv_iload_n hx hb dX14_lines_4 rfl (lv_at hl 0 rfl) ?_
  refine lv_bipush (v := 60) hx hb dX14_lines_5 (by decide) ?_
  refine lv_icmp_ge (tgt := 34) hx hb dX14_lines_7 (by decide) (fun h9 => absurd h9 (by decide)) (fun _ => ?_)
  refine lv_iload_n hx hb dX14_lines_10 rfl (lv_at hl 1 rfl) ?_
  refine lv_lload_n hx hb dX14_lines_11 rfl (lv_at hl 2 rfl) ?_
  refine lv_iload_n hx hb dX14_lines_12 rfl (lv_at hl 0 rfl) ?_
  refine lv_lshr (v := 0) hx hb dX14_lines_13 (by decide) ?_
  refine lv_lconst (v := 1) hx hb dX14_lines_14 (by decide) ?_
  refine lv_land hx hb dX14_lines_15 ?_
  refine lv_topl (fun x_28 ex_28 => ?_)
  have ex_28 := ex_28.trans (show _ = (0 : Int64) by decide)
  subst ex_28
  refine lv_lconst (v := 1) hx hb dX14_lines_16 (by decide) ?_
  refine W.lcmp hx hb dX14_lines_17 ?_
  refine lv_topi (fun x_29 ex_29 => ?_)
  have ex_29 := ex_29.trans (show _ = (-1 : Int32) by decide)
  subst ex_29
  refine lv_if_ne (tgt := 25) hx hb dX14_lines_18 (by decide) (fun _ => ?_) (fun h9 => absurd h9 (by decide))
  refine lv_iconst (v := 0) hx hb dX14_lines_25 (by decide) ?_
  refine lv_iadd hx hb dX14_lines_26 ?_
  refine lv_topi (fun x_30 ex_30 => ?_)
  have ex_30 := ex_30.trans (show _ = (0 : Int32) by decide)
  subst ex_30
  refine lv_istore_n (lv' := [(2, .int 0), (3, .int 9), (0, .long 0)]) hx hb dX14_lines_27 rfl hl (by decide) rfl (fun ls hl => ?_)
  refine lv_iinc (v := 10) (lv' := [(3, .int 10), (2, .int 0), (0, .long 0)]) hx hb dX14_lines_28 hl (k := 1) rfl (by decide) (by decide) rfl (fun ls hl => ?_)
  refine lv_goto (tgt := 4) hx hb dX14_lines_31 (by decide) ?_
  refine lv_iload_n hx hb dX14_lines_4 rfl (lv_at hl 0 rfl) ?_
  refine lv_bipush (v := 60) hx hb dX14_lines_5 (by decide) ?_
  refine lv_icmp_ge (tgt := 34) hx hb dX14_lines_7 (by decide) (fun h9 => absurd h9 (by decide)) (fun _ => ?_)
  refine lv_iload_n hx hb dX14_lines_10 rfl (lv_at hl 1 rfl) ?_
  refine lv_lload_n hx hb dX14_lines_11 rfl (lv_at hl 2 rfl) ?_
  refine lv_iload_n hx hb dX14_lines_12 rfl (lv_at hl 0 rfl) ?_
  refine lv_lshr (v := 0) hx hb dX14_lines_13 (by decide) ?_
  refine lv_lconst (v := 1) hx hb dX14_lines_14 (by decide) ?_
  refine lv_land hx hb dX14_lines_15 ?_
  refine lv_topl (fun x_31 ex_31 => ?_)
  have ex_31 := ex_31.trans (show _ = (0 : Int64) by decide)
  subst ex_31
  refine lv_lconst (v := 1) hx hb dX14_lines_16 (by decide) ?_
  refine W.lcmp hx hb dX14_lines_17 ?_
  refine lv_topi (fun x_32 ex_32 => ?_)
  have ex_32 := ex_32.trans (show _ = (-1 : Int32) by decide)
  subst ex_32
  refine lv_if_ne (tgt := 25) hx hb dX14_lines_18 (by decide) (fun _ => ?_) (fun h9 => absurd h9 (by decide))
  refine lv_iconst (v := 0) hx hb dX14_lines_25 (by decide) ?_
  refine lv_iadd hx hb dX14_lines_26 ?_
  refine lv_topi (fun x_33 ex_33 => ?_)
  have ex_33 := ex_33.trans (show _ = (0 : Int32) by decide)
  subst ex_33
  refine lv_istore_n (lv' := [(2, .int 0), (3, .int 10), (0, .long 0)]) hx hb dX14_lines_27 rfl hl (by decide) rfl (fun ls hl => ?_)
  refine lv_iinc (v := 11) (lv' := [(3, .int 11), (2, .int 0), (0, .long 0)]) hx hb dX14_lines_28 hl (k := 1) rfl (by decide) (by decide) rfl (fun ls hl => ?_)
  refine lv_goto (tgt := 4) hx hb dX14_lines_31 (by decide) ?_
  refine lv_iload_n hx hb dX14_lines_4 rfl (lv_at hl 0 rfl) ?_
  refine lv_bipush (v := 60) hx hb dX14_lines_5 (by decide) ?_
  refine lv_icmp_ge (tgt := 34) hx hb dX14_lines_7 (by decide) (fun h9 => absurd h9 (by decide)) (fun _ => ?_)
  refine lv_iload_n hx hb dX14_lines_10 rfl (lv_at hl 1 rfl) ?_
  refine lv_lload_n hx hb dX14_lines_11 rfl (lv_at hl 2 rfl) ?_
  refine lv_iload_n hx hb dX14_lines_12 rfl (lv_at hl 0 rfl) ?_
  refine lv_lshr (v := 0) hx hb dX14_lines_13 (by decide) ?_
  refine lv_lconst (v := 1) hx hb dX14_lines_14 (by decide) ?_
  refine lv_land hx hb dX14_lines_15 ?_
  refine lv_topl (fun x_34 ex_34 => ?_)
  have ex_34 := ex_34.trans (show _ = (0 : Int64) by decide)
  subst ex_34
  refine lv_lconst (v := 1) hx hb dX14_lines_16 (by decide) ?_
  refine W.lcmp hx hb dX14_lines_17 ?_
  refine lv_topi (fun x_35 ex_35 => ?_)
  have ex_35 := ex_35.trans (show _ = (-1 : Int32) by decide)
  subst ex_35
  refine lv_if_ne (tgt := 25) hx hb dX14_lines_18 (by decide) (fun _ => ?_) (fun h9 => absurd h9 (by decide))
  refine lv_iconst (v := 0) hx hb dX14_lines_25 (by decide) ?_
  refine lv_iadd hx hb dX14_lines_26 ?_
  refine lv_topi (fun x_36 ex_36 => ?_)
  have ex_36 := ex_36.trans (show _ = (0 : Int32) by decide)
  subst ex_36
  refine lv_istore_n (lv' := [(2, .int 0), (3, .int 11), (0, .long 0)]) hx hb dX14_lines_27 rfl hl (by decide) rfl (fun ls hl => ?_)
  refine lv_iinc (v := 12) (lv' := [(3, .int 12), (2, .int 0), (0, .long 0)]) hx hb dX14_lines_28 hl (k := 1) rfl (by decide) (by decide) rfl (fun ls hl => ?_)
  refine lv_goto (tgt := 4) hx hb dX14_lines_31 (by decide) ?_
  refine lv_iload_n hx hb dX14_lines_4 rfl (lv_at hl 0 rfl) ?_
  refine lv_bipush (v := 60) hx hb dX14_lines_5 (by decide) ?_
  refine lv_icmp_ge (tgt := 34) hx hb dX14_lines_7 (by decide) (fun h9 => absurd h9 (by decide)) (fun _ => ?_)
  refine lv_iload_n hx hb dX14_lines_10 rfl (lv_at hl 1 rfl) ?_
  refine lv_lload_n hx hb dX14_lines_11 rfl (lv_at hl 2 rfl) ?_
  refine lv_iload_n hx hb dX14_lines_12 rfl (lv_at hl 0 rfl) ?_
  refine lv_lshr (v := 0) hx hb dX14_lines_13 (by decide) ?_
  refine lv_lconst (v := 1) hx hb dX14_lines_14 (by decide) ?_
  refine lv_land hx hb dX14_lines_15 ?_
  refine lv_topl (fun x_37 ex_37 => ?_)
  have ex_37 := ex_37.trans (show _ = (0 : Int64) by decide)
  subst ex_37
  refine lv_lconst (v := 1) hx hb dX14_lines_16 (by decide) ?_
  refine W.lcmp hx hb dX14_lines_17 ?_
  refine lv_topi (fun x_38 ex_38 => ?_)
  have ex_38 := ex_38.trans (show _ = (-1 : Int32) by decide)
  subst ex_38
  refine lv_if_ne (tgt := 25) hx hb dX14_lines_18 (by decide) (fun _ => ?_) (fun h9 => absurd h9 (by decide))
  refine lv_iconst (v := 0) hx hb dX14_lines_25 (by decide) ?_
  refine lv_iadd hx hb dX14_lines_26 ?_
  refine lv_topi (fun x_39 ex_39 => ?_)
  have ex_39 := ex_39.trans (show _ = (0 : Int32) by decide)
  subst ex_39
  refine lv_istore_n (lv' := [(2, .int 0), (3, .int 12), (0, .long 0)]) hx hb dX14_lines_27 rfl hl (by decide) rfl (fun ls hl => ?_)
  refine lv_iinc (v := 13) (lv' := [(3, .int 13), (2, .int 0), (0, .long 0)]) hx hb dX14_lines_28 hl (k := 1) rfl (by decide) (by decide) rfl (fun ls hl => ?_)
  refine lv_goto (tgt := 4) hx hb dX14_lines_31 (by decide) ?_
  refine lv_iload_n hx hb dX14_lines_4 rfl (lv_at hl 0 rfl) ?_
  refine lv_bipush (v := 60) hx hb dX14_lines_5 (by decide) ?_
  refine lv_icmp_ge (tgt := 34) hx hb dX14_lines_7 (by decide) (fun h9 => absurd h9 (by decide)) (fun _ => ?_)
  refine lv_iload_n hx hb dX14_lines_10 rfl (lv_at hl 1 rfl) ?_
  refine lv_lload_n hx hb dX14_lines_11 rfl (lv_at hl 2 rfl) ?_
  refine lv_iload_n hx hb dX14_lines_12 rfl (lv_at hl 0 rfl) ?_
  refine lv_lshr (v := 0) hx hb dX14_lines_13 (by decide) ?_
  refine lv_lconst (v := 1) hx hb dX14_lines_14 (by decide) ?_
  refine lv_land hx hb dX14_lines_15 ?_
  refine lv_topl (fun x_40 ex_40 => ?_)
  have ex_40 := ex_40.trans (show _ = (0 : Int64) by decide)
  subst ex_40
  refine lv_lconst (v := 1) hx hb dX14_lines_16 (by decide) ?_
  refine W.lcmp hx hb dX14_lines_17 ?_
  refine lv_topi (fun x_41 ex_41 => ?_)
  have ex_41 := ex_41.trans (show _ = (-1 : Int32) by decide)
  subst ex_41
  refine lv_if_ne (tgt := 25) hx hb dX14_lines_18 (by decide) (fun _ => ?_) (fun h9 => absurd h9 (by decide))
  refine lv_iconst (v := 0) hx hb dX14_lines_25 (by decide) ?_
  refine lv_iadd hx hb dX14_lines_26 ?_
  refine lv_topi (fun x_42 ex_42 => ?_)
  have ex_42 := ex_42.trans (show _ = (0 : Int32) by decide)
  subst ex_42
  refine lv_istore_n (lv' := [(2, .int 0), (3, .int 13), (0, .long 0)]) hx hb dX14_lines_27 rfl hl (by decide) rfl (fun ls hl => ?_)
  refine lv_iinc (v := 14) (lv' := [(3, .int 14), (2, .int 0), (0, .long 0)]) hx hb dX14_lines_28 hl (k := 1) rfl (by decide) (by decide) rfl (fun ls hl => ?_)
  refine lv_goto (tgt := 4) hx hb dX14_lines_31 (by decide) ?_
  refine lv_iload_n hx hb dX14_lines_4 rfl (lv_at hl 0 rfl) ?_
  refine lv_bipush (v := 60) hx hb dX14_lines_5 (by decide) ?_
  refine lv_icmp_ge (tgt := 34) hx hb dX14_lines_7 (by decide) (fun h9 => absurd h9 (by decide)) (fun _ => ?_)
  refine lv_iload_n hx hb dX14_lines_10 rfl (lv_at hl 1 rfl) ?_
  refine lv_lload_n hx hb dX14_lines_11 rfl (lv_at hl 2 rfl) ?_
  refine lv_iload_n hx hb dX14_lines_12 rfl (lv_at hl 0 rfl) ?_
  refine lv_lshr (v := 0) hx hb dX14_lines_13 (by decide) ?_
  refine lv_lconst (v := 1) hx hb dX14_lines_14 (by decide) ?_
  refine lv_land hx hb dX14_lines_15 ?_
  refine lv_topl (fun x_43 ex_43 => ?_)
  have ex_43 := ex_43.trans (show _ = (0 : Int64) by decide)
  subst ex_43
  refine lv_lconst (v := 1) hx hb dX14_lines_16 (by decide) ?_
  refine W.lcmp hx hb dX14_lines_17 ?_
  refine lv_topi (fun x_44 ex_44 => ?_)
  have ex_44 := ex_44.trans (show _ = (-1 : Int32) by decide)
  subst ex_44
  refine lv_if_ne (tgt := 25) hx hb dX14_lines_18 (by decide) (fun _ => ?_) (fun h9 => absurd h9 (by decide))
  refine lv_iconst (v := 0) hx hb dX14_lines_25 (by decide) ?_
  refine lv_iadd hx hb dX14_lines_26 ?_
  refine lv_topi (fun x_45 ex_45 => ?_)
  have ex_45 := ex_45.trans (show _ = (0 : Int32) by decide)
  subst ex_45
  refine lv_istore_n (lv' := [(2, .int 0), (3, .int 14), (0, .long 0)]) hx hb dX14_lines_27 rfl hl (by decide) rfl (fun ls hl => ?_)
  refine lv_iinc (v := 15) (lv' := [(3, .int 15), (2, .int 0), (0, .long 0)]) hx hb dX14_lines_28 hl (k := 1) rfl (by decide) (by decide) rfl (fun ls hl => ?_)
  refine lv_goto (tgt := 4) hx hb dX14_lines_31 (by decide) ?_
  refine lv_iload_n hx hb dX14_lines_4 rfl (lv_at hl 0 rfl) ?_
  refine lv_bipush (v := 60) hx hb dX14_lines_5 (by decide) ?_
  refine lv_icmp_ge (tgt := 34) hx hb dX14_lines_7 (by decide) (fun h9 => absurd h9 (by decide)) (fun _ => ?_)
  refine lv_iload_n hx hb dX14_lines_10 rfl (lv_at hl 1 rfl) ?_
  refine lv_lload_n hx hb dX14_lines_11 rfl (lv_at hl 2 rfl) ?_
  refine lv_iload_n hx hb dX14_lines_12 rfl (lv_at hl 0 rfl) ?_
  refine lv_lshr (v := 0) hx hb dX14_lines_13 (by decide) ?_
  refine lv_lconst (v := 1) hx hb dX14_lines_14 (by decide) ?_
  refine lv_land hx hb dX14_lines_15 ?_
  refine lv_topl (fun x_46 ex_46 => ?_)
  have ex_46 := ex_46.trans (show _ = (0 : Int64) by decide)
  subst ex_46
  refine lv_lconst (v := 1) hx hb dX14_lines_16 (by decide) ?_
  refine W.lcmp hx hb dX14_lines_17 ?_
  refine lv_topi (fun x_47 ex_47 => ?_)
  have ex_47 := ex_47.trans (show _ = (-1 : Int32) by decide)
  subst ex_47
  refine lv_if_ne (tgt := 25) hx hb dX14_lines_18 (by decide) (fun _ => ?_) (fun h9 => absurd h9 (by decide))
  refine lv_iconst (v := 0) hx hb dX14_lines_25 (by decide) ?_
  refine lv_iadd hx hb dX14_lines_26 ?_
  refine lv_topi (fun x_48 ex_48 => ?_)
  have ex_48 := ex_48.trans (show _ = (0 : Int32) by decide)
  subst ex_48
  refine lv_istore_n (lv' := [(2, .int 0), (3, .int 15), (0, .long 0)]) hx hb dX14_lines_27 rfl hl (by decide) rfl (fun ls hl => ?_)
  refine lv_iinc (v := 16) (lv' := [(3, .int 16), (2, .int 0), (0, .long 0)]) hx hb dX14_lines_28 hl (k := 1) rfl (by decide) (by decide) rfl (fun ls hl => ?_)
  refine lv_goto (tgt := 4) hx hb dX14_lines_31 (by decide) ?_
  refine lv_iload_n hx hb dX14_lines_4 rfl (lv_at hl 0 rfl) ?_
  refine lv_bipush (v := 60) hx hb dX14_lines_5 (by decide) ?_
  refine lv_icmp_ge (tgt := 34) hx hb dX14_lines_7 (by decide) (fun h9 => absurd h9 (by decide)) (fun _ => ?_)
  refine lv_iload_n hx hb dX14_lines_10 rfl (lv_at hl 1 rfl) ?_
  refine lv_lload_n hx hb dX14_lines_11 rfl (lv_at hl 2 rfl) ?_
  refine lv_iload_n hx hb dX14_lines_12 rfl (lv_at hl 0 rfl) ?_
  refine lv_lshr (v := 0) hx hb dX14_lines_13 (by decide) ?_
  refine lv_lconst (v := 1) hx hb dX14_lines_14 (by decide) ?_
  refine lv_land hx hb dX14_lines_15 ?_
  refine lv_topl (fun x_49 ex_49 => ?_)
  have ex_49 := ex_49.trans (show _ = (0 : Int64) by decide)
  subst ex_49
  refine lv_lconst (v := 1) hx hb dX14_lines_16 (by decide) ?_
  refine W.lcmp hx hb dX14_lines_17 ?_
  refine lv_topi (fun x_50 ex_50 => ?_)
  have ex_50 := ex_50.trans (show _ = (-1 : Int32) by decide)
  subst ex_50
  refine lv_if_ne (tgt := 25) hx hb dX14_lines_18 (by decide) (fun _ => ?_) (fun h9 => absurd h9 (by decide))
  refine lv_iconst (v := 0) hx hb dX14_lines_25 (by decide) ?_
  refine lv_iadd hx hb dX14_lines_26 ?_
  refine lv_topi (fun x_51 ex_51 => ?_)
  have ex_51 := ex_51.trans (show _ = (0 : Int32) by decide)
  subst ex_51
  refine lv_istore_n (lv' := [(2, .int 0), (3, .int 16), (0, .long 0)]) hx hb dX14_lines_27 rfl hl (by decide) rfl (fun ls hl => ?_)
  refine lv_iinc (v := 17) (lv' := [(3, .int 17), (2, .int 0), (0, .long 0)]) hx hb dX14_lines_28 hl (k := 1) rfl (by decide) (by decide) rfl (fun ls hl => ?_)
  refine lv_goto (tgt := 4) hx hb dX14_lines_31 (by decide) ?_
  refine lv_iload_n hx hb dX14_lines_4 rfl (lv_at hl 0 rfl) ?_
  refine lv_bipush (v := 60) hx hb dX14_lines_5 (by decide) ?_
  refine lv_icmp_ge (tgt := 34) hx hb dX14_lines_7 (by decide) (fun h9 => absurd h9 (by decide)) (fun _ => ?_)
  refine lv_iload_n hx hb dX14_lines_10 rfl (lv_at hl 1 rfl) ?_
  refine lv_lload_n hx hb dX14_lines_11 rfl (lv_at hl 2 rfl) ?_
  refine lv_iload_n hx hb dX14_lines_12 rfl (lv_at hl 0 rfl) ?_
  refine lv_lshr (v := 0) hx hb dX14_lines_13 (by decide) ?_
  refine lv_lconst (v := 1) hx hb dX14_lines_14 (by decide) ?_
  refine lv_land hx hb dX14_lines_15 ?_
  refine lv_topl (fun x_52 ex_52 => ?_)
  have ex_52 := ex_52.trans (show _ = (0 : Int64) by decide)
  subst ex_52
  refine lv_lconst (v := 1) hx hb dX14_lines_16 (by decide) ?_
  refine W.lcmp hx hb dX14_lines_17 ?_
  refine lv_topi (fun x_53 ex_53 => ?_)
  have ex_53 := ex_53.trans (show _ = (-1 : Int32) by decide)
  subst ex_53
  refine lv_if_ne (tgt := 25) hx hb dX14_lines_18 (by decide) (fun _ => ?_) (fun h9 => absurd h9 (by decide))
  refine lv_iconst (v := 0) hx hb dX14_lines_25 (by decide) ?_
  refine lv_iadd hx hb dX14_lines_26 ?_
  refine lv_topi (fun x_54 ex_54 => ?_)
  have ex_54 := ex_54.trans (show _ = (0 : Int32) by decide)
  subst ex_54
  refine lv_istore_n (lv' := [(2, .int 0), (3, .int 17), (0, .long 0)]) hx hb dX14_lines_27 rfl hl (by decide) rfl (fun ls hl => ?_)
  refine lv_iinc (v := 18) (lv' := [(3, .int 18), (2, .int 0), (0, .long 0)]) hx hb dX14_lines_28 hl (k := 1) rfl (by decide) (by decide) rfl (fun ls hl => ?_)
  refine lv_goto (tgt := 4) hx hb dX14_lines_31 (by decide) ?_
  refine lv_iload_n hx hb dX14_lines_4 rfl (lv_at hl 0 rfl) ?_
  refine lv_bipush (v := 60) hx hb dX14_lines_5 (by decide) ?_
  refine lv_icmp_ge (tgt := 34) hx hb dX14_lines_7 (by decide) (fun h9 => absurd h9 (by decide)) (fun _ => ?_)
  refine lv_iload_n hx hb dX14_lines_10 rfl (lv_at hl 1 rfl) ?_
  refine lv_lload_n hx hb dX14_lines_11 rfl (lv_at hl 2 rfl) ?_
  refine lv_iload_n hx hb dX14_lines_12 rfl (lv_at hl 0 rfl) ?_
  refine lv_lshr (v := 0) hx hb dX14_lines_13 (by decide) ?_
  refine lv_lconst (v := 1) hx hb dX14_lines_14 (by decide) ?_
  refine lv_land hx hb dX14_lines_15 ?_
  refine lv_topl (fun x_55 ex_55 => ?_)
  have ex_55 := ex_55.trans (show _ = (0 : Int64) by decide)
  subst ex_55
  refine lv_lconst (v := 1) hx hb dX14_lines_16 (by decide) ?_
  refine W.lcmp hx hb dX14_lines_17 ?_
  refine lv_topi (fun x_56 ex_56 => ?_)
  have ex_56 := ex_56.trans (show _ = (-1 : Int32) by decide)
  subst ex_56
  refine lv_if_ne (tgt := 25) hx hb dX14_lines_18 (by decide) (fun _ => ?_) (fun h9 => absurd h9 (by decide))
  refine lv_iconst (v := 0) hx hb dX14_lines_25 (by decide) ?_
  refine lv_iadd hx hb dX14_lines_26 ?_
  refine lv_topi (fun x_57 ex_57 => ?_)
  have ex_57 := ex_57.trans (show _ = (0 : Int32) by decide)
  subst ex_57
  refine lv_istore_n (lv' := [(2, .int 0), (3, .int 18), (0, .long 0)]) hx hb dX14_lines_27 rfl hl (by decide) rfl (fun ls hl => ?_)
  refine lv_iinc (v := 19) (lv' := [(3, .int 19), (2, .int 0), (0, .long 0)]) hx hb dX14_lines_28 hl (k := 1) rfl (by decide) (by decide) rfl (fun ls hl => ?_)
  refine lv_goto (tgt := 4) hx hb dX14_lines_31 (by decide) ?_
  refine lv_iload_n hx hb dX14_lines_4 rfl (lv_at hl 0 rfl) ?_
  refine lv_bipush (v := 60) hx hb dX14_lines_5 (by decide) ?_
  refine lv_icmp_ge (tgt := 34) hx hb dX14_lines_7 (by decide) (fun h9 => absurd h9 (by decide)) (fun _ => ?_)
  refine lv_iload_n hx hb dX14_lines_10 rfl (lv_at hl 1 rfl) ?_
  refine lv_lload_n hx hb dX14_lines_11 rfl (lv_at hl 2 rfl) ?_
  refine lv_iload_n hx hb dX14_lines_12 rfl (lv_at hl 0 rfl) ?_
  refine lv_lshr (v := 0) hx hb dX14_lines_13 (by decide) ?_
  refine lv_lconst (v := 1) hx hb dX14_lines_14 (by decide) ?_
  refine lv_land hx hb dX14_lines_15 ?_
  refine lv_topl (fun x_58 ex_58 => ?_)
  have ex_58 := ex_58.trans (show _ = (0 : Int64) by decide)
  subst ex_58
  refine lv_lconst (v := 1) hx hb dX14_lines_16 (by decide) ?_
  refine W.lcmp hx hb dX14_lines_17 ?_
  refine lv_topi (fun x_59 ex_59 => ?_)
  have ex_59 := ex_59.trans (show _ = (-1 : Int32) by decide)
  subst ex_59
  refine lv_if_ne (tgt := 25) hx hb dX14_lines_18 (by decide) (fun _ => ?_) (fun h9 => absurd h9 (by decide))
  refine lv_iconst (v := 0) hx hb dX14_lines_25 (by decide) ?_
  refine lv_iadd hx hb dX14_lines_26 ?_
  refine lv_topi (fun x_60 ex_60 => ?_)
  have ex_60 := ex_60.trans (show _ = (0 : Int32) by decide)
  subst ex_60
  refine lv_istore_n (lv' := [(2, .int 0), (3, .int 19), (0, .long 0)]) hx hb dX14_lines_27 rfl hl (by decide) rfl (fun ls hl => ?_)
  refine lv_iinc (v := 20) (lv' := [(3, .int 20), (2, .int 0), (0, .long 0)]) hx hb dX14_lines_28 hl (k := 1) rfl (by decide) (by decide) rfl (fun ls hl => ?_)
  refine lv_goto (tgt := 4) hx hb dX14_lines_31 (by decide) ?_
  refine lv_iload_n hx hb dX14_lines_4 rfl (lv_at hl 0 rfl) ?_
  refine lv_bipush (v := 60) hx hb dX14_lines_5 (by decide) ?_
  refine lv_icmp_ge (tgt := 34) hx hb dX14_lines_7 (by decide) (fun h9 => absurd h9 (by decide)) (fun _ => ?_)
  refine lv_iload_n hx hb dX14_lines_10 rfl (lv_at hl 1 rfl) ?_
  refine lv_lload_n hx hb dX14_lines_11 rfl (lv_at hl 2 rfl) ?_
  refine lv_iload_n hx hb dX14_lines_12 rfl (lv_at hl 0 rfl) ?_
  refine lv_lshr (v := 0) hx hb dX14_lines_13 (by decide) ?_
  refine lv_lconst (v := 1) hx hb dX14_lines_14 (by decide) ?_
  refine lv_land hx hb dX14_lines_15 ?_
  refine lv_topl (fun x_61 ex_61 => ?_)
  have ex_61 := ex_61.trans (show _ = (0 : Int64) by decide)
  subst ex_61
  refine lv_lconst (v := 1) hx hb dX14_lines_16 (by decide) ?_
  refine W.lcmp hx hb dX14_lines_17 ?_
  refine lv_topi (fun x_62 ex_62 => ?_)
  have ex_62 := ex_62.trans (show _ = (-1 : Int32) by decide)
  subst ex_62
  refine lv_if_ne (tgt := 25) hx hb dX14_lines_18 (by decide) (fun _ => ?_) (fun h9 => absurd h9 (by decide))
  refine lv_iconst (v := 0) hx hb dX14_lines_25 (by decide) ?_
  refine lv_iadd hx hb dX14_lines_26 ?_
  refine lv_topi (fun x_63 ex_63 => ?_)
  have ex_63 := ex_63.trans (show _ = (0 : Int32) by decide)
  subst ex_63
  refine lv_istore_n (lv' := [(2, .int 0), (3, .int 20), (0, .long 0)]) hx hb dX14_lines_27 rfl hl (by decide) rfl (fun ls hl => ?_)
  refine lv_iinc (v := 21) (lv' := [(3, .int 21), (2, .int 0), (0, .long 0)]) hx hb dX14_lines_28 hl (k := 1) rfl (by decide) (by decide) rfl (fun ls hl => ?_)
  refine lv_goto (tgt := 4) hx hb dX14_lines_31 (by decide) ?_
  refine lv_iload_n hx hb dX14_lines_4 rfl (lv_at hl 0 rfl) ?_
  refine lv_bipush (v := 60) hx hb dX14_lines_5 (by decide) ?_
  refine lv_icmp_ge (tgt := 34) hx hb dX14_lines_7 (by decide) (fun h9 => absurd h9 (by decide)) (fun _ => ?_)
  refine lv_iload_n hx hb dX14_lines_10 rfl (lv_at hl 1 rfl) ?_
  refine lv_lload_n hx hb dX14_lines_11 rfl (lv_at hl 2 rfl) ?_
  refine lv_iload_n hx hb dX14_lines_12 rfl (lv_at hl 0 rfl) ?_
  refine lv_lshr (v := 0) hx hb dX14_lines_13 (by decide) ?_
  refine lv_lconst (v := 1) hx hb dX14_lines_14 (by decide) ?_
  refine lv_land hx hb dX14_lines_15 ?_
  refine lv_topl (fun x_64 ex_64 => ?_)
  have ex_64 := ex_64.trans (show _ = (0 : Int64) by decide)
  subst ex_64
  refine lv_lconst (v := 1) hx hb dX14_lines_16 (by decide) ?_
  refine W.lcmp hx hb dX14_lines_17 ?_
  refine lv_topi (fun x_65 ex_65 => ?_)
  have ex_65 := ex_65.trans (show _ = (-1 : Int32) by decide)
  subst ex_65
  refine lv_if_ne (tgt := 25) hx hb dX14_lines_18 (by decide) (fun _ => ?_) (fun h9 => absurd h9 (by decide))
  refine lv_iconst (v := 0) hx hb dX14_lines_25 (by decide) ?_
  refine lv_iadd hx hb dX14_lines_26 ?_
  refine lv_topi (fun x_66 ex_66 => ?_)
  have ex_66 := ex_66.trans (show _ = (0 : Int32) by decide)
  subst ex_66
  refine lv_istore_n (lv' := [(2, .int 0), (3, .int 21), (0, .long 0)]) hx hb dX14_lines_27 rfl hl (by decide) rfl (fun ls hl => ?_)
  refine lv_iinc (v := 22) (lv' := [(3, .int 22), (2, .int 0), (0, .long 0)]) hx hb dX14_lines_28 hl (k := 1) rfl (by decide) (by decide) rfl (fun ls hl => ?_)
  refine lv_goto (tgt := 4) hx hb dX14_lines_31 (by decide) ?_
  refine lv_iload_n hx hb dX14_lines_4 rfl (lv_at hl 0 rfl) ?_
  refine lv_bipush (v := 60) hx hb dX14_lines_5 (by decide) ?_
  refine lv_icmp_ge (tgt := 34) hx hb dX14_lines_7 (by decide) (fun h9 => absurd h9 (by decide)) (fun _ => ?_)
  refine lv_iload_n hx hb dX14_lines_10 rfl (lv_at hl 1 rfl) ?_
  refine lv_lload_n hx hb dX14_lines_11 rfl (lv_at hl 2 rfl) ?_
  refine lv_iload_n hx hb dX14_lines_12 rfl (lv_at hl 0 rfl) ?_
  refine lv_lshr (v := 0) hx hb dX14_lines_13 (by decide) ?_
  refine lv_lconst (v := 1) hx hb dX14_lines_14 (by decide) ?_
  refine lv_land hx hb dX14_lines_15 ?_
  refine lv_topl (fun x_67 ex_67 => ?_)
  have ex_67 := ex_67.trans (show _ = (0 : Int64) by decide)
  subst ex_67
  refine lv_lconst (v := 1) hx hb dX14_lines_16 (by decide) ?_
  refine W.lcmp hx hb dX14_lines_17 ?_
  refine lv_topi (fun x_68 ex_68 => ?_)
  have ex_68 := ex_68.trans (show _ = (-1 : Int32) by decide)
  subst ex_68
  refine lv_if_ne (tgt := 25) hx hb dX14_lines_18 (by decide) (fun _ => ?_) (fun h9 => absurd h9 (by decide))
  refine lv_iconst (v := 0) hx hb dX14_lines_25 (by decide) ?_
  refine lv_iadd hx hb dX14_lines_26 ?_
  refine lv_topi (fun x_69 ex_69 => ?_)
  have ex_69 := ex_69.trans (show _ = (0 : Int32) by decide)
  subst ex_69
  refine lv_istore_n (lv' := [(2, .int 0), (3, .int 22), (0, .long 0)]) hx hb dX14_lines_27 rfl hl (by decide) rfl (fun ls hl => ?_)
  refine lv_iinc (v := 23) (lv' := [(3, .int 23), (2, .int 0), (0, .long 0)]) hx hb dX14_lines_28 hl (k := 1) rfl (by decide) (by decide) rfl (fun ls hl => ?_)
  refine lv_goto (tgt := 4) hx hb dX14_lines_31 (by decide) ?_
  refine lv_iload_n hx hb dX14_lines_4 rfl (lv_at hl 0 rfl) ?_
  refine lv_bipush (v := 60) hx hb dX14_lines_5 (by decide) ?_
  refine lv_icmp_ge (tgt := 34) hx hb dX14_lines_7 (by decide) (fun h9 => absurd h9 (by decide)) (fun _ => ?_)
  refine lv_iload_n hx hb dX14_lines_10 rfl (lv_at hl 1 rfl) ?_
  refine lv_lload_n hx hb dX14_lines_11 rfl (lv_at hl 2 rfl) ?_
  refine lv_iload_n hx hb dX14_lines_12 rfl (lv_at hl 0 rfl) ?_
  refine lv_lshr (v := 0) hx hb dX14_lines_13 (by decide) ?_
  refine lv_lconst (v := 1) hx hb dX14_lines_14 (by decide) ?_
  refine lv_land hx hb dX14_lines_15 ?_
  refine lv_topl (fun x_70 ex_70 => ?_)
  have ex_70 := ex_70.trans (show _ = (0 : Int64) by decide)
  subst ex_70
  refine lv_lconst (v := 1) hx hb dX14_lines_16 (by decide) ?_
  refine W.lcmp hx hb dX14_lines_17 ?_
  refine lv_topi (fun x_71 ex_71 => ?_)
  have ex_71 := ex_71.trans (show _ = (-1 : Int32) by decide)
  subst ex_71
  refine lv_if_ne (tgt := 25) hx hb dX14_lines_18 (by decide) (fun _ => ?_) (fun h9 => absurd h9 (by decide))
  refine lv_iconst (v := 0) hx hb dX14_lines_25 (by decide) ?_
  refine lv_iadd hx hb dX14_lines_26 ?_
  refine lv_topi (fun x_72 ex_72 => ?_)
  have ex_72 := ex_72.trans (show _ = (0 : Int32) by decide)
  subst ex_72
  refine lv_istore_n (lv' := [(2, .int 0), (3, .int 23), (0, .long 0)]) hx hb dX14_lines_27 rfl hl (by decide) rfl (fun ls hl => ?_)
  refine lv_iinc (v := 24) (lv' := [(3, .int 24), (2, .int 0), (0, .long 0)]) hx hb dX14_lines_28 hl (k := 1) rfl (by decide) (by decide) rfl (fun ls hl => ?_)
  refine lv_goto (tgt := 4) hx hb dX14_lines_31 (by decide) ?_
  refine lv_iload_n hx hb dX14_lines_4 rfl (lv_at hl 0 rfl) ?_
  refine lv_bipush (v := 60) hx hb dX14_lines_5 (by decide) ?_
  refine lv_icmp_ge (tgt := 34) hx hb dX14_lines_7 (by decide) (fun h9 => absurd h9 (by decide)) (fun _ => ?_)
  refine lv_iload_n hx hb dX14_lines_10 rfl (lv_at hl 1 rfl) ?_
  refine lv_lload_n hx hb dX14_lines_11 rfl (lv_at hl 2 rfl) ?_
  refine lv_iload_n hx hb dX14_lines_12 rfl (lv_at hl 0 rfl) ?_
  refine lv_lshr (v := 0) hx hb dX14_lines_13 (by decide) ?_
  refine lv_lconst (v := 1) hx hb dX14_lines_14 (by decide) ?_
  refine lv_land hx hb dX14_lines_15 ?_
  refine lv_topl (fun x_73 ex_73 => ?_)
  have ex_73 := ex_73.trans (show _ = (0 : Int64) by decide)
  subst ex_73
  refine lv_lconst (v := 1) hx hb dX14_lines_16 (by decide) ?_
  refine W.lcmp hx hb dX14_lines_17 ?_
  refine lv_topi (fun x_74 ex_74 => ?_)
  have ex_74 := ex_74.trans (show _ = (-1 : Int32) by decide)
  subst ex_74
  refine lv_if_ne (tgt := 25) hx hb dX14_lines_18 (by decide) (fun _ => ?_) (fun h9 => absurd h9 (by decide))
  refine lv_iconst (v := 0) hx hb dX14_lines_25 (by decide) ?_
  refine lv_iadd hx hb dX14_lines_26 ?_
  refine lv_topi (fun x_75 ex_75 => ?_)
  have ex_75 := ex_75.trans (show _ = (0 : Int32) by decide)
  subst ex_75
  refine lv_istore_n (lv' := [(2, .int 0), (3, .int 24), (0, .long 0)]) hx hb dX14_lines_27 rfl hl (by decide) rfl (fun ls hl => ?_)
  refine lv_iinc (v := 25) (lv' := [(3, .int 25), (2, .int 0), (0, .long 0)]) hx hb dX14_lines_28 hl (k := 1) rfl (by decide) (by decide) rfl (fun ls hl => ?_)
  refine lv_goto (tgt := 4) hx hb dX14_lines_31 (by decide) ?_
  refine lv_iload_n hx hb dX14_lines_4 rfl (lv_at hl 0 rfl) ?_
  refine lv_bipush (v := 60) hx hb dX14_lines_5 (by decide) ?_
  refine lv_icmp_ge (tgt := 34) hx hb dX14_lines_7 (by decide) (fun h9 => absurd h9 (by decide)) (fun _ => ?_)
  refine lv_iload_n hx hb dX14_lines_10 rfl (lv_at hl 1 rfl) ?_
  refine lv_lload_n hx hb dX14_lines_11 rfl (lv_at hl 2 rfl) ?_
  refine lv_iload_n hx hb dX14_lines_12 rfl (lv_at hl 0 rfl) ?_
  refine lv_lshr (v := 0) hx hb dX14_lines_13 (by decide) ?_
  refine lv_lconst (v := 1) hx hb dX14_lines_14 (by decide) ?_
  refine lv_land hx hb dX14_lines_15 ?_
  refine lv_topl (fun x_76 ex_76 => ?_)
  have ex_76 := ex_76.trans (show _ = (0 : Int64) by decide)
  subst ex_76
  refine lv_lconst (v := 1) hx hb dX14_lines_16 (by decide) ?_
  refine W.lcmp hx hb dX14_lines_17 ?_
  refine lv_topi (fun x_77 ex_77 => ?_)
  have ex_77 := ex_77.trans (show _ = (-1 : Int32) by decide)
  subst ex_77
  refine lv_if_ne (tgt := 25) hx hb dX14_lines_18 (by decide) (fun _ => ?_) (fun h9 => absurd h9 (by decide))
  refine lv_iconst (v := 0) hx hb dX14_lines_25 (by decide) ?_
  refine lv_iadd hx hb dX14_lines_26 ?_
  refine lv_topi (fun x_78 ex_78 => ?_)
  have ex_78 := ex_78.trans (show _ = (0 : Int32) by decide)
  subst ex_78
  refine lv_istore_n (lv' := [(2, .int 0), (3, .int 25), (0, .long 0)]) hx hb dX14_lines_27 rfl hl (by decide) rfl (fun ls hl => ?_)
  refine lv_iinc (v := 26) (lv' := [(3, .int 26), (2, .int 0), (0, .long 0)]) hx hb dX14_lines_28 hl (k := 1) rfl (by decide) (by decide) rfl (fun ls hl => ?_)
  refine lv_goto (tgt := 4) hx hb dX14_lines_31 (by decide) ?_
  refine lv_iload_n hx hb dX14_lines_4 rfl (lv_at hl 0 rfl) ?_
  refine lv_bipush (v := 60) hx hb dX14_lines_5 (by decide) ?_
  refine lv_icmp_ge (tgt := 34) hx hb dX14_lines_7 (by decide) (fun h9 => absurd h9 (by decide)) (fun _ => ?_)
  refine lv_iload_n hx hb dX14_lines_10 rfl (lv_at hl 1 rfl) ?_
  refine lv_lload_n hx hb dX14_lines_11 rfl (lv_at hl 2 rfl) ?_
  refine lv_iload_n hx hb dX14_lines_12 rfl (lv_at hl 0 rfl) ?_
  refine lv_lshr (v := 0) hx hb dX14_lines_13 (by decide) ?_
  refine lv_lconst (v := 1) hx hb dX14_lines_14 (by decide) ?_
  refine lv_land hx hb dX14_lines_15 ?_
  refine lv_topl (fun x_79 ex_79 => ?_)
  have ex_79 := ex_79.trans (show _ = (0 : Int64) by decide)
  subst ex_79
  refine lv_lconst (v := 1) hx hb dX14_lines_16 (by decide) ?_
  refine W.lcmp hx hb dX14_lines_17 ?_
  refine lv_topi (fun x_80 ex_80 => ?_)
  have ex_80 := ex_80.trans (show _ = (-1 : Int32) by decide)
  subst ex_80
  refine lv_if_ne (tgt := 25) hx hb dX14_lines_18 (by decide) (fun _ => ?_) (fun h9 => absurd h9 (by decide))
  refine lv_iconst (v := 0) hx hb dX14_lines_25 (by decide) ?_
  refine lv_iadd hx hb dX14_lines_26 ?_
  refine lv_topi (fun x_81 ex_81 => ?_)
  have ex_81 := ex_81.trans (show _ = (0 : Int32) by decide)
  subst ex_81
  refine lv_istore_n (lv' := [(2, .int 0), (3, .int 26), (0, .long 0)]) hx hb dX14_lines_27 rfl hl (by decide) rfl (fun ls hl => ?_)
  refine lv_iinc (v := 27) (lv' := [(3, .int 27), (2, .int 0), (0, .long 0)]) hx hb dX14_lines_28 hl (k := 1) rfl (by decide) (by decide) rfl (fun ls hl => ?_)
  refine lv_goto (tgt := 4) hx hb dX14_lines_31 (by decide) ?_
  refine lv_iload_n hx hb dX14_lines_4 rfl (lv_at hl 0 rfl) ?_
  refine lv_bipush (v := 60) hx hb dX14_lines_5 (by decide) ?_
  refine lv_icmp_ge (tgt := 34) hx hb dX14_lines_7 (by decide) (fun h9 => absurd h9 (by decide)) (fun _ => ?_)
  refine lv_iload_n hx hb dX14_lines_10 rfl (lv_at hl 1 rfl) ?_
  refine lv_lload_n hx hb dX14_lines_11 rfl (lv_at hl 2 rfl) ?_
  refine lv_iload_n hx hb dX14_lines_12 rfl (lv_at hl 0 rfl) ?_
  refine lv_lshr (v := 0) hx hb dX14_lines_13 (by decide) ?_
  refine lv_lconst (v := 1) hx hb dX14_lines_14 (by decide) ?_
  refine lv_land hx hb dX14_lines_15 ?_
  refine lv_topl (fun x_82 ex_82 => ?_)
  have ex_82 := ex_82.trans (show _ = (0 : Int64) by decide)
  subst ex_82
  refine lv_lconst (v := 1) hx hb dX14_lines_16 (by decide) ?_
  refine W.lcmp hx hb dX14_lines_17 ?_
  refine lv_topi (fun x_83 ex_83 => ?_)
  have ex_83 := ex_83.trans (show _ = (-1 : Int32) by decide)
  subst ex_83
  refine lv_if_ne (tgt := 25) hx hb dX14_lines_18 (by decide) (fun _ => ?_) (fun h9 => absurd h9 (by decide))
  refine lv_iconst (v := 0) hx hb dX14_lines_25 (by decide) ?_
  refine lv_iadd hx hb dX14_lines_26 ?_
  refine lv_topi (fun x_84 ex_84 => ?_)
  have ex_84 := ex_84.trans (show _ = (0 : Int32) by decide)
  subst ex_84
  refine lv_istore_n (lv' := [(2, .int 0), (3, .int 27), (0, .long 0)]) hx hb dX14_lines_27 rfl hl (by decide) rfl (fun ls hl => ?_)
  refine lv_iinc (v := 28) (lv' := [(3, .int 28), (2, .int 0), (0, .long 0)]) hx hb dX14_lines_28 hl (k := 1) rfl (by decide) (by decide) rfl (fun ls hl => ?_)
  refine lv_goto (tgt := 4) hx hb dX14_lines_31 (by decide) ?_
  refine lv_iload_n hx hb dX14_lines_4 rfl (lv_at hl 0 rfl) ?_
  refine lv_bipush (v := 60) hx hb dX14_lines_5 (by decide) ?_
  refine lv_icmp_ge (tgt := 34) hx hb dX14_lines_7 (by decide) (fun h9 => absurd h9 (by decide)) (fun _ => ?_)
  refine lv_iload_n hx hb dX14_lines_10 rfl (lv_at hl 1 rfl) ?_
  refine lv_lload_n hx hb dX14_lines_11 rfl (lv_at hl 2 rfl) ?_
  refine lv_iload_n hx hb dX14_lines_12 rfl (lv_at hl 0 rfl) ?_
  refine lv_lshr (v := 0) hx hb dX14_lines_13 (by decide) ?_
  refine lv_lconst (v := 1) hx hb dX14_lines_14 (by decide) ?_
  refine lv_land hx hb dX14_lines_15 ?_
  refine lv_topl (fun x_85 ex_85 => ?_)
  have ex_85 := ex_85.trans (show _ = (0 : Int64) by decide)
  subst ex_85
  refine lv_lconst (v := 1) hx hb dX14_lines_16 (by decide) ?_
  refine W.lcmp hx hb dX14_lines_17 ?_
  refine lv_topi (fun x_86 ex_86 => ?_)
  have ex_86 := ex_86.trans (show _ = (-1 : Int32) by decide)
  subst ex_86
  refine lv_if_ne (tgt := 25) hx hb dX14_lines_18 (by decide) (fun _ => ?_) (fun h9 => absurd h9 (by decide))
  refine lv_iconst (v := 0) hx hb dX14_lines_25 (by decide) ?_
  refine lv_iadd hx hb dX14_lines_26 ?_
  refine lv_topi (fun x_87 ex_87 => ?_)
  have ex_87 := ex_87.trans (show _ = (0 : Int32) by decide)
  subst ex_87
  refine lv_istore_n (lv' := [(2, .int 0), (3, .int 28), (0, .long 0)]) hx hb dX14_lines_27 rfl hl (by decide) rfl (fun ls hl => ?_)
  refine lv_iinc (v := 29) (lv' := [(3, .int 29), (2, .int 0), (0, .long 0)]) hx hb dX14_lines_28 hl (k := 1) rfl (by decide) (by decide) rfl (fun ls hl => ?_)
  refine lv_goto (tgt := 4) hx hb dX14_lines_31 (by decide) ?_
  refine lv_iload_n hx hb dX14_lines_4 rfl (lv_at hl 0 rfl) ?_
  refine lv_bipush (v := 60) hx hb dX14_lines_5 (by decide) ?_
  refine lv_icmp_ge (tgt := 34) hx hb dX14_lines_7 (by decide) (fun h9 => absurd h9 (by decide)) (fun _ => ?_)
  refine lv_iload_n hx hb dX14_lines_10 rfl (lv_at hl 1 rfl) ?_
  refine lv_lload_n hx hb dX14_lines_11 rfl (lv_at hl 2 rfl) ?_
  refine lv_iload_n hx hb dX14_lines_12 rfl (lv_at hl 0 rfl) ?_
  refine lv_lshr (v := 0) hx hb dX14_lines_13 (by decide) ?_
  refine lv_lconst (v := 1) hx hb dX14_lines_14 (by decide) ?_
  refine lv_land hx hb dX14_lines_15 ?_
  refine lv_topl (fun x_88 ex_88 => ?_)
  have ex_88 := ex_88.trans (show _ = (0 : Int64) by decide)
  subst ex_88
  refine lv_lconst (v := 1) hx hb dX14_lines_16 (by decide) ?_
  refine W.lcmp hx hb dX14_lines_17 ?_
  refine lv_topi (fun x_89 ex_89 => ?_)
  have ex_89 := ex_89.trans (show _ = (-1 : Int32) by decide)
  subst ex_89
  refine lv_if_ne (tgt := 25) hx hb dX14_lines_18 (by decide) (fun _ => ?_) (fun h9 => absurd h9 (by decide))
  refine lv_iconst (v := 0) hx hb dX14_lines_25 (by decide) ?_
  refine lv_iadd hx hb dX14_lines_26 ?_
  refine lv_topi (fun x_90 ex_90 => ?_)
  have ex_90 := ex_90.trans (show _ = (0 : Int32) by decide)
  subst ex_90
  refine lv_istore_n (lv' := [(2, .int 0), (3, .int 29), (0, .long 0)]) hx hb dX14_lines_27 rfl hl (by decide) rfl (fun ls hl => ?_)
  refine lv_iinc (v := 30) (lv' := [(3, .int 30), (2, .int 0), (0, .long 0)]) hx hb dX14_lines_28 hl (k := 1) rfl (by decide) (by decide) rfl (fun ls hl => ?_)
  refine lv_goto (tgt := 4) hx hb dX14_lines_31 (by decide) ?_
  refine lv_iload_n hx hb dX14_lines_4 rfl (lv_at hl 0 rfl) ?_
  refine lv_bipush (v := 60) hx hb dX14_lines_5 (by decide) ?_
  refine lv_icmp_ge (tgt := 34) hx hb dX14_lines_7 (by decide) (fun h9 => absurd h9 (by decide)) (fun _ => ?_)
  refine lv_iload_n hx hb dX14_lines_10 rfl (lv_at hl 1 rfl) ?_
  refine lv_lload_n hx hb dX14_lines_11 rfl (lv_at hl 2 rfl) ?_
  refine lv_iload_n hx hb dX14_lines_12 rfl (lv_at hl 0 rfl) ?_
  refine lv_lshr (v := 0) hx hb dX14_lines_13 (by decide) ?_
  refine lv_lconst (v := 1) hx hb dX14_lines_14 (by decide) ?_
  refine lv_land hx hb dX14_lines_15 ?_
  refine lv_topl (fun x_91 ex_91 => ?_)
  have ex_91 := ex_91.trans (show _ = (0 : Int64) by decide)
  subst ex_91
  refine lv_lconst (v := 1) hx hb dX14_lines_16 (by decide) ?_
  refine W.lcmp hx hb dX14_lines_17 ?_
  refine lv_topi (fun x_92 ex_92 => ?_)
  have ex_92 := ex_92.trans (show _ = (-1 : Int32) by decide)
  subst ex_92
  refine lv_if_ne (tgt := 25) hx hb dX14_lines_18 (by decide) (fun _ => ?_) (fun h9 => absurd h9 (by decide))
  refine lv_iconst (v := 0) hx hb dX14_lines_25 (by decide) ?_
  refine lv_iadd hx hb dX14_lines_26 ?_
  refine lv_topi (fun x_93 ex_93 => ?_)
  have ex_93 := ex_93.trans (show _ = (0 : Int32) by decide)
  subst ex_93
  refine lv_istore_n (lv' := [(2, .int 0), (3, .int 30), (0, .long 0)]) hx hb dX14_lines_27 rfl hl (by decide) rfl (fun ls hl => ?_)
  refine lv_iinc (v := 31) (lv' := [(3, .int 31), (2, .int 0), (0, .long 0)]) hx hb dX14_lines_28 hl (k := 1) rfl (by decide) (by decide) rfl (fun ls hl => ?_)
  refine lv_goto (tgt := 4) hx hb dX14_lines_31 (by decide) ?_
  refine lv_iload_n hx hb dX14_lines_4 rfl (lv_at hl 0 rfl) ?_
  refine lv_bipush (v := 60) hx hb dX14_lines_5 (by decide) ?_
  refine lv_icmp_ge (tgt := 34) hx hb dX14_lines_7 (by decide) (fun h9 => absurd h9 (by decide)) (fun _ => ?_)
  refine lv_iload_n hx hb dX14_lines_10 rfl (lv_at hl 1 rfl) ?_
  refine lv_lload_n hx hb dX14_lines_11 rfl (lv_at hl 2 rfl) ?_
  refine lv_iload_n hx hb dX14_lines_12 rfl (lv_at hl 0 rfl) ?_
  refine lv_lshr (v := 0) hx hb dX14_lines_13 (by decide) ?_
  refine lv_lconst (v := 1) hx hb dX14_lines_14 (by decide) ?_
  refine lv_land hx hb dX14_lines_15 ?_
  refine lv_topl (fun x_94 ex_94 => ?_)
  have ex_94 := ex_94.trans (show _ = (0 : Int64) by decide)
  subst ex_94
  refine lv_lconst (v := 1) hx hb dX14_lines_16 (by decide) ?_
  refine W.lcmp hx hb dX14_lines_17 ?_
  refine lv_topi (fun x_95 ex_95 => ?_)
  have ex_95 := ex_95.trans (show _ = (-1 : Int32) by decide)
  subst ex_95
  refine lv_if_ne (tgt := 25) hx hb dX14_lines_18 (by decide) (fun _ => ?_) (fun h9 => absurd h9 (by decide))
  refine lv_iconst (v := 0) hx hb dX14_lines_25 (by decide) ?_
  refine lv_iadd hx hb dX14_lines_26 ?_
  refine lv_topi (fun x_96 ex_96 => ?_)
  have ex_96 := ex_96.trans (show _ = (0 : Int32) by decide)
  subst ex_96
  refine lv_istore_n (lv' := [(2, .int 0), (3, .int 31), (0, .long 0)]) hx hb dX14_lines_27 rfl hl (by decide) rfl (fun ls hl => ?_)
  refine lv_iinc (v := 32) (lv' := [(3, .int 32), (2, .int 0), (0, .long 0)]) hx hb dX14_lines_28 hl (k := 1) rfl (by decide) (by decide) rfl (fun ls hl => ?_)
  refine lv_goto (tgt := 4) hx hb dX14_lines_31 (by decide) ?_
  refine lv_iload_n hx hb dX14_lines_4 rfl (lv_at hl 0 rfl) ?_
  refine lv_bipush (v := 60) hx hb dX14_lines_5 (by decide) ?_
  refine lv_icmp_ge (tgt := 34) hx hb dX14_lines_7 (by decide) (fun h9 => absurd h9 (by decide)) (fun _ => ?_)
  refine lv_iload_n hx hb dX14_lines_10 rfl (lv_at hl 1 rfl) ?_
  refine lv_lload_n hx hb dX14_lines_11 rfl (lv_at hl 2 rfl) ?_
  refine lv_iload_n hx hb dX14_lines_12 rfl (lv_at hl 0 rfl) ?_
  refine lv_lshr (v := 0) hx hb dX14_lines_13 (by decide) ?_
  refine lv_lconst (v := 1) hx hb dX14_lines_14 (by decide) ?_
  refine lv_land hx hb dX14_lines_15 ?_
  refine lv_topl (fun x_97 ex_97 => ?_)
  have ex_97 := ex_97.trans (show _ = (0 : Int64) by decide)
  subst ex_97
  refine lv_lconst (v := 1) hx hb dX14_lines_16 (by decide) ?_
  refine W.lcmp hx hb dX14_lines_17 ?_
  refine lv_topi (fun x_98 ex_98 => ?_)
  have ex_98 := ex_98.trans (show _ = (-1 : Int32) by decide)
  subst ex_98
  refine lv_if_ne (tgt := 25) hx hb dX14_lines_18 (by decide) (fun _ => ?_) (fun h9 => absurd h9 (by decide))
  refine lv_iconst (v := 0) hx hb dX14_lines_25 (by decide) ?_
  refine lv_iadd hx hb dX14_lines_26 ?_
  refine lv_topi (fun x_99 ex_99 => ?_)
  have ex_99 := ex_99.trans (show _ = (0 : Int32) by decide)
  subst ex_99
  refine lv_istore_n (lv' := [(2, .int 0), (3, .int 32), (0, .long 0)]) hx hb dX14_lines_27 rfl hl (by decide) rfl (fun ls hl => ?_)
  refine lv_iinc (v := 33) (lv' := [(3, .int 33), (2, .int 0), (0, .long 0)]) hx hb dX14_lines_28 hl (k := 1) rfl (by decide) (by decide) rfl (fun ls hl => ?_)
  refine lv_goto (tgt := 4) hx hb dX14_lines_31 (by decide) ?_
  refine lv_iload_n hx hb dX14_lines_4 rfl (lv_at hl 0 rfl) ?_
  refine lv_bipush (v := 60) hx hb dX14_lines_5 (by decide) ?_
  refine lv_icmp_ge (tgt := 34) hx hb dX14_lines_7 (by decide) (fun h9 => absurd h9 (by decide)) (fun _ => ?_)
  refine lv_iload_n hx hb dX14_lines_10 rfl (lv_at hl 1 rfl) ?_
  refine lv_lload_n hx hb dX14_lines_11 rfl (lv_at hl 2 rfl) ?_
  refine lv_iload_n hx hb dX14_lines_12 rfl (lv_at hl 0 rfl) ?_
  refine lv_lshr (v := 0) hx hb dX14_lines_13 (by decide) ?_
  refine lv_lconst (v := 1) hx hb dX14_lines_14 (by decide) ?_
  refine lv_land hx hb dX14_lines_15 ?_
  refine lv_topl (fun x_100 ex_100 => ?_)
  have ex_100 := ex_100.trans (show _ = (0 : Int64) by decide)
  subst ex_100
  refine lv_lconst (v := 1) hx hb dX14_lines_16 (by decide) ?_
  refine W.lcmp hx hb dX14_lines_17 ?_
  refine lv_topi (fun x_101 ex_101 => ?_)
  have ex_101 := ex_101.trans (show _ = (-1 : Int32) by decide)
  subst ex_101
  refine lv_if_ne (tgt := 25) hx hb dX14_lines_18 (by decide) (fun _ => ?_) (fun h9 => absurd h9 (by decide))
  refine lv_iconst (v := 0) hx hb dX14_lines_25 (by decide) ?_
  refine lv_iadd hx hb dX14_lines_26 ?_
  refine lv_topi (fun x_102 ex_102 => ?_)
  have ex_102 := ex_102.trans (show _ = (0 : Int32) by decide)
  subst ex_102
  refine lv_istore_n (lv' := [(2, .int 0), (3, .int 33), (0, .long 0)]) hx hb dX14_lines_27 rfl hl (by decide) rfl (fun ls hl => ?_)
  refine lv_iinc (v := 34) (lv' := [(3, .int 34), (2, .int 0), (0, .long 0)]) hx hb dX14_lines_28 hl (k := 1) rfl (by decide) (by decide) rfl (fun ls hl => ?_)
  refine lv_goto (tgt := 4) hx hb dX14_lines_31 (by decide) ?_
  refine lv_iload_n hx hb dX14_lines_4 rfl (lv_at hl 0 rfl) ?_
  refine lv_bipush (v := 60) hx hb dX14_lines_5 (by decide) ?_
  refine lv_icmp_ge (tgt := 34) hx hb dX14_lines_7 (by decide) (fun h9 => absurd h9 (by decide)) (fun _ => ?_)
  refine lv_iload_n hx hb dX14_lines_10 rfl (lv_at hl 1 rfl) ?_
  refine lv_lload_n hx hb dX14_lines_11 rfl (lv_at hl 2 rfl) ?_
  refine lv_iload_n hx hb dX14_lines_12 rfl (lv_at hl 0 rfl) ?_
  refine lv_lshr (v := 0) hx hb dX14_lines_13 (by decide) ?_
  refine lv_lconst (v := 1) hx hb dX14_lines_14 (by decide) ?_
  refine lv_land hx hb dX14_lines_15 ?_
  refine lv_topl (fun x_103 ex_103 => ?_)
  have ex_103 := ex_103.trans (show _ = (0 : Int64) by decide)
  subst ex_103
  refine lv_lconst (v := 1) hx hb dX14_lines_16 (by decide) ?_
  refine W.lcmp hx hb dX14_lines_17 ?_
  refine lv_topi (fun x_104 ex_104 => ?_)
  have ex_104 := ex_104.trans (show _ = (-1 : Int32) by decide)
  subst ex_104
  refine lv_if_ne (tgt := 25) hx hb dX14_lines_18 (by decide) (fun _ => ?_) (fun h9 => absurd h9 (by decide))
  refine lv_iconst (v := 0) hx hb dX14_lines_25 (by decide) ?_
  refine lv_iadd hx hb dX14_lines_26 ?_
  refine lv_topi (fun x_105 ex_105 => ?_)
  have ex_105 := ex_105.trans (show _ = (0 : Int32) by decide)
  subst ex_105
  refine lv_istore_n (lv' := [(2, .int 0), (3, .int 34), (0, .long 0)]) hx hb dX14_lines_27 rfl hl (by decide) rfl (fun ls hl => ?_)
  refine lv_iinc (v := 35) (lv' := [(3, .int 35), (2, .int 0), (0, .long 0)]) hx hb dX14_lines_28 hl (k := 1) rfl (by decide) (by decide) rfl (fun ls hl => ?_)
  refine lv_goto (tgt := 4) hx hb dX14_lines_31 (by decide) ?_
  refine lv_iload_n hx hb dX14_lines_4 rfl (lv_at hl 0 rfl) ?_
  refine lv_bipush (v := 60) hx hb dX14_lines_5 (by decide) ?_
  refine lv_icmp_ge (tgt := 34) hx hb dX14_lines_7 (by decide) (fun h9 => absurd h9 (by decide)) (fun _ => ?_)
  refine lv_iload_n hx hb dX14_lines_10 rfl (lv_at hl 1 rfl) ?_
  refine lv_lload_n hx hb dX14_lines_11 rfl (lv_at hl 2 rfl) ?_
  refine lv_iload_n hx hb dX14_lines_12 rfl (lv_at hl 0 rfl) ?_
  refine lv_lshr (v := 0) hx hb dX14_lines_13 (by decide) ?_
  refine lv_lconst (v := 1) hx hb dX14_lines_14 (by decide) ?_
  refine lv_land hx hb dX14_lines_15 ?_
  refine lv_topl (fun x_106 ex_106 => ?_)
  have ex_106 := ex_106.trans (show _ = (0 : Int64) by decide)
  subst ex_106
  refine lv_lconst (v := 1) hx hb dX14_lines_16 (by decide) ?_
  refine W.lcmp hx hb dX14_lines_17 ?_
  refine lv_topi (fun x_107 ex_107 => ?_)
  have ex_107 := ex_107.trans (show _ = (-1 : Int32) by decide)
  subst ex_107
  refine lv_if_ne (tgt := 25) hx hb dX14_lines_18 (by decide) (fun _ => ?_) (fun h9 => absurd h9 (by decide))
  refine lv_iconst (v := 0) hx hb dX14_lines_25 (by decide) ?_
  refine lv_iadd hx hb dX14_lines_26 ?_
  refine lv_topi (fun x_108 ex_108 => ?_)
  have ex_108 := ex_108.trans (show _ = (0 : Int32) by decide)
  subst ex_108
  refine lv_istore_n (lv' := [(2, .int 0), (3, .int 35), (0, .long 0)]) hx hb dX14_lines_27 rfl hl (by decide) rfl (fun ls hl => ?_)
  refine lv_iinc (v := 36) (lv' := [(3, .int 36), (2, .int 0), (0, .long 0)]) hx hb dX14_lines_28 hl (k := 1) rfl (by decide) (by decide) rfl (fun ls hl => ?_)
  refine lv_goto (tgt := 4) hx hb dX14_lines_31 (by decide) ?_
  refine lv_iload_n hx hb dX14_lines_4 rfl (lv_at hl 0 rfl) ?_
  refine lv_bipush (v := 60) hx hb dX14_lines_5 (by decide) ?_
  refine lv_icmp_ge (tgt := 34) hx hb dX14_lines_7 (by decide) (fun h9 => absurd h9 (by decide)) (fun _ => ?_)
  refine lv_iload_n hx hb dX14_lines_10 rfl (lv_at hl 1 rfl) ?_
  refine lv_lload_n hx hb dX14_lines_11 rfl (lv_at hl 2 rfl) ?_
  refine lv_iload_n hx hb dX14_lines_12 rfl (lv_at hl 0 rfl) ?_
  refine lv_lshr (v := 0) hx hb dX14_lines_13 (by decide) ?_
  refine lv_lconst (v := 1) hx hb dX14_lines_14 (by decide) ?_
  refine lv_land hx hb dX14_lines_15 ?_
  refine lv_topl (fun x_109 ex_109 => ?_)
  have ex_109 := ex_109.trans (show _ = (0 : Int64) by decide)
  subst ex_109
  refine lv_lconst (v := 1) hx hb dX14_lines_16 (by decide) ?_
  refine W.lcmp hx hb dX14_lines_17 ?_
  refine lv_topi (fun x_110 ex_110 => ?_)
  have ex_110 := ex_110.trans (show _ = (-1 : Int32) by decide)
  subst ex_110
  refine lv_if_ne (tgt := 25) hx hb dX14_lines_18 (by decide) (fun _ => ?_) (fun h9 => absurd h9 (by decide))
  refine lv_iconst (v := 0) hx hb dX14_lines_25 (by decide) ?_
  refine lv_iadd hx hb dX14_lines_26 ?_
  refine lv_topi (fun x_111 ex_111 => ?_)
  have ex_111 := ex_111.trans (show _ = (0 : Int32) by decide)
  subst ex_111
  refine lv_istore_n (lv' := [(2, .int 0), (3, .int 36), (0, .long 0)]) hx hb dX14_lines_27 rfl hl (by decide) rfl (fun ls hl => ?_)
  refine lv_iinc (v := 37) (lv' := [(3, .int 37), (2, .int 0), (0, .long 0)]) hx hb dX14_lines_28 hl (k := 1) rfl (by decide) (by decide) rfl (fun ls hl => ?_)
  refine lv_goto (tgt := 4) hx hb dX14_lines_31 (by decide) ?_
  refine lv_iload_n hx hb dX14_lines_4 rfl (lv_at hl 0 rfl) ?_
  refine lv_bipush (v := 60) hx hb dX14_lines_5 (by decide) ?_
  refine lv_icmp_ge (tgt := 34) hx hb dX14_lines_7 (by decide) (fun h9 => absurd h9 (by decide)) (fun _ => ?_)
  refine lv_iload_n hx hb dX14_lines_10 rfl (lv_at hl 1 rfl) ?_
  refine lv_lload_n hx hb dX14_lines_11 rfl (lv_at hl 2 rfl) ?_
  refine lv_iload_n hx hb dX14_lines_12 rfl (lv_at hl 0 rfl) ?_
  refine lv_lshr (v := 0) hx hb dX14_lines_13 (by decide) ?_
  refine lv_lconst (v := 1) hx hb dX14_lines_14 (by decide) ?_
  refine lv_land hx hb dX14_lines_15 ?_
  refine lv_topl (fun x_112 ex_112 => ?_)
  have ex_112 := ex_112.trans (show _ = (0 : Int64) by decide)
  subst ex_112
  refine lv_lconst (v := 1) hx hb dX14_lines_16 (by decide) ?_
  refine W.lcmp hx hb dX14_lines_17 ?_
  refine lv_topi (fun x_113 ex_113 => ?_)
  have ex_113 := ex_113.trans (show _ = (-1 : Int32) by decide)
  subst ex_113
  refine lv_if_ne (tgt := 25) hx hb dX14_lines_18 (by decide) (fun _ => ?_) (fun h9 => absurd h9 (by decide))
  refine lv_iconst (v := 0) hx hb dX14_lines_25 (by decide) ?_
  refine lv_iadd hx hb dX14_lines_26 ?_
  refine lv_topi (fun x_114 ex_114 => ?_)
  have ex_114 := ex_114.trans (show _ = (0 : Int32) by decide)
  subst ex_114
  refine lv_istore_n (lv' := [(2, .int 0), (3, .int 37), (0, .long 0)]) hx hb dX14_lines_27 rfl hl (by decide) rfl (fun ls hl => ?_)
  refine lv_iinc (v := 38) (lv' := [(3, .int 38), (2, .int 0), (0, .long 0)]) hx hb dX14_lines_28 hl (k := 1) rfl (by decide) (by decide) rfl (fun ls hl => ?_)
  refine lv_goto (tgt := 4) hx hb dX14_lines_31 (by decide) ?_
  refine lv_iload_n hx hb dX14_lines_4 rfl (lv_at hl 0 rfl) ?_
  refine lv_bipush (v := 60) hx hb dX14_lines_5 (by decide) ?_
  refine lv_icmp_ge (tgt := 34) hx hb dX14_lines_7 (by decide) (fun h9 => absurd h9 (by decide)) (fun _ => ?_)
  refine lv_iload_n hx hb dX14_lines_10 rfl (lv_at hl 1 rfl) ?_
  refine lv_lload_n hx hb dX14_lines_11 rfl (lv_at hl 2 rfl) ?_
  refine lv_iload_n hx hb dX14_lines_12 rfl (lv_at hl 0 rfl) ?_
  refine lv_lshr (v := 0) hx hb dX14_lines_13 (by decide) ?_
  refine lv_lconst (v := 1) hx hb dX14_lines_14 (by decide) ?_
  refine lv_land hx hb dX14_lines_15 ?_
  refine lv_topl (fun x_115 ex_115 => ?_)
  have ex_115 := ex_115.trans (show _ = (0 : Int64) by decide)
  subst ex_115
  refine lv_lconst (v := 1) hx hb dX14_lines_16 (by decide) ?_
  refine W.lcmp hx hb dX14_lines_17 ?_
  refine lv_topi (fun x_116 ex_116 => ?_)
  have ex_116 := ex_116.trans (show _ = (-1 : Int32) by decide)
  subst ex_116
  refine lv_if_ne (tgt := 25) hx hb dX14_lines_18 (by decide) (fun _ => ?_) (fun h9 => absurd h9 (by decide))
  refine lv_iconst (v := 0) hx hb dX14_lines_25 (by decide) ?_
  refine lv_iadd hx hb dX14_lines_26 ?_
  refine lv_topi (fun x_117 ex_117 => ?_)
  have ex_117 := ex_117.trans (show _ = (0 : Int32) by decide)
  subst ex_117
  refine lv_istore_n (lv' := [(2, .int 0), (3, .int 38), (0, .long 0)]) hx hb dX14_lines_27 rfl hl (by decide) rfl (fun ls hl => ?_)
  refine lv_iinc (v := 39) (lv' := [(3, .int 39), (2, .int 0), (0, .long 0)]) hx hb dX14_lines_28 hl (k := 1) rfl (by decide) (by decide) rfl (fun ls hl => ?_)
  refine lv_goto (tgt := 4) hx hb dX14_lines_31 (by decide) ?_
  refine lv_iload_n hx hb dX14_lines_4 rfl (lv_at hl 0 rfl) ?_
  refine lv_bipush (v := 60) hx hb dX14_lines_5 (by decide) ?_
  refine lv_icmp_ge (tgt := 34) hx hb dX14_lines_7 (by decide) (fun h9 => absurd h9 (by decide)) (fun _ => ?_)
  refine lv_iload_n hx hb dX14_lines_10 rfl (lv_at hl 1 rfl) ?_
  refine lv_lload_n hx hb dX14_lines_11 rfl (lv_at hl 2 rfl) ?_
  refine lv_iload_n hx hb dX14_lines_12 rfl (lv_at hl 0 rfl) ?_
  refine lv_lshr (v := 0) hx hb dX14_lines_13 (by decide) ?_
  refine lv_lconst (v := 1) hx hb dX14_lines_14 (by decide) ?_
  refine lv_land hx hb dX14_lines_15 ?_
  refine lv_topl (fun x_118 ex_118 => ?_)
  have ex_118 := ex_118.trans (show _ = (0 : Int64) by decide)
  subst ex_118
  refine lv_lconst (v := 1) hx hb dX14_lines_16 (by decide) ?_
  refine W.lcmp hx hb dX14_lines_17 ?_
  refine lv_topi (fun x_119 ex_119 => ?_)
  have ex_119 := ex_119.trans (show _ = (-1 : Int32) by decide)
  subst ex_119
  refine lv_if_ne (tgt := 25) hx hb dX14_lines_18 (by decide) (fun _ => ?_) (fun h9 => absurd h9 (by decide))
  refine lv_iconst (v := 0) hx hb dX14_lines_25 (by decide) ?_
  refine lv_iadd hx hb dX14_lines_26 ?_
  refine lv_topi (fun x_120 ex_120 => ?_)
  have ex_120 := ex_120.trans (show _ = (0 : Int32) by decide)
  subst ex_120
  refine lv_istore_n (lv' := [(2, .int 0), (3, .int 39), (0, .long 0)]) hx hb dX14_lines_27 rfl hl (by decide) rfl (fun ls hl => ?_)
  refine lv_iinc (v := 40) (lv' := [(3, .int 40), (2, .int 0), (0, .long 0)]) hx hb dX14_lines_28 hl (k := 1) rfl (by decide) (by decide) rfl (fun ls hl => ?_)
  refine lv_goto (tgt := 4) hx hb dX14_lines_31 (by decide) ?_
  refine lv_iload_n hx hb dX14_lines_4 rfl (lv_at hl 0 rfl) ?_
  refine lv_bipush (v := 60) hx hb dX14_lines_5 (by decide) ?_
  refine lv_icmp_ge (tgt := 34) hx hb dX14_lines_7 (by decide) (fun h9 => absurd h9 (by decide)) (fun _ => ?_)
  refine lv_iload_n hx hb dX14_lines_10 rfl (lv_at hl 1 rfl) ?_
  refine lv_lload_n hx hb dX14_lines_11 rfl (lv_at hl 2 rfl) ?_
  refine lv_iload_n hx hb dX14_lines_12 rfl (lv_at hl 0 rfl) ?_
  refine lv_lshr (v := 0) hx hb dX14_lines_13 (by decide) ?_
  refine lv_lconst (v := 1) hx hb dX14_lines_14 (by decide) ?_
  refine lv_land hx hb dX14_lines_15 ?_
  refine lv_topl (fun x_121 ex_121 => ?_)
  have ex_121 := ex_121.trans (show _ = (0 : Int64) by decide)
  subst ex_121
  refine lv_lconst (v := 1) hx hb dX14_lines_16 (by decide) ?_
  refine W.lcmp hx hb dX14_lines_17 ?_
  refine lv_topi (fun x_122 ex_122 => ?_)
  have ex_122 := ex_122.trans (show _ = (-1 : Int32) by decide)
  subst ex_122
  refine lv_if_ne (tgt := 25) hx hb dX14_lines_18 (by decide) (fun _ => ?_) (fun h9 => absurd h9 (by decide))
  refine lv_iconst (v := 0) hx hb dX14_lines_25 (by decide) ?_
  refine lv_iadd hx hb dX14_lines_26 ?_
  refine lv_topi (fun x_123 ex_123 => ?_)
  have ex_123 := ex_123.trans (show _ = (0 : Int32) by decide)
  subst ex_123
  refine lv_istore_n (lv' := [(2, .int 0), (3, .int 40), (0, .long 0)]) hx hb dX14_lines_27 rfl hl (by decide) rfl (fun ls hl => ?_)
  refine lv_iinc (v := 41) (lv' := [(3, .int 41), (2, .int 0), (0, .long 0)]) hx hb dX14_lines_28 hl (k := 1) rfl (by decide) (by decide) rfl (fun ls hl => ?_)
  refine lv_goto (tgt := 4) hx hb dX14_lines_31 (by decide) ?_
  refine lv_iload_n hx hb dX14_lines_4 rfl (lv_at hl 0 rfl) ?_
  refine lv_bipush (v := 60) hx hb dX14_lines_5 (by decide) ?_
  refine lv_icmp_ge (tgt := 34) hx hb dX14_lines_7 (by decide) (fun h9 => absurd h9 (by decide)) (fun _ => ?_)
  refine lv_iload_n hx hb dX14_lines_10 rfl (lv_at hl 1 rfl) ?_
  refine lv_lload_n hx hb dX14_lines_11 rfl (lv_at hl 2 rfl) ?_
  refine lv_iload_n hx hb dX14_lines_12 rfl (lv_at hl 0 rfl) ?_
  refine lv_lshr (v := 0) hx hb dX14_lines_13 (by decide) ?_
  refine lv_lconst (v := 1) hx hb dX14_lines_14 (by decide) ?_
  refine lv_land hx hb dX14_lines_15 ?_
  refine lv_topl (fun x_124 ex_124 => ?_)
  have ex_124 := ex_124.trans (show _ = (0 : Int64) by decide)
  subst ex_124
  refine lv_lconst (v := 1) hx hb dX14_lines_16 (by decide) ?_
  refine W.lcmp hx hb dX14_lines_17 ?_
  refine lv_topi (fun x_125 ex_125 => ?_)
  have ex_125 := ex_125.trans (show _ = (-1 : Int32) by decide)
  subst ex_125
  refine lv_if_ne (tgt := 25) hx hb dX14_lines_18 (by decide) (fun _ => ?_) (fun h9 => absurd h9 (by decide))
  refine lv_iconst (v := 0) hx hb dX14_lines_25 (by decide) ?_
  refine lv_iadd hx hb dX14_lines_26 ?_
  refine lv_topi (fun x_126 ex_126 => ?_)
  have ex_126 := ex_126.trans (show _ = (0 : Int32) by decide)
  subst ex_126
  refine lv_istore_n (lv' := [(2, .int 0), (3, .int 41), (0, .long 0)]) hx hb dX14_lines_27 rfl hl (by decide) rfl (fun ls hl => ?_)
  refine lv_iinc (v := 42) (lv' := [(3, .int 42), (2, .int 0), (0, .long 0)]) hx hb dX14_lines_28 hl (k := 1) rfl (by decide) (by decide) rfl (fun ls hl => ?_)
  refine lv_goto (tgt := 4) hx hb dX14_lines_31 (by decide) ?_
  refine lv_iload_n hx hb dX14_lines_4 rfl (lv_at hl 0 rfl) ?_
  refine lv_bipush (v := 60) hx hb dX14_lines_5 (by decide) ?_
  refine lv_icmp_ge (tgt := 34) hx hb dX14_lines_7 (by decide) (fun h9 => absurd h9 (by decide)) (fun _ => ?_)
  refine lv_iload_n hx hb dX14_lines_10 rfl (lv_at hl 1 rfl) ?_
  refine lv_lload_n hx hb dX14_lines_11 rfl (lv_at hl 2 rfl) ?_
  refine lv_iload_n hx hb dX14_lines_12 rfl (lv_at hl 0 rfl) ?_
  refine lv_lshr (v := 0) hx hb dX14_lines_13 (by decide) ?_
  refine lv_lconst (v := 1) hx hb dX14_lines_14 (by decide) ?_
  refine lv_land hx hb dX14_lines_15 ?_
  refine lv_topl (fun x_127 ex_127 => ?_)
  have ex_127 := ex_127.trans (show _ = (0 : Int64) by decide)
  subst ex_127
  refine lv_lconst (v := 1) hx hb dX14_lines_16 (by decide) ?_
  refine W.lcmp hx hb dX14_lines_17 ?_
  refine lv_topi (fun x_128 ex_128 => ?_)
  have ex_128 := ex_128.trans (show _ = (-1 : Int32) by decide)
  subst ex_128
  refine lv_if_ne (tgt := 25) hx hb dX14_lines_18 (by decide) (fun _ => ?_) (fun h9 => absurd h9 (by decide))
  refine lv_iconst (v := 0) hx hb dX14_lines_25 (by decide) ?_
  refine lv_iadd hx hb dX14_lines_26 ?_
  refine lv_topi (fun x_129 ex_129 => ?_)
  have ex_129 := ex_129.trans (show _ = (0 : Int32) by decide)
  subst ex_129
  refine lv_istore_n (lv' := [(2, .int 0), (3, .int 42), (0, .long 0)]) hx hb dX14_lines_27 rfl hl (by decide) rfl (fun ls hl => ?_)
  refine lv_iinc (v := 43) (lv' := [(3, .int 43), (2, .int 0), (0, .long 0)]) hx hb dX14_lines_28 hl (k := 1) rfl (by decide) (by decide) rfl (fun ls hl => ?_)
  refine lv_goto (tgt := 4) hx hb dX14_lines_31 (by decide) ?_
  refine lv_iload_n hx hb dX14_lines_4 rfl (lv_at hl 0 rfl) ?_
  refine lv_bipush (v := 60) hx hb dX14_lines_5 (by decide) ?_
  refine lv_icmp_ge (tgt := 34) hx hb dX14_lines_7 (by decide) (fun h9 => absurd h9 (by decide)) (fun _ => ?_)
  refine lv_iload_n hx hb dX14_lines_10 rfl (lv_at hl 1 rfl) ?_
  refine lv_lload_n hx hb dX14_lines_11 rfl (lv_at hl 2 rfl) ?_
  refine lv_iload_n hx hb dX14_lines_12 rfl (lv_at hl 0 rfl) ?_
  refine lv_lshr (v := 0) hx hb dX14_lines_13 (by decide) ?_
  refine lv_lconst (v := 1) hx hb dX14_lines_14 (by decide) ?_
  refine lv_land hx hb dX14_lines_15 ?_
  refine lv_topl (fun x_130 ex_130 => ?_)
  have ex_130 := ex_130.trans (show _ = (0 : Int64) by decide)
  subst ex_130
  refine lv_lconst (v := 1) hx hb dX14_lines_16 (by decide) ?_
  refine W.lcmp hx hb dX14_lines_17 ?_
  refine lv_topi (fun x_131 ex_131 => ?_)
  have ex_131 := ex_131.trans (show _ = (-1 : Int32) by decide)
  subst ex_131
  refine lv_if_ne (tgt := 25) hx hb dX14_lines_18 (by decide) (fun _ => ?_) (fun h9 => absurd h9 (by decide))
  refine lv_iconst (v := 0) hx hb dX14_lines_25 (by decide) ?_
  refine lv_iadd hx hb dX14_lines_26 ?_
  refine lv_topi (fun x_132 ex_132 => ?_)
  have ex_132 := ex_132.trans (show _ = (0 : Int32) by decide)
  subst ex_132
  refine lv_istore_n (lv' := [(2, .int 0), (3, .int 43), (0, .long 0)]) hx hb dX14_lines_27 rfl hl (by decide) rfl (fun ls hl => ?_)
  refine lv_iinc (v := 44) (lv' := [(3, .int 44), (2, .int 0), (0, .long 0)]) hx hb dX14_lines_28 hl (k := 1) rfl (by decide) (by decide) rfl (fun ls hl => ?_)
  refine lv_goto (tgt := 4) hx hb dX14_lines_31 (by decide) ?_
  refine lv_iload_n hx hb dX14_lines_4 rfl (lv_at hl 0 rfl) ?_
  refine lv_bipush (v := 60) hx hb dX14_lines_5 (by decide) ?_
  refine lv_icmp_ge (tgt := 34) hx hb dX14_lines_7 (by decide) (fun h9 => absurd h9 (by decide)) (fun _ => ?_)
  refine lv_iload_n hx hb dX14_lines_10 rfl (lv_at hl 1 rfl) ?_
  refine lv_lload_n hx hb dX14_lines_11 rfl (lv_at hl 2 rfl) ?_
  refine lv_iload_n hx hb dX14_lines_12 rfl (lv_at hl 0 rfl) ?_
  refine lv_lshr (v := 0) hx hb dX14_lines_13 (by decide) ?_
  refine lv_lconst (v := 1) hx hb dX14_lines_14 (by decide) ?_
  refine lv_land hx hb dX14_lines_15 ?_
  refine lv_topl (fun x_133 ex_133 => ?_)
  have ex_133 := ex_133.trans (show _ = (0 : Int64) by decide)
  subst ex_133
  refine lv_lconst (v := 1) hx hb dX14_lines_16 (by decide) ?_
  refine W.lcmp hx hb dX14_lines_17 ?_
  refine lv_topi (fun x_134 ex_134 => ?_)
  have ex_134 := ex_134.trans (show _ = (-1 : Int32) by decide)
  subst ex_134
  refine lv_if_ne (tgt := 25) hx hb dX14_lines_18 (by decide) (fun _ => ?_) (fun h9 => absurd h9 (by decide))
  refine lv_iconst (v := 0) hx hb dX14_lines_25 (by decide) ?_
  refine lv_iadd hx hb dX14_lines_26 ?_
  refine lv_topi (fun x_135 ex_135 => ?_)
  have ex_135 := ex_135.trans (show _ = (0 : Int32) by decide)
  subst ex_135
  refine lv_istore_n (lv' := [(2, .int 0), (3, .int 44), (0, .long 0)]) hx hb dX14_lines_27 rfl hl (by decide) rfl (fun ls hl => ?_)
  refine lv_iinc (v := 45) (lv' := [(3, .int 45), (2, .int 0), (0, .long 0)]) hx hb dX14_lines_28 hl (k := 1) rfl (by decide) (by decide) rfl (fun ls hl => ?_)
  refine lv_goto (tgt := 4) hx hb dX14_lines_31 (by decide) ?_
  refine lv_iload_n hx hb dX14_lines_4 rfl (lv_at hl 0 rfl) ?_
  refine lv_bipush (v := 60) hx hb dX14_lines_5 (by decide) ?_
  refine lv_icmp_ge (tgt := 34) hx hb dX14_lines_7 (by decide) (fun h9 => absurd h9 (by decide)) (fun _ => ?_)
  refine lv_iload_n hx hb dX14_lines_10 rfl (lv_at hl 1 rfl) ?_
  refine lv_lload_n hx hb dX14_lines_11 rfl (lv_at hl 2 rfl) ?_
  refine lv_iload_n hx hb dX14_lines_12 rfl (lv_at hl 0 rfl) ?_
  refine lv_lshr (v := 0) hx hb dX14_lines_13 (by decide) ?_
  refine lv_lconst (v := 1) hx hb dX14_lines_14 (by decide) ?_
  refine lv_land hx hb dX14_lines_15 ?_
  refine lv_topl (fun x_136 ex_136 => ?_)
  have ex_136 := ex_136.trans (show _ = (0 : Int64) by decide)
  subst ex_136
  refine lv_lconst (v := 1) hx hb dX14_lines_16 (by decide) ?_
  refine W.lcmp hx hb dX14_lines_17 ?_
  refine lv_topi (fun x_137 ex_137 => ?_)
  have ex_137 := ex_137.trans (show _ = (-1 : Int32) by decide)
  subst ex_137
  refine lv_if_ne (tgt := 25) hx hb dX14_lines_18 (by decide) (fun _ => ?_) (fun h9 => absurd h9 (by decide))
  refine lv_iconst (v := 0) hx hb dX14_lines_25 (by decide) ?_
  refine lv_iadd hx hb dX14_lines_26 ?_
  refine lv_topi (fun x_138 ex_138 => ?_)
  have ex_138 := ex_138.trans (show _ = (0 : Int32) by decide)
  subst ex_138
  refine lv_istore_n (lv' := [(2, .int 0), (3, .int 45), (0, .long 0)]) hx hb dX14_lines_27 rfl hl (by decide) rfl (fun ls hl => ?_)
  refine lv_iinc (v := 46) (lv' := [(3, .int 46), (2, .int 0), (0, .long 0)]) hx hb dX14_lines_28 hl (k := 1) rfl (by decide) (by decide) rfl (fun ls hl => ?_)
  refine lv_goto (tgt := 4) hx hb dX14_lines_31 (by decide) ?_
  refine lv_iload_n hx hb dX14_lines_4 rfl (lv_at hl 0 rfl) ?_
  refine lv_bipush (v := 60) hx hb dX14_lines_5 (by decide) ?_
  refine lv_icmp_ge (tgt := 34) hx hb dX14_lines_7 (by decide) (fun h9 => absurd h9 (by decide)) (fun _ => ?_)
  refine lv_iload_n hx hb dX14_lines_10 rfl (lv_at hl 1 rfl) ?_
  refine lv_lload_n hx hb dX14_lines_11 rfl (lv_at hl 2 rfl) ?_
  refine lv_iload_n hx hb dX14_lines_12 rfl (lv_at hl 0 rfl) ?_
  refine lv_lshr (v := 0) hx hb dX14_lines_13 (by decide) ?_
  refine lv_lconst (v := 1) hx hb dX14_lines_14 (by decide) ?_
  refine lv_land hx hb dX14_lines_15 ?_
  refine lv_topl (fun x_139 ex_139 => ?_)
  have ex_139 := ex_139.trans (show _ = (0 : Int64) by decide)
  subst ex_139
  refine lv_lconst (v := 1) hx hb dX14_lines_16 (by decide) ?_
  refine W.lcmp hx hb dX14_lines_17 ?_
  refine lv_topi (fun x_140 ex_140 => ?_)
  have ex_140 := ex_140.trans (show _ = (-1 : Int32) by decide)
  subst ex_140
  refine lv_if_ne (tgt := 25) hx hb dX14_lines_18 (by decide) (fun _ => ?_) (fun h9 => absurd h9 (by decide))
  refine lv_iconst (v := 0) hx hb dX14_lines_25 (by decide) ?_
  refine lv_iadd hx hb dX14_lines_26 ?_
  refine lv_topi (fun x_141 ex_141 => ?_)
  have ex_141 := ex_141.trans (show _ = (0 : Int32) by decide)
  subst ex_141
  refine lv_istore_n (lv' := [(2, .int 0), (3, .int 46), (0, .long 0)]) hx hb dX14_lines_27 rfl hl (by decide) rfl (fun ls hl => ?_)
  refine lv_iinc (v := 47) (lv' := [(3, .int 47), (2, .int 0), (0, .long 0)]) hx hb dX14_lines_28 hl (k := 1) rfl (by decide) (by decide) rfl (fun ls hl => ?_)
  refine lv_goto (tgt := 4) hx hb dX14_lines_31 (by decide) ?_
  refine lv_iload_n hx hb dX14_lines_4 rfl (lv_at hl 0 rfl) ?_
  refine lv_bipush (v := 60) hx hb dX14_lines_5 (by decide) ?_
  refine lv_icmp_ge (tgt := 34) hx hb dX14_lines_7 (by decide) (fun h9 => absurd h9 (by decide)) (fun _ => ?_)
  refine lv_iload_n hx hb dX14_lines_10 rfl (lv_at hl 1 rfl) ?_
  refine lv_lload_n hx hb dX14_lines_11 rfl (lv_at hl 2 rfl) ?_
  refine lv_iload_n hx hb dX14_lines_12 rfl (lv_at hl 0 rfl) ?_
  refine lv_lshr (v := 0) hx hb dX14_lines_13 (by decide) ?_
  refine lv_lconst (v := 1) hx hb dX14_lines_14 (by decide) ?_
  refine lv_land hx hb dX14_lines_15 ?_
  refine lv_topl (fun x_142 ex_142 => ?_)
  have ex_142 := ex_142.trans (show _ = (0 : Int64) by decide)
  subst ex_142
  refine lv_lconst (v := 1) hx hb dX14_lines_16 (by decide) ?_
  refine W.lcmp hx hb dX14_lines_17 ?_
  refine lv_topi (fun x_143 ex_143 => ?_)
  have ex_143 := ex_143.trans (show _ = (-1 : Int32) by decide)
  subst ex_143
  refine lv_if_ne (tgt := 25) hx hb dX14_lines_18 (by decide) (fun _ => ?_) (fun h9 => absurd h9 (by decide))
  refine lv_iconst (v := 0) hx hb dX14_lines_25 (by decide) ?_
  refine lv_iadd hx hb dX14_lines_26 ?_
  refine lv_topi (fun x_144 ex_144 => ?_)
  have ex_144 := ex_144.trans (show _ = (0 : Int32) by decide)
  subst ex_144
  refine lv_istore_n (lv' := [(2, .int 0), (3, .int 47), (0, .long 0)]) hx hb dX14_lines_27 rfl hl (by decide) rfl (fun ls hl => ?_)
  refine lv_iinc (v := 48) (lv' := [(3, .int 48), (2, .int 0), (0, .long 0)]) hx hb dX14_lines_28 hl (k := 1) rfl (by decide) (by decide) rfl (fun ls hl => ?_)
  refine lv_goto (tgt := 4) hx hb dX14_lines_31 (by decide) ?_
  refine lv_iload_n hx hb dX14_lines_4 rfl (lv_at hl 0 rfl) ?_
  refine lv_bipush (v := 60) hx hb dX14_lines_5 (by decide) ?_
  refine lv_icmp_ge (tgt := 34) hx hb dX14_lines_7 (by decide) (fun h9 => absurd h9 (by decide)) (fun _ => ?_)
  refine lv_iload_n hx hb dX14_lines_10 rfl (lv_at hl 1 rfl) ?_
  refine lv_lload_n hx hb dX14_lines_11 rfl (lv_at hl 2 rfl) ?_
  refine lv_iload_n hx hb dX14_lines_12 rfl (lv_at hl 0 rfl) ?_
  refine lv_lshr (v := 0) hx hb dX14_lines_13 (by decide) ?_
  refine lv_lconst (v := 1) hx hb dX14_lines_14 (by decide) ?_
  refine lv_land hx hb dX14_lines_15 ?_
  refine lv_topl (fun x_145 ex_145 => ?_)
  have ex_145 := ex_145.trans (show _ = (0 : Int64) by decide)
  subst ex_145
  refine lv_lconst (v := 1) hx hb dX14_lines_16 (by decide) ?_
  refine W.lcmp hx hb dX14_lines_17 ?_
  refine lv_topi (fun x_146 ex_146 => ?_)
  have ex_146 := ex_146.trans (show _ = (-1 : Int32) by decide)
  subst ex_146
  refine lv_if_ne (tgt := 25) hx hb dX14_lines_18 (by decide) (fun _ => ?_) (fun h9 => absurd h9 (by decide))
  refine lv_iconst (v := 0) hx hb dX14_lines_25 (by decide) ?_
  refine lv_iadd hx hb dX14_lines_26 ?_
  refine lv_topi (fun x_147 ex_147 => ?_)
  have ex_147 := ex_147.trans (show _ = (0 : Int32) by decide)
  subst ex_147
  refine lv_istore_n (lv' := [(2, .int 0), (3, .int 48), (0, .long 0)]) hx hb dX14_lines_27 rfl hl (by decide) rfl (fun ls hl => ?_)
  refine lv_iinc (v := 49) (lv' := [(3, .int 49), (2, .int 0), (0, .long 0)]) hx hb dX14_lines_28 hl (k := 1) rfl (by decide) (by decide) rfl (fun ls hl => ?_)
  refine lv_goto (tgt := 4) hx hb dX14_lines_31 (by decide) ?_
  refine lv_iload_n hx hb dX14_lines_4 rfl (lv_at hl 0 rfl) ?_
  refine lv_bipush (v := 60) hx hb dX14_lines_5 (by decide) ?_
  refine lv_icmp_ge (tgt := 34) hx hb dX14_lines_7 (by decide) (fun h9 => absurd h9 (by decide)) (fun _ => ?_)
  refine lv_iload_n hx hb dX14_lines_10 rfl (lv_at hl 1 rfl) ?_
  refine lv_lload_n hx hb dX14_lines_11 rfl (lv_at hl 2 rfl) ?_
  refine lv_iload_n hx hb dX14_lines_12 rfl (lv_at hl 0 rfl) ?_
  refine lv_lshr (v := 0) hx hb dX14_lines_13 (by decide) ?_
  refine lv_lconst (v := 1) hx hb dX14_lines_14 (by decide) ?_
  refine lv_land hx hb dX14_lines_15 ?_
  refine lv_topl (fun x_148 ex_148 => ?_)
  have ex_148 := ex_148.trans (show _ = (0 : Int64) by decide)
  subst ex_148
  refine lv_lconst (v := 1) hx hb dX14_lines_16 (by decide) ?_
  refine W.lcmp hx hb dX14_lines_17 ?_
  refine lv_topi (fun x_149 ex_149 => ?_)
  have ex_149 := ex_149.trans (show _ = (-1 : Int32) by decide)
  subst ex_149
  refine lv_if_ne (tgt := 25) hx hb dX14_lines_18 (by decide) (fun _ => ?_) (fun h9 => absurd h9 (by decide))
  refine lv_iconst (v := 0) hx hb dX14_lines_25 (by decide) ?_
  refine lv_iadd hx hb dX14_lines_26 ?_
  refine lv_topi (fun x_150 ex_150 => ?_)
  have ex_150 := ex_150.trans (show _ = (0 : Int32) by decide)
  subst ex_150
  refine lv_istore_n (lv' := [(2, .int 0), (3, .int 49), (0, .long 0)]) hx hb dX14_lines_27 rfl hl (by decide) rfl (fun ls hl => ?_)
  refine lv_iinc (v := 50) (lv' := [(3, .int 50), (2, .int 0), (0, .long 0)]) hx hb dX14_lines_28 hl (k := 1) rfl (by decide) (by decide) rfl (fun ls hl => ?_)
  refine lv_goto (tgt := 4) hx hb dX14_lines_31 (by decide) ?_
  refine lv_iload_n hx hb dX14_lines_4 rfl (lv_at hl 0 rfl) ?_
  refine lv_bipush (v := 60) hx hb dX14_lines_5 (by decide) ?_
  refine lv_icmp_ge (tgt := 34) hx hb dX14_lines_7 (by decide) (fun h9 => absurd h9 (by decide)) (fun _ => ?_)
  refine lv_iload_n hx hb dX14_lines_10 rfl (lv_at hl 1 rfl) ?_
  refine lv_lload_n hx hb dX14_lines_11 rfl (lv_at hl 2 rfl) ?_
  refine lv_iload_n hx hb dX14_lines_12 rfl (lv_at hl 0 rfl) ?_
  refine lv_lshr (v := 0) hx hb dX14_lines_13 (by decide) ?_
  refine lv_lconst (v := 1) hx hb dX14_lines_14 (by decide) ?_
  refine lv_land hx hb dX14_lines_15 ?_
  refine lv_topl (fun x_151 ex_151 => ?_)
  have ex_151 := ex_151.trans (show _ = (0 : Int64) by decide)
  subst ex_151
  refine lv_lconst (v := 1) hx hb dX14_lines_16 (by decide) ?_
  refine W.lcmp hx hb dX14_lines_17 ?_
  refine lv_topi (fun x_152 ex_152 => ?_)
  have ex_152 := ex_152.trans (show _ = (-1 : Int32) by decide)
  subst ex_152
  refine lv_if_ne (tgt := 25) hx hb dX14_lines_18 (by decide) (fun _ => ?_) (fun h9 => absurd h9 (by decide))
  refine lv_iconst (v := 0) hx hb dX14_lines_25 (by decide) ?_
  refine lv_iadd hx hb dX14_lines_26 ?_
  refine lv_topi (fun x_153 ex_153 => ?_)
  have ex_153 := ex_153.trans (show _ = (0 : Int32) by decide)
  subst ex_153
  refine lv_istore_n (lv' := [(2, .int 0), (3, .int 50), (0, .long 0)]) hx hb dX14_lines_27 rfl hl (by decide) rfl (fun ls hl => ?_)
  refine lv_iinc (v := 51) (lv' := [(3, .int 51), (2, .int 0), (0, .long 0)]) hx hb dX14_lines_28 hl (k := 1) rfl (by decide) (by decide) rfl (fun ls hl => ?_)
  refine lv_goto (tgt := 4) hx hb dX14_lines_31 (by decide) ?_
  refine lv_iload_n hx hb dX14_lines_4 rfl (lv_at hl 0 rfl) ?_
  refine lv_bipush (v := 60) hx hb dX14_lines_5 (by decide) ?_
  refine lv_icmp_ge (tgt := 34) hx hb dX14_lines_7 (by decide) (fun h9 => absurd h9 (by decide)) (fun _ => ?_)
  refine lv_iload_n hx hb dX14_lines_10 rfl (lv_at hl 1 rfl) ?_
  refine lv_lload_n hx hb dX14_lines_11 rfl (lv_at hl 2 rfl) ?_
  refine lv_iload_n hx hb dX14_lines_12 rfl (lv_at hl 0 rfl) ?_
  refine lv_lshr (v := 0) hx hb dX14_lines_13 (by decide) ?_
  refine lv_lconst (v := 1) hx hb dX14_lines_14 (by decide) ?_
  refine lv_land hx hb dX14_lines_15 ?_
  refine lv_topl (fun x_154 ex_154 => ?_)
  have ex_154 := ex_154.trans (show _ = (0 : Int64) by decide)
  subst ex_154
  refine lv_lconst (v := 1) hx hb dX14_lines_16 (by decide) ?_
  refine W.lcmp hx hb dX14_lines_17 ?_
  refine lv_topi (fun x_155 ex_155 => ?_)
  have ex_155 := ex_155.trans (show _ = (-1 : Int32) by decide)
  subst ex_155
  refine lv_if_ne (tgt := 25) hx hb dX14_lines_18 (by decide) (fun _ => ?_) (fun h9 => absurd h9 (by decide))
  refine lv_iconst (v := 0) hx hb dX14_lines_25 (by decide) ?_
  refine lv_iadd hx hb dX14_lines_26 ?_
  refine lv_topi (fun x_156 ex_156 => ?_)
  have ex_156 := ex_156.trans (show _ = (0 : Int32) by decide)
  subst ex_156
  refine lv_istore_n (lv' := [(2, .int 0), (3, .int 51), (0, .long 0)]) hx hb dX14_lines_27 rfl hl (by decide) rfl (fun ls hl => ?_)
  refine lv_iinc (v := 52) (lv' := [(3, .int 52), (2, .int 0), (0, .long 0)]) hx hb dX14_lines_28 hl (k := 1) rfl (by decide) (by decide) rfl (fun ls hl => ?_)
  refine lv_goto (tgt := 4) hx hb dX14_lines_31 (by decide) ?_
  refine lv_iload_n hx hb dX14_lines_4 rfl (lv_at hl 0 rfl) ?_
  refine lv_bipush (v := 60) hx hb dX14_lines_5 (by decide) ?_
  refine lv_icmp_ge (tgt := 34) hx hb dX14_lines_7 (by decide) (fun h9 => absurd h9 (by decide)) (fun _ => ?_)
  refine lv_iload_n hx hb dX14_lines_10 rfl (lv_at hl 1 rfl) ?_
  refine lv_lload_n hx hb dX14_lines_11 rfl (lv_at hl 2 rfl) ?_
  refine lv_iload_n hx hb dX14_lines_12 rfl (lv_at hl 0 rfl) ?_
  refine lv_lshr (v := 0) hx hb dX14_lines_13 (by decide) ?_
  refine lv_lconst (v := 1) hx hb dX14_lines_14 (by decide) ?_
  refine lv_land hx hb dX14_lines_15 ?_
  refine lv_topl (fun x_157 ex_157 => ?_)
  have ex_157 := ex_157.trans (show _ = (0 : Int64) by decide)
  subst ex_157
  refine lv_lconst (v := 1) hx hb dX14_lines_16 (by decide) ?_
  refine W.lcmp hx hb dX14_lines_17 ?_
  refine lv_topi (fun x_158 ex_158 => ?_)
  have ex_158 := ex_158.trans (show _ = (-1 : Int32) by decide)
  subst ex_158
  refine lv_if_ne (tgt := 25) hx hb dX14_lines_18 (by decide) (fun _ => ?_) (fun h9 => absurd h9 (by decide))
  refine lv_iconst (v := 0) hx hb dX14_lines_25 (by decide) ?_
  refine lv_iadd hx hb dX14_lines_26 ?_
  refine lv_topi (fun x_159 ex_159 => ?_)
  have ex_159 := ex_159.trans (show _ = (0 : Int32) by decide)
  subst ex_159
  refine lv_istore_n (lv' := [(2, .int 0), (3, .int 52), (0, .long 0)]) hx hb dX14_lines_27 rfl hl (by decide) rfl (fun ls hl => ?_)
  refine lv_iinc (v := 53) (lv' := [(3, .int 53), (2, .int 0), (0, .long 0)]) hx hb dX14_lines_28 hl (k := 1) rfl (by decide) (by decide) rfl (fun ls hl => ?_)
  refine lv_goto (tgt := 4) hx hb dX14_lines_31 (by decide) ?_
  refine lv_iload_n hx hb dX14_lines_4 rfl (lv_at hl 0 rfl) ?_
  refine lv_bipush (v := 60) hx hb dX14_lines_5 (by decide) ?_
  refine lv_icmp_ge (tgt := 34) hx hb dX14_lines_7 (by decide) (fun h9 => absurd h9 (by decide)) (fun _ => ?_)
  refine lv_iload_n hx hb dX14_lines_10 rfl (lv_at hl 1 rfl) ?_
  refine lv_lload_n hx hb dX14_lines_11 rfl (lv_at hl 2 rfl) ?_
  refine lv_iload_n hx hb dX14_lines_12 rfl (lv_at hl 0 rfl) ?_
  refine lv_lshr (v := 0) hx hb dX14_lines_13 (by decide) ?_
  refine lv_lconst (v := 1) hx hb dX14_lines_14 (by decide) ?_
  refine lv_land hx hb dX14_lines_15 ?_
  refine lv_topl (fun x_160 ex_160 => ?_)
  have ex_160 := ex_160.trans (show _ = (0 : Int64) by decide)
  subst ex_160
  refine lv_lconst (v := 1) hx hb dX14_lines_16 (by decide) ?_
  refine W.lcmp hx hb dX14_lines_17 ?_
  refine lv_topi (fun x_161 ex_161 => ?_)
  have ex_161 := ex_161.trans (show _ = (-1 : Int32) by decide)
  subst ex_161
  refine lv_if_ne (tgt := 25) hx hb dX14_lines_18 (by decide) (fun _ => ?_) (fun h9 => absurd h9 (by decide))
  refine lv_iconst (v := 0) hx hb dX14_lines_25 (by decide) ?_
  refine lv_iadd hx hb dX14_lines_26 ?_
  refine lv_topi (fun x_162 ex_162 => ?_)
  have ex_162 := ex_162.trans (show _ = (0 : Int32) by decide)
  subst ex_162
  refine lv_istore_n (lv' := [(2, .int 0), (3, .int 53), (0, .long 0)]) hx hb dX14_lines_27 rfl hl (by decide) rfl (fun ls hl => ?_)
  refine lv_iinc (v := 54) (lv' := [(3, .int 54), (2, .int 0), (0, .long 0)]) hx hb dX14_lines_28 hl (k := 1) rfl (by decide) (by decide) rfl (fun ls hl => ?_)
  refine lv_goto (tgt := 4) hx hb dX14_lines_31 (by decide) ?_
  refine lv_iload_n hx hb dX14_lines_4 rfl (lv_at hl 0 rfl) ?_
  refine lv_bipush (v := 60) hx hb dX14_lines_5 (by decide) ?_
  refine lv_icmp_ge (tgt := 34) hx hb dX14_lines_7 (by decide) (fun h9 => absurd h9 (by decide)) (fun _ => ?_)
  refine lv_iload_n hx hb dX14_lines_10 rfl (lv_at hl 1 rfl) ?_
  refine lv_lload_n hx hb dX14_lines_11 rfl (lv_at hl 2 rfl) ?_
  refine lv_iload_n hx hb dX14_lines_12 rfl (lv_at hl 0 rfl) ?_
  refine lv_lshr (v := 0) hx hb dX14_lines_13 (by decide) ?_
  refine lv_lconst (v := 1) hx hb dX14_lines_14 (by decide) ?_
  refine lv_land hx hb dX14_lines_15 ?_
  refine lv_topl (fun x_163 ex_163 => ?_)
  have ex_163 := ex_163.trans (show _ = (0 : Int64) by decide)
  subst ex_163
  refine lv_lconst (v := 1) hx hb dX14_lines_16 (by decide) ?_
  refine W.lcmp hx hb dX14_lines_17 ?_
  refine lv_topi (fun x_164 ex_164 => ?_)
  have ex_164 := ex_164.trans (show _ = (-1 : Int32) by decide)
  subst ex_164
  refine lv_if_ne (tgt := 25) hx hb dX14_lines_18 (by decide) (fun _ => ?_) (fun h9 => absurd h9 (by decide))
  refine lv_iconst (v := 0) hx hb dX14_lines_25 (by decide) ?_
  refine lv_iadd hx hb dX14_lines_26 ?_
  refine lv_topi (fun x_165 ex_165 => ?_)
  have ex_165 := ex_165.trans (show _ = (0 : Int32) by decide)
  subst ex_165
  refine lv_istore_n (lv' := [(2, .int 0), (3, .int 54), (0, .long 0)]) hx hb dX14_lines_27 rfl hl (by decide) rfl (fun ls hl => ?_)
  refine lv_iinc (v := 55) (lv' := [(3, .int 55), (2, .int 0), (0, .long 0)]) hx hb dX14_lines_28 hl (k := 1) rfl (by decide) (by decide) rfl (fun ls hl => ?_)
  refine lv_goto (tgt := 4) hx hb dX14_lines_31 (by decide) ?_
  refine lv_iload_n hx hb dX14_lines_4 rfl (lv_at hl 0 rfl) ?_
  refine lv_bipush (v := 60) hx hb dX14_lines_5 (by decide) ?_
  refine lv_icmp_ge (tgt := 34) hx hb dX14_lines_7 (by decide) (fun h9 => absurd h9 (by decide)) (fun _ => ?_)
  refine lv_iload_n hx hb dX14_lines_10 rfl (lv_at hl 1 rfl) ?_
  refine lv_lload_n hx hb dX14_lines_11 rfl (lv_at hl 2 rfl) ?_
  refine lv_iload_n hx hb dX14_lines_12 rfl (lv_at hl 0 rfl) ?_
  refine lv_lshr (v := 0) hx hb dX14_lines_13 (by decide) ?_
  refine lv_lconst (v := 1) hx hb dX14_lines_14 (by decide) ?_
  refine lv_land hx hb dX14_lines_15 ?_
  refine lv_topl (fun x_166 ex_166 => ?_)
  have ex_166 := ex_166.trans (show _ = (0 : Int64) by decide)
  subst ex_166
  refine lv_lconst (v := 1) hx hb dX14_lines_16 (by decide) ?_
  refine W.lcmp hx hb dX14_lines_17 ?_
  refine lv_topi (fun x_167 ex_167 => ?_)
  have ex_167 := ex_167.trans (show _ = (-1 : Int32) by decide)
  subst ex_167
  refine lv_if_ne (tgt := 25) hx hb dX14_lines_18 (by decide) (fun _ => ?_) (fun h9 => absurd h9 (by decide))
  refine lv_iconst (v := 0) hx hb dX14_lines_25 (by decide) ?_
  refine lv_iadd hx hb dX14_lines_26 ?_
  refine lv_topi (fun x_168 ex_168 => ?_)
  have ex_168 := ex_168.trans (show _ = (0 : Int32) by decide)
  subst ex_168
  refine lv_istore_n (lv' := [(2, .int 0), (3, .int 55), (0, .long 0)]) hx hb dX14_lines_27 rfl hl (by decide) rfl (fun ls hl => ?_)
  refine lv_iinc (v := 56) (lv' := [(3, .int 56), (2, .int 0), (0, .long 0)]) hx hb dX14_lines_28 hl (k := 1) rfl (by decide) (by decide) rfl (fun ls hl => ?_)
  refine lv_goto (tgt := 4) hx hb dX14_lines_31 (by decide) ?_
  refine lv_iload_n hx hb dX14_lines_4 rfl (lv_at hl 0 rfl) ?_
  refine lv_bipush (v := 60) hx hb dX14_lines_5 (by decide) ?_
  refine lv_icmp_ge (tgt := 34) hx hb dX14_lines_7 (by decide) (fun h9 => absurd h9 (by decide)) (fun _ => ?_)
  refine lv_iload_n hx hb dX14_lines_10 rfl (lv_at hl 1 rfl) ?_
  refine lv_lload_n hx hb dX14_lines_11 rfl (lv_at hl 2 rfl) ?_
  refine lv_iload_n hx hb dX14_lines_12 rfl (lv_at hl 0 rfl) ?_
  refine lv_lshr (v := 0) hx hb dX14_lines_13 (by decide) ?_
  refine lv_lconst (v := 1) hx hb dX14_lines_14 (by decide) ?_
  refine lv_land hx hb dX14_lines_15 ?_
  refine lv_topl (fun x_169 ex_169 => ?_)
  have ex_169 := ex_169.trans (show _ = (0 : Int64) by decide)
  subst ex_169
  refine lv_lconst (v := 1) hx hb dX14_lines_16 (by decide) ?_
  refine W.lcmp hx hb dX14_lines_17 ?_
  refine lv_topi (fun x_170 ex_170 => ?_)
  have ex_170 := ex_170.trans (show _ = (-1 : Int32) by decide)
  subst ex_170
  refine lv_if_ne (tgt := 25) hx hb dX14_lines_18 (by decide) (fun _ => ?_) (fun h9 => absurd h9 (by decide))
  refine lv_iconst (v := 0) hx hb dX14_lines_25 (by decide) ?_
  refine lv_iadd hx hb dX14_lines_26 ?_
  refine lv_topi (fun x_171 ex_171 => ?_)
  have ex_171 := ex_171.trans (show _ = (0 : Int32) by decide)
  subst ex_171
  refine lv_istore_n (lv' := [(2, .int 0), (3, .int 56), (0, .long 0)]) hx hb dX14_lines_27 rfl hl (by decide) rfl (fun ls hl => ?_)
  refine lv_iinc (v := 57) (lv' := [(3, .int 57), (2, .int 0), (0, .long 0)]) hx hb dX14_lines_28 hl (k := 1) rfl (by decide) (by decide) rfl (fun ls hl => ?_)
  refine lv_goto (tgt := 4) hx hb dX14_lines_31 (by decide) ?_
  refine lv_iload_n hx hb dX14_lines_4 rfl (lv_at hl 0 rfl) ?_
  refine lv_bipush (v := 60) hx hb dX14_lines_5 (by decide) ?_
  refine lv_icmp_ge (tgt := 34) hx hb dX14_lines_7 (by decide) (fun h9 => absurd h9 (by decide)) (fun _ => ?_)
  refine lv_iload_n hx hb dX14_lines_10 rfl (lv_at hl 1 rfl) ?_
  refine lv_lload_n hx hb dX14_lines_11 rfl (lv_at hl 2 rfl) ?_
  refine lv_iload_n hx hb dX14_lines_12 rfl (lv_at hl 0 rfl) ?_
  refine lv_lshr (v := 0) hx hb dX14_lines_13 (by decide) ?_
  refine lv_lconst (v := 1) hx hb dX14_lines_14 (by decide) ?_
  refine lv_land hx hb dX14_lines_15 ?_
  refine lv_topl (fun x_172 ex_172 => ?_)
  have ex_172 := ex_172.trans (show _ = (0 : Int64) by decide)
  subst ex_172
  refine lv_lconst (v := 1) hx hb dX14_lines_16 (by decide) ?_
  refine W.lcmp hx hb dX14_lines_17 ?_
  refine lv_topi (fun x_173 ex_173 => ?_)
  have ex_173 := ex_173.trans (show _ = (-1 : Int32) by decide)
  subst ex_173
  refine lv_if_ne (tgt := 25) hx hb dX14_lines_18 (by decide) (fun _ => ?_) (fun h9 => absurd h9 (by decide))
  refine lv_iconst (v := 0) hx hb dX14_lines_25 (by decide) ?_
  refine lv_iadd hx hb dX14_lines_26 ?_
  refine lv_topi (fun x_174 ex_174 => ?_)
  have ex_174 := ex_174.trans (show _ = (0 : Int32) by decide)
  subst ex_174
  refine lv_istore_n (lv' := [(2, .int 0), (3, .int 57), (0, .long 0)]) hx hb dX14_lines_27 rfl hl (by decide) rfl (fun ls hl => ?_)
  refine lv_iinc (v := 58) (lv' := [(3, .int 58), (2, .int 0), (0, .long 0)]) hx hb dX14_lines_28 hl (k := 1) rfl (by decide) (by decide) rfl (fun ls hl => ?_)
  refine lv_goto (tgt := 4) hx hb dX14_lines_31 (by decide) ?_
  refine lv_iload_n hx hb dX14_lines_4 rfl (lv_at hl 0 rfl) ?_
  refine lv_bipush (v := 60) hx hb dX14_lines_5 (by decide) ?_
  refine lv_icmp_ge (tgt := 34) hx hb dX14_lines_7 (by decide) (fun h9 => absurd h9 (by decide)) (fun _ => ?_)
  refine lv_iload_n hx hb dX14_lines_10 rfl (lv_at hl 1 rfl) ?_
  refine lv_lload_n hx hb dX14_lines_11 rfl (lv_at hl 2 rfl) ?_
  refine lv_iload_n hx hb dX14_lines_12 rfl (lv_at hl 0 rfl) ?_
  refine lv_lshr (v := 0) hx hb dX14_lines_13 (by decide) ?_
  refine lv_lconst (v := 1) hx hb dX14_lines_14 (by decide) ?_
  refine lv_land hx hb dX14_lines_15 ?_
  refine lv_topl (fun x_175 ex_175 => ?_)
  have ex_175 := ex_175.trans (show _ = (0 : Int64) by decide)
  subst ex_175
  refine lv_lconst (v := 1) hx hb dX14_lines_16 (by decide) ?_
  refine W.lcmp hx hb dX14_lines_17 ?_
  refine lv_topi (fun x_176 ex_176 => ?_)
  have ex_176 := ex_176.trans (show _ = (-1 : Int32) by decide)
  subst ex_176
  refine lv_if_ne (tgt := 25) hx hb dX14_lines_18 (by decide) (fun _ => ?_) (fun h9 => absurd h9 (by decide))
  refine lv_iconst (v := 0) hx hb dX14_lines_25 (by decide) ?_
  refine lv_iadd hx hb dX14_lines_26 ?_
  refine lv_topi (fun x_177 ex_177 => ?_)
  have ex_177 := ex_177.trans (show _ = (0 : Int32) by decide)
  subst ex_177
  refine lv_istore_n (lv' := [(2, .int 0), (3, .int 58), (0, .long 0)]) hx hb dX14_lines_27 rfl hl (by decide) rfl (fun ls hl => ?_)
  refine lv_iinc (v := 59) (lv' := [(3, .int 59), (2, .int 0), (0, .long 0)]) hx hb dX14_lines_28 hl (k := 1) rfl (by decide) (by decide) rfl (fun ls hl => ?_)
  refine lv_goto (tgt := 4) hx hb dX14_lines_31 (by decide) ?_
  refine lv_iload_n hx hb dX14_lines_4 rfl (lv_at hl 0 rfl) ?_
  refine lv_bipush (v := 60) hx hb dX14_lines_5 (by decide) ?_
  refine lv_icmp_ge (tgt := 34) hx hb dX14_lines_7 (by decide) (fun h9 => absurd h9 (by decide)) (fun _ => ?_)
  refine lv_iload_n hx hb dX14_lines_10 rfl (lv_at hl 1 rfl) ?_
  refine lv_lload_n hx hb dX14_lines_11 rfl (lv_at hl 2 rfl) ?_
  refine lv_iload_n hx hb dX14_lines_12 rfl (lv_at hl 0 rfl) ?_
  refine lv_lshr (v := 0) hx hb dX14_lines_13 (by decide) ?_
  refine lv_lconst (v := 1) hx hb dX14_lines_14 (by decide) ?_
  refine lv_land hx hb dX14_lines_15 ?_
  refine lv_topl (fun x_178 ex_178 => ?_)
  have ex_178 := ex_178.trans (show _ = (0 : Int64) by decide)
  subst ex_178
  refine lv_lconst (v := 1) hx hb dX14_lines_16 (by decide) ?_
  refine W.lcmp hx hb dX14_lines_17 ?_
  refine lv_topi (fun x_179 ex_179 => ?_)
  have ex_179 := ex_179.trans (show _ = (-1 : Int32) by decide)
  subst ex_179
  refine lv_if_ne (tgt := 25) hx hb dX14_lines_18 (by decide) (fun _ => ?_) (fun h9 => absurd h9 (by decide))
  refine lv_iconst (v := 0) hx hb dX14_lines_25 (by decide) ?_
  refine lv_iadd hx hb dX14_lines_26 ?_
  refine lv_topi (fun x_180 ex_180 => ?_)
  have ex_180 := ex_180.trans (show _ = (0 : Int32) by decide)
  subst ex_180
  refine lv_istore_n (lv' := [(2, .int 0), (3, .int 59), (0, .long 0)]) hx hb dX14_lines_27 rfl hl (by decide) rfl (fun ls hl => ?_)
  refine lv_iinc (v := 60) (lv' := [(3, .int 60), (2, .int 0), (0, .long 0)]) hx hb dX14_lines_28 hl (k := 1) rfl (by decide) (by decide) rfl (fun ls hl => ?_)
  refine lv_goto (tgt := 4) hx hb dX14_lines_31 (by decide) ?_
  refine lv_iload_n hx hb dX14_lines_4 rfl (lv_at hl 0 rfl) ?_
  refine lv_bipush (v := 60) hx hb dX14_lines_5 (by decide) ?_
  refine lv_icmp_ge (tgt := 34) hx hb dX14_lines_7 (by decide) (fun _ => ?_) (fun h9 => absurd (by decide) h9)
  refine lv_iload_n hx hb dX14_lines_34 rfl (lv_at hl 1 rfl) ?_
  have hP9 := hP.sub (ws' := []) [] rfl
  have hD9 := hD.sub (ws' := []) [] (by decide) rfl
  have hK9 := hK.sub (tys' := []) [] rfl
  refine W.widen (k := 0) (n := 0) (Nat.le_of_ble_eq_true rfl) (Nat.le_of_ble_eq_true rfl) ?_
  exact W.iret (v := 0) hx hb hr (fun t ht hW => ⟨⟨0, (), rfl, rfl, by rw [ht]; exact hP9, va_K.moved hW.alike hK9, hD9⟩, hS.F ht⟩) hS.2.2 dX14_lines_35

def z_wX14_shown : List Cond := .code yX14_shown cX14_shown 1 (some .int) :: ([.fieldLink RX14 76 "LessonMakerModel" "thrown" "I", .fieldLink RX14 324 "LessonMakerModel" "runs" "I", .methodLink RX14 428 yX14_shownBy, .instanceMethod yX14_shownBy, .selects RX14 yX14_shownBy yX14_shownBy, .initialized RX14, .code yX14_shownBy cX14_shownBy 4 (some .long), .methodLink RX14 414 yX14_lines, .static yX14_lines, .code yX14_lines cX14_lines 4 (some .int)] ++ (u_ws RX14 TX14 40))
set_option maxRecDepth 20000 in
theorem c_X14_shown_zg_1 : GoodIn z_wX14_shown (wsV RX14 428 RX14 yX14_shownBy z_wX14_shownBy) := goodIn_r _ [3, 4, 5, 6, 7, 2, 11, 12, 13, 14, 15, 16, 17, 18, 19, 20, 21, 22, 23, 24, 25, 26, 27, 28, 29, 30, 31, 32, 33, 34, 35, 36, 37, 38, 39, 40, 41, 42, 43, 44, 45, 46, 47, 48, 49, 50] (by decide +kernel) (by decide +kernel)
set_option maxRecDepth 20000 in
theorem c_X14_shown_zg_3 : GoodIn z_wX14_shown (va_wsS RX14 414 yX14_lines z_wX14_lines) := goodIn_r _ [8, 9, 6, 10] (by decide +kernel) (by decide +kernel)
set_option maxHeartbeats 4000000 in
set_option maxRecDepth 100000 in
theorem c_X14_shown (l : Launch) (dC : Nat → ClassId) (dI : Nat → Nat → Nat) (h0 : Nat) (mp : Nat) (mq : Nat) (ms : Nat) (mo : Nat) (mt : Nat) (ml : Nat) (mw : Nat) (m1 : Nat) (m2 : Nat) (m3 : Nat) (m4 : Nat) (m5 : Nat) (m6 : Nat) (m7 : Nat) (m8 : Nat) (m9 : Nat) (sz : Nat) : Met l yX14_shown z_wX14_shown ({ frames := 1, cells := 0, slots := 0, locals := 23 }) (va_Pc [.ref h0] (z_in dC dI [(h0, .inr (14, [.int 0, .int 0, .int (-1), .int 0, .ref mp, .ref mq, .ref ms, .int 0, .int 0, .ref mo, .ref mt, .int 0, .int 0, .int 0, .int 0, .int 0, .int 0, .int 0, .int 0, .int 0, .int 0, .long 0, .ref ml, .ref mw, .int 0, .ref m1, .int 0, .int 0, .int 0, .int 0, .ref m2, .ref m3, .int 0, .int 0, .ref m4, .ref m5, .ref m6, .ref m7, .ref m8, .ref m9]))] [] sz)) (va_Qi (fun (r : Int32) (_ : Unit) => r = 0) (fun (_ : Unit) t => z_out dC dI (va_A [(h0, .inr (14, [.int 0, .int 0, .int (-1), .int 0, .ref mp, .ref mq, .ref ms, .int 0, .int 0, .ref mo, .ref mt, .int 0, .int 0, .int 0, .int 0, .int 0, .int 0, .int 0, .int 0, .int 0, .int 0, .long 0, .ref ml, .ref mw, .int 0, .ref m1, .int 0, .int 0, .int 0, .int 0, .ref m2, .ref m3, .int 0, .int 0, .ref m4, .ref m5, .ref m6, .ref m7, .ref m8, .ref m9]))] sz) [] [] t) (va_A [(h0, .inr (14, [.int 0, .int 0, .int (-1), .int 0, .ref mp, .ref mq, .ref ms, .int 0, .int 0, .ref mo, .ref mt, .int 0, .int 0, .int 0, .int 0, .int 0, .int 0, .int 0, .int 0, .int 0, .int 0, .long 0, .ref ml, .ref mw, .int 0, .ref m1, .int 0, .int 0, .int 0, .int 0, .ref m2, .ref m3, .int 0, .int 0, .ref m4, .ref m5, .ref m6, .ref m7, .ref m8, .ref m9]))] sz)) 0 0 (va_A [(h0, .inr (14, [.int 0, .int 0, .int (-1), .int 0, .ref mp, .ref mq, .ref ms, .int 0, .int 0, .ref mo, .ref mt, .int 0, .int 0, .int 0, .int 0, .int 0, .int 0, .int 0, .int 0, .int 0, .int 0, .long 0, .ref ml, .ref mw, .int 0, .ref m1, .int 0, .int 0, .int 0, .int 0, .ref m2, .ref m3, .int 0, .int 0, .ref m4, .ref m5, .ref m6, .ref m7, .ref m8, .ref m9]))] sz) := by
  refine Met.ofW (cc := cX14_shown) (maxL := 1) (ret := (some .int)) (by decide) rfl ?_
  intro p e s m args below meth c s₁ B hml hv
  obtain ⟨rfl, hsz, hP, hK, hD0, hN⟩ := hv
  have hx := B.exec
  have hb := B.bytes
  have hr := B.returns
  have hts := atoms_spec (ws := z_wX14_shown) B.pre
  have hown : s.vm.findClass RX14 = some m.cls := findClass_of_methodNamed B.named
  have hlocks := B.notSynchronized
  have hin_14 : ∀ w ∈ u_ws RX14 TX14 40, w ∈ z_wX14_shown := by decide +kernel
  subst hsz
  have hD := hD0.self (sz := s.heap.size)
  generalize hAe : va_A [(h0, .inr (14, [.int 0, .int 0, .int (-1), .int 0, .ref mp, .ref mq, .ref ms, .int 0, .int 0, .ref mo, .ref mt, .int 0, .int 0, .int 0, .int 0, .int 0, .int 0, .int 0, .int 0, .int 0, .int 0, .long 0, .ref ml, .ref mw, .int 0, .ref m1, .int 0, .int 0, .int 0, .int 0, .ref m2, .ref m3, .int 0, .int 0, .ref m4, .ref m5, .ref m6, .ref m7, .ref m8, .ref m9]))] s.heap.size = A at hD ⊢
  have hA : ∀ q : Nat, s.heap.size ≤ q → A q := fun q h => by rw [← hAe]; exact Or.inr h
  have hS : va_S A s.heap s.heap [] := va_S.rf
  have hP : va_P (dC, dI) z_Cl [(h0, .inr (14, [.int 0, .int 0, .int (-1), .int 0, .ref mp, .ref mq, .ref ms, .int 0, .int 0, .ref mo, .ref mt, .int 0, .int 0, .int 0, .int 0, .int 0, .int 0, .int 0, .int 0, .int 0, .int 0, .long 0, .ref ml, .ref mw, .int 0, .ref m1, .int 0, .int 0, .int 0, .int 0, .ref m2, .ref m3, .int 0, .int 0, .ref m4, .ref m5, .ref m6, .ref m7, .ref m8, .ref m9]))] s.heap := hP
  have hl := lv_entry ([.ref h0]) (n := 1) (Nat.le_of_ble_eq_true rfl)
  rw [lg_entry_eq]
  generalize (lg_sl ([.ref h0]) ++ List.replicate (1 - (lg_sl ([.ref h0])).length) Slot.unset).toArray = ls at hl ⊢
  have hl : lv_has ls 1 [(0, .ref h0)] := hl
  refine lv_aload_n hx hb dX14_shown_0 rfl (lv_at hl 0 rfl) ?_
  refine lv_iconst (v := 0) hx hb dX14_shown_1 (by decide) ?_
  refine va_put (D := (dC, dI)) (ci := 14) (v := .int 0) (ty := .int) (C := RX14) (T := TX14) (N := 40) hx hb hts hin_14 tyX14 tyX14_ok nmX14 hown hK hP hD hS 0 rfl rfl 0 (by decide) (hts (.fieldLink RX14 76 "LessonMakerModel" "thrown" "I") (List.mem_of_getElem? (i := 1) rfl)) (fun _ h9 => h9) rfl (by decide +kernel) rfl rfl (Nat.le_of_ble_eq_true rfl) dX14_shown_2 (fun H locs hP hD hS => ?_)
  have hP : va_P (dC, dI) z_Cl [(h0, .inr (14, [.int 0, .int 0, .int (-1), .int 0, .ref mp, .ref mq, .ref ms, .int 0, .int 0, .ref mo, .ref mt, .int 0, .int 0, .int 0, .int 0, .int 0, .int 0, .int 0, .int 0, .int 0, .int 0, .long 0, .ref ml, .ref mw, .int 0, .ref m1, .int 0, .int 0, .int 0, .int 0, .ref m2, .ref m3, .int 0, .int 0, .ref m4, .ref m5, .ref m6, .ref m7, .ref m8, .ref m9]))] H := hP
  have hD : va_D A [(h0, .inr (14, [.int 0, .int 0, .int (-1), .int 0, .ref mp, .ref mq, .ref ms, .int 0, .int 0, .ref mo, .ref mt, .int 0, .int 0, .int 0, .int 0, .int 0, .int 0, .int 0, .int 0, .int 0, .int 0, .long 0, .ref ml, .ref mw, .int 0, .ref m1, .int 0, .int 0, .int 0, .int 0, .ref m2, .ref m3, .int 0, .int 0, .ref m4, .ref m5, .ref m6, .ref m7, .ref m8, .ref m9]))] := hD
  refine lv_aload_n hx hb dX14_shown_5 rfl (lv_at hl 0 rfl) ?_
  have hPc := hP.sub (ws' := [(h0, .inr (14, [.int 0, .int 0, .int (-1), .int 0, .ref mp, .ref mq, .ref ms, .int 0, .int 0, .ref mo, .ref mt, .int 0, .int 0, .int 0, .int 0, .int 0, .int 0, .int 0, .int 0, .int 0, .int 0, .long 0, .ref ml, .ref mw, .int 0, .ref m1, .int 0, .int 0, .int 0, .int 0, .ref m2, .ref m3, .int 0, .int 0, .ref m4, .ref m5, .ref m6, .ref m7, .ref m8, .ref m9]))]) [0] rfl
  have hDc := hD.sub (ws' := [(h0, .inr (14, [.int 0, .int 0, .int (-1), .int 0, .ref mp, .ref mq, .ref ms, .int 0, .int 0, .ref mo, .ref mt, .int 0, .int 0, .int 0, .int 0, .int 0, .int 0, .int 0, .int 0, .int 0, .int 0, .long 0, .ref ml, .ref mw, .int 0, .ref m1, .int 0, .int 0, .int 0, .int 0, .ref m2, .ref m3, .int 0, .int 0, .ref m4, .ref m5, .ref m6, .ref m7, .ref m8, .ref m9]))]) [0] (by decide) rfl
  have hKc := hK.sub (tys' := []) [] rfl
  have hFc := va_free (wc := [(h0, .inr (14, [.int 0, .int 0, .int (-1), .int 0, .ref mp, .ref mq, .ref ms, .int 0, .int 0, .ref mo, .ref mt, .int 0, .int 0, .int 0, .int 0, .int 0, .int 0, .int 0, .int 0, .int 0, .int 0, .long 0, .ref ml, .ref mw, .int 0, .ref m1, .int 0, .int 0, .int 0, .int 0, .ref m2, .ref m3, .int 0, .int 0, .ref m4, .ref m5, .ref m6, .ref m7, .ref m8, .ref m9]))]) hD hS hA [0] rfl
  refine va_calll (va_runV (As := []) (rest := []) ⟨hx, hb, hml, hown, hts⟩ (c_X14_shownBy l dC dI h0 mp mq ms mo mt ml mw m1 m2 m3 m4 m5 m6 m7 m8 m9 H.size) (cwV 0 hts c_X14_shown_zg_1 rfl rfl rfl (by decide +kernel) ⟨(Nat.le_of_ble_eq_true rfl), (Nat.le_of_ble_eq_true rfl)⟩) ⟨z_blind, va_recv hKc hPc (ci := 14) (q0 := 0) rfl rfl, z_pre hPc hKc hDc hN⟩ rfl rfl hl.1 rfl (lv_room (Nat.le_of_ble_eq_true rfl)) dX14_shown_6 ⟨(Nat.le_of_ble_eq_true rfl), (Nat.le_of_ble_eq_true rfl)⟩) hS (fun q _ h => hFc q h) hFc (fun r_2 u t H1 locs ht hvm hw hB hz1 hk1 hS => ?_)
  obtain ⟨hP1, hK1, hD1⟩ := hB
  rw [ht] at hP1
  have hK1 := va_K.moved hvm.symm hK1
  obtain ⟨hP, hD⟩ := va_join (wr := []) (w1 := [(h0, .inr (14, [.int 0, .int 0, .int (-1), .int 0, .ref mp, .ref mq, .ref ms, .int 0, .int 0, .ref mo, .ref mt, .int 0, .int 0, .int 0, .int 0, .int 0, .int 0, .int 0, .int 0, .int 0, .int 0, .long 0, .ref ml, .ref mw, .int 0, .ref m1, .int 0, .int 0, .int 0, .int 0, .ref m2, .ref m3, .int 0, .int 0, .ref m4, .ref m5, .ref m6, .ref m7, .ref m8, .ref m9]))]) hP hD [0] [] rfl rfl (by decide) (by decide) hk1 hFc hP1 hD1
  have hK := (hK.sub (tys' := []) [] rfl).app hK1
  generalize H1 = H at hP hS ⊢
  have hP : va_P (dC, dI) z_Cl [(h0, .inr (14, [.int 0, .int 0, .int (-1), .int 0, .ref mp, .ref mq, .ref ms, .int 0, .int 0, .ref mo, .ref mt, .int 0, .int 0, .int 0, .int 0, .int 0, .int 0, .int 0, .int 0, .int 0, .int 0, .long 0, .ref ml, .ref mw, .int 0, .ref m1, .int 0, .int 0, .int 0, .int 0, .ref m2, .ref m3, .int 0, .int 0, .ref m4, .ref m5, .ref m6, .ref m7, .ref m8, .ref m9]))] H := hP
  have hD : va_D A [(h0, .inr (14, [.int 0, .int 0, .int (-1), .int 0, .ref mp, .ref mq, .ref ms, .int 0, .int 0, .ref mo, .ref mt, .int 0, .int 0, .int 0, .int 0, .int 0, .int 0, .int 0, .int 0, .int 0, .int 0, .long 0, .ref ml, .ref mw, .int 0, .ref m1, .int 0, .int 0, .int 0, .int 0, .ref m2, .ref m3, .int 0, .int 0, .ref m4, .ref m5, .ref m6, .ref m7, .ref m8, .ref m9]))] := hD
  have hK : va_K (dC, dI) z_Cl [] s := hK
  have hw : r_2 = 0 := hw
  subst hw
  have hPc := hP.sub (ws' := []) [] rfl
  have hDc := hD.sub (ws' := []) [] (by decide) rfl
  have hKc := hK.sub (tys' := []) [] rfl
  have hFc := va_free (wc := []) hD hS hA [] rfl
  refine va_calli (va_runS (As := [.long 0]) (rest := []) ⟨hx, hb, hml, hown, hts⟩ (c_X14_lines l dC dI  H.size) (va_cwS 1 hts c_X14_shown_zg_3 rfl rfl rfl (by decide +kernel) ⟨(Nat.le_of_ble_eq_true rfl), (Nat.le_of_ble_eq_true rfl)⟩) ⟨z_blind, z_pre hPc hKc hDc hN⟩ rfl rfl hl.1 rfl (lv_room (Nat.le_of_ble_eq_true rfl)) dX14_shown_9 ⟨(Nat.le_of_ble_eq_true rfl), (Nat.le_of_ble_eq_true rfl)⟩) hS (fun q _ h => hFc q h) hFc (fun r_4 u t H1 locs ht hvm hw hB hz1 hk1 hS => ?_)
  obtain ⟨hP1, hK1, hD1⟩ := hB
  rw [ht] at hP1
  have hK1 := va_K.moved hvm.symm hK1
  obtain ⟨hP, hD⟩ := va_join (wr := [(h0, .inr (14, [.int 0, .int 0, .int (-1), .int 0, .ref mp, .ref mq, .ref ms, .int 0, .int 0, .ref mo, .ref mt, .int 0, .int 0, .int 0, .int 0, .int 0, .int 0, .int 0, .int 0, .int 0, .int 0, .long 0, .ref ml, .ref mw, .int 0, .ref m1, .int 0, .int 0, .int 0, .int 0, .ref m2, .ref m3, .int 0, .int 0, .ref m4, .ref m5, .ref m6, .ref m7, .ref m8, .ref m9]))]) (w1 := []) hP hD [] [0] rfl rfl (by decide) (by decide) hk1 hFc hP1 hD1
  have hK := (hK.sub (tys' := []) [] rfl).app hK1
  generalize H1 = H at hP hS ⊢
  have hP : va_P (dC, dI) z_Cl [(h0, .inr (14, [.int 0, .int 0, .int (-1), .int 0, .ref mp, .ref mq, .ref ms, .int 0, .int 0, .ref mo, .ref mt, .int 0, .int 0, .int 0, .int 0, .int 0, .int 0, .int 0, .int 0, .int 0, .int 0, .long 0, .ref ml, .ref mw, .int 0, .ref m1, .int 0, .int 0, .int 0, .int 0, .ref m2, .ref m3, .int 0, .int 0, .ref m4, .ref m5, .ref m6, .ref m7, .ref m8, .ref m9]))] H := hP
  have hD : va_D A [(h0, .inr (14, [.int 0, .int 0, .int (-1), .int 0, .ref mp, .ref mq, .ref ms, .int 0, .int 0, .ref mo, .ref mt, .int 0, .int 0, .int 0, .int 0, .int 0, .int 0, .int 0, .int 0, .int 0, .int 0, .long 0, .ref ml, .ref mw, .int 0, .ref m1, .int 0, .int 0, .int 0, .int 0, .ref m2, .ref m3, .int 0, .int 0, .ref m4, .ref m5, .ref m6, .ref m7, .ref m8, .ref m9]))] := hD
  have hK : va_K (dC, dI) z_Cl [] s := hK
  have hw : r_4 = 0 := hw
  subst hw
  have hP9 := hP.sub (ws' := []) [] rfl
  have hD9 := hD.sub (ws' := []) [] (by decide) rfl
  have hK9 := hK.sub (tys' := []) [] rfl
  refine W.widen (k := 0) (n := 0) (Nat.le_of_ble_eq_true rfl) (Nat.le_of_ble_eq_true rfl) ?_
  exact W.iret (v := 0) hx hb hr (fun t ht hW => ⟨⟨0, (), rfl, rfl, by rw [ht]; exact hP9, va_K.moved hW.alike hK9, hD9⟩, hS.F ht⟩) hS.2.2 dX14_shown_12

def z_wX14_fewest : List Cond := .code yX14_fewest cX14_fewest 8 (some .int) :: ([.fieldLink RX14 76 "LessonMakerModel" "thrown" "I", .fieldLink RX14 324 "LessonMakerModel" "runs" "I", .methodLink RX14 428 yX14_shownBy, .instanceMethod yX14_shownBy, .selects RX14 yX14_shownBy yX14_shownBy, .initialized RX14, .code yX14_shownBy cX14_shownBy 4 (some .long), .fieldLink RX14 327 "LessonMakerModel" "picks" "I"] ++ (u_ws RX14 TX14 40))
set_option maxRecDepth 20000 in
theorem c_X14_fewest_zg_1 : GoodIn z_wX14_fewest (wsV RX14 428 RX14 yX14_shownBy z_wX14_shownBy) := goodIn_r _ [3, 4, 5, 6, 7, 2, 9, 10, 11, 12, 13, 14, 15, 16, 17, 18, 19, 20, 21, 22, 23, 24, 25, 26, 27, 28, 29, 30, 31, 32, 33, 34, 35, 36, 37, 38, 39, 40, 41, 42, 43, 44, 45, 46, 47, 48] (by decide +kernel) (by decide +kernel)
set_option maxHeartbeats 4000000 in
set_option maxRecDepth 100000 in
theorem c_X14_fewest (l : Launch) (dC : Nat → ClassId) (dI : Nat → Nat → Nat) (h0 : Nat) (mp : Nat) (mq : Nat) (ms : Nat) (mo : Nat) (mt : Nat) (ml : Nat) (mw : Nat) (m1 : Nat) (m2 : Nat) (m3 : Nat) (m4 : Nat) (m5 : Nat) (m6 : Nat) (m7 : Nat) (m8 : Nat) (m9 : Nat) (sz : Nat) : Met l yX14_fewest z_wX14_fewest ({ frames := 1, cells := 0, slots := 0, locals := 23 }) (va_Pc [.ref h0] (z_in dC dI [(h0, .inr (14, [.int 0, .int 0, .int (-1), .int 0, .ref mp, .ref mq, .ref ms, .int 0, .int 0, .ref mo, .ref mt, .int 0, .int 0, .int 0, .int 0, .int 0, .int 0, .int 0, .int 0, .int 0, .int 0, .long 0, .ref ml, .ref mw, .int 0, .ref m1, .int 0, .int 0, .int 0, .int 0, .ref m2, .ref m3, .int 0, .int 0, .ref m4, .ref m5, .ref m6, .ref m7, .ref m8, .ref m9]))] [] sz)) (va_Qi (fun (r : Int32) (_ : Unit) => r = 0) (fun (_ : Unit) t => z_out dC dI (va_A [(h0, .inr (14, [.int 0, .int 0, .int (-1), .int 0, .ref mp, .ref mq, .ref ms, .int 0, .int 0, .ref mo, .ref mt, .int 0, .int 0, .int 0, .int 0, .int 0, .int 0, .int 0, .int 0, .int 0, .int 0, .long 0, .ref ml, .ref mw, .int 0, .ref m1, .int 0, .int 0, .int 0, .int 0, .ref m2, .ref m3, .int 0, .int 0, .ref m4, .ref m5, .ref m6, .ref m7, .ref m8, .ref m9]))] sz) [] [] t) (va_A [(h0, .inr (14, [.int 0, .int 0, .int (-1), .int 0, .ref mp, .ref mq, .ref ms, .int 0, .int 0, .ref mo, .ref mt, .int 0, .int 0, .int 0, .int 0, .int 0, .int 0, .int 0, .int 0, .int 0, .int 0, .long 0, .ref ml, .ref mw, .int 0, .ref m1, .int 0, .int 0, .int 0, .int 0, .ref m2, .ref m3, .int 0, .int 0, .ref m4, .ref m5, .ref m6, .ref m7, .ref m8, .ref m9]))] sz)) 0 0 (va_A [(h0, .inr (14, [.int 0, .int 0, .int (-1), .int 0, .ref mp, .ref mq, .ref ms, .int 0, .int 0, .ref mo, .ref mt, .int 0, .int 0, .int 0, .int 0, .int 0, .int 0, .int 0, .int 0, .int 0, .int 0, .long 0, .ref ml, .ref mw, .int 0, .ref m1, .int 0, .int 0, .int 0, .int 0, .ref m2, .ref m3, .int 0, .int 0, .ref m4, .ref m5, .ref m6, .ref m7, .ref m8, .ref m9]))] sz) := by
  refine Met.ofW (cc := cX14_fewest) (maxL := 8) (ret := (some .int)) (by decide) rfl ?_
  intro p e s m args below meth c s₁ B hml hv
  obtain ⟨rfl, hsz, hP, hK, hD0, hN⟩ := hv
  have hx := B.exec
  have hb := B.bytes
  have hr := B.returns
  have hts := atoms_spec (ws := z_wX14_fewest) B.pre
  have hown : s.vm.findClass RX14 = some m.cls := findClass_of_methodNamed B.named
  have hlocks := B.notSynchronized
  have hin_14 : ∀ w ∈ u_ws RX14 TX14 40, w ∈ z_wX14_fewest := by decide +kernel
  subst hsz
  have hD := hD0.self (sz := s.heap.size)
  generalize hAe : va_A [(h0, .inr (14, [.int 0, .int 0, .int (-1), .int 0, .ref mp, .ref mq, .ref ms, .int 0, .int 0, .ref mo, .ref mt, .int 0, .int 0, .int 0, .int 0, .int 0, .int 0, .int 0, .int 0, .int 0, .int 0, .long 0, .ref ml, .ref mw, .int 0, .ref m1, .int 0, .int 0, .int 0, .int 0, .ref m2, .ref m3, .int 0, .int 0, .ref m4, .ref m5, .ref m6, .ref m7, .ref m8, .ref m9]))] s.heap.size = A at hD ⊢
  have hA : ∀ q : Nat, s.heap.size ≤ q → A q := fun q h => by rw [← hAe]; exact Or.inr h
  have hS : va_S A s.heap s.heap [] := va_S.rf
  have hP : va_P (dC, dI) z_Cl [(h0, .inr (14, [.int 0, .int 0, .int (-1), .int 0, .ref mp, .ref mq, .ref ms, .int 0, .int 0, .ref mo, .ref mt, .int 0, .int 0, .int 0, .int 0, .int 0, .int 0, .int 0, .int 0, .int 0, .int 0, .long 0, .ref ml, .ref mw, .int 0, .ref m1, .int 0, .int 0, .int 0, .int 0, .ref m2, .ref m3, .int 0, .int 0, .ref m4, .ref m5, .ref m6, .ref m7, .ref m8, .ref m9]))] s.heap := hP
  have hl := lv_entry ([.ref h0]) (n := 8) (Nat.le_of_ble_eq_true rfl)
  rw [lg_entry_eq]
  generalize (lg_sl ([.ref h0]) ++ List.replicate (8 - (lg_sl ([.ref h0])).length) Slot.unset).toArray = ls at hl ⊢
  have hl : lv_has ls 8 [(0, .ref h0)] := hl
  refine lv_aload_n hx hb dX14_fewest_0 rfl (lv_at hl 0 rfl) ?_
  refine lv_iconst (v := 0) hx hb dX14_fewest_1 (by decide) ?_
  refine va_put (D := (dC, dI)) (ci := 14) (v := .int 0) (ty := .int) (C := RX14) (T := TX14) (N := 40) hx hb hts hin_14 tyX14 tyX14_ok nmX14 hown hK hP hD hS 0 rfl rfl 0 (by decide) (hts (.fieldLink RX14 76 "LessonMakerModel" "thrown" "I") (List.mem_of_getElem? (i := 1) rfl)) (fun _ h9 => h9) rfl (by decide +kernel) rfl rfl (Nat.le_of_ble_eq_true rfl) dX14_fewest_2 (fun H locs hP hD hS => ?_)
  have hP : va_P (dC, dI) z_Cl [(h0, .inr (14, [.int 0, .int 0, .int (-1), .int 0, .ref mp, .ref mq, .ref ms, .int 0, .int 0, .ref mo, .ref mt, .int 0, .int 0, .int 0, .int 0, .int 0, .int 0, .int 0, .int 0, .int 0, .int 0, .long 0, .ref ml, .ref mw, .int 0, .ref m1, .int 0, .int 0, .int 0, .int 0, .ref m2, .ref m3, .int 0, .int 0, .ref m4, .ref m5, .ref m6, .ref m7, .ref m8, .ref m9]))] H := hP
  have hD : va_D A [(h0, .inr (14, [.int 0, .int 0, .int (-1), .int 0, .ref mp, .ref mq, .ref ms, .int 0, .int 0, .ref mo, .ref mt, .int 0, .int 0, .int 0, .int 0, .int 0, .int 0, .int 0, .int 0, .int 0, .int 0, .long 0, .ref ml, .ref mw, .int 0, .ref m1, .int 0, .int 0, .int 0, .int 0, .ref m2, .ref m3, .int 0, .int 0, .ref m4, .ref m5, .ref m6, .ref m7, .ref m8, .ref m9]))] := hD
  refine lv_aload_n hx hb dX14_fewest_5 rfl (lv_at hl 0 rfl) ?_
  have hPc := hP.sub (ws' := [(h0, .inr (14, [.int 0, .int 0, .int (-1), .int 0, .ref mp, .ref mq, .ref ms, .int 0, .int 0, .ref mo, .ref mt, .int 0, .int 0, .int 0, .int 0, .int 0, .int 0, .int 0, .int 0, .int 0, .int 0, .long 0, .ref ml, .ref mw, .int 0, .ref m1, .int 0, .int 0, .int 0, .int 0, .ref m2, .ref m3, .int 0, .int 0, .ref m4, .ref m5, .ref m6, .ref m7, .ref m8, .ref m9]))]) [0] rfl
  have hDc := hD.sub (ws' := [(h0, .inr (14, [.int 0, .int 0, .int (-1), .int 0, .ref mp, .ref mq, .ref ms, .int 0, .int 0, .ref mo, .ref mt, .int 0, .int 0, .int 0, .int 0, .int 0, .int 0, .int 0, .int 0, .int 0, .int 0, .long 0, .ref ml, .ref mw, .int 0, .ref m1, .int 0, .int 0, .int 0, .int 0, .ref m2, .ref m3, .int 0, .int 0, .ref m4, .ref m5, .ref m6, .ref m7, .ref m8, .ref m9]))]) [0] (by decide) rfl
  have hKc := hK.sub (tys' := []) [] rfl
  have hFc := va_free (wc := [(h0, .inr (14, [.int 0, .int 0, .int (-1), .int 0, .ref mp, .ref mq, .ref ms, .int 0, .int 0, .ref mo, .ref mt, .int 0, .int 0, .int 0, .int 0, .int 0, .int 0, .int 0, .int 0, .int 0, .int 0, .long 0, .ref ml, .ref mw, .int 0, .ref m1, .int 0, .int 0, .int 0, .int 0, .ref m2, .ref m3, .int 0, .int 0, .ref m4, .ref m5, .ref m6, .ref m7, .ref m8, .ref m9]))]) hD hS hA [0] rfl
  refine va_calll (va_runV (As := []) (rest := []) ⟨hx, hb, hml, hown, hts⟩ (c_X14_shownBy l dC dI h0 mp mq ms mo mt ml mw m1 m2 m3 m4 m5 m6 m7 m8 m9 H.size) (cwV 0 hts c_X14_fewest_zg_1 rfl rfl rfl (by decide +kernel) ⟨(Nat.le_of_ble_eq_true rfl), (Nat.le_of_ble_eq_true rfl)⟩) ⟨z_blind, va_recv hKc hPc (ci := 14) (q0 := 0) rfl rfl, z_pre hPc hKc hDc hN⟩ rfl rfl hl.1 rfl (lv_room (Nat.le_of_ble_eq_true rfl)) dX14_fewest_6 ⟨(Nat.le_of_ble_eq_true rfl), (Nat.le_of_ble_eq_true rfl)⟩) hS (fun q _ h => hFc q h) hFc (fun r_2 u t H1 locs ht hvm hw hB hz1 hk1 hS => ?_)
  obtain ⟨hP1, hK1, hD1⟩ := hB
  rw [ht] at hP1
  have hK1 := va_K.moved hvm.symm hK1
  obtain ⟨hP, hD⟩ := va_join (wr := []) (w1 := [(h0, .inr (14, [.int 0, .int 0, .int (-1), .int 0, .ref mp, .ref mq, .ref ms, .int 0, .int 0, .ref mo, .ref mt, .int 0, .int 0, .int 0, .int 0, .int 0, .int 0, .int 0, .int 0, .int 0, .int 0, .long 0, .ref ml, .ref mw, .int 0, .ref m1, .int 0, .int 0, .int 0, .int 0, .ref m2, .ref m3, .int 0, .int 0, .ref m4, .ref m5, .ref m6, .ref m7, .ref m8, .ref m9]))]) hP hD [0] [] rfl rfl (by decide) (by decide) hk1 hFc hP1 hD1
  have hK := (hK.sub (tys' := []) [] rfl).app hK1
  generalize H1 = H at hP hS ⊢
  have hP : va_P (dC, dI) z_Cl [(h0, .inr (14, [.int 0, .int 0, .int (-1), .int 0, .ref mp, .ref mq, .ref ms, .int 0, .int 0, .ref mo, .ref mt, .int 0, .int 0, .int 0, .int 0, .int 0, .int 0, .int 0, .int 0, .int 0, .int 0, .long 0, .ref ml, .ref mw, .int 0, .ref m1, .int 0, .int 0, .int 0, .int 0, .ref m2, .ref m3, .int 0, .int 0, .ref m4, .ref m5, .ref m6, .ref m7, .ref m8, .ref m9]))] H := hP
  have hD : va_D A [(h0, .inr (14, [.int 0, .int 0, .int (-1), .int 0, .ref mp, .ref mq, .ref ms, .int 0, .int 0, .ref mo, .ref mt, .int 0, .int 0, .int 0, .int 0, .int 0, .int 0, .int 0, .int 0, .int 0, .int 0, .long 0, .ref ml, .ref mw, .int 0, .ref m1, .int 0, .int 0, .int 0, .int 0, .ref m2, .ref m3, .int 0, .int 0, .ref m4, .ref m5, .ref m6, .ref m7, .ref m8, .ref m9]))] := hD
  have hK : va_K (dC, dI) z_Cl [] s := hK
  have hw : r_2 = 0 := hw
  subst hw
  refine lv_lstore_n (lv' := [(1, .long 0), (0, .ref h0)]) hx hb dX14_fewest_9 rfl hl (by decide) rfl (fun ls hl => ?_)
  refine lv_iconst (v := (-1)) hx hb dX14_fewest_10 (by decide) ?_
  refine lv_istore_n (lv' := [(3, .int (-1)), (1, .long 0), (0, .ref h0)]) hx hb dX14_fewest_11 rfl hl (by decide) rfl (fun ls hl => ?_)
  refine lv_iconst (v := 0) hx hb dX14_fewest_12 (by decide) ?_
  refine lv_istore (lv' := [(4, .int 0), (3, .int (-1)), (1, .long 0), (0, .ref h0)]) hx hb dX14_fewest_13 hl (by decide) rfl (fun ls hl => ?_)
  refine lv_iload hx hb dX14_fewest_15 (lv_at hl 0 rfl) ?_
  refine lv_iconst (v := 1) hx hb dX14_fewest_17 (by decide) ?_
  refine lv_aload_n hx hb dX14_fewest_18 rfl (lv_at hl 3 rfl) ?_
  refine va_get (D := (dC, dI)) (ci := 14) (v := .int 0) (C := RX14) (T := TX14) (N := 40) hx hb hts hin_14 hown hK hP 0 rfl rfl 32 (by decide) (hts (.fieldLink RX14 324 "LessonMakerModel" "runs" "I") (List.mem_of_getElem? (i := 2) rfl)) (fun _ h9 => h9) rfl dX14_fewest_19 ?_
  refine lv_ishl hx hb dX14_fewest_22 ?_
  refine lv_topi (fun x_3 ex_3 => ?_)
  have ex_3 := ex_3.trans (show _ = (1 : Int32) by decide)
  subst ex_3
  refine lv_icmp_ge (tgt := 148) hx hb dX14_fewest_23 (by decide) (fun h9 => absurd h9 (by decide)) (fun _ => ?_)
  refine lv_iload_n hx hb dX14_fewest_26 rfl (lv_at hl 1 rfl) ?_
  refine lv_iconst (v := (-1)) hx hb dX14_fewest_27 (by decide) ?_
  refine lv_icmp_eq (tgt := 46) hx hb dX14_fewest_28 (by decide) (fun _ => ?_) (fun h9 => absurd (by decide) h9)
  refine lv_lconst (v := 0) hx hb dX14_fewest_46 (by decide) ?_
  refine lv_lstore (lv' := [(5, .long 0), (4, .int 0), (3, .int (-1)), (1, .long 0), (0, .ref h0)]) hx hb dX14_fewest_47 hl (by decide) rfl (fun ls hl => ?_)
  refine lv_iconst (v := 0) hx hb dX14_fewest_49 (by decide) ?_
  refine lv_istore (lv' := [(7, .int 0), (5, .long 0), (4, .int 0), (3, .int (-1)), (1, .long 0), (0, .ref h0)]) hx hb dX14_fewest_50 hl (by decide) rfl (fun ls hl => ?_)
  refine lv_iload hx hb dX14_fewest_52 (lv_at hl 0 rfl) ?_
  refine lv_aload_n hx hb dX14_fewest_54 rfl (lv_at hl 5 rfl) ?_
  refine va_get (D := (dC, dI)) (ci := 14) (v := .int 0) (C := RX14) (T := TX14) (N := 40) hx hb hts hin_14 hown hK hP 0 rfl rfl 32 (by decide) (hts (.fieldLink RX14 324 "LessonMakerModel" "runs" "I") (List.mem_of_getElem? (i := 2) rfl)) (fun _ h9 => h9) rfl dX14_fewest_55 ?_
  refine lv_icmp_ge (tgt := 94) hx hb dX14_fewest_58 (by decide) (fun _ => ?_) (fun h9 => absurd (by decide) h9)
  refine lv_iload hx hb dX14_fewest_94 (lv_at hl 2 rfl) ?_
  refine lv_iload_n hx hb dX14_fewest_96 rfl (lv_at hl 3 rfl) ?_
  refine lv_ixor hx hb dX14_fewest_97 ?_
  refine lv_topi (fun x_4 ex_4 => ?_)
  have ex_4 := ex_4.trans (show _ = (-1 : Int32) by decide)
  subst ex_4
  refine lv_istore (lv' := [(7, .int (-1)), (5, .long 0), (4, .int 0), (3, .int (-1)), (1, .long 0), (0, .ref h0)]) hx hb dX14_fewest_98 hl (by decide) rfl (fun ls hl => ?_)
  refine lv_lload hx hb dX14_fewest_100 (lv_at hl 1 rfl) ?_
  refine lv_lload_n hx hb dX14_fewest_102 rfl (lv_at hl 4 rfl) ?_
  refine W.lcmp hx hb dX14_fewest_103 ?_
  refine lv_topi (fun x_5 ex_5 => ?_)
  have ex_5 := ex_5.trans (show _ = (0 : Int32) by decide)
  subst ex_5
  refine lv_if_ne (tgt := 142) hx hb dX14_fewest_104 (by decide) (fun h9 => absurd (by decide) h9) (fun _ => ?_)
  refine lv_iload_n hx hb dX14_fewest_107 rfl (lv_at hl 3 rfl) ?_
  refine lv_iconst (v := (-1)) hx hb dX14_fewest_108 (by decide) ?_
  refine lv_icmp_eq (tgt := 139) hx hb dX14_fewest_109 (by decide) (fun _ => ?_) (fun h9 => absurd (by decide) h9)
  refine lv_iload hx hb dX14_fewest_139 (lv_at hl 2 rfl) ?_
  refine lv_istore_n (lv' := [(3, .int 0), (7, .int (-1)), (5, .long 0), (4, .int 0), (1, .long 0), (0, .ref h0)]) hx hb dX14_fewest_141 rfl hl (by decide) rfl (fun ls hl => ?_)
  refine lv_iinc (v := 1) (lv' := [(4, .int 1), (3, .int 0), (7, .int (-1)), (5, .long 0), (1, .long 0), (0, .ref h0)]) hx hb dX14_fewest_142 hl (k := 3) rfl (by decide) (by decide) rfl (fun ls hl => ?_)
  refine lv_goto (tgt := 15) hx hb dX14_fewest_145 (by decide) ?_
  refine lv_iload hx hb dX14_fewest_15 (lv_at hl 0 rfl) ?_
  refine lv_iconst (v := 1) hx hb dX14_fewest_17 (by decide) ?_
  refine lv_aload_n hx hb dX14_fewest_18 rfl (lv_at hl 5 rfl) ?_
  refine va_get (D := (dC, dI)) (ci := 14) (v := .int 0) (C := RX14) (T := TX14) (N := 40) hx hb hts hin_14 hown hK hP 0 rfl rfl 32 (by decide) (hts (.fieldLink RX14 324 "LessonMakerModel" "runs" "I") (List.mem_of_getElem? (i := 2) rfl)) (fun _ h9 => h9) rfl dX14_fewest_19 ?_
  refine lv_ishl hx hb dX14_fewest_22 ?_
  refine lv_topi (fun x_6 ex_6 => ?_)
  have ex_6 := ex_6.trans (show _ = (1 : Int32) by decide)
  subst ex_6
  refine lv_icmp_ge (tgt := 148) hx hb dX14_fewest_23 (by decide) (fun _ => ?_) (fun h9 => absurd (by decide) h9)
  refine lv_aload_n hx hb dX14_fewest_148 rfl (lv_at hl 5 rfl) ?_
  refine lv_iconst (v := 0) hx hb dX14_fewest_149 (by decide) ?_
  refine va_put (D := (dC, dI)) (ci := 14) (v := .int 0) (ty := .int) (C := RX14) (T := TX14) (N := 40) hx hb hts hin_14 tyX14 tyX14_ok nmX14 hown hK hP hD hS 0 rfl rfl 33 (by decide) (hts (.fieldLink RX14 327 "LessonMakerModel" "picks" "I") (List.mem_of_getElem? (i := 8) rfl)) (fun _ h9 => h9) rfl (by decide +kernel) rfl rfl (Nat.le_of_ble_eq_true rfl) dX14_fewest_150 (fun H locs hP hD hS => ?_)
  have hP : va_P (dC, dI) z_Cl [(h0, .inr (14, [.int 0, .int 0, .int (-1), .int 0, .ref mp, .ref mq, .ref ms, .int 0, .int 0, .ref mo, .ref mt, .int 0, .int 0, .int 0, .int 0, .int 0, .int 0, .int 0, .int 0, .int 0, .int 0, .long 0, .ref ml, .ref mw, .int 0, .ref m1, .int 0, .int 0, .int 0, .int 0, .ref m2, .ref m3, .int 0, .int 0, .ref m4, .ref m5, .ref m6, .ref m7, .ref m8, .ref m9]))] H := hP
  have hD : va_D A [(h0, .inr (14, [.int 0, .int 0, .int (-1), .int 0, .ref mp, .ref mq, .ref ms, .int 0, .int 0, .ref mo, .ref mt, .int 0, .int 0, .int 0, .int 0, .int 0, .int 0, .int 0, .int 0, .int 0, .int 0, .long 0, .ref ml, .ref mw, .int 0, .ref m1, .int 0, .int 0, .int 0, .int 0, .ref m2, .ref m3, .int 0, .int 0, .ref m4, .ref m5, .ref m6, .ref m7, .ref m8, .ref m9]))] := hD
  refine lv_iconst (v := 0) hx hb dX14_fewest_153 (by decide) ?_
  refine lv_istore (lv' := [(4, .int 0), (3, .int 0), (7, .int (-1)), (5, .long 0), (1, .long 0), (0, .ref h0)]) hx hb dX14_fewest_154 hl (by decide) rfl (fun ls hl => ?_)
  refine lv_iload hx hb dX14_fewest_156 (lv_at hl 0 rfl) ?_
  refine lv_aload_n hx hb dX14_fewest_158 rfl (lv_at hl 5 rfl) ?_
  refine va_get (D := (dC, dI)) (ci := 14) (v := .int 0) (C := RX14) (T := TX14) (N := 40) hx hb hts hin_14 hown hK hP 0 rfl rfl 32 (by decide) (hts (.fieldLink RX14 324 "LessonMakerModel" "runs" "I") (List.mem_of_getElem? (i := 2) rfl)) (fun _ h9 => h9) rfl dX14_fewest_159 ?_
  refine lv_icmp_ge (tgt := 204) hx hb dX14_fewest_162 (by decide) (fun _ => ?_) (fun h9 => absurd (by decide) h9)
  refine lv_aload_n hx hb dX14_fewest_204 rfl (lv_at hl 5 rfl) ?_
  refine va_get (D := (dC, dI)) (ci := 14) (v := .int 0) (C := RX14) (T := TX14) (N := 40) hx hb hts hin_14 hown hK hP 0 rfl rfl 33 (by decide) (hts (.fieldLink RX14 327 "LessonMakerModel" "picks" "I") (List.mem_of_getElem? (i := 8) rfl)) (fun _ h9 => h9) rfl dX14_fewest_205 ?_
  have hP9 := hP.sub (ws' := []) [] rfl
  have hD9 := hD.sub (ws' := []) [] (by decide) rfl
  have hK9 := hK.sub (tys' := []) [] rfl
  refine W.widen (k := 0) (n := 0) (Nat.le_of_ble_eq_true rfl) (Nat.le_of_ble_eq_true rfl) ?_
  exact W.iret (v := 0) hx hb hr (fun t ht hW => ⟨⟨0, (), rfl, rfl, by rw [ht]; exact hP9, va_K.moved hW.alike hK9, hD9⟩, hS.F ht⟩) hS.2.2 dX14_fewest_208

def z_wX14_name : List Cond := .code yX14_name cX14_name 3 (some .int) :: ([.fieldLink RX14 318 "LessonMakerModel" "is" "Z", .methodLink RX14 336 yX14_isFunction, .instanceMethod yX14_isFunction, .selects RX14 yX14_isFunction yX14_isFunction, .initialized RX14, .code yX14_isFunction cX14_isFunction 2 (some .boolean), .fieldLink RX14 76 "LessonMakerModel" "thrown" "I"] ++ (u_ws RX14 TX14 40))
set_option maxRecDepth 20000 in
theorem c_X14_name_zg_1 : GoodIn z_wX14_name (wsV RX14 336 RX14 yX14_isFunction z_wX14_isFunction) := goodIn_r _ [2, 3, 4, 5, 6, 1, 8, 9, 10, 11, 12, 13, 14, 15, 16, 17, 18, 19, 20, 21, 22, 23, 24, 25, 26, 27, 28, 29, 30, 31, 32, 33, 34, 35, 36, 37, 38, 39, 40, 41, 42, 43, 44, 45, 46, 47] (by decide +kernel) (by decide +kernel)
set_option maxHeartbeats 4000000 in
set_option maxRecDepth 100000 in
theorem c_X14_name (l : Launch) (dC : Nat → ClassId) (dI : Nat → Nat → Nat) (h0 : Nat) (mp : Nat) (mq : Nat) (ms : Nat) (mo : Nat) (mt : Nat) (ml : Nat) (mw : Nat) (m1 : Nat) (m2 : Nat) (m3 : Nat) (m4 : Nat) (m5 : Nat) (m6 : Nat) (m7 : Nat) (m8 : Nat) (m9 : Nat) (p1 : Int32) (p2 : Int32) (sz : Nat) : Met l yX14_name z_wX14_name ({ frames := 1, cells := 0, slots := 0, locals := 21 }) (va_Pc [.ref h0, .int p1, .int p2] (z_in dC dI [(h0, .inr (14, [.int 0, .int 0, .int (-1), .int 0, .ref mp, .ref mq, .ref ms, .int 0, .int 0, .ref mo, .ref mt, .int 0, .int 0, .int 0, .int 0, .int 0, .int 0, .int 0, .int 0, .int 0, .int 0, .long 0, .ref ml, .ref mw, .int 0, .ref m1, .int 0, .int 0, .int 0, .int 0, .ref m2, .ref m3, .int 0, .int 0, .ref m4, .ref m5, .ref m6, .ref m7, .ref m8, .ref m9]))] [] sz)) (va_Qi (fun (r : Int32) (_ : Unit) => r = 0) (fun (_ : Unit) t => z_out dC dI (va_A [(h0, .inr (14, [.int 0, .int 0, .int (-1), .int 0, .ref mp, .ref mq, .ref ms, .int 0, .int 0, .ref mo, .ref mt, .int 0, .int 0, .int 0, .int 0, .int 0, .int 0, .int 0, .int 0, .int 0, .int 0, .long 0, .ref ml, .ref mw, .int 0, .ref m1, .int 0, .int 0, .int 0, .int 0, .ref m2, .ref m3, .int 0, .int 0, .ref m4, .ref m5, .ref m6, .ref m7, .ref m8, .ref m9]))] sz) [(h0, .inr (14, [.int 1, .int 0, .int (-1), .int 0, .ref mp, .ref mq, .ref ms, .int 0, .int 0, .ref mo, .ref mt, .int 0, .int 0, .int 0, .int 0, .int 0, .int 0, .int 0, .int 0, .int 0, .int 0, .long 0, .ref ml, .ref mw, .int 0, .ref m1, .int 0, .int 0, .int 0, .int 0, .ref m2, .ref m3, .int 0, .int 0, .ref m4, .ref m5, .ref m6, .ref m7, .ref m8, .ref m9]))] [] t) (va_A [(h0, .inr (14, [.int 0, .int 0, .int (-1), .int 0, .ref mp, .ref mq, .ref ms, .int 0, .int 0, .ref mo, .ref mt, .int 0, .int 0, .int 0, .int 0, .int 0, .int 0, .int 0, .int 0, .int 0, .int 0, .long 0, .ref ml, .ref mw, .int 0, .ref m1, .int 0, .int 0, .int 0, .int 0, .ref m2, .ref m3, .int 0, .int 0, .ref m4, .ref m5, .ref m6, .ref m7, .ref m8, .ref m9]))] sz)) 0 0 (va_A [(h0, .inr (14, [.int 0, .int 0, .int (-1), .int 0, .ref mp, .ref mq, .ref ms, .int 0, .int 0, .ref mo, .ref mt, .int 0, .int 0, .int 0, .int 0, .int 0, .int 0, .int 0, .int 0, .int 0, .int 0, .long 0, .ref ml, .ref mw, .int 0, .ref m1, .int 0, .int 0, .int 0, .int 0, .ref m2, .ref m3, .int 0, .int 0, .ref m4, .ref m5, .ref m6, .ref m7, .ref m8, .ref m9]))] sz) := by
  refine Met.ofW (cc := cX14_name) (maxL := 3) (ret := (some .int)) (by decide) rfl ?_
  intro p e s m args below meth c s₁ B hml hv
  obtain ⟨rfl, hsz, hP, hK, hD0, hN⟩ := hv
  have hx := B.exec
  have hb := B.bytes
  have hr := B.returns
  have hts := atoms_spec (ws := z_wX14_name) B.pre
  have hown : s.vm.findClass RX14 = some m.cls := findClass_of_methodNamed B.named
  have hlocks := B.notSynchronized
  have hin_14 : ∀ w ∈ u_ws RX14 TX14 40, w ∈ z_wX14_name := by decide +kernel
  subst hsz
  have hD := hD0.self (sz := s.heap.size)
  generalize hAe : va_A [(h0, .inr (14, [.int 0, .int 0, .int (-1), .int 0, .ref mp, .ref mq, .ref ms, .int 0, .int 0, .ref mo, .ref mt, .int 0, .int 0, .int 0, .int 0, .int 0, .int 0, .int 0, .int 0, .int 0, .int 0, .long 0, .ref ml, .ref mw, .int 0, .ref m1, .int 0, .int 0, .int 0, .int 0, .ref m2, .ref m3, .int 0, .int 0, .ref m4, .ref m5, .ref m6, .ref m7, .ref m8, .ref m9]))] s.heap.size = A at hD ⊢
  have hA : ∀ q : Nat, s.heap.size ≤ q → A q := fun q h => by rw [← hAe]; exact Or.inr h
  have hS : va_S A s.heap s.heap [] := va_S.rf
  have hP : va_P (dC, dI) z_Cl [(h0, .inr (14, [.int 0, .int 0, .int (-1), .int 0, .ref mp, .ref mq, .ref ms, .int 0, .int 0, .ref mo, .ref mt, .int 0, .int 0, .int 0, .int 0, .int 0, .int 0, .int 0, .int 0, .int 0, .int 0, .long 0, .ref ml, .ref mw, .int 0, .ref m1, .int 0, .int 0, .int 0, .int 0, .ref m2, .ref m3, .int 0, .int 0, .ref m4, .ref m5, .ref m6, .ref m7, .ref m8, .ref m9]))] s.heap := hP
  have hl := lv_entry ([.ref h0, .int p1, .int p2]) (n := 3) (Nat.le_of_ble_eq_true rfl)
  rw [lg_entry_eq]
  generalize (lg_sl ([.ref h0, .int p1, .int p2]) ++ List.replicate (3 - (lg_sl ([.ref h0, .int p1, .int p2])).length) Slot.unset).toArray = ls at hl ⊢
  have hl : lv_has ls 3 [(0, .ref h0), (1, .int p1), (2, .int p2)] := hl
  refine lv_aload_n hx hb dX14_name_0 rfl (lv_at hl 0 rfl) ?_
  refine lv_aload_n hx hb dX14_name_1 rfl (lv_at hl 0 rfl) ?_
  refine lv_iload_n hx hb dX14_name_2 rfl (lv_at hl 1 rfl) ?_
  have hPc := hP.sub (ws' := [(h0, .inr (14, [.int 0, .int 0, .int (-1), .int 0, .ref mp, .ref mq, .ref ms, .int 0, .int 0, .ref mo, .ref mt, .int 0, .int 0, .int 0, .int 0, .int 0, .int 0, .int 0, .int 0, .int 0, .int 0, .long 0, .ref ml, .ref mw, .int 0, .ref m1, .int 0, .int 0, .int 0, .int 0, .ref m2, .ref m3, .int 0, .int 0, .ref m4, .ref m5, .ref m6, .ref m7, .ref m8, .ref m9]))]) [0] rfl
  have hDc := hD.sub (ws' := [(h0, .inr (14, [.int 0, .int 0, .int (-1), .int 0, .ref mp, .ref mq, .ref ms, .int 0, .int 0, .ref mo, .ref mt, .int 0, .int 0, .int 0, .int 0, .int 0, .int 0, .int 0, .int 0, .int 0, .int 0, .long 0, .ref ml, .ref mw, .int 0, .ref m1, .int 0, .int 0, .int 0, .int 0, .ref m2, .ref m3, .int 0, .int 0, .ref m4, .ref m5, .ref m6, .ref m7, .ref m8, .ref m9]))]) [0] (by decide) rfl
  have hKc := hK.sub (tys' := []) [] rfl
  have hFc := va_free (wc := [(h0, .inr (14, [.int 0, .int 0, .int (-1), .int 0, .ref mp, .ref mq, .ref ms, .int 0, .int 0, .ref mo, .ref mt, .int 0, .int 0, .int 0, .int 0, .int 0, .int 0, .int 0, .int 0, .int 0, .int 0, .long 0, .ref ml, .ref mw, .int 0, .ref m1, .int 0, .int 0, .int 0, .int 0, .ref m2, .ref m3, .int 0, .int 0, .ref m4, .ref m5, .ref m6, .ref m7, .ref m8, .ref m9]))]) hD hS hA [0] rfl
  refine va_calli (va_runV (As := [.int p1]) (rest := [.ref h0]) ⟨hx, hb, hml, hown, hts⟩ (c_X14_isFunction l dC dI h0 mp mq ms mo mt ml mw m1 m2 m3 m4 m5 m6 m7 m8 m9 p1 s.heap.size) (cwV 1 hts c_X14_name_zg_1 rfl rfl rfl (by decide +kernel) ⟨(Nat.le_of_ble_eq_true rfl), (Nat.le_of_ble_eq_true rfl)⟩) ⟨z_blind, va_recv hKc hPc (ci := 14) (q0 := 0) rfl rfl, z_pre hPc hKc hDc hN⟩ rfl rfl hl.1 rfl (lv_room (Nat.le_of_ble_eq_true rfl)) dX14_name_3 ⟨(Nat.le_of_ble_eq_true rfl), (Nat.le_of_ble_eq_true rfl)⟩) hS (fun q _ h => hFc q h) hFc (fun r_2 u t H1 locs ht hvm hw hB hz1 hk1 hS => ?_)
  obtain ⟨hP1, hK1, hD1⟩ := hB
  rw [ht] at hP1
  have hK1 := va_K.moved hvm.symm hK1
  obtain ⟨hP, hD⟩ := va_join (wr := []) (w1 := [(h0, .inr (14, [.int 0, .int 0, .int (-1), .int 0, .ref mp, .ref mq, .ref ms, .int 0, .int 0, .ref mo, .ref mt, .int 0, .int 0, .int 0, .int 0, .int 0, .int 0, .int 0, .int 0, .int 0, .int 0, .long 0, .ref ml, .ref mw, .int 0, .ref m1, .int 0, .int 0, .int 0, .int 0, .ref m2, .ref m3, .int 0, .int 0, .ref m4, .ref m5, .ref m6, .ref m7, .ref m8, .ref m9]))]) hP hD [0] [] rfl rfl (by decide) (by decide) hk1 hFc hP1 hD1
  have hK := (hK.sub (tys' := []) [] rfl).app hK1
  generalize H1 = H at hP hS ⊢
  have hP : va_P (dC, dI) z_Cl [(h0, .inr (14, [.int 0, .int 0, .int (-1), .int 0, .ref mp, .ref mq, .ref ms, .int 0, .int 0, .ref mo, .ref mt, .int 0, .int 0, .int 0, .int 0, .int 0, .int 0, .int 0, .int 0, .int 0, .int 0, .long 0, .ref ml, .ref mw, .int 0, .ref m1, .int 0, .int 0, .int 0, .int 0, .ref m2, .ref m3, .int 0, .int 0, .ref m4, .ref m5, .ref m6, .ref m7, .ref m8, .ref m9]))] H := hP
  have hD : va_D A [(h0, .inr (14, [.int 0, .int 0, .int (-1), .int 0, .ref mp, .ref mq, .ref ms, .int 0, .int 0, .ref mo, .ref mt, .int 0, .int 0, .int 0, .int 0, .int 0, .int 0, .int 0, .int 0, .int 0, .int 0, .long 0, .ref ml, .ref mw, .int 0, .ref m1, .int 0, .int 0, .int 0, .int 0, .ref m2, .ref m3, .int 0, .int 0, .ref m4, .ref m5, .ref m6, .ref m7, .ref m8, .ref m9]))] := hD
  have hK : va_K (dC, dI) z_Cl [] s := hK
  have hw : r_2 = 0 := hw
  subst hw
  refine lv_if_eq (tgt := 26) hx hb dX14_name_6 (by decide) (fun _ => ?_) (fun h9 => absurd (by decide) h9)
  refine lv_iconst (v := 1) hx hb dX14_name_26 (by decide) ?_
  refine lv_goto (tgt := 31) hx hb dX14_name_27 (by decide) ?_
  refine va_put (D := (dC, dI)) (ci := 14) (v := .int 1) (ty := .int) (C := RX14) (T := TX14) (N := 40) hx hb hts hin_14 tyX14 tyX14_ok nmX14 hown hK hP hD hS 0 rfl rfl 0 (by decide) (hts (.fieldLink RX14 76 "LessonMakerModel" "thrown" "I") (List.mem_of_getElem? (i := 7) rfl)) (fun _ h9 => h9) rfl (by decide +kernel) rfl rfl (Nat.le_of_ble_eq_true rfl) dX14_name_31 (fun H locs hP hD hS => ?_)
  have hP : va_P (dC, dI) z_Cl [(h0, .inr (14, [.int 1, .int 0, .int (-1), .int 0, .ref mp, .ref mq, .ref ms, .int 0, .int 0, .ref mo, .ref mt, .int 0, .int 0, .int 0, .int 0, .int 0, .int 0, .int 0, .int 0, .int 0, .int 0, .long 0, .ref ml, .ref mw, .int 0, .ref m1, .int 0, .int 0, .int 0, .int 0, .ref m2, .ref m3, .int 0, .int 0, .ref m4, .ref m5, .ref m6, .ref m7, .ref m8, .ref m9]))] H := hP
  have hD : va_D A [(h0, .inr (14, [.int 1, .int 0, .int (-1), .int 0, .ref mp, .ref mq, .ref ms, .int 0, .int 0, .ref mo, .ref mt, .int 0, .int 0, .int 0, .int 0, .int 0, .int 0, .int 0, .int 0, .int 0, .int 0, .long 0, .ref ml, .ref mw, .int 0, .ref m1, .int 0, .int 0, .int 0, .int 0, .ref m2, .ref m3, .int 0, .int 0, .ref m4, .ref m5, .ref m6, .ref m7, .ref m8, .ref m9]))] := hD
  refine lv_aload_n hx hb dX14_name_34 rfl (lv_at hl 0 rfl) ?_
  refine va_get (D := (dC, dI)) (ci := 14) (v := .int 1) (C := RX14) (T := TX14) (N := 40) hx hb hts hin_14 hown hK hP 0 rfl rfl 0 (by decide) (hts (.fieldLink RX14 76 "LessonMakerModel" "thrown" "I") (List.mem_of_getElem? (i := 7) rfl)) (fun _ h9 => h9) rfl dX14_name_35 ?_
  refine lv_if_le (tgt := 43) hx hb dX14_name_38 (by decide) (fun h9 => absurd h9 (by decide)) (fun _ => ?_)
  refine lv_iconst (v := 0) hx hb dX14_name_41 (by decide) ?_
  have hP9 := hP.sub (ws' := [(h0, .inr (14, [.int 1, .int 0, .int (-1), .int 0, .ref mp, .ref mq, .ref ms, .int 0, .int 0, .ref mo, .ref mt, .int 0, .int 0, .int 0, .int 0, .int 0, .int 0, .int 0, .int 0, .int 0, .int 0, .long 0, .ref ml, .ref mw, .int 0, .ref m1, .int 0, .int 0, .int 0, .int 0, .ref m2, .ref m3, .int 0, .int 0, .ref m4, .ref m5, .ref m6, .ref m7, .ref m8, .ref m9]))]) [0] rfl
  have hD9 := hD.sub (ws' := [(h0, .inr (14, [.int 1, .int 0, .int (-1), .int 0, .ref mp, .ref mq, .ref ms, .int 0, .int 0, .ref mo, .ref mt, .int 0, .int 0, .int 0, .int 0, .int 0, .int 0, .int 0, .int 0, .int 0, .int 0, .long 0, .ref ml, .ref mw, .int 0, .ref m1, .int 0, .int 0, .int 0, .int 0, .ref m2, .ref m3, .int 0, .int 0, .ref m4, .ref m5, .ref m6, .ref m7, .ref m8, .ref m9]))]) [0] (by decide) rfl
  have hK9 := hK.sub (tys' := []) [] rfl
  refine W.widen (k := 0) (n := 0) (Nat.le_of_ble_eq_true rfl) (Nat.le_of_ble_eq_true rfl) ?_
  exact W.iret (v := 0) hx hb hr (fun t ht hW => ⟨⟨0, (), rfl, rfl, by rw [ht]; exact hP9, va_K.moved hW.alike hK9, hD9⟩, hS.F ht⟩) hS.2.2 dX14_name_42

def z_wX14_said : List Cond := .code yX14_said cX14_said 2 (some .int) :: ([.fieldLink RX14 330 "LessonMakerModel" "hasRun" "Z", .fieldLink RX14 76 "LessonMakerModel" "thrown" "I"] ++ (u_ws RX14 TX14 40))
set_option maxHeartbeats 4000000 in
set_option maxRecDepth 100000 in
theorem c_X14_said (l : Launch) (dC : Nat → ClassId) (dI : Nat → Nat → Nat) (h0 : Nat) (mp : Nat) (mq : Nat) (ms : Nat) (mo : Nat) (mt : Nat) (ml : Nat) (mw : Nat) (m1 : Nat) (m2 : Nat) (m3 : Nat) (m4 : Nat) (m5 : Nat) (m6 : Nat) (m7 : Nat) (m8 : Nat) (m9 : Nat) (p1 : Int32) (sz : Nat) : Met l yX14_said z_wX14_said ({ frames := 0, cells := 0, slots := 0, locals := 0 }) (va_Pc [.ref h0, .int p1] (z_in dC dI [(h0, .inr (14, [.int 0, .int 0, .int (-1), .int 0, .ref mp, .ref mq, .ref ms, .int 0, .int 0, .ref mo, .ref mt, .int 0, .int 0, .int 0, .int 0, .int 0, .int 0, .int 0, .int 0, .int 0, .int 0, .long 0, .ref ml, .ref mw, .int 0, .ref m1, .int 0, .int 0, .int 0, .int 0, .ref m2, .ref m3, .int 0, .int 0, .ref m4, .ref m5, .ref m6, .ref m7, .ref m8, .ref m9]))] [] sz)) (va_Qi (fun (r : Int32) (_ : Unit) => r = 0) (fun (_ : Unit) t => z_out dC dI (va_A [(h0, .inr (14, [.int 0, .int 0, .int (-1), .int 0, .ref mp, .ref mq, .ref ms, .int 0, .int 0, .ref mo, .ref mt, .int 0, .int 0, .int 0, .int 0, .int 0, .int 0, .int 0, .int 0, .int 0, .int 0, .long 0, .ref ml, .ref mw, .int 0, .ref m1, .int 0, .int 0, .int 0, .int 0, .ref m2, .ref m3, .int 0, .int 0, .ref m4, .ref m5, .ref m6, .ref m7, .ref m8, .ref m9]))] sz) [(h0, .inr (14, [.int 1, .int 0, .int (-1), .int 0, .ref mp, .ref mq, .ref ms, .int 0, .int 0, .ref mo, .ref mt, .int 0, .int 0, .int 0, .int 0, .int 0, .int 0, .int 0, .int 0, .int 0, .int 0, .long 0, .ref ml, .ref mw, .int 0, .ref m1, .int 0, .int 0, .int 0, .int 0, .ref m2, .ref m3, .int 0, .int 0, .ref m4, .ref m5, .ref m6, .ref m7, .ref m8, .ref m9]))] [] t) (va_A [(h0, .inr (14, [.int 0, .int 0, .int (-1), .int 0, .ref mp, .ref mq, .ref ms, .int 0, .int 0, .ref mo, .ref mt, .int 0, .int 0, .int 0, .int 0, .int 0, .int 0, .int 0, .int 0, .int 0, .int 0, .long 0, .ref ml, .ref mw, .int 0, .ref m1, .int 0, .int 0, .int 0, .int 0, .ref m2, .ref m3, .int 0, .int 0, .ref m4, .ref m5, .ref m6, .ref m7, .ref m8, .ref m9]))] sz)) 0 0 (va_A [(h0, .inr (14, [.int 0, .int 0, .int (-1), .int 0, .ref mp, .ref mq, .ref ms, .int 0, .int 0, .ref mo, .ref mt, .int 0, .int 0, .int 0, .int 0, .int 0, .int 0, .int 0, .int 0, .int 0, .int 0, .long 0, .ref ml, .ref mw, .int 0, .ref m1, .int 0, .int 0, .int 0, .int 0, .ref m2, .ref m3, .int 0, .int 0, .ref m4, .ref m5, .ref m6, .ref m7, .ref m8, .ref m9]))] sz) := by
  refine Met.ofW (cc := cX14_said) (maxL := 2) (ret := (some .int)) (by decide) rfl ?_
  intro p e s m args below meth c s₁ B hml hv
  obtain ⟨rfl, hsz, hP, hK, hD0, hN⟩ := hv
  have hx := B.exec
  have hb := B.bytes
  have hr := B.returns
  have hts := atoms_spec (ws := z_wX14_said) B.pre
  have hown : s.vm.findClass RX14 = some m.cls := findClass_of_methodNamed B.named
  have hlocks := B.notSynchronized
  have hin_14 : ∀ w ∈ u_ws RX14 TX14 40, w ∈ z_wX14_said := by decide +kernel
  subst hsz
  have hD := hD0.self (sz := s.heap.size)
  generalize hAe : va_A [(h0, .inr (14, [.int 0, .int 0, .int (-1), .int 0, .ref mp, .ref mq, .ref ms, .int 0, .int 0, .ref mo, .ref mt, .int 0, .int 0, .int 0, .int 0, .int 0, .int 0, .int 0, .int 0, .int 0, .int 0, .long 0, .ref ml, .ref mw, .int 0, .ref m1, .int 0, .int 0, .int 0, .int 0, .ref m2, .ref m3, .int 0, .int 0, .ref m4, .ref m5, .ref m6, .ref m7, .ref m8, .ref m9]))] s.heap.size = A at hD ⊢
  have hA : ∀ q : Nat, s.heap.size ≤ q → A q := fun q h => by rw [← hAe]; exact Or.inr h
  have hS : va_S A s.heap s.heap [] := va_S.rf
  have hP : va_P (dC, dI) z_Cl [(h0, .inr (14, [.int 0, .int 0, .int (-1), .int 0, .ref mp, .ref mq, .ref ms, .int 0, .int 0, .ref mo, .ref mt, .int 0, .int 0, .int 0, .int 0, .int 0, .int 0, .int 0, .int 0, .int 0, .int 0, .long 0, .ref ml, .ref mw, .int 0, .ref m1, .int 0, .int 0, .int 0, .int 0, .ref m2, .ref m3, .int 0, .int 0, .ref m4, .ref m5, .ref m6, .ref m7, .ref m8, .ref m9]))] s.heap := hP
  have hl := lv_entry ([.ref h0, .int p1]) (n := 2) (Nat.le_of_ble_eq_true rfl)
  rw [lg_entry_eq]
  generalize (lg_sl ([.ref h0, .int p1]) ++ List.replicate (2 - (lg_sl ([.ref h0, .int p1])).length) Slot.unset).toArray = ls at hl ⊢
  have hl : lv_has ls 2 [(0, .ref h0), (1, .int p1)] := hl
  refine lv_aload_n hx hb dX14_said_0 rfl (lv_at hl 0 rfl) ?_
  refine lv_aload_n hx hb dX14_said_1 rfl (lv_at hl 0 rfl) ?_
  refine va_get (D := (dC, dI)) (ci := 14) (v := .int 0) (C := RX14) (T := TX14) (N := 40) hx hb hts hin_14 hown hK hP 0 rfl rfl 24 (by decide) (hts (.fieldLink RX14 330 "LessonMakerModel" "hasRun" "Z") (List.mem_of_getElem? (i := 1) rfl)) (fun _ h9 => h9) rfl dX14_said_2 ?_
  refine lv_if_eq (tgt := 28) hx hb dX14_said_5 (by decide) (fun _ => ?_) (fun h9 => absurd (by decide) h9)
  refine lv_iconst (v := 1) hx hb dX14_said_28 (by decide) ?_
  refine lv_goto (tgt := 33) hx hb dX14_said_29 (by decide) ?_
  refine va_put (D := (dC, dI)) (ci := 14) (v := .int 1) (ty := .int) (C := RX14) (T := TX14) (N := 40) hx hb hts hin_14 tyX14 tyX14_ok nmX14 hown hK hP hD hS 0 rfl rfl 0 (by decide) (hts (.fieldLink RX14 76 "LessonMakerModel" "thrown" "I") (List.mem_of_getElem? (i := 2) rfl)) (fun _ h9 => h9) rfl (by decide +kernel) rfl rfl (Nat.le_of_ble_eq_true rfl) dX14_said_33 (fun H locs hP hD hS => ?_)
  have hP : va_P (dC, dI) z_Cl [(h0, .inr (14, [.int 1, .int 0, .int (-1), .int 0, .ref mp, .ref mq, .ref ms, .int 0, .int 0, .ref mo, .ref mt, .int 0, .int 0, .int 0, .int 0, .int 0, .int 0, .int 0, .int 0, .int 0, .int 0, .long 0, .ref ml, .ref mw, .int 0, .ref m1, .int 0, .int 0, .int 0, .int 0, .ref m2, .ref m3, .int 0, .int 0, .ref m4, .ref m5, .ref m6, .ref m7, .ref m8, .ref m9]))] H := hP
  have hD : va_D A [(h0, .inr (14, [.int 1, .int 0, .int (-1), .int 0, .ref mp, .ref mq, .ref ms, .int 0, .int 0, .ref mo, .ref mt, .int 0, .int 0, .int 0, .int 0, .int 0, .int 0, .int 0, .int 0, .int 0, .int 0, .long 0, .ref ml, .ref mw, .int 0, .ref m1, .int 0, .int 0, .int 0, .int 0, .ref m2, .ref m3, .int 0, .int 0, .ref m4, .ref m5, .ref m6, .ref m7, .ref m8, .ref m9]))] := hD
  refine lv_aload_n hx hb dX14_said_36 rfl (lv_at hl 0 rfl) ?_
  refine va_get (D := (dC, dI)) (ci := 14) (v := .int 1) (C := RX14) (T := TX14) (N := 40) hx hb hts hin_14 hown hK hP 0 rfl rfl 0 (by decide) (hts (.fieldLink RX14 76 "LessonMakerModel" "thrown" "I") (List.mem_of_getElem? (i := 2) rfl)) (fun _ h9 => h9) rfl dX14_said_37 ?_
  refine lv_if_le (tgt := 47) hx hb dX14_said_40 (by decide) (fun h9 => absurd h9 (by decide)) (fun _ => ?_)
  refine lv_iconst (v := 0) hx hb dX14_said_43 (by decide) ?_
  refine lv_goto (tgt := 56) hx hb dX14_said_44 (by decide) ?_
  have hP9 := hP.sub (ws' := [(h0, .inr (14, [.int 1, .int 0, .int (-1), .int 0, .ref mp, .ref mq, .ref ms, .int 0, .int 0, .ref mo, .ref mt, .int 0, .int 0, .int 0, .int 0, .int 0, .int 0, .int 0, .int 0, .int 0, .int 0, .long 0, .ref ml, .ref mw, .int 0, .ref m1, .int 0, .int 0, .int 0, .int 0, .ref m2, .ref m3, .int 0, .int 0, .ref m4, .ref m5, .ref m6, .ref m7, .ref m8, .ref m9]))]) [0] rfl
  have hD9 := hD.sub (ws' := [(h0, .inr (14, [.int 1, .int 0, .int (-1), .int 0, .ref mp, .ref mq, .ref ms, .int 0, .int 0, .ref mo, .ref mt, .int 0, .int 0, .int 0, .int 0, .int 0, .int 0, .int 0, .int 0, .int 0, .int 0, .long 0, .ref ml, .ref mw, .int 0, .ref m1, .int 0, .int 0, .int 0, .int 0, .ref m2, .ref m3, .int 0, .int 0, .ref m4, .ref m5, .ref m6, .ref m7, .ref m8, .ref m9]))]) [0] (by decide) rfl
  have hK9 := hK.sub (tys' := []) [] rfl
  refine W.widen (k := 0) (n := 0) (Nat.le_of_ble_eq_true rfl) (Nat.le_of_ble_eq_true rfl) ?_
  exact W.iret (v := 0) hx hb hr (fun t ht hW => ⟨⟨0, (), rfl, rfl, by rw [ht]; exact hP9, va_K.moved hW.alike hK9, hD9⟩, hS.F ht⟩) hS.2.2 dX14_said_56

def z_wX14_trace : List Cond := .code yX14_trace cX14_trace 3 (some .int) :: ([.fieldLink RX14 330 "LessonMakerModel" "hasRun" "Z", .fieldLink RX14 76 "LessonMakerModel" "thrown" "I"] ++ (u_ws RX14 TX14 40))
set_option maxHeartbeats 4000000 in
set_option maxRecDepth 100000 in
theorem c_X14_trace (l : Launch) (dC : Nat → ClassId) (dI : Nat → Nat → Nat) (h0 : Nat) (mp : Nat) (mq : Nat) (ms : Nat) (mo : Nat) (mt : Nat) (ml : Nat) (mw : Nat) (m1 : Nat) (m2 : Nat) (m3 : Nat) (m4 : Nat) (m5 : Nat) (m6 : Nat) (m7 : Nat) (m8 : Nat) (m9 : Nat) (p1 : Int32) (p2 : Int32) (sz : Nat) : Met l yX14_trace z_wX14_trace ({ frames := 0, cells := 0, slots := 0, locals := 0 }) (va_Pc [.ref h0, .int p1, .int p2] (z_in dC dI [(h0, .inr (14, [.int 0, .int 0, .int (-1), .int 0, .ref mp, .ref mq, .ref ms, .int 0, .int 0, .ref mo, .ref mt, .int 0, .int 0, .int 0, .int 0, .int 0, .int 0, .int 0, .int 0, .int 0, .int 0, .long 0, .ref ml, .ref mw, .int 0, .ref m1, .int 0, .int 0, .int 0, .int 0, .ref m2, .ref m3, .int 0, .int 0, .ref m4, .ref m5, .ref m6, .ref m7, .ref m8, .ref m9]))] [] sz)) (va_Qi (fun (r : Int32) (_ : Unit) => r = 0) (fun (_ : Unit) t => z_out dC dI (va_A [(h0, .inr (14, [.int 0, .int 0, .int (-1), .int 0, .ref mp, .ref mq, .ref ms, .int 0, .int 0, .ref mo, .ref mt, .int 0, .int 0, .int 0, .int 0, .int 0, .int 0, .int 0, .int 0, .int 0, .int 0, .long 0, .ref ml, .ref mw, .int 0, .ref m1, .int 0, .int 0, .int 0, .int 0, .ref m2, .ref m3, .int 0, .int 0, .ref m4, .ref m5, .ref m6, .ref m7, .ref m8, .ref m9]))] sz) [(h0, .inr (14, [.int 1, .int 0, .int (-1), .int 0, .ref mp, .ref mq, .ref ms, .int 0, .int 0, .ref mo, .ref mt, .int 0, .int 0, .int 0, .int 0, .int 0, .int 0, .int 0, .int 0, .int 0, .int 0, .long 0, .ref ml, .ref mw, .int 0, .ref m1, .int 0, .int 0, .int 0, .int 0, .ref m2, .ref m3, .int 0, .int 0, .ref m4, .ref m5, .ref m6, .ref m7, .ref m8, .ref m9]))] [] t) (va_A [(h0, .inr (14, [.int 0, .int 0, .int (-1), .int 0, .ref mp, .ref mq, .ref ms, .int 0, .int 0, .ref mo, .ref mt, .int 0, .int 0, .int 0, .int 0, .int 0, .int 0, .int 0, .int 0, .int 0, .int 0, .long 0, .ref ml, .ref mw, .int 0, .ref m1, .int 0, .int 0, .int 0, .int 0, .ref m2, .ref m3, .int 0, .int 0, .ref m4, .ref m5, .ref m6, .ref m7, .ref m8, .ref m9]))] sz)) 0 0 (va_A [(h0, .inr (14, [.int 0, .int 0, .int (-1), .int 0, .ref mp, .ref mq, .ref ms, .int 0, .int 0, .ref mo, .ref mt, .int 0, .int 0, .int 0, .int 0, .int 0, .int 0, .int 0, .int 0, .int 0, .int 0, .long 0, .ref ml, .ref mw, .int 0, .ref m1, .int 0, .int 0, .int 0, .int 0, .ref m2, .ref m3, .int 0, .int 0, .ref m4, .ref m5, .ref m6, .ref m7, .ref m8, .ref m9]))] sz) := by
  refine Met.ofW (cc := cX14_trace) (maxL := 3) (ret := (some .int)) (by decide) rfl ?_
  intro p e s m args below meth c s₁ B hml hv
  obtain ⟨rfl, hsz, hP, hK, hD0, hN⟩ := hv
  have hx := B.exec
  have hb := B.bytes
  have hr := B.returns
  have hts := atoms_spec (ws := z_wX14_trace) B.pre
  have hown : s.vm.findClass RX14 = some m.cls := findClass_of_methodNamed B.named
  have hlocks := B.notSynchronized
  have hin_14 : ∀ w ∈ u_ws RX14 TX14 40, w ∈ z_wX14_trace := by decide +kernel
  subst hsz
  have hD := hD0.self (sz := s.heap.size)
  generalize hAe : va_A [(h0, .inr (14, [.int 0, .int 0, .int (-1), .int 0, .ref mp, .ref mq, .ref ms, .int 0, .int 0, .ref mo, .ref mt, .int 0, .int 0, .int 0, .int 0, .int 0, .int 0, .int 0, .int 0, .int 0, .int 0, .long 0, .ref ml, .ref mw, .int 0, .ref m1, .int 0, .int 0, .int 0, .int 0, .ref m2, .ref m3, .int 0, .int 0, .ref m4, .ref m5, .ref m6, .ref m7, .ref m8, .ref m9]))] s.heap.size = A at hD ⊢
  have hA : ∀ q : Nat, s.heap.size ≤ q → A q := fun q h => by rw [← hAe]; exact Or.inr h
  have hS : va_S A s.heap s.heap [] := va_S.rf
  have hP : va_P (dC, dI) z_Cl [(h0, .inr (14, [.int 0, .int 0, .int (-1), .int 0, .ref mp, .ref mq, .ref ms, .int 0, .int 0, .ref mo, .ref mt, .int 0, .int 0, .int 0, .int 0, .int 0, .int 0, .int 0, .int 0, .int 0, .int 0, .long 0, .ref ml, .ref mw, .int 0, .ref m1, .int 0, .int 0, .int 0, .int 0, .ref m2, .ref m3, .int 0, .int 0, .ref m4, .ref m5, .ref m6, .ref m7, .ref m8, .ref m9]))] s.heap := hP
  have hl := lv_entry ([.ref h0, .int p1, .int p2]) (n := 3) (Nat.le_of_ble_eq_true rfl)
  rw [lg_entry_eq]
  generalize (lg_sl ([.ref h0, .int p1, .int p2]) ++ List.replicate (3 - (lg_sl ([.ref h0, .int p1, .int p2])).length) Slot.unset).toArray = ls at hl ⊢
  have hl : lv_has ls 3 [(0, .ref h0), (1, .int p1), (2, .int p2)] := hl
  refine lv_aload_n hx hb dX14_trace_0 rfl (lv_at hl 0 rfl) ?_
  refine lv_aload_n hx hb dX14_trace_1 rfl (lv_at hl 0 rfl) ?_
  refine va_get (D := (dC, dI)) (ci := 14) (v := .int 0) (C := RX14) (T := TX14) (N := 40) hx hb hts hin_14 hown hK hP 0 rfl rfl 24 (by decide) (hts (.fieldLink RX14 330 "LessonMakerModel" "hasRun" "Z") (List.mem_of_getElem? (i := 1) rfl)) (fun _ h9 => h9) rfl dX14_trace_2 ?_
  refine lv_if_eq (tgt := 38) hx hb dX14_trace_5 (by decide) (fun _ => ?_) (fun h9 => absurd (by decide) h9)
  refine lv_iconst (v := 1) hx hb dX14_trace_38 (by decide) ?_
  refine lv_goto (tgt := 43) hx hb dX14_trace_39 (by decide) ?_
  refine va_put (D := (dC, dI)) (ci := 14) (v := .int 1) (ty := .int) (C := RX14) (T := TX14) (N := 40) hx hb hts hin_14 tyX14 tyX14_ok nmX14 hown hK hP hD hS 0 rfl rfl 0 (by decide) (hts (.fieldLink RX14 76 "LessonMakerModel" "thrown" "I") (List.mem_of_getElem? (i := 2) rfl)) (fun _ h9 => h9) rfl (by decide +kernel) rfl rfl (Nat.le_of_ble_eq_true rfl) dX14_trace_43 (fun H locs hP hD hS => ?_)
  have hP : va_P (dC, dI) z_Cl [(h0, .inr (14, [.int 1, .int 0, .int (-1), .int 0, .ref mp, .ref mq, .ref ms, .int 0, .int 0, .ref mo, .ref mt, .int 0, .int 0, .int 0, .int 0, .int 0, .int 0, .int 0, .int 0, .int 0, .int 0, .long 0, .ref ml, .ref mw, .int 0, .ref m1, .int 0, .int 0, .int 0, .int 0, .ref m2, .ref m3, .int 0, .int 0, .ref m4, .ref m5, .ref m6, .ref m7, .ref m8, .ref m9]))] H := hP
  have hD : va_D A [(h0, .inr (14, [.int 1, .int 0, .int (-1), .int 0, .ref mp, .ref mq, .ref ms, .int 0, .int 0, .ref mo, .ref mt, .int 0, .int 0, .int 0, .int 0, .int 0, .int 0, .int 0, .int 0, .int 0, .int 0, .long 0, .ref ml, .ref mw, .int 0, .ref m1, .int 0, .int 0, .int 0, .int 0, .ref m2, .ref m3, .int 0, .int 0, .ref m4, .ref m5, .ref m6, .ref m7, .ref m8, .ref m9]))] := hD
  refine lv_aload_n hx hb dX14_trace_46 rfl (lv_at hl 0 rfl) ?_
  refine va_get (D := (dC, dI)) (ci := 14) (v := .int 1) (C := RX14) (T := TX14) (N := 40) hx hb hts hin_14 hown hK hP 0 rfl rfl 0 (by decide) (hts (.fieldLink RX14 76 "LessonMakerModel" "thrown" "I") (List.mem_of_getElem? (i := 2) rfl)) (fun _ h9 => h9) rfl dX14_trace_47 ?_
  refine lv_if_le (tgt := 57) hx hb dX14_trace_50 (by decide) (fun h9 => absurd h9 (by decide)) (fun _ => ?_)
  refine lv_iconst (v := 0) hx hb dX14_trace_53 (by decide) ?_
  refine lv_goto (tgt := 70) hx hb dX14_trace_54 (by decide) ?_
  have hP9 := hP.sub (ws' := [(h0, .inr (14, [.int 1, .int 0, .int (-1), .int 0, .ref mp, .ref mq, .ref ms, .int 0, .int 0, .ref mo, .ref mt, .int 0, .int 0, .int 0, .int 0, .int 0, .int 0, .int 0, .int 0, .int 0, .int 0, .long 0, .ref ml, .ref mw, .int 0, .ref m1, .int 0, .int 0, .int 0, .int 0, .ref m2, .ref m3, .int 0, .int 0, .ref m4, .ref m5, .ref m6, .ref m7, .ref m8, .ref m9]))]) [0] rfl
  have hD9 := hD.sub (ws' := [(h0, .inr (14, [.int 1, .int 0, .int (-1), .int 0, .ref mp, .ref mq, .ref ms, .int 0, .int 0, .ref mo, .ref mt, .int 0, .int 0, .int 0, .int 0, .int 0, .int 0, .int 0, .int 0, .int 0, .int 0, .long 0, .ref ml, .ref mw, .int 0, .ref m1, .int 0, .int 0, .int 0, .int 0, .ref m2, .ref m3, .int 0, .int 0, .ref m4, .ref m5, .ref m6, .ref m7, .ref m8, .ref m9]))]) [0] (by decide) rfl
  have hK9 := hK.sub (tys' := []) [] rfl
  refine W.widen (k := 0) (n := 0) (Nat.le_of_ble_eq_true rfl) (Nat.le_of_ble_eq_true rfl) ?_
  exact W.iret (v := 0) hx hb hr (fun t ht hW => ⟨⟨0, (), rfl, rfl, by rw [ht]; exact hP9, va_K.moved hW.alike hK9, hD9⟩, hS.F ht⟩) hS.2.2 dX14_trace_70

def z_wX14_thrown : List Cond := .code yX14_thrown cX14_thrown 1 (some .int) :: ([.fieldLink RX14 76 "LessonMakerModel" "thrown" "I"] ++ (u_ws RX14 TX14 40))
set_option maxHeartbeats 4000000 in
set_option maxRecDepth 100000 in
theorem c_X14_thrown (l : Launch) (dC : Nat → ClassId) (dI : Nat → Nat → Nat) (h0 : Nat) (mp : Nat) (mq : Nat) (ms : Nat) (mo : Nat) (mt : Nat) (ml : Nat) (mw : Nat) (m1 : Nat) (m2 : Nat) (m3 : Nat) (m4 : Nat) (m5 : Nat) (m6 : Nat) (m7 : Nat) (m8 : Nat) (m9 : Nat) (sz : Nat) : Met l yX14_thrown z_wX14_thrown ({ frames := 0, cells := 0, slots := 0, locals := 0 }) (va_Pc [.ref h0] (z_in dC dI [(h0, .inr (14, [.int 1, .int 0, .int (-1), .int 0, .ref mp, .ref mq, .ref ms, .int 0, .int 0, .ref mo, .ref mt, .int 0, .int 0, .int 0, .int 0, .int 0, .int 0, .int 0, .int 0, .int 0, .int 0, .long 0, .ref ml, .ref mw, .int 0, .ref m1, .int 0, .int 0, .int 0, .int 0, .ref m2, .ref m3, .int 0, .int 0, .ref m4, .ref m5, .ref m6, .ref m7, .ref m8, .ref m9]))] [] sz)) (va_Qi (fun (r : Int32) (_ : Unit) => r = 1) (fun (_ : Unit) t => z_out dC dI (va_A [(h0, .inr (14, [.int 1, .int 0, .int (-1), .int 0, .ref mp, .ref mq, .ref ms, .int 0, .int 0, .ref mo, .ref mt, .int 0, .int 0, .int 0, .int 0, .int 0, .int 0, .int 0, .int 0, .int 0, .int 0, .long 0, .ref ml, .ref mw, .int 0, .ref m1, .int 0, .int 0, .int 0, .int 0, .ref m2, .ref m3, .int 0, .int 0, .ref m4, .ref m5, .ref m6, .ref m7, .ref m8, .ref m9]))] sz) [] [] t) (va_A [(h0, .inr (14, [.int 1, .int 0, .int (-1), .int 0, .ref mp, .ref mq, .ref ms, .int 0, .int 0, .ref mo, .ref mt, .int 0, .int 0, .int 0, .int 0, .int 0, .int 0, .int 0, .int 0, .int 0, .int 0, .long 0, .ref ml, .ref mw, .int 0, .ref m1, .int 0, .int 0, .int 0, .int 0, .ref m2, .ref m3, .int 0, .int 0, .ref m4, .ref m5, .ref m6, .ref m7, .ref m8, .ref m9]))] sz)) 0 0 (va_A [(h0, .inr (14, [.int 1, .int 0, .int (-1), .int 0, .ref mp, .ref mq, .ref ms, .int 0, .int 0, .ref mo, .ref mt, .int 0, .int 0, .int 0, .int 0, .int 0, .int 0, .int 0, .int 0, .int 0, .int 0, .long 0, .ref ml, .ref mw, .int 0, .ref m1, .int 0, .int 0, .int 0, .int 0, .ref m2, .ref m3, .int 0, .int 0, .ref m4, .ref m5, .ref m6, .ref m7, .ref m8, .ref m9]))] sz) := by
  refine Met.ofW (cc := cX14_thrown) (maxL := 1) (ret := (some .int)) (by decide) rfl ?_
  intro p e s m args below meth c s₁ B hml hv
  obtain ⟨rfl, hsz, hP, hK, hD0, hN⟩ := hv
  have hx := B.exec
  have hb := B.bytes
  have hr := B.returns
  have hts := atoms_spec (ws := z_wX14_thrown) B.pre
  have hown : s.vm.findClass RX14 = some m.cls := findClass_of_methodNamed B.named
  have hlocks := B.notSynchronized
  have hin_14 : ∀ w ∈ u_ws RX14 TX14 40, w ∈ z_wX14_thrown := by decide +kernel
  subst hsz
  have hD := hD0.self (sz := s.heap.size)
  generalize hAe : va_A [(h0, .inr (14, [.int 1, .int 0, .int (-1), .int 0, .ref mp, .ref mq, .ref ms, .int 0, .int 0, .ref mo, .ref mt, .int 0, .int 0, .int 0, .int 0, .int 0, .int 0, .int 0, .int 0, .int 0, .int 0, .long 0, .ref ml, .ref mw, .int 0, .ref m1, .int 0, .int 0, .int 0, .int 0, .ref m2, .ref m3, .int 0, .int 0, .ref m4, .ref m5, .ref m6, .ref m7, .ref m8, .ref m9]))] s.heap.size = A at hD ⊢
  have hA : ∀ q : Nat, s.heap.size ≤ q → A q := fun q h => by rw [← hAe]; exact Or.inr h
  have hS : va_S A s.heap s.heap [] := va_S.rf
  have hP : va_P (dC, dI) z_Cl [(h0, .inr (14, [.int 1, .int 0, .int (-1), .int 0, .ref mp, .ref mq, .ref ms, .int 0, .int 0, .ref mo, .ref mt, .int 0, .int 0, .int 0, .int 0, .int 0, .int 0, .int 0, .int 0, .int 0, .int 0, .long 0, .ref ml, .ref mw, .int 0, .ref m1, .int 0, .int 0, .int 0, .int 0, .ref m2, .ref m3, .int 0, .int 0, .ref m4, .ref m5, .ref m6, .ref m7, .ref m8, .ref m9]))] s.heap := hP
  have hl := lv_entry ([.ref h0]) (n := 1) (Nat.le_of_ble_eq_true rfl)
  rw [lg_entry_eq]
  generalize (lg_sl ([.ref h0]) ++ List.replicate (1 - (lg_sl ([.ref h0])).length) Slot.unset).toArray = ls at hl ⊢
  have hl : lv_has ls 1 [(0, .ref h0)] := hl
  refine lv_aload_n hx hb dX14_thrown_0 rfl (lv_at hl 0 rfl) ?_
  refine va_get (D := (dC, dI)) (ci := 14) (v := .int 1) (C := RX14) (T := TX14) (N := 40) hx hb hts hin_14 hown hK hP 0 rfl rfl 0 (by decide) (hts (.fieldLink RX14 76 "LessonMakerModel" "thrown" "I") (List.mem_of_getElem? (i := 1) rfl)) (fun _ h9 => h9) rfl dX14_thrown_1 ?_
  have hP9 := hP.sub (ws' := []) [] rfl
  have hD9 := hD.sub (ws' := []) [] (by decide) rfl
  have hK9 := hK.sub (tys' := []) [] rfl
  refine W.widen (k := 0) (n := 0) (Nat.le_of_ble_eq_true rfl) (Nat.le_of_ble_eq_true rfl) ?_
  exact W.iret (v := 1) hx hb hr (fun t ht hW => ⟨⟨1, (), rfl, rfl, by rw [ht]; exact hP9, va_K.moved hW.alike hK9, hD9⟩, hS.F ht⟩) hS.2.2 dX14_thrown_4

def z_wX14_count : List Cond := .code yX14_count cX14_count 2 (some .int) :: ([.fieldLink RX14 76 "LessonMakerModel" "thrown" "I", .fieldLink RX14 318 "LessonMakerModel" "is" "Z", .fieldLink RX14 324 "LessonMakerModel" "runs" "I", .fieldLink RX14 304 "LessonMakerModel" "taped" "I"] ++ (u_ws RX14 TX14 40))
set_option maxHeartbeats 4000000 in
set_option maxRecDepth 100000 in
theorem c_X14_count (l : Launch) (dC : Nat → ClassId) (dI : Nat → Nat → Nat) (h0 : Nat) (mp : Nat) (mq : Nat) (ms : Nat) (mo : Nat) (mt : Nat) (ml : Nat) (mw : Nat) (m1 : Nat) (m2 : Nat) (m3 : Nat) (m4 : Nat) (m5 : Nat) (m6 : Nat) (m7 : Nat) (m8 : Nat) (m9 : Nat) (p1 : Int32) (sz : Nat) : Met l yX14_count z_wX14_count ({ frames := 0, cells := 0, slots := 0, locals := 0 }) (va_Pc [.ref h0, .int p1] (z_in dC dI [(h0, .inr (14, [.int 0, .int 0, .int (-1), .int 0, .ref mp, .ref mq, .ref ms, .int 0, .int 0, .ref mo, .ref mt, .int 0, .int 0, .int 0, .int 0, .int 0, .int 0, .int 0, .int 0, .int 0, .int 0, .long 0, .ref ml, .ref mw, .int 0, .ref m1, .int 0, .int 0, .int 0, .int 0, .ref m2, .ref m3, .int 0, .int 0, .ref m4, .ref m5, .ref m6, .ref m7, .ref m8, .ref m9]))] [] sz)) (va_Qi (fun (r : Int32) (_ : Unit) => r = z_count p1) (fun (_ : Unit) t => z_out dC dI (va_A [(h0, .inr (14, [.int 0, .int 0, .int (-1), .int 0, .ref mp, .ref mq, .ref ms, .int 0, .int 0, .ref mo, .ref mt, .int 0, .int 0, .int 0, .int 0, .int 0, .int 0, .int 0, .int 0, .int 0, .int 0, .long 0, .ref ml, .ref mw, .int 0, .ref m1, .int 0, .int 0, .int 0, .int 0, .ref m2, .ref m3, .int 0, .int 0, .ref m4, .ref m5, .ref m6, .ref m7, .ref m8, .ref m9]))] sz) [] [] t) (va_A [(h0, .inr (14, [.int 0, .int 0, .int (-1), .int 0, .ref mp, .ref mq, .ref ms, .int 0, .int 0, .ref mo, .ref mt, .int 0, .int 0, .int 0, .int 0, .int 0, .int 0, .int 0, .int 0, .int 0, .int 0, .long 0, .ref ml, .ref mw, .int 0, .ref m1, .int 0, .int 0, .int 0, .int 0, .ref m2, .ref m3, .int 0, .int 0, .ref m4, .ref m5, .ref m6, .ref m7, .ref m8, .ref m9]))] sz)) 0 0 (va_A [(h0, .inr (14, [.int 0, .int 0, .int (-1), .int 0, .ref mp, .ref mq, .ref ms, .int 0, .int 0, .ref mo, .ref mt, .int 0, .int 0, .int 0, .int 0, .int 0, .int 0, .int 0, .int 0, .int 0, .int 0, .long 0, .ref ml, .ref mw, .int 0, .ref m1, .int 0, .int 0, .int 0, .int 0, .ref m2, .ref m3, .int 0, .int 0, .ref m4, .ref m5, .ref m6, .ref m7, .ref m8, .ref m9]))] sz) := by
  refine Met.ofW (cc := cX14_count) (maxL := 2) (ret := (some .int)) (by decide) rfl ?_
  intro p e s m args below meth c s₁ B hml hv
  obtain ⟨rfl, hsz, hP, hK, hD0, hN⟩ := hv
  have hx := B.exec
  have hb := B.bytes
  have hr := B.returns
  have hts := atoms_spec (ws := z_wX14_count) B.pre
  have hown : s.vm.findClass RX14 = some m.cls := findClass_of_methodNamed B.named
  have hlocks := B.notSynchronized
  have hin_14 : ∀ w ∈ u_ws RX14 TX14 40, w ∈ z_wX14_count := by decide +kernel
  subst hsz
  have hD := hD0.self (sz := s.heap.size)
  generalize hAe : va_A [(h0, .inr (14, [.int 0, .int 0, .int (-1), .int 0, .ref mp, .ref mq, .ref ms, .int 0, .int 0, .ref mo, .ref mt, .int 0, .int 0, .int 0, .int 0, .int 0, .int 0, .int 0, .int 0, .int 0, .int 0, .long 0, .ref ml, .ref mw, .int 0, .ref m1, .int 0, .int 0, .int 0, .int 0, .ref m2, .ref m3, .int 0, .int 0, .ref m4, .ref m5, .ref m6, .ref m7, .ref m8, .ref m9]))] s.heap.size = A at hD ⊢
  have hA : ∀ q : Nat, s.heap.size ≤ q → A q := fun q h => by rw [← hAe]; exact Or.inr h
  have hS : va_S A s.heap s.heap [] := va_S.rf
  have hP : va_P (dC, dI) z_Cl [(h0, .inr (14, [.int 0, .int 0, .int (-1), .int 0, .ref mp, .ref mq, .ref ms, .int 0, .int 0, .ref mo, .ref mt, .int 0, .int 0, .int 0, .int 0, .int 0, .int 0, .int 0, .int 0, .int 0, .int 0, .long 0, .ref ml, .ref mw, .int 0, .ref m1, .int 0, .int 0, .int 0, .int 0, .ref m2, .ref m3, .int 0, .int 0, .ref m4, .ref m5, .ref m6, .ref m7, .ref m8, .ref m9]))] s.heap := hP
  have hl := lv_entry ([.ref h0, .int p1]) (n := 2) (Nat.le_of_ble_eq_true rfl)
  rw [lg_entry_eq]
  generalize (lg_sl ([.ref h0, .int p1]) ++ List.replicate (2 - (lg_sl ([.ref h0, .int p1])).length) Slot.unset).toArray = ls at hl ⊢
  have hl : lv_has ls 2 [(0, .ref h0), (1, .int p1)] := hl
  refine lv_aload_n hx hb dX14_count_0 rfl (lv_at hl 0 rfl) ?_
  refine lv_iconst (v := 0) hx hb dX14_count_1 (by decide) ?_
  refine va_put (D := (dC, dI)) (ci := 14) (v := .int 0) (ty := .int) (C := RX14) (T := TX14) (N := 40) hx hb hts hin_14 tyX14 tyX14_ok nmX14 hown hK hP hD hS 0 rfl rfl 0 (by decide) (hts (.fieldLink RX14 76 "LessonMakerModel" "thrown" "I") (List.mem_of_getElem? (i := 1) rfl)) (fun _ h9 => h9) rfl (by decide +kernel) rfl rfl (Nat.le_of_ble_eq_true rfl) dX14_count_2 (fun H locs hP hD hS => ?_)
  have hP : va_P (dC, dI) z_Cl [(h0, .inr (14, [.int 0, .int 0, .int (-1), .int 0, .ref mp, .ref mq, .ref ms, .int 0, .int 0, .ref mo, .ref mt, .int 0, .int 0, .int 0, .int 0, .int 0, .int 0, .int 0, .int 0, .int 0, .int 0, .long 0, .ref ml, .ref mw, .int 0, .ref m1, .int 0, .int 0, .int 0, .int 0, .ref m2, .ref m3, .int 0, .int 0, .ref m4, .ref m5, .ref m6, .ref m7, .ref m8, .ref m9]))] H := hP
  have hD : va_D A [(h0, .inr (14, [.int 0, .int 0, .int (-1), .int 0, .ref mp, .ref mq, .ref ms, .int 0, .int 0, .ref mo, .ref mt, .int 0, .int 0, .int 0, .int 0, .int 0, .int 0, .int 0, .int 0, .int 0, .int 0, .long 0, .ref ml, .ref mw, .int 0, .ref m1, .int 0, .int 0, .int 0, .int 0, .ref m2, .ref m3, .int 0, .int 0, .ref m4, .ref m5, .ref m6, .ref m7, .ref m8, .ref m9]))] := hD
  refine lv_iload_n hx hb dX14_count_5 rfl (lv_at hl 1 rfl) ?_
  rcases z_sw4 p1 with rfl | rfl | rfl | rfl | hsw
  · refine lv_tableIn (off := 30) (tgt := 36) hx hb dX14_count_6 (by decide) (by decide) rfl (by decide) ?_
    refine lv_aload_n hx hb dX14_count_36 rfl (lv_at hl 0 rfl) ?_
    refine va_get (D := (dC, dI)) (ci := 14) (v := .int 0) (C := RX14) (T := TX14) (N := 40) hx hb hts hin_14 hown hK hP 0 rfl rfl 7 (by decide) (hts (.fieldLink RX14 318 "LessonMakerModel" "is" "Z") (List.mem_of_getElem? (i := 2) rfl)) (fun _ h9 => h9) rfl dX14_count_37 ?_
    refine lv_if_eq (tgt := 53) hx hb dX14_count_40 (by decide) (fun _ => ?_) (fun h9 => absurd (by decide) h9)
    refine lv_iconst (v := 0) hx hb dX14_count_53 (by decide) ?_
    have hP9 := hP.sub (ws' := []) [] rfl
    have hD9 := hD.sub (ws' := []) [] (by decide) rfl
    have hK9 := hK.sub (tys' := []) [] rfl
    refine W.widen (k := 0) (n := 0) (Nat.le_of_ble_eq_true rfl) (Nat.le_of_ble_eq_true rfl) ?_
    exact W.iret (v := 0) hx hb hr (fun t ht hW => ⟨⟨0, (), rfl, (by decide), by rw [ht]; exact hP9, va_K.moved hW.alike hK9, hD9⟩, hS.F ht⟩) hS.2.2 dX14_count_54
  · refine lv_tableIn (off := 49) (tgt := 55) hx hb dX14_count_6 (by decide) (by decide) rfl (by decide) ?_
    refine lv_aload_n hx hb dX14_count_55 rfl (lv_at hl 0 rfl) ?_
    refine va_get (D := (dC, dI)) (ci := 14) (v := .int 0) (C := RX14) (T := TX14) (N := 40) hx hb hts hin_14 hown hK hP 0 rfl rfl 7 (by decide) (hts (.fieldLink RX14 318 "LessonMakerModel" "is" "Z") (List.mem_of_getElem? (i := 2) rfl)) (fun _ h9 => h9) rfl dX14_count_56 ?_
    refine lv_if_eq (tgt := 72) hx hb dX14_count_59 (by decide) (fun _ => ?_) (fun h9 => absurd (by decide) h9)
    refine lv_iconst (v := 0) hx hb dX14_count_72 (by decide) ?_
    have hP9 := hP.sub (ws' := []) [] rfl
    have hD9 := hD.sub (ws' := []) [] (by decide) rfl
    have hK9 := hK.sub (tys' := []) [] rfl
    refine W.widen (k := 0) (n := 0) (Nat.le_of_ble_eq_true rfl) (Nat.le_of_ble_eq_true rfl) ?_
    exact W.iret (v := 0) hx hb hr (fun t ht hW => ⟨⟨0, (), rfl, (by decide), by rw [ht]; exact hP9, va_K.moved hW.alike hK9, hD9⟩, hS.F ht⟩) hS.2.2 dX14_count_73
  · refine lv_tableIn (off := 68) (tgt := 74) hx hb dX14_count_6 (by decide) (by decide) rfl (by decide) ?_
    refine lv_aload_n hx hb dX14_count_74 rfl (lv_at hl 0 rfl) ?_
    refine va_get (D := (dC, dI)) (ci := 14) (v := .int 0) (C := RX14) (T := TX14) (N := 40) hx hb hts hin_14 hown hK hP 0 rfl rfl 32 (by decide) (hts (.fieldLink RX14 324 "LessonMakerModel" "runs" "I") (List.mem_of_getElem? (i := 3) rfl)) (fun _ h9 => h9) rfl dX14_count_75 ?_
    have hP9 := hP.sub (ws' := []) [] rfl
    have hD9 := hD.sub (ws' := []) [] (by decide) rfl
    have hK9 := hK.sub (tys' := []) [] rfl
    refine W.widen (k := 0) (n := 0) (Nat.le_of_ble_eq_true rfl) (Nat.le_of_ble_eq_true rfl) ?_
    exact W.iret (v := 0) hx hb hr (fun t ht hW => ⟨⟨0, (), rfl, (by decide), by rw [ht]; exact hP9, va_K.moved hW.alike hK9, hD9⟩, hS.F ht⟩) hS.2.2 dX14_count_78
  · refine lv_tableIn (off := 73) (tgt := 79) hx hb dX14_count_6 (by decide) (by decide) rfl (by decide) ?_
    refine lv_aload_n hx hb dX14_count_79 rfl (lv_at hl 0 rfl) ?_
    refine va_get (D := (dC, dI)) (ci := 14) (v := .int 0) (C := RX14) (T := TX14) (N := 40) hx hb hts hin_14 hown hK hP 0 rfl rfl 11 (by decide) (hts (.fieldLink RX14 304 "LessonMakerModel" "taped" "I") (List.mem_of_getElem? (i := 4) rfl)) (fun _ h9 => h9) rfl dX14_count_80 ?_
    have hP9 := hP.sub (ws' := []) [] rfl
    have hD9 := hD.sub (ws' := []) [] (by decide) rfl
    have hK9 := hK.sub (tys' := []) [] rfl
    refine W.widen (k := 0) (n := 0) (Nat.le_of_ble_eq_true rfl) (Nat.le_of_ble_eq_true rfl) ?_
    exact W.iret (v := 0) hx hb hr (fun t ht hW => ⟨⟨0, (), rfl, (by decide), by rw [ht]; exact hP9, va_K.moved hW.alike hK9, hD9⟩, hS.F ht⟩) hS.2.2 dX14_count_83
  · refine lv_tableOut (tgt := 84) hx hb dX14_count_6 hsw (by decide) ?_
    refine lv_iconst (v := (-1)) hx hb dX14_count_84 (by decide) ?_
    have hP9 := hP.sub (ws' := []) [] rfl
    have hD9 := hD.sub (ws' := []) [] (by decide) rfl
    have hK9 := hK.sub (tys' := []) [] rfl
    refine W.widen (k := 0) (n := 0) (Nat.le_of_ble_eq_true rfl) (Nat.le_of_ble_eq_true rfl) ?_
    exact W.iret (v := (-1)) hx hb hr (fun t ht hW => ⟨⟨(-1), (), rfl, (z_count_out hsw), by rw [ht]; exact hP9, va_K.moved hW.alike hK9, hD9⟩, hS.F ht⟩) hS.2.2 dX14_count_85
