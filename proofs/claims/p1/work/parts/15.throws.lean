def z_wX10_name : List Cond := .code yX10_name cX10_name 4 (some .int) :: ([.fieldLink RX10 16 "LessonMaker" "now" "LLessonMaker$Program;", .fieldLink RX6 39 "LessonMaker$Program" "functionCount" "I", .methodLink RX10 98 yX6_hasFunction, .instanceMethod yX6_hasFunction, .selects RX6 yX6_hasFunction yX6_hasFunction, .initialized RX6, .code yX6_hasFunction cX6_hasFunction 2 (some .boolean), .classLink RX10 120 "java/util/NoSuchElementException", .initialized "java/util/NoSuchElementException"] ++ ((u_ws RX6 TX6 6 ++ u_ws RX10 TX10 14) ++ z_X))
set_option maxRecDepth 20000 in
theorem c_X10_name_zg_1 : GoodIn z_wX10_name (wsV RX10 98 RX6 yX6_hasFunction z_wX6_hasFunction) := goodIn_r _ [3, 4, 5, 6, 7, 2, 10, 11, 12, 13, 14, 15] (by decide +kernel) (by decide +kernel)
set_option maxHeartbeats 4000000 in
set_option maxRecDepth 100000 in
theorem c_X10_name (l : Launch) (hst : l.stackTraces = false) (dC : Nat → ClassId) (dI : Nat → Nat → Nat) (h0 : Nat) (tp : Nat) (nw : Nat) (sp : Nat) (rd : Nat) (la : Nat) (tr : Nat) (ti : Nat) (ch : Nat) (td : Nat) (gr : Nat) (n1 : Nat) (n2 : Nat) (n3 : Nat) (n4 : Nat) (p1 : Int32) (p2 : Int32) (sz : Nat) : vx_Met l yX10_name z_wX10_name ({ frames := 8, cells := 1, slots := 6, locals := 200 }) (va_Pc [.ref h0, .int p1, .int p2] (z_in2 dC dI [(h0, .inr (10, [.ref tp, .int 0, .ref nw, .ref sp, .ref rd, .ref la, .ref tr, .ref ti, .int 0, .ref ch, .ref td, .ref gr, .int 0, .int 0])), (nw, .inr (6, [.ref n1, .ref n2, .ref n3, .ref n4, .int 0, .int 0]))] [] sz)) (va_Qi (fun (_ : Int32) (_ : Unit) => False) (fun _ _ => True) (va_A [(h0, .inr (10, [.ref tp, .int 0, .ref nw, .ref sp, .ref rd, .ref la, .ref tr, .ref ti, .int 0, .ref ch, .ref td, .ref gr, .int 0, .int 0])), (nw, .inr (6, [.ref n1, .ref n2, .ref n3, .ref n4, .int 0, .int 0]))] sz)) (vx_X (fun _ : Unit => True) (fun E (_ : Unit) _ => E = "java/util/NoSuchElementException") (va_A [(h0, .inr (10, [.ref tp, .int 0, .ref nw, .ref sp, .ref rd, .ref la, .ref tr, .ref ti, .int 0, .ref ch, .ref td, .ref gr, .int 0, .int 0])), (nw, .inr (6, [.ref n1, .ref n2, .ref n3, .ref n4, .int 0, .int 0]))] sz)) 1 6 (va_A [(h0, .inr (10, [.ref tp, .int 0, .ref nw, .ref sp, .ref rd, .ref la, .ref tr, .ref ti, .int 0, .ref ch, .ref td, .ref gr, .int 0, .int 0])), (nw, .inr (6, [.ref n1, .ref n2, .ref n3, .ref n4, .int 0, .int 0]))] sz) := by
  refine vx_ofW (cc := cX10_name) (maxL := 4) (ret := (some .int)) (by decide) rfl ?_
  intro p e s m args below meth c s₁ B hml ht9 hv
  obtain ⟨rfl, hsz, hP, hK, hD0, hN, hZ⟩ := hv
  have hx := B.exec
  have hb := B.bytes
  have hr := B.returns
  have hts := atoms_spec (ws := z_wX10_name) B.pre
  have hown : s.vm.findClass RX10 = some m.cls := findClass_of_methodNamed B.named
  have hlocks := B.notSynchronized
  have hin_10 : ∀ w ∈ u_ws RX10 TX10 14, w ∈ z_wX10_name := by decide +kernel
  subst hsz
  have hD := hD0.self (sz := s.heap.size)
  generalize hAe : va_A [(h0, .inr (10, [.ref tp, .int 0, .ref nw, .ref sp, .ref rd, .ref la, .ref tr, .ref ti, .int 0, .ref ch, .ref td, .ref gr, .int 0, .int 0])), (nw, .inr (6, [.ref n1, .ref n2, .ref n3, .ref n4, .int 0, .int 0]))] s.heap.size = A at hD hZ ⊢
  have hA : ∀ q : Nat, s.heap.size ≤ q → A q := fun q h => by rw [← hAe]; exact Or.inr h
  have hS : va_S A s.heap s.heap [] := va_S.rf
  have hP : va_P (dC, dI) z_Cl [(h0, .inr (10, [.ref tp, .int 0, .ref nw, .ref sp, .ref rd, .ref la, .ref tr, .ref ti, .int 0, .ref ch, .ref td, .ref gr, .int 0, .int 0])), (nw, .inr (6, [.ref n1, .ref n2, .ref n3, .ref n4, .int 0, .int 0]))] s.heap := hP
  have hl := lv_entry ([.ref h0, .int p1, .int p2]) (n := 4) (Nat.le_of_ble_eq_true rfl)
  rw [lg_entry_eq]
  generalize (lg_sl ([.ref h0, .int p1, .int p2]) ++ List.replicate (4 - (lg_sl ([.ref h0, .int p1, .int p2])).length) Slot.unset).toArray = ls at hl ⊢
  have hl : lv_has ls 4 [(0, .ref h0), (1, .int p1), (2, .int p2)] := hl
  refine lv_aload_n hx hb dX10_name_0 rfl (lv_at hl 0 rfl) ?_
  refine va_get (D := (dC, dI)) (ci := 10) (v := .ref nw) (C := RX10) (T := TX10) (N := 14) hx hb hts hin_10 hown hK hP 0 rfl rfl 2 (by decide) (hts (.fieldLink RX10 16 "LessonMaker" "now" "LLessonMaker$Program;") (List.mem_of_getElem? (i := 1) rfl)) (fun _ h9 => h9) rfl dX10_name_1 ?_
  refine lv_iload_n hx hb dX10_name_4 rfl (lv_at hl 1 rfl) ?_
  have hPc := hP.sub (ws' := [(nw, .inr (6, [.ref n1, .ref n2, .ref n3, .ref n4, .int 0, .int 0]))]) [1] rfl
  have hDc := hD.sub (ws' := [(nw, .inr (6, [.ref n1, .ref n2, .ref n3, .ref n4, .int 0, .int 0]))]) [1] (by decide) rfl
  have hKc := hK.sub (tys' := []) [] rfl
  have hFc := va_free (wc := [(nw, .inr (6, [.ref n1, .ref n2, .ref n3, .ref n4, .int 0, .int 0]))]) hD hS hA [1] rfl
  refine va_calli (va_runV (As := [.int p1]) (rest := []) ⟨hx, hb, hml, hown, hts⟩ (c_X6_hasFunction l dC dI nw n1 n2 n3 n4 p1 s.heap.size) (cwV 1 hts c_X10_name_zg_1 rfl rfl rfl (by decide +kernel) ⟨(Nat.le_of_ble_eq_true rfl), (Nat.le_of_ble_eq_true rfl)⟩) ⟨z_blind, va_recv hKc hPc (ci := 6) (q0 := 0) rfl rfl, z_pre hPc hKc hDc hN⟩ rfl rfl hl.1 rfl (lv_room (Nat.le_of_ble_eq_true rfl)) dX10_name_5 ⟨(Nat.le_of_ble_eq_true rfl), (Nat.le_of_ble_eq_true rfl)⟩) hS (fun q _ h => hFc q h) hFc (fun r_2 u t H1 locs ht hvm hw hB hz1 hk1 hS => ?_)
  obtain ⟨hP1, hK1, hD1⟩ := hB
  rw [ht] at hP1
  have hK1 := va_K.moved hvm.symm hK1
  obtain ⟨hP, hD⟩ := va_join (wr := [(h0, .inr (10, [.ref tp, .int 0, .ref nw, .ref sp, .ref rd, .ref la, .ref tr, .ref ti, .int 0, .ref ch, .ref td, .ref gr, .int 0, .int 0]))]) (w1 := []) hP hD [1] [0] rfl rfl (by decide) (by decide) hk1 hFc hP1 hD1
  have hK := (hK.sub (tys' := []) [] rfl).app hK1
  generalize H1 = H at hP hS ⊢
  have hP : va_P (dC, dI) z_Cl [(h0, .inr (10, [.ref tp, .int 0, .ref nw, .ref sp, .ref rd, .ref la, .ref tr, .ref ti, .int 0, .ref ch, .ref td, .ref gr, .int 0, .int 0]))] H := hP
  have hD : va_D A [(h0, .inr (10, [.ref tp, .int 0, .ref nw, .ref sp, .ref rd, .ref la, .ref tr, .ref ti, .int 0, .ref ch, .ref td, .ref gr, .int 0, .int 0]))] := hD
  have hK : va_K (dC, dI) z_Cl [] s := hK
  have hw : r_2 = 0 := hw
  subst hw
  refine lv_if_ne (tgt := 21) hx hb dX10_name_8 (by decide) (fun h9 => absurd (by decide) h9) (fun _ => ?_)
  obtain ⟨sa_3, hsa_3⟩ := hN.2.2.2.2.1
  exact z_throwS (text := "no such function") hx hb hst hown (hts (.classLink RX10 120 "java/util/NoSuchElementException") (List.mem_of_getElem? (i := 8) rfl)) (hts (.initialized "java/util/NoSuchElementException") (List.mem_of_getElem? (i := 9) rfl)) hsa_3 (vx_hat (fun w h => hts w (List.mem_cons_of_mem _ (List.mem_append_right _ (List.mem_append_right _ h)))) z_B_in (hN.B)) (by decide +kernel) hZ.1 hZ.2 hS (hl.1.trans hml.symm) dX10_name_11 dX10_name_14 dX10_name_15 dX10_name_17 dX10_name_20 (fun x hx => (ht9 x hx).elim) (Nat.le_of_ble_eq_true rfl) (Nat.le_of_ble_eq_true rfl) (Nat.le_of_ble_eq_true rfl) (Nat.le_of_ble_eq_true rfl) hlocks (fun t _ h1 h2 => ⟨(), trivial, rfl, ⟨Nat.le_trans hS.1 h1, fun q hq hn => (h2 q (Nat.lt_of_lt_of_le hq hS.1)).trans (hS.2.1 q hq hn)⟩⟩) hS.2.2 (Nat.le_of_ble_eq_true rfl) (Nat.le_of_ble_eq_true rfl)

def z_wX10_said : List Cond := .code yX10_said cX10_said 2 (some .int) :: ([.fieldLink RX10 171 "LessonMaker" "hasRun" "Z", .classLink RX10 120 "java/util/NoSuchElementException", .initialized "java/util/NoSuchElementException"] ++ ((u_ws RX10 TX10 14) ++ z_X))
set_option maxHeartbeats 4000000 in
set_option maxRecDepth 100000 in
theorem c_X10_said (l : Launch) (hst : l.stackTraces = false) (dC : Nat → ClassId) (dI : Nat → Nat → Nat) (h0 : Nat) (tp : Nat) (nw : Nat) (sp : Nat) (rd : Nat) (la : Nat) (tr : Nat) (ti : Nat) (ch : Nat) (td : Nat) (gr : Nat) (p1 : Int32) (sz : Nat) : vx_Met l yX10_said z_wX10_said ({ frames := 8, cells := 1, slots := 6, locals := 200 }) (va_Pc [.ref h0, .int p1] (z_in2 dC dI [(h0, .inr (10, [.ref tp, .int 0, .ref nw, .ref sp, .ref rd, .ref la, .ref tr, .ref ti, .int 0, .ref ch, .ref td, .ref gr, .int 0, .int 0]))] [] sz)) (va_Qi (fun (_ : Int32) (_ : Unit) => False) (fun _ _ => True) (va_A [(h0, .inr (10, [.ref tp, .int 0, .ref nw, .ref sp, .ref rd, .ref la, .ref tr, .ref ti, .int 0, .ref ch, .ref td, .ref gr, .int 0, .int 0]))] sz)) (vx_X (fun _ : Unit => True) (fun E (_ : Unit) _ => E = "java/util/NoSuchElementException") (va_A [(h0, .inr (10, [.ref tp, .int 0, .ref nw, .ref sp, .ref rd, .ref la, .ref tr, .ref ti, .int 0, .ref ch, .ref td, .ref gr, .int 0, .int 0]))] sz)) 1 6 (va_A [(h0, .inr (10, [.ref tp, .int 0, .ref nw, .ref sp, .ref rd, .ref la, .ref tr, .ref ti, .int 0, .ref ch, .ref td, .ref gr, .int 0, .int 0]))] sz) := by
  refine vx_ofW (cc := cX10_said) (maxL := 2) (ret := (some .int)) (by decide) rfl ?_
  intro p e s m args below meth c s₁ B hml ht9 hv
  obtain ⟨rfl, hsz, hP, hK, hD0, hN, hZ⟩ := hv
  have hx := B.exec
  have hb := B.bytes
  have hr := B.returns
  have hts := atoms_spec (ws := z_wX10_said) B.pre
  have hown : s.vm.findClass RX10 = some m.cls := findClass_of_methodNamed B.named
  have hlocks := B.notSynchronized
  have hin_10 : ∀ w ∈ u_ws RX10 TX10 14, w ∈ z_wX10_said := by decide +kernel
  subst hsz
  have hD := hD0.self (sz := s.heap.size)
  generalize hAe : va_A [(h0, .inr (10, [.ref tp, .int 0, .ref nw, .ref sp, .ref rd, .ref la, .ref tr, .ref ti, .int 0, .ref ch, .ref td, .ref gr, .int 0, .int 0]))] s.heap.size = A at hD hZ ⊢
  have hA : ∀ q : Nat, s.heap.size ≤ q → A q := fun q h => by rw [← hAe]; exact Or.inr h
  have hS : va_S A s.heap s.heap [] := va_S.rf
  have hP : va_P (dC, dI) z_Cl [(h0, .inr (10, [.ref tp, .int 0, .ref nw, .ref sp, .ref rd, .ref la, .ref tr, .ref ti, .int 0, .ref ch, .ref td, .ref gr, .int 0, .int 0]))] s.heap := hP
  have hl := lv_entry ([.ref h0, .int p1]) (n := 2) (Nat.le_of_ble_eq_true rfl)
  rw [lg_entry_eq]
  generalize (lg_sl ([.ref h0, .int p1]) ++ List.replicate (2 - (lg_sl ([.ref h0, .int p1])).length) Slot.unset).toArray = ls at hl ⊢
  have hl : lv_has ls 2 [(0, .ref h0), (1, .int p1)] := hl
  refine lv_aload_n hx hb dX10_said_0 rfl (lv_at hl 0 rfl) ?_
  refine va_get (D := (dC, dI)) (ci := 10) (v := .int 0) (C := RX10) (T := TX10) (N := 14) hx hb hts hin_10 hown hK hP 0 rfl rfl 8 (by decide) (hts (.fieldLink RX10 171 "LessonMaker" "hasRun" "Z") (List.mem_of_getElem? (i := 1) rfl)) (fun _ h9 => h9) rfl dX10_said_1 ?_
  refine lv_if_eq (tgt := 18) hx hb dX10_said_4 (by decide) (fun _ => ?_) (fun h9 => absurd (by decide) h9)
  obtain ⟨sa_1, hsa_1⟩ := hN.2.2.2.2.2.1
  exact z_throwS (text := "nothing such was said") hx hb hst hown (hts (.classLink RX10 120 "java/util/NoSuchElementException") (List.mem_of_getElem? (i := 2) rfl)) (hts (.initialized "java/util/NoSuchElementException") (List.mem_of_getElem? (i := 3) rfl)) hsa_1 (vx_hat (fun w h => hts w (List.mem_cons_of_mem _ (List.mem_append_right _ (List.mem_append_right _ h)))) z_B_in (hN.B)) (by decide +kernel) hZ.1 hZ.2 hS (hl.1.trans hml.symm) dX10_said_18 dX10_said_21 dX10_said_22 dX10_said_24 dX10_said_27 (fun x hx => (ht9 x hx).elim) (Nat.le_of_ble_eq_true rfl) (Nat.le_of_ble_eq_true rfl) (Nat.le_of_ble_eq_true rfl) (Nat.le_of_ble_eq_true rfl) hlocks (fun t _ h1 h2 => ⟨(), trivial, rfl, ⟨Nat.le_trans hS.1 h1, fun q hq hn => (h2 q (Nat.lt_of_lt_of_le hq hS.1)).trans (hS.2.1 q hq hn)⟩⟩) hS.2.2 (Nat.le_of_ble_eq_true rfl) (Nat.le_of_ble_eq_true rfl)

def z_wX10_trace : List Cond := .code yX10_trace cX10_trace 3 (some .int) :: ([.fieldLink RX10 171 "LessonMaker" "hasRun" "Z", .classLink RX10 120 "java/util/NoSuchElementException", .initialized "java/util/NoSuchElementException"] ++ ((u_ws RX10 TX10 14) ++ z_X))
set_option maxHeartbeats 4000000 in
set_option maxRecDepth 100000 in
theorem c_X10_trace (l : Launch) (hst : l.stackTraces = false) (dC : Nat → ClassId) (dI : Nat → Nat → Nat) (h0 : Nat) (tp : Nat) (nw : Nat) (sp : Nat) (rd : Nat) (la : Nat) (tr : Nat) (ti : Nat) (ch : Nat) (td : Nat) (gr : Nat) (p1 : Int32) (p2 : Int32) (sz : Nat) : vx_Met l yX10_trace z_wX10_trace ({ frames := 8, cells := 1, slots := 6, locals := 200 }) (va_Pc [.ref h0, .int p1, .int p2] (z_in2 dC dI [(h0, .inr (10, [.ref tp, .int 0, .ref nw, .ref sp, .ref rd, .ref la, .ref tr, .ref ti, .int 0, .ref ch, .ref td, .ref gr, .int 0, .int 0]))] [] sz)) (va_Qi (fun (_ : Int32) (_ : Unit) => False) (fun _ _ => True) (va_A [(h0, .inr (10, [.ref tp, .int 0, .ref nw, .ref sp, .ref rd, .ref la, .ref tr, .ref ti, .int 0, .ref ch, .ref td, .ref gr, .int 0, .int 0]))] sz)) (vx_X (fun _ : Unit => True) (fun E (_ : Unit) _ => E = "java/util/NoSuchElementException") (va_A [(h0, .inr (10, [.ref tp, .int 0, .ref nw, .ref sp, .ref rd, .ref la, .ref tr, .ref ti, .int 0, .ref ch, .ref td, .ref gr, .int 0, .int 0]))] sz)) 1 6 (va_A [(h0, .inr (10, [.ref tp, .int 0, .ref nw, .ref sp, .ref rd, .ref la, .ref tr, .ref ti, .int 0, .ref ch, .ref td, .ref gr, .int 0, .int 0]))] sz) := by
  refine vx_ofW (cc := cX10_trace) (maxL := 3) (ret := (some .int)) (by decide) rfl ?_
  intro p e s m args below meth c s₁ B hml ht9 hv
  obtain ⟨rfl, hsz, hP, hK, hD0, hN, hZ⟩ := hv
  have hx := B.exec
  have hb := B.bytes
  have hr := B.returns
  have hts := atoms_spec (ws := z_wX10_trace) B.pre
  have hown : s.vm.findClass RX10 = some m.cls := findClass_of_methodNamed B.named
  have hlocks := B.notSynchronized
  have hin_10 : ∀ w ∈ u_ws RX10 TX10 14, w ∈ z_wX10_trace := by decide +kernel
  subst hsz
  have hD := hD0.self (sz := s.heap.size)
  generalize hAe : va_A [(h0, .inr (10, [.ref tp, .int 0, .ref nw, .ref sp, .ref rd, .ref la, .ref tr, .ref ti, .int 0, .ref ch, .ref td, .ref gr, .int 0, .int 0]))] s.heap.size = A at hD hZ ⊢
  have hA : ∀ q : Nat, s.heap.size ≤ q → A q := fun q h => by rw [← hAe]; exact Or.inr h
  have hS : va_S A s.heap s.heap [] := va_S.rf
  have hP : va_P (dC, dI) z_Cl [(h0, .inr (10, [.ref tp, .int 0, .ref nw, .ref sp, .ref rd, .ref la, .ref tr, .ref ti, .int 0, .ref ch, .ref td, .ref gr, .int 0, .int 0]))] s.heap := hP
  have hl := lv_entry ([.ref h0, .int p1, .int p2]) (n := 3) (Nat.le_of_ble_eq_true rfl)
  rw [lg_entry_eq]
  generalize (lg_sl ([.ref h0, .int p1, .int p2]) ++ List.replicate (3 - (lg_sl ([.ref h0, .int p1, .int p2])).length) Slot.unset).toArray = ls at hl ⊢
  have hl : lv_has ls 3 [(0, .ref h0), (1, .int p1), (2, .int p2)] := hl
  refine lv_aload_n hx hb dX10_trace_0 rfl (lv_at hl 0 rfl) ?_
  refine va_get (D := (dC, dI)) (ci := 10) (v := .int 0) (C := RX10) (T := TX10) (N := 14) hx hb hts hin_10 hown hK hP 0 rfl rfl 8 (by decide) (hts (.fieldLink RX10 171 "LessonMaker" "hasRun" "Z") (List.mem_of_getElem? (i := 1) rfl)) (fun _ h9 => h9) rfl dX10_trace_1 ?_
  refine lv_if_eq (tgt := 19) hx hb dX10_trace_4 (by decide) (fun _ => ?_) (fun h9 => absurd (by decide) h9)
  obtain ⟨sa_1, hsa_1⟩ := hN.2.2.2.2.2.2.1
  exact z_throwS (text := "nothing such was traced") hx hb hst hown (hts (.classLink RX10 120 "java/util/NoSuchElementException") (List.mem_of_getElem? (i := 2) rfl)) (hts (.initialized "java/util/NoSuchElementException") (List.mem_of_getElem? (i := 3) rfl)) hsa_1 (vx_hat (fun w h => hts w (List.mem_cons_of_mem _ (List.mem_append_right _ (List.mem_append_right _ h)))) z_B_in (hN.B)) (by decide +kernel) hZ.1 hZ.2 hS (hl.1.trans hml.symm) dX10_trace_19 dX10_trace_22 dX10_trace_23 dX10_trace_25 dX10_trace_28 (fun x hx => (ht9 x hx).elim) (Nat.le_of_ble_eq_true rfl) (Nat.le_of_ble_eq_true rfl) (Nat.le_of_ble_eq_true rfl) (Nat.le_of_ble_eq_true rfl) hlocks (fun t _ h1 h2 => ⟨(), trivial, rfl, ⟨Nat.le_trans hS.1 h1, fun q hq hn => (h2 q (Nat.lt_of_lt_of_le hq hS.1)).trans (hS.2.1 q hq hn)⟩⟩) hS.2.2 (Nat.le_of_ble_eq_true rfl) (Nat.le_of_ble_eq_true rfl)

def z_wL_name : List Cond := .codeWith yL_name cL_name 5 (some .int) [(0, 10, 13, 13)] :: ([.fieldLink RX10 16 "LessonMaker" "now" "LLessonMaker$Program;", .fieldLink RX6 39 "LessonMaker$Program" "functionCount" "I", .methodLink RX10 98 yX6_hasFunction, .instanceMethod yX6_hasFunction, .selects RX6 yX6_hasFunction yX6_hasFunction, .initialized RX6, .code yX6_hasFunction cX6_hasFunction 2 (some .boolean), .classLink RX10 120 "java/util/NoSuchElementException", .initialized "java/util/NoSuchElementException", .methodLink RL 7 yX10_name, .instanceMethod yX10_name, .selects RX10 yX10_name yX10_name, .initialized RX10, .code yX10_name cX10_name 4 (some .int), .classLink RL 13 "java/util/NoSuchElementException"] ++ ((u_ws RX6 TX6 6 ++ u_ws RX10 TX10 14) ++ z_X))
set_option maxRecDepth 20000 in
theorem c_L_name_zg_1 : GoodIn z_wL_name (wsV RL 7 RX10 yX10_name z_wX10_name) := goodIn_r _ [10, 11, 12, 13, 14, 1, 2, 3, 4, 5, 6, 7, 8, 9, 16, 17, 18, 19, 20, 21, 22, 23, 24, 25, 26, 27, 28, 29, 30, 31, 32, 33, 34, 35, 36, 37, 38, 39, 40, 41, 42, 43, 44, 45, 46, 47, 48, 49, 50, 51, 52, 53, 54, 55, 56, 57, 58, 59, 60, 61, 62, 63, 64, 65, 66, 67, 68, 69, 70, 71, 72, 73, 74, 75, 76, 77, 78, 79, 80, 81, 82, 83, 84] (by decide +kernel) (by decide +kernel)
set_option maxHeartbeats 4000000 in
set_option maxRecDepth 100000 in
theorem c_L_name (l : Launch) (hst : l.stackTraces = false) (dC : Nat → ClassId) (dI : Nat → Nat → Nat) (h0 : Nat) (tp : Nat) (nw : Nat) (sp : Nat) (rd : Nat) (la : Nat) (tr : Nat) (ti : Nat) (ch : Nat) (td : Nat) (gr : Nat) (n1 : Nat) (n2 : Nat) (n3 : Nat) (n4 : Nat) (p1 : Int32) (p2 : Int32) (o3 : Nat) (sz : Nat) : Met l yL_name z_wL_name ({ frames := 9, cells := 1, slots := 6, locals := 223 }) (va_Pc [.ref h0, .int p1, .int p2, .ref o3] (z_in2 dC dI [(h0, .inr (10, [.ref tp, .int 0, .ref nw, .ref sp, .ref rd, .ref la, .ref tr, .ref ti, .int 0, .ref ch, .ref td, .ref gr, .int 0, .int 0])), (nw, .inr (6, [.ref n1, .ref n2, .ref n3, .ref n4, .int 0, .int 0]))] [] sz)) (va_Qi (fun (r : Int32) (_ : Unit) => r = 1) (fun (_ : Unit) t => z_out dC dI (va_A [(h0, .inr (10, [.ref tp, .int 0, .ref nw, .ref sp, .ref rd, .ref la, .ref tr, .ref ti, .int 0, .ref ch, .ref td, .ref gr, .int 0, .int 0])), (nw, .inr (6, [.ref n1, .ref n2, .ref n3, .ref n4, .int 0, .int 0]))] sz) [] [] t) (va_A [(h0, .inr (10, [.ref tp, .int 0, .ref nw, .ref sp, .ref rd, .ref la, .ref tr, .ref ti, .int 0, .ref ch, .ref td, .ref gr, .int 0, .int 0])), (nw, .inr (6, [.ref n1, .ref n2, .ref n3, .ref n4, .int 0, .int 0]))] sz)) 1 6 (va_A [(h0, .inr (10, [.ref tp, .int 0, .ref nw, .ref sp, .ref rd, .ref la, .ref tr, .ref ti, .int 0, .ref ch, .ref td, .ref gr, .int 0, .int 0])), (nw, .inr (6, [.ref n1, .ref n2, .ref n3, .ref n4, .int 0, .int 0]))] sz) := by
  refine va_MetW (hh := [(0, 10, 13, 13)]) (cc := cL_name) (maxL := 5) (ret := (some .int)) (by decide) rfl ?_
  intro p e s m args below meth c s₁ B hml hv
  obtain ⟨rfl, hsz, hP, hK, hD0, hN, hZ⟩ := hv
  have hx := B.exec
  have hb := B.bytes
  have hr := B.returns
  have hts := atoms_spec (ws := z_wL_name) B.pre
  have hown : s.vm.findClass RL = some m.cls := findClass_of_methodNamed B.named
  have hlocks := B.notSynchronized
  have htab := vx_table (x := yL_name) B (hts _ List.mem_cons_self)
  subst hsz
  have hD := hD0.self (sz := s.heap.size)
  generalize hAe : va_A [(h0, .inr (10, [.ref tp, .int 0, .ref nw, .ref sp, .ref rd, .ref la, .ref tr, .ref ti, .int 0, .ref ch, .ref td, .ref gr, .int 0, .int 0])), (nw, .inr (6, [.ref n1, .ref n2, .ref n3, .ref n4, .int 0, .int 0]))] s.heap.size = A at hD hZ ⊢
  have hA : ∀ q : Nat, s.heap.size ≤ q → A q := fun q h => by rw [← hAe]; exact Or.inr h
  have hS : va_S A s.heap s.heap [] := va_S.rf
  have hP : va_P (dC, dI) z_Cl [(h0, .inr (10, [.ref tp, .int 0, .ref nw, .ref sp, .ref rd, .ref la, .ref tr, .ref ti, .int 0, .ref ch, .ref td, .ref gr, .int 0, .int 0])), (nw, .inr (6, [.ref n1, .ref n2, .ref n3, .ref n4, .int 0, .int 0]))] s.heap := hP
  have hl := lv_entry ([.ref h0, .int p1, .int p2, .ref o3]) (n := 5) (Nat.le_of_ble_eq_true rfl)
  rw [lg_entry_eq]
  generalize (lg_sl ([.ref h0, .int p1, .int p2, .ref o3]) ++ List.replicate (5 - (lg_sl ([.ref h0, .int p1, .int p2, .ref o3])).length) Slot.unset).toArray = ls at hl ⊢
  have hl : lv_has ls 5 [(0, .ref h0), (1, .int p1), (2, .int p2), (3, .ref o3)] := hl
  refine lv_aload_n hx hb dL_name_0 rfl (lv_at hl 3 rfl) ?_
  refine lv_iconst (v := 0) hx hb dL_name_1 (by decide) ?_
  refine lv_aload_n hx hb dL_name_2 rfl (lv_at hl 0 rfl) ?_
  refine lv_iload_n hx hb dL_name_3 rfl (lv_at hl 1 rfl) ?_
  refine lv_iload_n hx hb dL_name_4 rfl (lv_at hl 2 rfl) ?_
  have hPc := hP.sub (ws' := [(h0, .inr (10, [.ref tp, .int 0, .ref nw, .ref sp, .ref rd, .ref la, .ref tr, .ref ti, .int 0, .ref ch, .ref td, .ref gr, .int 0, .int 0])), (nw, .inr (6, [.ref n1, .ref n2, .ref n3, .ref n4, .int 0, .int 0]))]) [0, 1] rfl
  have hDc := hD.sub (ws' := [(h0, .inr (10, [.ref tp, .int 0, .ref nw, .ref sp, .ref rd, .ref la, .ref tr, .ref ti, .int 0, .ref ch, .ref td, .ref gr, .int 0, .int 0])), (nw, .inr (6, [.ref n1, .ref n2, .ref n3, .ref n4, .int 0, .int 0]))]) [0, 1] (by decide) rfl
  have hKc := hK.sub (tys' := []) [] rfl
  have hFc := va_free (wc := [(h0, .inr (10, [.ref tp, .int 0, .ref nw, .ref sp, .ref rd, .ref la, .ref tr, .ref ti, .int 0, .ref ch, .ref td, .ref gr, .int 0, .int 0])), (nw, .inr (6, [.ref n1, .ref n2, .ref n3, .ref n4, .int 0, .int 0]))]) hD hS hA [0, 1] rfl
  refine vx_calli (vx_runV (As := [.int p1, .int p2]) (rest := [.int 0, .ref o3]) ⟨hx, hb, hml, hown, hts⟩ (c_X10_name l hst dC dI h0 tp nw sp rd la tr ti ch td gr n1 n2 n3 n4 p1 p2 s.heap.size) (cwV 2 hts c_L_name_zg_1 rfl rfl rfl (by decide +kernel) ⟨(Nat.le_of_ble_eq_true rfl), (Nat.le_of_ble_eq_true rfl)⟩) ⟨z_blind2, va_recv hKc hPc (ci := 10) (q0 := 0) rfl rfl, z_pre2 hPc hKc hDc hN hZ hS hFc⟩ rfl rfl hl.1 rfl (lv_room (Nat.le_of_ble_eq_true rfl)) dL_name_5 ⟨(Nat.le_of_ble_eq_true rfl), (Nat.le_of_ble_eq_true rfl)⟩) hS (fun q _ h => hFc q h) hFc (fun q _ h => hFc q h) (fun E9 ce_3 q_2 u t H1 locs ht hvm hpx hBX hz1 hk1 hS hce hcv hcl => ?_) (fun r u t H1 locs ht hvm hw hB hz1 hk1 hS => hw.elim)
  have hE9 : E9 = "java/util/NoSuchElementException" := hBX
  subst hE9
  generalize H1 = H at hS hce ⊢
  have hP : va_P (dC, dI) z_Cl [] H := fun k q h => by simp at h
  have hD : va_D A [] := ⟨fun i j p q h => by simp at h, fun k q h => by simp at h⟩
  refine vx_widen (k := 1) (n := 6) (Nat.le_of_ble_eq_true rfl) (Nat.le_of_ble_eq_true rfl) ?_
  refine z_catch (E := "java/util/NoSuchElementException") (name := "java/util/NoSuchElementException") hown ⟨0, 10, 13, 13⟩ [] htab rfl (by decide) (hts (.classLink RL 13 "java/util/NoSuchElementException") (List.mem_of_getElem? (i := 15) rfl)) (hN.B _ (List.mem_of_getElem? (i := 3) rfl)) hce hcv hcl ?_
  refine lv_astore (lv' := [(4, .ref q_2), (0, .ref h0), (1, .int p1), (2, .int p2), (3, .ref o3)]) hx hb dL_name_13 hl (by decide) rfl (fun ls hl => ?_)
  refine lv_iconst (v := 1) hx hb dL_name_15 (by decide) ?_
  have hP9 := hP.sub (ws' := []) [] rfl
  have hD9 := hD.sub (ws' := []) [] (by decide) rfl
  have hK9 := hK.sub (tys' := []) [] rfl
  refine W.widen (k := 1) (n := 6) (Nat.le_of_ble_eq_true rfl) (Nat.le_of_ble_eq_true rfl) ?_
  exact W.iret (v := 1) hx hb hr (fun t ht hW => ⟨⟨1, (), rfl, rfl, by rw [ht]; exact hP9, va_K.moved hW.alike hK9, hD9⟩, hS.F ht⟩) hS.2.2 dL_name_16

def z_wL_said : List Cond := .codeWith yL_said cL_said 4 (some .int) [(0, 9, 12, 13)] :: ([.fieldLink RX10 171 "LessonMaker" "hasRun" "Z", .classLink RX10 120 "java/util/NoSuchElementException", .initialized "java/util/NoSuchElementException", .methodLink RL 15 yX10_said, .instanceMethod yX10_said, .selects RX10 yX10_said yX10_said, .initialized RX10, .code yX10_said cX10_said 2 (some .int), .classLink RL 13 "java/util/NoSuchElementException"] ++ ((u_ws RX10 TX10 14) ++ z_X))
set_option maxRecDepth 20000 in
theorem c_L_said_zg_1 : GoodIn z_wL_said (wsV RL 15 RX10 yX10_said z_wX10_said) := goodIn_r _ [4, 5, 6, 7, 8, 1, 2, 3, 10, 11, 12, 13, 14, 15, 16, 17, 18, 19, 20, 21, 22, 23, 24, 25, 26, 27, 28, 29, 30, 31, 32, 33, 34, 35, 36, 37, 38, 39, 40, 41, 42, 43, 44, 45, 46, 47, 48, 49, 50, 51, 52, 53, 54, 55, 56, 57, 58, 59, 60, 61, 62, 63, 64, 65, 66, 67, 68, 69, 70, 71, 72] (by decide +kernel) (by decide +kernel)
set_option maxHeartbeats 4000000 in
set_option maxRecDepth 100000 in
theorem c_L_said (l : Launch) (hst : l.stackTraces = false) (dC : Nat → ClassId) (dI : Nat → Nat → Nat) (h0 : Nat) (tp : Nat) (nw : Nat) (sp : Nat) (rd : Nat) (la : Nat) (tr : Nat) (ti : Nat) (ch : Nat) (td : Nat) (gr : Nat) (p1 : Int32) (o3 : Nat) (sz : Nat) : Met l yL_said z_wL_said ({ frames := 9, cells := 1, slots := 6, locals := 221 }) (va_Pc [.ref h0, .int p1, .ref o3] (z_in2 dC dI [(h0, .inr (10, [.ref tp, .int 0, .ref nw, .ref sp, .ref rd, .ref la, .ref tr, .ref ti, .int 0, .ref ch, .ref td, .ref gr, .int 0, .int 0]))] [] sz)) (va_Qi (fun (r : Int32) (_ : Unit) => r = 1) (fun (_ : Unit) t => z_out dC dI (va_A [(h0, .inr (10, [.ref tp, .int 0, .ref nw, .ref sp, .ref rd, .ref la, .ref tr, .ref ti, .int 0, .ref ch, .ref td, .ref gr, .int 0, .int 0]))] sz) [] [] t) (va_A [(h0, .inr (10, [.ref tp, .int 0, .ref nw, .ref sp, .ref rd, .ref la, .ref tr, .ref ti, .int 0, .ref ch, .ref td, .ref gr, .int 0, .int 0]))] sz)) 1 6 (va_A [(h0, .inr (10, [.ref tp, .int 0, .ref nw, .ref sp, .ref rd, .ref la, .ref tr, .ref ti, .int 0, .ref ch, .ref td, .ref gr, .int 0, .int 0]))] sz) := by
  refine va_MetW (hh := [(0, 9, 12, 13)]) (cc := cL_said) (maxL := 4) (ret := (some .int)) (by decide) rfl ?_
  intro p e s m args below meth c s₁ B hml hv
  obtain ⟨rfl, hsz, hP, hK, hD0, hN, hZ⟩ := hv
  have hx := B.exec
  have hb := B.bytes
  have hr := B.returns
  have hts := atoms_spec (ws := z_wL_said) B.pre
  have hown : s.vm.findClass RL = some m.cls := findClass_of_methodNamed B.named
  have hlocks := B.notSynchronized
  have htab := vx_table (x := yL_said) B (hts _ List.mem_cons_self)
  subst hsz
  have hD := hD0.self (sz := s.heap.size)
  generalize hAe : va_A [(h0, .inr (10, [.ref tp, .int 0, .ref nw, .ref sp, .ref rd, .ref la, .ref tr, .ref ti, .int 0, .ref ch, .ref td, .ref gr, .int 0, .int 0]))] s.heap.size = A at hD hZ ⊢
  have hA : ∀ q : Nat, s.heap.size ≤ q → A q := fun q h => by rw [← hAe]; exact Or.inr h
  have hS : va_S A s.heap s.heap [] := va_S.rf
  have hP : va_P (dC, dI) z_Cl [(h0, .inr (10, [.ref tp, .int 0, .ref nw, .ref sp, .ref rd, .ref la, .ref tr, .ref ti, .int 0, .ref ch, .ref td, .ref gr, .int 0, .int 0]))] s.heap := hP
  have hl := lv_entry ([.ref h0, .int p1, .ref o3]) (n := 4) (Nat.le_of_ble_eq_true rfl)
  rw [lg_entry_eq]
  generalize (lg_sl ([.ref h0, .int p1, .ref o3]) ++ List.replicate (4 - (lg_sl ([.ref h0, .int p1, .ref o3])).length) Slot.unset).toArray = ls at hl ⊢
  have hl : lv_has ls 4 [(0, .ref h0), (1, .int p1), (2, .ref o3)] := hl
  refine lv_aload_n hx hb dL_said_0 rfl (lv_at hl 2 rfl) ?_
  refine lv_iconst (v := 0) hx hb dL_said_1 (by decide) ?_
  refine lv_aload_n hx hb dL_said_2 rfl (lv_at hl 0 rfl) ?_
  refine lv_iload_n hx hb dL_said_3 rfl (lv_at hl 1 rfl) ?_
  have hPc := hP.sub (ws' := [(h0, .inr (10, [.ref tp, .int 0, .ref nw, .ref sp, .ref rd, .ref la, .ref tr, .ref ti, .int 0, .ref ch, .ref td, .ref gr, .int 0, .int 0]))]) [0] rfl
  have hDc := hD.sub (ws' := [(h0, .inr (10, [.ref tp, .int 0, .ref nw, .ref sp, .ref rd, .ref la, .ref tr, .ref ti, .int 0, .ref ch, .ref td, .ref gr, .int 0, .int 0]))]) [0] (by decide) rfl
  have hKc := hK.sub (tys' := []) [] rfl
  have hFc := va_free (wc := [(h0, .inr (10, [.ref tp, .int 0, .ref nw, .ref sp, .ref rd, .ref la, .ref tr, .ref ti, .int 0, .ref ch, .ref td, .ref gr, .int 0, .int 0]))]) hD hS hA [0] rfl
  refine vx_calli (vx_runV (As := [.int p1]) (rest := [.int 0, .ref o3]) ⟨hx, hb, hml, hown, hts⟩ (c_X10_said l hst dC dI h0 tp nw sp rd la tr ti ch td gr p1 s.heap.size) (cwV 1 hts c_L_said_zg_1 rfl rfl rfl (by decide +kernel) ⟨(Nat.le_of_ble_eq_true rfl), (Nat.le_of_ble_eq_true rfl)⟩) ⟨z_blind2, va_recv hKc hPc (ci := 10) (q0 := 0) rfl rfl, z_pre2 hPc hKc hDc hN hZ hS hFc⟩ rfl rfl hl.1 rfl (lv_room (Nat.le_of_ble_eq_true rfl)) dL_said_4 ⟨(Nat.le_of_ble_eq_true rfl), (Nat.le_of_ble_eq_true rfl)⟩) hS (fun q _ h => hFc q h) hFc (fun q _ h => hFc q h) (fun E9 ce_3 q_2 u t H1 locs ht hvm hpx hBX hz1 hk1 hS hce hcv hcl => ?_) (fun r u t H1 locs ht hvm hw hB hz1 hk1 hS => hw.elim)
  have hE9 : E9 = "java/util/NoSuchElementException" := hBX
  subst hE9
  generalize H1 = H at hS hce ⊢
  have hP : va_P (dC, dI) z_Cl [] H := fun k q h => by simp at h
  have hD : va_D A [] := ⟨fun i j p q h => by simp at h, fun k q h => by simp at h⟩
  refine vx_widen (k := 1) (n := 6) (Nat.le_of_ble_eq_true rfl) (Nat.le_of_ble_eq_true rfl) ?_
  refine z_catch (E := "java/util/NoSuchElementException") (name := "java/util/NoSuchElementException") hown ⟨0, 9, 12, 13⟩ [] htab rfl (by decide) (hts (.classLink RL 13 "java/util/NoSuchElementException") (List.mem_of_getElem? (i := 9) rfl)) (hN.B _ (List.mem_of_getElem? (i := 3) rfl)) hce hcv hcl ?_
  refine lv_astore_n (lv' := [(3, .ref q_2), (0, .ref h0), (1, .int p1), (2, .ref o3)]) hx hb dL_said_12 rfl hl (by decide) rfl (fun ls hl => ?_)
  refine lv_iconst (v := 1) hx hb dL_said_13 (by decide) ?_
  have hP9 := hP.sub (ws' := []) [] rfl
  have hD9 := hD.sub (ws' := []) [] (by decide) rfl
  have hK9 := hK.sub (tys' := []) [] rfl
  refine W.widen (k := 1) (n := 6) (Nat.le_of_ble_eq_true rfl) (Nat.le_of_ble_eq_true rfl) ?_
  exact W.iret (v := 1) hx hb hr (fun t ht hW => ⟨⟨1, (), rfl, rfl, by rw [ht]; exact hP9, va_K.moved hW.alike hK9, hD9⟩, hS.F ht⟩) hS.2.2 dL_said_14

def z_wL_trace : List Cond := .codeWith yL_trace cL_trace 5 (some .int) [(0, 10, 13, 13)] :: ([.fieldLink RX10 171 "LessonMaker" "hasRun" "Z", .classLink RX10 120 "java/util/NoSuchElementException", .initialized "java/util/NoSuchElementException", .methodLink RL 19 yX10_trace, .instanceMethod yX10_trace, .selects RX10 yX10_trace yX10_trace, .initialized RX10, .code yX10_trace cX10_trace 3 (some .int), .classLink RL 13 "java/util/NoSuchElementException"] ++ ((u_ws RX10 TX10 14) ++ z_X))
set_option maxRecDepth 20000 in
theorem c_L_trace_zg_1 : GoodIn z_wL_trace (wsV RL 19 RX10 yX10_trace z_wX10_trace) := goodIn_r _ [4, 5, 6, 7, 8, 1, 2, 3, 10, 11, 12, 13, 14, 15, 16, 17, 18, 19, 20, 21, 22, 23, 24, 25, 26, 27, 28, 29, 30, 31, 32, 33, 34, 35, 36, 37, 38, 39, 40, 41, 42, 43, 44, 45, 46, 47, 48, 49, 50, 51, 52, 53, 54, 55, 56, 57, 58, 59, 60, 61, 62, 63, 64, 65, 66, 67, 68, 69, 70, 71, 72] (by decide +kernel) (by decide +kernel)
set_option maxHeartbeats 4000000 in
set_option maxRecDepth 100000 in
theorem c_L_trace (l : Launch) (hst : l.stackTraces = false) (dC : Nat → ClassId) (dI : Nat → Nat → Nat) (h0 : Nat) (tp : Nat) (nw : Nat) (sp : Nat) (rd : Nat) (la : Nat) (tr : Nat) (ti : Nat) (ch : Nat) (td : Nat) (gr : Nat) (p1 : Int32) (p2 : Int32) (o3 : Nat) (sz : Nat) : Met l yL_trace z_wL_trace ({ frames := 9, cells := 1, slots := 6, locals := 222 }) (va_Pc [.ref h0, .int p1, .int p2, .ref o3] (z_in2 dC dI [(h0, .inr (10, [.ref tp, .int 0, .ref nw, .ref sp, .ref rd, .ref la, .ref tr, .ref ti, .int 0, .ref ch, .ref td, .ref gr, .int 0, .int 0]))] [] sz)) (va_Qi (fun (r : Int32) (_ : Unit) => r = 1) (fun (_ : Unit) t => z_out dC dI (va_A [(h0, .inr (10, [.ref tp, .int 0, .ref nw, .ref sp, .ref rd, .ref la, .ref tr, .ref ti, .int 0, .ref ch, .ref td, .ref gr, .int 0, .int 0]))] sz) [] [] t) (va_A [(h0, .inr (10, [.ref tp, .int 0, .ref nw, .ref sp, .ref rd, .ref la, .ref tr, .ref ti, .int 0, .ref ch, .ref td, .ref gr, .int 0, .int 0]))] sz)) 1 6 (va_A [(h0, .inr (10, [.ref tp, .int 0, .ref nw, .ref sp, .ref rd, .ref la, .ref tr, .ref ti, .int 0, .ref ch, .ref td, .ref gr, .int 0, .int 0]))] sz) := by
  refine va_MetW (hh := [(0, 10, 13, 13)]) (cc := cL_trace) (maxL := 5) (ret := (some .int)) (by decide) rfl ?_
  intro p e s m args below meth c s₁ B hml hv
  obtain ⟨rfl, hsz, hP, hK, hD0, hN, hZ⟩ := hv
  have hx := B.exec
  have hb := B.bytes
  have hr := B.returns
  have hts := atoms_spec (ws := z_wL_trace) B.pre
  have hown : s.vm.findClass RL = some m.cls := findClass_of_methodNamed B.named
  have hlocks := B.notSynchronized
  have htab := vx_table (x := yL_trace) B (hts _ List.mem_cons_self)
  subst hsz
  have hD := hD0.self (sz := s.heap.size)
  generalize hAe : va_A [(h0, .inr (10, [.ref tp, .int 0, .ref nw, .ref sp, .ref rd, .ref la, .ref tr, .ref ti, .int 0, .ref ch, .ref td, .ref gr, .int 0, .int 0]))] s.heap.size = A at hD hZ ⊢
  have hA : ∀ q : Nat, s.heap.size ≤ q → A q := fun q h => by rw [← hAe]; exact Or.inr h
  have hS : va_S A s.heap s.heap [] := va_S.rf
  have hP : va_P (dC, dI) z_Cl [(h0, .inr (10, [.ref tp, .int 0, .ref nw, .ref sp, .ref rd, .ref la, .ref tr, .ref ti, .int 0, .ref ch, .ref td, .ref gr, .int 0, .int 0]))] s.heap := hP
  have hl := lv_entry ([.ref h0, .int p1, .int p2, .ref o3]) (n := 5) (Nat.le_of_ble_eq_true rfl)
  rw [lg_entry_eq]
  generalize (lg_sl ([.ref h0, .int p1, .int p2, .ref o3]) ++ List.replicate (5 - (lg_sl ([.ref h0, .int p1, .int p2, .ref o3])).length) Slot.unset).toArray = ls at hl ⊢
  have hl : lv_has ls 5 [(0, .ref h0), (1, .int p1), (2, .int p2), (3, .ref o3)] := hl
  refine lv_aload_n hx hb dL_trace_0 rfl (lv_at hl 3 rfl) ?_
  refine lv_iconst (v := 0) hx hb dL_trace_1 (by decide) ?_
  refine lv_aload_n hx hb dL_trace_2 rfl (lv_at hl 0 rfl) ?_
  refine lv_iload_n hx hb dL_trace_3 rfl (lv_at hl 1 rfl) ?_
  refine lv_iload_n hx hb dL_trace_4 rfl (lv_at hl 2 rfl) ?_
  have hPc := hP.sub (ws' := [(h0, .inr (10, [.ref tp, .int 0, .ref nw, .ref sp, .ref rd, .ref la, .ref tr, .ref ti, .int 0, .ref ch, .ref td, .ref gr, .int 0, .int 0]))]) [0] rfl
  have hDc := hD.sub (ws' := [(h0, .inr (10, [.ref tp, .int 0, .ref nw, .ref sp, .ref rd, .ref la, .ref tr, .ref ti, .int 0, .ref ch, .ref td, .ref gr, .int 0, .int 0]))]) [0] (by decide) rfl
  have hKc := hK.sub (tys' := []) [] rfl
  have hFc := va_free (wc := [(h0, .inr (10, [.ref tp, .int 0, .ref nw, .ref sp, .ref rd, .ref la, .ref tr, .ref ti, .int 0, .ref ch, .ref td, .ref gr, .int 0, .int 0]))]) hD hS hA [0] rfl
  refine vx_calli (vx_runV (As := [.int p1, .int p2]) (rest := [.int 0, .ref o3]) ⟨hx, hb, hml, hown, hts⟩ (c_X10_trace l hst dC dI h0 tp nw sp rd la tr ti ch td gr p1 p2 s.heap.size) (cwV 2 hts c_L_trace_zg_1 rfl rfl rfl (by decide +kernel) ⟨(Nat.le_of_ble_eq_true rfl), (Nat.le_of_ble_eq_true rfl)⟩) ⟨z_blind2, va_recv hKc hPc (ci := 10) (q0 := 0) rfl rfl, z_pre2 hPc hKc hDc hN hZ hS hFc⟩ rfl rfl hl.1 rfl (lv_room (Nat.le_of_ble_eq_true rfl)) dL_trace_5 ⟨(Nat.le_of_ble_eq_true rfl), (Nat.le_of_ble_eq_true rfl)⟩) hS (fun q _ h => hFc q h) hFc (fun q _ h => hFc q h) (fun E9 ce_3 q_2 u t H1 locs ht hvm hpx hBX hz1 hk1 hS hce hcv hcl => ?_) (fun r u t H1 locs ht hvm hw hB hz1 hk1 hS => hw.elim)
  have hE9 : E9 = "java/util/NoSuchElementException" := hBX
  subst hE9
  generalize H1 = H at hS hce ⊢
  have hP : va_P (dC, dI) z_Cl [] H := fun k q h => by simp at h
  have hD : va_D A [] := ⟨fun i j p q h => by simp at h, fun k q h => by simp at h⟩
  refine vx_widen (k := 1) (n := 6) (Nat.le_of_ble_eq_true rfl) (Nat.le_of_ble_eq_true rfl) ?_
  refine z_catch (E := "java/util/NoSuchElementException") (name := "java/util/NoSuchElementException") hown ⟨0, 10, 13, 13⟩ [] htab rfl (by decide) (hts (.classLink RL 13 "java/util/NoSuchElementException") (List.mem_of_getElem? (i := 9) rfl)) (hN.B _ (List.mem_of_getElem? (i := 3) rfl)) hce hcv hcl ?_
  refine lv_astore (lv' := [(4, .ref q_2), (0, .ref h0), (1, .int p1), (2, .int p2), (3, .ref o3)]) hx hb dL_trace_13 hl (by decide) rfl (fun ls hl => ?_)
  refine lv_iconst (v := 1) hx hb dL_trace_15 (by decide) ?_
  have hP9 := hP.sub (ws' := []) [] rfl
  have hD9 := hD.sub (ws' := []) [] (by decide) rfl
  have hK9 := hK.sub (tys' := []) [] rfl
  refine W.widen (k := 1) (n := 6) (Nat.le_of_ble_eq_true rfl) (Nat.le_of_ble_eq_true rfl) ?_
  exact W.iret (v := 1) hx hb hr (fun t ht hW => ⟨⟨1, (), rfl, rfl, by rw [ht]; exact hP9, va_K.moved hW.alike hK9, hD9⟩, hS.F ht⟩) hS.2.2 dL_trace_16
