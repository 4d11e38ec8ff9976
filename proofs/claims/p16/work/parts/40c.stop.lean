def z_wT_init : List Cond := .code yT_init cT_init 5 none :: ([.methodLink RT 1 objectInit, .instanceMethod objectInit, .code objectInit ⟨#[0xb1]⟩ 1 none, .fieldLink RT 7 "java/lang/Throwable" "cause" "Ljava/lang/Throwable;", .fieldLink RT 13 "java/lang/Throwable" "UNASSIGNED_STACK" "[Ljava/lang/StackTraceElement;", .fieldLink RT 17 "java/lang/Throwable" "stackTrace" "[Ljava/lang/StackTraceElement;", .fieldLink RT 20 "java/lang/Throwable" "SUPPRESSED_SENTINEL" "Ljava/util/List;", .fieldLink RT 24 "java/lang/Throwable" "suppressedExceptions" "Ljava/util/List;", .fieldLink RT 31 "java/lang/Throwable" "detailMessage" "Ljava/lang/String;"] ++ (u_ws RX13 TX13 8))
set_option maxHeartbeats 4000000 in
set_option maxRecDepth 100000 in
theorem c_T_init (l : Launch) (dC : Nat → ClassId) (dI : Nat → Nat → Nat) (h0 : Nat) (sz : Nat) : Met l yT_init z_wT_init ({ frames := 1, cells := 0, slots := 0, locals := 40 }) (va_Pc [.ref h0, .null, .null, .int 0, .int 0] (z_in2 dC dI [(h0, .inr (13, [.null, .null, .null, .null, .null, .int 0, .int 0, .int 0]))] [] sz)) (va_Qv (fun _ : Unit => True) (fun (_ : Unit) t => z_out dC dI (va_A [(h0, .inr (13, [.null, .null, .null, .null, .null, .int 0, .int 0, .int 0]))] sz) [(h0, .inr (13, [.null, .null, .null, .null, .null, .int 0, .int 0, .int 0]))] [] t) (va_A [(h0, .inr (13, [.null, .null, .null, .null, .null, .int 0, .int 0, .int 0]))] sz)) 0 0 (va_A [(h0, .inr (13, [.null, .null, .null, .null, .null, .int 0, .int 0, .int 0]))] sz) := by
  refine Met.ofW (cc := cT_init) (maxL := 5) (ret := none) (by decide) rfl ?_
  intro p e s m args below meth c s₁ B hml hv
  obtain ⟨rfl, hsz, hP, hK, hD0, hN, hZ⟩ := hv
  have hx := B.exec
  have hb := B.bytes
  have hr := B.returns
  have hts := atoms_spec (ws := z_wT_init) B.pre
  have hown : s.vm.findClass RT = some m.cls := findClass_of_methodNamed B.named
  have hlocks := B.notSynchronized
  have hini : meth.name = "<init>" := (name_of_methodNamed B.named B.method).1
  have hin_13 : ∀ w ∈ u_ws RX13 TX13 8, w ∈ z_wT_init := by decide +kernel
  subst hsz
  have hD := hD0.self (sz := s.heap.size)
  generalize hAe : va_A [(h0, .inr (13, [.null, .null, .null, .null, .null, .int 0, .int 0, .int 0]))] s.heap.size = A at hD hZ ⊢
  have hA : ∀ q : Nat, s.heap.size ≤ q → A q := fun q h => by rw [← hAe]; exact Or.inr h
  have hS : va_S A s.heap s.heap [] := va_S.rf
  have hP : va_P (dC, dI) z_Cl [(h0, .inr (13, [.null, .null, .null, .null, .null, .int 0, .int 0, .int 0]))] s.heap := hP
  have hl := lv_entry ([.ref h0, .null, .null, .int 0, .int 0]) (n := 5) (Nat.le_of_ble_eq_true rfl)
  rw [lg_entry_eq]
  generalize (lg_sl ([.ref h0, .null, .null, .int 0, .int 0]) ++ List.replicate (5 - (lg_sl ([.ref h0, .null, .null, .int 0, .int 0])).length) Slot.unset).toArray = ls at hl ⊢
  have hl : lv_has ls 5 [(0, .ref h0), (1, .null), (2, .null), (3, .int 0), (4, .int 0)] := hl
  refine lv_aload_n hx hb dT_init_0 rfl (lv_at hl 0 rfl) ?_
  refine W.objInit hx hb hown (hts (.methodLink RT 1 objectInit) (List.mem_of_getElem? (i := 1) rfl)) (hts (.instanceMethod objectInit) (List.mem_of_getElem? (i := 2) rfl)) (hts (.code objectInit ⟨#[0xb1]⟩ 1 none) (List.mem_of_getElem? (i := 3) rfl)) rfl (by rw [hml]; exact hl.1) rfl dT_init_1 (Nat.le_of_ble_eq_true rfl) (Nat.le_of_ble_eq_true rfl) ?_
  refine W.eq (g2 := F0 m 4 ls []) rfl ?_
  refine lv_aload_n hx hb dT_init_4 rfl (lv_at hl 0 rfl) ?_
  refine lv_aload_n hx hb dT_init_5 rfl (lv_at hl 0 rfl) ?_
  refine va_put (D := (dC, dI)) (ci := 13) (v := .ref h0) (ty := .object "java/lang/Throwable") (C := RX13) (T := TX13) (N := 8) hx hb hts hin_13 tyX13 tyX13_ok nmX13 hown hK hP hD hS 0 rfl rfl 0 (by decide) (hts (.fieldLink RT 7 "java/lang/Throwable" "cause" "Ljava/lang/Throwable;") (List.mem_of_getElem? (i := 4) rfl)) (fun _ h9 => h9) rfl (by decide +kernel) rfl rfl (Nat.le_of_ble_eq_true rfl) dT_init_6 (fun H locs hP hD hS => ?_)
  have hP : va_P (dC, dI) z_Cl [(h0, .inr (13, [.ref h0, .null, .null, .null, .null, .int 0, .int 0, .int 0]))] H := hP
  have hD : va_D A [(h0, .inr (13, [.ref h0, .null, .null, .null, .null, .int 0, .int 0, .int 0]))] := hD
  refine lv_aload_n hx hb dT_init_9 rfl (lv_at hl 0 rfl) ?_
  rcases hZ.1.1 with hz_2 | ⟨t_1, hz_2⟩
  · refine va_gets hx hb hz_2 hS hown (hts (.fieldLink RT 13 "java/lang/Throwable" "UNASSIGNED_STACK" "[Ljava/lang/StackTraceElement;") (List.mem_of_getElem? (i := 5) rfl)) (fun _ h9 => h9) dT_init_10 ?_
    refine va_put (D := (dC, dI)) (ci := 13) (v := .null) (ty := .array (.object "java/lang/StackTraceElement")) (C := RX13) (T := TX13) (N := 8) hx hb hts hin_13 tyX13 tyX13_ok nmX13 hown hK hP hD hS 0 rfl rfl 1 (by decide) (hts (.fieldLink RT 17 "java/lang/Throwable" "stackTrace" "[Ljava/lang/StackTraceElement;") (List.mem_of_getElem? (i := 6) rfl)) (fun _ h9 => h9) rfl (by decide +kernel) rfl rfl (Nat.le_of_ble_eq_true rfl) dT_init_13 (fun H locs hP hD hS => ?_)
    have hP : va_P (dC, dI) z_Cl [(h0, .inr (13, [.ref h0, .null, .null, .null, .null, .int 0, .int 0, .int 0]))] H := hP
    have hD : va_D A [(h0, .inr (13, [.ref h0, .null, .null, .null, .null, .int 0, .int 0, .int 0]))] := hD
    refine lv_aload_n hx hb dT_init_16 rfl (lv_at hl 0 rfl) ?_
    rcases hZ.2.1 with hz_4 | ⟨t_3, hz_4⟩
    · refine va_gets hx hb hz_4 hS hown (hts (.fieldLink RT 20 "java/lang/Throwable" "SUPPRESSED_SENTINEL" "Ljava/util/List;") (List.mem_of_getElem? (i := 7) rfl)) (fun _ h9 => h9) dT_init_17 ?_
      refine va_put (D := (dC, dI)) (ci := 13) (v := .null) (ty := .object "java/util/List") (C := RX13) (T := TX13) (N := 8) hx hb hts hin_13 tyX13 tyX13_ok nmX13 hown hK hP hD hS 0 rfl rfl 2 (by decide) (hts (.fieldLink RT 24 "java/lang/Throwable" "suppressedExceptions" "Ljava/util/List;") (List.mem_of_getElem? (i := 8) rfl)) (fun _ h9 => h9) rfl (by decide +kernel) rfl rfl (Nat.le_of_ble_eq_true rfl) dT_init_20 (fun H locs hP hD hS => ?_)
      have hP : va_P (dC, dI) z_Cl [(h0, .inr (13, [.ref h0, .null, .null, .null, .null, .int 0, .int 0, .int 0]))] H := hP
      have hD : va_D A [(h0, .inr (13, [.ref h0, .null, .null, .null, .null, .int 0, .int 0, .int 0]))] := hD
      refine lv_iload hx hb dT_init_23 (lv_at hl 4 rfl) ?_
      refine lv_if_eq (tgt := 36) hx hb dT_init_25 (by decide) (fun _ => ?_) (fun h9 => absurd (by decide) h9)
      refine lv_aload_n hx hb dT_init_36 rfl (lv_at hl 0 rfl) ?_
      refine lv_null hx hb dT_init_37 ?_
      refine va_put (D := (dC, dI)) (ci := 13) (v := .null) (ty := .array (.object "java/lang/StackTraceElement")) (C := RX13) (T := TX13) (N := 8) hx hb hts hin_13 tyX13 tyX13_ok nmX13 hown hK hP hD hS 0 rfl rfl 1 (by decide) (hts (.fieldLink RT 17 "java/lang/Throwable" "stackTrace" "[Ljava/lang/StackTraceElement;") (List.mem_of_getElem? (i := 6) rfl)) (fun _ h9 => h9) rfl (by decide +kernel) rfl rfl (Nat.le_of_ble_eq_true rfl) dT_init_38 (fun H locs hP hD hS => ?_)
      have hP : va_P (dC, dI) z_Cl [(h0, .inr (13, [.ref h0, .null, .null, .null, .null, .int 0, .int 0, .int 0]))] H := hP
      have hD : va_D A [(h0, .inr (13, [.ref h0, .null, .null, .null, .null, .int 0, .int 0, .int 0]))] := hD
      refine lv_aload_n hx hb dT_init_41 rfl (lv_at hl 0 rfl) ?_
      refine lv_aload_nN hx hb dT_init_42 rfl (lv_at hl 1 rfl) ?_
      refine va_put (D := (dC, dI)) (ci := 13) (v := .null) (ty := .object "java/lang/String") (C := RX13) (T := TX13) (N := 8) hx hb hts hin_13 tyX13 tyX13_ok nmX13 hown hK hP hD hS 0 rfl rfl 3 (by decide) (hts (.fieldLink RT 31 "java/lang/Throwable" "detailMessage" "Ljava/lang/String;") (List.mem_of_getElem? (i := 9) rfl)) (fun _ h9 => h9) rfl (by decide +kernel) rfl rfl (Nat.le_of_ble_eq_true rfl) dT_init_43 (fun H locs hP hD hS => ?_)
      have hP : va_P (dC, dI) z_Cl [(h0, .inr (13, [.ref h0, .null, .null, .null, .null, .int 0, .int 0, .int 0]))] H := hP
      have hD : va_D A [(h0, .inr (13, [.ref h0, .null, .null, .null, .null, .int 0, .int 0, .int 0]))] := hD
      refine lv_aload_n hx hb dT_init_46 rfl (lv_at hl 0 rfl) ?_
      refine lv_aload_nN hx hb dT_init_47 rfl (lv_at hl 2 rfl) ?_
      refine va_put (D := (dC, dI)) (ci := 13) (v := .null) (ty := .object "java/lang/Throwable") (C := RX13) (T := TX13) (N := 8) hx hb hts hin_13 tyX13 tyX13_ok nmX13 hown hK hP hD hS 0 rfl rfl 0 (by decide) (hts (.fieldLink RT 7 "java/lang/Throwable" "cause" "Ljava/lang/Throwable;") (List.mem_of_getElem? (i := 4) rfl)) (fun _ h9 => h9) rfl (by decide +kernel) rfl rfl (Nat.le_of_ble_eq_true rfl) dT_init_48 (fun H locs hP hD hS => ?_)
      have hP : va_P (dC, dI) z_Cl [(h0, .inr (13, [.null, .null, .null, .null, .null, .int 0, .int 0, .int 0]))] H := hP
      have hD : va_D A [(h0, .inr (13, [.null, .null, .null, .null, .null, .int 0, .int 0, .int 0]))] := hD
      refine lv_iload_n hx hb dT_init_51 rfl (lv_at hl 3 rfl) ?_
      refine lv_if_ne (tgt := 60) hx hb dT_init_52 (by decide) (fun h9 => absurd (by decide) h9) (fun _ => ?_)
      refine lv_aload_n hx hb dT_init_55 rfl (lv_at hl 0 rfl) ?_
      refine lv_null hx hb dT_init_56 ?_
      refine va_put (D := (dC, dI)) (ci := 13) (v := .null) (ty := .object "java/util/List") (C := RX13) (T := TX13) (N := 8) hx hb hts hin_13 tyX13 tyX13_ok nmX13 hown hK hP hD hS 0 rfl rfl 2 (by decide) (hts (.fieldLink RT 24 "java/lang/Throwable" "suppressedExceptions" "Ljava/util/List;") (List.mem_of_getElem? (i := 8) rfl)) (fun _ h9 => h9) rfl (by decide +kernel) rfl rfl (Nat.le_of_ble_eq_true rfl) dT_init_57 (fun H locs hP hD hS => ?_)
      have hP : va_P (dC, dI) z_Cl [(h0, .inr (13, [.null, .null, .null, .null, .null, .int 0, .int 0, .int 0]))] H := hP
      have hD : va_D A [(h0, .inr (13, [.null, .null, .null, .null, .null, .int 0, .int 0, .int 0]))] := hD
      have hP9 := hP.sub (ws' := [(h0, .inr (13, [.null, .null, .null, .null, .null, .int 0, .int 0, .int 0]))]) [0] rfl
      have hD9 := hD.sub (ws' := [(h0, .inr (13, [.null, .null, .null, .null, .null, .int 0, .int 0, .int 0]))]) [0] (by decide) rfl
      have hK9 := hK.sub (tys' := []) [] rfl
      refine W.widen (k := 0) (n := 0) (Nat.le_of_ble_eq_true rfl) (Nat.le_of_ble_eq_true rfl) ?_
      exact W.vret hx hb hr (fun t ht hW => ⟨⟨(), rfl, trivial, by rw [ht]; exact hP9, va_K.moved hW.alike hK9, hD9⟩, hS.F ht⟩) hS.2.2 dT_init_60
    · refine va_gets hx hb hz_4 hS hown (hts (.fieldLink RT 20 "java/lang/Throwable" "SUPPRESSED_SENTINEL" "Ljava/util/List;") (List.mem_of_getElem? (i := 7) rfl)) (fun _ h9 => h9) dT_init_17 ?_
      refine va_put (D := (dC, dI)) (ci := 13) (v := .ref t_3) (ty := .object "java/util/List") (C := RX13) (T := TX13) (N := 8) hx hb hts hin_13 tyX13 tyX13_ok nmX13 hown hK hP hD hS 0 rfl rfl 2 (by decide) (hts (.fieldLink RT 24 "java/lang/Throwable" "suppressedExceptions" "Ljava/util/List;") (List.mem_of_getElem? (i := 8) rfl)) (fun _ h9 => h9) rfl (by decide +kernel) rfl rfl (Nat.le_of_ble_eq_true rfl) dT_init_20 (fun H locs hP hD hS => ?_)
      have hP : va_P (dC, dI) z_Cl [(h0, .inr (13, [.ref h0, .null, .ref t_3, .null, .null, .int 0, .int 0, .int 0]))] H := hP
      have hD : va_D A [(h0, .inr (13, [.ref h0, .null, .ref t_3, .null, .null, .int 0, .int 0, .int 0]))] := hD
      refine lv_iload hx hb dT_init_23 (lv_at hl 4 rfl) ?_
      refine lv_if_eq (tgt := 36) hx hb dT_init_25 (by decide) (fun _ => ?_) (fun h9 => absurd (by decide) h9)
      refine lv_aload_n hx hb dT_init_36 rfl (lv_at hl 0 rfl) ?_
      refine lv_null hx hb dT_init_37 ?_
      refine va_put (D := (dC, dI)) (ci := 13) (v := .null) (ty := .array (.object "java/lang/StackTraceElement")) (C := RX13) (T := TX13) (N := 8) hx hb hts hin_13 tyX13 tyX13_ok nmX13 hown hK hP hD hS 0 rfl rfl 1 (by decide) (hts (.fieldLink RT 17 "java/lang/Throwable" "stackTrace" "[Ljava/lang/StackTraceElement;") (List.mem_of_getElem? (i := 6) rfl)) (fun _ h9 => h9) rfl (by decide +kernel) rfl rfl (Nat.le_of_ble_eq_true rfl) dT_init_38 (fun H locs hP hD hS => ?_)
      have hP : va_P (dC, dI) z_Cl [(h0, .inr (13, [.ref h0, .null, .ref t_3, .null, .null, .int 0, .int 0, .int 0]))] H := hP
      have hD : va_D A [(h0, .inr (13, [.ref h0, .null, .ref t_3, .null, .null, .int 0, .int 0, .int 0]))] := hD
      refine lv_aload_n hx hb dT_init_41 rfl (lv_at hl 0 rfl) ?_
      refine lv_aload_nN hx hb dT_init_42 rfl (lv_at hl 1 rfl) ?_
      refine va_put (D := (dC, dI)) (ci := 13) (v := .null) (ty := .object "java/lang/String") (C := RX13) (T := TX13) (N := 8) hx hb hts hin_13 tyX13 tyX13_ok nmX13 hown hK hP hD hS 0 rfl rfl 3 (by decide) (hts (.fieldLink RT 31 "java/lang/Throwable" "detailMessage" "Ljava/lang/String;") (List.mem_of_getElem? (i := 9) rfl)) (fun _ h9 => h9) rfl (by decide +kernel) rfl rfl (Nat.le_of_ble_eq_true rfl) dT_init_43 (fun H locs hP hD hS => ?_)
      have hP : va_P (dC, dI) z_Cl [(h0, .inr (13, [.ref h0, .null, .ref t_3, .null, .null, .int 0, .int 0, .int 0]))] H := hP
      have hD : va_D A [(h0, .inr (13, [.ref h0, .null, .ref t_3, .null, .null, .int 0, .int 0, .int 0]))] := hD
      refine lv_aload_n hx hb dT_init_46 rfl (lv_at hl 0 rfl) ?_
      refine lv_aload_nN hx hb dT_init_47 rfl (lv_at hl 2 rfl) ?_
      refine va_put (D := (dC, dI)) (ci := 13) (v := .null) (ty := .object "java/lang/Throwable") (C := RX13) (T := TX13) (N := 8) hx hb hts hin_13 tyX13 tyX13_ok nmX13 hown hK hP hD hS 0 rfl rfl 0 (by decide) (hts (.fieldLink RT 7 "java/lang/Throwable" "cause" "Ljava/lang/Throwable;") (List.mem_of_getElem? (i := 4) rfl)) (fun _ h9 => h9) rfl (by decide +kernel) rfl rfl (Nat.le_of_ble_eq_true rfl) dT_init_48 (fun H locs hP hD hS => ?_)
      have hP : va_P (dC, dI) z_Cl [(h0, .inr (13, [.null, .null, .ref t_3, .null, .null, .int 0, .int 0, .int 0]))] H := hP
      have hD : va_D A [(h0, .inr (13, [.null, .null, .ref t_3, .null, .null, .int 0, .int 0, .int 0]))] := hD
      refine lv_iload_n hx hb dT_init_51 rfl (lv_at hl 3 rfl) ?_
      refine lv_if_ne (tgt := 60) hx hb dT_init_52 (by decide) (fun h9 => absurd (by decide) h9) (fun _ => ?_)
      refine lv_aload_n hx hb dT_init_55 rfl (lv_at hl 0 rfl) ?_
      refine lv_null hx hb dT_init_56 ?_
      refine va_put (D := (dC, dI)) (ci := 13) (v := .null) (ty := .object "java/util/List") (C := RX13) (T := TX13) (N := 8) hx hb hts hin_13 tyX13 tyX13_ok nmX13 hown hK hP hD hS 0 rfl rfl 2 (by decide) (hts (.fieldLink RT 24 "java/lang/Throwable" "suppressedExceptions" "Ljava/util/List;") (List.mem_of_getElem? (i := 8) rfl)) (fun _ h9 => h9) rfl (by decide +kernel) rfl rfl (Nat.le_of_ble_eq_true rfl) dT_init_57 (fun H locs hP hD hS => ?_)
      have hP : va_P (dC, dI) z_Cl [(h0, .inr (13, [.null, .null, .null, .null, .null, .int 0, .int 0, .int 0]))] H := hP
      have hD : va_D A [(h0, .inr (13, [.null, .null, .null, .null, .null, .int 0, .int 0, .int 0]))] := hD
      have hP9 := hP.sub (ws' := [(h0, .inr (13, [.null, .null, .null, .null, .null, .int 0, .int 0, .int 0]))]) [0] rfl
      have hD9 := hD.sub (ws' := [(h0, .inr (13, [.null, .null, .null, .null, .null, .int 0, .int 0, .int 0]))]) [0] (by decide) rfl
      have hK9 := hK.sub (tys' := []) [] rfl
      refine W.widen (k := 0) (n := 0) (Nat.le_of_ble_eq_true rfl) (Nat.le_of_ble_eq_true rfl) ?_
      exact W.vret hx hb hr (fun t ht hW => ⟨⟨(), rfl, trivial, by rw [ht]; exact hP9, va_K.moved hW.alike hK9, hD9⟩, hS.F ht⟩) hS.2.2 dT_init_60
  · refine va_gets hx hb hz_2 hS hown (hts (.fieldLink RT 13 "java/lang/Throwable" "UNASSIGNED_STACK" "[Ljava/lang/StackTraceElement;") (List.mem_of_getElem? (i := 5) rfl)) (fun _ h9 => h9) dT_init_10 ?_
    refine va_put (D := (dC, dI)) (ci := 13) (v := .ref t_1) (ty := .array (.object "java/lang/StackTraceElement")) (C := RX13) (T := TX13) (N := 8) hx hb hts hin_13 tyX13 tyX13_ok nmX13 hown hK hP hD hS 0 rfl rfl 1 (by decide) (hts (.fieldLink RT 17 "java/lang/Throwable" "stackTrace" "[Ljava/lang/StackTraceElement;") (List.mem_of_getElem? (i := 6) rfl)) (fun _ h9 => h9) rfl (by decide +kernel) rfl rfl (Nat.le_of_ble_eq_true rfl) dT_init_13 (fun H locs hP hD hS => ?_)
    have hP : va_P (dC, dI) z_Cl [(h0, .inr (13, [.ref h0, .ref t_1, .null, .null, .null, .int 0, .int 0, .int 0]))] H := hP
    have hD : va_D A [(h0, .inr (13, [.ref h0, .ref t_1, .null, .null, .null, .int 0, .int 0, .int 0]))] := hD
    refine lv_aload_n hx hb dT_init_16 rfl (lv_at hl 0 rfl) ?_
    rcases hZ.2.1 with hz_6 | ⟨t_5, hz_6⟩
    · refine va_gets hx hb hz_6 hS hown (hts (.fieldLink RT 20 "java/lang/Throwable" "SUPPRESSED_SENTINEL" "Ljava/util/List;") (List.mem_of_getElem? (i := 7) rfl)) (fun _ h9 => h9) dT_init_17 ?_
      refine va_put (D := (dC, dI)) (ci := 13) (v := .null) (ty := .object "java/util/List") (C := RX13) (T := TX13) (N := 8) hx hb hts hin_13 tyX13 tyX13_ok nmX13 hown hK hP hD hS 0 rfl rfl 2 (by decide) (hts (.fieldLink RT 24 "java/lang/Throwable" "suppressedExceptions" "Ljava/util/List;") (List.mem_of_getElem? (i := 8) rfl)) (fun _ h9 => h9) rfl (by decide +kernel) rfl rfl (Nat.le_of_ble_eq_true rfl) dT_init_20 (fun H locs hP hD hS => ?_)
      have hP : va_P (dC, dI) z_Cl [(h0, .inr (13, [.ref h0, .ref t_1, .null, .null, .null, .int 0, .int 0, .int 0]))] H := hP
      have hD : va_D A [(h0, .inr (13, [.ref h0, .ref t_1, .null, .null, .null, .int 0, .int 0, .int 0]))] := hD
      refine lv_iload hx hb dT_init_23 (lv_at hl 4 rfl) ?_
      refine lv_if_eq (tgt := 36) hx hb dT_init_25 (by decide) (fun _ => ?_) (fun h9 => absurd (by decide) h9)
      refine lv_aload_n hx hb dT_init_36 rfl (lv_at hl 0 rfl) ?_
      refine lv_null hx hb dT_init_37 ?_
      refine va_put (D := (dC, dI)) (ci := 13) (v := .null) (ty := .array (.object "java/lang/StackTraceElement")) (C := RX13) (T := TX13) (N := 8) hx hb hts hin_13 tyX13 tyX13_ok nmX13 hown hK hP hD hS 0 rfl rfl 1 (by decide) (hts (.fieldLink RT 17 "java/lang/Throwable" "stackTrace" "[Ljava/lang/StackTraceElement;") (List.mem_of_getElem? (i := 6) rfl)) (fun _ h9 => h9) rfl (by decide +kernel) rfl rfl (Nat.le_of_ble_eq_true rfl) dT_init_38 (fun H locs hP hD hS => ?_)
      have hP : va_P (dC, dI) z_Cl [(h0, .inr (13, [.ref h0, .null, .null, .null, .null, .int 0, .int 0, .int 0]))] H := hP
      have hD : va_D A [(h0, .inr (13, [.ref h0, .null, .null, .null, .null, .int 0, .int 0, .int 0]))] := hD
      refine lv_aload_n hx hb dT_init_41 rfl (lv_at hl 0 rfl) ?_
      refine lv_aload_nN hx hb dT_init_42 rfl (lv_at hl 1 rfl) ?_
      refine va_put (D := (dC, dI)) (ci := 13) (v := .null) (ty := .object "java/lang/String") (C := RX13) (T := TX13) (N := 8) hx hb hts hin_13 tyX13 tyX13_ok nmX13 hown hK hP hD hS 0 rfl rfl 3 (by decide) (hts (.fieldLink RT 31 "java/lang/Throwable" "detailMessage" "Ljava/lang/String;") (List.mem_of_getElem? (i := 9) rfl)) (fun _ h9 => h9) rfl (by decide +kernel) rfl rfl (Nat.le_of_ble_eq_true rfl) dT_init_43 (fun H locs hP hD hS => ?_)
      have hP : va_P (dC, dI) z_Cl [(h0, .inr (13, [.ref h0, .null, .null, .null, .null, .int 0, .int 0, .int 0]))] H := hP
      have hD : va_D A [(h0, .inr (13, [.ref h0, .null, .null, .null, .null, .int 0, .int 0, .int 0]))] := hD
      refine lv_aload_n hx hb dT_init_46 rfl (lv_at hl 0 rfl) ?_
      refine lv_aload_nN hx hb dT_init_47 rfl (lv_at hl 2 rfl) ?_
      refine va_put (D := (dC, dI)) (ci := 13) (v := .null) (ty := .object "java/lang/Throwable") (C := RX13) (T := TX13) (N := 8) hx hb hts hin_13 tyX13 tyX13_ok nmX13 hown hK hP hD hS 0 rfl rfl 0 (by decide) (hts (.fieldLink RT 7 "java/lang/Throwable" "cause" "Ljava/lang/Throwable;") (List.mem_of_getElem? (i := 4) rfl)) (fun _ h9 => h9) rfl (by decide +kernel) rfl rfl (Nat.le_of_ble_eq_true rfl) dT_init_48 (fun H locs hP hD hS => ?_)
      have hP : va_P (dC, dI) z_Cl [(h0, .inr (13, [.null, .null, .null, .null, .null, .int 0, .int 0, .int 0]))] H := hP
      have hD : va_D A [(h0, .inr (13, [.null, .null, .null, .null, .null, .int 0, .int 0, .int 0]))] := hD
      refine lv_iload_n hx hb dT_init_51 rfl (lv_at hl 3 rfl) ?_
      refine lv_if_ne (tgt := 60) hx hb dT_init_52 (by decide) (fun h9 => absurd (by decide) h9) (fun _ => ?_)
      refine lv_aload_n hx hb dT_init_55 rfl (lv_at hl 0 rfl) ?_
      refine lv_null hx hb dT_init_56 ?_
      refine va_put (D := (dC, dI)) (ci := 13) (v := .null) (ty := .object "java/util/List") (C := RX13) (T := TX13) (N := 8) hx hb hts hin_13 tyX13 tyX13_ok nmX13 hown hK hP hD hS 0 rfl rfl 2 (by decide) (hts (.fieldLink RT 24 "java/lang/Throwable" "suppressedExceptions" "Ljava/util/List;") (List.mem_of_getElem? (i := 8) rfl)) (fun _ h9 => h9) rfl (by decide +kernel) rfl rfl (Nat.le_of_ble_eq_true rfl) dT_init_57 (fun H locs hP hD hS => ?_)
      have hP : va_P (dC, dI) z_Cl [(h0, .inr (13, [.null, .null, .null, .null, .null, .int 0, .int 0, .int 0]))] H := hP
      have hD : va_D A [(h0, .inr (13, [.null, .null, .null, .null, .null, .int 0, .int 0, .int 0]))] := hD
      have hP9 := hP.sub (ws' := [(h0, .inr (13, [.null, .null, .null, .null, .null, .int 0, .int 0, .int 0]))]) [0] rfl
      have hD9 := hD.sub (ws' := [(h0, .inr (13, [.null, .null, .null, .null, .null, .int 0, .int 0, .int 0]))]) [0] (by decide) rfl
      have hK9 := hK.sub (tys' := []) [] rfl
      refine W.widen (k := 0) (n := 0) (Nat.le_of_ble_eq_true rfl) (Nat.le_of_ble_eq_true rfl) ?_
      exact W.vret hx hb hr (fun t ht hW => ⟨⟨(), rfl, trivial, by rw [ht]; exact hP9, va_K.moved hW.alike hK9, hD9⟩, hS.F ht⟩) hS.2.2 dT_init_60
    · refine va_gets hx hb hz_6 hS hown (hts (.fieldLink RT 20 "java/lang/Throwable" "SUPPRESSED_SENTINEL" "Ljava/util/List;") (List.mem_of_getElem? (i := 7) rfl)) (fun _ h9 => h9) dT_init_17 ?_
      refine va_put (D := (dC, dI)) (ci := 13) (v := .ref t_5) (ty := .object "java/util/List") (C := RX13) (T := TX13) (N := 8) hx hb hts hin_13 tyX13 tyX13_ok nmX13 hown hK hP hD hS 0 rfl rfl 2 (by decide) (hts (.fieldLink RT 24 "java/lang/Throwable" "suppressedExceptions" "Ljava/util/List;") (List.mem_of_getElem? (i := 8) rfl)) (fun _ h9 => h9) rfl (by decide +kernel) rfl rfl (Nat.le_of_ble_eq_true rfl) dT_init_20 (fun H locs hP hD hS => ?_)
      have hP : va_P (dC, dI) z_Cl [(h0, .inr (13, [.ref h0, .ref t_1, .ref t_5, .null, .null, .int 0, .int 0, .int 0]))] H := hP
      have hD : va_D A [(h0, .inr (13, [.ref h0, .ref t_1, .ref t_5, .null, .null, .int 0, .int 0, .int 0]))] := hD
      refine lv_iload hx hb dT_init_23 (lv_at hl 4 rfl) ?_
      refine lv_if_eq (tgt := 36) hx hb dT_init_25 (by decide) (fun _ => ?_) (fun h9 => absurd (by decide) h9)
      refine lv_aload_n hx hb dT_init_36 rfl (lv_at hl 0 rfl) ?_
      refine lv_null hx hb dT_init_37 ?_
      refine va_put (D := (dC, dI)) (ci := 13) (v := .null) (ty := .array (.object "java/lang/StackTraceElement")) (C := RX13) (T := TX13) (N := 8) hx hb hts hin_13 tyX13 tyX13_ok nmX13 hown hK hP hD hS 0 rfl rfl 1 (by decide) (hts (.fieldLink RT 17 "java/lang/Throwable" "stackTrace" "[Ljava/lang/StackTraceElement;") (List.mem_of_getElem? (i := 6) rfl)) (fun _ h9 => h9) rfl (by decide +kernel) rfl rfl (Nat.le_of_ble_eq_true rfl) dT_init_38 (fun H locs hP hD hS => ?_)
      have hP : va_P (dC, dI) z_Cl [(h0, .inr (13, [.ref h0, .null, .ref t_5, .null, .null, .int 0, .int 0, .int 0]))] H := hP
      have hD : va_D A [(h0, .inr (13, [.ref h0, .null, .ref t_5, .null, .null, .int 0, .int 0, .int 0]))] := hD
      refine lv_aload_n hx hb dT_init_41 rfl (lv_at hl 0 rfl) ?_
      refine lv_aload_nN hx hb dT_init_42 rfl (lv_at hl 1 rfl) ?_
      refine va_put (D := (dC, dI)) (ci := 13) (v := .null) (ty := .object "java/lang/String") (C := RX13) (T := TX13) (N := 8) hx hb hts hin_13 tyX13 tyX13_ok nmX13 hown hK hP hD hS 0 rfl rfl 3 (by decide) (hts (.fieldLink RT 31 "java/lang/Throwable" "detailMessage" "Ljava/lang/String;") (List.mem_of_getElem? (i := 9) rfl)) (fun _ h9 => h9) rfl (by decide +kernel) rfl rfl (Nat.le_of_ble_eq_true rfl) dT_init_43 (fun H locs hP hD hS => ?_)
      have hP : va_P (dC, dI) z_Cl [(h0, .inr (13, [.ref h0, .null, .ref t_5, .null, .null, .int 0, .int 0, .int 0]))] H := hP
      have hD : va_D A [(h0, .inr (13, [.ref h0, .null, .ref t_5, .null, .null, .int 0, .int 0, .int 0]))] := hD
      refine lv_aload_n hx hb dT_init_46 rfl (lv_at hl 0 rfl) ?_
      refine lv_aload_nN hx hb dT_init_47 rfl (lv_at hl 2 rfl) ?_
      refine va_put (D := (dC, dI)) (ci := 13) (v := .null) (ty := .object "java/lang/Throwable") (C := RX13) (T := TX13) (N := 8) hx hb hts hin_13 tyX13 tyX13_ok nmX13 hown hK hP hD hS 0 rfl rfl 0 (by decide) (hts (.fieldLink RT 7 "java/lang/Throwable" "cause" "Ljava/lang/Throwable;") (List.mem_of_getElem? (i := 4) rfl)) (fun _ h9 => h9) rfl (by decide +kernel) rfl rfl (Nat.le_of_ble_eq_true rfl) dT_init_48 (fun H locs hP hD hS => ?_)
      have hP : va_P (dC, dI) z_Cl [(h0, .inr (13, [.null, .null, .ref t_5, .null, .null, .int 0, .int 0, .int 0]))] H := hP
      have hD : va_D A [(h0, .inr (13, [.null, .null, .ref t_5, .null, .null, .int 0, .int 0, .int 0]))] := hD
      refine lv_iload_n hx hb dT_init_51 rfl (lv_at hl 3 rfl) ?_
      refine lv_if_ne (tgt := 60) hx hb dT_init_52 (by decide) (fun h9 => absurd (by decide) h9) (fun _ => ?_)
      refine lv_aload_n hx hb dT_init_55 rfl (lv_at hl 0 rfl) ?_
      refine lv_null hx hb dT_init_56 ?_
      refine va_put (D := (dC, dI)) (ci := 13) (v := .null) (ty := .object "java/util/List") (C := RX13) (T := TX13) (N := 8) hx hb hts hin_13 tyX13 tyX13_ok nmX13 hown hK hP hD hS 0 rfl rfl 2 (by decide) (hts (.fieldLink RT 24 "java/lang/Throwable" "suppressedExceptions" "Ljava/util/List;") (List.mem_of_getElem? (i := 8) rfl)) (fun _ h9 => h9) rfl (by decide +kernel) rfl rfl (Nat.le_of_ble_eq_true rfl) dT_init_57 (fun H locs hP hD hS => ?_)
      have hP : va_P (dC, dI) z_Cl [(h0, .inr (13, [.null, .null, .null, .null, .null, .int 0, .int 0, .int 0]))] H := hP
      have hD : va_D A [(h0, .inr (13, [.null, .null, .null, .null, .null, .int 0, .int 0, .int 0]))] := hD
      have hP9 := hP.sub (ws' := [(h0, .inr (13, [.null, .null, .null, .null, .null, .int 0, .int 0, .int 0]))]) [0] rfl
      have hD9 := hD.sub (ws' := [(h0, .inr (13, [.null, .null, .null, .null, .null, .int 0, .int 0, .int 0]))]) [0] (by decide) rfl
      have hK9 := hK.sub (tys' := []) [] rfl
      refine W.widen (k := 0) (n := 0) (Nat.le_of_ble_eq_true rfl) (Nat.le_of_ble_eq_true rfl) ?_
      exact W.vret hx hb hr (fun t ht hW => ⟨⟨(), rfl, trivial, by rw [ht]; exact hP9, va_K.moved hW.alike hK9, hD9⟩, hS.F ht⟩) hS.2.2 dT_init_60

def z_wE_init : List Cond := .code yE_init cE_init 5 none :: ([.methodLink RT 1 objectInit, .instanceMethod objectInit, .code objectInit ⟨#[0xb1]⟩ 1 none, .fieldLink RT 7 "java/lang/Throwable" "cause" "Ljava/lang/Throwable;", .fieldLink RT 13 "java/lang/Throwable" "UNASSIGNED_STACK" "[Ljava/lang/StackTraceElement;", .fieldLink RT 17 "java/lang/Throwable" "stackTrace" "[Ljava/lang/StackTraceElement;", .fieldLink RT 20 "java/lang/Throwable" "SUPPRESSED_SENTINEL" "Ljava/util/List;", .fieldLink RT 24 "java/lang/Throwable" "suppressedExceptions" "Ljava/util/List;", .fieldLink RT 31 "java/lang/Throwable" "detailMessage" "Ljava/lang/String;", .code yT_init cT_init 5 none, .initialized RT, .methodLink RE 16 yT_init, .instanceMethod yT_init] ++ (u_ws RX13 TX13 8))
set_option maxRecDepth 20000 in
theorem c_E_init_zg_1 : GoodIn z_wE_init z_wT_init := goodIn_r _ [10, 1, 2, 3, 4, 5, 6, 7, 8, 9, 14, 15, 16, 17, 18, 19, 20, 21] (by decide +kernel) (by decide +kernel)
set_option maxHeartbeats 4000000 in
set_option maxRecDepth 100000 in
theorem c_E_init (l : Launch) (dC : Nat → ClassId) (dI : Nat → Nat → Nat) (h0 : Nat) (sz : Nat) : Met l yE_init z_wE_init ({ frames := 2, cells := 0, slots := 0, locals := 64 }) (va_Pc [.ref h0, .null, .null, .int 0, .int 0] (z_in2 dC dI [(h0, .inr (13, [.null, .null, .null, .null, .null, .int 0, .int 0, .int 0]))] [] sz)) (va_Qv (fun _ : Unit => True) (fun (_ : Unit) t => z_out dC dI (va_A [(h0, .inr (13, [.null, .null, .null, .null, .null, .int 0, .int 0, .int 0]))] sz) [(h0, .inr (13, [.null, .null, .null, .null, .null, .int 0, .int 0, .int 0]))] [] t) (va_A [(h0, .inr (13, [.null, .null, .null, .null, .null, .int 0, .int 0, .int 0]))] sz)) 0 0 (va_A [(h0, .inr (13, [.null, .null, .null, .null, .null, .int 0, .int 0, .int 0]))] sz) := by
  refine Met.ofW (cc := cE_init) (maxL := 5) (ret := none) (by decide) rfl ?_
  intro p e s m args below meth c s₁ B hml hv
  obtain ⟨rfl, hsz, hP, hK, hD0, hN, hZ⟩ := hv
  have hx := B.exec
  have hb := B.bytes
  have hr := B.returns
  have hts := atoms_spec (ws := z_wE_init) B.pre
  have hown : s.vm.findClass RE = some m.cls := findClass_of_methodNamed B.named
  have hlocks := B.notSynchronized
  have hini : meth.name = "<init>" := (name_of_methodNamed B.named B.method).1
  subst hsz
  have hD := hD0.self (sz := s.heap.size)
  generalize hAe : va_A [(h0, .inr (13, [.null, .null, .null, .null, .null, .int 0, .int 0, .int 0]))] s.heap.size = A at hD hZ ⊢
  have hA : ∀ q : Nat, s.heap.size ≤ q → A q := fun q h => by rw [← hAe]; exact Or.inr h
  have hS : va_S A s.heap s.heap [] := va_S.rf
  have hP : va_P (dC, dI) z_Cl [(h0, .inr (13, [.null, .null, .null, .null, .null, .int 0, .int 0, .int 0]))] s.heap := hP
  have hl := lv_entry ([.ref h0, .null, .null, .int 0, .int 0]) (n := 5) (Nat.le_of_ble_eq_true rfl)
  rw [lg_entry_eq]
  generalize (lg_sl ([.ref h0, .null, .null, .int 0, .int 0]) ++ List.replicate (5 - (lg_sl ([.ref h0, .null, .null, .int 0, .int 0])).length) Slot.unset).toArray = ls at hl ⊢
  have hl : lv_has ls 5 [(0, .ref h0), (1, .null), (2, .null), (3, .int 0), (4, .int 0)] := hl
  refine lv_aload_n hx hb dE_init_0 rfl (lv_at hl 0 rfl) ?_
  refine lv_aload_nN hx hb dE_init_1 rfl (lv_at hl 1 rfl) ?_
  refine lv_aload_nN hx hb dE_init_2 rfl (lv_at hl 2 rfl) ?_
  refine lv_iload_n hx hb dE_init_3 rfl (lv_at hl 3 rfl) ?_
  refine lv_iload hx hb dE_init_4 (lv_at hl 4 rfl) ?_
  have hPc := hP.sub (ws' := [(h0, .inr (13, [.null, .null, .null, .null, .null, .int 0, .int 0, .int 0]))]) [0] rfl
  have hDc := hD.sub (ws' := [(h0, .inr (13, [.null, .null, .null, .null, .null, .int 0, .int 0, .int 0]))]) [0] (by decide) rfl
  have hKc := hK.sub (tys' := []) [] rfl
  have hFc := va_free (wc := [(h0, .inr (13, [.null, .null, .null, .null, .null, .int 0, .int 0, .int 0]))]) hD hS hA [0] rfl
  refine va_callv (va_runI (As := [.null, .null, .int 0, .int 0]) (rest := []) ⟨hx, hb, hml, hown, hts⟩ (c_T_init l dC dI h0 s.heap.size) (cwI 4 hts c_E_init_zg_1 rfl rfl rfl (hts (.initialized RT) (List.mem_of_getElem? (i := 11) rfl)) (hts (.methodLink RE 16 yT_init) (List.mem_of_getElem? (i := 12) rfl)) (hts (.instanceMethod yT_init) (List.mem_of_getElem? (i := 13) rfl)) rfl (by decide +kernel) ⟨(Nat.le_of_ble_eq_true rfl), (Nat.le_of_ble_eq_true rfl)⟩) ⟨z_blind2, z_pre2 hPc hKc hDc hN hZ hS hFc⟩ rfl rfl hl.1 rfl (lv_room (Nat.le_of_ble_eq_true rfl)) dE_init_6 ⟨(Nat.le_of_ble_eq_true rfl), (Nat.le_of_ble_eq_true rfl)⟩) hS (fun q _ h => hFc q h) hFc (fun u t H1 locs ht hvm hw hB hz1 hk1 hS => ?_)
  obtain ⟨hP1, hK1, hD1⟩ := hB
  rw [ht] at hP1
  have hK1 := va_K.moved hvm.symm hK1
  obtain ⟨hP, hD⟩ := va_join (wr := []) (w1 := [(h0, .inr (13, [.null, .null, .null, .null, .null, .int 0, .int 0, .int 0]))]) hP hD [0] [] rfl rfl (by decide) (by decide) hk1 hFc hP1 hD1
  have hK := (hK.sub (tys' := []) [] rfl).app hK1
  generalize H1 = H at hP hS ⊢
  have hP : va_P (dC, dI) z_Cl [(h0, .inr (13, [.null, .null, .null, .null, .null, .int 0, .int 0, .int 0]))] H := hP
  have hD : va_D A [(h0, .inr (13, [.null, .null, .null, .null, .null, .int 0, .int 0, .int 0]))] := hD
  have hK : va_K (dC, dI) z_Cl [] s := hK
  have hP9 := hP.sub (ws' := [(h0, .inr (13, [.null, .null, .null, .null, .null, .int 0, .int 0, .int 0]))]) [0] rfl
  have hD9 := hD.sub (ws' := [(h0, .inr (13, [.null, .null, .null, .null, .null, .int 0, .int 0, .int 0]))]) [0] (by decide) rfl
  have hK9 := hK.sub (tys' := []) [] rfl
  refine W.widen (k := 0) (n := 0) (Nat.le_of_ble_eq_true rfl) (Nat.le_of_ble_eq_true rfl) ?_
  exact W.vret hx hb hr (fun t ht hW => ⟨⟨(), rfl, trivial, by rw [ht]; exact hP9, va_K.moved hW.alike hK9, hD9⟩, hS.F ht⟩) hS.2.2 dE_init_9

def z_wR_init : List Cond := .code yR_init cR_init 5 none :: ([.methodLink RT 1 objectInit, .instanceMethod objectInit, .code objectInit ⟨#[0xb1]⟩ 1 none, .fieldLink RT 7 "java/lang/Throwable" "cause" "Ljava/lang/Throwable;", .fieldLink RT 13 "java/lang/Throwable" "UNASSIGNED_STACK" "[Ljava/lang/StackTraceElement;", .fieldLink RT 17 "java/lang/Throwable" "stackTrace" "[Ljava/lang/StackTraceElement;", .fieldLink RT 20 "java/lang/Throwable" "SUPPRESSED_SENTINEL" "Ljava/util/List;", .fieldLink RT 24 "java/lang/Throwable" "suppressedExceptions" "Ljava/util/List;", .fieldLink RT 31 "java/lang/Throwable" "detailMessage" "Ljava/lang/String;", .code yT_init cT_init 5 none, .initialized RT, .methodLink RE 16 yT_init, .instanceMethod yT_init, .code yE_init cE_init 5 none, .initialized RE, .methodLink RR 16 yE_init, .instanceMethod yE_init] ++ (u_ws RX13 TX13 8))
set_option maxRecDepth 20000 in
theorem c_R_init_zg_1 : GoodIn z_wR_init z_wE_init := goodIn_r _ [14, 1, 2, 3, 4, 5, 6, 7, 8, 9, 10, 11, 12, 13, 18, 19, 20, 21, 22, 23, 24, 25] (by decide +kernel) (by decide +kernel)
set_option maxHeartbeats 4000000 in
set_option maxRecDepth 100000 in
theorem c_R_init (l : Launch) (dC : Nat → ClassId) (dI : Nat → Nat → Nat) (h0 : Nat) (sz : Nat) : Met l yR_init z_wR_init ({ frames := 3, cells := 0, slots := 0, locals := 88 }) (va_Pc [.ref h0, .null, .null, .int 0, .int 0] (z_in2 dC dI [(h0, .inr (13, [.null, .null, .null, .null, .null, .int 0, .int 0, .int 0]))] [] sz)) (va_Qv (fun _ : Unit => True) (fun (_ : Unit) t => z_out dC dI (va_A [(h0, .inr (13, [.null, .null, .null, .null, .null, .int 0, .int 0, .int 0]))] sz) [(h0, .inr (13, [.null, .null, .null, .null, .null, .int 0, .int 0, .int 0]))] [] t) (va_A [(h0, .inr (13, [.null, .null, .null, .null, .null, .int 0, .int 0, .int 0]))] sz)) 0 0 (va_A [(h0, .inr (13, [.null, .null, .null, .null, .null, .int 0, .int 0, .int 0]))] sz) := by
  refine Met.ofW (cc := cR_init) (maxL := 5) (ret := none) (by decide) rfl ?_
  intro p e s m args below meth c s₁ B hml hv
  obtain ⟨rfl, hsz, hP, hK, hD0, hN, hZ⟩ := hv
  have hx := B.exec
  have hb := B.bytes
  have hr := B.returns
  have hts := atoms_spec (ws := z_wR_init) B.pre
  have hown : s.vm.findClass RR = some m.cls := findClass_of_methodNamed B.named
  have hlocks := B.notSynchronized
  have hini : meth.name = "<init>" := (name_of_methodNamed B.named B.method).1
  subst hsz
  have hD := hD0.self (sz := s.heap.size)
  generalize hAe : va_A [(h0, .inr (13, [.null, .null, .null, .null, .null, .int 0, .int 0, .int 0]))] s.heap.size = A at hD hZ ⊢
  have hA : ∀ q : Nat, s.heap.size ≤ q → A q := fun q h => by rw [← hAe]; exact Or.inr h
  have hS : va_S A s.heap s.heap [] := va_S.rf
  have hP : va_P (dC, dI) z_Cl [(h0, .inr (13, [.null, .null, .null, .null, .null, .int 0, .int 0, .int 0]))] s.heap := hP
  have hl := lv_entry ([.ref h0, .null, .null, .int 0, .int 0]) (n := 5) (Nat.le_of_ble_eq_true rfl)
  rw [lg_entry_eq]
  generalize (lg_sl ([.ref h0, .null, .null, .int 0, .int 0]) ++ List.replicate (5 - (lg_sl ([.ref h0, .null, .null, .int 0, .int 0])).length) Slot.unset).toArray = ls at hl ⊢
  have hl : lv_has ls 5 [(0, .ref h0), (1, .null), (2, .null), (3, .int 0), (4, .int 0)] := hl
  refine lv_aload_n hx hb dR_init_0 rfl (lv_at hl 0 rfl) ?_
  refine lv_aload_nN hx hb dR_init_1 rfl (lv_at hl 1 rfl) ?_
  refine lv_aload_nN hx hb dR_init_2 rfl (lv_at hl 2 rfl) ?_
  refine lv_iload_n hx hb dR_init_3 rfl (lv_at hl 3 rfl) ?_
  refine lv_iload hx hb dR_init_4 (lv_at hl 4 rfl) ?_
  have hPc := hP.sub (ws' := [(h0, .inr (13, [.null, .null, .null, .null, .null, .int 0, .int 0, .int 0]))]) [0] rfl
  have hDc := hD.sub (ws' := [(h0, .inr (13, [.null, .null, .null, .null, .null, .int 0, .int 0, .int 0]))]) [0] (by decide) rfl
  have hKc := hK.sub (tys' := []) [] rfl
  have hFc := va_free (wc := [(h0, .inr (13, [.null, .null, .null, .null, .null, .int 0, .int 0, .int 0]))]) hD hS hA [0] rfl
  refine va_callv (va_runI (As := [.null, .null, .int 0, .int 0]) (rest := []) ⟨hx, hb, hml, hown, hts⟩ (c_E_init l dC dI h0 s.heap.size) (cwI 4 hts c_R_init_zg_1 rfl rfl rfl (hts (.initialized RE) (List.mem_of_getElem? (i := 15) rfl)) (hts (.methodLink RR 16 yE_init) (List.mem_of_getElem? (i := 16) rfl)) (hts (.instanceMethod yE_init) (List.mem_of_getElem? (i := 17) rfl)) rfl (by decide +kernel) ⟨(Nat.le_of_ble_eq_true rfl), (Nat.le_of_ble_eq_true rfl)⟩) ⟨z_blind2, z_pre2 hPc hKc hDc hN hZ hS hFc⟩ rfl rfl hl.1 rfl (lv_room (Nat.le_of_ble_eq_true rfl)) dR_init_6 ⟨(Nat.le_of_ble_eq_true rfl), (Nat.le_of_ble_eq_true rfl)⟩) hS (fun q _ h => hFc q h) hFc (fun u t H1 locs ht hvm hw hB hz1 hk1 hS => ?_)
  obtain ⟨hP1, hK1, hD1⟩ := hB
  rw [ht] at hP1
  have hK1 := va_K.moved hvm.symm hK1
  obtain ⟨hP, hD⟩ := va_join (wr := []) (w1 := [(h0, .inr (13, [.null, .null, .null, .null, .null, .int 0, .int 0, .int 0]))]) hP hD [0] [] rfl rfl (by decide) (by decide) hk1 hFc hP1 hD1
  have hK := (hK.sub (tys' := []) [] rfl).app hK1
  generalize H1 = H at hP hS ⊢
  have hP : va_P (dC, dI) z_Cl [(h0, .inr (13, [.null, .null, .null, .null, .null, .int 0, .int 0, .int 0]))] H := hP
  have hD : va_D A [(h0, .inr (13, [.null, .null, .null, .null, .null, .int 0, .int 0, .int 0]))] := hD
  have hK : va_K (dC, dI) z_Cl [] s := hK
  have hP9 := hP.sub (ws' := [(h0, .inr (13, [.null, .null, .null, .null, .null, .int 0, .int 0, .int 0]))]) [0] rfl
  have hD9 := hD.sub (ws' := [(h0, .inr (13, [.null, .null, .null, .null, .null, .int 0, .int 0, .int 0]))]) [0] (by decide) rfl
  have hK9 := hK.sub (tys' := []) [] rfl
  refine W.widen (k := 0) (n := 0) (Nat.le_of_ble_eq_true rfl) (Nat.le_of_ble_eq_true rfl) ?_
  exact W.vret hx hb hr (fun t ht hW => ⟨⟨(), rfl, trivial, by rw [ht]; exact hP9, va_K.moved hW.alike hK9, hD9⟩, hS.F ht⟩) hS.2.2 dR_init_9

def z_wX13_init : List Cond := .code yX13_init cX13_init 1 none :: ([.methodLink RT 1 objectInit, .instanceMethod objectInit, .code objectInit ⟨#[0xb1]⟩ 1 none, .fieldLink RT 7 "java/lang/Throwable" "cause" "Ljava/lang/Throwable;", .fieldLink RT 13 "java/lang/Throwable" "UNASSIGNED_STACK" "[Ljava/lang/StackTraceElement;", .fieldLink RT 17 "java/lang/Throwable" "stackTrace" "[Ljava/lang/StackTraceElement;", .fieldLink RT 20 "java/lang/Throwable" "SUPPRESSED_SENTINEL" "Ljava/util/List;", .fieldLink RT 24 "java/lang/Throwable" "suppressedExceptions" "Ljava/util/List;", .fieldLink RT 31 "java/lang/Throwable" "detailMessage" "Ljava/lang/String;", .code yT_init cT_init 5 none, .initialized RT, .methodLink RE 16 yT_init, .instanceMethod yT_init, .code yE_init cE_init 5 none, .initialized RE, .methodLink RR 16 yE_init, .instanceMethod yE_init, .code yR_init cR_init 5 none, .initialized RR, .methodLink RX13 1 yR_init, .instanceMethod yR_init] ++ (u_ws RX13 TX13 8))
set_option maxRecDepth 20000 in
theorem c_X13_init_zg_1 : GoodIn z_wX13_init z_wR_init := goodIn_r _ [18, 1, 2, 3, 4, 5, 6, 7, 8, 9, 10, 11, 12, 13, 14, 15, 16, 17, 22, 23, 24, 25, 26, 27, 28, 29] (by decide +kernel) (by decide +kernel)
set_option maxHeartbeats 4000000 in
set_option maxRecDepth 100000 in
theorem c_X13_init (l : Launch) (dC : Nat → ClassId) (dI : Nat → Nat → Nat) (h0 : Nat) (sz : Nat) : Met l yX13_init z_wX13_init ({ frames := 4, cells := 0, slots := 0, locals := 112 }) (va_Pc [.ref h0] (z_in2 dC dI [(h0, .inr (13, [.null, .null, .null, .null, .null, .int 0, .int 0, .int 0]))] [] sz)) (va_Qv (fun _ : Unit => True) (fun (_ : Unit) t => z_out dC dI (va_A [(h0, .inr (13, [.null, .null, .null, .null, .null, .int 0, .int 0, .int 0]))] sz) [(h0, .inr (13, [.null, .null, .null, .null, .null, .int 0, .int 0, .int 0]))] [] t) (va_A [(h0, .inr (13, [.null, .null, .null, .null, .null, .int 0, .int 0, .int 0]))] sz)) 0 0 (va_A [(h0, .inr (13, [.null, .null, .null, .null, .null, .int 0, .int 0, .int 0]))] sz) := by
  refine Met.ofW (cc := cX13_init) (maxL := 1) (ret := none) (by decide) rfl ?_
  intro p e s m args below meth c s₁ B hml hv
  obtain ⟨rfl, hsz, hP, hK, hD0, hN, hZ⟩ := hv
  have hx := B.exec
  have hb := B.bytes
  have hr := B.returns
  have hts := atoms_spec (ws := z_wX13_init) B.pre
  have hown : s.vm.findClass RX13 = some m.cls := findClass_of_methodNamed B.named
  have hlocks := B.notSynchronized
  have hini : meth.name = "<init>" := (name_of_methodNamed B.named B.method).1
  subst hsz
  have hD := hD0.self (sz := s.heap.size)
  generalize hAe : va_A [(h0, .inr (13, [.null, .null, .null, .null, .null, .int 0, .int 0, .int 0]))] s.heap.size = A at hD hZ ⊢
  have hA : ∀ q : Nat, s.heap.size ≤ q → A q := fun q h => by rw [← hAe]; exact Or.inr h
  have hS : va_S A s.heap s.heap [] := va_S.rf
  have hP : va_P (dC, dI) z_Cl [(h0, .inr (13, [.null, .null, .null, .null, .null, .int 0, .int 0, .int 0]))] s.heap := hP
  have hl := lv_entry ([.ref h0]) (n := 1) (Nat.le_of_ble_eq_true rfl)
  rw [lg_entry_eq]
  generalize (lg_sl ([.ref h0]) ++ List.replicate (1 - (lg_sl ([.ref h0])).length) Slot.unset).toArray = ls at hl ⊢
  have hl : lv_has ls 1 [(0, .ref h0)] := hl
  refine lv_aload_n hx hb dX13_init_0 rfl (lv_at hl 0 rfl) ?_
  refine lv_null hx hb dX13_init_1 ?_
  refine lv_null hx hb dX13_init_2 ?_
  refine lv_iconst (v := 0) hx hb dX13_init_3 (by decide) ?_
  refine lv_iconst (v := 0) hx hb dX13_init_4 (by decide) ?_
  have hPc := hP.sub (ws' := [(h0, .inr (13, [.null, .null, .null, .null, .null, .int 0, .int 0, .int 0]))]) [0] rfl
  have hDc := hD.sub (ws' := [(h0, .inr (13, [.null, .null, .null, .null, .null, .int 0, .int 0, .int 0]))]) [0] (by decide) rfl
  have hKc := hK.sub (tys' := []) [] rfl
  have hFc := va_free (wc := [(h0, .inr (13, [.null, .null, .null, .null, .null, .int 0, .int 0, .int 0]))]) hD hS hA [0] rfl
  refine va_callv (va_runI (As := [.null, .null, .int 0, .int 0]) (rest := []) ⟨hx, hb, hml, hown, hts⟩ (c_R_init l dC dI h0 s.heap.size) (cwI 4 hts c_X13_init_zg_1 rfl rfl rfl (hts (.initialized RR) (List.mem_of_getElem? (i := 19) rfl)) (hts (.methodLink RX13 1 yR_init) (List.mem_of_getElem? (i := 20) rfl)) (hts (.instanceMethod yR_init) (List.mem_of_getElem? (i := 21) rfl)) rfl (by decide +kernel) ⟨(Nat.le_of_ble_eq_true rfl), (Nat.le_of_ble_eq_true rfl)⟩) ⟨z_blind2, z_pre2 hPc hKc hDc hN hZ hS hFc⟩ rfl rfl hl.1 rfl (lv_room (Nat.le_of_ble_eq_true rfl)) dX13_init_5 ⟨(Nat.le_of_ble_eq_true rfl), (Nat.le_of_ble_eq_true rfl)⟩) hS (fun q _ h => hFc q h) hFc (fun u t H1 locs ht hvm hw hB hz1 hk1 hS => ?_)
  obtain ⟨hP1, hK1, hD1⟩ := hB
  rw [ht] at hP1
  have hK1 := va_K.moved hvm.symm hK1
  obtain ⟨hP, hD⟩ := va_join (wr := []) (w1 := [(h0, .inr (13, [.null, .null, .null, .null, .null, .int 0, .int 0, .int 0]))]) hP hD [0] [] rfl rfl (by decide) (by decide) hk1 hFc hP1 hD1
  have hK := (hK.sub (tys' := []) [] rfl).app hK1
  generalize H1 = H at hP hS ⊢
  have hP : va_P (dC, dI) z_Cl [(h0, .inr (13, [.null, .null, .null, .null, .null, .int 0, .int 0, .int 0]))] H := hP
  have hD : va_D A [(h0, .inr (13, [.null, .null, .null, .null, .null, .int 0, .int 0, .int 0]))] := hD
  have hK : va_K (dC, dI) z_Cl [] s := hK
  have hP9 := hP.sub (ws' := [(h0, .inr (13, [.null, .null, .null, .null, .null, .int 0, .int 0, .int 0]))]) [0] rfl
  have hD9 := hD.sub (ws' := [(h0, .inr (13, [.null, .null, .null, .null, .null, .int 0, .int 0, .int 0]))]) [0] (by decide) rfl
  have hK9 := hK.sub (tys' := []) [] rfl
  refine W.widen (k := 0) (n := 0) (Nat.le_of_ble_eq_true rfl) (Nat.le_of_ble_eq_true rfl) ?_
  exact W.vret hx hb hr (fun t ht hW => ⟨⟨(), rfl, trivial, by rw [ht]; exact hP9, va_K.moved hW.alike hK9, hD9⟩, hS.F ht⟩) hS.2.2 dX13_init_8

theorem zi_conseq {l : Launch} {y : MethodName} {ws : List Cond} {rm : Room} {P P' : Array Value → State → Prop} {Q Q' : Array Value → State → Outcome → State → Prop} {mc ms : Nat} {free free' : Addr → Prop} (hM : Met l y ws rm P Q mc ms free) (h1 : ∀ a U, P' a U → P a U) (h2 : ∀ a U o t, P' a U → Q a U o t → Q' a U o t) (h3 : ∀ q, free q → free' q) : Met l y ws rm P' Q' mc ms free' := by
  intro p e ha hc hk s m args below hf happ hP ht
  obtain ⟨k, o, g1, g2, g3, hQ, L, hE, hL⟩ := hM p e ha hc hk s m args below hf happ (h1 _ _ hP) ht
  exact ⟨k, o, g1, g2, g3, h2 _ _ _ _ hP hQ, L, hE, fun q hq => h3 _ (hL q hq)⟩
theorem zi_A {h0 sz q : Nat} {x : va_E} : va_A [(h0, x)] sz q → zA0 h0 sz q := by
  rintro (⟨k, e, h⟩ | h)
  · have h9 := List.mem_singleton.mp (List.mem_of_getElem? h)
    exact Or.inl (congrArg Prod.fst h9)
  · exact Or.inr h
theorem zif_ne {h0 a t : Nat} {o : Option Nat} (ht : t ≠ 11) (ho : o ≠ some 11) : (if a = h0 then some t else o) ≠ some 11 := by
  split
  · intro h
    injection h with h
    exact ht h
  · exact ho
def zp_13 : Nat → zW3 → Prop := fun _ u => ∀ a, u.1 a ≠ some 11
theorem zi_X13 (l : Launch) (D : va_G) (k : Nat → ClassId) (h0 sz : Nat) : Met l yX13_init z_wX13_init ({ frames := 4, cells := 0, slots := 0, locals := 112 }) (va_Pc [.ref h0] (zPi D k 13 [.null, .null, .null, .null, .null, .int 0, .int 0, .int 0] h0 sz)) (va_Qv (fun u : zW3 => u.1 h0 = some 13 ∧ zp_13 h0 u) (zQi D k (zA0 h0 sz)) (zA0 h0 sz)) 0 0 (zA0 h0 sz) := by
  refine zi_conseq (c_X13_init l D.1 D.2 h0 sz) (fun a U h => ?_) (fun a U o t _ h => ?_) (fun q h => zi_A h)
  · obtain ⟨e, hsz, hP, hK, hN, hZ⟩ := h
    refine ⟨e, hsz, hP, hK.sub [] rfl, ⟨fun i j p q hi hj _ => ?_, fun _ _ _ => trivial⟩, hN, ⟨hZ.1.narrow (fun q h => zi_A h), hZ.2.narrow (fun q h => zi_A h)⟩⟩
    have h1 := (List.getElem?_eq_some_iff.mp hi).1
    have h2 := (List.getElem?_eq_some_iff.mp hj).1
    simp at h1 h2
    omega
  · obtain ⟨⟨u, h1, -, hP, -, -⟩, hF1, hF2⟩ := h
    refine ⟨⟨(fun a => if a = h0 then some 13 else none, [h0], fun _ => .inr (13, [.null, .null, .null, .null, .null, .int 0, .int 0, .int 0])), h1, ⟨if_pos rfl, fun a => zif_ne (by decide) (fun h9 => by cases h9)⟩, hP, by simp, fun a ha => Or.inl (List.mem_singleton.mp ha), ?_⟩, hF1, fun q hq hn => hF2 q hq (fun h => hn (zi_A h))⟩
    intro a t9 hat
    have h9 : (if a = h0 then some 13 else none) = some t9 := hat
    by_cases c : a = h0
    · rw [if_pos c] at h9
      cases h9
      refine ⟨List.mem_singleton.mpr c, fun _ => ⟨_, rfl, rfl, ?_⟩, fun h => by omega⟩
      have hv : zVs (fun a => if a = h0 then some 13 else none) [(4, 0, 0), (4, 0, 0), (4, 0, 0), (4, 0, 0), (4, 0, 0), (4, 0, 0), (0, (-2147483648), 2147483647), (0, (-2147483648), 2147483647)] [.null, .null, .null, .null, .null, .int 0, .int 0, .int 0] := ⟨trivial, trivial, trivial, trivial, trivial, trivial, zV.i ⟨by decide, by decide⟩, zV.i ⟨by decide, by decide⟩, trivial⟩
      exact fun j q hq => hv.at.2 j q hq
    · rw [if_neg c] at h9
      cases h9
