set_option maxHeartbeats 4000000 in
set_option maxRecDepth 100000 in
/-- THE LAW, from its entry -/
theorem whole_start {p : Program} {e : Env} {s : State} {m : MethodId} {below : List Frame} {meth : Method} {c : Code} (l : Launch) (hst : l.stackTraces = false) {b L : Nat} {xs : Nat → Int32} (hL : L ≤ 6) (C0 : lw_At p s m meth c b L xs) : W p l e room_1 s m #[Value.ref b] below meth c s.heap [] 0 0 (lw_Z below #[Value.ref b] s) (entryFrame m ([Value.ref b] : List Value).toArray 7) := by
  obtain ⟨hx, hb, hr, hml, hown, hts0, hX, hbl, hlocks, hgv⟩ := id C0
  have hown : s.vm.findClass RL = some m.cls := hown
  obtain ⟨A, hAe⟩ : ∃ A : Nat → Prop, A = fun q : Nat => s.heap.size ≤ q := ⟨_, rfl⟩
  have hts : ∀ w ∈ z_wlaw, w.before #[Value.ref b] s = true := fun w h => hts0 w (z_wlaw_in w h)
  have hA : ∀ q : Nat, s.heap.size ≤ q → A q := fun q h => by rw [hAe]; exact h
  have hbA : ¬ A b := by rw [hAe]; exact Nat.not_le.mpr hbl
  have hN : z_N s := z_N0 hts0 hgv
  have hZ : z_st A s s.heap := z_st0 hts0 hgv (fun a h => by rw [hAe]; exact Nat.not_le.mpr h)
  obtain ⟨c0, iS0, hKn0⟩ := u_known (C := RX0) (T := TX0) (N := 3) (n := 3) hts0 z_in_0 (hts0 (.instantiable RX0 3) (List.mem_of_getElem? (i := 414) (by decide +kernel)))
  obtain ⟨c1, iS1, hKn1⟩ := u_known (C := RX1) (T := TX1) (N := 4) (n := 4) hts0 z_in_1 (hts0 (.instantiable RX1 4) (List.mem_of_getElem? (i := 165) (by decide +kernel)))
  obtain ⟨c2, iS2, hKn2⟩ := u_known (C := RX2) (T := TX2) (N := 9) (n := 9) hts0 z_in_2 (hts0 (.instantiable RX2 9) (List.mem_of_getElem? (i := 189) (by decide +kernel)))
  obtain ⟨c3, iS3, hKn3⟩ := u_known (C := RX3) (T := TX3) (N := 3) (n := 3) hts0 z_in_3 (hts0 (.instantiable RX3 3) (List.mem_of_getElem? (i := 454) (by decide +kernel)))
  obtain ⟨c4, iS4, hKn4⟩ := u_known (C := RX4) (T := TX4) (N := 4) (n := 4) hts0 z_in_4 (hts0 (.instantiable RX4 4) (List.mem_of_getElem? (i := 240) (by decide +kernel)))
  obtain ⟨c5, iS5, hKn5⟩ := u_known (C := RX5) (T := TX5) (N := 19) (n := 19) hts0 z_in_5 (hts0 (.instantiable RX5 19) (List.mem_of_getElem? (i := 343) (by decide +kernel)))
  obtain ⟨c6, iS6, hKn6⟩ := u_known (C := RX6) (T := TX6) (N := 6) (n := 6) hts0 z_in_6 (hts0 (.instantiable RX6 6) (List.mem_of_getElem? (i := 130) (by decide +kernel)))
  obtain ⟨c7, iS7, hKn7⟩ := u_known (C := RX7) (T := TX7) (N := 12) (n := 12) hts0 z_in_7 (hts0 (.instantiable RX7 12) (List.mem_of_getElem? (i := 299) (by decide +kernel)))
  obtain ⟨c8, iS8, hKn8⟩ := u_known (C := RX8) (T := TX8) (N := 6) (n := 6) hts0 z_in_8 (hts0 (.instantiable RX8 6) (List.mem_of_getElem? (i := 136) (by decide +kernel)))
  obtain ⟨c9, iS9, hKn9⟩ := u_known (C := RX9) (T := TX9) (N := 5) (n := 5) hts0 z_in_9 (hts0 (.instantiable RX9 5) (List.mem_of_getElem? (i := 430) (by decide +kernel)))
  obtain ⟨c10, iS10, hKn10⟩ := u_known (C := RX10) (T := TX10) (N := 14) (n := 14) hts0 z_in_10 (hts0 (.instantiable RX10 14) (List.mem_of_getElem? (i := 122) (by decide +kernel)))
  obtain ⟨c11, iS11, hKn11⟩ := u_known (C := RX11) (T := TX11) (N := 30) (n := 30) hts0 z_in_11 (hts0 (.instantiable RX11 30) (List.mem_of_getElem? (i := 1198) (by decide +kernel)))
  obtain ⟨c12, iS12, hKn12⟩ := u_known (C := RX12) (T := TX12) (N := 10) (n := 10) hts0 z_in_12 (hts0 (.instantiable RX12 10) (List.mem_of_getElem? (i := 1352) (by decide +kernel)))
  obtain ⟨c13, iS13, hKn13⟩ := u_known (C := RX13) (T := TX13) (N := 8) (n := 8) hts0 z_in_13 (hts0 (.instantiable RX13 8) (List.mem_of_getElem? (i := 1323) (by decide +kernel)))
  obtain ⟨c14, iS14, hKn14⟩ := u_known (C := RX14) (T := TX14) (N := 40) (n := 40) hts0 z_in_14 (hts0 (.instantiable RX14 40) (List.mem_of_getElem? (i := 1192) (by decide +kernel)))
  obtain ⟨dC, dI, hKc⟩ : ∃ (dC : Nat → ClassId) (dI : Nat → Nat → Nat), ∀ (k : Nat) (q : vw_C), z_Cl[k]? = some q → u_Kn s q.1 q.2.1 q.2.2 (dC k) (dI k) := by
    refine ⟨fun k => [c0, c1, c2, c3, c4, c5, c6, c7, c8, c9, c10, c11, c12, c13, c14].getD k c0, fun k => [iS0, iS1, iS2, iS3, iS4, iS5, iS6, iS7, iS8, iS9, iS10, iS11, iS12, iS13, iS14].getD k iS0, ?_⟩
    intro k q hq
    match k, hq with
    | 0, hq => cases hq; exact hKn0
    | 1, hq => cases hq; exact hKn1
    | 2, hq => cases hq; exact hKn2
    | 3, hq => cases hq; exact hKn3
    | 4, hq => cases hq; exact hKn4
    | 5, hq => cases hq; exact hKn5
    | 6, hq => cases hq; exact hKn6
    | 7, hq => cases hq; exact hKn7
    | 8, hq => cases hq; exact hKn8
    | 9, hq => cases hq; exact hKn9
    | 10, hq => cases hq; exact hKn10
    | 11, hq => cases hq; exact hKn11
    | 12, hq => cases hq; exact hKn12
    | 13, hq => cases hq; exact hKn13
    | 14, hq => cases hq; exact hKn14
    | k + 15, hq => simp [z_Cl] at hq
  have hin_10 : ∀ w ∈ u_ws RX10 TX10 14, w ∈ z_wlaw := z_wlaw_10
  have hin_14 : ∀ w ∈ u_ws RX14 TX14 40, w ∈ z_wlaw := z_wlaw_14
  have hS : va_S A s.heap s.heap [] := va_S.rf
  have hK : va_K (dC, dI) z_Cl [] s := ⟨hKc, fun k q h => by simp at h⟩
  have hP : va_P (dC, dI) z_Cl [] s.heap := fun k q h => by simp at h
  have hD : va_D A [] := ⟨fun i j p q h => by simp at h, fun k q h => by simp at h⟩
  have hl := lv_entry ([.ref b]) (n := 7) (Nat.le_of_ble_eq_true rfl)
  rw [lg_entry_eq]
  generalize (lg_sl ([.ref b]) ++ List.replicate (7 - (lg_sl ([.ref b])).length) Slot.unset).toArray = ls at hl ⊢
  have hl : lv_has ls 7 [(0, .ref b)] := hl
  refine va_new (ci := 10) (fs := [.null, .int 0, .null, .null, .null, .null, .null, .null, .int 0, .null, .null, .null, .int 0, .int 0]) (C := RX10) (T := TX10) (N := 14) hx hb hts hin_10 tyX10 tyX10_ok hown (hts (.classLink RL 8 RX10) (List.mem_of_getElem? (i := 1) rfl)) (hts (.instantiable RX10 14) (List.mem_of_getElem? (i := 2) rfl)) (hts (.initialized RX10) (List.mem_of_getElem? (i := 3) rfl)) hK hP hD hS hA rfl (fun j hj => z_df10 j hj) (Nat.le_of_ble_eq_true rfl) (Nat.le_of_ble_eq_true rfl) dL_law_0 (fun q_1 H hP hD hS => ?_)
  have hP : va_P (dC, dI) z_Cl [(q_1, .inr (10, [.null, .int 0, .null, .null, .null, .null, .null, .null, .int 0, .null, .null, .null, .int 0, .int 0]))] H := hP
  have hD : va_D A [(q_1, .inr (10, [.null, .int 0, .null, .null, .null, .null, .null, .null, .int 0, .null, .null, .null, .int 0, .int 0]))] := hD
  refine W.widen (k := 1) (n := 14) (Nat.le_of_ble_eq_true rfl) (Nat.le_of_ble_eq_true rfl) ?_
  refine lv_dup hx hb dL_law_3 rfl ?_
  have hPc := hP.sub (ws' := [(q_1, .inr (10, [.null, .int 0, .null, .null, .null, .null, .null, .null, .int 0, .null, .null, .null, .int 0, .int 0]))]) [0] rfl
  have hDc := hD.sub (ws' := [(q_1, .inr (10, [.null, .int 0, .null, .null, .null, .null, .null, .null, .int 0, .null, .null, .null, .int 0, .int 0]))]) [0] (by decide) rfl
  have hKc := hK.sub (tys' := []) [] rfl
  have hFc := va_free (wc := [(q_1, .inr (10, [.null, .int 0, .null, .null, .null, .null, .null, .null, .int 0, .null, .null, .null, .int 0, .int 0]))]) hD hS hA [0] rfl
  refine va_callv (va_runI (As := []) (rest := [.ref q_1]) ⟨hx, hb, hml, hown, hts⟩ (c_X10_init l dC dI q_1 H.size) (cwI 0 hts z_start_zg_2 rfl rfl rfl (hts (.initialized RX10) (List.mem_of_getElem? (i := 3) rfl)) (hts (.methodLink RL 22 yX10_init) (List.mem_of_getElem? (i := 118) rfl)) (hts (.instanceMethod yX10_init) (List.mem_of_getElem? (i := 119) rfl)) rfl (by decide +kernel) ⟨(Nat.le_of_ble_eq_true rfl), (Nat.le_of_ble_eq_true rfl)⟩) ⟨z_blind, z_pre hPc hKc hDc hN⟩ rfl rfl hl.1 rfl (lv_room (Nat.le_of_ble_eq_true rfl)) dL_law_4 ⟨(Nat.le_of_ble_eq_true rfl), (Nat.le_of_ble_eq_true rfl)⟩) hS (fun q _ h => hFc q h) hFc (fun u t H1 locs ht hvm hw hB hz1 hk1 hS => ?_)
  obtain ⟨t_3, n_4, s_5, r_6, l_7, t_8, t_9, c_10, t_11, g_12, k_13, f_14, n_15, n_16, n_17, n_18, t_19, c_20, s_21, s_22, t_23, k_24, p_25, w_26, k_27, k_28, k_29, k_30, f_31, f_32, f_33, f_34, d_35, d_36, d_37, r_38, r_39, r_40, r_41, t_42, t_43, g_44, g_45, hP1, hK1, hD1⟩ := hB
  rw [ht] at hP1
  have hK1 := va_K.moved hvm.symm hK1
  obtain ⟨hP, hD⟩ := va_join (wr := []) (w1 := [(q_1, .inr (10, [.ref t_3, .int 0, .ref n_4, .ref s_5, .ref r_6, .ref l_7, .ref t_8, .ref t_9, .int 0, .ref c_10, .ref t_11, .ref g_12, .int 0, .int 0])), (t_3, .inl (k_13, 600, .inl f_14)), (n_4, .inr (6, [.ref n_15, .ref n_16, .ref n_17, .ref n_18, .int 0, .int 0])), (s_5, .inr (6, [.ref t_19, .ref c_20, .ref s_21, .ref s_22, .int 0, .int 0])), (t_19, .inr (8, [.ref t_23, .int 0, .ref k_24, .ref p_25, .ref w_26, .int 0])), (t_23, .inl (k_27, 600, .inl f_31)), (k_24, .inl (k_28, 601, .inl f_32)), (p_25, .inl (k_29, 601, .inl f_33)), (w_26, .inl (k_30, 601, .inl f_34)), (c_20, .inr (1, [.ref d_35, .ref d_36, .ref d_37, .int 0])), (r_6, .inr (7, [.int 0, .int 0, .int 0, .null, .null, .null, .int 0, .ref r_38, .ref r_39, .ref r_40, .ref r_41, .int 0])), (t_11, .inr (9, [.ref t_42, .ref t_43, .int 0, .int (-1), .int 0])), (g_12, .inr (3, [.ref g_44, .ref g_45, .int 0]))]) hP hD [0] [] rfl rfl (by decide) (by decide) hk1 hFc hP1 hD1
  have hK := (hK.sub (tys' := []) [] rfl).app hK1
  generalize H1 = H at hP hS ⊢
  have hP : va_P (dC, dI) z_Cl [(q_1, .inr (10, [.ref t_3, .int 0, .ref n_4, .ref s_5, .ref r_6, .ref l_7, .ref t_8, .ref t_9, .int 0, .ref c_10, .ref t_11, .ref g_12, .int 0, .int 0])), (t_3, .inl (k_13, 600, .inl f_14)), (n_4, .inr (6, [.ref n_15, .ref n_16, .ref n_17, .ref n_18, .int 0, .int 0])), (s_5, .inr (6, [.ref t_19, .ref c_20, .ref s_21, .ref s_22, .int 0, .int 0])), (t_19, .inr (8, [.ref t_23, .int 0, .ref k_24, .ref p_25, .ref w_26, .int 0])), (t_23, .inl (k_27, 600, .inl f_31)), (k_24, .inl (k_28, 601, .inl f_32)), (p_25, .inl (k_29, 601, .inl f_33)), (w_26, .inl (k_30, 601, .inl f_34)), (c_20, .inr (1, [.ref d_35, .ref d_36, .ref d_37, .int 0])), (r_6, .inr (7, [.int 0, .int 0, .int 0, .null, .null, .null, .int 0, .ref r_38, .ref r_39, .ref r_40, .ref r_41, .int 0])), (t_11, .inr (9, [.ref t_42, .ref t_43, .int 0, .int (-1), .int 0])), (g_12, .inr (3, [.ref g_44, .ref g_45, .int 0]))] H := hP
  have hD : va_D A [(q_1, .inr (10, [.ref t_3, .int 0, .ref n_4, .ref s_5, .ref r_6, .ref l_7, .ref t_8, .ref t_9, .int 0, .ref c_10, .ref t_11, .ref g_12, .int 0, .int 0])), (t_3, .inl (k_13, 600, .inl f_14)), (n_4, .inr (6, [.ref n_15, .ref n_16, .ref n_17, .ref n_18, .int 0, .int 0])), (s_5, .inr (6, [.ref t_19, .ref c_20, .ref s_21, .ref s_22, .int 0, .int 0])), (t_19, .inr (8, [.ref t_23, .int 0, .ref k_24, .ref p_25, .ref w_26, .int 0])), (t_23, .inl (k_27, 600, .inl f_31)), (k_24, .inl (k_28, 601, .inl f_32)), (p_25, .inl (k_29, 601, .inl f_33)), (w_26, .inl (k_30, 601, .inl f_34)), (c_20, .inr (1, [.ref d_35, .ref d_36, .ref d_37, .int 0])), (r_6, .inr (7, [.int 0, .int 0, .int 0, .null, .null, .null, .int 0, .ref r_38, .ref r_39, .ref r_40, .ref r_41, .int 0])), (t_11, .inr (9, [.ref t_42, .ref t_43, .int 0, .int (-1), .int 0])), (g_12, .inr (3, [.ref g_44, .ref g_45, .int 0]))] := hD
  have hK : va_K (dC, dI) z_Cl [(k_13, .byte), (k_27, .byte), (k_28, .int), (k_29, .int), (k_30, .int)] s := hK
  refine W.widen (k := 218) (n := 21330) (Nat.le_of_ble_eq_true rfl) (Nat.le_of_ble_eq_true rfl) ?_
  refine lv_astore_n (lv' := [(1, .ref q_1), (0, .ref b)]) hx hb dL_law_7 rfl hl (by decide) rfl (fun ls hl => ?_)
  refine va_new (ci := 14) (fs := [.int 0, .int 0, .int 0, .int 0, .null, .null, .null, .int 0, .int 0, .null, .null, .int 0, .int 0, .int 0, .int 0, .int 0, .int 0, .int 0, .int 0, .int 0, .int 0, .long 0, .null, .null, .int 0, .null, .int 0, .int 0, .int 0, .int 0, .null, .null, .int 0, .int 0, .null, .null, .null, .null, .null, .null]) (C := RX14) (T := TX14) (N := 40) hx hb hts hin_14 tyX14 tyX14_ok hown (hts (.classLink RL 23 RX14) (List.mem_of_getElem? (i := 120) rfl)) (hts (.instantiable RX14 40) (List.mem_of_getElem? (i := 121) rfl)) (hts (.initialized RX14) (List.mem_of_getElem? (i := 122) rfl)) hK hP hD hS hA rfl (fun j hj => z_df14 j hj) (Nat.le_of_ble_eq_true rfl) (Nat.le_of_ble_eq_true rfl) dL_law_8 (fun q_46 H hP hD hS => ?_)
  have hP : va_P (dC, dI) z_Cl [(q_1, .inr (10, [.ref t_3, .int 0, .ref n_4, .ref s_5, .ref r_6, .ref l_7, .ref t_8, .ref t_9, .int 0, .ref c_10, .ref t_11, .ref g_12, .int 0, .int 0])), (t_3, .inl (k_13, 600, .inl f_14)), (n_4, .inr (6, [.ref n_15, .ref n_16, .ref n_17, .ref n_18, .int 0, .int 0])), (s_5, .inr (6, [.ref t_19, .ref c_20, .ref s_21, .ref s_22, .int 0, .int 0])), (t_19, .inr (8, [.ref t_23, .int 0, .ref k_24, .ref p_25, .ref w_26, .int 0])), (t_23, .inl (k_27, 600, .inl f_31)), (k_24, .inl (k_28, 601, .inl f_32)), (p_25, .inl (k_29, 601, .inl f_33)), (w_26, .inl (k_30, 601, .inl f_34)), (c_20, .inr (1, [.ref d_35, .ref d_36, .ref d_37, .int 0])), (r_6, .inr (7, [.int 0, .int 0, .int 0, .null, .null, .null, .int 0, .ref r_38, .ref r_39, .ref r_40, .ref r_41, .int 0])), (t_11, .inr (9, [.ref t_42, .ref t_43, .int 0, .int (-1), .int 0])), (g_12, .inr (3, [.ref g_44, .ref g_45, .int 0])), (q_46, .inr (14, [.int 0, .int 0, .int 0, .int 0, .null, .null, .null, .int 0, .int 0, .null, .null, .int 0, .int 0, .int 0, .int 0, .int 0, .int 0, .int 0, .int 0, .int 0, .int 0, .long 0, .null, .null, .int 0, .null, .int 0, .int 0, .int 0, .int 0, .null, .null, .int 0, .int 0, .null, .null, .null, .null, .null, .null]))] H := hP
  have hD : va_D A [(q_1, .inr (10, [.ref t_3, .int 0, .ref n_4, .ref s_5, .ref r_6, .ref l_7, .ref t_8, .ref t_9, .int 0, .ref c_10, .ref t_11, .ref g_12, .int 0, .int 0])), (t_3, .inl (k_13, 600, .inl f_14)), (n_4, .inr (6, [.ref n_15, .ref n_16, .ref n_17, .ref n_18, .int 0, .int 0])), (s_5, .inr (6, [.ref t_19, .ref c_20, .ref s_21, .ref s_22, .int 0, .int 0])), (t_19, .inr (8, [.ref t_23, .int 0, .ref k_24, .ref p_25, .ref w_26, .int 0])), (t_23, .inl (k_27, 600, .inl f_31)), (k_24, .inl (k_28, 601, .inl f_32)), (p_25, .inl (k_29, 601, .inl f_33)), (w_26, .inl (k_30, 601, .inl f_34)), (c_20, .inr (1, [.ref d_35, .ref d_36, .ref d_37, .int 0])), (r_6, .inr (7, [.int 0, .int 0, .int 0, .null, .null, .null, .int 0, .ref r_38, .ref r_39, .ref r_40, .ref r_41, .int 0])), (t_11, .inr (9, [.ref t_42, .ref t_43, .int 0, .int (-1), .int 0])), (g_12, .inr (3, [.ref g_44, .ref g_45, .int 0])), (q_46, .inr (14, [.int 0, .int 0, .int 0, .int 0, .null, .null, .null, .int 0, .int 0, .null, .null, .int 0, .int 0, .int 0, .int 0, .int 0, .int 0, .int 0, .int 0, .int 0, .int 0, .long 0, .null, .null, .int 0, .null, .int 0, .int 0, .int 0, .int 0, .null, .null, .int 0, .int 0, .null, .null, .null, .null, .null, .null]))] := hD
  refine W.widen (k := 219) (n := 21370) (Nat.le_of_ble_eq_true rfl) (Nat.le_of_ble_eq_true rfl) ?_
  refine lv_dup hx hb dL_law_11 rfl ?_
  have hPc := hP.sub (ws' := [(q_46, .inr (14, [.int 0, .int 0, .int 0, .int 0, .null, .null, .null, .int 0, .int 0, .null, .null, .int 0, .int 0, .int 0, .int 0, .int 0, .int 0, .int 0, .int 0, .int 0, .int 0, .long 0, .null, .null, .int 0, .null, .int 0, .int 0, .int 0, .int 0, .null, .null, .int 0, .int 0, .null, .null, .null, .null, .null, .null]))]) [13] rfl
  have hDc := hD.sub (ws' := [(q_46, .inr (14, [.int 0, .int 0, .int 0, .int 0, .null, .null, .null, .int 0, .int 0, .null, .null, .int 0, .int 0, .int 0, .int 0, .int 0, .int 0, .int 0, .int 0, .int 0, .int 0, .long 0, .null, .null, .int 0, .null, .int 0, .int 0, .int 0, .int 0, .null, .null, .int 0, .int 0, .null, .null, .null, .null, .null, .null]))]) [13] (by decide) rfl
  have hKc := hK.sub (tys' := []) [] rfl
  have hFc := va_free (wc := [(q_46, .inr (14, [.int 0, .int 0, .int 0, .int 0, .null, .null, .null, .int 0, .int 0, .null, .null, .int 0, .int 0, .int 0, .int 0, .int 0, .int 0, .int 0, .int 0, .int 0, .int 0, .long 0, .null, .null, .int 0, .null, .int 0, .int 0, .int 0, .int 0, .null, .null, .int 0, .int 0, .null, .null, .null, .null, .null, .null]))]) hD hS hA [13] rfl
  refine va_callv (va_runI (As := []) (rest := [.ref q_46]) ⟨hx, hb, hml, hown, hts⟩ (c_X14_init l dC dI q_46 H.size) (cwI 0 hts z_start_zg_47 rfl rfl rfl (hts (.initialized RX14) (List.mem_of_getElem? (i := 122) rfl)) (hts (.methodLink RL 25 yX14_init) (List.mem_of_getElem? (i := 208) rfl)) (hts (.instanceMethod yX14_init) (List.mem_of_getElem? (i := 209) rfl)) rfl (by decide +kernel) ⟨(Nat.le_of_ble_eq_true rfl), (Nat.le_of_ble_eq_true rfl)⟩) ⟨z_blind2, z_pre2 hPc hKc hDc hN hZ hS hFc⟩ rfl rfl hl.1 rfl (lv_room (Nat.le_of_ble_eq_true rfl)) dL_law_12 ⟨(Nat.le_of_ble_eq_true rfl), (Nat.le_of_ble_eq_true rfl)⟩) hS (fun q _ h => hFc q h) hFc (fun u t H1 locs ht hvm hw hB hz1 hk1 hS => ?_)
  obtain ⟨m_48, m_49, m_50, m_51, m_52, m_53, m_54, m_55, m_56, m_57, m_58, m_59, m_60, m_61, m_62, m_63, k_64, f_65, b_66, b_67, b_68, b_69, b_70, b_71, b_72, b_73, b_74, b_75, b_76, b_77, b_78, b_79, b_80, b_81, b_82, b_83, b_84, b_85, b_86, b_87, b_88, b_89, b_90, b_91, hP1, hK1, hD1⟩ := hB
  rw [ht] at hP1
  have hK1 := va_K.moved hvm.symm hK1
  obtain ⟨hP, hD⟩ := va_join (wr := [(q_1, .inr (10, [.ref t_3, .int 0, .ref n_4, .ref s_5, .ref r_6, .ref l_7, .ref t_8, .ref t_9, .int 0, .ref c_10, .ref t_11, .ref g_12, .int 0, .int 0])), (t_3, .inl (k_13, 600, .inl f_14)), (n_4, .inr (6, [.ref n_15, .ref n_16, .ref n_17, .ref n_18, .int 0, .int 0])), (s_5, .inr (6, [.ref t_19, .ref c_20, .ref s_21, .ref s_22, .int 0, .int 0])), (t_19, .inr (8, [.ref t_23, .int 0, .ref k_24, .ref p_25, .ref w_26, .int 0])), (t_23, .inl (k_27, 600, .inl f_31)), (k_24, .inl (k_28, 601, .inl f_32)), (p_25, .inl (k_29, 601, .inl f_33)), (w_26, .inl (k_30, 601, .inl f_34)), (c_20, .inr (1, [.ref d_35, .ref d_36, .ref d_37, .int 0])), (r_6, .inr (7, [.int 0, .int 0, .int 0, .null, .null, .null, .int 0, .ref r_38, .ref r_39, .ref r_40, .ref r_41, .int 0])), (t_11, .inr (9, [.ref t_42, .ref t_43, .int 0, .int (-1), .int 0])), (g_12, .inr (3, [.ref g_44, .ref g_45, .int 0]))]) (w1 := [(q_46, .inr (14, [.int 0, .int 0, .int (-1), .int 0, .ref m_48, .ref m_49, .ref m_50, .int 0, .int 0, .ref m_51, .ref m_52, .int 0, .int 0, .int 0, .int 0, .int 0, .int 0, .int 0, .int 0, .int 0, .int 0, .long 0, .ref m_53, .ref m_54, .int 0, .ref m_55, .int 0, .int 0, .int 0, .int 0, .ref m_56, .ref m_57, .int 0, .int 0, .ref m_58, .ref m_59, .ref m_60, .ref m_61, .ref m_62, .ref m_63])), (m_52, .inl (k_64, 600, .inl f_65)), (m_50, .inr (11, [.int 0, .int 0, .int 0, .int 0, .ref b_66, .ref b_67, .ref b_68, .ref b_69, .ref b_70, .ref b_71, .ref b_72, .ref b_73, .ref b_74, .ref b_75, .ref b_76, .ref b_77, .ref b_78, .ref b_79, .ref b_80, .ref b_81, .ref b_82, .ref b_83, .ref b_84, .ref b_85, .ref b_86, .ref b_87, .ref b_88, .ref b_89, .ref b_90, .ref b_91])), (m_51, .inr (13, [.null, .null, .null, .null, .null, .int 0, .int 0, .int 0]))]) hP hD [13] [0, 1, 2, 3, 4, 5, 6, 7, 8, 9, 10, 11, 12] rfl rfl (by decide) (by decide) hk1 hFc hP1 hD1
  have hK := (hK.sub (tys' := [(k_13, .byte), (k_27, .byte), (k_28, .int), (k_29, .int), (k_30, .int)]) [0, 1, 2, 3, 4] rfl).app hK1
  generalize H1 = H at hP hS ⊢
  have hP : va_P (dC, dI) z_Cl [(q_1, .inr (10, [.ref t_3, .int 0, .ref n_4, .ref s_5, .ref r_6, .ref l_7, .ref t_8, .ref t_9, .int 0, .ref c_10, .ref t_11, .ref g_12, .int 0, .int 0])), (t_3, .inl (k_13, 600, .inl f_14)), (n_4, .inr (6, [.ref n_15, .ref n_16, .ref n_17, .ref n_18, .int 0, .int 0])), (s_5, .inr (6, [.ref t_19, .ref c_20, .ref s_21, .ref s_22, .int 0, .int 0])), (t_19, .inr (8, [.ref t_23, .int 0, .ref k_24, .ref p_25, .ref w_26, .int 0])), (t_23, .inl (k_27, 600, .inl f_31)), (k_24, .inl (k_28, 601, .inl f_32)), (p_25, .inl (k_29, 601, .inl f_33)), (w_26, .inl (k_30, 601, .inl f_34)), (c_20, .inr (1, [.ref d_35, .ref d_36, .ref d_37, .int 0])), (r_6, .inr (7, [.int 0, .int 0, .int 0, .null, .null, .null, .int 0, .ref r_38, .ref r_39, .ref r_40, .ref r_41, .int 0])), (t_11, .inr (9, [.ref t_42, .ref t_43, .int 0, .int (-1), .int 0])), (g_12, .inr (3, [.ref g_44, .ref g_45, .int 0])), (q_46, .inr (14, [.int 0, .int 0, .int (-1), .int 0, .ref m_48, .ref m_49, .ref m_50, .int 0, .int 0, .ref m_51, .ref m_52, .int 0, .int 0, .int 0, .int 0, .int 0, .int 0, .int 0, .int 0, .int 0, .int 0, .long 0, .ref m_53, .ref m_54, .int 0, .ref m_55, .int 0, .int 0, .int 0, .int 0, .ref m_56, .ref m_57, .int 0, .int 0, .ref m_58, .ref m_59, .ref m_60, .ref m_61, .ref m_62, .ref m_63])), (m_52, .inl (k_64, 600, .inl f_65)), (m_50, .inr (11, [.int 0, .int 0, .int 0, .int 0, .ref b_66, .ref b_67, .ref b_68, .ref b_69, .ref b_70, .ref b_71, .ref b_72, .ref b_73, .ref b_74, .ref b_75, .ref b_76, .ref b_77, .ref b_78, .ref b_79, .ref b_80, .ref b_81, .ref b_82, .ref b_83, .ref b_84, .ref b_85, .ref b_86, .ref b_87, .ref b_88, .ref b_89, .ref b_90, .ref b_91])), (m_51, .inr (13, [.null, .null, .null, .null, .null, .int 0, .int 0, .int 0]))] H := hP
  have hD : va_D A [(q_1, .inr (10, [.ref t_3, .int 0, .ref n_4, .ref s_5, .ref r_6, .ref l_7, .ref t_8, .ref t_9, .int 0, .ref c_10, .ref t_11, .ref g_12, .int 0, .int 0])), (t_3, .inl (k_13, 600, .inl f_14)), (n_4, .inr (6, [.ref n_15, .ref n_16, .ref n_17, .ref n_18, .int 0, .int 0])), (s_5, .inr (6, [.ref t_19, .ref c_20, .ref s_21, .ref s_22, .int 0, .int 0])), (t_19, .inr (8, [.ref t_23, .int 0, .ref k_24, .ref p_25, .ref w_26, .int 0])), (t_23, .inl (k_27, 600, .inl f_31)), (k_24, .inl (k_28, 601, .inl f_32)), (p_25, .inl (k_29, 601, .inl f_33)), (w_26, .inl (k_30, 601, .inl f_34)), (c_20, .inr (1, [.ref d_35, .ref d_36, .ref d_37, .int 0])), (r_6, .inr (7, [.int 0, .int 0, .int 0, .null, .null, .null, .int 0, .ref r_38, .ref r_39, .ref r_40, .ref r_41, .int 0])), (t_11, .inr (9, [.ref t_42, .ref t_43, .int 0, .int (-1), .int 0])), (g_12, .inr (3, [.ref g_44, .ref g_45, .int 0])), (q_46, .inr (14, [.int 0, .int 0, .int (-1), .int 0, .ref m_48, .ref m_49, .ref m_50, .int 0, .int 0, .ref m_51, .ref m_52, .int 0, .int 0, .int 0, .int 0, .int 0, .int 0, .int 0, .int 0, .int 0, .int 0, .long 0, .ref m_53, .ref m_54, .int 0, .ref m_55, .int 0, .int 0, .int 0, .int 0, .ref m_56, .ref m_57, .int 0, .int 0, .ref m_58, .ref m_59, .ref m_60, .ref m_61, .ref m_62, .ref m_63])), (m_52, .inl (k_64, 600, .inl f_65)), (m_50, .inr (11, [.int 0, .int 0, .int 0, .int 0, .ref b_66, .ref b_67, .ref b_68, .ref b_69, .ref b_70, .ref b_71, .ref b_72, .ref b_73, .ref b_74, .ref b_75, .ref b_76, .ref b_77, .ref b_78, .ref b_79, .ref b_80, .ref b_81, .ref b_82, .ref b_83, .ref b_84, .ref b_85, .ref b_86, .ref b_87, .ref b_88, .ref b_89, .ref b_90, .ref b_91])), (m_51, .inr (13, [.null, .null, .null, .null, .null, .int 0, .int 0, .int 0]))] := hD
  have hK : va_K (dC, dI) z_Cl [(k_13, .byte), (k_27, .byte), (k_28, .int), (k_29, .int), (k_30, .int), (k_64, .byte)] s := hK
  refine W.widen (k := 319) (n := 43905) (Nat.le_of_ble_eq_true rfl) (Nat.le_of_ble_eq_true rfl) ?_
  refine lv_astore_n (lv' := [(2, .ref q_46), (1, .ref q_1), (0, .ref b)]) hx hb dL_law_15 rfl hl (by decide) rfl (fun ls hl => ?_)
  refine lv_iconst (v := 1) hx hb dL_law_16 (by decide) ?_
  refine va_newa (atype := .long) (ty := .long) (N' := 1) (a0 := (1, .inr (.inl (fun _ => 0)))) hx hb (hts (.arrayClass .long) (List.mem_of_getElem? (i := 99) rfl)) rfl hK hP hD hS hA (fun _ => rfl) (by decide) (by decide) (Nat.le_of_ble_eq_true rfl) (Nat.le_of_ble_eq_true rfl) (Nat.le_of_ble_eq_true rfl) dL_law_17 (fun q_92 cA_93 H hK hP hD hS => ?_)
  have hK : va_K (dC, dI) z_Cl [(k_13, .byte), (k_27, .byte), (k_28, .int), (k_29, .int), (k_30, .int), (k_64, .byte), (cA_93, .long)] s := hK
  have hP : va_P (dC, dI) z_Cl [(q_1, .inr (10, [.ref t_3, .int 0, .ref n_4, .ref s_5, .ref r_6, .ref l_7, .ref t_8, .ref t_9, .int 0, .ref c_10, .ref t_11, .ref g_12, .int 0, .int 0])), (t_3, .inl (k_13, 600, .inl f_14)), (n_4, .inr (6, [.ref n_15, .ref n_16, .ref n_17, .ref n_18, .int 0, .int 0])), (s_5, .inr (6, [.ref t_19, .ref c_20, .ref s_21, .ref s_22, .int 0, .int 0])), (t_19, .inr (8, [.ref t_23, .int 0, .ref k_24, .ref p_25, .ref w_26, .int 0])), (t_23, .inl (k_27, 600, .inl f_31)), (k_24, .inl (k_28, 601, .inl f_32)), (p_25, .inl (k_29, 601, .inl f_33)), (w_26, .inl (k_30, 601, .inl f_34)), (c_20, .inr (1, [.ref d_35, .ref d_36, .ref d_37, .int 0])), (r_6, .inr (7, [.int 0, .int 0, .int 0, .null, .null, .null, .int 0, .ref r_38, .ref r_39, .ref r_40, .ref r_41, .int 0])), (t_11, .inr (9, [.ref t_42, .ref t_43, .int 0, .int (-1), .int 0])), (g_12, .inr (3, [.ref g_44, .ref g_45, .int 0])), (q_46, .inr (14, [.int 0, .int 0, .int (-1), .int 0, .ref m_48, .ref m_49, .ref m_50, .int 0, .int 0, .ref m_51, .ref m_52, .int 0, .int 0, .int 0, .int 0, .int 0, .int 0, .int 0, .int 0, .int 0, .int 0, .long 0, .ref m_53, .ref m_54, .int 0, .ref m_55, .int 0, .int 0, .int 0, .int 0, .ref m_56, .ref m_57, .int 0, .int 0, .ref m_58, .ref m_59, .ref m_60, .ref m_61, .ref m_62, .ref m_63])), (m_52, .inl (k_64, 600, .inl f_65)), (m_50, .inr (11, [.int 0, .int 0, .int 0, .int 0, .ref b_66, .ref b_67, .ref b_68, .ref b_69, .ref b_70, .ref b_71, .ref b_72, .ref b_73, .ref b_74, .ref b_75, .ref b_76, .ref b_77, .ref b_78, .ref b_79, .ref b_80, .ref b_81, .ref b_82, .ref b_83, .ref b_84, .ref b_85, .ref b_86, .ref b_87, .ref b_88, .ref b_89, .ref b_90, .ref b_91])), (m_51, .inr (13, [.null, .null, .null, .null, .null, .int 0, .int 0, .int 0])), (q_92, .inl (cA_93, 1, .inr (.inl (fun _ => 0))))] H := hP
  have hD : va_D A [(q_1, .inr (10, [.ref t_3, .int 0, .ref n_4, .ref s_5, .ref r_6, .ref l_7, .ref t_8, .ref t_9, .int 0, .ref c_10, .ref t_11, .ref g_12, .int 0, .int 0])), (t_3, .inl (k_13, 600, .inl f_14)), (n_4, .inr (6, [.ref n_15, .ref n_16, .ref n_17, .ref n_18, .int 0, .int 0])), (s_5, .inr (6, [.ref t_19, .ref c_20, .ref s_21, .ref s_22, .int 0, .int 0])), (t_19, .inr (8, [.ref t_23, .int 0, .ref k_24, .ref p_25, .ref w_26, .int 0])), (t_23, .inl (k_27, 600, .inl f_31)), (k_24, .inl (k_28, 601, .inl f_32)), (p_25, .inl (k_29, 601, .inl f_33)), (w_26, .inl (k_30, 601, .inl f_34)), (c_20, .inr (1, [.ref d_35, .ref d_36, .ref d_37, .int 0])), (r_6, .inr (7, [.int 0, .int 0, .int 0, .null, .null, .null, .int 0, .ref r_38, .ref r_39, .ref r_40, .ref r_41, .int 0])), (t_11, .inr (9, [.ref t_42, .ref t_43, .int 0, .int (-1), .int 0])), (g_12, .inr (3, [.ref g_44, .ref g_45, .int 0])), (q_46, .inr (14, [.int 0, .int 0, .int (-1), .int 0, .ref m_48, .ref m_49, .ref m_50, .int 0, .int 0, .ref m_51, .ref m_52, .int 0, .int 0, .int 0, .int 0, .int 0, .int 0, .int 0, .int 0, .int 0, .int 0, .long 0, .ref m_53, .ref m_54, .int 0, .ref m_55, .int 0, .int 0, .int 0, .int 0, .ref m_56, .ref m_57, .int 0, .int 0, .ref m_58, .ref m_59, .ref m_60, .ref m_61, .ref m_62, .ref m_63])), (m_52, .inl (k_64, 600, .inl f_65)), (m_50, .inr (11, [.int 0, .int 0, .int 0, .int 0, .ref b_66, .ref b_67, .ref b_68, .ref b_69, .ref b_70, .ref b_71, .ref b_72, .ref b_73, .ref b_74, .ref b_75, .ref b_76, .ref b_77, .ref b_78, .ref b_79, .ref b_80, .ref b_81, .ref b_82, .ref b_83, .ref b_84, .ref b_85, .ref b_86, .ref b_87, .ref b_88, .ref b_89, .ref b_90, .ref b_91])), (m_51, .inr (13, [.null, .null, .null, .null, .null, .int 0, .int 0, .int 0])), (q_92, .inl (cA_93, 1, .inr (.inl (fun _ => 0))))] := hD
  refine W.widen (k := 320) (n := 43906) (Nat.le_of_ble_eq_true rfl) (Nat.le_of_ble_eq_true rfl) ?_
  refine lv_astore_n (lv' := [(3, .ref q_92), (2, .ref q_46), (1, .ref q_1), (0, .ref b)]) hx hb dL_law_19 rfl hl (by decide) rfl (fun ls hl => ?_)
  refine lv_iconst (v := 0) hx hb dL_law_20 (by decide) ?_
  refine lv_istore (lv' := [(4, .int 0), (3, .ref q_92), (2, .ref q_46), (1, .ref q_1), (0, .ref b)]) hx hb dL_law_21 hl (by decide) rfl (fun ls hl => ?_)
  have hP9 := hP.sub (ws' := [(q_1, .inr (10, [.ref t_3, .int 0, .ref n_4, .ref s_5, .ref r_6, .ref l_7, .ref t_8, .ref t_9, .int 0, .ref c_10, .ref t_11, .ref g_12, .int 0, .int 0])), (t_3, .inl (k_13, 600, .inl f_14)), (n_4, .inr (6, [.ref n_15, .ref n_16, .ref n_17, .ref n_18, .int 0, .int 0])), (s_5, .inr (6, [.ref t_19, .ref c_20, .ref s_21, .ref s_22, .int 0, .int 0])), (t_19, .inr (8, [.ref t_23, .int 0, .ref k_24, .ref p_25, .ref w_26, .int 0])), (t_23, .inl (k_27, 600, .inl f_31)), (k_24, .inl (k_28, 601, .inl f_32)), (p_25, .inl (k_29, 601, .inl f_33)), (w_26, .inl (k_30, 601, .inl f_34)), (c_20, .inr (1, [.ref d_35, .ref d_36, .ref d_37, .int 0])), (r_6, .inr (7, [.int 0, .int 0, .int 0, .null, .null, .null, .int 0, .ref r_38, .ref r_39, .ref r_40, .ref r_41, .int 0])), (t_11, .inr (9, [.ref t_42, .ref t_43, .int 0, .int (-1), .int 0])), (g_12, .inr (3, [.ref g_44, .ref g_45, .int 0])), (q_46, .inr (14, [.int 0, .int 0, .int (-1), .int 0, .ref m_48, .ref m_49, .ref m_50, .int 0, .int 0, .ref m_51, .ref m_52, .int 0, .int 0, .int 0, .int 0, .int 0, .int 0, .int 0, .int 0, .int 0, .int 0, .long 0, .ref m_53, .ref m_54, .int 0, .ref m_55, .int 0, .int 0, .int 0, .int 0, .ref m_56, .ref m_57, .int 0, .int 0, .ref m_58, .ref m_59, .ref m_60, .ref m_61, .ref m_62, .ref m_63])), (m_52, .inl (k_64, 600, .inl f_65)), (m_50, .inr (11, [.int 0, .int 0, .int 0, .int 0, .ref b_66, .ref b_67, .ref b_68, .ref b_69, .ref b_70, .ref b_71, .ref b_72, .ref b_73, .ref b_74, .ref b_75, .ref b_76, .ref b_77, .ref b_78, .ref b_79, .ref b_80, .ref b_81, .ref b_82, .ref b_83, .ref b_84, .ref b_85, .ref b_86, .ref b_87, .ref b_88, .ref b_89, .ref b_90, .ref b_91])), (m_51, .inr (13, [.null, .null, .null, .null, .null, .int 0, .int 0, .int 0]))]) [0, 1, 2, 3, 4, 5, 6, 7, 8, 9, 10, 11, 12, 13, 14, 15, 16] rfl
  have hD9 := hD.sub (ws' := [(q_1, .inr (10, [.ref t_3, .int 0, .ref n_4, .ref s_5, .ref r_6, .ref l_7, .ref t_8, .ref t_9, .int 0, .ref c_10, .ref t_11, .ref g_12, .int 0, .int 0])), (t_3, .inl (k_13, 600, .inl f_14)), (n_4, .inr (6, [.ref n_15, .ref n_16, .ref n_17, .ref n_18, .int 0, .int 0])), (s_5, .inr (6, [.ref t_19, .ref c_20, .ref s_21, .ref s_22, .int 0, .int 0])), (t_19, .inr (8, [.ref t_23, .int 0, .ref k_24, .ref p_25, .ref w_26, .int 0])), (t_23, .inl (k_27, 600, .inl f_31)), (k_24, .inl (k_28, 601, .inl f_32)), (p_25, .inl (k_29, 601, .inl f_33)), (w_26, .inl (k_30, 601, .inl f_34)), (c_20, .inr (1, [.ref d_35, .ref d_36, .ref d_37, .int 0])), (r_6, .inr (7, [.int 0, .int 0, .int 0, .null, .null, .null, .int 0, .ref r_38, .ref r_39, .ref r_40, .ref r_41, .int 0])), (t_11, .inr (9, [.ref t_42, .ref t_43, .int 0, .int (-1), .int 0])), (g_12, .inr (3, [.ref g_44, .ref g_45, .int 0])), (q_46, .inr (14, [.int 0, .int 0, .int (-1), .int 0, .ref m_48, .ref m_49, .ref m_50, .int 0, .int 0, .ref m_51, .ref m_52, .int 0, .int 0, .int 0, .int 0, .int 0, .int 0, .int 0, .int 0, .int 0, .int 0, .long 0, .ref m_53, .ref m_54, .int 0, .ref m_55, .int 0, .int 0, .int 0, .int 0, .ref m_56, .ref m_57, .int 0, .int 0, .ref m_58, .ref m_59, .ref m_60, .ref m_61, .ref m_62, .ref m_63])), (m_52, .inl (k_64, 600, .inl f_65)), (m_50, .inr (11, [.int 0, .int 0, .int 0, .int 0, .ref b_66, .ref b_67, .ref b_68, .ref b_69, .ref b_70, .ref b_71, .ref b_72, .ref b_73, .ref b_74, .ref b_75, .ref b_76, .ref b_77, .ref b_78, .ref b_79, .ref b_80, .ref b_81, .ref b_82, .ref b_83, .ref b_84, .ref b_85, .ref b_86, .ref b_87, .ref b_88, .ref b_89, .ref b_90, .ref b_91])), (m_51, .inr (13, [.null, .null, .null, .null, .null, .int 0, .int 0, .int 0]))]) [0, 1, 2, 3, 4, 5, 6, 7, 8, 9, 10, 11, 12, 13, 14, 15, 16] (by decide) rfl
  have hK9 := hK.sub (tys' := [(k_13, .byte), (k_27, .byte), (k_28, .int), (k_29, .int), (k_30, .int), (k_64, .byte)]) [0, 1, 2, 3, 4, 5] rfl
  have hl9 := lv_sub (l' := [(4, .int 0), (3, .ref q_92), (2, .ref q_46), (1, .ref q_1), (0, .ref b)]) hl [0, 1, 2, 3, 4] rfl
  refine lv_iload hx hb dL_law_23 (lv_at hl9 0 rfl) ?_
  refine lv_aload_n hx hb dL_law_25 rfl (lv_at hl9 4 rfl) ?_
  refine va_slen hx hb hX hbl hbA hS dL_law_26 ?_
  refine lv_bipush (v := 6) hx hb dL_law_27 (by decide) ?_
  refine lv_isub hx hb dL_law_29 ?_
  rcases Nat.lt_or_ge L 6 with hlt | hge
  · refine lv_icmp_gt (tgt := 1060) hx hb dL_law_30 (by decide) (fun _ => ?_) (fun h9 => absurd (z_lt6 L hlt) h9)
    refine lv_iconst (v := 1) hx hb dL_law_1060 (by decide) ?_
    refine va_forget (fun q hq => by have h9 := hS.2.2 q hq; rw [hAe] at h9; exact h9) ?_
    refine W.widen (k := 600002) (n := 7302231) (Nat.le_of_ble_eq_true rfl) (Nat.le_of_ble_eq_true rfl) ?_
    exact lw_ret hx hb hr hlocks dL_law_1061
  · obtain rfl : L = 6 := by omega
    refine lv_icmp_gt (tgt := 1060) hx hb dL_law_30 (by decide) (fun h9 => absurd h9 (by decide)) (fun _ => ?_)
    refine lv_aload_n hx hb dL_law_33 rfl (lv_at hl9 4 rfl) ?_
    refine lv_iload hx hb dL_law_34 (lv_at hl9 0 rfl) ?_
    refine va_sld hx hb hX hbl hbA hS (i := 0) (z_io (by decide)) dL_law_36 ?_
    refine lv_topi (fun x0 ex0 => ?_)
    refine lv_bipush (v := 31) hx hb dL_law_37 (by decide) ?_
    refine lv_iand hx hb dL_law_39 ?_
    refine lv_topi (fun y0 ey0 => ?_)
    obtain ⟨j0, hj0, ej0⟩ := pk_andE x0 (m := 31) 5 (by decide)
    have hy0 : y0 = nI j0 := ey0.trans ej0
    clear ey0 ej0
    have hj0 : j0 < 32 := hj0
    rcases z_32 hj0 with rfl | rfl | rfl | rfl | rfl | rfl | rfl | rfl | rfl | rfl | rfl | rfl | rfl | rfl | rfl | rfl | rfl | rfl | rfl | rfl | rfl | rfl | rfl | rfl | rfl | rfl | rfl | rfl | rfl | rfl | rfl | rfl
    · have h9 : y0 = (0 : Int32) := hy0.trans (by decide)
      subst h9
      refine lv_tableIn (off := 116) (tgt := 156) hx hb dL_law_40 (by decide) (by decide) rfl (by decide) ?_
      exact law_case_0 dC dI hst C0 rfl hAe hN hZ hK9 hP9 hD9 hS hl9
    · have h9 : y0 = (1 : Int32) := hy0.trans (by decide)
      subst h9
      refine lv_tableIn (off := 189) (tgt := 229) hx hb dL_law_40 (by decide) (by decide) rfl (by decide) ?_
      exact law_case_1 dC dI hst C0 rfl hAe hN hZ hK9 hP9 hD9 hS hl9
    · have h9 : y0 = (2 : Int32) := hy0.trans (by decide)
      subst h9
      refine lv_tableIn (off := 214) (tgt := 254) hx hb dL_law_40 (by decide) (by decide) rfl (by decide) ?_
      exact law_case_2 dC dI hst C0 rfl hAe hN hZ hK9 hP9 hD9 hS hl9
    · have h9 : y0 = (3 : Int32) := hy0.trans (by decide)
      subst h9
      refine lv_tableIn (off := 227) (tgt := 267) hx hb dL_law_40 (by decide) (by decide) rfl (by decide) ?_
      exact law_case_3 dC dI hst C0 rfl hAe hN hZ hK9 hP9 hD9 hS hl9
    · have h9 : y0 = (4 : Int32) := hy0.trans (by decide)
      subst h9
      refine lv_tableIn (off := 240) (tgt := 280) hx hb dL_law_40 (by decide) (by decide) rfl (by decide) ?_
      exact law_case_4 dC dI hst C0 rfl hAe hN hZ hK9 hP9 hD9 hS hl9
    · have h9 : y0 = (5 : Int32) := hy0.trans (by decide)
      subst h9
      refine lv_tableIn (off := 277) (tgt := 317) hx hb dL_law_40 (by decide) (by decide) rfl (by decide) ?_
      exact law_case_5 dC dI hst C0 rfl hAe hN hZ hK9 hP9 hD9 hS hl9
    · have h9 : y0 = (6 : Int32) := hy0.trans (by decide)
      subst h9
      refine lv_tableIn (off := 345) (tgt := 385) hx hb dL_law_40 (by decide) (by decide) rfl (by decide) ?_
      exact law_case_6 dC dI hst C0 rfl hAe hN hZ hK9 hP9 hD9 hS hl9
    · have h9 : y0 = (7 : Int32) := hy0.trans (by decide)
      subst h9
      refine lv_tableIn (off := 382) (tgt := 422) hx hb dL_law_40 (by decide) (by decide) rfl (by decide) ?_
      exact law_case_7 dC dI hst C0 rfl hAe hN hZ hK9 hP9 hD9 hS hl9
    · have h9 : y0 = (8 : Int32) := hy0.trans (by decide)
      subst h9
      refine lv_tableIn (off := 455) (tgt := 495) hx hb dL_law_40 (by decide) (by decide) rfl (by decide) ?_
      exact law_case_8 dC dI hst C0 rfl hAe hN hZ hK9 hP9 hD9 hS hl9
    · have h9 : y0 = (9 : Int32) := hy0.trans (by decide)
      subst h9
      refine lv_tableIn (off := 480) (tgt := 520) hx hb dL_law_40 (by decide) (by decide) rfl (by decide) ?_
      exact law_case_9 dC dI hst C0 rfl hAe hN hZ hK9 hP9 hD9 hS hl9
    · have h9 : y0 = (10 : Int32) := hy0.trans (by decide)
      subst h9
      refine lv_tableIn (off := 536) (tgt := 576) hx hb dL_law_40 (by decide) (by decide) rfl (by decide) ?_
      exact law_case_10 dC dI hst C0 rfl hAe hN hZ hK9 hP9 hD9 hS hl9
    · have h9 : y0 = (11 : Int32) := hy0.trans (by decide)
      subst h9
      refine lv_tableIn (off := 604) (tgt := 644) hx hb dL_law_40 (by decide) (by decide) rfl (by decide) ?_
      exact law_case_11 dC dI hst C0 rfl hAe hN hZ hK9 hP9 hD9 hS hl9
    · have h9 : y0 = (12 : Int32) := hy0.trans (by decide)
      subst h9
      refine lv_tableIn (off := 629) (tgt := 669) hx hb dL_law_40 (by decide) (by decide) rfl (by decide) ?_
      exact law_case_12 dC dI hst C0 rfl hAe hN hZ hK9 hP9 hD9 hS hl9
    · have h9 : y0 = (13 : Int32) := hy0.trans (by decide)
      subst h9
      refine lv_tableIn (off := 654) (tgt := 694) hx hb dL_law_40 (by decide) (by decide) rfl (by decide) ?_
      exact law_case_13 dC dI hst C0 rfl hAe hN hZ hK9 hP9 hD9 hS hl9
    · have h9 : y0 = (14 : Int32) := hy0.trans (by decide)
      subst h9
      refine lv_tableIn (off := 727) (tgt := 767) hx hb dL_law_40 (by decide) (by decide) rfl (by decide) ?_
      exact law_case_14 dC dI hst C0 rfl hAe hN hZ hK9 hP9 hD9 hS hl9
    · have h9 : y0 = (15 : Int32) := hy0.trans (by decide)
      subst h9
      refine lv_tableIn (off := 788) (tgt := 828) hx hb dL_law_40 (by decide) (by decide) rfl (by decide) ?_
      exact law_case_15 dC dI hst C0 rfl hAe hN hZ hK9 hP9 hD9 hS hl9
    · have h9 : y0 = (16 : Int32) := hy0.trans (by decide)
      subst h9
      refine lv_tableIn (off := 801) (tgt := 841) hx hb dL_law_40 (by decide) (by decide) rfl (by decide) ?_
      exact law_case_16 dC dI hst C0 rfl hAe hN hZ hK9 hP9 hD9 hS hl9
    · have h9 : y0 = (17 : Int32) := hy0.trans (by decide)
      subst h9
      refine lv_tableIn (off := 826) (tgt := 866) hx hb dL_law_40 (by decide) (by decide) rfl (by decide) ?_
      exact law_case_17 dC dI hst C0 rfl hAe hN hZ hK9 hP9 hD9 hS hl9
    · have h9 : y0 = (18 : Int32) := hy0.trans (by decide)
      subst h9
      refine lv_tableIn (off := 887) (tgt := 927) hx hb dL_law_40 (by decide) (by decide) rfl (by decide) ?_
      exact law_case_18 dC dI hst C0 rfl hAe hN hZ hK9 hP9 hD9 hS hl9
    · have h9 : y0 = (19 : Int32) := hy0.trans (by decide)
      subst h9
      refine lv_tableIn (off := 900) (tgt := 940) hx hb dL_law_40 (by decide) (by decide) rfl (by decide) ?_
      exact law_case_19 dC dI hst C0 rfl hAe hN hZ hK9 hP9 hD9 hS hl9
    · have h9 : y0 = (20 : Int32) := hy0.trans (by decide)
      subst h9
      refine lv_tableIn (off := 913) (tgt := 953) hx hb dL_law_40 (by decide) (by decide) rfl (by decide) ?_
      exact law_case_20 dC dI hst C0 rfl hAe hN hZ hK9 hP9 hD9 hS hl9
    · have h9 : y0 = (21 : Int32) := hy0.trans (by decide)
      subst h9
      refine lv_tableIn (off := 938) (tgt := 978) hx hb dL_law_40 (by decide) (by decide) rfl (by decide) ?_
      exact law_case_21 dC dI hst C0 rfl hAe hN hZ hK9 hP9 hD9 hS hl9
    · have h9 : y0 = (22 : Int32) := hy0.trans (by decide)
      subst h9
      refine lv_tableIn (off := 963) (tgt := 1003) hx hb dL_law_40 (by decide) (by decide) rfl (by decide) ?_
      exact law_case_22 dC dI hst C0 rfl hAe hN hZ hK9 hP9 hD9 hS hl9
    · have h9 : y0 = (23 : Int32) := hy0.trans (by decide)
      subst h9
      refine lv_tableIn (off := 976) (tgt := 1016) hx hb dL_law_40 (by decide) (by decide) rfl (by decide) ?_
      exact law_case_23 dC dI hst C0 rfl hAe hN hZ hK9 hP9 hD9 hS hl9
    · have h9 : y0 = (24 : Int32) := hy0.trans (by decide)
      subst h9
      refine lv_tableIn (off := 1001) (tgt := 1041) hx hb dL_law_40 (by decide) (by decide) rfl (by decide) ?_
      exact law_case_24 dC dI hst C0 rfl hAe hN hZ hK9 hP9 hD9 hS hl9
    · have h9 : y0 = (25 : Int32) := hy0.trans (by decide)
      subst h9
      refine lv_tableOut (tgt := 1054) hx hb dL_law_40 (by decide) (by decide) ?_
      exact law_tail C0 rfl hAe (Nat.le_of_ble_eq_true rfl) (Nat.le_of_ble_eq_true rfl) hS (lv_sub (l' := [(4, .int 0), (0, .ref b)]) hl9 [0, 4] rfl)
    · have h9 : y0 = (26 : Int32) := hy0.trans (by decide)
      subst h9
      refine lv_tableOut (tgt := 1054) hx hb dL_law_40 (by decide) (by decide) ?_
      exact law_tail C0 rfl hAe (Nat.le_of_ble_eq_true rfl) (Nat.le_of_ble_eq_true rfl) hS (lv_sub (l' := [(4, .int 0), (0, .ref b)]) hl9 [0, 4] rfl)
    · have h9 : y0 = (27 : Int32) := hy0.trans (by decide)
      subst h9
      refine lv_tableOut (tgt := 1054) hx hb dL_law_40 (by decide) (by decide) ?_
      exact law_tail C0 rfl hAe (Nat.le_of_ble_eq_true rfl) (Nat.le_of_ble_eq_true rfl) hS (lv_sub (l' := [(4, .int 0), (0, .ref b)]) hl9 [0, 4] rfl)
    · have h9 : y0 = (28 : Int32) := hy0.trans (by decide)
      subst h9
      refine lv_tableOut (tgt := 1054) hx hb dL_law_40 (by decide) (by decide) ?_
      exact law_tail C0 rfl hAe (Nat.le_of_ble_eq_true rfl) (Nat.le_of_ble_eq_true rfl) hS (lv_sub (l' := [(4, .int 0), (0, .ref b)]) hl9 [0, 4] rfl)
    · have h9 : y0 = (29 : Int32) := hy0.trans (by decide)
      subst h9
      refine lv_tableOut (tgt := 1054) hx hb dL_law_40 (by decide) (by decide) ?_
      exact law_tail C0 rfl hAe (Nat.le_of_ble_eq_true rfl) (Nat.le_of_ble_eq_true rfl) hS (lv_sub (l' := [(4, .int 0), (0, .ref b)]) hl9 [0, 4] rfl)
    · have h9 : y0 = (30 : Int32) := hy0.trans (by decide)
      subst h9
      refine lv_tableOut (tgt := 1054) hx hb dL_law_40 (by decide) (by decide) ?_
      exact law_tail C0 rfl hAe (Nat.le_of_ble_eq_true rfl) (Nat.le_of_ble_eq_true rfl) hS (lv_sub (l' := [(4, .int 0), (0, .ref b)]) hl9 [0, 4] rfl)
    · have h9 : y0 = (31 : Int32) := hy0.trans (by decide)
      subst h9
      refine lv_tableOut (tgt := 1054) hx hb dL_law_40 (by decide) (by decide) ?_
      exact law_tail C0 rfl hAe (Nat.le_of_ble_eq_true rfl) (Nat.le_of_ble_eq_true rfl) hS (lv_sub (l' := [(4, .int 0), (0, .ref b)]) hl9 [0, 4] rfl)
set_option maxHeartbeats 4000000 in
theorem lw_walk (l : Launch) (hst : l.stackTraces = false) (b : Addr) (xs : List Int32) : MetFree l x (headSpec (Jvm.Cond.code x code maxLocals ret :: tables_1) room_1) (lw_P b xs) (fun _ _ _ _ _ => True) lw_Q := by
  refine MetFree.of_bodyS (code := code) (maxLocals := maxLocals) (ret := ret) (by decide) ?_ ?_
  · intro args s m h hn
    obtain ⟨meth, c, h1, h2, h3, h4, h5, h6, -, -⟩ := Cond.code_spec hn (atoms_spec (ws := Jvm.Cond.code x code maxLocals ret :: tables_1) h _ List.mem_cons_self)
    exact ⟨meth, c, h1, h2, h3, h4, h5, h6⟩
  · intro p e s m args below meth c s₁ B hml0 hP _
    obtain ⟨rfl, hx, hbd, hgv⟩ := hP
    obtain ⟨scr, harrAt, hlist, hof, hsmall⟩ := hx
    obtain ⟨hcb, hkn, -, -⟩ := State.arrayAt?_spec harrAt
    have hown : s.vm.findClass R_law = some m.cls := findClass_of_methodNamed B.named
    have hts0 : ∀ c ∈ (Jvm.Cond.code x code maxLocals ret :: tables_1), c.before #[Value.ref b] s = true := atoms_spec (ws := Jvm.Cond.code x code maxLocals ret :: tables_1) B.pre
    have hts : ∀ w ∈ lw_tbl, w.before #[Value.ref b] s = true := k2_hts_sels lw_privs (fun w hw => hts0 w (List.mem_cons_of_mem _ hw)) lw_privs_ok
    have hml : c.maxLocals = 7 := B.maxLocals_eq (hts0 _ List.mem_cons_self)
    have X₀ : Stand p l e room_1 s m #[Value.ref b] below meth c s₁ [] 0 0 := Stand.of_body B
    have hh0 : s₁.heap = s.heap := by rw [B.state]; rfl
    have hsz : scr.slots.size = xs.length := by rw [← Array.length_toList, hlist, List.length_map]
    have hval : ∀ j : Nat, j < xs.length → scr.slots[j]? = some (.int (xs.getD j 0)) := fun j hj => by
      rw [← Array.getElem?_toList, hlist]
      simp [hj]
    have hbl : b < s.heap.size := (Array.getElem?_eq_some_iff.mp hcb).1
    have hX : va_X b xs.length (fun j => xs.getD j 0) s s.heap := ⟨scr, hcb, hof, hkn, hsz, hval⟩
    have K : W p l e room_1 s m #[Value.ref b] below meth c s₁.heap [] 0 0 (lw_Z below #[Value.ref b] s) (entryFrame m ([Value.ref b] : List Value).toArray 7) := by
      rw [hh0]
      exact whole_start l hst hbd ⟨B.exec, B.bytes, B.returns, hml, hown, hts, hX, hbl, B.notSynchronized, hgv⟩
    obtain ⟨t, a1, o, b1, b2, b3⟩ := K s₁ rfl X₀
    exact ⟨t, o, a1, b1, b2, b3⟩
theorem lw_pre_spec {args : Array Value} {s : State} (h : (Jvm.Cond.and given_1 narrow_1).before args s = true) (hr : rest_1_c.before args s = true) : ∃ (b : Addr) (xs : List Int32), lw_P b xs args s := by
  have hs := flat_of_before _ h
  have hq := flat_of_before _ hr
  have hc : (Cond.count 1).before args s = true := hs _ (by decide +kernel)
  have harr : (Cond.arrayOf (.arg 0) .int).before args s = true := hs _ (by decide +kernel)
  have hle : (Cond.le (.length (.arg 0)) (.int 6)).before args s = true := hs _ (by decide +kernel)
  have hlen : (Cond.isInt (.length (.arg 0))).before args s = true := hq _ (by decide +kernel)
  have hall : (Cond.all (.arg 0) (.isInt (.elem (.arg 0) (.index 0)))).before args s = true := hq _ (by decide +kernel)
  obtain ⟨b, xs, hb, hx⟩ := State.ints_of_pre rfl harr hlen hall
  have hsm : xs.length < 2 ^ 31 := hx.choose_spec.2.2.2
  have hev : (Term.length (.arg 0)).eval args s none [] s = some (.int xs.length.toInt32) := hx.length_eval hb
  have hv := Cond.le_ints hev (show (Term.int 6).eval args s none [] s = some (.int 6) from rfl)
  have hd : xs.length.toInt32 ≤ 6 := by
    simpa [Cond.before, Cond.holds, hv] using hle
  have hN : xs.length ≤ 6 := (Int32.ofNat_le_ofNat hsm (by decide)).mp (show Int32.ofNat xs.length ≤ Int32.ofNat 6 from hd)
  exact ⟨b, xs, Cond.one_arg hc (show args[0]? = some (.ref b) from hb), hx, hN, h⟩
theorem lw_comes (l : Launch) (hst : l.stackTraces = false) : Comes l x (Jvm.Cond.code x code maxLocals ret :: tables_1) room_1 (fun tb e args s => Calls_1 tb e args s ∧ rest_1 tb e args s ∧ Pre_1 tb e args s)
    (fun _ _ args s o t => lw_Q args s o t) := by
  intro p e ha hc hk s m args below hf hfit hheap happ hpre
  obtain ⟨b, xs, hP⟩ := lw_pre_spec hpre.2.2 hpre.2.1
  obtain ⟨k, o, h1, h2, h3, hQ⟩ := lw_walk l hst b xs p e ha hc hk s m args below hf ((Spec.applies_iff_loose hf).mp happ).1 hP trivial
  exact ⟨k, o, h1, h2, h3, hQ⟩
theorem lw_frame {s t : State} {o : Outcome} {args : Array Value} (h : Framed s o t [] 600002 7302231) :
    Framed s o t (fieldLocs frame_1_writes args s ++ arrayLocs frame_1_arrays args s ++ staticLocs frame_1_statics s) 600002 7302231 := h
theorem lw_limb (L : Cond) (hL : ∀ (args : Array Value) (s t : State), L.after args s (.returned (some (.int 1))) t = true) :
    ArmFor flags0 classFile x code maxLocals ret World_1 tables_1 room_1 Calls_1 rest_1 Pre_1
      (fun tb e a s o t => postC L tb e a s o t ∧ Framed s o t (fieldLocs frame_1_writes a s ++ arrayLocs frame_1_arrays a s ++ staticLocs frame_1_statics s) 600002 7302231) := by
  intro l hfl _ _ p e ha hc hk s m args below hf hfit hheap happ hpre
  obtain ⟨k, o, h1, h2, h3, rfl, hF⟩ := lw_comes l (z_fl l hfl) p e ha hc hk s m args below hf hfit hheap happ hpre
  exact ⟨k, _, h1, h2, h3, hL args s _, lw_frame hF⟩
theorem i_vc : Claimed_1_1 ∧ Claimed_1_2 := ⟨lw_limb limb_1_1 (fun args s t => by simp [limb_1_1, Cond.after, Cond.holds, Cond.value]), lw_limb limb_1_2 (fun args s t => Cond.after_iff.mpr (by
  first | (rw [show limb_1_2 = Cond.eq .result (.int 1) from rfl, Cond.eq_ints (x := 1) (y := 1) rfl rfl]; simp; done) | (simp [limb_1_2, Cond.value, Term.eval]; done)))⟩

