/-! The law's own helpers: a call that may throw, caught. -/
section
variable {p : Program} {l : Launch} {e : Env} {R : Room} {s : State} {m : MethodId} {args : Array Value} {below : List Frame} {meth : Method} {c : Code} {H : Heap} {locs : List Loc} {cells slots : Nat} {Q : State → Prop}
variable {cc bytes : ByteArray} {pc nL maxL index n t b mc ms : Nat} {ls : Array Slot} {rest st0 As : List Value} {D : va_G} {k : Nat → ClassId} {Γ : Nat → Option Nat} {L : List Nat} {F : Nat → va_E} {Ts ws : List Cond} {own C : String} {M : List Nat} {y : MethodName} {rm : Room} {ret : Option FieldType} {q : u_T × Nat}
theorem zl_Vi {post : Int32 → (Nat → va_E) → Prop} (Z : zC p m c cc nL s args Ts own D k L) (h : zH D k Γ L s F H locs) (hM : vx_Met l y ws rm (va_Pc (.ref b :: As) (zP D k Γ L F H.size)) (va_Qi post (zQ D k Γ L F M) (zA L H.size)) (vx_X (fun _ : Unit => True) (fun E _ t => E = "java/util/NoSuchElementException" ∧ va_P D z_Cl (va_pl L F) t.heap) (zA L H.size)) mc ms (zA L H.size)) (cw : CallW R s args own C index y bytes maxL ret ws rm mc ms n) (hb : Γ b = some t) (ht : t < 100) (hc : z_Cl[t]? = some (C, q)) (hn : As.length = n) (hsz : ls.size = nL) (hst : st0 = As.reverse ++ .ref b :: rest) (hW : (rest.map fun v => v.category).sum ≤ 8) (hdg : decode cc pc = .ok (.invokevirtual index, 3)) (hf : cells + mc ≤ R.cells ∧ slots + ms ≤ R.slots)
    (kx : ∀ (H1 : Heap) (locs1 : List Loc) (q9 : Addr) (ce : Cell), zH D k Γ L s F H1 locs1 → H1[q9]? = some ce → ce.vm = .none → s.vm.findClass "java/util/NoSuchElementException" = some ce.cls → vx_W p l e R s m args below meth c H1 locs1 (cells + mc) (slots + ms) Q (F0 m pc ls rest) q9)
    (kk : ∀ (r : Int32) (F1 : Nat → va_E) (H1 : Heap) (locs1 : List Loc), post r F1 → zH D k Γ L s F1 H1 locs1 → zFr Γ M F F1 → W p l e R s m args below meth c H1 locs1 (cells + mc) (slots + ms) Q (F0 m (pc + 3) ls (.int r :: rest))) : W p l e R s m args below meth c H locs cells slots Q (F0 m pc ls st0) :=
  vx_calli (vx_runV (As := As) (rest := rest) Z.1 hM cw ⟨zP_blind, zP_recv Z h hb ht hc, zP_pre Z h⟩ rfl hn hsz hst (lv_room hW) hdg hf) h.2.2 (fun q _ g => zA_in h.2.2 q g) (zA_in h.2.2) (fun q _ g => zA_in h.2.2 q g)
    (fun E ce q9 u t H1 locs1 ht' _ _ hBX _ _ hS hce hcv hcl => by
      obtain ⟨rfl, hB⟩ := hBX
      exact kx H1 locs1 q9 ce ⟨by rw [← ht']; exact hB, h.2.1, hS⟩ hce hcv hcl)
    (fun r u t H1 locs1 ht _ hp hB _ _ hS => kk r u H1 locs1 hp ⟨by rw [← ht]; exact hB.1, hB.2.1, hS⟩ hB.2.2)
theorem zl_Vx {PX : Prop} {post : Int32 → (Nat → va_E) → Prop} (Z : zC p m c cc nL s args Ts own D k L) (h : zH D k Γ L s F H locs) (hM : vx_Met l y ws rm (va_Pc (.ref b :: As) (zP D k Γ L F H.size)) (va_Qi post (zQ D k Γ L F M) (zA L H.size)) (vx_X (fun _ : Unit => True) (fun E _ t => E = "java/util/NoSuchElementException" ∧ va_P D z_Cl (va_pl L F) t.heap ∧ PX) (zA L H.size)) mc ms (zA L H.size)) (cw : CallW R s args own C index y bytes maxL ret ws rm mc ms n) (hb : Γ b = some t) (ht : t < 100) (hc : z_Cl[t]? = some (C, q)) (hn : As.length = n) (hsz : ls.size = nL) (hst : st0 = As.reverse ++ .ref b :: rest) (hW : (rest.map fun v => v.category).sum ≤ 8) (hdg : decode cc pc = .ok (.invokevirtual index, 3)) (hf : cells + mc ≤ R.cells ∧ slots + ms ≤ R.slots)
    (kx : ∀ (H1 : Heap) (locs1 : List Loc) (q9 : Addr) (ce : Cell), zH D k Γ L s F H1 locs1 → H1[q9]? = some ce → ce.vm = .none → s.vm.findClass "java/util/NoSuchElementException" = some ce.cls → PX → vx_W p l e R s m args below meth c H1 locs1 (cells + mc) (slots + ms) Q (F0 m pc ls rest) q9)
    (kk : ∀ (r : Int32) (F1 : Nat → va_E) (H1 : Heap) (locs1 : List Loc), post r F1 → zH D k Γ L s F1 H1 locs1 → zFr Γ M F F1 → W p l e R s m args below meth c H1 locs1 (cells + mc) (slots + ms) Q (F0 m (pc + 3) ls (.int r :: rest))) : W p l e R s m args below meth c H locs cells slots Q (F0 m pc ls st0) :=
  vx_calli (vx_runV (As := As) (rest := rest) Z.1 hM cw ⟨zP_blind, zP_recv Z h hb ht hc, zP_pre Z h⟩ rfl hn hsz hst (lv_room hW) hdg hf) h.2.2 (fun q _ g => zA_in h.2.2 q g) (zA_in h.2.2) (fun q _ g => zA_in h.2.2 q g)
    (fun E ce q9 u t H1 locs1 ht' _ _ hBX _ _ hS hce hcv hcl => by
      obtain ⟨rfl, hB, hp9⟩ := hBX
      exact kx H1 locs1 q9 ce ⟨by rw [← ht']; exact hB, h.2.1, hS⟩ hce hcv hcl hp9)
    (fun r u t H1 locs1 ht _ hp hB _ _ hS => kk r u H1 locs1 hp ⟨by rw [← ht]; exact hB.1, hB.2.1, hS⟩ hB.2.2)
end

set_option maxHeartbeats 4000000 in
set_option maxRecDepth 100000 in
theorem zc_L_name (l : Launch) (hst : l.stackTraces = false) (D : va_G) (k : Nat → ClassId) (Γ : Nat → Option Nat) (L : List Nat) (F : Nat → va_E) (sz th : Nat) (f i : Int32) (o : Nat) (pn : Nat) (fc : Int32) (tk : Nat) (Bt : Nat → Int32) (nt : Nat) (Nt : Nat) (fa : Nat → Nat) (nw : Nat → Int) (hth : Γ th = some 10) (ho : Γ o = some 154) (kpn : zfld F th 2 = .ref pn) (hpn : Γ pn = some 6) (kfc : zfld F pn 4 = .int fc) (bfc : zB 0 10 fc) (hr0 : zPS Γ F pn fa ∧ (0 < fc.toInt → zNp Γ F pn tk fa Bt nt Nt fc.toInt nw)) : Met l yL_name zwL_name ({ frames := 9, cells := 1, slots := 6, locals := 223 }) (va_Pc [.ref th, .int f, .int i, .ref o] (zP D k Γ L F sz)) (va_Qi (fun (r : Int32) (u : Nat → va_E) => (r.toInt = 1 ∧ (f.toInt < 0 ∨ fc.toInt ≤ f.toInt ∨ i.toInt < 0 ∨ zsz (nw f.toInt.toNat) ≤ i.toInt)) ∨ (r.toInt = 0 ∧ (0 ≤ f.toInt ∧ f.toInt < fc.toInt) ∧ (0 ≤ i.toInt ∧ i.toInt < zsz (nw f.toInt.toNat)) ∧ (zll u o 0).toInt = zdg (nw f.toInt.toNat) i.toInt)) (zQ D k Γ L F [15400]) (zA L sz)) 1 6 (zA L sz) := by
  refine va_MetW (hh := [(0, 10, 13, 13)]) (cc := cL_name) (maxL := 5) (ret := (some .int)) (by decide) rfl ?_
  intro p e s m args below meth c s₁ B hml hv
  obtain ⟨rfl, hsz, hP, hK, hLn, hE, hI⟩ := hv
  have hx := B.exec
  have hb := B.bytes
  have hr := B.returns
  have hg : ∀ w ∈ zG, w.before _ s = true := fun w h9 => atoms_spec (ws := zwL_name) B.pre w (List.mem_cons_of_mem _ h9)
  have hown : s.vm.findClass RL = some m.cls := findClass_of_methodNamed B.named
  have htab := vx_table (x := yL_name) B (atoms_spec (ws := zwL_name) B.pre _ List.mem_cons_self)
  subst hsz
  have Z : zC p m c cL_name 5 s _ zG RL D k L := ⟨⟨hx, hb, hml, hown, hg⟩, hK, hLn, hE⟩
  have h : zH D k Γ L s F s.heap [] := ⟨hP, hI, va_S.rf⟩
  have hl := lv_entry ([.ref th, .int f, .int i, .ref o]) (n := 5) (Nat.le_of_ble_eq_true rfl)
  rw [lg_entry_eq]
  generalize (lg_sl ([.ref th, .int f, .int i, .ref o]) ++ List.replicate (5 - (lg_sl ([.ref th, .int f, .int i, .ref o])).length) Slot.unset).toArray = ls at hl ⊢
  have hl : lv_has ls 5 [(0, .ref th), (1, .int f), (2, .int i), (3, .ref o)] := hl
  clear hP hK hLn hE hI
  generalize hargs : ([.ref th, .int f, .int i, .ref o] : List Value).toArray = args at *
  refine z_start2 (fun R Q hRf hRl hRc hRs hQ => ?_)
  have hRc : R.cells = 1 := hRc
  have hRs : R.slots = 6 := hRs
  have hRf : R.frames = 9 := hRf
  have hRl : R.locals = 223 := hRl
  refine lv_aload_n hx hb dL_name_0 rfl (lv_at hl 3 rfl) ?_
  refine lv_iconst (v := 0) hx hb dL_name_1 (by decide) ?_
  refine lv_aload_n hx hb dL_name_2 rfl (lv_at hl 0 rfl) ?_
  refine lv_iload_n hx hb dL_name_3 rfl (lv_at hl 1 rfl) ?_
  refine lv_iload_n hx hb dL_name_4 rfl (lv_at hl 2 rfl) ?_
  refine zl_Vx (mc := 1) (ms := 6) (As := [.int f, .int i]) (rest := [.int 0, .ref o]) (bytes := cX10_name) (maxL := 4) (ret := (some .int)) Z h (zc_X10_name l hst D k Γ L F s.heap.size th f i pn fc tk Bt nt Nt fa nw hth kpn hpn kfc bfc hr0) (cwV 2 hg zv_RL_7 rfl rfl rfl zd_X10_name ⟨z_leR hRf (by decide), z_leR hRl (by decide)⟩) hth (by decide) rfl rfl hl.1 rfl (Nat.le_of_ble_eq_true rfl) dL_name_5 ⟨z_leR hRc (by decide), z_leR hRs (by decide)⟩ (fun H locs q9 ce h hce hcv hcl hpx => ?_) (fun r F1 H locs w h hf => ?_)
  · refine z_catch (E := "java/util/NoSuchElementException") (name := "java/util/NoSuchElementException") hown ⟨0, 10, 13, 13⟩ [] htab rfl (by decide) (hg _ (zm_RL (List.mem_of_getElem? (i := 7) rfl))) (Z.2.2.2.1.B _ (List.mem_of_getElem? (i := 3) rfl)) hce hcv hcl ?_
    refine lv_astore (lv' := (4, .ref q9) :: [(0, .ref th), (1, .int f), (2, .int i), (3, .ref o)]) hx hb dL_name_13 hl (by decide) rfl (fun ls hl => ?_)
    refine lv_iconst (v := 1) hx hb dL_name_15 (by decide) ?_
    subst hQ
    refine W.widen (k := 1) (n := 6) (Nat.le_of_ble_eq_true rfl) (Nat.le_of_ble_eq_true rfl) ?_
    exact W.iret (v := 1) hx hb hr (fun t ht hW => ⟨⟨1, F, rfl, Or.inl ⟨by decide, hpx⟩, by rw [ht]; exact h.1, h.2.1, zFr.rf⟩, h.2.2.F ht⟩) h.2.2.2.2 dL_name_16
  · obtain ⟨rfl, hw1, -⟩ := w
    refine lv_i2l hx hb dL_name_8 rfl ?_
    refine zt_laste (t := 154) (n := 1) (b0 := 0) (b1 := 0) Z h ho ⟨by decide, rfl⟩ (zBc 0 0 (by decide)) ⟨by decide, by decide⟩ dL_name_9 (fun H locs F1 h hf1 e1 g1 => ?_)
    refine lv_goto (tgt := 17) hx hb dL_name_10 (by decide) ?_
    refine lv_iconst (v := 0) hx hb dL_name_17 (by decide) ?_
    subst hQ
    refine W.widen (k := 1) (n := 6) (Nat.le_of_ble_eq_true rfl) (Nat.le_of_ble_eq_true rfl) ?_
    exact W.iret (v := 0) hx hb hr (fun t ht hW => ⟨⟨0, F1, rfl, Or.inr ⟨by decide, hw1.1, hw1.2.1, by rw [show (0 : Nat) = Int32.toNatClampNeg 0 by decide, e1, Int32.toInt_toInt64]; exact hw1.2.2⟩, by rw [ht]; exact h.1, h.2.1, hf1⟩, h.2.2.F ht⟩) h.2.2.2.2 dL_name_18

set_option maxHeartbeats 4000000 in
set_option maxRecDepth 100000 in
theorem zc_L_said (l : Launch) (hst : l.stackTraces = false) (D : va_G) (k : Nat → ClassId) (Γ : Nat → Option Nat) (L : List Nat) (F : Nat → va_E) (sz th : Nat) (i : Int32) (o : Nat) (hth : Γ th = some 10) (ho : Γ o = some 154) : Met l yL_said zwL_said ({ frames := 9, cells := 1, slots := 6, locals := 221 }) (va_Pc [.ref th, .int i, .ref o] (zP D k Γ L F sz)) (va_Qi (fun (r : Int32) (u : Nat → va_E) => True) (zQ D k Γ L F [15400]) (zA L sz)) 1 6 (zA L sz) := by
  refine va_MetW (hh := [(0, 9, 12, 13)]) (cc := cL_said) (maxL := 4) (ret := (some .int)) (by decide) rfl ?_
  intro p e s m args below meth c s₁ B hml hv
  obtain ⟨rfl, hsz, hP, hK, hLn, hE, hI⟩ := hv
  have hx := B.exec
  have hb := B.bytes
  have hr := B.returns
  have hg : ∀ w ∈ zG, w.before _ s = true := fun w h9 => atoms_spec (ws := zwL_said) B.pre w (List.mem_cons_of_mem _ h9)
  have hown : s.vm.findClass RL = some m.cls := findClass_of_methodNamed B.named
  have htab := vx_table (x := yL_said) B (atoms_spec (ws := zwL_said) B.pre _ List.mem_cons_self)
  subst hsz
  have Z : zC p m c cL_said 4 s _ zG RL D k L := ⟨⟨hx, hb, hml, hown, hg⟩, hK, hLn, hE⟩
  have h : zH D k Γ L s F s.heap [] := ⟨hP, hI, va_S.rf⟩
  have hl := lv_entry ([.ref th, .int i, .ref o]) (n := 4) (Nat.le_of_ble_eq_true rfl)
  rw [lg_entry_eq]
  generalize (lg_sl ([.ref th, .int i, .ref o]) ++ List.replicate (4 - (lg_sl ([.ref th, .int i, .ref o])).length) Slot.unset).toArray = ls at hl ⊢
  have hl : lv_has ls 4 [(0, .ref th), (1, .int i), (2, .ref o)] := hl
  clear hP hK hLn hE hI
  generalize hargs : ([.ref th, .int i, .ref o] : List Value).toArray = args at *
  refine z_start2 (fun R Q hRf hRl hRc hRs hQ => ?_)
  have hRc : R.cells = 1 := hRc
  have hRs : R.slots = 6 := hRs
  have hRf : R.frames = 9 := hRf
  have hRl : R.locals = 221 := hRl
  refine lv_aload_n hx hb dL_said_0 rfl (lv_at hl 2 rfl) ?_
  refine lv_iconst (v := 0) hx hb dL_said_1 (by decide) ?_
  refine lv_aload_n hx hb dL_said_2 rfl (lv_at hl 0 rfl) ?_
  refine lv_iload_n hx hb dL_said_3 rfl (lv_at hl 1 rfl) ?_
  refine zl_Vi (mc := 1) (ms := 6) (As := [.int i]) (rest := [.int 0, .ref o]) (bytes := cX10_said) (maxL := 2) (ret := (some .int)) Z h (zc_X10_said l hst D k Γ L F s.heap.size th i hth) (cwV 1 hg zv_RL_15 rfl rfl rfl zd_X10_said ⟨z_leR hRf (by decide), z_leR hRl (by decide)⟩) hth (by decide) rfl rfl hl.1 rfl (Nat.le_of_ble_eq_true rfl) dL_said_4 ⟨z_leR hRc (by decide), z_leR hRs (by decide)⟩ (fun H locs q9 ce h hce hcv hcl => ?_) (fun r F1 H locs w h hf => ?_)
  · refine z_catch (E := "java/util/NoSuchElementException") (name := "java/util/NoSuchElementException") hown ⟨0, 9, 12, 13⟩ [] htab rfl (by decide) (hg _ (zm_RL (List.mem_of_getElem? (i := 7) rfl))) (Z.2.2.2.1.B _ (List.mem_of_getElem? (i := 3) rfl)) hce hcv hcl ?_
    refine lv_astore_n (lv' := (3, .ref q9) :: [(0, .ref th), (1, .int i), (2, .ref o)]) hx hb dL_said_12 rfl hl (by decide) rfl (fun ls hl => ?_)
    refine lv_iconst (v := 1) hx hb dL_said_13 (by decide) ?_
    subst hQ
    refine W.widen (k := 1) (n := 6) (Nat.le_of_ble_eq_true rfl) (Nat.le_of_ble_eq_true rfl) ?_
    exact W.iret (v := 1) hx hb hr (fun t ht hW => ⟨⟨1, F, rfl, trivial, by rw [ht]; exact h.1, h.2.1, zFr.rf⟩, h.2.2.F ht⟩) h.2.2.2.2 dL_said_14
  · obtain ⟨rfl, -⟩ := w
    refine lv_i2l hx hb dL_said_7 rfl ?_
    refine zt_last (t := 154) (n := 1) (b0 := 0) (b1 := 0) Z h ho ⟨by decide, rfl⟩ (zBc 0 0 (by decide)) ⟨by decide, by decide⟩ dL_said_8 (fun H locs F1 h hf1 => ?_)
    refine lv_goto (tgt := 15) hx hb dL_said_9 (by decide) ?_
    refine lv_iconst (v := 0) hx hb dL_said_15 (by decide) ?_
    subst hQ
    refine W.widen (k := 1) (n := 6) (Nat.le_of_ble_eq_true rfl) (Nat.le_of_ble_eq_true rfl) ?_
    exact W.iret (v := 0) hx hb hr (fun t ht hW => ⟨⟨0, F1, rfl, trivial, by rw [ht]; exact h.1, h.2.1, hf1⟩, h.2.2.F ht⟩) h.2.2.2.2 dL_said_16

set_option maxHeartbeats 4000000 in
set_option maxRecDepth 100000 in
theorem zc_L_trace (l : Launch) (hst : l.stackTraces = false) (D : va_G) (k : Nat → ClassId) (Γ : Nat → Option Nat) (L : List Nat) (F : Nat → va_E) (sz th : Nat) (i wh : Int32) (o : Nat) (hth : Γ th = some 10) (ho : Γ o = some 154) : Met l yL_trace zwL_trace ({ frames := 9, cells := 1, slots := 6, locals := 223 }) (va_Pc [.ref th, .int i, .int wh, .ref o] (zP D k Γ L F sz)) (va_Qi (fun (r : Int32) (u : Nat → va_E) => True) (zQ D k Γ L F [15400]) (zA L sz)) 1 6 (zA L sz) := by
  refine va_MetW (hh := [(0, 10, 13, 13)]) (cc := cL_trace) (maxL := 5) (ret := (some .int)) (by decide) rfl ?_
  intro p e s m args below meth c s₁ B hml hv
  obtain ⟨rfl, hsz, hP, hK, hLn, hE, hI⟩ := hv
  have hx := B.exec
  have hb := B.bytes
  have hr := B.returns
  have hg : ∀ w ∈ zG, w.before _ s = true := fun w h9 => atoms_spec (ws := zwL_trace) B.pre w (List.mem_cons_of_mem _ h9)
  have hown : s.vm.findClass RL = some m.cls := findClass_of_methodNamed B.named
  have htab := vx_table (x := yL_trace) B (atoms_spec (ws := zwL_trace) B.pre _ List.mem_cons_self)
  subst hsz
  have Z : zC p m c cL_trace 5 s _ zG RL D k L := ⟨⟨hx, hb, hml, hown, hg⟩, hK, hLn, hE⟩
  have h : zH D k Γ L s F s.heap [] := ⟨hP, hI, va_S.rf⟩
  have hl := lv_entry ([.ref th, .int i, .int wh, .ref o]) (n := 5) (Nat.le_of_ble_eq_true rfl)
  rw [lg_entry_eq]
  generalize (lg_sl ([.ref th, .int i, .int wh, .ref o]) ++ List.replicate (5 - (lg_sl ([.ref th, .int i, .int wh, .ref o])).length) Slot.unset).toArray = ls at hl ⊢
  have hl : lv_has ls 5 [(0, .ref th), (1, .int i), (2, .int wh), (3, .ref o)] := hl
  clear hP hK hLn hE hI
  generalize hargs : ([.ref th, .int i, .int wh, .ref o] : List Value).toArray = args at *
  refine z_start2 (fun R Q hRf hRl hRc hRs hQ => ?_)
  have hRc : R.cells = 1 := hRc
  have hRs : R.slots = 6 := hRs
  have hRf : R.frames = 9 := hRf
  have hRl : R.locals = 223 := hRl
  refine lv_aload_n hx hb dL_trace_0 rfl (lv_at hl 3 rfl) ?_
  refine lv_iconst (v := 0) hx hb dL_trace_1 (by decide) ?_
  refine lv_aload_n hx hb dL_trace_2 rfl (lv_at hl 0 rfl) ?_
  refine lv_iload_n hx hb dL_trace_3 rfl (lv_at hl 1 rfl) ?_
  refine lv_iload_n hx hb dL_trace_4 rfl (lv_at hl 2 rfl) ?_
  refine zl_Vi (mc := 1) (ms := 6) (As := [.int i, .int wh]) (rest := [.int 0, .ref o]) (bytes := cX10_trace) (maxL := 3) (ret := (some .int)) Z h (zc_X10_trace l hst D k Γ L F s.heap.size th i wh hth) (cwV 2 hg zv_RL_19 rfl rfl rfl zd_X10_trace ⟨z_leR hRf (by decide), z_leR hRl (by decide)⟩) hth (by decide) rfl rfl hl.1 rfl (Nat.le_of_ble_eq_true rfl) dL_trace_5 ⟨z_leR hRc (by decide), z_leR hRs (by decide)⟩ (fun H locs q9 ce h hce hcv hcl => ?_) (fun r F1 H locs w h hf => ?_)
  · refine z_catch (E := "java/util/NoSuchElementException") (name := "java/util/NoSuchElementException") hown ⟨0, 10, 13, 13⟩ [] htab rfl (by decide) (hg _ (zm_RL (List.mem_of_getElem? (i := 7) rfl))) (Z.2.2.2.1.B _ (List.mem_of_getElem? (i := 3) rfl)) hce hcv hcl ?_
    refine lv_astore (lv' := (4, .ref q9) :: [(0, .ref th), (1, .int i), (2, .int wh), (3, .ref o)]) hx hb dL_trace_13 hl (by decide) rfl (fun ls hl => ?_)
    refine lv_iconst (v := 1) hx hb dL_trace_15 (by decide) ?_
    subst hQ
    refine W.widen (k := 1) (n := 6) (Nat.le_of_ble_eq_true rfl) (Nat.le_of_ble_eq_true rfl) ?_
    exact W.iret (v := 1) hx hb hr (fun t ht hW => ⟨⟨1, F, rfl, trivial, by rw [ht]; exact h.1, h.2.1, zFr.rf⟩, h.2.2.F ht⟩) h.2.2.2.2 dL_trace_16
  · obtain ⟨rfl, -⟩ := w
    refine lv_i2l hx hb dL_trace_8 rfl ?_
    refine zt_last (t := 154) (n := 1) (b0 := 0) (b1 := 0) Z h ho ⟨by decide, rfl⟩ (zBc 0 0 (by decide)) ⟨by decide, by decide⟩ dL_trace_9 (fun H locs F1 h hf1 => ?_)
    refine lv_goto (tgt := 17) hx hb dL_trace_10 (by decide) ?_
    refine lv_iconst (v := 0) hx hb dL_trace_17 (by decide) ?_
    subst hQ
    refine W.widen (k := 1) (n := 6) (Nat.le_of_ble_eq_true rfl) (Nat.le_of_ble_eq_true rfl) ?_
    exact W.iret (v := 0) hx hb hr (fun t ht hW => ⟨⟨0, F1, rfl, trivial, by rw [ht]; exact h.1, h.2.1, hf1⟩, h.2.2.F ht⟩) h.2.2.2.2 dL_trace_18
