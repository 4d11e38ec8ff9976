abbrev zR_sum (l : Launch) (nv : Nat) : Prop := ∀ (D : va_G) (k : Nat → ClassId) (Γ : Nat → Option Nat) (L : List Nat) (F : Nat → va_E) (sz : Nat) (th : Nat) (d : Int32) (pr : Nat) (tk : Nat) (co : Nat) (Bt : Nat → Int32) (nt : Nat) (Nt : Nat) (cc : Int32) (σ : zSg) (fcv : Int32) (hth : Γ th = some 7) (bd : zB 0 6 d) (kpr : zfld F th 3 = .ref pr) (hpr : Γ pr = some 6) (ktk : zfld F th 4 = .ref tk) (htk : Γ tk = some 8) (kco : zfld F th 5 = .ref co) (hco : Γ co = some 1) (p_tb : zTb Γ F tk Bt nt Nt) (kcc : zfld F th 11 = .int cc) (bcc : zB 0 150 cc) (p_au : zC1 F th Nt (σ)) (hm_ : ∀ i d9, σ = .inl (i, d9) → 4 * cc.toInt + 5 ≤ zpo Bt nt i + (d.toInt)) (kfcv : zfld F pr 4 = .int fcv) (bfcv : zB 0 10 fcv) (p_fk : zFk fcv σ) (hr0 : 6 ≤ d.toInt + (nv : Int)), Met l yX7_readSum zwX7_readSum ({ frames := 10 * nv + 9, cells := 0, slots := 0, locals := 400 * nv + 300 }) (va_Pc [.ref th, .int d] (zP D k Γ L F sz)) (va_Qv (fun (u : Nat → va_E) => (∃ (c9 : Int32), zfld u th 11 = .int c9 ∧ zB 0 150 c9 ∧ (0 ≤ c9.toInt)) ∧ (∃ σ9 : zSg, zC1 u th Nt σ9 ∧ zRc (zTo Bt nt) σ [(13, d.toInt.toNat, 0, 0)] σ9 [] ∧ zss σ σ9 ∧ zCc Γ F u th (zTo Bt nt) σ σ9 (d.toInt)) ∧ True) (zQ D k Γ L F [103, 701, 702, 706, 711, 10200, 10600, 10700, 15800, 15900, 16000, 16100]) (zA L sz)) 0 0 (zA L sz)

set_option maxHeartbeats 4000000 in
set_option maxRecDepth 100000 in
theorem ze_X7_readSumWithin (l : Launch) (D : va_G) (k : Nat → ClassId) (Γ : Nat → Option Nat) (L : List Nat) (F : Nat → va_E) (sz : Nat) (th : Nat) (d : Int32) (pr : Nat) (tk : Nat) (co : Nat) (Bt : Nat → Int32) (nt : Nat) (Nt : Nat) (cc : Int32) (σ : zSg) (fcv : Int32) (nv : Nat) (hth : Γ th = some 7) (bd : zB 0 6 d) (kpr : zfld F th 3 = .ref pr) (hpr : Γ pr = some 6) (ktk : zfld F th 4 = .ref tk) (htk : Γ tk = some 8) (kco : zfld F th 5 = .ref co) (hco : Γ co = some 1) (p_tb : zTb Γ F tk Bt nt Nt) (kcc : zfld F th 11 = .int cc) (bcc : zB 0 150 cc) (p_au : zC1 F th Nt (σ)) (hm_ : ∀ i d9, σ = .inl (i, d9) → 4 * cc.toInt + 5 ≤ zpo Bt nt i + (d.toInt + 1)) (kfcv : zfld F pr 4 = .int fcv) (bfcv : zB 0 10 fcv) (p_fk : zFk fcv σ) (hr0 : 6 ≤ d.toInt + (nv : Int)) (hrec : ∀ q : Nat, nv = q + 1 → zR_sum l q) (hr1 : (6 ≤ d.toInt → ∃ q, σ = .inr q)) : Met l yX7_readSumWithin zwX7_readSumWithin ({ frames := 10 * nv + 4, cells := 0, slots := 0, locals := 400 * nv + 100 }) (va_Pc [.ref th, .int d] (zP D k Γ L F sz)) (va_Qv (fun (u : Nat → va_E) => (∃ (c9 : Int32), zfld u th 11 = .int c9 ∧ zB 0 150 c9 ∧ (0 ≤ c9.toInt)) ∧ (∃ σ9 : zSg, zC1 u th Nt σ9 ∧ zRc (zTo Bt nt) σ [(13, d.toInt.toNat + 1, 0, 0)] σ9 [] ∧ zss σ σ9 ∧ zCc Γ F u th (zTo Bt nt) σ σ9 (d.toInt + 1)) ∧ True) (zQ D k Γ L F [103, 701, 702, 706, 711, 10200, 10600, 10700, 15800, 15900, 16000, 16100]) (zA L sz)) 0 0 (zA L sz) := by
  refine Met.ofW (cc := cX7_readSumWithin) (maxL := 2) (ret := none) (by decide) rfl ?_
  intro p e s m args below meth c s₁ B hml hv
  obtain ⟨rfl, hsz, hP, hK, hLn, hE, hI⟩ := hv
  have hx := B.exec
  have hb := B.bytes
  have hr := B.returns
  have hg : ∀ w ∈ zG, w.before _ s = true := fun w h9 => atoms_spec (ws := zwX7_readSumWithin) B.pre w (List.mem_cons_of_mem _ h9)
  have hown : s.vm.findClass RX7 = some m.cls := findClass_of_methodNamed B.named
  have hlocks := B.notSynchronized
  subst hsz
  have Z : zC p m c cX7_readSumWithin 2 s _ zG RX7 D k L := ⟨⟨hx, hb, hml, hown, hg⟩, hK, hLn, hE⟩
  have h : zH D k Γ L s F s.heap [] := ⟨hP, hI, va_S.rf⟩
  have hl := lv_entry ([.ref th, .int d]) (n := 2) (Nat.le_of_ble_eq_true rfl)
  rw [lg_entry_eq]
  generalize (lg_sl ([.ref th, .int d]) ++ List.replicate (2 - (lg_sl ([.ref th, .int d])).length) Slot.unset).toArray = ls at hl ⊢
  have hl : lv_has ls 2 [(0, .ref th), (1, .int d)] := hl
  clear hP hK hLn hE hI
  generalize hargs : ([.ref th, .int d] : List Value).toArray = args at *
  refine z_start (fun R Q hRf hRl hQ => ?_)
  have hRf : R.frames = 10 * nv + 4 := hRf
  have hRl : R.locals = 400 * nv + 100 := hRl
  have h9 := h
  have hLs_ := p_tb.2.2.2.1
  obtain ⟨sz_, ksz_, tsz_⟩ := p_tb.2.2.1
  have bsz_ : zB 1 601 sz_ := ⟨by have := hLs_.1; omega, by have := hLs_.2.1; omega⟩
  obtain ⟨⟨x_1, kx_1, nx_1⟩, ⟨x_2, kx_2, nx_2⟩, ox_1⟩ := id p_au
  have gx_1 := zC1.nx p_au hLs_.1 kx_1
  have bx_1 : zB 0 600 x_1 := ⟨by omega, by have := hLs_.2.1; omega⟩
  have bx_2 := zB.all x_2
  have ad_3 := z_ad (j := 7) (c := 106) h.2.1 hth (by decide) rfl
  have ad_4 := z_ad (j := 8) (c := 107) h.2.1 hth (by decide) rfl
  have ad_5 := z_ad (j := 10) (c := 161) h.2.1 hth (by decide) rfl
  have cc0_ : zCc Γ F F th (zTo Bt nt) σ σ (d.toInt + 1) := zCc.rf kcc bcc.1 ⟨ad_3, ad_4, ad_5⟩ hm_
  have rc0_ : zRc (zTo Bt nt) σ [(13, d.toInt.toNat + 1, 0, 0)] σ [(13, d.toInt.toNat + 1, 0, 0)] := zRc.rf
  have ss0_ : zss σ σ := zss.rf
  refine lv_iload_n hx hb dX7_readSumWithin_0 rfl (lv_at hl 1 rfl) ?_
  refine lv_bipush (v := 6) hx hb dX7_readSumWithin_1 (by decide) ?_
  refine lv_icmp_ge (tgt := 13) hx hb dX7_readSumWithin_3 (by decide) (fun c_6 => ?_) (fun c_6 => ?_)
  · have c_6 := z_le c_6
    have bd_7 : zB 6 6 d := zB.leR c_6 (zBc 6 6 (by decide)) bd (by decide)
    have rc_8 : zRc (zTo Bt nt) σ [(13, d.toInt.toNat + 1, 0, 0)] σ [] := zRc.badY rc0_ (hr1 (by have := bd_7.1; have := bd_7.2; have := bcc.1; have := bcc.2; have := bfcv.1; have := bfcv.2; have := bsz_.1; have := bsz_.2; have := bx_1.1; have := bx_1.2; have := bx_2.1; have := bx_2.2; have : (6 : Int32).toInt = 6 := (by decide); omega))
    subst hQ
    exact W.vret hx hb hr (fun t ht hW => ⟨⟨F, rfl, ⟨⟨cc, kcc, bcc, (by have := bd_7.1; have := bd_7.2; have := bcc.1; have := bcc.2; have := bfcv.1; have := bfcv.2; have := bsz_.1; have := bsz_.2; have := bx_1.1; have := bx_1.2; have := bx_2.1; have := bx_2.2; have : (6 : Int32).toInt = 6 := (by decide); omega)⟩, ⟨σ, p_au, rc_8, ss0_, (cc0_.w (by have := bd_7.1; have := bd_7.2; have := bcc.1; have := bcc.2; have := bfcv.1; have := bfcv.2; have := bsz_.1; have := bsz_.2; have := bx_1.1; have := bx_1.2; have := bx_2.1; have := bx_2.2; have : (6 : Int32).toInt = 6 := (by decide); omega))⟩, trivial⟩, by rw [ht]; exact h.1, h.2.1, zFr.rf⟩, h.2.2.F ht⟩) h.2.2.2.2 dX7_readSumWithin_13
  · have c_6 := z_nle c_6
    have bd_9 : zB 0 5 d := zB.ltL c_6 bd (zBc 6 6 (by decide)) (by decide)
    refine lv_aload_n hx hb dX7_readSumWithin_6 rfl (lv_at hl 0 rfl) ?_
    refine lv_iload_n hx hb dX7_readSumWithin_7 rfl (lv_at hl 1 rfl) ?_
    refine lv_iconst (v := 1) hx hb dX7_readSumWithin_8 (by decide) ?_
    refine lv_iadd hx hb dX7_readSumWithin_9 ?_
    refine zi_add (lo := 1) (hi := 6) bd_9 (zBc 1 1 (by decide)) (by decide) (fun x_10 bx_10 tx_10 => ?_)
    refine zk_Vv (As := [.int x_10]) (rest := []) (bytes := cX7_readSum) (maxL := 4) (ret := none) Z h (hrec (nv - 1) (by have := bd_9.1; have := bd_9.2; have := bx_10.1; have := bx_10.2; have := bcc.1; have := bcc.2; have := bfcv.1; have := bfcv.2; have := bsz_.1; have := bsz_.2; have := bx_1.1; have := bx_1.2; have := bx_2.1; have := bx_2.2; have : (1 : Int32).toInt = 1 := (by decide); have : (6 : Int32).toInt = 6 := (by decide); omega) D k Γ L F s.heap.size th x_10 pr tk co Bt nt Nt cc σ fcv  hth (bx_10.w ⟨by decide, by decide⟩) kpr hpr ktk htk kco hco p_tb kcc bcc p_au (zCc.m (cc0_.w (dep' := x_10.toInt) (by have := bd_9.1; have := bd_9.2; have := bx_10.1; have := bx_10.2; have := bcc.1; have := bcc.2; have := bfcv.1; have := bfcv.2; have := bsz_.1; have := bsz_.2; have := bx_1.1; have := bx_1.2; have := bx_2.1; have := bx_2.2; have : (1 : Int32).toInt = 1 := (by decide); have : (6 : Int32).toInt = 6 := (by decide); omega)) kcc) kfcv bfcv p_fk (by have := bd_9.1; have := bd_9.2; have := bx_10.1; have := bx_10.2; have := bcc.1; have := bcc.2; have := bfcv.1; have := bfcv.2; have := bsz_.1; have := bsz_.2; have := bx_1.1; have := bx_1.2; have := bx_2.1; have := bx_2.2; have : (1 : Int32).toInt = 1 := (by decide); have : (6 : Int32).toInt = 6 := (by decide); omega)) (cwV 1 hg zv_RX7_161 rfl rfl rfl zd_X7_readSum ⟨z_leR hRf (by have := bd_9.1; have := bd_9.2; have := bx_10.1; have := bx_10.2; have := bcc.1; have := bcc.2; have := bfcv.1; have := bfcv.2; have := bsz_.1; have := bsz_.2; have := bx_1.1; have := bx_1.2; have := bx_2.1; have := bx_2.2; have : (1 : Int32).toInt = 1 := (by decide); have : (6 : Int32).toInt = 6 := (by decide); dsimp only; omega), z_leR hRl (by have := bd_9.1; have := bd_9.2; have := bx_10.1; have := bx_10.2; have := bcc.1; have := bcc.2; have := bfcv.1; have := bfcv.2; have := bsz_.1; have := bsz_.2; have := bx_1.1; have := bx_1.2; have := bx_2.1; have := bx_2.2; have : (1 : Int32).toInt = 1 := (by decide); have : (6 : Int32).toInt = 6 := (by decide); dsimp only; omega)⟩) hth (by decide) rfl rfl hl.1 rfl (Nat.le_of_ble_eq_true rfl) dX7_readSumWithin_10 ⟨Nat.zero_le _, Nat.zero_le _⟩ (fun F_11 H locs w_12 h hfF_11 => ?_)
    obtain ⟨⟨x_14, kx_14, bx_14, q_13⟩, ⟨σ_16, c1_16, rn_16, st_16, cn_16⟩, -⟩ := w_12
    have rc_16 : zRc (zTo Bt nt) σ [(13, d.toInt.toNat + 1, 0, 0)] σ_16 [] := zRc.calls rc0_ (rn_16.x (zSy_eq (by have := bd_9.1; have := bd_9.2; have := bx_10.1; have := bx_10.2; have := bcc.1; have := bcc.2; have := bfcv.1; have := bfcv.2; have := bx_14.1; have := bx_14.2; have := bsz_.1; have := bsz_.2; have : (1 : Int32).toInt = 1 := (by decide); have : (6 : Int32).toInt = 6 := (by decide); omega) (by have := bd_9.1; have := bd_9.2; have := bx_10.1; have := bx_10.2; have := bcc.1; have := bcc.2; have := bfcv.1; have := bfcv.2; have := bx_14.1; have := bx_14.2; have := bsz_.1; have := bsz_.2; have : (1 : Int32).toInt = 1 := (by decide); have : (6 : Int32).toInt = 6 := (by decide); omega) (by have := bd_9.1; have := bd_9.2; have := bx_10.1; have := bx_10.2; have := bcc.1; have := bcc.2; have := bfcv.1; have := bfcv.2; have := bx_14.1; have := bx_14.2; have := bsz_.1; have := bsz_.2; have : (1 : Int32).toInt = 1 := (by decide); have : (6 : Int32).toInt = 6 := (by decide); omega)))
    have ss_16 : zss σ σ_16 := ss0_.trans st_16
    have cc_16 : zCc Γ F F_11 th (zTo Bt nt) σ (σ_16) (x_10.toInt) := zCc.call cc0_ cn_16
    obtain ⟨⟨x_17, kx_17, nx_17⟩, ⟨x_18, kx_18, nx_18⟩, ox_17⟩ := id c1_16
    have gx_17 := zC1.nx c1_16 hLs_.1 kx_17
    have bx_17 : zB 0 600 x_17 := ⟨by omega, by have := hLs_.2.1; omega⟩
    have bx_18 := zB.all x_18
    have mo_16 := zss.nx st_16 ox_1 ox_17
    subst hQ
    exact W.vret hx hb hr (fun t ht hW => ⟨⟨F_11, rfl, ⟨⟨x_14, kx_14, bx_14, (by have := bd_9.1; have := bd_9.2; have := bx_14.1; have := bx_14.2; have := bfcv.1; have := bfcv.2; have := bsz_.1; have := bsz_.2; have := bx_17.1; have := bx_17.2; have := bx_18.1; have := bx_18.2; have := bcc.1; have := bcc.2; have : (1 : Int32).toInt = 1 := (by decide); have : (6 : Int32).toInt = 6 := (by decide); omega)⟩, ⟨σ_16, c1_16, rc_16, ss_16, (cc_16.w (by have := bd_9.1; have := bd_9.2; have := bx_14.1; have := bx_14.2; have := bfcv.1; have := bfcv.2; have := bsz_.1; have := bsz_.2; have := bx_17.1; have := bx_17.2; have := bx_18.1; have := bx_18.2; have := bcc.1; have := bcc.2; have : (1 : Int32).toInt = 1 := (by decide); have : (6 : Int32).toInt = 6 := (by decide); omega))⟩, trivial⟩, by rw [ht]; exact h.1, h.2.1, hfF_11⟩, h.2.2.F ht⟩) h.2.2.2.2 dX7_readSumWithin_13

set_option maxHeartbeats 4000000 in
set_option maxRecDepth 100000 in
theorem ze_X7_readSums (l : Launch) (D : va_G) (k : Nat → ClassId) (Γ : Nat → Option Nat) (L : List Nat) (F : Nat → va_E) (sz : Nat) (th : Nat) (d : Int32) (pr : Nat) (tk : Nat) (co : Nat) (Bt : Nat → Int32) (nt : Nat) (Nt : Nat) (cc : Int32) (σ : zSg) (fcv : Int32) (tn : Nat) (nv : Nat) (hth : Γ th = some 7) (bd : zB 0 6 d) (kpr : zfld F th 3 = .ref pr) (hpr : Γ pr = some 6) (ktk : zfld F th 4 = .ref tk) (htk : Γ tk = some 8) (kco : zfld F th 5 = .ref co) (hco : Γ co = some 1) (p_tb : zTb Γ F tk Bt nt Nt) (kcc : zfld F th 11 = .int cc) (bcc : zB 0 150 cc) (p_au : zC1 F th Nt (σ)) (hm_ : ∀ i d9, σ = .inl (i, d9) → 4 * cc.toInt + 5 ≤ zpo Bt nt i + (d.toInt + 1)) (kfcv : zfld F pr 4 = .int fcv) (bfcv : zB 0 10 fcv) (p_fk : zFk fcv σ) (hr0 : 6 ≤ d.toInt + (nv : Int)) (hrec : ∀ q : Nat, nv = q + 1 → zR_sum l q) (hr1 : (6 ≤ d.toInt → ∃ q, σ = .inr q)) : Met l yX7_readSums zwX7_readSums ({ frames := 10 * nv + 5, cells := 0, slots := 0, locals := 400 * nv + 140 }) (va_Pc [.ref th, .int d] (zP D k Γ L F sz)) (va_Qi (fun (r : Int32) (u : Nat → va_E) => zB 0 3 r ∧ (∃ (c9 : Int32), zfld u th 11 = .int c9 ∧ zB 0 150 c9 ∧ (0 ≤ c9.toInt)) ∧ (∃ σ9 : zSg, zC1 u th Nt σ9 ∧ zRc (zTo Bt nt) σ [(19, d.toInt.toNat, tn, 0)] σ9 [(6, 41, 0, 0), (21, tn, r.toInt.toNat, 0)] ∧ zss σ σ9 ∧ zCc Γ F u th (zTo Bt nt) σ σ9 (d.toInt + 1)) ∧ True) (zQ D k Γ L F [103, 701, 702, 706, 711, 10200, 10600, 10700, 15800, 15900, 16000, 16100]) (zA L sz)) 0 0 (zA L sz) := by
  refine Met.ofW (cc := cX7_readSums) (maxL := 4) (ret := (some .int)) (by decide) rfl ?_
  intro p e s m args below meth c s₁ B hml hv
  obtain ⟨rfl, hsz, hP, hK, hLn, hE, hI⟩ := hv
  have hx := B.exec
  have hb := B.bytes
  have hr := B.returns
  have hg : ∀ w ∈ zG, w.before _ s = true := fun w h9 => atoms_spec (ws := zwX7_readSums) B.pre w (List.mem_cons_of_mem _ h9)
  have hown : s.vm.findClass RX7 = some m.cls := findClass_of_methodNamed B.named
  have hlocks := B.notSynchronized
  subst hsz
  have Z : zC p m c cX7_readSums 4 s _ zG RX7 D k L := ⟨⟨hx, hb, hml, hown, hg⟩, hK, hLn, hE⟩
  have h : zH D k Γ L s F s.heap [] := ⟨hP, hI, va_S.rf⟩
  have hl := lv_entry ([.ref th, .int d]) (n := 4) (Nat.le_of_ble_eq_true rfl)
  rw [lg_entry_eq]
  generalize (lg_sl ([.ref th, .int d]) ++ List.replicate (4 - (lg_sl ([.ref th, .int d])).length) Slot.unset).toArray = ls at hl ⊢
  have hl : lv_has ls 4 [(0, .ref th), (1, .int d)] := hl
  clear hP hK hLn hE hI
  generalize hargs : ([.ref th, .int d] : List Value).toArray = args at *
  refine z_start (fun R Q hRf hRl hQ => ?_)
  have hRf : R.frames = 10 * nv + 5 := hRf
  have hRl : R.locals = 400 * nv + 140 := hRl
  have h9 := h
  have hLs_ := p_tb.2.2.2.1
  obtain ⟨sz_, ksz_, tsz_⟩ := p_tb.2.2.1
  have bsz_ : zB 1 601 sz_ := ⟨by have := hLs_.1; omega, by have := hLs_.2.1; omega⟩
  obtain ⟨⟨x_1, kx_1, nx_1⟩, ⟨x_2, kx_2, nx_2⟩, ox_1⟩ := id p_au
  have gx_1 := zC1.nx p_au hLs_.1 kx_1
  have bx_1 : zB 0 600 x_1 := ⟨by omega, by have := hLs_.2.1; omega⟩
  have bx_2 := zB.all x_2
  have ad_3 := z_ad (j := 7) (c := 106) h.2.1 hth (by decide) rfl
  have ad_4 := z_ad (j := 8) (c := 107) h.2.1 hth (by decide) rfl
  have ad_5 := z_ad (j := 10) (c := 161) h.2.1 hth (by decide) rfl
  have cc0_ : zCc Γ F F th (zTo Bt nt) σ σ (d.toInt + 1) := zCc.rf kcc bcc.1 ⟨ad_3, ad_4, ad_5⟩ hm_
  have rc0_ : zRc (zTo Bt nt) σ [(19, d.toInt.toNat, tn, 0)] σ [(19, d.toInt.toNat, tn, 0)] := zRc.rf
  have ss0_ : zss σ σ := zss.rf
  refine lv_aload_n hx hb dX7_readSums_0 rfl (lv_at hl 0 rfl) ?_
  refine zk_Vi (As := []) (rest := []) (bytes := cX7_kind) (maxL := 2) (ret := (some .int)) Z h (ze_X7_kind l D k Γ L F s.heap.size th tk Bt nt Nt σ hth ktk htk p_tb p_au) (cwV 0 hg zv_RX7_65 rfl rfl rfl zd_X7_kind ⟨z_leR hRf (by have := bd.1; have := bd.2; have := bcc.1; have := bcc.2; have := bfcv.1; have := bfcv.2; have := bsz_.1; have := bsz_.2; have := bx_1.1; have := bx_1.2; have := bx_2.1; have := bx_2.2; dsimp only; omega), z_leR hRl (by have := bd.1; have := bd.2; have := bcc.1; have := bcc.2; have := bfcv.1; have := bfcv.2; have := bsz_.1; have := bsz_.2; have := bx_1.1; have := bx_1.2; have := bx_2.1; have := bx_2.2; dsimp only; omega)⟩) hth (by decide) rfl rfl hl.1 rfl (Nat.le_of_ble_eq_true rfl) dX7_readSums_1 ⟨Nat.zero_le _, Nat.zero_le _⟩ (fun r_6 F_7 H locs w_8 h hfF_7 => ?_)
  obtain ⟨rfl, q_9, -⟩ := w_8
  have br_6 := zB.all r_6
  refine lv_bipush (v := 41) hx hb dX7_readSums_4 (by decide) ?_
  refine lv_icmp_ne (tgt := 11) hx hb dX7_readSums_6 (by decide) (fun c_10 => ?_) (fun c_10 => ?_)
  · have c_10 := z_ne c_10
    have rc_11 : zRc (zTo Bt nt) σ [(19, d.toInt.toNat, tn, 0)] σ [(13, d.toInt.toNat + 1, 0, 0), (20, d.toInt.toNat, tn, 1)] := zRc.sums1 (N := Nt) rc0_ (by have := bd.1; have := bd.2; have := br_6.1; have := br_6.2; have := bcc.1; have := bcc.2; have := bfcv.1; have := bfcv.2; have := bsz_.1; have := bsz_.2; have := bx_1.1; have := bx_1.2; have := bx_2.1; have := bx_2.2; have : (41 : Int32).toInt = 41 := (by decide); omega)
    refine lv_aload_n hx hb dX7_readSums_11 rfl (lv_at hl 0 rfl) ?_
    refine lv_iload_n hx hb dX7_readSums_12 rfl (lv_at hl 1 rfl) ?_
    refine zk_Vv (As := [.int d]) (rest := []) (bytes := cX7_readSumWithin) (maxL := 2) (ret := none) Z h (ze_X7_readSumWithin l D k Γ L F H.size th d pr tk co Bt nt Nt cc σ fcv nv hth bd kpr hpr ktk htk kco hco p_tb kcc bcc p_au (zCc.m (cc0_.w (dep' := d.toInt + 1) (by have := bd.1; have := bd.2; have := bcc.1; have := bcc.2; have := br_6.1; have := br_6.2; have := bfcv.1; have := bfcv.2; have := bsz_.1; have := bsz_.2; have := bx_1.1; have := bx_1.2; have := bx_2.1; have := bx_2.2; have : (41 : Int32).toInt = 41 := (by decide); omega)) kcc) kfcv bfcv p_fk (by have := bd.1; have := bd.2; have := bcc.1; have := bcc.2; have := bfcv.1; have := bfcv.2; have := br_6.1; have := br_6.2; have := bsz_.1; have := bsz_.2; have := bx_1.1; have := bx_1.2; have := bx_2.1; have := bx_2.2; have : (41 : Int32).toInt = 41 := (by decide); omega) hrec hr1) (cwV 1 hg zv_RX7_191 rfl rfl rfl zd_X7_readSumWithin ⟨z_leR hRf (by have := bd.1; have := bd.2; have := br_6.1; have := br_6.2; have := bcc.1; have := bcc.2; have := bfcv.1; have := bfcv.2; have := bsz_.1; have := bsz_.2; have := bx_1.1; have := bx_1.2; have := bx_2.1; have := bx_2.2; have : (41 : Int32).toInt = 41 := (by decide); dsimp only; omega), z_leR hRl (by have := bd.1; have := bd.2; have := br_6.1; have := br_6.2; have := bcc.1; have := bcc.2; have := bfcv.1; have := bfcv.2; have := bsz_.1; have := bsz_.2; have := bx_1.1; have := bx_1.2; have := bx_2.1; have := bx_2.2; have : (41 : Int32).toInt = 41 := (by decide); dsimp only; omega)⟩) hth (by decide) rfl rfl hl.1 rfl (Nat.le_of_ble_eq_true rfl) dX7_readSums_13 ⟨Nat.zero_le _, Nat.zero_le _⟩ (fun F_12 H locs w_13 h hfF_12 => ?_)
    obtain ⟨⟨x_15, kx_15, bx_15, q_14⟩, ⟨σ_17, c1_17, rn_17, st_17, cn_17⟩, -⟩ := w_13
    have rc_17 : zRc (zTo Bt nt) σ [(19, d.toInt.toNat, tn, 0)] σ_17 [(20, d.toInt.toNat, tn, 1)] := zRc.calls rc_11 (rn_17.x (zSy_eq (by have := bd.1; have := bd.2; have := bcc.1; have := bcc.2; have := bfcv.1; have := bfcv.2; have := bx_15.1; have := bx_15.2; have := br_6.1; have := br_6.2; have := bsz_.1; have := bsz_.2; have : (41 : Int32).toInt = 41 := (by decide); omega) (by have := bd.1; have := bd.2; have := bcc.1; have := bcc.2; have := bfcv.1; have := bfcv.2; have := bx_15.1; have := bx_15.2; have := br_6.1; have := br_6.2; have := bsz_.1; have := bsz_.2; have : (41 : Int32).toInt = 41 := (by decide); omega) (by have := bd.1; have := bd.2; have := bcc.1; have := bcc.2; have := bfcv.1; have := bfcv.2; have := bx_15.1; have := bx_15.2; have := br_6.1; have := br_6.2; have := bsz_.1; have := bsz_.2; have : (41 : Int32).toInt = 41 := (by decide); omega)))
    have ss_17 : zss σ σ_17 := ss0_.trans st_17
    have cc_17 : zCc Γ F F_12 th (zTo Bt nt) σ (σ_17) (d.toInt + 1) := zCc.call cc0_ cn_17
    obtain ⟨⟨x_18, kx_18, nx_18⟩, ⟨x_19, kx_19, nx_19⟩, ox_18⟩ := id c1_17
    have gx_18 := zC1.nx c1_17 hLs_.1 kx_18
    have bx_18 : zB 0 600 x_18 := ⟨by omega, by have := hLs_.2.1; omega⟩
    have bx_19 := zB.all x_19
    have mo_17 := zss.nx st_17 ox_1 ox_18
    have hop_20 : 6 ≤ d.toInt → ∃ q, σ_17 = .inr q := fun h9 => zss.stay st_17 (hr1 h9)
    refine lv_iconst (v := 1) hx hb dX7_readSums_16 (by decide) ?_
    refine lv_istore_n (lv' := [(2, .int 1), (0, .ref th), (1, .int d)]) hx hb dX7_readSums_17 rfl hl (by decide) rfl (fun ls hl => ?_)
    refine lv_iconst (v := 0) hx hb dX7_readSums_18 (by decide) ?_
    refine lv_istore_n (lv' := [(3, .int 0), (2, .int 1), (0, .ref th), (1, .int d)]) hx hb dX7_readSums_19 rfl hl (by decide) rfl (fun ls hl => ?_)
    have j_j20_21 : ∀ (n : Nat) (ls : Array Slot) (y3_j20_21 : Int32) (y2_j20_21 : Int32) (kc_j20_21 : Int32) (σ_j20_21 : zSg) (F_22 : Nat → va_E) (H : Heap) (locs : List Loc), lv_has ls 4 [(3, .int y3_j20_21), (2, .int y2_j20_21), (0, .ref th), (1, .int d)] → zB 0 601 y3_j20_21 → zB 1 3 y2_j20_21 → zH D k Γ L s F_22 H locs → zFr Γ [103, 701, 702, 706, 711, 10200, 10600, 10700, 15800, 15900, 16000, 16100] F_12 F_22 → zfld F_22 th 11 = .int kc_j20_21 → zB 0 150 kc_j20_21 → (y3_j20_21.toInt ≤ znx Nt σ_j20_21) → (6 ≤ d.toInt → ∃ q, σ_j20_21 = .inr q) → zC1 F_22 th Nt (σ_j20_21) → zRc (zTo Bt nt) σ [(19, d.toInt.toNat, tn, 0)] σ_j20_21 [(20, d.toInt.toNat, tn, y2_j20_21.toInt.toNat)] → zss σ σ_j20_21 → zCc Γ F F_22 th (zTo Bt nt) σ (σ_j20_21) (d.toInt + 1) → zFk fcv σ_j20_21 → (2147483647 - y3_j20_21.toInt).toNat = n → W p l e R s m args below meth c H locs 0 0 Q (F0 m 20 ls []) := by
      intro n
      induction n using Nat.strongRecOn with
      | _ n ih_j20_21 =>
        intro ls y3_j20_21 y2_j20_21 kc_j20_21 σ_j20_21 F_22 H locs hl by3_j20_21 by2_j20_21 h hfF_22 hkc_j20_21 bkc_j20_21 r0_j20_21 r1_j20_21 c1_j20_21 rc_j20_21 ss_j20_21 cc_j20_21 fk_j20_21 hn_j20_21
        obtain ⟨⟨x_23, kx_23, nx_23⟩, ⟨x_24, kx_24, nx_24⟩, ox_23⟩ := id c1_j20_21
        have gx_23 := zC1.nx c1_j20_21 hLs_.1 kx_23
        have bx_23 : zB 0 600 x_23 := ⟨by omega, by have := hLs_.2.1; omega⟩
        have bx_24 := zB.all x_24
        refine lv_iload_n hx hb dX7_readSums_20 rfl (lv_at hl 0 rfl) ?_
        refine lv_aload_n hx hb dX7_readSums_21 rfl (lv_at hl 2 rfl) ?_
        refine zt_getk (t := 7) (C := RX7) (T := TX7) (N := 12) Z h hth zin_7 rfl 4 (hfF_22.f hth 4 ⟨by decide, by decide⟩ (hfF_12.f hth 4 ⟨by decide, by decide⟩ ktk)) ⟨by decide, rfl, by decide⟩ (zm_RX7 (List.mem_of_getElem? (i := 4) rfl)) (fun _ h9 => h9) dX7_readSums_22 ?_
        refine zt_getk (t := 8) (C := RX8) (T := TX8) (N := 6) Z h htk zin_8 rfl 5 (hfF_22.f htk 5 ⟨by decide, by decide⟩ (hfF_12.f htk 5 ⟨by decide, by decide⟩ ksz_)) ⟨by decide, rfl, by decide⟩ (zm_RX7 (List.mem_of_getElem? (i := 56) rfl)) (fun _ h9 => h9) dX7_readSums_25 ?_
        refine lv_icmp_ge (tgt := 91) hx hb dX7_readSums_28 (by decide) (fun c_25 => ?_) (fun c_25 => ?_)
        · have c_25 := z_le c_25
          have by3_j20_21_26 : zB 1 601 y3_j20_21 := zB.leR c_25 bsz_ by3_j20_21 (by decide)
          exfalso
          have := by3_j20_21_26.1; have := by3_j20_21_26.2; have := by2_j20_21.1; have := by2_j20_21.2; have := bd.1; have := bd.2; have := bx_23.1; have := bx_23.2; have := br_6.1; have := br_6.2; have := bkc_j20_21.1; have := bkc_j20_21.2; have := bfcv.1; have := bfcv.2; have := bsz_.1; have := bsz_.2; have := bx_24.1; have := bx_24.2; have := bcc.1; have := bcc.2; have : (41 : Int32).toInt = 41 := (by decide); omega
        · have c_25 := z_nle c_25
          have by3_j20_21_27 : zB 0 600 y3_j20_21 := zB.ltL c_25 by3_j20_21 bsz_ (by decide)
          refine lv_aload_n hx hb dX7_readSums_31 rfl (lv_at hl 2 rfl) ?_
          have p_28 := ((p_tb.fr hfF_12 htk (by decide)).fr hfF_22 htk (by decide))
          refine zk_Vi (As := []) (rest := []) (bytes := cX7_kind) (maxL := 2) (ret := (some .int)) Z h (ze_X7_kind l D k Γ L F_22 H.size th tk Bt nt Nt σ_j20_21 hth (hfF_22.f hth 4 ⟨by decide, by decide⟩ (hfF_12.f hth 4 ⟨by decide, by decide⟩ ktk)) htk p_28 c1_j20_21) (cwV 0 hg zv_RX7_65 rfl rfl rfl zd_X7_kind ⟨z_leR hRf (by have := by3_j20_21_27.1; have := by3_j20_21_27.2; have := by2_j20_21.1; have := by2_j20_21.2; have := bd.1; have := bd.2; have := br_6.1; have := br_6.2; have := bkc_j20_21.1; have := bkc_j20_21.2; have := bfcv.1; have := bfcv.2; have := bsz_.1; have := bsz_.2; have := bx_23.1; have := bx_23.2; have := bx_24.1; have := bx_24.2; have := bcc.1; have := bcc.2; have : (41 : Int32).toInt = 41 := (by decide); dsimp only; omega), z_leR hRl (by have := by3_j20_21_27.1; have := by3_j20_21_27.2; have := by2_j20_21.1; have := by2_j20_21.2; have := bd.1; have := bd.2; have := br_6.1; have := br_6.2; have := bkc_j20_21.1; have := bkc_j20_21.2; have := bfcv.1; have := bfcv.2; have := bsz_.1; have := bsz_.2; have := bx_23.1; have := bx_23.2; have := bx_24.1; have := bx_24.2; have := bcc.1; have := bcc.2; have : (41 : Int32).toInt = 41 := (by decide); dsimp only; omega)⟩) hth (by decide) rfl rfl hl.1 rfl (Nat.le_of_ble_eq_true rfl) dX7_readSums_32 ⟨Nat.zero_le _, Nat.zero_le _⟩ (fun r_29 F_30 H locs w_31 h hfF_30 => ?_)
          obtain ⟨rfl, q_32, -⟩ := w_31
          have br_29 := zB.all r_29
          refine lv_bipush (v := 44) hx hb dX7_readSums_35 (by decide) ?_
          refine lv_icmp_ne (tgt := 91) hx hb dX7_readSums_37 (by decide) (fun c_33 => ?_) (fun c_33 => ?_)
          · have c_33 := z_ne c_33
            have rc_34 : zRc (zTo Bt nt) σ [(19, d.toInt.toNat, tn, 0)] σ_j20_21 [(6, 41, 0, 0), (21, tn, y2_j20_21.toInt.toNat, 0)] := zRc.sumsT0 (N := Nt) rc_j20_21 (by have := by3_j20_21_27.1; have := by3_j20_21_27.2; have := by2_j20_21.1; have := by2_j20_21.2; have := bd.1; have := bd.2; have := br_6.1; have := br_6.2; have := br_29.1; have := br_29.2; have := bkc_j20_21.1; have := bkc_j20_21.2; have := bfcv.1; have := bfcv.2; have := bsz_.1; have := bsz_.2; have := bx_23.1; have := bx_23.2; have := bx_24.1; have := bx_24.2; have := bcc.1; have := bcc.2; have : (41 : Int32).toInt = 41 := (by decide); have : (44 : Int32).toInt = 44 := (by decide); omega)
            refine lv_iload_n hx hb dX7_readSums_91 rfl (lv_at hl 1 rfl) ?_
            subst hQ
            exact W.iret (v := y2_j20_21) hx hb hr (fun t ht hW => ⟨⟨y2_j20_21, F_22, rfl, ⟨(by2_j20_21.w ⟨by decide, by decide⟩), ⟨kc_j20_21, hkc_j20_21, bkc_j20_21, (by have := by3_j20_21_27.1; have := by3_j20_21_27.2; have := by2_j20_21.1; have := by2_j20_21.2; have := bd.1; have := bd.2; have := bkc_j20_21.1; have := bkc_j20_21.2; have := br_6.1; have := br_6.2; have := br_29.1; have := br_29.2; have := bfcv.1; have := bfcv.2; have := bsz_.1; have := bsz_.2; have := bx_23.1; have := bx_23.2; have := bx_24.1; have := bx_24.2; have := bcc.1; have := bcc.2; have : (41 : Int32).toInt = 41 := (by decide); have : (44 : Int32).toInt = 44 := (by decide); omega)⟩, ⟨σ_j20_21, c1_j20_21, rc_34, ss_j20_21, (cc_j20_21.w (by have := by3_j20_21_27.1; have := by3_j20_21_27.2; have := by2_j20_21.1; have := by2_j20_21.2; have := bd.1; have := bd.2; have := br_6.1; have := br_6.2; have := br_29.1; have := br_29.2; have := bkc_j20_21.1; have := bkc_j20_21.2; have := bfcv.1; have := bfcv.2; have := bsz_.1; have := bsz_.2; have := bx_23.1; have := bx_23.2; have := bx_24.1; have := bx_24.2; have := bcc.1; have := bcc.2; have : (41 : Int32).toInt = 41 := (by decide); have : (44 : Int32).toInt = 44 := (by decide); omega))⟩, trivial⟩, by rw [ht]; exact h.1, h.2.1, (hfF_12.trans hfF_22 (by decide))⟩, h.2.2.F ht⟩) h.2.2.2.2 dX7_readSums_92
          · have c_33 := z_eq c_33
            have br_29_35 : zB 44 44 r_29 := zB.eqL (a := 0) (b := 0) c_33 (zBc 44 44 (by decide))
            refine lv_aload_n hx hb dX7_readSums_40 rfl (lv_at hl 2 rfl) ?_
            refine lv_dup hx hb dX7_readSums_41 rfl ?_
            refine zt_getk (t := 7) (C := RX7) (T := TX7) (N := 12) Z h hth zin_7 rfl 6 kx_23 ⟨by decide, rfl, by decide⟩ (zm_RX7 (List.mem_of_getElem? (i := 9) rfl)) (fun _ h9 => h9) dX7_readSums_42 ?_
            refine lv_iconst (v := 1) hx hb dX7_readSums_45 (by decide) ?_
            refine lv_iadd hx hb dX7_readSums_46 ?_
            refine zi_add (lo := 1) (hi := 601) bx_23 (zBc 1 1 (by decide)) (by decide) (fun x_36 bx_36 tx_36 => ?_)
            refine zt_put (t := 7) (C := RX7) (T := TX7) (N := 12) (v := .int x_36) Z h hth zin_7 tyX7 tyX7_ok nmX7 rfl 6 rfl ⟨by decide, rfl⟩ (zm_RX7 (List.mem_of_getElem? (i := 9) rfl)) (fun _ h9 => h9) rfl (zV.i (bx_36.w ⟨by decide, by decide⟩)) rfl rfl dX7_readSums_47 (fun H locs F_37 h hfF_37 kF_37 => ?_)
            have c1_38 : zC1 F_37 th Nt (zadv σ_j20_21) := (zC1.adv (T := zTo Bt nt) c1_j20_21 hfF_37 hth (by decide) kx_23 kF_37 (by have := by3_j20_21_27.1; have := by3_j20_21_27.2; have := by2_j20_21.1; have := by2_j20_21.2; have := bd.1; have := bd.2; have := bx_23.1; have := bx_23.2; have := br_6.1; have := br_6.2; have := br_29_35.1; have := br_29_35.2; have := bkc_j20_21.1; have := bkc_j20_21.2; have := bfcv.1; have := bfcv.2; have := bsz_.1; have := bsz_.2; have := bx_36.1; have := bx_36.2; have := bx_24.1; have := bx_24.2; have := bcc.1; have := bcc.2; have : (1 : Int32).toInt = 1 := (by decide); have : (41 : Int32).toInt = 41 := (by decide); have : (44 : Int32).toInt = 44 := (by decide); omega) hLs_ ⟨by have := by3_j20_21_27.1; have := by3_j20_21_27.2; have := by2_j20_21.1; have := by2_j20_21.2; have := bd.1; have := bd.2; have := bx_23.1; have := bx_23.2; have := br_6.1; have := br_6.2; have := br_29_35.1; have := br_29_35.2; have := bkc_j20_21.1; have := bkc_j20_21.2; have := bfcv.1; have := bfcv.2; have := bsz_.1; have := bsz_.2; have := bx_36.1; have := bx_36.2; have := bx_24.1; have := bx_24.2; have := bcc.1; have := bcc.2; have : (1 : Int32).toInt = 1 := (by decide); have : (41 : Int32).toInt = 41 := (by decide); have : (44 : Int32).toInt = 44 := (by decide); omega, by have := by3_j20_21_27.1; have := by3_j20_21_27.2; have := by2_j20_21.1; have := by2_j20_21.2; have := bd.1; have := bd.2; have := bx_23.1; have := bx_23.2; have := br_6.1; have := br_6.2; have := br_29_35.1; have := br_29_35.2; have := bkc_j20_21.1; have := bkc_j20_21.2; have := bfcv.1; have := bfcv.2; have := bsz_.1; have := bsz_.2; have := bx_36.1; have := bx_36.2; have := bx_24.1; have := bx_24.2; have := bcc.1; have := bcc.2; have : (1 : Int32).toInt = 1 := (by decide); have : (41 : Int32).toInt = 41 := (by decide); have : (44 : Int32).toInt = 44 := (by decide); omega⟩)
            have st_38 : zss σ_j20_21 (zadv σ_j20_21) := zsm.adv.ss
            have ss_38 : zss σ (zadv σ_j20_21) := ss_j20_21.trans st_38
            have cc_38 : zCc Γ F F_37 th (zTo Bt nt) σ (zadv σ_j20_21) (d.toInt + 1) := (cc_j20_21.mv hfF_37 hth (by decide) (zTo_P Bt nt) zsm.adv.cs)
            obtain ⟨σ_38, hσ_38⟩ : ∃ z, z = zadv σ_j20_21 := ⟨_, rfl⟩
            rw [← hσ_38] at c1_38 st_38 ss_38 cc_38
            obtain ⟨⟨x_39, kx_39, nx_39⟩, ⟨x_40, kx_40, nx_40⟩, ox_39⟩ := id c1_38
            have gx_39 := zC1.nx c1_38 hLs_.1 kx_39
            have bx_39 : zB 0 600 x_39 := ⟨by omega, by have := hLs_.2.1; omega⟩
            have bx_40 := zB.all x_40
            have vx_39 := congrArg Int32.toInt (z_same kF_37 kx_39)
            have mo_38 := zss.nx st_38 ox_23 ox_39
            refine lv_iload_n hx hb dX7_readSums_50 rfl (lv_at hl 1 rfl) ?_
            refine lv_iconst (v := 3) hx hb dX7_readSums_51 (by decide) ?_
            refine lv_icmp_lt (tgt := 77) hx hb dX7_readSums_52 (by decide) (fun c_41 => ?_) (fun c_41 => ?_)
            · have c_41 := z_lt c_41
              have by2_j20_21_42 : zB 1 2 y2_j20_21 := zB.ltL c_41 by2_j20_21 (zBc 3 3 (by decide)) (by decide)
              have rc_43 : zRc (zTo Bt nt) σ [(19, d.toInt.toNat, tn, 0)] σ_38 [(13, d.toInt.toNat + 1, 0, 0), (20, d.toInt.toNat, tn, y2_j20_21.toInt.toNat + 1)] := by rw [hσ_38]; exact zRc.sumsT1 (N := Nt) rc_j20_21 (by have := by3_j20_21_27.1; have := by3_j20_21_27.2; have := by2_j20_21_42.1; have := by2_j20_21_42.2; have := bd.1; have := bd.2; have := br_6.1; have := br_6.2; have := br_29_35.1; have := br_29_35.2; have := bkc_j20_21.1; have := bkc_j20_21.2; have := bfcv.1; have := bfcv.2; have := bsz_.1; have := bsz_.2; have := bx_39.1; have := bx_39.2; have := bx_40.1; have := bx_40.2; have := bcc.1; have := bcc.2; have : (1 : Int32).toInt = 1 := (by decide); have : (3 : Int32).toInt = 3 := (by decide); have : (41 : Int32).toInt = 41 := (by decide); have : (44 : Int32).toInt = 44 := (by decide); omega) (by have := by3_j20_21_27.1; have := by3_j20_21_27.2; have := by2_j20_21_42.1; have := by2_j20_21_42.2; have := bd.1; have := bd.2; have := br_6.1; have := br_6.2; have := br_29_35.1; have := br_29_35.2; have := bkc_j20_21.1; have := bkc_j20_21.2; have := bfcv.1; have := bfcv.2; have := bsz_.1; have := bsz_.2; have := bx_39.1; have := bx_39.2; have := bx_40.1; have := bx_40.2; have := bcc.1; have := bcc.2; have : (1 : Int32).toInt = 1 := (by decide); have : (3 : Int32).toInt = 3 := (by decide); have : (41 : Int32).toInt = 41 := (by decide); have : (44 : Int32).toInt = 44 := (by decide); omega)
              have hop_44 : 6 ≤ d.toInt → ∃ q, σ_38 = .inr q := fun h9 => by rw [hσ_38]; exact zbad_adv (r1_j20_21 h9)
              refine lv_aload_n hx hb dX7_readSums_77 rfl (lv_at hl 2 rfl) ?_
              refine lv_iload_n hx hb dX7_readSums_78 rfl (lv_at hl 3 rfl) ?_
              have p_45 := (p_28.fr hfF_37 htk (by decide))
              have fk_46 := (fk_j20_21.ss st_38)
              refine zk_Vv (As := [.int d]) (rest := []) (bytes := cX7_readSumWithin) (maxL := 2) (ret := none) Z h (ze_X7_readSumWithin l D k Γ L F_37 H.size th d pr tk co Bt nt Nt kc_j20_21 σ_38 fcv nv hth bd (hfF_37.f hth 3 ⟨by decide, by decide⟩ (hfF_22.f hth 3 ⟨by decide, by decide⟩ (hfF_12.f hth 3 ⟨by decide, by decide⟩ kpr))) hpr (hfF_37.f hth 4 ⟨by decide, by decide⟩ (hfF_22.f hth 4 ⟨by decide, by decide⟩ (hfF_12.f hth 4 ⟨by decide, by decide⟩ ktk))) htk (hfF_37.f hth 5 ⟨by decide, by decide⟩ (hfF_22.f hth 5 ⟨by decide, by decide⟩ (hfF_12.f hth 5 ⟨by decide, by decide⟩ kco))) hco p_45 (hfF_37.f hth 11 ⟨by decide, by decide⟩ hkc_j20_21) bkc_j20_21 c1_38 (zCc.m (cc_38.w (dep' := d.toInt + 1) (by have := by3_j20_21_27.1; have := by3_j20_21_27.2; have := by2_j20_21_42.1; have := by2_j20_21_42.2; have := bd.1; have := bd.2; have := bkc_j20_21.1; have := bkc_j20_21.2; have := br_6.1; have := br_6.2; have := br_29_35.1; have := br_29_35.2; have := bfcv.1; have := bfcv.2; have := bsz_.1; have := bsz_.2; have := bx_39.1; have := bx_39.2; have := bx_40.1; have := bx_40.2; have := bcc.1; have := bcc.2; have : (1 : Int32).toInt = 1 := (by decide); have : (3 : Int32).toInt = 3 := (by decide); have : (41 : Int32).toInt = 41 := (by decide); have : (44 : Int32).toInt = 44 := (by decide); omega)) (hfF_37.f hth 11 ⟨by decide, by decide⟩ hkc_j20_21)) (hfF_37.f hpr 4 ⟨by decide, by decide⟩ (hfF_22.f hpr 4 ⟨by decide, by decide⟩ (hfF_12.f hpr 4 ⟨by decide, by decide⟩ kfcv))) bfcv fk_46 (by have := by3_j20_21_27.1; have := by3_j20_21_27.2; have := by2_j20_21_42.1; have := by2_j20_21_42.2; have := bd.1; have := bd.2; have := bkc_j20_21.1; have := bkc_j20_21.2; have := bfcv.1; have := bfcv.2; have := br_6.1; have := br_6.2; have := br_29_35.1; have := br_29_35.2; have := bsz_.1; have := bsz_.2; have := bx_39.1; have := bx_39.2; have := bx_40.1; have := bx_40.2; have := bcc.1; have := bcc.2; have : (1 : Int32).toInt = 1 := (by decide); have : (3 : Int32).toInt = 3 := (by decide); have : (41 : Int32).toInt = 41 := (by decide); have : (44 : Int32).toInt = 44 := (by decide); omega) hrec hop_44) (cwV 1 hg zv_RX7_191 rfl rfl rfl zd_X7_readSumWithin ⟨z_leR hRf (by have := by3_j20_21_27.1; have := by3_j20_21_27.2; have := by2_j20_21_42.1; have := by2_j20_21_42.2; have := bd.1; have := bd.2; have := br_6.1; have := br_6.2; have := br_29_35.1; have := br_29_35.2; have := bkc_j20_21.1; have := bkc_j20_21.2; have := bfcv.1; have := bfcv.2; have := bsz_.1; have := bsz_.2; have := bx_39.1; have := bx_39.2; have := bx_40.1; have := bx_40.2; have := bcc.1; have := bcc.2; have : (1 : Int32).toInt = 1 := (by decide); have : (3 : Int32).toInt = 3 := (by decide); have : (41 : Int32).toInt = 41 := (by decide); have : (44 : Int32).toInt = 44 := (by decide); dsimp only; omega), z_leR hRl (by have := by3_j20_21_27.1; have := by3_j20_21_27.2; have := by2_j20_21_42.1; have := by2_j20_21_42.2; have := bd.1; have := bd.2; have := br_6.1; have := br_6.2; have := br_29_35.1; have := br_29_35.2; have := bkc_j20_21.1; have := bkc_j20_21.2; have := bfcv.1; have := bfcv.2; have := bsz_.1; have := bsz_.2; have := bx_39.1; have := bx_39.2; have := bx_40.1; have := bx_40.2; have := bcc.1; have := bcc.2; have : (1 : Int32).toInt = 1 := (by decide); have : (3 : Int32).toInt = 3 := (by decide); have : (41 : Int32).toInt = 41 := (by decide); have : (44 : Int32).toInt = 44 := (by decide); dsimp only; omega)⟩) hth (by decide) rfl rfl hl.1 rfl (Nat.le_of_ble_eq_true rfl) dX7_readSums_79 ⟨Nat.zero_le _, Nat.zero_le _⟩ (fun F_47 H locs w_48 h hfF_47 => ?_)
              obtain ⟨⟨x_50, kx_50, bx_50, q_49⟩, ⟨σ_52, c1_52, rn_52, st_52, cn_52⟩, -⟩ := w_48
              have rc_52 : zRc (zTo Bt nt) σ [(19, d.toInt.toNat, tn, 0)] σ_52 [(20, d.toInt.toNat, tn, y2_j20_21.toInt.toNat + 1)] := zRc.calls rc_43 (rn_52.x (zSy_eq (by have := by3_j20_21_27.1; have := by3_j20_21_27.2; have := by2_j20_21_42.1; have := by2_j20_21_42.2; have := bd.1; have := bd.2; have := bkc_j20_21.1; have := bkc_j20_21.2; have := bfcv.1; have := bfcv.2; have := bx_50.1; have := bx_50.2; have := br_6.1; have := br_6.2; have := br_29_35.1; have := br_29_35.2; have := bsz_.1; have := bsz_.2; have := bcc.1; have := bcc.2; have : (1 : Int32).toInt = 1 := (by decide); have : (3 : Int32).toInt = 3 := (by decide); have : (41 : Int32).toInt = 41 := (by decide); have : (44 : Int32).toInt = 44 := (by decide); omega) (by have := by3_j20_21_27.1; have := by3_j20_21_27.2; have := by2_j20_21_42.1; have := by2_j20_21_42.2; have := bd.1; have := bd.2; have := bkc_j20_21.1; have := bkc_j20_21.2; have := bfcv.1; have := bfcv.2; have := bx_50.1; have := bx_50.2; have := br_6.1; have := br_6.2; have := br_29_35.1; have := br_29_35.2; have := bsz_.1; have := bsz_.2; have := bcc.1; have := bcc.2; have : (1 : Int32).toInt = 1 := (by decide); have : (3 : Int32).toInt = 3 := (by decide); have : (41 : Int32).toInt = 41 := (by decide); have : (44 : Int32).toInt = 44 := (by decide); omega) (by have := by3_j20_21_27.1; have := by3_j20_21_27.2; have := by2_j20_21_42.1; have := by2_j20_21_42.2; have := bd.1; have := bd.2; have := bkc_j20_21.1; have := bkc_j20_21.2; have := bfcv.1; have := bfcv.2; have := bx_50.1; have := bx_50.2; have := br_6.1; have := br_6.2; have := br_29_35.1; have := br_29_35.2; have := bsz_.1; have := bsz_.2; have := bcc.1; have := bcc.2; have : (1 : Int32).toInt = 1 := (by decide); have : (3 : Int32).toInt = 3 := (by decide); have : (41 : Int32).toInt = 41 := (by decide); have : (44 : Int32).toInt = 44 := (by decide); omega)))
              have ss_52 : zss σ σ_52 := ss_38.trans st_52
              have cc_52 : zCc Γ F F_47 th (zTo Bt nt) σ (σ_52) (d.toInt + 1) := zCc.call cc_38 cn_52
              obtain ⟨⟨x_53, kx_53, nx_53⟩, ⟨x_54, kx_54, nx_54⟩, ox_53⟩ := id c1_52
              have gx_53 := zC1.nx c1_52 hLs_.1 kx_53
              have bx_53 : zB 0 600 x_53 := ⟨by omega, by have := hLs_.2.1; omega⟩
              have bx_54 := zB.all x_54
              have mo_52 := zss.nx st_52 ox_39 ox_53
              have hop_55 : 6 ≤ d.toInt → ∃ q, σ_52 = .inr q := fun h9 => zss.stay st_52 (hop_44 h9)
              obtain ⟨x_56, ex_56, bx_56, tx_56⟩ := z_inc (n := 1) (lo := 2) (hi := 3) by2_j20_21_42 (by decide)
              refine lv_iinc (v := x_56) (lv' := [(2, .int x_56), (3, .int y3_j20_21), (0, .ref th), (1, .int d)]) hx hb dX7_readSums_82 hl (k := 1) rfl ex_56 (by decide) rfl (fun ls hl => ?_)
              obtain ⟨x_57, ex_57, bx_57, tx_57⟩ := z_inc (n := 1) (lo := 1) (hi := 601) by3_j20_21_27 (by decide)
              refine lv_iinc (v := x_57) (lv' := [(3, .int x_57), (2, .int x_56), (0, .ref th), (1, .int d)]) hx hb dX7_readSums_85 hl (k := 1) rfl ex_57 (by decide) rfl (fun ls hl => ?_)
              refine lv_goto (tgt := 20) hx hb dX7_readSums_88 (by decide) ?_
              have fk_58 := (fk_46.ss st_52)
              exact ih_j20_21 _ (by have := bx_57.1; have := bx_57.2; have := bx_56.1; have := bx_56.2; have := bd.1; have := bd.2; have := bx_50.1; have := bx_50.2; have := br_6.1; have := br_6.2; have := br_29_35.1; have := br_29_35.2; have := bfcv.1; have := bfcv.2; have := bsz_.1; have := bsz_.2; have := bx_53.1; have := bx_53.2; have := bx_54.1; have := bx_54.2; have := bcc.1; have := bcc.2; have : (1 : Int32).toInt = 1 := (by decide); have : (3 : Int32).toInt = 3 := (by decide); have : (41 : Int32).toInt = 41 := (by decide); have : (44 : Int32).toInt = 44 := (by decide); have := by3_j20_21.1; have := by3_j20_21.2; have := by2_j20_21.1; have := by2_j20_21.2; omega) ls x_57 x_56 x_50 σ_52 F_47 H locs (lv_sub hl [0, 1, 2, 3] rfl) (bx_57.w ⟨by decide, by decide⟩) (bx_56.w ⟨by decide, by decide⟩) h ((hfF_22.trans hfF_37 (by decide)).trans hfF_47 (by decide)) kx_50 bx_50 (by have := bx_57.1; have := bx_57.2; have := bx_56.1; have := bx_56.2; have := bd.1; have := bd.2; have := bx_50.1; have := bx_50.2; have := br_6.1; have := br_6.2; have := br_29_35.1; have := br_29_35.2; have := bfcv.1; have := bfcv.2; have := bsz_.1; have := bsz_.2; have := bx_53.1; have := bx_53.2; have := bx_54.1; have := bx_54.2; have := bcc.1; have := bcc.2; have : (1 : Int32).toInt = 1 := (by decide); have : (3 : Int32).toInt = 3 := (by decide); have : (41 : Int32).toInt = 41 := (by decide); have : (44 : Int32).toInt = 44 := (by decide); omega) hop_55 c1_52 (rc_52.cg (zSy_eq (by have := bx_57.1; have := bx_57.2; have := bx_56.1; have := bx_56.2; have := bd.1; have := bd.2; have := bx_50.1; have := bx_50.2; have := br_6.1; have := br_6.2; have := br_29_35.1; have := br_29_35.2; have := bfcv.1; have := bfcv.2; have := bsz_.1; have := bsz_.2; have := bx_53.1; have := bx_53.2; have := bx_54.1; have := bx_54.2; have := bcc.1; have := bcc.2; have : (1 : Int32).toInt = 1 := (by decide); have : (3 : Int32).toInt = 3 := (by decide); have : (41 : Int32).toInt = 41 := (by decide); have : (44 : Int32).toInt = 44 := (by decide); omega) (by have := bx_57.1; have := bx_57.2; have := bx_56.1; have := bx_56.2; have := bd.1; have := bd.2; have := bx_50.1; have := bx_50.2; have := br_6.1; have := br_6.2; have := br_29_35.1; have := br_29_35.2; have := bfcv.1; have := bfcv.2; have := bsz_.1; have := bsz_.2; have := bx_53.1; have := bx_53.2; have := bx_54.1; have := bx_54.2; have := bcc.1; have := bcc.2; have : (1 : Int32).toInt = 1 := (by decide); have : (3 : Int32).toInt = 3 := (by decide); have : (41 : Int32).toInt = 41 := (by decide); have : (44 : Int32).toInt = 44 := (by decide); omega) (by have := bx_57.1; have := bx_57.2; have := bx_56.1; have := bx_56.2; have := bd.1; have := bd.2; have := bx_50.1; have := bx_50.2; have := br_6.1; have := br_6.2; have := br_29_35.1; have := br_29_35.2; have := bfcv.1; have := bfcv.2; have := bsz_.1; have := bsz_.2; have := bx_53.1; have := bx_53.2; have := bx_54.1; have := bx_54.2; have := bcc.1; have := bcc.2; have : (1 : Int32).toInt = 1 := (by decide); have : (3 : Int32).toInt = 3 := (by decide); have : (41 : Int32).toInt = 41 := (by decide); have : (44 : Int32).toInt = 44 := (by decide); omega))) ss_52 (cc_52.w (by have := bx_57.1; have := bx_57.2; have := bx_56.1; have := bx_56.2; have := bd.1; have := bd.2; have := bx_50.1; have := bx_50.2; have := br_6.1; have := br_6.2; have := br_29_35.1; have := br_29_35.2; have := bfcv.1; have := bfcv.2; have := bsz_.1; have := bsz_.2; have := bx_53.1; have := bx_53.2; have := bx_54.1; have := bx_54.2; have := bcc.1; have := bcc.2; have : (1 : Int32).toInt = 1 := (by decide); have : (3 : Int32).toInt = 3 := (by decide); have : (41 : Int32).toInt = 41 := (by decide); have : (44 : Int32).toInt = 44 := (by decide); omega)) fk_58 rfl
            · have c_41 := z_nlt c_41
              have by2_j20_21_59 : zB 3 3 y2_j20_21 := zB.leR c_41 (zBc 3 3 (by decide)) by2_j20_21 (by decide)
              refine lv_aload_n hx hb dX7_readSums_55 rfl (lv_at hl 2 rfl) ?_
              refine lv_aload_n hx hb dX7_readSums_56 rfl (lv_at hl 2 rfl) ?_
              have p_60 := (p_28.fr hfF_37 htk (by decide))
              refine zk_Vi (As := []) (rest := [.ref th]) (bytes := cX7_kind) (maxL := 2) (ret := (some .int)) Z h (ze_X7_kind l D k Γ L F_37 H.size th tk Bt nt Nt σ_38 hth (hfF_37.f hth 4 ⟨by decide, by decide⟩ (hfF_22.f hth 4 ⟨by decide, by decide⟩ (hfF_12.f hth 4 ⟨by decide, by decide⟩ ktk))) htk p_60 c1_38) (cwV 0 hg zv_RX7_65 rfl rfl rfl zd_X7_kind ⟨z_leR hRf (by have := by3_j20_21_27.1; have := by3_j20_21_27.2; have := by2_j20_21_59.1; have := by2_j20_21_59.2; have := bd.1; have := bd.2; have := br_6.1; have := br_6.2; have := br_29_35.1; have := br_29_35.2; have := bkc_j20_21.1; have := bkc_j20_21.2; have := bfcv.1; have := bfcv.2; have := bsz_.1; have := bsz_.2; have := bx_39.1; have := bx_39.2; have := bx_40.1; have := bx_40.2; have := bcc.1; have := bcc.2; have : (1 : Int32).toInt = 1 := (by decide); have : (3 : Int32).toInt = 3 := (by decide); have : (41 : Int32).toInt = 41 := (by decide); have : (44 : Int32).toInt = 44 := (by decide); dsimp only; omega), z_leR hRl (by have := by3_j20_21_27.1; have := by3_j20_21_27.2; have := by2_j20_21_59.1; have := by2_j20_21_59.2; have := bd.1; have := bd.2; have := br_6.1; have := br_6.2; have := br_29_35.1; have := br_29_35.2; have := bkc_j20_21.1; have := bkc_j20_21.2; have := bfcv.1; have := bfcv.2; have := bsz_.1; have := bsz_.2; have := bx_39.1; have := bx_39.2; have := bx_40.1; have := bx_40.2; have := bcc.1; have := bcc.2; have : (1 : Int32).toInt = 1 := (by decide); have : (3 : Int32).toInt = 3 := (by decide); have : (41 : Int32).toInt = 41 := (by decide); have : (44 : Int32).toInt = 44 := (by decide); dsimp only; omega)⟩) hth (by decide) rfl rfl hl.1 rfl (Nat.le_of_ble_eq_true rfl) dX7_readSums_57 ⟨Nat.zero_le _, Nat.zero_le _⟩ (fun r_61 F_62 H locs w_63 h hfF_62 => ?_)
              obtain ⟨rfl, q_64, -⟩ := w_63
              have br_61 := zB.all r_61
              refine zk_Si (As := [.int r_61]) (rest := [.ref th]) (bytes := cX7_beginsSum) (maxL := 1) (ret := (some .boolean)) Z h (ze_X7_beginsSum l D k Γ L F_37 H.size r_61) (va_cwS 1 hg zv_RX7_203 rfl rfl rfl zd_X7_beginsSum ⟨z_leR hRf (by have := by3_j20_21_27.1; have := by3_j20_21_27.2; have := by2_j20_21_59.1; have := by2_j20_21_59.2; have := bd.1; have := bd.2; have := br_61.1; have := br_61.2; have := br_29_35.1; have := br_29_35.2; have := bkc_j20_21.1; have := bkc_j20_21.2; have := bfcv.1; have := bfcv.2; have := bsz_.1; have := bsz_.2; have := bx_39.1; have := bx_39.2; have := bx_40.1; have := bx_40.2; have := bcc.1; have := bcc.2; have : (1 : Int32).toInt = 1 := (by decide); have : (3 : Int32).toInt = 3 := (by decide); have : (41 : Int32).toInt = 41 := (by decide); have : (44 : Int32).toInt = 44 := (by decide); dsimp only; omega), z_leR hRl (by have := by3_j20_21_27.1; have := by3_j20_21_27.2; have := by2_j20_21_59.1; have := by2_j20_21_59.2; have := bd.1; have := bd.2; have := br_61.1; have := br_61.2; have := br_29_35.1; have := br_29_35.2; have := bkc_j20_21.1; have := bkc_j20_21.2; have := bfcv.1; have := bfcv.2; have := bsz_.1; have := bsz_.2; have := bx_39.1; have := bx_39.2; have := bx_40.1; have := bx_40.2; have := bcc.1; have := bcc.2; have : (1 : Int32).toInt = 1 := (by decide); have : (3 : Int32).toInt = 3 := (by decide); have : (41 : Int32).toInt = 41 := (by decide); have : (44 : Int32).toInt = 44 := (by decide); dsimp only; omega)⟩) rfl hl.1 rfl (Nat.le_of_ble_eq_true rfl) dX7_readSums_60 ⟨Nat.zero_le _, Nat.zero_le _⟩ (fun r_65 F_66 H locs w_67 h hfF_66 => ?_)
              obtain ⟨rfl, br_65, q_68, -⟩ := w_67
              refine lv_if_eq (tgt := 70) hx hb dX7_readSums_63 (by decide) (fun c_69 => ?_) (fun c_69 => ?_)
              · have c_69 := z_eq c_69
                have br_65_70 : zB 0 0 r_65 := zB.eqL (a := 0) (b := 0) c_69 (zBc 0 0 (by decide))
                have q_71 : ¬ zbeg r_61.toInt := by
                  rcases q_68 with ⟨g1, g2⟩ | ⟨g1, g2⟩
                  · exfalso; have := by3_j20_21_27.1; have := by3_j20_21_27.2; have := by2_j20_21_59.1; have := by2_j20_21_59.2; have := bd.1; have := bd.2; have := br_65_70.1; have := br_65_70.2; have := br_29_35.1; have := br_29_35.2; have := br_61.1; have := br_61.2; have := bkc_j20_21.1; have := bkc_j20_21.2; have := bfcv.1; have := bfcv.2; have := bsz_.1; have := bsz_.2; have := bx_39.1; have := bx_39.2; have := bx_40.1; have := bx_40.2; have := bcc.1; have := bcc.2; have : (0 : Int32).toInt = 0 := (by decide); have : (1 : Int32).toInt = 1 := (by decide); have : (3 : Int32).toInt = 3 := (by decide); have : (41 : Int32).toInt = 41 := (by decide); have : (44 : Int32).toInt = 44 := (by decide); omega
                  · exact g2
                refine lv_iconst (v := 1) hx hb dX7_readSums_70 (by decide) ?_
                refine zk_Vv (As := [.int 1]) (rest := []) (bytes := cX7_fail) (maxL := 2) (ret := none) Z h (ze_X7_fail l D k Γ L F_37 H.size th 1 tk Bt nt Nt σ_38 hth (hfF_37.f hth 4 ⟨by decide, by decide⟩ (hfF_22.f hth 4 ⟨by decide, by decide⟩ (hfF_12.f hth 4 ⟨by decide, by decide⟩ ktk))) htk p_60 c1_38 (by have := by3_j20_21_27.1; have := by3_j20_21_27.2; have := by2_j20_21_59.1; have := by2_j20_21_59.2; have := bd.1; have := bd.2; have := br_29_35.1; have := br_29_35.2; have := br_61.1; have := br_61.2; have := bkc_j20_21.1; have := bkc_j20_21.2; have := bfcv.1; have := bfcv.2; have := bsz_.1; have := bsz_.2; have := bx_39.1; have := bx_39.2; have := bx_40.1; have := bx_40.2; have := bcc.1; have := bcc.2; have : (0 : Int32).toInt = 0 := (by decide); have : (1 : Int32).toInt = 1 := (by decide); have : (3 : Int32).toInt = 3 := (by decide); have : (41 : Int32).toInt = 41 := (by decide); have : (44 : Int32).toInt = 44 := (by decide); omega)) (cwV 1 hg zv_RX7_79 rfl rfl rfl zd_X7_fail ⟨z_leR hRf (by have := by3_j20_21_27.1; have := by3_j20_21_27.2; have := by2_j20_21_59.1; have := by2_j20_21_59.2; have := bd.1; have := bd.2; have := br_29_35.1; have := br_29_35.2; have := br_61.1; have := br_61.2; have := bkc_j20_21.1; have := bkc_j20_21.2; have := bfcv.1; have := bfcv.2; have := bsz_.1; have := bsz_.2; have := bx_39.1; have := bx_39.2; have := bx_40.1; have := bx_40.2; have := bcc.1; have := bcc.2; have : (0 : Int32).toInt = 0 := (by decide); have : (1 : Int32).toInt = 1 := (by decide); have : (3 : Int32).toInt = 3 := (by decide); have : (41 : Int32).toInt = 41 := (by decide); have : (44 : Int32).toInt = 44 := (by decide); dsimp only; omega), z_leR hRl (by have := by3_j20_21_27.1; have := by3_j20_21_27.2; have := by2_j20_21_59.1; have := by2_j20_21_59.2; have := bd.1; have := bd.2; have := br_29_35.1; have := br_29_35.2; have := br_61.1; have := br_61.2; have := bkc_j20_21.1; have := bkc_j20_21.2; have := bfcv.1; have := bfcv.2; have := bsz_.1; have := bsz_.2; have := bx_39.1; have := bx_39.2; have := bx_40.1; have := bx_40.2; have := bcc.1; have := bcc.2; have : (0 : Int32).toInt = 0 := (by decide); have : (1 : Int32).toInt = 1 := (by decide); have : (3 : Int32).toInt = 3 := (by decide); have : (41 : Int32).toInt = 41 := (by decide); have : (44 : Int32).toInt = 44 := (by decide); dsimp only; omega)⟩) hth (by decide) rfl rfl hl.1 rfl (Nat.le_of_ble_eq_true rfl) dX7_readSums_71 ⟨Nat.zero_le _, Nat.zero_le _⟩ (fun F_72 H locs w_73 h hfF_72 => ?_)
                obtain ⟨q_74, -⟩ := w_73
                have c1_75 : zC1 F_72 th Nt (zfl 1 σ_38) := (by have h9 := q_74; rw [show (1 : Int32).toInt = 1 by decide] at h9; exact h9)
                have rc_75 : zRc (zTo Bt nt) σ [(19, d.toInt.toNat, tn, 0)] (zfl 1 σ_38) [(20, d.toInt.toNat, tn, y2_j20_21.toInt.toNat)] := (by rw [hσ_38]; exact zRc.sumsT2 (N := Nt) rc_j20_21 (by have := by3_j20_21_27.1; have := by3_j20_21_27.2; have := by2_j20_21_59.1; have := by2_j20_21_59.2; have := bd.1; have := bd.2; have := br_29_35.1; have := br_29_35.2; have := br_61.1; have := br_61.2; have := bkc_j20_21.1; have := bkc_j20_21.2; have := bfcv.1; have := bfcv.2; have := bsz_.1; have := bsz_.2; have := bcc.1; have := bcc.2; have : (0 : Int32).toInt = 0 := (by decide); have : (1 : Int32).toInt = 1 := (by decide); have : (3 : Int32).toInt = 3 := (by decide); have : (41 : Int32).toInt = 41 := (by decide); have : (44 : Int32).toInt = 44 := (by decide); omega) (by have := by3_j20_21_27.1; have := by3_j20_21_27.2; have := by2_j20_21_59.1; have := by2_j20_21_59.2; have := bd.1; have := bd.2; have := br_29_35.1; have := br_29_35.2; have := br_61.1; have := br_61.2; have := bkc_j20_21.1; have := bkc_j20_21.2; have := bfcv.1; have := bfcv.2; have := bsz_.1; have := bsz_.2; have := bcc.1; have := bcc.2; have : (0 : Int32).toInt = 0 := (by decide); have : (1 : Int32).toInt = 1 := (by decide); have : (3 : Int32).toInt = 3 := (by decide); have : (41 : Int32).toInt = 41 := (by decide); have : (44 : Int32).toInt = 44 := (by decide); omega) (by rw [← hσ_38, ← q_64]; exact q_71))
                have st_75 : zss σ_38 (zfl 1 σ_38) := zsm.fl.ss
                have ss_75 : zss σ (zfl 1 σ_38) := ss_38.trans st_75
                have cc_75 : zCc Γ F F_72 th (zTo Bt nt) σ (zfl 1 σ_38) (d.toInt + 1) := (cc_38.mv hfF_72 hth (by decide) (zTo_P Bt nt) zsm.fl.cs)
                generalize hσ_75 : zfl 1 σ_38 = σ_75 at c1_75 rc_75 st_75 ss_75 cc_75
                obtain ⟨⟨x_76, kx_76, nx_76⟩, ⟨x_77, kx_77, nx_77⟩, ox_76⟩ := id c1_75
                have gx_76 := zC1.nx c1_75 hLs_.1 kx_76
                have bx_76 : zB 0 600 x_76 := ⟨by omega, by have := hLs_.2.1; omega⟩
                have bx_77 := zB.all x_77
                have mo_75 := zss.nx st_75 ox_39 ox_76
                have hop_78 : 6 ≤ d.toInt → ∃ q, σ_75 = .inr q := fun h9 => by rw [← hσ_75]; exact zfl_bad _ _
                refine lv_goto (tgt := 85) hx hb dX7_readSums_74 (by decide) ?_
                obtain ⟨x_79, ex_79, bx_79, tx_79⟩ := z_inc (n := 1) (lo := 1) (hi := 601) by3_j20_21_27 (by decide)
                refine lv_iinc (v := x_79) (lv' := [(3, .int x_79), (2, .int y2_j20_21), (0, .ref th), (1, .int d)]) hx hb dX7_readSums_85 hl (k := 0) rfl ex_79 (by decide) rfl (fun ls hl => ?_)
                refine lv_goto (tgt := 20) hx hb dX7_readSums_88 (by decide) ?_
                have fk_80 := ((fk_j20_21.ss st_38).ss st_75)
                exact ih_j20_21 _ (by have := bx_79.1; have := bx_79.2; have := by2_j20_21_59.1; have := by2_j20_21_59.2; have := bd.1; have := bd.2; have := bkc_j20_21.1; have := bkc_j20_21.2; have := br_29_35.1; have := br_29_35.2; have := br_61.1; have := br_61.2; have := bfcv.1; have := bfcv.2; have := bsz_.1; have := bsz_.2; have := bx_76.1; have := bx_76.2; have := bx_77.1; have := bx_77.2; have := bcc.1; have := bcc.2; have : (0 : Int32).toInt = 0 := (by decide); have : (1 : Int32).toInt = 1 := (by decide); have : (3 : Int32).toInt = 3 := (by decide); have : (41 : Int32).toInt = 41 := (by decide); have : (44 : Int32).toInt = 44 := (by decide); have := by3_j20_21.1; have := by3_j20_21.2; have := by2_j20_21.1; have := by2_j20_21.2; omega) ls x_79 y2_j20_21 kc_j20_21 σ_75 F_72 H locs (lv_sub hl [0, 1, 2, 3] rfl) (bx_79.w ⟨by decide, by decide⟩) (by2_j20_21_59.w ⟨by decide, by decide⟩) h ((hfF_22.trans hfF_37 (by decide)).trans hfF_72 (by decide)) (hfF_72.f hth 11 ⟨by decide, by decide⟩ (hfF_37.f hth 11 ⟨by decide, by decide⟩ hkc_j20_21)) bkc_j20_21 (by have := bx_79.1; have := bx_79.2; have := by2_j20_21_59.1; have := by2_j20_21_59.2; have := bd.1; have := bd.2; have := bkc_j20_21.1; have := bkc_j20_21.2; have := br_29_35.1; have := br_29_35.2; have := br_61.1; have := br_61.2; have := bfcv.1; have := bfcv.2; have := bsz_.1; have := bsz_.2; have := bx_76.1; have := bx_76.2; have := bx_77.1; have := bx_77.2; have := bcc.1; have := bcc.2; have : (0 : Int32).toInt = 0 := (by decide); have : (1 : Int32).toInt = 1 := (by decide); have : (3 : Int32).toInt = 3 := (by decide); have : (41 : Int32).toInt = 41 := (by decide); have : (44 : Int32).toInt = 44 := (by decide); omega) hop_78 c1_75 rc_75 ss_75 (cc_75.w (by have := bx_79.1; have := bx_79.2; have := by2_j20_21_59.1; have := by2_j20_21_59.2; have := bd.1; have := bd.2; have := bkc_j20_21.1; have := bkc_j20_21.2; have := br_29_35.1; have := br_29_35.2; have := br_61.1; have := br_61.2; have := bfcv.1; have := bfcv.2; have := bsz_.1; have := bsz_.2; have := bx_76.1; have := bx_76.2; have := bx_77.1; have := bx_77.2; have := bcc.1; have := bcc.2; have : (0 : Int32).toInt = 0 := (by decide); have : (1 : Int32).toInt = 1 := (by decide); have : (3 : Int32).toInt = 3 := (by decide); have : (41 : Int32).toInt = 41 := (by decide); have : (44 : Int32).toInt = 44 := (by decide); omega)) fk_80 rfl
              · have c_69 := z_ne c_69
                have br_65_81 : zB 1 1 r_65 := zB.neLo c_69 br_65 (zBc 0 0 (by decide)) (by decide)
                have q_82 : zbeg r_61.toInt := by
                  rcases q_68 with ⟨g1, g2⟩ | ⟨g1, g2⟩
                  · exact g2
                  · exfalso; have := by3_j20_21_27.1; have := by3_j20_21_27.2; have := by2_j20_21_59.1; have := by2_j20_21_59.2; have := bd.1; have := bd.2; have := br_65_81.1; have := br_65_81.2; have := br_29_35.1; have := br_29_35.2; have := br_61.1; have := br_61.2; have := bkc_j20_21.1; have := bkc_j20_21.2; have := bfcv.1; have := bfcv.2; have := bsz_.1; have := bsz_.2; have := bx_39.1; have := bx_39.2; have := bx_40.1; have := bx_40.2; have := bcc.1; have := bcc.2; have : (0 : Int32).toInt = 0 := (by decide); have : (1 : Int32).toInt = 1 := (by decide); have : (3 : Int32).toInt = 3 := (by decide); have : (41 : Int32).toInt = 41 := (by decide); have : (44 : Int32).toInt = 44 := (by decide); omega
                refine lv_iconst (v := 3) hx hb dX7_readSums_66 (by decide) ?_
                refine lv_goto (tgt := 71) hx hb dX7_readSums_67 (by decide) ?_
                refine zk_Vv (As := [.int 3]) (rest := []) (bytes := cX7_fail) (maxL := 2) (ret := none) Z h (ze_X7_fail l D k Γ L F_37 H.size th 3 tk Bt nt Nt σ_38 hth (hfF_37.f hth 4 ⟨by decide, by decide⟩ (hfF_22.f hth 4 ⟨by decide, by decide⟩ (hfF_12.f hth 4 ⟨by decide, by decide⟩ ktk))) htk p_60 c1_38 (by have := by3_j20_21_27.1; have := by3_j20_21_27.2; have := by2_j20_21_59.1; have := by2_j20_21_59.2; have := bd.1; have := bd.2; have := br_29_35.1; have := br_29_35.2; have := br_61.1; have := br_61.2; have := bkc_j20_21.1; have := bkc_j20_21.2; have := bfcv.1; have := bfcv.2; have := bsz_.1; have := bsz_.2; have := bx_39.1; have := bx_39.2; have := bx_40.1; have := bx_40.2; have := bcc.1; have := bcc.2; have : (0 : Int32).toInt = 0 := (by decide); have : (1 : Int32).toInt = 1 := (by decide); have : (3 : Int32).toInt = 3 := (by decide); have : (41 : Int32).toInt = 41 := (by decide); have : (44 : Int32).toInt = 44 := (by decide); omega)) (cwV 1 hg zv_RX7_79 rfl rfl rfl zd_X7_fail ⟨z_leR hRf (by have := by3_j20_21_27.1; have := by3_j20_21_27.2; have := by2_j20_21_59.1; have := by2_j20_21_59.2; have := bd.1; have := bd.2; have := br_29_35.1; have := br_29_35.2; have := br_61.1; have := br_61.2; have := bkc_j20_21.1; have := bkc_j20_21.2; have := bfcv.1; have := bfcv.2; have := bsz_.1; have := bsz_.2; have := bx_39.1; have := bx_39.2; have := bx_40.1; have := bx_40.2; have := bcc.1; have := bcc.2; have : (0 : Int32).toInt = 0 := (by decide); have : (1 : Int32).toInt = 1 := (by decide); have : (3 : Int32).toInt = 3 := (by decide); have : (41 : Int32).toInt = 41 := (by decide); have : (44 : Int32).toInt = 44 := (by decide); dsimp only; omega), z_leR hRl (by have := by3_j20_21_27.1; have := by3_j20_21_27.2; have := by2_j20_21_59.1; have := by2_j20_21_59.2; have := bd.1; have := bd.2; have := br_29_35.1; have := br_29_35.2; have := br_61.1; have := br_61.2; have := bkc_j20_21.1; have := bkc_j20_21.2; have := bfcv.1; have := bfcv.2; have := bsz_.1; have := bsz_.2; have := bx_39.1; have := bx_39.2; have := bx_40.1; have := bx_40.2; have := bcc.1; have := bcc.2; have : (0 : Int32).toInt = 0 := (by decide); have : (1 : Int32).toInt = 1 := (by decide); have : (3 : Int32).toInt = 3 := (by decide); have : (41 : Int32).toInt = 41 := (by decide); have : (44 : Int32).toInt = 44 := (by decide); dsimp only; omega)⟩) hth (by decide) rfl rfl hl.1 rfl (Nat.le_of_ble_eq_true rfl) dX7_readSums_71 ⟨Nat.zero_le _, Nat.zero_le _⟩ (fun F_83 H locs w_84 h hfF_83 => ?_)
                obtain ⟨q_85, -⟩ := w_84
                have c1_86 : zC1 F_83 th Nt (zfl 3 σ_38) := (by have h9 := q_85; rw [show (3 : Int32).toInt = 3 by decide] at h9; exact h9)
                have rc_86 : zRc (zTo Bt nt) σ [(19, d.toInt.toNat, tn, 0)] (zfl 3 σ_38) [(20, d.toInt.toNat, tn, y2_j20_21.toInt.toNat)] := (by rw [hσ_38]; exact zRc.sumsT3 (N := Nt) rc_j20_21 (by have := by3_j20_21_27.1; have := by3_j20_21_27.2; have := by2_j20_21_59.1; have := by2_j20_21_59.2; have := bd.1; have := bd.2; have := br_29_35.1; have := br_29_35.2; have := br_61.1; have := br_61.2; have := bkc_j20_21.1; have := bkc_j20_21.2; have := bfcv.1; have := bfcv.2; have := bsz_.1; have := bsz_.2; have := bcc.1; have := bcc.2; have : (0 : Int32).toInt = 0 := (by decide); have : (1 : Int32).toInt = 1 := (by decide); have : (3 : Int32).toInt = 3 := (by decide); have : (41 : Int32).toInt = 41 := (by decide); have : (44 : Int32).toInt = 44 := (by decide); omega) (by have := by3_j20_21_27.1; have := by3_j20_21_27.2; have := by2_j20_21_59.1; have := by2_j20_21_59.2; have := bd.1; have := bd.2; have := br_29_35.1; have := br_29_35.2; have := br_61.1; have := br_61.2; have := bkc_j20_21.1; have := bkc_j20_21.2; have := bfcv.1; have := bfcv.2; have := bsz_.1; have := bsz_.2; have := bcc.1; have := bcc.2; have : (0 : Int32).toInt = 0 := (by decide); have : (1 : Int32).toInt = 1 := (by decide); have : (3 : Int32).toInt = 3 := (by decide); have : (41 : Int32).toInt = 41 := (by decide); have : (44 : Int32).toInt = 44 := (by decide); omega) (by rw [← hσ_38, ← q_64]; exact q_82))
                have st_86 : zss σ_38 (zfl 3 σ_38) := zsm.fl.ss
                have ss_86 : zss σ (zfl 3 σ_38) := ss_38.trans st_86
                have cc_86 : zCc Γ F F_83 th (zTo Bt nt) σ (zfl 3 σ_38) (d.toInt + 1) := (cc_38.mv hfF_83 hth (by decide) (zTo_P Bt nt) zsm.fl.cs)
                generalize hσ_86 : zfl 3 σ_38 = σ_86 at c1_86 rc_86 st_86 ss_86 cc_86
                obtain ⟨⟨x_87, kx_87, nx_87⟩, ⟨x_88, kx_88, nx_88⟩, ox_87⟩ := id c1_86
                have gx_87 := zC1.nx c1_86 hLs_.1 kx_87
                have bx_87 : zB 0 600 x_87 := ⟨by omega, by have := hLs_.2.1; omega⟩
                have bx_88 := zB.all x_88
                have mo_86 := zss.nx st_86 ox_39 ox_87
                have hop_89 : 6 ≤ d.toInt → ∃ q, σ_86 = .inr q := fun h9 => by rw [← hσ_86]; exact zfl_bad _ _
                refine lv_goto (tgt := 85) hx hb dX7_readSums_74 (by decide) ?_
                obtain ⟨x_90, ex_90, bx_90, tx_90⟩ := z_inc (n := 1) (lo := 1) (hi := 601) by3_j20_21_27 (by decide)
                refine lv_iinc (v := x_90) (lv' := [(3, .int x_90), (2, .int y2_j20_21), (0, .ref th), (1, .int d)]) hx hb dX7_readSums_85 hl (k := 0) rfl ex_90 (by decide) rfl (fun ls hl => ?_)
                refine lv_goto (tgt := 20) hx hb dX7_readSums_88 (by decide) ?_
                have fk_91 := ((fk_j20_21.ss st_38).ss st_86)
                exact ih_j20_21 _ (by have := bx_90.1; have := bx_90.2; have := by2_j20_21_59.1; have := by2_j20_21_59.2; have := bd.1; have := bd.2; have := bkc_j20_21.1; have := bkc_j20_21.2; have := br_29_35.1; have := br_29_35.2; have := br_61.1; have := br_61.2; have := bfcv.1; have := bfcv.2; have := bsz_.1; have := bsz_.2; have := bx_87.1; have := bx_87.2; have := bx_88.1; have := bx_88.2; have := bcc.1; have := bcc.2; have : (0 : Int32).toInt = 0 := (by decide); have : (1 : Int32).toInt = 1 := (by decide); have : (3 : Int32).toInt = 3 := (by decide); have : (41 : Int32).toInt = 41 := (by decide); have : (44 : Int32).toInt = 44 := (by decide); have := by3_j20_21.1; have := by3_j20_21.2; have := by2_j20_21.1; have := by2_j20_21.2; omega) ls x_90 y2_j20_21 kc_j20_21 σ_86 F_83 H locs (lv_sub hl [0, 1, 2, 3] rfl) (bx_90.w ⟨by decide, by decide⟩) (by2_j20_21_59.w ⟨by decide, by decide⟩) h ((hfF_22.trans hfF_37 (by decide)).trans hfF_83 (by decide)) (hfF_83.f hth 11 ⟨by decide, by decide⟩ (hfF_37.f hth 11 ⟨by decide, by decide⟩ hkc_j20_21)) bkc_j20_21 (by have := bx_90.1; have := bx_90.2; have := by2_j20_21_59.1; have := by2_j20_21_59.2; have := bd.1; have := bd.2; have := bkc_j20_21.1; have := bkc_j20_21.2; have := br_29_35.1; have := br_29_35.2; have := br_61.1; have := br_61.2; have := bfcv.1; have := bfcv.2; have := bsz_.1; have := bsz_.2; have := bx_87.1; have := bx_87.2; have := bx_88.1; have := bx_88.2; have := bcc.1; have := bcc.2; have : (0 : Int32).toInt = 0 := (by decide); have : (1 : Int32).toInt = 1 := (by decide); have : (3 : Int32).toInt = 3 := (by decide); have : (41 : Int32).toInt = 41 := (by decide); have : (44 : Int32).toInt = 44 := (by decide); omega) hop_89 c1_86 rc_86 ss_86 (cc_86.w (by have := bx_90.1; have := bx_90.2; have := by2_j20_21_59.1; have := by2_j20_21_59.2; have := bd.1; have := bd.2; have := bkc_j20_21.1; have := bkc_j20_21.2; have := br_29_35.1; have := br_29_35.2; have := br_61.1; have := br_61.2; have := bfcv.1; have := bfcv.2; have := bsz_.1; have := bsz_.2; have := bx_87.1; have := bx_87.2; have := bx_88.1; have := bx_88.2; have := bcc.1; have := bcc.2; have : (0 : Int32).toInt = 0 := (by decide); have : (1 : Int32).toInt = 1 := (by decide); have : (3 : Int32).toInt = 3 := (by decide); have : (41 : Int32).toInt = 41 := (by decide); have : (44 : Int32).toInt = 44 := (by decide); omega)) fk_91 rfl
    have fk_92 := (p_fk.ss st_17)
    exact j_j20_21 _ ls 0 1 x_15 σ_17 F_12 H locs (lv_sub hl [0, 1, 2, 3] rfl) (zB.of ⟨by decide, by decide⟩) (zB.of ⟨by decide, by decide⟩) h zFr.rf kx_15 bx_15 (by have := bd.1; have := bd.2; have := bx_15.1; have := bx_15.2; have := br_6.1; have := br_6.2; have := bfcv.1; have := bfcv.2; have := bsz_.1; have := bsz_.2; have := bx_18.1; have := bx_18.2; have := bx_19.1; have := bx_19.2; have := bcc.1; have := bcc.2; have : (0 : Int32).toInt = 0 := (by decide); have : (1 : Int32).toInt = 1 := (by decide); have : (41 : Int32).toInt = 41 := (by decide); omega) hop_20 c1_17 (rc_17.cg (zSy_eq (by have := bd.1; have := bd.2; have := bx_15.1; have := bx_15.2; have := br_6.1; have := br_6.2; have := bfcv.1; have := bfcv.2; have := bsz_.1; have := bsz_.2; have := bx_18.1; have := bx_18.2; have := bx_19.1; have := bx_19.2; have := bcc.1; have := bcc.2; have : (0 : Int32).toInt = 0 := (by decide); have : (1 : Int32).toInt = 1 := (by decide); have : (41 : Int32).toInt = 41 := (by decide); omega) (by have := bd.1; have := bd.2; have := bx_15.1; have := bx_15.2; have := br_6.1; have := br_6.2; have := bfcv.1; have := bfcv.2; have := bsz_.1; have := bsz_.2; have := bx_18.1; have := bx_18.2; have := bx_19.1; have := bx_19.2; have := bcc.1; have := bcc.2; have : (0 : Int32).toInt = 0 := (by decide); have : (1 : Int32).toInt = 1 := (by decide); have : (41 : Int32).toInt = 41 := (by decide); omega) (by have := bd.1; have := bd.2; have := bx_15.1; have := bx_15.2; have := br_6.1; have := br_6.2; have := bfcv.1; have := bfcv.2; have := bsz_.1; have := bsz_.2; have := bx_18.1; have := bx_18.2; have := bx_19.1; have := bx_19.2; have := bcc.1; have := bcc.2; have : (0 : Int32).toInt = 0 := (by decide); have : (1 : Int32).toInt = 1 := (by decide); have : (41 : Int32).toInt = 41 := (by decide); omega))) ss_17 (cc_17.w (by have := bd.1; have := bd.2; have := bx_15.1; have := bx_15.2; have := br_6.1; have := br_6.2; have := bfcv.1; have := bfcv.2; have := bsz_.1; have := bsz_.2; have := bx_18.1; have := bx_18.2; have := bx_19.1; have := bx_19.2; have := bcc.1; have := bcc.2; have : (0 : Int32).toInt = 0 := (by decide); have : (1 : Int32).toInt = 1 := (by decide); have : (41 : Int32).toInt = 41 := (by decide); omega)) fk_92 rfl
  · have c_10 := z_eq c_10
    have br_6_93 : zB 41 41 r_6 := zB.eqL (a := 0) (b := 0) c_10 (zBc 41 41 (by decide))
    have rc_94 : zRc (zTo Bt nt) σ [(19, d.toInt.toNat, tn, 0)] σ [(6, 41, 0, 0), (21, tn, (0 : Int32).toInt.toNat, 0)] := zRc.sums0 (N := Nt) rc0_ (by have := bd.1; have := bd.2; have := br_6_93.1; have := br_6_93.2; have := bcc.1; have := bcc.2; have := bfcv.1; have := bfcv.2; have := bsz_.1; have := bsz_.2; have := bx_1.1; have := bx_1.2; have := bx_2.1; have := bx_2.2; have : (41 : Int32).toInt = 41 := (by decide); omega)
    refine lv_iconst (v := 0) hx hb dX7_readSums_9 (by decide) ?_
    subst hQ
    exact W.iret (v := 0) hx hb hr (fun t ht hW => ⟨⟨0, F, rfl, ⟨(zB.of ⟨by decide, by decide⟩), ⟨cc, kcc, bcc, (by have := bd.1; have := bd.2; have := bcc.1; have := bcc.2; have := br_6_93.1; have := br_6_93.2; have := bfcv.1; have := bfcv.2; have := bsz_.1; have := bsz_.2; have := bx_1.1; have := bx_1.2; have := bx_2.1; have := bx_2.2; have : (0 : Int32).toInt = 0 := (by decide); have : (41 : Int32).toInt = 41 := (by decide); omega)⟩, ⟨σ, p_au, rc_94, ss0_, (cc0_.w (by have := bd.1; have := bd.2; have := br_6_93.1; have := br_6_93.2; have := bcc.1; have := bcc.2; have := bfcv.1; have := bfcv.2; have := bsz_.1; have := bsz_.2; have := bx_1.1; have := bx_1.2; have := bx_2.1; have := bx_2.2; have : (0 : Int32).toInt = 0 := (by decide); have : (41 : Int32).toInt = 41 := (by decide); omega))⟩, trivial⟩, by rw [ht]; exact h.1, h.2.1, zFr.rf⟩, h.2.2.F ht⟩) h.2.2.2.2 dX7_readSums_10

set_option maxHeartbeats 4000000 in
set_option maxRecDepth 100000 in
theorem ze_X7_readCall (l : Launch) (D : va_G) (k : Nat → ClassId) (Γ : Nat → Option Nat) (L : List Nat) (F : Nat → va_E) (sz : Nat) (th : Nat) (d : Int32) (pr : Nat) (tk : Nat) (co : Nat) (Bt : Nat → Int32) (nt : Nat) (Nt : Nat) (cc : Int32) (σ : zSg) (fcv : Int32) (nv : Nat) (hth : Γ th = some 7) (bd : zB 0 6 d) (kpr : zfld F th 3 = .ref pr) (hpr : Γ pr = some 6) (ktk : zfld F th 4 = .ref tk) (htk : Γ tk = some 8) (kco : zfld F th 5 = .ref co) (hco : Γ co = some 1) (p_tb : zTb Γ F tk Bt nt Nt) (kcc : zfld F th 11 = .int cc) (bcc : zB 0 150 cc) (p_au : zC1 F th Nt (σ)) (hm_ : ∀ i d9, σ = .inl (i, d9) → 4 * cc.toInt + 5 ≤ zpo Bt nt i + (d.toInt)) (kfcv : zfld F pr 4 = .int fcv) (bfcv : zB 0 10 fcv) (p_fk : zFk fcv σ) (hr0 : 6 ≤ d.toInt + (nv : Int)) (hrec : ∀ q : Nat, nv = q + 1 → zR_sum l q) (hr1 : zkd (zTo Bt nt) Nt σ = 4) : Met l yX7_readCall zwX7_readCall ({ frames := 10 * nv + 6, cells := 0, slots := 0, locals := 400 * nv + 180 }) (va_Pc [.ref th, .int d] (zP D k Γ L F sz)) (va_Qv (fun (u : Nat → va_E) => (∃ (c9 : Int32), zfld u th 11 = .int c9 ∧ zB 0 150 c9 ∧ (0 ≤ c9.toInt)) ∧ (∃ σ9 : zSg, zC1 u th Nt σ9 ∧ zRc (zTo Bt nt) σ [(17, d.toInt.toNat, 0, 0)] σ9 [] ∧ zss σ σ9 ∧ zCc Γ F u th (zTo Bt nt) σ σ9 (d.toInt)) ∧ True) (zQ D k Γ L F [103, 701, 702, 706, 711, 10200, 10600, 10700, 15800, 15900, 16000, 16100]) (zA L sz)) 0 0 (zA L sz) := by
  refine Met.ofW (cc := cX7_readCall) (maxL := 5) (ret := none) (by decide) rfl ?_
  intro p e s m args below meth c s₁ B hml hv
  obtain ⟨rfl, hsz, hP, hK, hLn, hE, hI⟩ := hv
  have hx := B.exec
  have hb := B.bytes
  have hr := B.returns
  have hg : ∀ w ∈ zG, w.before _ s = true := fun w h9 => atoms_spec (ws := zwX7_readCall) B.pre w (List.mem_cons_of_mem _ h9)
  have hown : s.vm.findClass RX7 = some m.cls := findClass_of_methodNamed B.named
  have hlocks := B.notSynchronized
  subst hsz
  have Z : zC p m c cX7_readCall 5 s _ zG RX7 D k L := ⟨⟨hx, hb, hml, hown, hg⟩, hK, hLn, hE⟩
  have h : zH D k Γ L s F s.heap [] := ⟨hP, hI, va_S.rf⟩
  have hl := lv_entry ([.ref th, .int d]) (n := 5) (Nat.le_of_ble_eq_true rfl)
  rw [lg_entry_eq]
  generalize (lg_sl ([.ref th, .int d]) ++ List.replicate (5 - (lg_sl ([.ref th, .int d])).length) Slot.unset).toArray = ls at hl ⊢
  have hl : lv_has ls 5 [(0, .ref th), (1, .int d)] := hl
  clear hP hK hLn hE hI
  generalize hargs : ([.ref th, .int d] : List Value).toArray = args at *
  refine z_start (fun R Q hRf hRl hQ => ?_)
  have hRf : R.frames = 10 * nv + 6 := hRf
  have hRl : R.locals = 400 * nv + 180 := hRl
  have h9 := h
  have hLs_ := p_tb.2.2.2.1
  obtain ⟨sz_, ksz_, tsz_⟩ := p_tb.2.2.1
  have bsz_ : zB 1 601 sz_ := ⟨by have := hLs_.1; omega, by have := hLs_.2.1; omega⟩
  obtain ⟨⟨x_1, kx_1, nx_1⟩, ⟨x_2, kx_2, nx_2⟩, ox_1⟩ := id p_au
  have gx_1 := zC1.nx p_au hLs_.1 kx_1
  have bx_1 : zB 0 600 x_1 := ⟨by omega, by have := hLs_.2.1; omega⟩
  have bx_2 := zB.all x_2
  have ad_3 := z_ad (j := 7) (c := 106) h.2.1 hth (by decide) rfl
  have ad_4 := z_ad (j := 8) (c := 107) h.2.1 hth (by decide) rfl
  have ad_5 := z_ad (j := 10) (c := 161) h.2.1 hth (by decide) rfl
  have cc0_ : zCc Γ F F th (zTo Bt nt) σ σ (d.toInt) := zCc.rf kcc bcc.1 ⟨ad_3, ad_4, ad_5⟩ hm_
  have rc0_ : zRc (zTo Bt nt) σ [(17, d.toInt.toNat, 0, 0)] σ [(17, d.toInt.toNat, 0, 0)] := zRc.rf
  have ss0_ : zss σ σ := zss.rf
  have h149 := zcl_149 (dep := d.toInt) hm_ hr1 hLs_ (by have := bd.1; have := bd.2; have := bcc.1; have := bcc.2; have := bfcv.1; have := bfcv.2; have := bsz_.1; have := bsz_.2; have := bx_1.1; have := bx_1.2; have := bx_2.1; have := bx_2.2; omega) p_tb.1.2.2.1
  refine lv_aload_n hx hb dX7_readCall_0 rfl (lv_at hl 0 rfl) ?_
  refine lv_aload_n hx hb dX7_readCall_1 rfl (lv_at hl 0 rfl) ?_
  refine zt_getk (t := 7) (C := RX7) (T := TX7) (N := 12) Z h hth zin_7 rfl 6 kx_1 ⟨by decide, rfl, by decide⟩ (zm_RX7 (List.mem_of_getElem? (i := 9) rfl)) (fun _ h9 => h9) dX7_readCall_2 ?_
  refine zk_Vi (As := [.int x_1]) (rest := []) (bytes := cX7_addCall) (maxL := 2) (ret := (some .int)) Z h (ze_X7_addCall l D k Γ L F s.heap.size th x_1 pr cc fcv hth (bx_1.w ⟨by decide, by decide⟩) kpr hpr kcc (zB.of ⟨by have := bd.1; have := bd.2; have := bx_1.1; have := bx_1.2; have := bcc.1; have := bcc.2; have := bfcv.1; have := bfcv.2; have := bsz_.1; have := bsz_.2; have := bx_2.1; have := bx_2.2; omega, by have := bd.1; have := bd.2; have := bx_1.1; have := bx_1.2; have := bcc.1; have := bcc.2; have := bfcv.1; have := bfcv.2; have := bsz_.1; have := bsz_.2; have := bx_2.1; have := bx_2.2; omega⟩) kfcv bfcv) (cwV 1 hg zv_RX7_197 rfl rfl rfl zd_X7_addCall ⟨z_leR hRf (by have := bd.1; have := bd.2; have := bx_1.1; have := bx_1.2; have := bcc.1; have := bcc.2; have := bfcv.1; have := bfcv.2; have := bsz_.1; have := bsz_.2; have := bx_2.1; have := bx_2.2; dsimp only; omega), z_leR hRl (by have := bd.1; have := bd.2; have := bx_1.1; have := bx_1.2; have := bcc.1; have := bcc.2; have := bfcv.1; have := bfcv.2; have := bsz_.1; have := bsz_.2; have := bx_2.1; have := bx_2.2; dsimp only; omega)⟩) hth (by decide) rfl rfl hl.1 rfl (Nat.le_of_ble_eq_true rfl) dX7_readCall_5 ⟨Nat.zero_le _, Nat.zero_le _⟩ (fun r_6 F_7 H locs w_8 h hfF_7 => ?_)
  obtain ⟨br_6, ⟨x_10, kx_10, bx_10, q_9⟩, q_11, q_12, q_13, -⟩ := w_8
  refine lv_istore_n (lv' := [(2, .int r_6), (0, .ref th), (1, .int d)]) hx hb dX7_readCall_8 rfl hl (by decide) rfl (fun ls hl => ?_)
  refine lv_aload_n hx hb dX7_readCall_9 rfl (lv_at hl 1 rfl) ?_
  refine lv_dup hx hb dX7_readCall_10 rfl ?_
  refine zt_getk (t := 7) (C := RX7) (T := TX7) (N := 12) Z h hth zin_7 rfl 6 (hfF_7.f hth 6 ⟨by decide, by decide⟩ kx_1) ⟨by decide, rfl, by decide⟩ (zm_RX7 (List.mem_of_getElem? (i := 9) rfl)) (fun _ h9 => h9) dX7_readCall_11 ?_
  refine lv_iconst (v := 1) hx hb dX7_readCall_14 (by decide) ?_
  refine lv_iadd hx hb dX7_readCall_15 ?_
  refine zi_add (lo := 1) (hi := 601) bx_1 (zBc 1 1 (by decide)) (by decide) (fun x_14 bx_14 tx_14 => ?_)
  refine zt_put (t := 7) (C := RX7) (T := TX7) (N := 12) (v := .int x_14) Z h hth zin_7 tyX7 tyX7_ok nmX7 rfl 6 rfl ⟨by decide, rfl⟩ (zm_RX7 (List.mem_of_getElem? (i := 9) rfl)) (fun _ h9 => h9) rfl (zV.i (bx_14.w ⟨by decide, by decide⟩)) rfl rfl dX7_readCall_16 (fun H locs F_15 h hfF_15 kF_15 => ?_)
  have c1_16 := (p_au.fr hfF_7 hth (by decide))
  have c1_17 : zC1 F_15 th Nt (zadv σ) := (zC1.adv (T := zTo Bt nt) c1_16 hfF_15 hth (by decide) (hfF_7.f hth 6 ⟨by decide, by decide⟩ kx_1) kF_15 (by have := br_6.1; have := br_6.2; have := bd.1; have := bd.2; have := bx_1.1; have := bx_1.2; have := bx_10.1; have := bx_10.2; have := bfcv.1; have := bfcv.2; have := bsz_.1; have := bsz_.2; have := bx_14.1; have := bx_14.2; have := bx_2.1; have := bx_2.2; have := bcc.1; have := bcc.2; have : (1 : Int32).toInt = 1 := (by decide); omega) hLs_ ⟨by rw [hr1]; decide, by rw [hr1]; decide⟩)
  have rc_17 : zRc (zTo Bt nt) σ [(17, d.toInt.toNat, 0, 0)] (zadv σ) [(18, d.toInt.toNat, 0, 0), (19, d.toInt.toNat, (znx Nt σ).toNat, 0)] := zRc.partC (N := Nt) rc0_ hr1 znx_tn
  have st_17 : zss σ (zadv σ) := zsm.adv.ss
  have ss_17 : zss σ (zadv σ) := ss0_.trans st_17
  generalize hσ_17 : zadv σ = σ_17 at c1_17 rc_17 st_17 ss_17
  obtain ⟨⟨x_18, kx_18, nx_18⟩, ⟨x_19, kx_19, nx_19⟩, ox_18⟩ := id c1_17
  have gx_18 := zC1.nx c1_17 hLs_.1 kx_18
  have bx_18 : zB 0 600 x_18 := ⟨by omega, by have := hLs_.2.1; omega⟩
  have bx_19 := zB.all x_19
  have vx_18 := congrArg Int32.toInt (z_same kF_15 kx_18)
  have mo_17 := zss.nx st_17 ox_1 ox_18
  refine lv_aload_n hx hb dX7_readCall_19 rfl (lv_at hl 1 rfl) ?_
  refine lv_iload_n hx hb dX7_readCall_20 rfl (lv_at hl 2 rfl) ?_
  have p_20 := ((p_tb.fr hfF_7 htk (by decide)).fr hfF_15 htk (by decide))
  refine zk_Vv (As := [.int d]) (rest := []) (bytes := cX7_openBracket) (maxL := 2) (ret := none) Z h (ze_X7_openBracket l D k Γ L F_15 H.size th d tk Bt nt Nt σ_17 hth bd (hfF_15.f hth 4 ⟨by decide, by decide⟩ (hfF_7.f hth 4 ⟨by decide, by decide⟩ ktk)) htk p_20 c1_17) (cwV 1 hg zv_RX7_188 rfl rfl rfl zd_X7_openBracket ⟨z_leR hRf (by have := br_6.1; have := br_6.2; have := bd.1; have := bd.2; have := bx_10.1; have := bx_10.2; have := bfcv.1; have := bfcv.2; have := bsz_.1; have := bsz_.2; have := bx_18.1; have := bx_18.2; have := bx_19.1; have := bx_19.2; have := bcc.1; have := bcc.2; have : (1 : Int32).toInt = 1 := (by decide); dsimp only; omega), z_leR hRl (by have := br_6.1; have := br_6.2; have := bd.1; have := bd.2; have := bx_10.1; have := bx_10.2; have := bfcv.1; have := bfcv.2; have := bsz_.1; have := bsz_.2; have := bx_18.1; have := bx_18.2; have := bx_19.1; have := bx_19.2; have := bcc.1; have := bcc.2; have : (1 : Int32).toInt = 1 := (by decide); dsimp only; omega)⟩) hth (by decide) rfl rfl hl.1 rfl (Nat.le_of_ble_eq_true rfl) dX7_readCall_21 ⟨Nat.zero_le _, Nat.zero_le _⟩ (fun F_21 H locs w_22 h hfF_21 => ?_)
  obtain ⟨q_23, -⟩ := w_22
  have hop_ : 6 ≤ d.toInt → ∃ q, zop (zTo Bt nt) Nt d.toInt σ_17 = .inr q := fun h9 => zop_bad h9
  have c1_24 : zC1 F_21 th Nt (zop (zTo Bt nt) Nt d.toInt σ_17) := q_23
  have rc_24 : zRc (zTo Bt nt) σ [(17, d.toInt.toNat, 0, 0)] (zop (zTo Bt nt) Nt d.toInt σ_17) [(19, d.toInt.toNat, (znx Nt σ).toNat, 0)] := zRc.op (N := Nt) rc_17 (by have := br_6.1; have := br_6.2; have := bd.1; have := bd.2; have := bx_10.1; have := bx_10.2; have := bfcv.1; have := bfcv.2; have := bsz_.1; have := bsz_.2; have := bcc.1; have := bcc.2; have : (1 : Int32).toInt = 1 := (by decide); omega)
  have st_24 : zss σ_17 (zop (zTo Bt nt) Nt d.toInt σ_17) := zsm.op.ss
  have ss_24 : zss σ (zop (zTo Bt nt) Nt d.toInt σ_17) := ss_17.trans st_24
  generalize hσ_24 : zop (zTo Bt nt) Nt d.toInt σ_17 = σ_24 at c1_24 rc_24 st_24 ss_24
  obtain ⟨⟨x_25, kx_25, nx_25⟩, ⟨x_26, kx_26, nx_26⟩, ox_25⟩ := id c1_24
  have gx_25 := zC1.nx c1_24 hLs_.1 kx_25
  have bx_25 : zB 0 600 x_25 := ⟨by omega, by have := hLs_.2.1; omega⟩
  have bx_26 := zB.all x_26
  have mo_24 := zss.nx st_24 ox_18 ox_25
  rw [hσ_24] at hop_
  have ad_27 := ad_3.fr hfF_7 hth ⟨by decide, by decide⟩
  have ad_28 := ad_27.fr hfF_15 hth ⟨by decide, by decide⟩
  have ad_29 := ad_28.fr hfF_21 hth ⟨by decide, by decide⟩
  have ad_30 := ad_4.fr hfF_7 hth ⟨by decide, by decide⟩
  have ad_31 := ad_30.fr hfF_15 hth ⟨by decide, by decide⟩
  have ad_32 := ad_31.fr hfF_21 hth ⟨by decide, by decide⟩
  have ad_33 := ad_5.fr hfF_7 hth ⟨by decide, by decide⟩
  have ad_34 := ad_33.fr hfF_15 hth ⟨by decide, by decide⟩
  have ad_35 := ad_34.fr hfF_21 hth ⟨by decide, by decide⟩
  have ccb_ : zCc Γ F_21 F_21 th (zTo Bt nt) σ_24 σ_24 (d.toInt + 1) := zCc.rf (hfF_21.f hth 11 ⟨by decide, by decide⟩ (hfF_15.f hth 11 ⟨by decide, by decide⟩ kx_10)) (by have := br_6.1; have := br_6.2; have := bd.1; have := bd.2; have := bx_10.1; have := bx_10.2; have := bfcv.1; have := bfcv.2; have := bsz_.1; have := bsz_.2; have := bx_25.1; have := bx_25.2; have := bx_26.1; have := bx_26.2; have := bcc.1; have := bcc.2; have : (1 : Int32).toInt = 1 := (by decide); omega) ⟨ad_29, ad_32, ad_35⟩ (zcl_open (a := d.toInt) hm_ hr1 hLs_ (by rw [hσ_17]; exact hσ_24) (by have := br_6.1; have := br_6.2; have := bd.1; have := bd.2; have := bx_10.1; have := bx_10.2; have := bfcv.1; have := bfcv.2; have := bsz_.1; have := bsz_.2; have := bx_25.1; have := bx_25.2; have := bx_26.1; have := bx_26.2; have := bcc.1; have := bcc.2; have : (1 : Int32).toInt = 1 := (by decide); omega))
  have ar_36 : zar F_21 th 7 = (upd (zar F th 7) (Int32.toNatClampNeg cc) x_1) := ((ad_28.ar hfF_21 hth ⟨by decide, by decide⟩ ⟨by decide, by decide⟩).trans ((ad_27.ar hfF_15 hth ⟨by decide, by decide⟩ ⟨by decide, by decide⟩).trans q_11))
  have ar_37 : zar F_21 th 8 = (zar F th 8) := ((ad_31.ar hfF_21 hth ⟨by decide, by decide⟩ ⟨by decide, by decide⟩).trans ((ad_30.ar hfF_15 hth ⟨by decide, by decide⟩ ⟨by decide, by decide⟩).trans q_12))
  have ar_38 : zar F_21 th 10 = (upd (zar F th 10) (Int32.toNatClampNeg cc) fcv) := ((ad_34.ar hfF_21 hth ⟨by decide, by decide⟩ ⟨by decide, by decide⟩).trans ((ad_33.ar hfF_15 hth ⟨by decide, by decide⟩ ⟨by decide, by decide⟩).trans q_13))
  refine lv_aload_n hx hb dX7_readCall_24 rfl (lv_at hl 1 rfl) ?_
  refine lv_iload_n hx hb dX7_readCall_25 rfl (lv_at hl 2 rfl) ?_
  have p_39 := (p_20.fr hfF_21 htk (by decide))
  have fk_40 := ((p_fk.ss st_17).ss st_24)
  refine zk_Vi (As := [.int d]) (rest := []) (bytes := cX7_readSums) (maxL := 4) (ret := (some .int)) Z h (ze_X7_readSums l D k Γ L F_21 H.size th d pr tk co Bt nt Nt x_10 σ_24 fcv (znx Nt σ).toNat nv hth bd (hfF_21.f hth 3 ⟨by decide, by decide⟩ (hfF_15.f hth 3 ⟨by decide, by decide⟩ (hfF_7.f hth 3 ⟨by decide, by decide⟩ kpr))) hpr (hfF_21.f hth 4 ⟨by decide, by decide⟩ (hfF_15.f hth 4 ⟨by decide, by decide⟩ (hfF_7.f hth 4 ⟨by decide, by decide⟩ ktk))) htk (hfF_21.f hth 5 ⟨by decide, by decide⟩ (hfF_15.f hth 5 ⟨by decide, by decide⟩ (hfF_7.f hth 5 ⟨by decide, by decide⟩ kco))) hco p_39 (hfF_21.f hth 11 ⟨by decide, by decide⟩ (hfF_15.f hth 11 ⟨by decide, by decide⟩ kx_10)) (bx_10.w ⟨by decide, by decide⟩) c1_24 (zCc.m (ccb_.w (dep' := d.toInt + 1) (by have := br_6.1; have := br_6.2; have := bd.1; have := bd.2; have := bx_10.1; have := bx_10.2; have := bfcv.1; have := bfcv.2; have := bsz_.1; have := bsz_.2; have := bx_25.1; have := bx_25.2; have := bx_26.1; have := bx_26.2; have := bcc.1; have := bcc.2; have : (1 : Int32).toInt = 1 := (by decide); omega)) (hfF_21.f hth 11 ⟨by decide, by decide⟩ (hfF_15.f hth 11 ⟨by decide, by decide⟩ kx_10))) (hfF_21.f hpr 4 ⟨by decide, by decide⟩ (hfF_15.f hpr 4 ⟨by decide, by decide⟩ (hfF_7.f hpr 4 ⟨by decide, by decide⟩ kfcv))) bfcv fk_40 (by have := br_6.1; have := br_6.2; have := bd.1; have := bd.2; have := bx_10.1; have := bx_10.2; have := bfcv.1; have := bfcv.2; have := bsz_.1; have := bsz_.2; have := bx_25.1; have := bx_25.2; have := bx_26.1; have := bx_26.2; have := bcc.1; have := bcc.2; have : (1 : Int32).toInt = 1 := (by decide); omega) hrec hop_) (cwV 1 hg zv_RX7_200 rfl rfl rfl zd_X7_readSums ⟨z_leR hRf (by have := br_6.1; have := br_6.2; have := bd.1; have := bd.2; have := bx_10.1; have := bx_10.2; have := bfcv.1; have := bfcv.2; have := bsz_.1; have := bsz_.2; have := bx_25.1; have := bx_25.2; have := bx_26.1; have := bx_26.2; have := bcc.1; have := bcc.2; have : (1 : Int32).toInt = 1 := (by decide); dsimp only; omega), z_leR hRl (by have := br_6.1; have := br_6.2; have := bd.1; have := bd.2; have := bx_10.1; have := bx_10.2; have := bfcv.1; have := bfcv.2; have := bsz_.1; have := bsz_.2; have := bx_25.1; have := bx_25.2; have := bx_26.1; have := bx_26.2; have := bcc.1; have := bcc.2; have : (1 : Int32).toInt = 1 := (by decide); dsimp only; omega)⟩) hth (by decide) rfl rfl hl.1 rfl (Nat.le_of_ble_eq_true rfl) dX7_readCall_26 ⟨Nat.zero_le _, Nat.zero_le _⟩ (fun r_41 F_42 H locs w_43 h hfF_42 => ?_)
  obtain ⟨br_41, ⟨x_45, kx_45, bx_45, q_44⟩, ⟨σ_47, c1_47, rn_47, st_47, cn_47⟩, -⟩ := w_43
  have rc_47 : zRc (zTo Bt nt) σ [(17, d.toInt.toNat, 0, 0)] σ_47 [(6, 41, 0, 0), (21, (znx Nt σ).toNat, r_41.toInt.toNat, 0)] := zRc.calls rc_24 (rn_47.x (zSy_eq (by have := br_6.1; have := br_6.2; have := bd.1; have := bd.2; have := bx_10.1; have := bx_10.2; have := bfcv.1; have := bfcv.2; have := bx_45.1; have := bx_45.2; have := bsz_.1; have := bsz_.2; have := bcc.1; have := bcc.2; have : (1 : Int32).toInt = 1 := (by decide); omega) (by have := br_6.1; have := br_6.2; have := bd.1; have := bd.2; have := bx_10.1; have := bx_10.2; have := bfcv.1; have := bfcv.2; have := bx_45.1; have := bx_45.2; have := bsz_.1; have := bsz_.2; have := bcc.1; have := bcc.2; have : (1 : Int32).toInt = 1 := (by decide); omega) (by have := br_6.1; have := br_6.2; have := bd.1; have := bd.2; have := bx_10.1; have := bx_10.2; have := bfcv.1; have := bfcv.2; have := bx_45.1; have := bx_45.2; have := bsz_.1; have := bsz_.2; have := bcc.1; have := bcc.2; have : (1 : Int32).toInt = 1 := (by decide); omega)))
  have ss_47 : zss σ σ_47 := ss_24.trans st_47
  have cc_47 : zCc Γ F_21 F_42 th (zTo Bt nt) σ_24 (σ_47) (d.toInt + 1) := zCc.call ccb_ cn_47
  obtain ⟨⟨x_48, kx_48, nx_48⟩, ⟨x_49, kx_49, nx_49⟩, ox_48⟩ := id c1_47
  have gx_48 := zC1.nx c1_47 hLs_.1 kx_48
  have bx_48 : zB 0 600 x_48 := ⟨by omega, by have := hLs_.2.1; omega⟩
  have bx_49 := zB.all x_49
  have mo_47 := zss.nx st_47 ox_25 ox_48
  refine lv_istore_n (lv' := [(3, .int r_41), (2, .int r_6), (0, .ref th), (1, .int d)]) hx hb dX7_readCall_29 rfl hl (by decide) rfl (fun ls hl => ?_)
  refine lv_aload_n hx hb dX7_readCall_30 rfl (lv_at hl 2 rfl) ?_
  refine lv_bipush (v := 41) hx hb dX7_readCall_31 (by decide) ?_
  have p_50 := (p_39.fr hfF_42 htk (by decide))
  refine zk_Vv (As := [.int 41]) (rest := []) (bytes := cX7_take) (maxL := 2) (ret := none) Z h (ze_X7_take l D k Γ L F_42 H.size th 41 tk Bt nt Nt σ_47 hth (zB.of ⟨by decide, by decide⟩) (hfF_42.f hth 4 ⟨by decide, by decide⟩ (hfF_21.f hth 4 ⟨by decide, by decide⟩ (hfF_15.f hth 4 ⟨by decide, by decide⟩ (hfF_7.f hth 4 ⟨by decide, by decide⟩ ktk)))) htk p_50 c1_47) (cwV 1 hg zv_RX7_108 rfl rfl rfl zd_X7_take ⟨z_leR hRf (by have := br_41.1; have := br_41.2; have := br_6.1; have := br_6.2; have := bd.1; have := bd.2; have := bx_45.1; have := bx_45.2; have := bfcv.1; have := bfcv.2; have := bsz_.1; have := bsz_.2; have := bx_48.1; have := bx_48.2; have := bx_49.1; have := bx_49.2; have := bcc.1; have := bcc.2; have : (1 : Int32).toInt = 1 := (by decide); have : (41 : Int32).toInt = 41 := (by decide); dsimp only; omega), z_leR hRl (by have := br_41.1; have := br_41.2; have := br_6.1; have := br_6.2; have := bd.1; have := bd.2; have := bx_45.1; have := bx_45.2; have := bfcv.1; have := bfcv.2; have := bsz_.1; have := bsz_.2; have := bx_48.1; have := bx_48.2; have := bx_49.1; have := bx_49.2; have := bcc.1; have := bcc.2; have : (1 : Int32).toInt = 1 := (by decide); have : (41 : Int32).toInt = 41 := (by decide); dsimp only; omega)⟩) hth (by decide) rfl rfl hl.1 rfl (Nat.le_of_ble_eq_true rfl) dX7_readCall_33 ⟨Nat.zero_le _, Nat.zero_le _⟩ (fun F_51 H locs w_52 h hfF_51 => ?_)
  obtain ⟨q_53, -⟩ := w_52
  have c1_54 : zC1 F_51 th Nt (ztk (zTo Bt nt) Nt (41 : Int32).toInt σ_47) := q_53
  have rc_54 : zRc (zTo Bt nt) σ [(17, d.toInt.toNat, 0, 0)] (ztk (zTo Bt nt) Nt (41 : Int32).toInt σ_47) [(21, (znx Nt σ).toNat, r_41.toInt.toNat, 0)] := zRc.tk (N := Nt) rc_47 (by decide)
  have st_54 : zss σ_47 (ztk (zTo Bt nt) Nt (41 : Int32).toInt σ_47) := zsm.tk.ss
  have ss_54 : zss σ (ztk (zTo Bt nt) Nt (41 : Int32).toInt σ_47) := ss_47.trans st_54
  have cc_54 : zCc Γ F_21 F_51 th (zTo Bt nt) σ_24 (ztk (zTo Bt nt) Nt (41 : Int32).toInt σ_47) (d.toInt) := (zCc.shut (N := Nt) (cc_47.fr hfF_51 hth (by decide) (zTo_P Bt nt)) (by have := br_41.1; have := br_41.2; have := br_6.1; have := br_6.2; have := bd.1; have := bd.2; have := bx_45.1; have := bx_45.2; have := bfcv.1; have := bfcv.2; have := bsz_.1; have := bsz_.2; have := bcc.1; have := bcc.2; have : (1 : Int32).toInt = 1 := (by decide); omega) (by decide))
  generalize hσ_54 : ztk (zTo Bt nt) Nt (41 : Int32).toInt σ_47 = σ_54 at c1_54 rc_54 st_54 ss_54 cc_54
  obtain ⟨⟨x_55, kx_55, nx_55⟩, ⟨x_56, kx_56, nx_56⟩, ox_55⟩ := id c1_54
  have gx_55 := zC1.nx c1_54 hLs_.1 kx_55
  have bx_55 : zB 0 600 x_55 := ⟨by omega, by have := hLs_.2.1; omega⟩
  have bx_56 := zB.all x_56
  have mo_54 := zss.nx st_54 ox_48 ox_55
  refine lv_aload_n hx hb dX7_readCall_36 rfl (lv_at hl 2 rfl) ?_
  refine zt_getk (t := 7) (C := RX7) (T := TX7) (N := 12) Z h hth zin_7 rfl 5 (hfF_51.f hth 5 ⟨by decide, by decide⟩ (hfF_42.f hth 5 ⟨by decide, by decide⟩ (hfF_21.f hth 5 ⟨by decide, by decide⟩ (hfF_15.f hth 5 ⟨by decide, by decide⟩ (hfF_7.f hth 5 ⟨by decide, by decide⟩ kco))))) ⟨by decide, rfl, by decide⟩ (zm_RX7 (List.mem_of_getElem? (i := 6) rfl)) (fun _ h9 => h9) dX7_readCall_37 ?_
  refine lv_bipush (v := 9) hx hb dX7_readCall_40 (by decide) ?_
  refine lv_iconst (v := 0) hx hb dX7_readCall_42 (by decide) ?_
  refine lv_iconst (v := 0) hx hb dX7_readCall_43 (by decide) ?_
  refine zk_Vi (As := [.int 9, .int 0, .int 0]) (rest := []) (bytes := cX1_add) (maxL := 4) (ret := (some .int)) Z h (zc_X1_add l D k Γ L F_51 H.size co 9 0 0 hco) (cwV 3 hg zv_RX7_117 rfl rfl rfl zd_X1_add ⟨z_leR hRf (by have := br_41.1; have := br_41.2; have := br_6.1; have := br_6.2; have := bd.1; have := bd.2; have := bx_45.1; have := bx_45.2; have := bfcv.1; have := bfcv.2; have := bsz_.1; have := bsz_.2; have := bx_55.1; have := bx_55.2; have := bx_56.1; have := bx_56.2; have := bcc.1; have := bcc.2; have : (0 : Int32).toInt = 0 := (by decide); have : (1 : Int32).toInt = 1 := (by decide); have : (9 : Int32).toInt = 9 := (by decide); dsimp only; omega), z_leR hRl (by have := br_41.1; have := br_41.2; have := br_6.1; have := br_6.2; have := bd.1; have := bd.2; have := bx_45.1; have := bx_45.2; have := bfcv.1; have := bfcv.2; have := bsz_.1; have := bsz_.2; have := bx_55.1; have := bx_55.2; have := bx_56.1; have := bx_56.2; have := bcc.1; have := bcc.2; have : (0 : Int32).toInt = 0 := (by decide); have : (1 : Int32).toInt = 1 := (by decide); have : (9 : Int32).toInt = 9 := (by decide); dsimp only; omega)⟩) hco (by decide) rfl rfl hl.1 rfl (Nat.le_of_ble_eq_true rfl) dX7_readCall_44 ⟨Nat.zero_le _, Nat.zero_le _⟩ (fun r_57 F_58 H locs w_59 h hfF_58 => ?_)
  obtain ⟨br_57, -⟩ := w_59
  refine lv_istore (lv' := [(4, .int r_57), (3, .int r_41), (2, .int r_6), (0, .ref th), (1, .int d)]) hx hb dX7_readCall_47 hl (by decide) rfl (fun ls hl => ?_)
  have cc_60 := (cc_54.fr hfF_58 hth (by decide) (zTo_P Bt nt))
  have hle_ := zCc.le cc_60 (hfF_21.f hth 11 ⟨by decide, by decide⟩ (hfF_15.f hth 11 ⟨by decide, by decide⟩ kx_10)) (hfF_58.f hth 11 ⟨by decide, by decide⟩ (hfF_51.f hth 11 ⟨by decide, by decide⟩ kx_45))
  refine lv_iload_n hx hb dX7_readCall_49 rfl (lv_at hl 2 rfl) ?_
  refine lv_if_lt (tgt := 76) hx hb dX7_readCall_50 (by decide) (fun c_61 => ?_) (fun c_61 => ?_)
  · have c_61 := z_lt c_61
    have br_6_62 : zB (-1) (-1) r_6 := zB.ltL c_61 br_6 (zBc 0 0 (by decide)) (by decide)
    exfalso
    have := br_57.1; have := br_57.2; have := br_41.1; have := br_41.2; have := br_6_62.1; have := br_6_62.2; have := bd.1; have := bd.2; have := bx_55.1; have := bx_55.2; have := bx_45.1; have := bx_45.2; have := bfcv.1; have := bfcv.2; have := bsz_.1; have := bsz_.2; have := bx_56.1; have := bx_56.2; have := bcc.1; have := bcc.2; have : (0 : Int32).toInt = 0 := (by decide); have : (1 : Int32).toInt = 1 := (by decide); omega
  · have c_61 := z_nlt c_61
    have br_6_63 : zB 0 149 r_6 := zB.leR c_61 (zBc 0 0 (by decide)) br_6 (by decide)
    refine lv_iload_n hx hb dX7_readCall_53 rfl (lv_at hl 2 rfl) ?_
    refine lv_aload_n hx hb dX7_readCall_54 rfl (lv_at hl 3 rfl) ?_
    refine zt_getk (t := 7) (C := RX7) (T := TX7) (N := 12) Z h hth zin_7 rfl 11 (hfF_58.f hth 11 ⟨by decide, by decide⟩ (hfF_51.f hth 11 ⟨by decide, by decide⟩ kx_45)) ⟨by decide, rfl, by decide⟩ (zm_RX7 (List.mem_of_getElem? (i := 10) rfl)) (fun _ h9 => h9) dX7_readCall_55 ?_
    refine lv_icmp_ge (tgt := 76) hx hb dX7_readCall_58 (by decide) (fun c_64 => ?_) (fun c_64 => ?_)
    · have c_64 := z_le c_64
      have bx_45_65 : zB 0 149 x_45 := zB.leL c_64 bx_45 br_6_63 (by decide)
      exfalso
      have := br_57.1; have := br_57.2; have := br_41.1; have := br_41.2; have := br_6_63.1; have := br_6_63.2; have := bd.1; have := bd.2; have := bx_55.1; have := bx_55.2; have := bx_45_65.1; have := bx_45_65.2; have := bfcv.1; have := bfcv.2; have := bsz_.1; have := bsz_.2; have := bx_56.1; have := bx_56.2; have := bcc.1; have := bcc.2; have : (0 : Int32).toInt = 0 := (by decide); have : (1 : Int32).toInt = 1 := (by decide); omega
    · have c_64 := z_nle c_64
      have bx_45_66 : zB 1 150 x_45 := zB.ltR c_64 br_6_63 bx_45 (by decide)
      have ad_67 := ad_29.fr hfF_42 hth ⟨by decide, by decide⟩
      have ad_68 := ad_67.fr hfF_51 hth ⟨by decide, by decide⟩
      have ad_69 := ad_68.fr hfF_58 hth ⟨by decide, by decide⟩
      have ad_70 := ad_32.fr hfF_42 hth ⟨by decide, by decide⟩
      have ad_71 := ad_70.fr hfF_51 hth ⟨by decide, by decide⟩
      have ad_72 := ad_71.fr hfF_58 hth ⟨by decide, by decide⟩
      have ad_73 := ad_35.fr hfF_42 hth ⟨by decide, by decide⟩
      have ad_74 := ad_73.fr hfF_51 hth ⟨by decide, by decide⟩
      have ad_75 := ad_74.fr hfF_58 hth ⟨by decide, by decide⟩
      refine lv_aload_n hx hb dX7_readCall_61 rfl (lv_at hl 3 rfl) ?_
      refine zt_getr (t := 7) (C := RX7) (T := TX7) (N := 12) Z h hth zin_7 rfl 8 rfl ⟨by decide, rfl⟩ (zm_RX7 (List.mem_of_getElem? (i := 113) rfl)) (fun _ h9 => h9) dX7_readCall_62 (fun a_76 ka_76 ha_76 => ?_)
      refine lv_iload_n hx hb dX7_readCall_65 rfl (lv_at hl 2 rfl) ?_
      refine lv_iload_n hx hb dX7_readCall_66 rfl (lv_at hl 1 rfl) ?_
      refine zt_iaste (t := 107) Z h ha_76 ⟨by decide, rfl⟩ br_6_63 ⟨by decide, by decide⟩ (br_41.w ⟨by decide, by decide⟩) dX7_readCall_67 (fun H locs F_77 h hfF_77 eF_77 gF_77 => ?_)
      have uF_77 := (zar_st ka_76 (hfF_77.f hth 8 ⟨by decide, by decide⟩ ka_76) eF_77 gF_77).trans (congrArg (fun z => upd z (Int32.toNatClampNeg r_6) r_41) (rfl : zar F_58 th 8 = (zar F_58 th 8)))
      refine lv_aload_n hx hb dX7_readCall_68 rfl (lv_at hl 3 rfl) ?_
      refine zt_getr (t := 7) (C := RX7) (T := TX7) (N := 12) Z h hth zin_7 rfl 9 rfl ⟨by decide, rfl⟩ (zm_RX7 (List.mem_of_getElem? (i := 114) rfl)) (fun _ h9 => h9) dX7_readCall_69 (fun a_78 ka_78 ha_78 => ?_)
      refine lv_iload_n hx hb dX7_readCall_72 rfl (lv_at hl 2 rfl) ?_
      refine lv_iload hx hb dX7_readCall_73 (lv_at hl 0 rfl) ?_
      have ad_80 := z_ad (j := 9) (c := 160) h.2.1 hth (by decide) rfl
      refine zt_iaste (t := 160) Z h ha_78 ⟨by decide, rfl⟩ br_6_63 ⟨by decide, by decide⟩ (br_57.w ⟨by decide, by decide⟩) dX7_readCall_75 (fun H locs F_79 h hfF_79 eF_79 gF_79 => ?_)
      have uF_79 := (zar_st ka_78 (hfF_79.f hth 9 ⟨by decide, by decide⟩ ka_78) eF_79 gF_79).trans (congrArg (fun z => upd z (Int32.toNatClampNeg r_6) r_57) (rfl : zar F_77 th 9 = (zar F_77 th 9)))
      have ad_81 := ad_69.fr hfF_77 hth ⟨by decide, by decide⟩
      have ar_82 : zar F_79 th 7 = (zar F_58 th 7) := ((ad_81.ar hfF_79 hth ⟨by decide, by decide⟩ ⟨by decide, by decide⟩).trans ((ad_69.ar hfF_77 hth ⟨by decide, by decide⟩ ⟨by decide, by decide⟩).trans rfl))
      have ad_83 := ad_72.fr hfF_77 hth ⟨by decide, by decide⟩
      have ar_84 : zar F_79 th 8 = (upd (zar F_58 th 8) (Int32.toNatClampNeg r_6) r_41) := ((ad_83.ar hfF_79 hth ⟨by decide, by decide⟩ ⟨by decide, by decide⟩).trans uF_77)
      have ad_85 := ad_75.fr hfF_77 hth ⟨by decide, by decide⟩
      have ar_86 : zar F_79 th 10 = (zar F_58 th 10) := ((ad_85.ar hfF_79 hth ⟨by decide, by decide⟩ ⟨by decide, by decide⟩).trans ((ad_75.ar hfF_77 hth ⟨by decide, by decide⟩ ⟨by decide, by decide⟩).trans rfl))
      have fk_87 := ((fk_40.ss st_47).ss st_54)
      have ad_88 := ad_81.fr hfF_79 hth ⟨by decide, by decide⟩
      have ad_89 := ad_83.fr hfF_79 hth ⟨by decide, by decide⟩
      have ad_90 := ad_85.fr hfF_79 hth ⟨by decide, by decide⟩
      have c1_91 := (((c1_54.fr hfF_58 hth (by decide)).fr hfF_77 hth (by decide)).fr hfF_79 hth (by decide))
      have c1_92 : zC1 F_79 th Nt (zmap (fun _ d => zaddc d [((znx Nt σ).toNat, r_41.toInt.toNat, zfc d)]) σ_54) := c1_91.map
      have rc_92 : zRc (zTo Bt nt) σ [(17, d.toInt.toNat, 0, 0)] (zmap (fun _ d => zaddc d [((znx Nt σ).toNat, r_41.toInt.toNat, zfc d)]) σ_54) [] := zRc.callE rc_54
      have st_92 : zss σ_54 (zmap (fun _ d => zaddc d [((znx Nt σ).toNat, r_41.toInt.toNat, zfc d)]) σ_54) := zss.map (fun _ _ => zEL.addc)
      have ss_92 : zss σ (zmap (fun _ d => zaddc d [((znx Nt σ).toNat, r_41.toInt.toNat, zfc d)]) σ_54) := ss_54.trans st_92
      have cc_92 : zCc Γ F F_79 th (zTo Bt nt) σ (zmap (fun _ d => zaddc d [((znx Nt σ).toNat, r_41.toInt.toNat, zfc d)]) σ_54) (d.toInt) := (zCc.callX kcc bcc.1 (hfF_21.f hth 11 ⟨by decide, by decide⟩ (hfF_15.f hth 11 ⟨by decide, by decide⟩ kx_10)) (by have := br_57.1; have := br_57.2; have := br_41.1; have := br_41.2; have := br_6_63.1; have := br_6_63.2; have := bd.1; have := bd.2; have := bx_10.1; have := bx_10.2; have := bx_1.1; have := bx_1.2; have := bx_45_66.1; have := bx_45_66.2; have := bfcv.1; have := bfcv.2; have := bsz_.1; have := bsz_.2; have := bx_55.1; have := bx_55.2; have := bx_56.1; have := bx_56.2; have := bcc.1; have := bcc.2; have : (0 : Int32).toInt = 0 := (by decide); have : (1 : Int32).toInt = 1 := (by decide); omega) ar_36 (by have := br_57.1; have := br_57.2; have := br_41.1; have := br_41.2; have := br_6_63.1; have := br_6_63.2; have := bd.1; have := bd.2; have := bx_10.1; have := bx_10.2; have := bx_1.1; have := bx_1.2; have := bx_45_66.1; have := bx_45_66.2; have := bfcv.1; have := bfcv.2; have := bsz_.1; have := bsz_.2; have := bx_55.1; have := bx_55.2; have := bx_56.1; have := bx_56.2; have := bcc.1; have := bcc.2; have : (0 : Int32).toInt = 0 := (by decide); have : (1 : Int32).toInt = 1 := (by decide); have h8 := nx_1; omega) ar_37 ar_38 cc_60 (hfF_58.f hth 11 ⟨by decide, by decide⟩ (hfF_51.f hth 11 ⟨by decide, by decide⟩ kx_45)) (hfF_79.f hth 11 ⟨by decide, by decide⟩ (hfF_77.f hth 11 ⟨by decide, by decide⟩ (hfF_58.f hth 11 ⟨by decide, by decide⟩ (hfF_51.f hth 11 ⟨by decide, by decide⟩ kx_45)))) ar_82 (by rw [show cc = r_6 from Int32.toInt_inj.mp (by have := br_57.1; have := br_57.2; have := br_41.1; have := br_41.2; have := br_6_63.1; have := br_6_63.2; have := bd.1; have := bd.2; have := bx_10.1; have := bx_10.2; have := bx_1.1; have := bx_1.2; have := bx_45_66.1; have := bx_45_66.2; have := bfcv.1; have := bfcv.2; have := bsz_.1; have := bsz_.2; have := bx_55.1; have := bx_55.2; have := bx_56.1; have := bx_56.2; have := bcc.1; have := bcc.2; have : (0 : Int32).toInt = 0 := (by decide); have : (1 : Int32).toInt = 1 := (by decide); omega)]; exact ar_84) ar_86 (by have := br_57.1; have := br_57.2; have := br_41.1; have := br_41.2; have := br_6_63.1; have := br_6_63.2; have := bd.1; have := bd.2; have := bx_10.1; have := bx_10.2; have := bx_1.1; have := bx_1.2; have := bx_45_66.1; have := bx_45_66.2; have := bfcv.1; have := bfcv.2; have := bsz_.1; have := bsz_.2; have := bx_55.1; have := bx_55.2; have := bx_56.1; have := bx_56.2; have := bcc.1; have := bcc.2; have : (0 : Int32).toInt = 0 := (by decide); have : (1 : Int32).toInt = 1 := (by decide); omega) ⟨ad_88, ad_89, ad_90⟩ (zsm.trans (σ1 := σ_17) (by rw [← hσ_17]; exact zsm.adv) (by rw [← hσ_24]; exact zsm.op)) (zcl_tn hr1 hLs_ (by rw [hσ_17]; exact hσ_24)) fk_87)
      generalize hσ_92 : zmap (fun _ d => zaddc d [((znx Nt σ).toNat, r_41.toInt.toNat, zfc d)]) σ_54 = σ_92 at c1_92 rc_92 st_92 ss_92 cc_92
      obtain ⟨⟨x_93, kx_93, nx_93⟩, ⟨x_94, kx_94, nx_94⟩, ox_93⟩ := id c1_92
      have gx_93 := zC1.nx c1_92 hLs_.1 kx_93
      have bx_93 : zB 0 600 x_93 := ⟨by omega, by have := hLs_.2.1; omega⟩
      have bx_94 := zB.all x_94
      have vx_93 := congrArg Int32.toInt (z_same (hfF_79.f hth 6 ⟨by decide, by decide⟩ (hfF_77.f hth 6 ⟨by decide, by decide⟩ (hfF_58.f hth 6 ⟨by decide, by decide⟩ kx_55))) kx_93)
      have mo_92 := zss.nx st_92 ox_55 ox_93
      subst hQ
      exact W.vret hx hb hr (fun t ht hW => ⟨⟨F_79, rfl, ⟨⟨x_45, (hfF_79.f hth 11 ⟨by decide, by decide⟩ (hfF_77.f hth 11 ⟨by decide, by decide⟩ (hfF_58.f hth 11 ⟨by decide, by decide⟩ (hfF_51.f hth 11 ⟨by decide, by decide⟩ kx_45)))), (bx_45_66.w ⟨by decide, by decide⟩), (by have := br_57.1; have := br_57.2; have := br_41.1; have := br_41.2; have := br_6_63.1; have := br_6_63.2; have := bd.1; have := bd.2; have := bx_45_66.1; have := bx_45_66.2; have := bfcv.1; have := bfcv.2; have := bsz_.1; have := bsz_.2; have := bx_93.1; have := bx_93.2; have := bx_94.1; have := bx_94.2; have := bcc.1; have := bcc.2; have : (0 : Int32).toInt = 0 := (by decide); have : (1 : Int32).toInt = 1 := (by decide); omega)⟩, ⟨σ_92, c1_92, rc_92, ss_92, (cc_92.w (by have := br_57.1; have := br_57.2; have := br_41.1; have := br_41.2; have := br_6_63.1; have := br_6_63.2; have := bd.1; have := bd.2; have := bx_45_66.1; have := bx_45_66.2; have := bfcv.1; have := bfcv.2; have := bsz_.1; have := bsz_.2; have := bx_93.1; have := bx_93.2; have := bx_94.1; have := bx_94.2; have := bcc.1; have := bcc.2; have : (0 : Int32).toInt = 0 := (by decide); have : (1 : Int32).toInt = 1 := (by decide); omega))⟩, trivial⟩, by rw [ht]; exact h.1, h.2.1, ((((((((hfF_7.w (by decide)).trans hfF_15 (by decide)).trans hfF_21 (by decide)).trans hfF_42 (by decide)).trans hfF_51 (by decide)).trans hfF_58 (by decide)).trans hfF_77 (by decide)).trans hfF_79 (by decide))⟩, h.2.2.F ht⟩) h.2.2.2.2 dX7_readCall_76

set_option maxHeartbeats 4000000 in
set_option maxRecDepth 100000 in
theorem ze_X7_readPart (l : Launch) (D : va_G) (k : Nat → ClassId) (Γ : Nat → Option Nat) (L : List Nat) (F : Nat → va_E) (sz : Nat) (th : Nat) (d : Int32) (pr : Nat) (tk : Nat) (co : Nat) (Bt : Nat → Int32) (nt : Nat) (Nt : Nat) (cc : Int32) (σ : zSg) (fcv : Int32) (nv : Nat) (hth : Γ th = some 7) (bd : zB 0 6 d) (kpr : zfld F th 3 = .ref pr) (hpr : Γ pr = some 6) (ktk : zfld F th 4 = .ref tk) (htk : Γ tk = some 8) (kco : zfld F th 5 = .ref co) (hco : Γ co = some 1) (p_tb : zTb Γ F tk Bt nt Nt) (kcc : zfld F th 11 = .int cc) (bcc : zB 0 150 cc) (p_au : zC1 F th Nt (σ)) (hm_ : ∀ i d9, σ = .inl (i, d9) → 4 * cc.toInt + 5 ≤ zpo Bt nt i + (d.toInt)) (kfcv : zfld F pr 4 = .int fcv) (bfcv : zB 0 10 fcv) (p_fk : zFk fcv σ) (hr0 : 6 ≤ d.toInt + (nv : Int)) (hrec : ∀ q : Nat, nv = q + 1 → zR_sum l q) : Met l yX7_readPart zwX7_readPart ({ frames := 10 * nv + 7, cells := 0, slots := 0, locals := 400 * nv + 220 }) (va_Pc [.ref th, .int d] (zP D k Γ L F sz)) (va_Qv (fun (u : Nat → va_E) => (∃ (c9 : Int32), zfld u th 11 = .int c9 ∧ zB 0 150 c9 ∧ (0 ≤ c9.toInt)) ∧ (∃ σ9 : zSg, zC1 u th Nt σ9 ∧ zRc (zTo Bt nt) σ [(17, d.toInt.toNat, 0, 0)] σ9 [] ∧ zss σ σ9 ∧ zCc Γ F u th (zTo Bt nt) σ σ9 (d.toInt)) ∧ True) (zQ D k Γ L F [103, 701, 702, 706, 711, 10200, 10600, 10700, 15800, 15900, 16000, 16100]) (zA L sz)) 0 0 (zA L sz) := by
  refine Met.ofW (cc := cX7_readPart) (maxL := 2) (ret := none) (by decide) rfl ?_
  intro p e s m args below meth c s₁ B hml hv
  obtain ⟨rfl, hsz, hP, hK, hLn, hE, hI⟩ := hv
  have hx := B.exec
  have hb := B.bytes
  have hr := B.returns
  have hg : ∀ w ∈ zG, w.before _ s = true := fun w h9 => atoms_spec (ws := zwX7_readPart) B.pre w (List.mem_cons_of_mem _ h9)
  have hown : s.vm.findClass RX7 = some m.cls := findClass_of_methodNamed B.named
  have hlocks := B.notSynchronized
  subst hsz
  have Z : zC p m c cX7_readPart 2 s _ zG RX7 D k L := ⟨⟨hx, hb, hml, hown, hg⟩, hK, hLn, hE⟩
  have h : zH D k Γ L s F s.heap [] := ⟨hP, hI, va_S.rf⟩
  have hl := lv_entry ([.ref th, .int d]) (n := 2) (Nat.le_of_ble_eq_true rfl)
  rw [lg_entry_eq]
  generalize (lg_sl ([.ref th, .int d]) ++ List.replicate (2 - (lg_sl ([.ref th, .int d])).length) Slot.unset).toArray = ls at hl ⊢
  have hl : lv_has ls 2 [(0, .ref th), (1, .int d)] := hl
  clear hP hK hLn hE hI
  generalize hargs : ([.ref th, .int d] : List Value).toArray = args at *
  refine z_start (fun R Q hRf hRl hQ => ?_)
  have hRf : R.frames = 10 * nv + 7 := hRf
  have hRl : R.locals = 400 * nv + 220 := hRl
  have h9 := h
  have hLs_ := p_tb.2.2.2.1
  obtain ⟨sz_, ksz_, tsz_⟩ := p_tb.2.2.1
  have bsz_ : zB 1 601 sz_ := ⟨by have := hLs_.1; omega, by have := hLs_.2.1; omega⟩
  obtain ⟨⟨x_1, kx_1, nx_1⟩, ⟨x_2, kx_2, nx_2⟩, ox_1⟩ := id p_au
  have gx_1 := zC1.nx p_au hLs_.1 kx_1
  have bx_1 : zB 0 600 x_1 := ⟨by omega, by have := hLs_.2.1; omega⟩
  have bx_2 := zB.all x_2
  have ad_3 := z_ad (j := 7) (c := 106) h.2.1 hth (by decide) rfl
  have ad_4 := z_ad (j := 8) (c := 107) h.2.1 hth (by decide) rfl
  have ad_5 := z_ad (j := 10) (c := 161) h.2.1 hth (by decide) rfl
  have cc0_ : zCc Γ F F th (zTo Bt nt) σ σ (d.toInt) := zCc.rf kcc bcc.1 ⟨ad_3, ad_4, ad_5⟩ hm_
  have rc0_ : zRc (zTo Bt nt) σ [(17, d.toInt.toNat, 0, 0)] σ [(17, d.toInt.toNat, 0, 0)] := zRc.rf
  have ss0_ : zss σ σ := zss.rf
  refine lv_aload_n hx hb dX7_readPart_0 rfl (lv_at hl 0 rfl) ?_
  refine zk_Vi (As := []) (rest := []) (bytes := cX7_kind) (maxL := 2) (ret := (some .int)) Z h (ze_X7_kind l D k Γ L F s.heap.size th tk Bt nt Nt σ hth ktk htk p_tb p_au) (cwV 0 hg zv_RX7_65 rfl rfl rfl zd_X7_kind ⟨z_leR hRf (by have := bd.1; have := bd.2; have := bcc.1; have := bcc.2; have := bfcv.1; have := bfcv.2; have := bsz_.1; have := bsz_.2; have := bx_1.1; have := bx_1.2; have := bx_2.1; have := bx_2.2; dsimp only; omega), z_leR hRl (by have := bd.1; have := bd.2; have := bcc.1; have := bcc.2; have := bfcv.1; have := bfcv.2; have := bsz_.1; have := bsz_.2; have := bx_1.1; have := bx_1.2; have := bx_2.1; have := bx_2.2; dsimp only; omega)⟩) hth (by decide) rfl rfl hl.1 rfl (Nat.le_of_ble_eq_true rfl) dX7_readPart_1 ⟨Nat.zero_le _, Nat.zero_le _⟩ (fun r_6 F_7 H locs w_8 h hfF_7 => ?_)
  obtain ⟨rfl, q_9, -⟩ := w_8
  have br_6 := zB.all r_6
  by_cases c_10 : r_6 = 2
  · refine lv_lookup (off := 44) (tgt := 48) hx hb dX7_readPart_4 (by decide) (by rw [c_10]; rfl) (by decide) ?_
    have br_6_10 : zB 2 2 r_6 := by rw [c_10]; exact zBc _ _ (by decide)
    refine lv_aload_n hx hb dX7_readPart_48 rfl (lv_at hl 0 rfl) ?_
    refine zt_getk (t := 7) (C := RX7) (T := TX7) (N := 12) Z h hth zin_7 rfl 5 kco ⟨by decide, rfl, by decide⟩ (zm_RX7 (List.mem_of_getElem? (i := 6) rfl)) (fun _ h9 => h9) dX7_readPart_49 ?_
    refine lv_iconst (v := 1) hx hb dX7_readPart_52 (by decide) ?_
    refine lv_aload_n hx hb dX7_readPart_53 rfl (lv_at hl 0 rfl) ?_
    refine zt_getk (t := 7) (C := RX7) (T := TX7) (N := 12) Z h hth zin_7 rfl 4 ktk ⟨by decide, rfl, by decide⟩ (zm_RX7 (List.mem_of_getElem? (i := 4) rfl)) (fun _ h9 => h9) dX7_readPart_54 ?_
    refine lv_aload_n hx hb dX7_readPart_57 rfl (lv_at hl 0 rfl) ?_
    refine zt_getk (t := 7) (C := RX7) (T := TX7) (N := 12) Z h hth zin_7 rfl 6 kx_1 ⟨by decide, rfl, by decide⟩ (zm_RX7 (List.mem_of_getElem? (i := 9) rfl)) (fun _ h9 => h9) dX7_readPart_58 ?_
    refine zk_Vi (As := [.int x_1]) (rest := [.int 1, .ref co]) (bytes := cX8_valueOf) (maxL := 4) (ret := (some .int)) Z h (zc_X8_valueOf l D k Γ L F H.size tk x_1 htk) (cwV 1 hg zv_RX7_185 rfl rfl rfl zd_X8_valueOf ⟨z_leR hRf (by have := bd.1; have := bd.2; have := bx_1.1; have := bx_1.2; have := br_6_10.1; have := br_6_10.2; have := bcc.1; have := bcc.2; have := bfcv.1; have := bfcv.2; have := bsz_.1; have := bsz_.2; have := bx_2.1; have := bx_2.2; have : (1 : Int32).toInt = 1 := (by decide); dsimp only; omega), z_leR hRl (by have := bd.1; have := bd.2; have := bx_1.1; have := bx_1.2; have := br_6_10.1; have := br_6_10.2; have := bcc.1; have := bcc.2; have := bfcv.1; have := bfcv.2; have := bsz_.1; have := bsz_.2; have := bx_2.1; have := bx_2.2; have : (1 : Int32).toInt = 1 := (by decide); dsimp only; omega)⟩) htk (by decide) rfl rfl hl.1 rfl (Nat.le_of_ble_eq_true rfl) dX7_readPart_61 ⟨Nat.zero_le _, Nat.zero_le _⟩ (fun r_12 F_13 H locs w_14 h hfF_13 => ?_)
    obtain ⟨rfl, -⟩ := w_14
    have br_12 := zB.all r_12
    refine lv_iconst (v := 0) hx hb dX7_readPart_64 (by decide) ?_
    refine zk_Vi (As := [.int 1, .int r_12, .int 0]) (rest := []) (bytes := cX1_add) (maxL := 4) (ret := (some .int)) Z h (zc_X1_add l D k Γ L F H.size co 1 r_12 0 hco) (cwV 3 hg zv_RX7_117 rfl rfl rfl zd_X1_add ⟨z_leR hRf (by have := bd.1; have := bd.2; have := br_12.1; have := br_12.2; have := br_6_10.1; have := br_6_10.2; have := bcc.1; have := bcc.2; have := bfcv.1; have := bfcv.2; have := bsz_.1; have := bsz_.2; have := bx_1.1; have := bx_1.2; have := bx_2.1; have := bx_2.2; have : (0 : Int32).toInt = 0 := (by decide); have : (1 : Int32).toInt = 1 := (by decide); dsimp only; omega), z_leR hRl (by have := bd.1; have := bd.2; have := br_12.1; have := br_12.2; have := br_6_10.1; have := br_6_10.2; have := bcc.1; have := bcc.2; have := bfcv.1; have := bfcv.2; have := bsz_.1; have := bsz_.2; have := bx_1.1; have := bx_1.2; have := bx_2.1; have := bx_2.2; have : (0 : Int32).toInt = 0 := (by decide); have : (1 : Int32).toInt = 1 := (by decide); dsimp only; omega)⟩) hco (by decide) rfl rfl hl.1 rfl (Nat.le_of_ble_eq_true rfl) dX7_readPart_65 ⟨Nat.zero_le _, Nat.zero_le _⟩ (fun r_15 F_16 H locs w_17 h hfF_16 => ?_)
    obtain ⟨br_15, -⟩ := w_17
    refine lv_pop hx hb dX7_readPart_68 rfl ?_
    refine lv_aload_n hx hb dX7_readPart_69 rfl (lv_at hl 0 rfl) ?_
    refine lv_dup hx hb dX7_readPart_70 rfl ?_
    refine zt_getk (t := 7) (C := RX7) (T := TX7) (N := 12) Z h hth zin_7 rfl 6 (hfF_16.f hth 6 ⟨by decide, by decide⟩ kx_1) ⟨by decide, rfl, by decide⟩ (zm_RX7 (List.mem_of_getElem? (i := 9) rfl)) (fun _ h9 => h9) dX7_readPart_71 ?_
    refine lv_iconst (v := 1) hx hb dX7_readPart_74 (by decide) ?_
    refine lv_iadd hx hb dX7_readPart_75 ?_
    refine zi_add (lo := 1) (hi := 601) bx_1 (zBc 1 1 (by decide)) (by decide) (fun x_18 bx_18 tx_18 => ?_)
    refine zt_put (t := 7) (C := RX7) (T := TX7) (N := 12) (v := .int x_18) Z h hth zin_7 tyX7 tyX7_ok nmX7 rfl 6 rfl ⟨by decide, rfl⟩ (zm_RX7 (List.mem_of_getElem? (i := 9) rfl)) (fun _ h9 => h9) rfl (zV.i (bx_18.w ⟨by decide, by decide⟩)) rfl rfl dX7_readPart_76 (fun H locs F_19 h hfF_19 kF_19 => ?_)
    have c1_20 := (p_au.fr hfF_16 hth (by decide))
    have cc_21 := (cc0_.fr hfF_16 hth (by decide) (zTo_P Bt nt))
    have c1_22 : zC1 F_19 th Nt (zadv σ) := (zC1.adv (T := zTo Bt nt) c1_20 hfF_19 hth (by decide) (hfF_16.f hth 6 ⟨by decide, by decide⟩ kx_1) kF_19 (by have := bd.1; have := bd.2; have := bx_1.1; have := bx_1.2; have := br_6_10.1; have := br_6_10.2; have := bcc.1; have := bcc.2; have := bfcv.1; have := bfcv.2; have := bsz_.1; have := bsz_.2; have := bx_18.1; have := bx_18.2; have := bx_2.1; have := bx_2.2; have : (1 : Int32).toInt = 1 := (by decide); omega) hLs_ ⟨by have := bd.1; have := bd.2; have := bx_1.1; have := bx_1.2; have := br_6_10.1; have := br_6_10.2; have := bcc.1; have := bcc.2; have := bfcv.1; have := bfcv.2; have := bsz_.1; have := bsz_.2; have := bx_18.1; have := bx_18.2; have := bx_2.1; have := bx_2.2; have : (1 : Int32).toInt = 1 := (by decide); omega, by have := bd.1; have := bd.2; have := bx_1.1; have := bx_1.2; have := br_6_10.1; have := br_6_10.2; have := bcc.1; have := bcc.2; have := bfcv.1; have := bfcv.2; have := bsz_.1; have := bsz_.2; have := bx_18.1; have := bx_18.2; have := bx_2.1; have := bx_2.2; have : (1 : Int32).toInt = 1 := (by decide); omega⟩)
    have rc_22 : zRc (zTo Bt nt) σ [(17, d.toInt.toNat, 0, 0)] (zadv σ) [] := zRc.partA (N := Nt) rc0_ (by have := bd.1; have := bd.2; have := br_6_10.1; have := br_6_10.2; have := bcc.1; have := bcc.2; have := bfcv.1; have := bfcv.2; have := bsz_.1; have := bsz_.2; have := bx_18.1; have := bx_18.2; have := bx_2.1; have := bx_2.2; have : (1 : Int32).toInt = 1 := (by decide); omega)
    have st_22 : zss σ (zadv σ) := zsm.adv.ss
    have ss_22 : zss σ (zadv σ) := ss0_.trans st_22
    have cc_22 : zCc Γ F F_19 th (zTo Bt nt) σ (zadv σ) (d.toInt) := (cc_21.mv hfF_19 hth (by decide) (zTo_P Bt nt) zsm.adv.cs)
    generalize hσ_22 : zadv σ = σ_22 at c1_22 rc_22 st_22 ss_22 cc_22
    obtain ⟨⟨x_23, kx_23, nx_23⟩, ⟨x_24, kx_24, nx_24⟩, ox_23⟩ := id c1_22
    have gx_23 := zC1.nx c1_22 hLs_.1 kx_23
    have bx_23 : zB 0 600 x_23 := ⟨by omega, by have := hLs_.2.1; omega⟩
    have bx_24 := zB.all x_24
    have vx_23 := congrArg Int32.toInt (z_same kF_19 kx_23)
    have mo_22 := zss.nx st_22 ox_1 ox_23
    refine lv_goto (tgt := 148) hx hb dX7_readPart_79 (by decide) ?_
    subst hQ
    exact W.vret hx hb hr (fun t ht hW => ⟨⟨F_19, rfl, ⟨⟨cc, (hfF_19.f hth 11 ⟨by decide, by decide⟩ (hfF_16.f hth 11 ⟨by decide, by decide⟩ kcc)), bcc, (by have := bd.1; have := bd.2; have := bcc.1; have := bcc.2; have := br_6_10.1; have := br_6_10.2; have := bfcv.1; have := bfcv.2; have := bsz_.1; have := bsz_.2; have := bx_23.1; have := bx_23.2; have := bx_24.1; have := bx_24.2; have : (1 : Int32).toInt = 1 := (by decide); omega)⟩, ⟨σ_22, c1_22, rc_22, ss_22, (cc_22.w (by have := bd.1; have := bd.2; have := br_6_10.1; have := br_6_10.2; have := bcc.1; have := bcc.2; have := bfcv.1; have := bfcv.2; have := bsz_.1; have := bsz_.2; have := bx_23.1; have := bx_23.2; have := bx_24.1; have := bx_24.2; have : (1 : Int32).toInt = 1 := (by decide); omega))⟩, trivial⟩, by rw [ht]; exact h.1, h.2.1, ((hfF_16.w (by decide)).trans hfF_19 (by decide))⟩, h.2.2.F ht⟩) h.2.2.2.2 dX7_readPart_148
  · by_cases c_25 : r_6 = 3
    · refine lv_lookup (off := 78) (tgt := 82) hx hb dX7_readPart_4 (by decide) (by rw [c_25]; rfl) (by decide) ?_
      have br_6_25 : zB 3 3 r_6 := by rw [c_25]; exact zBc _ _ (by decide)
      refine lv_aload_n hx hb dX7_readPart_82 rfl (lv_at hl 0 rfl) ?_
      refine zt_getk (t := 7) (C := RX7) (T := TX7) (N := 12) Z h hth zin_7 rfl 5 kco ⟨by decide, rfl, by decide⟩ (zm_RX7 (List.mem_of_getElem? (i := 6) rfl)) (fun _ h9 => h9) dX7_readPart_83 ?_
      refine lv_iconst (v := 2) hx hb dX7_readPart_86 (by decide) ?_
      refine lv_aload_n hx hb dX7_readPart_87 rfl (lv_at hl 0 rfl) ?_
      refine zt_getk (t := 7) (C := RX7) (T := TX7) (N := 12) Z h hth zin_7 rfl 4 ktk ⟨by decide, rfl, by decide⟩ (zm_RX7 (List.mem_of_getElem? (i := 4) rfl)) (fun _ h9 => h9) dX7_readPart_88 ?_
      refine lv_aload_n hx hb dX7_readPart_91 rfl (lv_at hl 0 rfl) ?_
      refine zt_getk (t := 7) (C := RX7) (T := TX7) (N := 12) Z h hth zin_7 rfl 6 kx_1 ⟨by decide, rfl, by decide⟩ (zm_RX7 (List.mem_of_getElem? (i := 9) rfl)) (fun _ h9 => h9) dX7_readPart_92 ?_
      refine zk_Vi (As := [.int x_1]) (rest := [.int 2, .ref co]) (bytes := cX8_letterOf) (maxL := 2) (ret := (some .int)) Z h (zc_X8_letterOf l D k Γ L F H.size tk x_1 htk) (cwV 1 hg zv_RX7_139 rfl rfl rfl zd_X8_letterOf ⟨z_leR hRf (by have := bd.1; have := bd.2; have := bx_1.1; have := bx_1.2; have := br_6_25.1; have := br_6_25.2; have := bcc.1; have := bcc.2; have := bfcv.1; have := bfcv.2; have := bsz_.1; have := bsz_.2; have := bx_2.1; have := bx_2.2; have : (2 : Int32).toInt = 2 := (by decide); dsimp only; omega), z_leR hRl (by have := bd.1; have := bd.2; have := bx_1.1; have := bx_1.2; have := br_6_25.1; have := br_6_25.2; have := bcc.1; have := bcc.2; have := bfcv.1; have := bfcv.2; have := bsz_.1; have := bsz_.2; have := bx_2.1; have := bx_2.2; have : (2 : Int32).toInt = 2 := (by decide); dsimp only; omega)⟩) htk (by decide) rfl rfl hl.1 rfl (Nat.le_of_ble_eq_true rfl) dX7_readPart_95 ⟨Nat.zero_le _, Nat.zero_le _⟩ (fun r_27 F_28 H locs w_29 h hfF_28 => ?_)
      obtain ⟨rfl, br_27, -⟩ := w_29
      refine lv_iconst (v := 0) hx hb dX7_readPart_98 (by decide) ?_
      refine zk_Vi (As := [.int 2, .int r_27, .int 0]) (rest := []) (bytes := cX1_add) (maxL := 4) (ret := (some .int)) Z h (zc_X1_add l D k Γ L F H.size co 2 r_27 0 hco) (cwV 3 hg zv_RX7_117 rfl rfl rfl zd_X1_add ⟨z_leR hRf (by have := bd.1; have := bd.2; have := br_27.1; have := br_27.2; have := br_6_25.1; have := br_6_25.2; have := bcc.1; have := bcc.2; have := bfcv.1; have := bfcv.2; have := bsz_.1; have := bsz_.2; have := bx_1.1; have := bx_1.2; have := bx_2.1; have := bx_2.2; have : (0 : Int32).toInt = 0 := (by decide); have : (2 : Int32).toInt = 2 := (by decide); dsimp only; omega), z_leR hRl (by have := bd.1; have := bd.2; have := br_27.1; have := br_27.2; have := br_6_25.1; have := br_6_25.2; have := bcc.1; have := bcc.2; have := bfcv.1; have := bfcv.2; have := bsz_.1; have := bsz_.2; have := bx_1.1; have := bx_1.2; have := bx_2.1; have := bx_2.2; have : (0 : Int32).toInt = 0 := (by decide); have : (2 : Int32).toInt = 2 := (by decide); dsimp only; omega)⟩) hco (by decide) rfl rfl hl.1 rfl (Nat.le_of_ble_eq_true rfl) dX7_readPart_99 ⟨Nat.zero_le _, Nat.zero_le _⟩ (fun r_30 F_31 H locs w_32 h hfF_31 => ?_)
      obtain ⟨br_30, -⟩ := w_32
      refine lv_pop hx hb dX7_readPart_102 rfl ?_
      refine lv_aload_n hx hb dX7_readPart_103 rfl (lv_at hl 0 rfl) ?_
      refine lv_dup hx hb dX7_readPart_104 rfl ?_
      refine zt_getk (t := 7) (C := RX7) (T := TX7) (N := 12) Z h hth zin_7 rfl 6 (hfF_31.f hth 6 ⟨by decide, by decide⟩ kx_1) ⟨by decide, rfl, by decide⟩ (zm_RX7 (List.mem_of_getElem? (i := 9) rfl)) (fun _ h9 => h9) dX7_readPart_105 ?_
      refine lv_iconst (v := 1) hx hb dX7_readPart_108 (by decide) ?_
      refine lv_iadd hx hb dX7_readPart_109 ?_
      refine zi_add (lo := 1) (hi := 601) bx_1 (zBc 1 1 (by decide)) (by decide) (fun x_33 bx_33 tx_33 => ?_)
      refine zt_put (t := 7) (C := RX7) (T := TX7) (N := 12) (v := .int x_33) Z h hth zin_7 tyX7 tyX7_ok nmX7 rfl 6 rfl ⟨by decide, rfl⟩ (zm_RX7 (List.mem_of_getElem? (i := 9) rfl)) (fun _ h9 => h9) rfl (zV.i (bx_33.w ⟨by decide, by decide⟩)) rfl rfl dX7_readPart_110 (fun H locs F_34 h hfF_34 kF_34 => ?_)
      have c1_35 := (p_au.fr hfF_31 hth (by decide))
      have cc_36 := (cc0_.fr hfF_31 hth (by decide) (zTo_P Bt nt))
      have c1_37 : zC1 F_34 th Nt (zadv σ) := (zC1.adv (T := zTo Bt nt) c1_35 hfF_34 hth (by decide) (hfF_31.f hth 6 ⟨by decide, by decide⟩ kx_1) kF_34 (by have := bd.1; have := bd.2; have := bx_1.1; have := bx_1.2; have := br_6_25.1; have := br_6_25.2; have := bcc.1; have := bcc.2; have := bfcv.1; have := bfcv.2; have := bsz_.1; have := bsz_.2; have := bx_33.1; have := bx_33.2; have := bx_2.1; have := bx_2.2; have : (1 : Int32).toInt = 1 := (by decide); omega) hLs_ ⟨by have := bd.1; have := bd.2; have := bx_1.1; have := bx_1.2; have := br_6_25.1; have := br_6_25.2; have := bcc.1; have := bcc.2; have := bfcv.1; have := bfcv.2; have := bsz_.1; have := bsz_.2; have := bx_33.1; have := bx_33.2; have := bx_2.1; have := bx_2.2; have : (1 : Int32).toInt = 1 := (by decide); omega, by have := bd.1; have := bd.2; have := bx_1.1; have := bx_1.2; have := br_6_25.1; have := br_6_25.2; have := bcc.1; have := bcc.2; have := bfcv.1; have := bfcv.2; have := bsz_.1; have := bsz_.2; have := bx_33.1; have := bx_33.2; have := bx_2.1; have := bx_2.2; have : (1 : Int32).toInt = 1 := (by decide); omega⟩)
      have rc_37 : zRc (zTo Bt nt) σ [(17, d.toInt.toNat, 0, 0)] (zadv σ) [] := zRc.partA (N := Nt) rc0_ (by have := bd.1; have := bd.2; have := br_6_25.1; have := br_6_25.2; have := bcc.1; have := bcc.2; have := bfcv.1; have := bfcv.2; have := bsz_.1; have := bsz_.2; have := bx_33.1; have := bx_33.2; have := bx_2.1; have := bx_2.2; have : (1 : Int32).toInt = 1 := (by decide); omega)
      have st_37 : zss σ (zadv σ) := zsm.adv.ss
      have ss_37 : zss σ (zadv σ) := ss0_.trans st_37
      have cc_37 : zCc Γ F F_34 th (zTo Bt nt) σ (zadv σ) (d.toInt) := (cc_36.mv hfF_34 hth (by decide) (zTo_P Bt nt) zsm.adv.cs)
      generalize hσ_37 : zadv σ = σ_37 at c1_37 rc_37 st_37 ss_37 cc_37
      obtain ⟨⟨x_38, kx_38, nx_38⟩, ⟨x_39, kx_39, nx_39⟩, ox_38⟩ := id c1_37
      have gx_38 := zC1.nx c1_37 hLs_.1 kx_38
      have bx_38 : zB 0 600 x_38 := ⟨by omega, by have := hLs_.2.1; omega⟩
      have bx_39 := zB.all x_39
      have vx_38 := congrArg Int32.toInt (z_same kF_34 kx_38)
      have mo_37 := zss.nx st_37 ox_1 ox_38
      refine lv_goto (tgt := 148) hx hb dX7_readPart_113 (by decide) ?_
      subst hQ
      exact W.vret hx hb hr (fun t ht hW => ⟨⟨F_34, rfl, ⟨⟨cc, (hfF_34.f hth 11 ⟨by decide, by decide⟩ (hfF_31.f hth 11 ⟨by decide, by decide⟩ kcc)), bcc, (by have := bd.1; have := bd.2; have := bcc.1; have := bcc.2; have := br_6_25.1; have := br_6_25.2; have := bfcv.1; have := bfcv.2; have := bsz_.1; have := bsz_.2; have := bx_38.1; have := bx_38.2; have := bx_39.1; have := bx_39.2; have : (1 : Int32).toInt = 1 := (by decide); omega)⟩, ⟨σ_37, c1_37, rc_37, ss_37, (cc_37.w (by have := bd.1; have := bd.2; have := br_6_25.1; have := br_6_25.2; have := bcc.1; have := bcc.2; have := bfcv.1; have := bfcv.2; have := bsz_.1; have := bsz_.2; have := bx_38.1; have := bx_38.2; have := bx_39.1; have := bx_39.2; have : (1 : Int32).toInt = 1 := (by decide); omega))⟩, trivial⟩, by rw [ht]; exact h.1, h.2.1, ((hfF_31.w (by decide)).trans hfF_34 (by decide))⟩, h.2.2.F ht⟩) h.2.2.2.2 dX7_readPart_148
    · by_cases c_40 : r_6 = 4
      · refine lv_lookup (off := 131) (tgt := 135) hx hb dX7_readPart_4 (by decide) (by rw [c_40]; rfl) (by decide) ?_
        have br_6_40 : zB 4 4 r_6 := by rw [c_40]; exact zBc _ _ (by decide)
        refine lv_aload_n hx hb dX7_readPart_135 rfl (lv_at hl 0 rfl) ?_
        refine lv_iload_n hx hb dX7_readPart_136 rfl (lv_at hl 1 rfl) ?_
        refine zk_Vv (As := [.int d]) (rest := []) (bytes := cX7_readCall) (maxL := 5) (ret := none) Z h (ze_X7_readCall l D k Γ L F H.size th d pr tk co Bt nt Nt cc σ fcv nv hth bd kpr hpr ktk htk kco hco p_tb kcc bcc p_au (zCc.m (cc0_.w (dep' := d.toInt) (by have := bd.1; have := bd.2; have := bcc.1; have := bcc.2; have := br_6_40.1; have := br_6_40.2; have := bfcv.1; have := bfcv.2; have := bsz_.1; have := bsz_.2; have := bx_1.1; have := bx_1.2; have := bx_2.1; have := bx_2.2; omega)) kcc) kfcv bfcv p_fk (by have := bd.1; have := bd.2; have := bcc.1; have := bcc.2; have := bfcv.1; have := bfcv.2; have := br_6_40.1; have := br_6_40.2; have := bsz_.1; have := bsz_.2; have := bx_1.1; have := bx_1.2; have := bx_2.1; have := bx_2.2; omega) hrec (by have := bd.1; have := bd.2; have := bcc.1; have := bcc.2; have := bfcv.1; have := bfcv.2; have := br_6_40.1; have := br_6_40.2; have := bsz_.1; have := bsz_.2; have := bx_1.1; have := bx_1.2; have := bx_2.1; have := bx_2.2; omega)) (cwV 1 hg zv_RX7_194 rfl rfl rfl zd_X7_readCall ⟨z_leR hRf (by have := bd.1; have := bd.2; have := br_6_40.1; have := br_6_40.2; have := bcc.1; have := bcc.2; have := bfcv.1; have := bfcv.2; have := bsz_.1; have := bsz_.2; have := bx_1.1; have := bx_1.2; have := bx_2.1; have := bx_2.2; dsimp only; omega), z_leR hRl (by have := bd.1; have := bd.2; have := br_6_40.1; have := br_6_40.2; have := bcc.1; have := bcc.2; have := bfcv.1; have := bfcv.2; have := bsz_.1; have := bsz_.2; have := bx_1.1; have := bx_1.2; have := bx_2.1; have := bx_2.2; dsimp only; omega)⟩) hth (by decide) rfl rfl hl.1 rfl (Nat.le_of_ble_eq_true rfl) dX7_readPart_137 ⟨Nat.zero_le _, Nat.zero_le _⟩ (fun F_42 H locs w_43 h hfF_42 => ?_)
        obtain ⟨⟨x_45, kx_45, bx_45, q_44⟩, ⟨σ_47, c1_47, rn_47, st_47, cn_47⟩, -⟩ := w_43
        have rc_47 : zRc (zTo Bt nt) σ [(17, d.toInt.toNat, 0, 0)] σ_47 [] := zRc.calls rc0_ (rn_47.x (zSy_eq (by have := bd.1; have := bd.2; have := bcc.1; have := bcc.2; have := bfcv.1; have := bfcv.2; have := bx_45.1; have := bx_45.2; have := br_6_40.1; have := br_6_40.2; have := bsz_.1; have := bsz_.2; omega) (by have := bd.1; have := bd.2; have := bcc.1; have := bcc.2; have := bfcv.1; have := bfcv.2; have := bx_45.1; have := bx_45.2; have := br_6_40.1; have := br_6_40.2; have := bsz_.1; have := bsz_.2; omega) (by have := bd.1; have := bd.2; have := bcc.1; have := bcc.2; have := bfcv.1; have := bfcv.2; have := bx_45.1; have := bx_45.2; have := br_6_40.1; have := br_6_40.2; have := bsz_.1; have := bsz_.2; omega)))
        have ss_47 : zss σ σ_47 := ss0_.trans st_47
        have cc_47 : zCc Γ F F_42 th (zTo Bt nt) σ (σ_47) (d.toInt) := zCc.call cc0_ cn_47
        obtain ⟨⟨x_48, kx_48, nx_48⟩, ⟨x_49, kx_49, nx_49⟩, ox_48⟩ := id c1_47
        have gx_48 := zC1.nx c1_47 hLs_.1 kx_48
        have bx_48 : zB 0 600 x_48 := ⟨by omega, by have := hLs_.2.1; omega⟩
        have bx_49 := zB.all x_49
        have mo_47 := zss.nx st_47 ox_1 ox_48
        refine lv_goto (tgt := 148) hx hb dX7_readPart_140 (by decide) ?_
        subst hQ
        exact W.vret hx hb hr (fun t ht hW => ⟨⟨F_42, rfl, ⟨⟨x_45, kx_45, bx_45, (by have := bd.1; have := bd.2; have := bx_45.1; have := bx_45.2; have := br_6_40.1; have := br_6_40.2; have := bfcv.1; have := bfcv.2; have := bsz_.1; have := bsz_.2; have := bx_48.1; have := bx_48.2; have := bx_49.1; have := bx_49.2; have := bcc.1; have := bcc.2; omega)⟩, ⟨σ_47, c1_47, rc_47, ss_47, (cc_47.w (by have := bd.1; have := bd.2; have := br_6_40.1; have := br_6_40.2; have := bx_45.1; have := bx_45.2; have := bfcv.1; have := bfcv.2; have := bsz_.1; have := bsz_.2; have := bx_48.1; have := bx_48.2; have := bx_49.1; have := bx_49.2; have := bcc.1; have := bcc.2; omega))⟩, trivial⟩, by rw [ht]; exact h.1, h.2.1, hfF_42⟩, h.2.2.F ht⟩) h.2.2.2.2 dX7_readPart_148
      · by_cases c_50 : r_6 = 40
        · refine lv_lookup (off := 112) (tgt := 116) hx hb dX7_readPart_4 (by decide) (by rw [c_50]; rfl) (by decide) ?_
          have br_6_50 : zB 40 40 r_6 := by rw [c_50]; exact zBc _ _ (by decide)
          have rc_52 : zRc (zTo Bt nt) σ [(17, d.toInt.toNat, 0, 0)] σ [(18, d.toInt.toNat, 0, 0), (13, d.toInt.toNat + 1, 0, 0), (6, 41, 0, 0)] := zRc.partB (N := Nt) rc0_ (by have := bd.1; have := bd.2; have := br_6_50.1; have := br_6_50.2; have := bcc.1; have := bcc.2; have := bfcv.1; have := bfcv.2; have := bsz_.1; have := bsz_.2; have := bx_1.1; have := bx_1.2; have := bx_2.1; have := bx_2.2; omega)
          refine lv_aload_n hx hb dX7_readPart_116 rfl (lv_at hl 0 rfl) ?_
          refine lv_iload_n hx hb dX7_readPart_117 rfl (lv_at hl 1 rfl) ?_
          refine zk_Vv (As := [.int d]) (rest := []) (bytes := cX7_openBracket) (maxL := 2) (ret := none) Z h (ze_X7_openBracket l D k Γ L F H.size th d tk Bt nt Nt σ hth bd ktk htk p_tb p_au) (cwV 1 hg zv_RX7_188 rfl rfl rfl zd_X7_openBracket ⟨z_leR hRf (by have := bd.1; have := bd.2; have := br_6_50.1; have := br_6_50.2; have := bcc.1; have := bcc.2; have := bfcv.1; have := bfcv.2; have := bsz_.1; have := bsz_.2; have := bx_1.1; have := bx_1.2; have := bx_2.1; have := bx_2.2; dsimp only; omega), z_leR hRl (by have := bd.1; have := bd.2; have := br_6_50.1; have := br_6_50.2; have := bcc.1; have := bcc.2; have := bfcv.1; have := bfcv.2; have := bsz_.1; have := bsz_.2; have := bx_1.1; have := bx_1.2; have := bx_2.1; have := bx_2.2; dsimp only; omega)⟩) hth (by decide) rfl rfl hl.1 rfl (Nat.le_of_ble_eq_true rfl) dX7_readPart_118 ⟨Nat.zero_le _, Nat.zero_le _⟩ (fun F_53 H locs w_54 h hfF_53 => ?_)
          obtain ⟨q_55, -⟩ := w_54
          have hop_ : 6 ≤ d.toInt → ∃ q, zop (zTo Bt nt) Nt d.toInt σ = .inr q := fun h9 => zop_bad h9
          have c1_56 : zC1 F_53 th Nt (zop (zTo Bt nt) Nt d.toInt σ) := q_55
          have rc_56 : zRc (zTo Bt nt) σ [(17, d.toInt.toNat, 0, 0)] (zop (zTo Bt nt) Nt d.toInt σ) [(13, d.toInt.toNat + 1, 0, 0), (6, 41, 0, 0)] := zRc.op (N := Nt) rc_52 (by have := bd.1; have := bd.2; have := br_6_50.1; have := br_6_50.2; have := bcc.1; have := bcc.2; have := bfcv.1; have := bfcv.2; have := bsz_.1; have := bsz_.2; omega)
          have st_56 : zss σ (zop (zTo Bt nt) Nt d.toInt σ) := zsm.op.ss
          have ss_56 : zss σ (zop (zTo Bt nt) Nt d.toInt σ) := ss0_.trans st_56
          have cc_56 : zCc Γ F F_53 th (zTo Bt nt) σ (zop (zTo Bt nt) Nt d.toInt σ) (d.toInt) := (cc0_.mv hfF_53 hth (by decide) (zTo_P Bt nt) zsm.op.cs)
          generalize hσ_56 : zop (zTo Bt nt) Nt d.toInt σ = σ_56 at c1_56 rc_56 st_56 ss_56 cc_56
          obtain ⟨⟨x_57, kx_57, nx_57⟩, ⟨x_58, kx_58, nx_58⟩, ox_57⟩ := id c1_56
          have gx_57 := zC1.nx c1_56 hLs_.1 kx_57
          have bx_57 : zB 0 600 x_57 := ⟨by omega, by have := hLs_.2.1; omega⟩
          have bx_58 := zB.all x_58
          have mo_56 := zss.nx st_56 ox_1 ox_57
          rw [hσ_56] at hop_
          refine lv_aload_n hx hb dX7_readPart_121 rfl (lv_at hl 0 rfl) ?_
          refine lv_iload_n hx hb dX7_readPart_122 rfl (lv_at hl 1 rfl) ?_
          have p_59 := (p_tb.fr hfF_53 htk (by decide))
          have fk_60 := (p_fk.ss st_56)
          refine zk_Vv (As := [.int d]) (rest := []) (bytes := cX7_readSumWithin) (maxL := 2) (ret := none) Z h (ze_X7_readSumWithin l D k Γ L F_53 H.size th d pr tk co Bt nt Nt cc σ_56 fcv nv hth bd (hfF_53.f hth 3 ⟨by decide, by decide⟩ kpr) hpr (hfF_53.f hth 4 ⟨by decide, by decide⟩ ktk) htk (hfF_53.f hth 5 ⟨by decide, by decide⟩ kco) hco p_59 (hfF_53.f hth 11 ⟨by decide, by decide⟩ kcc) bcc c1_56 (zCc.m (cc_56.w (dep' := d.toInt + 1) (by have := bd.1; have := bd.2; have := bcc.1; have := bcc.2; have := br_6_50.1; have := br_6_50.2; have := bfcv.1; have := bfcv.2; have := bsz_.1; have := bsz_.2; have := bx_57.1; have := bx_57.2; have := bx_58.1; have := bx_58.2; omega)) (hfF_53.f hth 11 ⟨by decide, by decide⟩ kcc)) (hfF_53.f hpr 4 ⟨by decide, by decide⟩ kfcv) bfcv fk_60 (by have := bd.1; have := bd.2; have := bcc.1; have := bcc.2; have := bfcv.1; have := bfcv.2; have := br_6_50.1; have := br_6_50.2; have := bsz_.1; have := bsz_.2; have := bx_57.1; have := bx_57.2; have := bx_58.1; have := bx_58.2; omega) hrec hop_) (cwV 1 hg zv_RX7_191 rfl rfl rfl zd_X7_readSumWithin ⟨z_leR hRf (by have := bd.1; have := bd.2; have := br_6_50.1; have := br_6_50.2; have := bcc.1; have := bcc.2; have := bfcv.1; have := bfcv.2; have := bsz_.1; have := bsz_.2; have := bx_57.1; have := bx_57.2; have := bx_58.1; have := bx_58.2; dsimp only; omega), z_leR hRl (by have := bd.1; have := bd.2; have := br_6_50.1; have := br_6_50.2; have := bcc.1; have := bcc.2; have := bfcv.1; have := bfcv.2; have := bsz_.1; have := bsz_.2; have := bx_57.1; have := bx_57.2; have := bx_58.1; have := bx_58.2; dsimp only; omega)⟩) hth (by decide) rfl rfl hl.1 rfl (Nat.le_of_ble_eq_true rfl) dX7_readPart_123 ⟨Nat.zero_le _, Nat.zero_le _⟩ (fun F_61 H locs w_62 h hfF_61 => ?_)
          obtain ⟨⟨x_64, kx_64, bx_64, q_63⟩, ⟨σ_66, c1_66, rn_66, st_66, cn_66⟩, -⟩ := w_62
          have rc_66 : zRc (zTo Bt nt) σ [(17, d.toInt.toNat, 0, 0)] σ_66 [(6, 41, 0, 0)] := zRc.calls rc_56 (rn_66.x (zSy_eq (by have := bd.1; have := bd.2; have := bcc.1; have := bcc.2; have := bfcv.1; have := bfcv.2; have := bx_64.1; have := bx_64.2; have := br_6_50.1; have := br_6_50.2; have := bsz_.1; have := bsz_.2; omega) (by have := bd.1; have := bd.2; have := bcc.1; have := bcc.2; have := bfcv.1; have := bfcv.2; have := bx_64.1; have := bx_64.2; have := br_6_50.1; have := br_6_50.2; have := bsz_.1; have := bsz_.2; omega) (by have := bd.1; have := bd.2; have := bcc.1; have := bcc.2; have := bfcv.1; have := bfcv.2; have := bx_64.1; have := bx_64.2; have := br_6_50.1; have := br_6_50.2; have := bsz_.1; have := bsz_.2; omega)))
          have ss_66 : zss σ σ_66 := ss_56.trans st_66
          have cc_66 : zCc Γ F F_61 th (zTo Bt nt) σ (σ_66) (d.toInt + 1) := zCc.call cc_56 cn_66
          obtain ⟨⟨x_67, kx_67, nx_67⟩, ⟨x_68, kx_68, nx_68⟩, ox_67⟩ := id c1_66
          have gx_67 := zC1.nx c1_66 hLs_.1 kx_67
          have bx_67 : zB 0 600 x_67 := ⟨by omega, by have := hLs_.2.1; omega⟩
          have bx_68 := zB.all x_68
          have mo_66 := zss.nx st_66 ox_57 ox_67
          refine lv_aload_n hx hb dX7_readPart_126 rfl (lv_at hl 0 rfl) ?_
          refine lv_bipush (v := 41) hx hb dX7_readPart_127 (by decide) ?_
          have p_69 := (p_59.fr hfF_61 htk (by decide))
          refine zk_Vv (As := [.int 41]) (rest := []) (bytes := cX7_take) (maxL := 2) (ret := none) Z h (ze_X7_take l D k Γ L F_61 H.size th 41 tk Bt nt Nt σ_66 hth (zB.of ⟨by decide, by decide⟩) (hfF_61.f hth 4 ⟨by decide, by decide⟩ (hfF_53.f hth 4 ⟨by decide, by decide⟩ ktk)) htk p_69 c1_66) (cwV 1 hg zv_RX7_108 rfl rfl rfl zd_X7_take ⟨z_leR hRf (by have := bd.1; have := bd.2; have := br_6_50.1; have := br_6_50.2; have := bx_64.1; have := bx_64.2; have := bfcv.1; have := bfcv.2; have := bsz_.1; have := bsz_.2; have := bx_67.1; have := bx_67.2; have := bx_68.1; have := bx_68.2; have := bcc.1; have := bcc.2; have : (41 : Int32).toInt = 41 := (by decide); dsimp only; omega), z_leR hRl (by have := bd.1; have := bd.2; have := br_6_50.1; have := br_6_50.2; have := bx_64.1; have := bx_64.2; have := bfcv.1; have := bfcv.2; have := bsz_.1; have := bsz_.2; have := bx_67.1; have := bx_67.2; have := bx_68.1; have := bx_68.2; have := bcc.1; have := bcc.2; have : (41 : Int32).toInt = 41 := (by decide); dsimp only; omega)⟩) hth (by decide) rfl rfl hl.1 rfl (Nat.le_of_ble_eq_true rfl) dX7_readPart_129 ⟨Nat.zero_le _, Nat.zero_le _⟩ (fun F_70 H locs w_71 h hfF_70 => ?_)
          obtain ⟨q_72, -⟩ := w_71
          have c1_73 : zC1 F_70 th Nt (ztk (zTo Bt nt) Nt (41 : Int32).toInt σ_66) := q_72
          have rc_73 : zRc (zTo Bt nt) σ [(17, d.toInt.toNat, 0, 0)] (ztk (zTo Bt nt) Nt (41 : Int32).toInt σ_66) [] := zRc.tk (N := Nt) rc_66 (by decide)
          have st_73 : zss σ_66 (ztk (zTo Bt nt) Nt (41 : Int32).toInt σ_66) := zsm.tk.ss
          have ss_73 : zss σ (ztk (zTo Bt nt) Nt (41 : Int32).toInt σ_66) := ss_66.trans st_73
          have cc_73 : zCc Γ F F_70 th (zTo Bt nt) σ (ztk (zTo Bt nt) Nt (41 : Int32).toInt σ_66) (d.toInt) := (zCc.shut (N := Nt) (cc_66.fr hfF_70 hth (by decide) (zTo_P Bt nt)) (by have := bd.1; have := bd.2; have := br_6_50.1; have := br_6_50.2; have := bx_64.1; have := bx_64.2; have := bfcv.1; have := bfcv.2; have := bsz_.1; have := bsz_.2; have := bcc.1; have := bcc.2; omega) (by decide))
          generalize hσ_73 : ztk (zTo Bt nt) Nt (41 : Int32).toInt σ_66 = σ_73 at c1_73 rc_73 st_73 ss_73 cc_73
          obtain ⟨⟨x_74, kx_74, nx_74⟩, ⟨x_75, kx_75, nx_75⟩, ox_74⟩ := id c1_73
          have gx_74 := zC1.nx c1_73 hLs_.1 kx_74
          have bx_74 : zB 0 600 x_74 := ⟨by omega, by have := hLs_.2.1; omega⟩
          have bx_75 := zB.all x_75
          have mo_73 := zss.nx st_73 ox_67 ox_74
          refine lv_goto (tgt := 148) hx hb dX7_readPart_132 (by decide) ?_
          subst hQ
          exact W.vret hx hb hr (fun t ht hW => ⟨⟨F_70, rfl, ⟨⟨x_64, (hfF_70.f hth 11 ⟨by decide, by decide⟩ kx_64), bx_64, (by have := bd.1; have := bd.2; have := bx_64.1; have := bx_64.2; have := br_6_50.1; have := br_6_50.2; have := bfcv.1; have := bfcv.2; have := bsz_.1; have := bsz_.2; have := bx_74.1; have := bx_74.2; have := bx_75.1; have := bx_75.2; have := bcc.1; have := bcc.2; omega)⟩, ⟨σ_73, c1_73, rc_73, ss_73, (cc_73.w (by have := bd.1; have := bd.2; have := br_6_50.1; have := br_6_50.2; have := bx_64.1; have := bx_64.2; have := bfcv.1; have := bfcv.2; have := bsz_.1; have := bsz_.2; have := bx_74.1; have := bx_74.2; have := bx_75.1; have := bx_75.2; have := bcc.1; have := bcc.2; omega))⟩, trivial⟩, by rw [ht]; exact h.1, h.2.1, (((hfF_53.w (by decide)).trans hfF_61 (by decide)).trans hfF_70 (by decide))⟩, h.2.2.F ht⟩) h.2.2.2.2 dX7_readPart_148
        · have nc_10 : r_6.toInt ≠ 2 := z_nev c_10 (by decide)
          have nc_25 : r_6.toInt ≠ 3 := z_nev c_25 (by decide)
          have nc_40 : r_6.toInt ≠ 4 := z_nev c_40 (by decide)
          have nc_50 : r_6.toInt ≠ 40 := z_nev c_50 (by decide)
          refine lv_lookup (off := 139) (tgt := 143) hx hb dX7_readPart_4 (by decide) ((lv_osw (k := 2) c_10 (by decide)).trans ((lv_osw (k := 3) c_25 (by decide)).trans ((lv_osw (k := 4) c_40 (by decide)).trans ((lv_osw (k := 40) c_50 (by decide)).trans rfl)))) (by decide) ?_
          refine lv_aload_n hx hb dX7_readPart_143 rfl (lv_at hl 0 rfl) ?_
          refine lv_iconst (v := 1) hx hb dX7_readPart_144 (by decide) ?_
          refine zk_Vv (As := [.int 1]) (rest := []) (bytes := cX7_fail) (maxL := 2) (ret := none) Z h (ze_X7_fail l D k Γ L F H.size th 1 tk Bt nt Nt σ hth ktk htk p_tb p_au (by have := bd.1; have := bd.2; have := br_6.1; have := br_6.2; have := bcc.1; have := bcc.2; have := bfcv.1; have := bfcv.2; have := bsz_.1; have := bsz_.2; have := bx_1.1; have := bx_1.2; have := bx_2.1; have := bx_2.2; have : (1 : Int32).toInt = 1 := (by decide); omega)) (cwV 1 hg zv_RX7_79 rfl rfl rfl zd_X7_fail ⟨z_leR hRf (by have := bd.1; have := bd.2; have := br_6.1; have := br_6.2; have := bcc.1; have := bcc.2; have := bfcv.1; have := bfcv.2; have := bsz_.1; have := bsz_.2; have := bx_1.1; have := bx_1.2; have := bx_2.1; have := bx_2.2; have : (1 : Int32).toInt = 1 := (by decide); dsimp only; omega), z_leR hRl (by have := bd.1; have := bd.2; have := br_6.1; have := br_6.2; have := bcc.1; have := bcc.2; have := bfcv.1; have := bfcv.2; have := bsz_.1; have := bsz_.2; have := bx_1.1; have := bx_1.2; have := bx_2.1; have := bx_2.2; have : (1 : Int32).toInt = 1 := (by decide); dsimp only; omega)⟩) hth (by decide) rfl rfl hl.1 rfl (Nat.le_of_ble_eq_true rfl) dX7_readPart_145 ⟨Nat.zero_le _, Nat.zero_le _⟩ (fun F_76 H locs w_77 h hfF_76 => ?_)
          obtain ⟨q_78, -⟩ := w_77
          have c1_79 : zC1 F_76 th Nt (zfl 1 σ) := (by have h9 := q_78; rw [show (1 : Int32).toInt = 1 by decide] at h9; exact h9)
          have rc_79 : zRc (zTo Bt nt) σ [(17, d.toInt.toNat, 0, 0)] (zfl 1 σ) [] := zRc.part1 (N := Nt) rc0_ (by unfold zbeg; have := bd.1; have := bd.2; have := br_6.1; have := br_6.2; have := bcc.1; have := bcc.2; have := bfcv.1; have := bfcv.2; have := bsz_.1; have := bsz_.2; omega)
          have st_79 : zss σ (zfl 1 σ) := zsm.fl.ss
          have ss_79 : zss σ (zfl 1 σ) := ss0_.trans st_79
          have cc_79 : zCc Γ F F_76 th (zTo Bt nt) σ (zfl 1 σ) (d.toInt) := (cc0_.mv hfF_76 hth (by decide) (zTo_P Bt nt) zsm.fl.cs)
          generalize hσ_79 : zfl 1 σ = σ_79 at c1_79 rc_79 st_79 ss_79 cc_79
          obtain ⟨⟨x_80, kx_80, nx_80⟩, ⟨x_81, kx_81, nx_81⟩, ox_80⟩ := id c1_79
          have gx_80 := zC1.nx c1_79 hLs_.1 kx_80
          have bx_80 : zB 0 600 x_80 := ⟨by omega, by have := hLs_.2.1; omega⟩
          have bx_81 := zB.all x_81
          have mo_79 := zss.nx st_79 ox_1 ox_80
          subst hQ
          exact W.vret hx hb hr (fun t ht hW => ⟨⟨F_76, rfl, ⟨⟨cc, (hfF_76.f hth 11 ⟨by decide, by decide⟩ kcc), bcc, (by have := bd.1; have := bd.2; have := bcc.1; have := bcc.2; have := br_6.1; have := br_6.2; have := bfcv.1; have := bfcv.2; have := bsz_.1; have := bsz_.2; have := bx_80.1; have := bx_80.2; have := bx_81.1; have := bx_81.2; omega)⟩, ⟨σ_79, c1_79, rc_79, ss_79, (cc_79.w (by have := bd.1; have := bd.2; have := br_6.1; have := br_6.2; have := bcc.1; have := bcc.2; have := bfcv.1; have := bfcv.2; have := bsz_.1; have := bsz_.2; have := bx_80.1; have := bx_80.2; have := bx_81.1; have := bx_81.2; omega))⟩, trivial⟩, by rw [ht]; exact h.1, h.2.1, (hfF_76.w (by decide))⟩, h.2.2.F ht⟩) h.2.2.2.2 dX7_readPart_148

set_option maxHeartbeats 4000000 in
set_option maxRecDepth 100000 in
theorem ze_X7_readTerm (l : Launch) (D : va_G) (k : Nat → ClassId) (Γ : Nat → Option Nat) (L : List Nat) (F : Nat → va_E) (sz : Nat) (th : Nat) (d : Int32) (pr : Nat) (tk : Nat) (co : Nat) (Bt : Nat → Int32) (nt : Nat) (Nt : Nat) (cc : Int32) (σ : zSg) (fcv : Int32) (nv : Nat) (hth : Γ th = some 7) (bd : zB 0 6 d) (kpr : zfld F th 3 = .ref pr) (hpr : Γ pr = some 6) (ktk : zfld F th 4 = .ref tk) (htk : Γ tk = some 8) (kco : zfld F th 5 = .ref co) (hco : Γ co = some 1) (p_tb : zTb Γ F tk Bt nt Nt) (kcc : zfld F th 11 = .int cc) (bcc : zB 0 150 cc) (p_au : zC1 F th Nt (σ)) (hm_ : ∀ i d9, σ = .inl (i, d9) → 4 * cc.toInt + 5 ≤ zpo Bt nt i + (d.toInt)) (kfcv : zfld F pr 4 = .int fcv) (bfcv : zB 0 10 fcv) (p_fk : zFk fcv σ) (hr0 : 6 ≤ d.toInt + (nv : Int)) (hrec : ∀ q : Nat, nv = q + 1 → zR_sum l q) : Met l yX7_readTerm zwX7_readTerm ({ frames := 10 * nv + 8, cells := 0, slots := 0, locals := 400 * nv + 260 }) (va_Pc [.ref th, .int d] (zP D k Γ L F sz)) (va_Qv (fun (u : Nat → va_E) => (∃ (c9 : Int32), zfld u th 11 = .int c9 ∧ zB 0 150 c9 ∧ (0 ≤ c9.toInt)) ∧ (∃ σ9 : zSg, zC1 u th Nt σ9 ∧ zRc (zTo Bt nt) σ [(15, d.toInt.toNat, 0, 0)] σ9 [] ∧ zss σ σ9 ∧ zCc Γ F u th (zTo Bt nt) σ σ9 (d.toInt)) ∧ True) (zQ D k Γ L F [103, 701, 702, 706, 711, 10200, 10600, 10700, 15800, 15900, 16000, 16100]) (zA L sz)) 0 0 (zA L sz) := by
  refine Met.ofW (cc := cX7_readTerm) (maxL := 3) (ret := none) (by decide) rfl ?_
  intro p e s m args below meth c s₁ B hml hv
  obtain ⟨rfl, hsz, hP, hK, hLn, hE, hI⟩ := hv
  have hx := B.exec
  have hb := B.bytes
  have hr := B.returns
  have hg : ∀ w ∈ zG, w.before _ s = true := fun w h9 => atoms_spec (ws := zwX7_readTerm) B.pre w (List.mem_cons_of_mem _ h9)
  have hown : s.vm.findClass RX7 = some m.cls := findClass_of_methodNamed B.named
  have hlocks := B.notSynchronized
  subst hsz
  have Z : zC p m c cX7_readTerm 3 s _ zG RX7 D k L := ⟨⟨hx, hb, hml, hown, hg⟩, hK, hLn, hE⟩
  have h : zH D k Γ L s F s.heap [] := ⟨hP, hI, va_S.rf⟩
  have hl := lv_entry ([.ref th, .int d]) (n := 3) (Nat.le_of_ble_eq_true rfl)
  rw [lg_entry_eq]
  generalize (lg_sl ([.ref th, .int d]) ++ List.replicate (3 - (lg_sl ([.ref th, .int d])).length) Slot.unset).toArray = ls at hl ⊢
  have hl : lv_has ls 3 [(0, .ref th), (1, .int d)] := hl
  clear hP hK hLn hE hI
  generalize hargs : ([.ref th, .int d] : List Value).toArray = args at *
  refine z_start (fun R Q hRf hRl hQ => ?_)
  have hRf : R.frames = 10 * nv + 8 := hRf
  have hRl : R.locals = 400 * nv + 260 := hRl
  have h9 := h
  have hLs_ := p_tb.2.2.2.1
  obtain ⟨sz_, ksz_, tsz_⟩ := p_tb.2.2.1
  have bsz_ : zB 1 601 sz_ := ⟨by have := hLs_.1; omega, by have := hLs_.2.1; omega⟩
  obtain ⟨⟨x_1, kx_1, nx_1⟩, ⟨x_2, kx_2, nx_2⟩, ox_1⟩ := id p_au
  have gx_1 := zC1.nx p_au hLs_.1 kx_1
  have bx_1 : zB 0 600 x_1 := ⟨by omega, by have := hLs_.2.1; omega⟩
  have bx_2 := zB.all x_2
  have ad_3 := z_ad (j := 7) (c := 106) h.2.1 hth (by decide) rfl
  have ad_4 := z_ad (j := 8) (c := 107) h.2.1 hth (by decide) rfl
  have ad_5 := z_ad (j := 10) (c := 161) h.2.1 hth (by decide) rfl
  have cc0_ : zCc Γ F F th (zTo Bt nt) σ σ (d.toInt) := zCc.rf kcc bcc.1 ⟨ad_3, ad_4, ad_5⟩ hm_
  have rc0_ : zRc (zTo Bt nt) σ [(15, d.toInt.toNat, 0, 0)] σ [(15, d.toInt.toNat, 0, 0)] := zRc.rf
  have ss0_ : zss σ σ := zss.rf
  have rc_6 : zRc (zTo Bt nt) σ [(15, d.toInt.toNat, 0, 0)] σ [(17, d.toInt.toNat, 0, 0), (16, d.toInt.toNat, 0, 0)] := zRc.term rc0_
  refine lv_aload_n hx hb dX7_readTerm_0 rfl (lv_at hl 0 rfl) ?_
  refine lv_iload_n hx hb dX7_readTerm_1 rfl (lv_at hl 1 rfl) ?_
  refine zk_Vv (As := [.int d]) (rest := []) (bytes := cX7_readPart) (maxL := 2) (ret := none) Z h (ze_X7_readPart l D k Γ L F s.heap.size th d pr tk co Bt nt Nt cc σ fcv nv hth bd kpr hpr ktk htk kco hco p_tb kcc bcc p_au (zCc.m (cc0_.w (dep' := d.toInt) (by have := bd.1; have := bd.2; have := bcc.1; have := bcc.2; have := bfcv.1; have := bfcv.2; have := bsz_.1; have := bsz_.2; have := bx_1.1; have := bx_1.2; have := bx_2.1; have := bx_2.2; omega)) kcc) kfcv bfcv p_fk (by have := bd.1; have := bd.2; have := bcc.1; have := bcc.2; have := bfcv.1; have := bfcv.2; have := bsz_.1; have := bsz_.2; have := bx_1.1; have := bx_1.2; have := bx_2.1; have := bx_2.2; omega) hrec) (cwV 1 hg zv_RX7_182 rfl rfl rfl zd_X7_readPart ⟨z_leR hRf (by have := bd.1; have := bd.2; have := bcc.1; have := bcc.2; have := bfcv.1; have := bfcv.2; have := bsz_.1; have := bsz_.2; have := bx_1.1; have := bx_1.2; have := bx_2.1; have := bx_2.2; dsimp only; omega), z_leR hRl (by have := bd.1; have := bd.2; have := bcc.1; have := bcc.2; have := bfcv.1; have := bfcv.2; have := bsz_.1; have := bsz_.2; have := bx_1.1; have := bx_1.2; have := bx_2.1; have := bx_2.2; dsimp only; omega)⟩) hth (by decide) rfl rfl hl.1 rfl (Nat.le_of_ble_eq_true rfl) dX7_readTerm_2 ⟨Nat.zero_le _, Nat.zero_le _⟩ (fun F_7 H locs w_8 h hfF_7 => ?_)
  obtain ⟨⟨x_10, kx_10, bx_10, q_9⟩, ⟨σ_12, c1_12, rn_12, st_12, cn_12⟩, -⟩ := w_8
  have rc_12 : zRc (zTo Bt nt) σ [(15, d.toInt.toNat, 0, 0)] σ_12 [(16, d.toInt.toNat, 0, 0)] := zRc.calls rc_6 (rn_12.x (zSy_eq (by have := bd.1; have := bd.2; have := bcc.1; have := bcc.2; have := bfcv.1; have := bfcv.2; have := bx_10.1; have := bx_10.2; have := bsz_.1; have := bsz_.2; omega) (by have := bd.1; have := bd.2; have := bcc.1; have := bcc.2; have := bfcv.1; have := bfcv.2; have := bx_10.1; have := bx_10.2; have := bsz_.1; have := bsz_.2; omega) (by have := bd.1; have := bd.2; have := bcc.1; have := bcc.2; have := bfcv.1; have := bfcv.2; have := bx_10.1; have := bx_10.2; have := bsz_.1; have := bsz_.2; omega)))
  have ss_12 : zss σ σ_12 := ss0_.trans st_12
  have cc_12 : zCc Γ F F_7 th (zTo Bt nt) σ (σ_12) (d.toInt) := zCc.call cc0_ cn_12
  obtain ⟨⟨x_13, kx_13, nx_13⟩, ⟨x_14, kx_14, nx_14⟩, ox_13⟩ := id c1_12
  have gx_13 := zC1.nx c1_12 hLs_.1 kx_13
  have bx_13 : zB 0 600 x_13 := ⟨by omega, by have := hLs_.2.1; omega⟩
  have bx_14 := zB.all x_14
  have mo_12 := zss.nx st_12 ox_1 ox_13
  refine lv_iconst (v := 0) hx hb dX7_readTerm_5 (by decide) ?_
  refine lv_istore_n (lv' := [(2, .int 0), (0, .ref th), (1, .int d)]) hx hb dX7_readTerm_6 rfl hl (by decide) rfl (fun ls hl => ?_)
  have j_j7_15 : ∀ (n : Nat) (ls : Array Slot) (y2_j7_15 : Int32) (kc_j7_15 : Int32) (σ_j7_15 : zSg) (F_16 : Nat → va_E) (H : Heap) (locs : List Loc), lv_has ls 3 [(2, .int y2_j7_15), (0, .ref th), (1, .int d)] → zB 0 601 y2_j7_15 → zH D k Γ L s F_16 H locs → zFr Γ [103, 701, 702, 706, 711, 10200, 10600, 10700, 15800, 15900, 16000, 16100] F_7 F_16 → zfld F_16 th 11 = .int kc_j7_15 → zB 0 150 kc_j7_15 → (y2_j7_15.toInt ≤ znx Nt σ_j7_15) → zC1 F_16 th Nt (σ_j7_15) → zRc (zTo Bt nt) σ [(15, d.toInt.toNat, 0, 0)] σ_j7_15 [(16, d.toInt.toNat, 0, 0)] → zss σ σ_j7_15 → zCc Γ F F_16 th (zTo Bt nt) σ (σ_j7_15) (d.toInt) → zFk fcv σ_j7_15 → (2147483647 - y2_j7_15.toInt).toNat = n → W p l e R s m args below meth c H locs 0 0 Q (F0 m 7 ls []) := by
    intro n
    induction n using Nat.strongRecOn with
    | _ n ih_j7_15 =>
      intro ls y2_j7_15 kc_j7_15 σ_j7_15 F_16 H locs hl by2_j7_15 h hfF_16 hkc_j7_15 bkc_j7_15 r0_j7_15 c1_j7_15 rc_j7_15 ss_j7_15 cc_j7_15 fk_j7_15 hn_j7_15
      obtain ⟨⟨x_17, kx_17, nx_17⟩, ⟨x_18, kx_18, nx_18⟩, ox_17⟩ := id c1_j7_15
      have gx_17 := zC1.nx c1_j7_15 hLs_.1 kx_17
      have bx_17 : zB 0 600 x_17 := ⟨by omega, by have := hLs_.2.1; omega⟩
      have bx_18 := zB.all x_18
      refine lv_iload_n hx hb dX7_readTerm_7 rfl (lv_at hl 0 rfl) ?_
      refine lv_aload_n hx hb dX7_readTerm_8 rfl (lv_at hl 1 rfl) ?_
      refine zt_getk (t := 7) (C := RX7) (T := TX7) (N := 12) Z h hth zin_7 rfl 4 (hfF_16.f hth 4 ⟨by decide, by decide⟩ (hfF_7.f hth 4 ⟨by decide, by decide⟩ ktk)) ⟨by decide, rfl, by decide⟩ (zm_RX7 (List.mem_of_getElem? (i := 4) rfl)) (fun _ h9 => h9) dX7_readTerm_9 ?_
      refine zt_getk (t := 8) (C := RX8) (T := TX8) (N := 6) Z h htk zin_8 rfl 5 (hfF_16.f htk 5 ⟨by decide, by decide⟩ (hfF_7.f htk 5 ⟨by decide, by decide⟩ ksz_)) ⟨by decide, rfl, by decide⟩ (zm_RX7 (List.mem_of_getElem? (i := 56) rfl)) (fun _ h9 => h9) dX7_readTerm_12 ?_
      refine lv_icmp_ge (tgt := 59) hx hb dX7_readTerm_15 (by decide) (fun c_19 => ?_) (fun c_19 => ?_)
      · have c_19 := z_le c_19
        have by2_j7_15_20 : zB 1 601 y2_j7_15 := zB.leR c_19 bsz_ by2_j7_15 (by decide)
        exfalso
        have := by2_j7_15_20.1; have := by2_j7_15_20.2; have := bd.1; have := bd.2; have := bx_17.1; have := bx_17.2; have := bkc_j7_15.1; have := bkc_j7_15.2; have := bfcv.1; have := bfcv.2; have := bsz_.1; have := bsz_.2; have := bx_18.1; have := bx_18.2; have := bcc.1; have := bcc.2; omega
      · have c_19 := z_nle c_19
        have by2_j7_15_21 : zB 0 600 y2_j7_15 := zB.ltL c_19 by2_j7_15 bsz_ (by decide)
        refine lv_aload_n hx hb dX7_readTerm_18 rfl (lv_at hl 1 rfl) ?_
        have p_22 := ((p_tb.fr hfF_7 htk (by decide)).fr hfF_16 htk (by decide))
        refine zk_Vi (As := []) (rest := []) (bytes := cX7_kind) (maxL := 2) (ret := (some .int)) Z h (ze_X7_kind l D k Γ L F_16 H.size th tk Bt nt Nt σ_j7_15 hth (hfF_16.f hth 4 ⟨by decide, by decide⟩ (hfF_7.f hth 4 ⟨by decide, by decide⟩ ktk)) htk p_22 c1_j7_15) (cwV 0 hg zv_RX7_65 rfl rfl rfl zd_X7_kind ⟨z_leR hRf (by have := by2_j7_15_21.1; have := by2_j7_15_21.2; have := bd.1; have := bd.2; have := bkc_j7_15.1; have := bkc_j7_15.2; have := bfcv.1; have := bfcv.2; have := bsz_.1; have := bsz_.2; have := bx_17.1; have := bx_17.2; have := bx_18.1; have := bx_18.2; have := bcc.1; have := bcc.2; dsimp only; omega), z_leR hRl (by have := by2_j7_15_21.1; have := by2_j7_15_21.2; have := bd.1; have := bd.2; have := bkc_j7_15.1; have := bkc_j7_15.2; have := bfcv.1; have := bfcv.2; have := bsz_.1; have := bsz_.2; have := bx_17.1; have := bx_17.2; have := bx_18.1; have := bx_18.2; have := bcc.1; have := bcc.2; dsimp only; omega)⟩) hth (by decide) rfl rfl hl.1 rfl (Nat.le_of_ble_eq_true rfl) dX7_readTerm_19 ⟨Nat.zero_le _, Nat.zero_le _⟩ (fun r_23 F_24 H locs w_25 h hfF_24 => ?_)
        obtain ⟨rfl, q_26, -⟩ := w_25
        have br_23 := zB.all r_23
        refine lv_bipush (v := 42) hx hb dX7_readTerm_22 (by decide) ?_
        refine lv_icmp_ne (tgt := 59) hx hb dX7_readTerm_24 (by decide) (fun c_27 => ?_) (fun c_27 => ?_)
        · have c_27 := z_ne c_27
          have rc_28 : zRc (zTo Bt nt) σ [(15, d.toInt.toNat, 0, 0)] σ_j7_15 [] := zRc.termT0 (N := Nt) rc_j7_15 (by have := by2_j7_15_21.1; have := by2_j7_15_21.2; have := bd.1; have := bd.2; have := br_23.1; have := br_23.2; have := bkc_j7_15.1; have := bkc_j7_15.2; have := bfcv.1; have := bfcv.2; have := bsz_.1; have := bsz_.2; have := bx_17.1; have := bx_17.2; have := bx_18.1; have := bx_18.2; have := bcc.1; have := bcc.2; have : (42 : Int32).toInt = 42 := (by decide); omega)
          subst hQ
          exact W.vret hx hb hr (fun t ht hW => ⟨⟨F_16, rfl, ⟨⟨kc_j7_15, hkc_j7_15, bkc_j7_15, (by have := by2_j7_15_21.1; have := by2_j7_15_21.2; have := bd.1; have := bd.2; have := bkc_j7_15.1; have := bkc_j7_15.2; have := br_23.1; have := br_23.2; have := bfcv.1; have := bfcv.2; have := bsz_.1; have := bsz_.2; have := bx_17.1; have := bx_17.2; have := bx_18.1; have := bx_18.2; have := bcc.1; have := bcc.2; have : (42 : Int32).toInt = 42 := (by decide); omega)⟩, ⟨σ_j7_15, c1_j7_15, rc_28, ss_j7_15, (cc_j7_15.w (by have := by2_j7_15_21.1; have := by2_j7_15_21.2; have := bd.1; have := bd.2; have := br_23.1; have := br_23.2; have := bkc_j7_15.1; have := bkc_j7_15.2; have := bfcv.1; have := bfcv.2; have := bsz_.1; have := bsz_.2; have := bx_17.1; have := bx_17.2; have := bx_18.1; have := bx_18.2; have := bcc.1; have := bcc.2; have : (42 : Int32).toInt = 42 := (by decide); omega))⟩, trivial⟩, by rw [ht]; exact h.1, h.2.1, (hfF_7.trans hfF_16 (by decide))⟩, h.2.2.F ht⟩) h.2.2.2.2 dX7_readTerm_59
        · have c_27 := z_eq c_27
          have br_23_29 : zB 42 42 r_23 := zB.eqL (a := 0) (b := 0) c_27 (zBc 42 42 (by decide))
          refine lv_aload_n hx hb dX7_readTerm_27 rfl (lv_at hl 1 rfl) ?_
          refine lv_dup hx hb dX7_readTerm_28 rfl ?_
          refine zt_getk (t := 7) (C := RX7) (T := TX7) (N := 12) Z h hth zin_7 rfl 6 kx_17 ⟨by decide, rfl, by decide⟩ (zm_RX7 (List.mem_of_getElem? (i := 9) rfl)) (fun _ h9 => h9) dX7_readTerm_29 ?_
          refine lv_iconst (v := 1) hx hb dX7_readTerm_32 (by decide) ?_
          refine lv_iadd hx hb dX7_readTerm_33 ?_
          refine zi_add (lo := 1) (hi := 601) bx_17 (zBc 1 1 (by decide)) (by decide) (fun x_30 bx_30 tx_30 => ?_)
          refine zt_put (t := 7) (C := RX7) (T := TX7) (N := 12) (v := .int x_30) Z h hth zin_7 tyX7 tyX7_ok nmX7 rfl 6 rfl ⟨by decide, rfl⟩ (zm_RX7 (List.mem_of_getElem? (i := 9) rfl)) (fun _ h9 => h9) rfl (zV.i (bx_30.w ⟨by decide, by decide⟩)) rfl rfl dX7_readTerm_34 (fun H locs F_31 h hfF_31 kF_31 => ?_)
          have c1_32 : zC1 F_31 th Nt (zadv σ_j7_15) := (zC1.adv (T := zTo Bt nt) c1_j7_15 hfF_31 hth (by decide) kx_17 kF_31 (by have := by2_j7_15_21.1; have := by2_j7_15_21.2; have := bd.1; have := bd.2; have := bx_17.1; have := bx_17.2; have := br_23_29.1; have := br_23_29.2; have := bkc_j7_15.1; have := bkc_j7_15.2; have := bfcv.1; have := bfcv.2; have := bsz_.1; have := bsz_.2; have := bx_30.1; have := bx_30.2; have := bx_18.1; have := bx_18.2; have := bcc.1; have := bcc.2; have : (1 : Int32).toInt = 1 := (by decide); have : (42 : Int32).toInt = 42 := (by decide); omega) hLs_ ⟨by have := by2_j7_15_21.1; have := by2_j7_15_21.2; have := bd.1; have := bd.2; have := bx_17.1; have := bx_17.2; have := br_23_29.1; have := br_23_29.2; have := bkc_j7_15.1; have := bkc_j7_15.2; have := bfcv.1; have := bfcv.2; have := bsz_.1; have := bsz_.2; have := bx_30.1; have := bx_30.2; have := bx_18.1; have := bx_18.2; have := bcc.1; have := bcc.2; have : (1 : Int32).toInt = 1 := (by decide); have : (42 : Int32).toInt = 42 := (by decide); omega, by have := by2_j7_15_21.1; have := by2_j7_15_21.2; have := bd.1; have := bd.2; have := bx_17.1; have := bx_17.2; have := br_23_29.1; have := br_23_29.2; have := bkc_j7_15.1; have := bkc_j7_15.2; have := bfcv.1; have := bfcv.2; have := bsz_.1; have := bsz_.2; have := bx_30.1; have := bx_30.2; have := bx_18.1; have := bx_18.2; have := bcc.1; have := bcc.2; have : (1 : Int32).toInt = 1 := (by decide); have : (42 : Int32).toInt = 42 := (by decide); omega⟩)
          have rc_32 : zRc (zTo Bt nt) σ [(15, d.toInt.toNat, 0, 0)] (zadv σ_j7_15) [(17, d.toInt.toNat, 0, 0), (16, d.toInt.toNat, 0, 0)] := zRc.termT1 (N := Nt) rc_j7_15 (by have := by2_j7_15_21.1; have := by2_j7_15_21.2; have := bd.1; have := bd.2; have := br_23_29.1; have := br_23_29.2; have := bkc_j7_15.1; have := bkc_j7_15.2; have := bfcv.1; have := bfcv.2; have := bsz_.1; have := bsz_.2; have := bx_30.1; have := bx_30.2; have := bx_18.1; have := bx_18.2; have := bcc.1; have := bcc.2; have : (1 : Int32).toInt = 1 := (by decide); have : (42 : Int32).toInt = 42 := (by decide); omega)
          have st_32 : zss σ_j7_15 (zadv σ_j7_15) := zsm.adv.ss
          have ss_32 : zss σ (zadv σ_j7_15) := ss_j7_15.trans st_32
          have cc_32 : zCc Γ F F_31 th (zTo Bt nt) σ (zadv σ_j7_15) (d.toInt) := (cc_j7_15.mv hfF_31 hth (by decide) (zTo_P Bt nt) zsm.adv.cs)
          generalize hσ_32 : zadv σ_j7_15 = σ_32 at c1_32 rc_32 st_32 ss_32 cc_32
          obtain ⟨⟨x_33, kx_33, nx_33⟩, ⟨x_34, kx_34, nx_34⟩, ox_33⟩ := id c1_32
          have gx_33 := zC1.nx c1_32 hLs_.1 kx_33
          have bx_33 : zB 0 600 x_33 := ⟨by omega, by have := hLs_.2.1; omega⟩
          have bx_34 := zB.all x_34
          have vx_33 := congrArg Int32.toInt (z_same kF_31 kx_33)
          have mo_32 := zss.nx st_32 ox_17 ox_33
          refine lv_aload_n hx hb dX7_readTerm_37 rfl (lv_at hl 1 rfl) ?_
          refine lv_iload_n hx hb dX7_readTerm_38 rfl (lv_at hl 2 rfl) ?_
          have p_35 := (p_22.fr hfF_31 htk (by decide))
          have fk_36 := (fk_j7_15.ss st_32)
          refine zk_Vv (As := [.int d]) (rest := []) (bytes := cX7_readPart) (maxL := 2) (ret := none) Z h (ze_X7_readPart l D k Γ L F_31 H.size th d pr tk co Bt nt Nt kc_j7_15 σ_32 fcv nv hth bd (hfF_31.f hth 3 ⟨by decide, by decide⟩ (hfF_16.f hth 3 ⟨by decide, by decide⟩ (hfF_7.f hth 3 ⟨by decide, by decide⟩ kpr))) hpr (hfF_31.f hth 4 ⟨by decide, by decide⟩ (hfF_16.f hth 4 ⟨by decide, by decide⟩ (hfF_7.f hth 4 ⟨by decide, by decide⟩ ktk))) htk (hfF_31.f hth 5 ⟨by decide, by decide⟩ (hfF_16.f hth 5 ⟨by decide, by decide⟩ (hfF_7.f hth 5 ⟨by decide, by decide⟩ kco))) hco p_35 (hfF_31.f hth 11 ⟨by decide, by decide⟩ hkc_j7_15) bkc_j7_15 c1_32 (zCc.m (cc_32.w (dep' := d.toInt) (by have := by2_j7_15_21.1; have := by2_j7_15_21.2; have := bd.1; have := bd.2; have := bkc_j7_15.1; have := bkc_j7_15.2; have := br_23_29.1; have := br_23_29.2; have := bfcv.1; have := bfcv.2; have := bsz_.1; have := bsz_.2; have := bx_33.1; have := bx_33.2; have := bx_34.1; have := bx_34.2; have := bcc.1; have := bcc.2; have : (1 : Int32).toInt = 1 := (by decide); have : (42 : Int32).toInt = 42 := (by decide); omega)) (hfF_31.f hth 11 ⟨by decide, by decide⟩ hkc_j7_15)) (hfF_31.f hpr 4 ⟨by decide, by decide⟩ (hfF_16.f hpr 4 ⟨by decide, by decide⟩ (hfF_7.f hpr 4 ⟨by decide, by decide⟩ kfcv))) bfcv fk_36 (by have := by2_j7_15_21.1; have := by2_j7_15_21.2; have := bd.1; have := bd.2; have := bkc_j7_15.1; have := bkc_j7_15.2; have := bfcv.1; have := bfcv.2; have := br_23_29.1; have := br_23_29.2; have := bsz_.1; have := bsz_.2; have := bx_33.1; have := bx_33.2; have := bx_34.1; have := bx_34.2; have := bcc.1; have := bcc.2; have : (1 : Int32).toInt = 1 := (by decide); have : (42 : Int32).toInt = 42 := (by decide); omega) hrec) (cwV 1 hg zv_RX7_182 rfl rfl rfl zd_X7_readPart ⟨z_leR hRf (by have := by2_j7_15_21.1; have := by2_j7_15_21.2; have := bd.1; have := bd.2; have := br_23_29.1; have := br_23_29.2; have := bkc_j7_15.1; have := bkc_j7_15.2; have := bfcv.1; have := bfcv.2; have := bsz_.1; have := bsz_.2; have := bx_33.1; have := bx_33.2; have := bx_34.1; have := bx_34.2; have := bcc.1; have := bcc.2; have : (1 : Int32).toInt = 1 := (by decide); have : (42 : Int32).toInt = 42 := (by decide); dsimp only; omega), z_leR hRl (by have := by2_j7_15_21.1; have := by2_j7_15_21.2; have := bd.1; have := bd.2; have := br_23_29.1; have := br_23_29.2; have := bkc_j7_15.1; have := bkc_j7_15.2; have := bfcv.1; have := bfcv.2; have := bsz_.1; have := bsz_.2; have := bx_33.1; have := bx_33.2; have := bx_34.1; have := bx_34.2; have := bcc.1; have := bcc.2; have : (1 : Int32).toInt = 1 := (by decide); have : (42 : Int32).toInt = 42 := (by decide); dsimp only; omega)⟩) hth (by decide) rfl rfl hl.1 rfl (Nat.le_of_ble_eq_true rfl) dX7_readTerm_39 ⟨Nat.zero_le _, Nat.zero_le _⟩ (fun F_37 H locs w_38 h hfF_37 => ?_)
          obtain ⟨⟨x_40, kx_40, bx_40, q_39⟩, ⟨σ_42, c1_42, rn_42, st_42, cn_42⟩, -⟩ := w_38
          have rc_42 : zRc (zTo Bt nt) σ [(15, d.toInt.toNat, 0, 0)] σ_42 [(16, d.toInt.toNat, 0, 0)] := zRc.calls rc_32 (rn_42.x (zSy_eq (by have := by2_j7_15_21.1; have := by2_j7_15_21.2; have := bd.1; have := bd.2; have := bkc_j7_15.1; have := bkc_j7_15.2; have := bfcv.1; have := bfcv.2; have := bx_40.1; have := bx_40.2; have := br_23_29.1; have := br_23_29.2; have := bsz_.1; have := bsz_.2; have := bcc.1; have := bcc.2; have : (1 : Int32).toInt = 1 := (by decide); have : (42 : Int32).toInt = 42 := (by decide); omega) (by have := by2_j7_15_21.1; have := by2_j7_15_21.2; have := bd.1; have := bd.2; have := bkc_j7_15.1; have := bkc_j7_15.2; have := bfcv.1; have := bfcv.2; have := bx_40.1; have := bx_40.2; have := br_23_29.1; have := br_23_29.2; have := bsz_.1; have := bsz_.2; have := bcc.1; have := bcc.2; have : (1 : Int32).toInt = 1 := (by decide); have : (42 : Int32).toInt = 42 := (by decide); omega) (by have := by2_j7_15_21.1; have := by2_j7_15_21.2; have := bd.1; have := bd.2; have := bkc_j7_15.1; have := bkc_j7_15.2; have := bfcv.1; have := bfcv.2; have := bx_40.1; have := bx_40.2; have := br_23_29.1; have := br_23_29.2; have := bsz_.1; have := bsz_.2; have := bcc.1; have := bcc.2; have : (1 : Int32).toInt = 1 := (by decide); have : (42 : Int32).toInt = 42 := (by decide); omega)))
          have ss_42 : zss σ σ_42 := ss_32.trans st_42
          have cc_42 : zCc Γ F F_37 th (zTo Bt nt) σ (σ_42) (d.toInt) := zCc.call cc_32 cn_42
          obtain ⟨⟨x_43, kx_43, nx_43⟩, ⟨x_44, kx_44, nx_44⟩, ox_43⟩ := id c1_42
          have gx_43 := zC1.nx c1_42 hLs_.1 kx_43
          have bx_43 : zB 0 600 x_43 := ⟨by omega, by have := hLs_.2.1; omega⟩
          have bx_44 := zB.all x_44
          have mo_42 := zss.nx st_42 ox_33 ox_43
          refine lv_aload_n hx hb dX7_readTerm_42 rfl (lv_at hl 1 rfl) ?_
          refine zt_getk (t := 7) (C := RX7) (T := TX7) (N := 12) Z h hth zin_7 rfl 5 (hfF_37.f hth 5 ⟨by decide, by decide⟩ (hfF_31.f hth 5 ⟨by decide, by decide⟩ (hfF_16.f hth 5 ⟨by decide, by decide⟩ (hfF_7.f hth 5 ⟨by decide, by decide⟩ kco)))) ⟨by decide, rfl, by decide⟩ (zm_RX7 (List.mem_of_getElem? (i := 6) rfl)) (fun _ h9 => h9) dX7_readTerm_43 ?_
          refine lv_iconst (v := 5) hx hb dX7_readTerm_46 (by decide) ?_
          refine lv_iconst (v := 0) hx hb dX7_readTerm_47 (by decide) ?_
          refine lv_iconst (v := 0) hx hb dX7_readTerm_48 (by decide) ?_
          refine zk_Vi (As := [.int 5, .int 0, .int 0]) (rest := []) (bytes := cX1_add) (maxL := 4) (ret := (some .int)) Z h (zc_X1_add l D k Γ L F_37 H.size co 5 0 0 hco) (cwV 3 hg zv_RX7_117 rfl rfl rfl zd_X1_add ⟨z_leR hRf (by have := by2_j7_15_21.1; have := by2_j7_15_21.2; have := bd.1; have := bd.2; have := br_23_29.1; have := br_23_29.2; have := bx_40.1; have := bx_40.2; have := bfcv.1; have := bfcv.2; have := bsz_.1; have := bsz_.2; have := bx_43.1; have := bx_43.2; have := bx_44.1; have := bx_44.2; have := bcc.1; have := bcc.2; have : (0 : Int32).toInt = 0 := (by decide); have : (1 : Int32).toInt = 1 := (by decide); have : (5 : Int32).toInt = 5 := (by decide); have : (42 : Int32).toInt = 42 := (by decide); dsimp only; omega), z_leR hRl (by have := by2_j7_15_21.1; have := by2_j7_15_21.2; have := bd.1; have := bd.2; have := br_23_29.1; have := br_23_29.2; have := bx_40.1; have := bx_40.2; have := bfcv.1; have := bfcv.2; have := bsz_.1; have := bsz_.2; have := bx_43.1; have := bx_43.2; have := bx_44.1; have := bx_44.2; have := bcc.1; have := bcc.2; have : (0 : Int32).toInt = 0 := (by decide); have : (1 : Int32).toInt = 1 := (by decide); have : (5 : Int32).toInt = 5 := (by decide); have : (42 : Int32).toInt = 42 := (by decide); dsimp only; omega)⟩) hco (by decide) rfl rfl hl.1 rfl (Nat.le_of_ble_eq_true rfl) dX7_readTerm_49 ⟨Nat.zero_le _, Nat.zero_le _⟩ (fun r_45 F_46 H locs w_47 h hfF_46 => ?_)
          obtain ⟨br_45, -⟩ := w_47
          refine lv_pop hx hb dX7_readTerm_52 rfl ?_
          obtain ⟨x_48, ex_48, bx_48, tx_48⟩ := z_inc (n := 1) (lo := 1) (hi := 601) by2_j7_15_21 (by decide)
          refine lv_iinc (v := x_48) (lv' := [(2, .int x_48), (0, .ref th), (1, .int d)]) hx hb dX7_readTerm_53 hl (k := 0) rfl ex_48 (by decide) rfl (fun ls hl => ?_)
          refine lv_goto (tgt := 7) hx hb dX7_readTerm_56 (by decide) ?_
          have c1_49 := (c1_42.fr hfF_46 hth (by decide))
          have cc_50 := (cc_42.fr hfF_46 hth (by decide) (zTo_P Bt nt))
          have fk_51 := (fk_36.ss st_42)
          exact ih_j7_15 _ (by have := bx_48.1; have := bx_48.2; have := bd.1; have := bd.2; have := bx_40.1; have := bx_40.2; have := br_23_29.1; have := br_23_29.2; have := bfcv.1; have := bfcv.2; have := bsz_.1; have := bsz_.2; have := bx_43.1; have := bx_43.2; have := bx_44.1; have := bx_44.2; have := bcc.1; have := bcc.2; have : (1 : Int32).toInt = 1 := (by decide); have : (42 : Int32).toInt = 42 := (by decide); have := by2_j7_15.1; have := by2_j7_15.2; omega) ls x_48 x_40 σ_42 F_46 H locs (lv_sub hl [0, 1, 2] rfl) (bx_48.w ⟨by decide, by decide⟩) h (((hfF_16.trans hfF_31 (by decide)).trans hfF_37 (by decide)).trans hfF_46 (by decide)) (hfF_46.f hth 11 ⟨by decide, by decide⟩ kx_40) bx_40 (by have := bx_48.1; have := bx_48.2; have := bd.1; have := bd.2; have := bx_40.1; have := bx_40.2; have := br_23_29.1; have := br_23_29.2; have := bfcv.1; have := bfcv.2; have := bsz_.1; have := bsz_.2; have := bx_43.1; have := bx_43.2; have := bx_44.1; have := bx_44.2; have := bcc.1; have := bcc.2; have : (1 : Int32).toInt = 1 := (by decide); have : (42 : Int32).toInt = 42 := (by decide); omega) c1_49 rc_42 ss_42 (cc_50.w (by have := bx_48.1; have := bx_48.2; have := bd.1; have := bd.2; have := bx_40.1; have := bx_40.2; have := br_23_29.1; have := br_23_29.2; have := bfcv.1; have := bfcv.2; have := bsz_.1; have := bsz_.2; have := bx_43.1; have := bx_43.2; have := bx_44.1; have := bx_44.2; have := bcc.1; have := bcc.2; have : (1 : Int32).toInt = 1 := (by decide); have : (42 : Int32).toInt = 42 := (by decide); omega)) fk_51 rfl
  have fk_52 := (p_fk.ss st_12)
  exact j_j7_15 _ ls 0 x_10 σ_12 F_7 H locs (lv_sub hl [0, 1, 2] rfl) (zB.of ⟨by decide, by decide⟩) h zFr.rf kx_10 bx_10 (by have := bd.1; have := bd.2; have := bx_10.1; have := bx_10.2; have := bfcv.1; have := bfcv.2; have := bsz_.1; have := bsz_.2; have := bx_13.1; have := bx_13.2; have := bx_14.1; have := bx_14.2; have := bcc.1; have := bcc.2; have : (0 : Int32).toInt = 0 := (by decide); omega) c1_12 rc_12 ss_12 (cc_12.w (by have := bd.1; have := bd.2; have := bx_10.1; have := bx_10.2; have := bfcv.1; have := bfcv.2; have := bsz_.1; have := bsz_.2; have := bx_13.1; have := bx_13.2; have := bx_14.1; have := bx_14.2; have := bcc.1; have := bcc.2; have : (0 : Int32).toInt = 0 := (by decide); omega)) fk_52 rfl

set_option maxHeartbeats 4000000 in
set_option maxRecDepth 100000 in
theorem ze_X7_readSum (l : Launch) (D : va_G) (k : Nat → ClassId) (Γ : Nat → Option Nat) (L : List Nat) (F : Nat → va_E) (sz : Nat) (th : Nat) (d : Int32) (pr : Nat) (tk : Nat) (co : Nat) (Bt : Nat → Int32) (nt : Nat) (Nt : Nat) (cc : Int32) (σ : zSg) (fcv : Int32) (nv : Nat) (hth : Γ th = some 7) (bd : zB 0 6 d) (kpr : zfld F th 3 = .ref pr) (hpr : Γ pr = some 6) (ktk : zfld F th 4 = .ref tk) (htk : Γ tk = some 8) (kco : zfld F th 5 = .ref co) (hco : Γ co = some 1) (p_tb : zTb Γ F tk Bt nt Nt) (kcc : zfld F th 11 = .int cc) (bcc : zB 0 150 cc) (p_au : zC1 F th Nt (σ)) (hm_ : ∀ i d9, σ = .inl (i, d9) → 4 * cc.toInt + 5 ≤ zpo Bt nt i + (d.toInt)) (kfcv : zfld F pr 4 = .int fcv) (bfcv : zB 0 10 fcv) (p_fk : zFk fcv σ) (hr0 : 6 ≤ d.toInt + (nv : Int)) (hrec : ∀ q : Nat, nv = q + 1 → zR_sum l q) : Met l yX7_readSum zwX7_readSum ({ frames := 10 * nv + 9, cells := 0, slots := 0, locals := 400 * nv + 300 }) (va_Pc [.ref th, .int d] (zP D k Γ L F sz)) (va_Qv (fun (u : Nat → va_E) => (∃ (c9 : Int32), zfld u th 11 = .int c9 ∧ zB 0 150 c9 ∧ (0 ≤ c9.toInt)) ∧ (∃ σ9 : zSg, zC1 u th Nt σ9 ∧ zRc (zTo Bt nt) σ [(13, d.toInt.toNat, 0, 0)] σ9 [] ∧ zss σ σ9 ∧ zCc Γ F u th (zTo Bt nt) σ σ9 (d.toInt)) ∧ True) (zQ D k Γ L F [103, 701, 702, 706, 711, 10200, 10600, 10700, 15800, 15900, 16000, 16100]) (zA L sz)) 0 0 (zA L sz) := by
  refine Met.ofW (cc := cX7_readSum) (maxL := 4) (ret := none) (by decide) rfl ?_
  intro p e s m args below meth c s₁ B hml hv
  obtain ⟨rfl, hsz, hP, hK, hLn, hE, hI⟩ := hv
  have hx := B.exec
  have hb := B.bytes
  have hr := B.returns
  have hg : ∀ w ∈ zG, w.before _ s = true := fun w h9 => atoms_spec (ws := zwX7_readSum) B.pre w (List.mem_cons_of_mem _ h9)
  have hown : s.vm.findClass RX7 = some m.cls := findClass_of_methodNamed B.named
  have hlocks := B.notSynchronized
  subst hsz
  have Z : zC p m c cX7_readSum 4 s _ zG RX7 D k L := ⟨⟨hx, hb, hml, hown, hg⟩, hK, hLn, hE⟩
  have h : zH D k Γ L s F s.heap [] := ⟨hP, hI, va_S.rf⟩
  have hl := lv_entry ([.ref th, .int d]) (n := 4) (Nat.le_of_ble_eq_true rfl)
  rw [lg_entry_eq]
  generalize (lg_sl ([.ref th, .int d]) ++ List.replicate (4 - (lg_sl ([.ref th, .int d])).length) Slot.unset).toArray = ls at hl ⊢
  have hl : lv_has ls 4 [(0, .ref th), (1, .int d)] := hl
  clear hP hK hLn hE hI
  generalize hargs : ([.ref th, .int d] : List Value).toArray = args at *
  refine z_start (fun R Q hRf hRl hQ => ?_)
  have hRf : R.frames = 10 * nv + 9 := hRf
  have hRl : R.locals = 400 * nv + 300 := hRl
  have h9 := h
  have hLs_ := p_tb.2.2.2.1
  obtain ⟨sz_, ksz_, tsz_⟩ := p_tb.2.2.1
  have bsz_ : zB 1 601 sz_ := ⟨by have := hLs_.1; omega, by have := hLs_.2.1; omega⟩
  obtain ⟨⟨x_1, kx_1, nx_1⟩, ⟨x_2, kx_2, nx_2⟩, ox_1⟩ := id p_au
  have gx_1 := zC1.nx p_au hLs_.1 kx_1
  have bx_1 : zB 0 600 x_1 := ⟨by omega, by have := hLs_.2.1; omega⟩
  have bx_2 := zB.all x_2
  have ad_3 := z_ad (j := 7) (c := 106) h.2.1 hth (by decide) rfl
  have ad_4 := z_ad (j := 8) (c := 107) h.2.1 hth (by decide) rfl
  have ad_5 := z_ad (j := 10) (c := 161) h.2.1 hth (by decide) rfl
  have cc0_ : zCc Γ F F th (zTo Bt nt) σ σ (d.toInt) := zCc.rf kcc bcc.1 ⟨ad_3, ad_4, ad_5⟩ hm_
  have rc0_ : zRc (zTo Bt nt) σ [(13, d.toInt.toNat, 0, 0)] σ [(13, d.toInt.toNat, 0, 0)] := zRc.rf
  have ss0_ : zss σ σ := zss.rf
  have rc_6 : zRc (zTo Bt nt) σ [(13, d.toInt.toNat, 0, 0)] σ [(15, d.toInt.toNat, 0, 0), (14, d.toInt.toNat, 0, 0)] := zRc.sum rc0_
  refine lv_aload_n hx hb dX7_readSum_0 rfl (lv_at hl 0 rfl) ?_
  refine lv_iload_n hx hb dX7_readSum_1 rfl (lv_at hl 1 rfl) ?_
  refine zk_Vv (As := [.int d]) (rest := []) (bytes := cX7_readTerm) (maxL := 3) (ret := none) Z h (ze_X7_readTerm l D k Γ L F s.heap.size th d pr tk co Bt nt Nt cc σ fcv nv hth bd kpr hpr ktk htk kco hco p_tb kcc bcc p_au (zCc.m (cc0_.w (dep' := d.toInt) (by have := bd.1; have := bd.2; have := bcc.1; have := bcc.2; have := bfcv.1; have := bfcv.2; have := bsz_.1; have := bsz_.2; have := bx_1.1; have := bx_1.2; have := bx_2.1; have := bx_2.2; omega)) kcc) kfcv bfcv p_fk (by have := bd.1; have := bd.2; have := bcc.1; have := bcc.2; have := bfcv.1; have := bfcv.2; have := bsz_.1; have := bsz_.2; have := bx_1.1; have := bx_1.2; have := bx_2.1; have := bx_2.2; omega) hrec) (cwV 1 hg zv_RX7_179 rfl rfl rfl zd_X7_readTerm ⟨z_leR hRf (by have := bd.1; have := bd.2; have := bcc.1; have := bcc.2; have := bfcv.1; have := bfcv.2; have := bsz_.1; have := bsz_.2; have := bx_1.1; have := bx_1.2; have := bx_2.1; have := bx_2.2; dsimp only; omega), z_leR hRl (by have := bd.1; have := bd.2; have := bcc.1; have := bcc.2; have := bfcv.1; have := bfcv.2; have := bsz_.1; have := bsz_.2; have := bx_1.1; have := bx_1.2; have := bx_2.1; have := bx_2.2; dsimp only; omega)⟩) hth (by decide) rfl rfl hl.1 rfl (Nat.le_of_ble_eq_true rfl) dX7_readSum_2 ⟨Nat.zero_le _, Nat.zero_le _⟩ (fun F_7 H locs w_8 h hfF_7 => ?_)
  obtain ⟨⟨x_10, kx_10, bx_10, q_9⟩, ⟨σ_12, c1_12, rn_12, st_12, cn_12⟩, -⟩ := w_8
  have rc_12 : zRc (zTo Bt nt) σ [(13, d.toInt.toNat, 0, 0)] σ_12 [(14, d.toInt.toNat, 0, 0)] := zRc.calls rc_6 (rn_12.x (zSy_eq (by have := bd.1; have := bd.2; have := bcc.1; have := bcc.2; have := bfcv.1; have := bfcv.2; have := bx_10.1; have := bx_10.2; have := bsz_.1; have := bsz_.2; omega) (by have := bd.1; have := bd.2; have := bcc.1; have := bcc.2; have := bfcv.1; have := bfcv.2; have := bx_10.1; have := bx_10.2; have := bsz_.1; have := bsz_.2; omega) (by have := bd.1; have := bd.2; have := bcc.1; have := bcc.2; have := bfcv.1; have := bfcv.2; have := bx_10.1; have := bx_10.2; have := bsz_.1; have := bsz_.2; omega)))
  have ss_12 : zss σ σ_12 := ss0_.trans st_12
  have cc_12 : zCc Γ F F_7 th (zTo Bt nt) σ (σ_12) (d.toInt) := zCc.call cc0_ cn_12
  obtain ⟨⟨x_13, kx_13, nx_13⟩, ⟨x_14, kx_14, nx_14⟩, ox_13⟩ := id c1_12
  have gx_13 := zC1.nx c1_12 hLs_.1 kx_13
  have bx_13 : zB 0 600 x_13 := ⟨by omega, by have := hLs_.2.1; omega⟩
  have bx_14 := zB.all x_14
  have mo_12 := zss.nx st_12 ox_1 ox_13
  refine lv_iconst (v := 0) hx hb dX7_readSum_5 (by decide) ?_
  refine lv_istore_n (lv' := [(2, .int 0), (0, .ref th), (1, .int d)]) hx hb dX7_readSum_6 rfl hl (by decide) rfl (fun ls hl => ?_)
  have j_j7_15 : ∀ (n : Nat) (ls : Array Slot) (y2_j7_15 : Int32) (kc_j7_15 : Int32) (σ_j7_15 : zSg) (F_16 : Nat → va_E) (H : Heap) (locs : List Loc), lv_has ls 4 [(2, .int y2_j7_15), (0, .ref th), (1, .int d)] → zB 0 601 y2_j7_15 → zH D k Γ L s F_16 H locs → zFr Γ [103, 701, 702, 706, 711, 10200, 10600, 10700, 15800, 15900, 16000, 16100] F_7 F_16 → zfld F_16 th 11 = .int kc_j7_15 → zB 0 150 kc_j7_15 → (y2_j7_15.toInt ≤ znx Nt σ_j7_15) → zC1 F_16 th Nt (σ_j7_15) → zRc (zTo Bt nt) σ [(13, d.toInt.toNat, 0, 0)] σ_j7_15 [(14, d.toInt.toNat, 0, 0)] → zss σ σ_j7_15 → zCc Γ F F_16 th (zTo Bt nt) σ (σ_j7_15) (d.toInt) → zFk fcv σ_j7_15 → (2147483647 - y2_j7_15.toInt).toNat = n → W p l e R s m args below meth c H locs 0 0 Q (F0 m 7 ls []) := by
    intro n
    induction n using Nat.strongRecOn with
    | _ n ih_j7_15 =>
      intro ls y2_j7_15 kc_j7_15 σ_j7_15 F_16 H locs hl by2_j7_15 h hfF_16 hkc_j7_15 bkc_j7_15 r0_j7_15 c1_j7_15 rc_j7_15 ss_j7_15 cc_j7_15 fk_j7_15 hn_j7_15
      obtain ⟨⟨x_17, kx_17, nx_17⟩, ⟨x_18, kx_18, nx_18⟩, ox_17⟩ := id c1_j7_15
      have gx_17 := zC1.nx c1_j7_15 hLs_.1 kx_17
      have bx_17 : zB 0 600 x_17 := ⟨by omega, by have := hLs_.2.1; omega⟩
      have bx_18 := zB.all x_18
      refine lv_iload_n hx hb dX7_readSum_7 rfl (lv_at hl 0 rfl) ?_
      refine lv_aload_n hx hb dX7_readSum_8 rfl (lv_at hl 1 rfl) ?_
      refine zt_getk (t := 7) (C := RX7) (T := TX7) (N := 12) Z h hth zin_7 rfl 4 (hfF_16.f hth 4 ⟨by decide, by decide⟩ (hfF_7.f hth 4 ⟨by decide, by decide⟩ ktk)) ⟨by decide, rfl, by decide⟩ (zm_RX7 (List.mem_of_getElem? (i := 4) rfl)) (fun _ h9 => h9) dX7_readSum_9 ?_
      refine zt_getk (t := 8) (C := RX8) (T := TX8) (N := 6) Z h htk zin_8 rfl 5 (hfF_16.f htk 5 ⟨by decide, by decide⟩ (hfF_7.f htk 5 ⟨by decide, by decide⟩ ksz_)) ⟨by decide, rfl, by decide⟩ (zm_RX7 (List.mem_of_getElem? (i := 56) rfl)) (fun _ h9 => h9) dX7_readSum_12 ?_
      refine lv_icmp_ge (tgt := 83) hx hb dX7_readSum_15 (by decide) (fun c_19 => ?_) (fun c_19 => ?_)
      · have c_19 := z_le c_19
        have by2_j7_15_20 : zB 1 601 y2_j7_15 := zB.leR c_19 bsz_ by2_j7_15 (by decide)
        exfalso
        have := by2_j7_15_20.1; have := by2_j7_15_20.2; have := bd.1; have := bd.2; have := bx_17.1; have := bx_17.2; have := bkc_j7_15.1; have := bkc_j7_15.2; have := bfcv.1; have := bfcv.2; have := bsz_.1; have := bsz_.2; have := bx_18.1; have := bx_18.2; have := bcc.1; have := bcc.2; omega
      · have c_19 := z_nle c_19
        have by2_j7_15_21 : zB 0 600 y2_j7_15 := zB.ltL c_19 by2_j7_15 bsz_ (by decide)
        refine lv_aload_n hx hb dX7_readSum_18 rfl (lv_at hl 1 rfl) ?_
        have p_22 := ((p_tb.fr hfF_7 htk (by decide)).fr hfF_16 htk (by decide))
        refine zk_Vi (As := []) (rest := []) (bytes := cX7_kind) (maxL := 2) (ret := (some .int)) Z h (ze_X7_kind l D k Γ L F_16 H.size th tk Bt nt Nt σ_j7_15 hth (hfF_16.f hth 4 ⟨by decide, by decide⟩ (hfF_7.f hth 4 ⟨by decide, by decide⟩ ktk)) htk p_22 c1_j7_15) (cwV 0 hg zv_RX7_65 rfl rfl rfl zd_X7_kind ⟨z_leR hRf (by have := by2_j7_15_21.1; have := by2_j7_15_21.2; have := bd.1; have := bd.2; have := bkc_j7_15.1; have := bkc_j7_15.2; have := bfcv.1; have := bfcv.2; have := bsz_.1; have := bsz_.2; have := bx_17.1; have := bx_17.2; have := bx_18.1; have := bx_18.2; have := bcc.1; have := bcc.2; dsimp only; omega), z_leR hRl (by have := by2_j7_15_21.1; have := by2_j7_15_21.2; have := bd.1; have := bd.2; have := bkc_j7_15.1; have := bkc_j7_15.2; have := bfcv.1; have := bfcv.2; have := bsz_.1; have := bsz_.2; have := bx_17.1; have := bx_17.2; have := bx_18.1; have := bx_18.2; have := bcc.1; have := bcc.2; dsimp only; omega)⟩) hth (by decide) rfl rfl hl.1 rfl (Nat.le_of_ble_eq_true rfl) dX7_readSum_19 ⟨Nat.zero_le _, Nat.zero_le _⟩ (fun r_23 F_24 H locs w_25 h hfF_24 => ?_)
        obtain ⟨rfl, q_26, -⟩ := w_25
        have br_23 := zB.all r_23
        refine lv_bipush (v := 43) hx hb dX7_readSum_22 (by decide) ?_
        refine lv_icmp_eq (tgt := 36) hx hb dX7_readSum_24 (by decide) (fun c_27 => ?_) (fun c_27 => ?_)
        · have c_27 := z_eq c_27
          have br_23_28 : zB 43 43 r_23 := zB.eqL (a := 0) (b := 0) c_27 (zBc 43 43 (by decide))
          refine lv_aload_n hx hb dX7_readSum_36 rfl (lv_at hl 1 rfl) ?_
          refine zk_Vi (As := []) (rest := []) (bytes := cX7_kind) (maxL := 2) (ret := (some .int)) Z h (ze_X7_kind l D k Γ L F_16 H.size th tk Bt nt Nt σ_j7_15 hth (hfF_16.f hth 4 ⟨by decide, by decide⟩ (hfF_7.f hth 4 ⟨by decide, by decide⟩ ktk)) htk p_22 c1_j7_15) (cwV 0 hg zv_RX7_65 rfl rfl rfl zd_X7_kind ⟨z_leR hRf (by have := by2_j7_15_21.1; have := by2_j7_15_21.2; have := bd.1; have := bd.2; have := br_23_28.1; have := br_23_28.2; have := bkc_j7_15.1; have := bkc_j7_15.2; have := bfcv.1; have := bfcv.2; have := bsz_.1; have := bsz_.2; have := bx_17.1; have := bx_17.2; have := bx_18.1; have := bx_18.2; have := bcc.1; have := bcc.2; have : (43 : Int32).toInt = 43 := (by decide); dsimp only; omega), z_leR hRl (by have := by2_j7_15_21.1; have := by2_j7_15_21.2; have := bd.1; have := bd.2; have := br_23_28.1; have := br_23_28.2; have := bkc_j7_15.1; have := bkc_j7_15.2; have := bfcv.1; have := bfcv.2; have := bsz_.1; have := bsz_.2; have := bx_17.1; have := bx_17.2; have := bx_18.1; have := bx_18.2; have := bcc.1; have := bcc.2; have : (43 : Int32).toInt = 43 := (by decide); dsimp only; omega)⟩) hth (by decide) rfl rfl hl.1 rfl (Nat.le_of_ble_eq_true rfl) dX7_readSum_37 ⟨Nat.zero_le _, Nat.zero_le _⟩ (fun r_29 F_30 H locs w_31 h hfF_30 => ?_)
          obtain ⟨rfl, q_32, -⟩ := w_31
          have br_29 := zB.all r_29
          refine lv_bipush (v := 43) hx hb dX7_readSum_40 (by decide) ?_
          refine lv_icmp_ne (tgt := 49) hx hb dX7_readSum_42 (by decide) (fun c_33 => ?_) (fun c_33 => ?_)
          · have c_33 := z_ne c_33
            refine lv_iconst (v := 4) hx hb dX7_readSum_49 (by decide) ?_
            refine lv_istore_n (lv' := [(3, .int 4), (2, .int y2_j7_15), (0, .ref th), (1, .int d)]) hx hb dX7_readSum_50 rfl hl (by decide) rfl (fun ls hl => ?_)
            refine lv_aload_n hx hb dX7_readSum_51 rfl (lv_at hl 2 rfl) ?_
            refine lv_dup hx hb dX7_readSum_52 rfl ?_
            refine zt_getk (t := 7) (C := RX7) (T := TX7) (N := 12) Z h hth zin_7 rfl 6 kx_17 ⟨by decide, rfl, by decide⟩ (zm_RX7 (List.mem_of_getElem? (i := 9) rfl)) (fun _ h9 => h9) dX7_readSum_53 ?_
            refine lv_iconst (v := 1) hx hb dX7_readSum_56 (by decide) ?_
            refine lv_iadd hx hb dX7_readSum_57 ?_
            refine zi_add (lo := 1) (hi := 601) bx_17 (zBc 1 1 (by decide)) (by decide) (fun x_34 bx_34 tx_34 => ?_)
            refine zt_put (t := 7) (C := RX7) (T := TX7) (N := 12) (v := .int x_34) Z h hth zin_7 tyX7 tyX7_ok nmX7 rfl 6 rfl ⟨by decide, rfl⟩ (zm_RX7 (List.mem_of_getElem? (i := 9) rfl)) (fun _ h9 => h9) rfl (zV.i (bx_34.w ⟨by decide, by decide⟩)) rfl rfl dX7_readSum_58 (fun H locs F_35 h hfF_35 kF_35 => ?_)
            have c1_36 : zC1 F_35 th Nt (zadv σ_j7_15) := (zC1.adv (T := zTo Bt nt) c1_j7_15 hfF_35 hth (by decide) kx_17 kF_35 (by have := by2_j7_15_21.1; have := by2_j7_15_21.2; have := bd.1; have := bd.2; have := bx_17.1; have := bx_17.2; have := br_23_28.1; have := br_23_28.2; have := br_29.1; have := br_29.2; have := bkc_j7_15.1; have := bkc_j7_15.2; have := bfcv.1; have := bfcv.2; have := bsz_.1; have := bsz_.2; have := bx_34.1; have := bx_34.2; have := bx_18.1; have := bx_18.2; have := bcc.1; have := bcc.2; have : (1 : Int32).toInt = 1 := (by decide); have : (4 : Int32).toInt = 4 := (by decide); have : (43 : Int32).toInt = 43 := (by decide); omega) hLs_ ⟨by have := by2_j7_15_21.1; have := by2_j7_15_21.2; have := bd.1; have := bd.2; have := bx_17.1; have := bx_17.2; have := br_23_28.1; have := br_23_28.2; have := br_29.1; have := br_29.2; have := bkc_j7_15.1; have := bkc_j7_15.2; have := bfcv.1; have := bfcv.2; have := bsz_.1; have := bsz_.2; have := bx_34.1; have := bx_34.2; have := bx_18.1; have := bx_18.2; have := bcc.1; have := bcc.2; have : (1 : Int32).toInt = 1 := (by decide); have : (4 : Int32).toInt = 4 := (by decide); have : (43 : Int32).toInt = 43 := (by decide); omega, by have := by2_j7_15_21.1; have := by2_j7_15_21.2; have := bd.1; have := bd.2; have := bx_17.1; have := bx_17.2; have := br_23_28.1; have := br_23_28.2; have := br_29.1; have := br_29.2; have := bkc_j7_15.1; have := bkc_j7_15.2; have := bfcv.1; have := bfcv.2; have := bsz_.1; have := bsz_.2; have := bx_34.1; have := bx_34.2; have := bx_18.1; have := bx_18.2; have := bcc.1; have := bcc.2; have : (1 : Int32).toInt = 1 := (by decide); have : (4 : Int32).toInt = 4 := (by decide); have : (43 : Int32).toInt = 43 := (by decide); omega⟩)
            have rc_36 : zRc (zTo Bt nt) σ [(13, d.toInt.toNat, 0, 0)] (zadv σ_j7_15) [(15, d.toInt.toNat, 0, 0), (14, d.toInt.toNat, 0, 0)] := zRc.sumT1 (N := Nt) rc_j7_15 (by have := by2_j7_15_21.1; have := by2_j7_15_21.2; have := bd.1; have := bd.2; have := br_23_28.1; have := br_23_28.2; have := br_29.1; have := br_29.2; have := bkc_j7_15.1; have := bkc_j7_15.2; have := bfcv.1; have := bfcv.2; have := bsz_.1; have := bsz_.2; have := bx_34.1; have := bx_34.2; have := bx_18.1; have := bx_18.2; have := bcc.1; have := bcc.2; have : (1 : Int32).toInt = 1 := (by decide); have : (4 : Int32).toInt = 4 := (by decide); have : (43 : Int32).toInt = 43 := (by decide); omega)
            have st_36 : zss σ_j7_15 (zadv σ_j7_15) := zsm.adv.ss
            have ss_36 : zss σ (zadv σ_j7_15) := ss_j7_15.trans st_36
            have cc_36 : zCc Γ F F_35 th (zTo Bt nt) σ (zadv σ_j7_15) (d.toInt) := (cc_j7_15.mv hfF_35 hth (by decide) (zTo_P Bt nt) zsm.adv.cs)
            generalize hσ_36 : zadv σ_j7_15 = σ_36 at c1_36 rc_36 st_36 ss_36 cc_36
            obtain ⟨⟨x_37, kx_37, nx_37⟩, ⟨x_38, kx_38, nx_38⟩, ox_37⟩ := id c1_36
            have gx_37 := zC1.nx c1_36 hLs_.1 kx_37
            have bx_37 : zB 0 600 x_37 := ⟨by omega, by have := hLs_.2.1; omega⟩
            have bx_38 := zB.all x_38
            have vx_37 := congrArg Int32.toInt (z_same kF_35 kx_37)
            have mo_36 := zss.nx st_36 ox_17 ox_37
            refine lv_aload_n hx hb dX7_readSum_61 rfl (lv_at hl 2 rfl) ?_
            refine lv_iload_n hx hb dX7_readSum_62 rfl (lv_at hl 3 rfl) ?_
            have p_39 := (p_22.fr hfF_35 htk (by decide))
            have fk_40 := (fk_j7_15.ss st_36)
            refine zk_Vv (As := [.int d]) (rest := []) (bytes := cX7_readTerm) (maxL := 3) (ret := none) Z h (ze_X7_readTerm l D k Γ L F_35 H.size th d pr tk co Bt nt Nt kc_j7_15 σ_36 fcv nv hth bd (hfF_35.f hth 3 ⟨by decide, by decide⟩ (hfF_16.f hth 3 ⟨by decide, by decide⟩ (hfF_7.f hth 3 ⟨by decide, by decide⟩ kpr))) hpr (hfF_35.f hth 4 ⟨by decide, by decide⟩ (hfF_16.f hth 4 ⟨by decide, by decide⟩ (hfF_7.f hth 4 ⟨by decide, by decide⟩ ktk))) htk (hfF_35.f hth 5 ⟨by decide, by decide⟩ (hfF_16.f hth 5 ⟨by decide, by decide⟩ (hfF_7.f hth 5 ⟨by decide, by decide⟩ kco))) hco p_39 (hfF_35.f hth 11 ⟨by decide, by decide⟩ hkc_j7_15) bkc_j7_15 c1_36 (zCc.m (cc_36.w (dep' := d.toInt) (by have := by2_j7_15_21.1; have := by2_j7_15_21.2; have := bd.1; have := bd.2; have := bkc_j7_15.1; have := bkc_j7_15.2; have := br_23_28.1; have := br_23_28.2; have := br_29.1; have := br_29.2; have := bfcv.1; have := bfcv.2; have := bsz_.1; have := bsz_.2; have := bx_37.1; have := bx_37.2; have := bx_38.1; have := bx_38.2; have := bcc.1; have := bcc.2; have : (1 : Int32).toInt = 1 := (by decide); have : (4 : Int32).toInt = 4 := (by decide); have : (43 : Int32).toInt = 43 := (by decide); omega)) (hfF_35.f hth 11 ⟨by decide, by decide⟩ hkc_j7_15)) (hfF_35.f hpr 4 ⟨by decide, by decide⟩ (hfF_16.f hpr 4 ⟨by decide, by decide⟩ (hfF_7.f hpr 4 ⟨by decide, by decide⟩ kfcv))) bfcv fk_40 (by have := by2_j7_15_21.1; have := by2_j7_15_21.2; have := bd.1; have := bd.2; have := bkc_j7_15.1; have := bkc_j7_15.2; have := bfcv.1; have := bfcv.2; have := br_23_28.1; have := br_23_28.2; have := br_29.1; have := br_29.2; have := bsz_.1; have := bsz_.2; have := bx_37.1; have := bx_37.2; have := bx_38.1; have := bx_38.2; have := bcc.1; have := bcc.2; have : (1 : Int32).toInt = 1 := (by decide); have : (4 : Int32).toInt = 4 := (by decide); have : (43 : Int32).toInt = 43 := (by decide); omega) hrec) (cwV 1 hg zv_RX7_179 rfl rfl rfl zd_X7_readTerm ⟨z_leR hRf (by have := by2_j7_15_21.1; have := by2_j7_15_21.2; have := bd.1; have := bd.2; have := br_23_28.1; have := br_23_28.2; have := br_29.1; have := br_29.2; have := bkc_j7_15.1; have := bkc_j7_15.2; have := bfcv.1; have := bfcv.2; have := bsz_.1; have := bsz_.2; have := bx_37.1; have := bx_37.2; have := bx_38.1; have := bx_38.2; have := bcc.1; have := bcc.2; have : (1 : Int32).toInt = 1 := (by decide); have : (4 : Int32).toInt = 4 := (by decide); have : (43 : Int32).toInt = 43 := (by decide); dsimp only; omega), z_leR hRl (by have := by2_j7_15_21.1; have := by2_j7_15_21.2; have := bd.1; have := bd.2; have := br_23_28.1; have := br_23_28.2; have := br_29.1; have := br_29.2; have := bkc_j7_15.1; have := bkc_j7_15.2; have := bfcv.1; have := bfcv.2; have := bsz_.1; have := bsz_.2; have := bx_37.1; have := bx_37.2; have := bx_38.1; have := bx_38.2; have := bcc.1; have := bcc.2; have : (1 : Int32).toInt = 1 := (by decide); have : (4 : Int32).toInt = 4 := (by decide); have : (43 : Int32).toInt = 43 := (by decide); dsimp only; omega)⟩) hth (by decide) rfl rfl hl.1 rfl (Nat.le_of_ble_eq_true rfl) dX7_readSum_63 ⟨Nat.zero_le _, Nat.zero_le _⟩ (fun F_41 H locs w_42 h hfF_41 => ?_)
            obtain ⟨⟨x_44, kx_44, bx_44, q_43⟩, ⟨σ_46, c1_46, rn_46, st_46, cn_46⟩, -⟩ := w_42
            have rc_46 : zRc (zTo Bt nt) σ [(13, d.toInt.toNat, 0, 0)] σ_46 [(14, d.toInt.toNat, 0, 0)] := zRc.calls rc_36 (rn_46.x (zSy_eq (by have := by2_j7_15_21.1; have := by2_j7_15_21.2; have := bd.1; have := bd.2; have := bkc_j7_15.1; have := bkc_j7_15.2; have := bfcv.1; have := bfcv.2; have := bx_44.1; have := bx_44.2; have := br_23_28.1; have := br_23_28.2; have := br_29.1; have := br_29.2; have := bsz_.1; have := bsz_.2; have := bcc.1; have := bcc.2; have : (1 : Int32).toInt = 1 := (by decide); have : (4 : Int32).toInt = 4 := (by decide); have : (43 : Int32).toInt = 43 := (by decide); omega) (by have := by2_j7_15_21.1; have := by2_j7_15_21.2; have := bd.1; have := bd.2; have := bkc_j7_15.1; have := bkc_j7_15.2; have := bfcv.1; have := bfcv.2; have := bx_44.1; have := bx_44.2; have := br_23_28.1; have := br_23_28.2; have := br_29.1; have := br_29.2; have := bsz_.1; have := bsz_.2; have := bcc.1; have := bcc.2; have : (1 : Int32).toInt = 1 := (by decide); have : (4 : Int32).toInt = 4 := (by decide); have : (43 : Int32).toInt = 43 := (by decide); omega) (by have := by2_j7_15_21.1; have := by2_j7_15_21.2; have := bd.1; have := bd.2; have := bkc_j7_15.1; have := bkc_j7_15.2; have := bfcv.1; have := bfcv.2; have := bx_44.1; have := bx_44.2; have := br_23_28.1; have := br_23_28.2; have := br_29.1; have := br_29.2; have := bsz_.1; have := bsz_.2; have := bcc.1; have := bcc.2; have : (1 : Int32).toInt = 1 := (by decide); have : (4 : Int32).toInt = 4 := (by decide); have : (43 : Int32).toInt = 43 := (by decide); omega)))
            have ss_46 : zss σ σ_46 := ss_36.trans st_46
            have cc_46 : zCc Γ F F_41 th (zTo Bt nt) σ (σ_46) (d.toInt) := zCc.call cc_36 cn_46
            obtain ⟨⟨x_47, kx_47, nx_47⟩, ⟨x_48, kx_48, nx_48⟩, ox_47⟩ := id c1_46
            have gx_47 := zC1.nx c1_46 hLs_.1 kx_47
            have bx_47 : zB 0 600 x_47 := ⟨by omega, by have := hLs_.2.1; omega⟩
            have bx_48 := zB.all x_48
            have mo_46 := zss.nx st_46 ox_37 ox_47
            refine lv_aload_n hx hb dX7_readSum_66 rfl (lv_at hl 2 rfl) ?_
            refine zt_getk (t := 7) (C := RX7) (T := TX7) (N := 12) Z h hth zin_7 rfl 5 (hfF_41.f hth 5 ⟨by decide, by decide⟩ (hfF_35.f hth 5 ⟨by decide, by decide⟩ (hfF_16.f hth 5 ⟨by decide, by decide⟩ (hfF_7.f hth 5 ⟨by decide, by decide⟩ kco)))) ⟨by decide, rfl, by decide⟩ (zm_RX7 (List.mem_of_getElem? (i := 6) rfl)) (fun _ h9 => h9) dX7_readSum_67 ?_
            refine lv_iload_n hx hb dX7_readSum_70 rfl (lv_at hl 0 rfl) ?_
            refine lv_iconst (v := 0) hx hb dX7_readSum_71 (by decide) ?_
            refine lv_iconst (v := 0) hx hb dX7_readSum_72 (by decide) ?_
            refine zk_Vi (As := [.int 4, .int 0, .int 0]) (rest := []) (bytes := cX1_add) (maxL := 4) (ret := (some .int)) Z h (zc_X1_add l D k Γ L F_41 H.size co 4 0 0 hco) (cwV 3 hg zv_RX7_117 rfl rfl rfl zd_X1_add ⟨z_leR hRf (by have := by2_j7_15_21.1; have := by2_j7_15_21.2; have := bd.1; have := bd.2; have := br_23_28.1; have := br_23_28.2; have := br_29.1; have := br_29.2; have := bx_44.1; have := bx_44.2; have := bfcv.1; have := bfcv.2; have := bsz_.1; have := bsz_.2; have := bx_47.1; have := bx_47.2; have := bx_48.1; have := bx_48.2; have := bcc.1; have := bcc.2; have : (0 : Int32).toInt = 0 := (by decide); have : (1 : Int32).toInt = 1 := (by decide); have : (4 : Int32).toInt = 4 := (by decide); have : (43 : Int32).toInt = 43 := (by decide); dsimp only; omega), z_leR hRl (by have := by2_j7_15_21.1; have := by2_j7_15_21.2; have := bd.1; have := bd.2; have := br_23_28.1; have := br_23_28.2; have := br_29.1; have := br_29.2; have := bx_44.1; have := bx_44.2; have := bfcv.1; have := bfcv.2; have := bsz_.1; have := bsz_.2; have := bx_47.1; have := bx_47.2; have := bx_48.1; have := bx_48.2; have := bcc.1; have := bcc.2; have : (0 : Int32).toInt = 0 := (by decide); have : (1 : Int32).toInt = 1 := (by decide); have : (4 : Int32).toInt = 4 := (by decide); have : (43 : Int32).toInt = 43 := (by decide); dsimp only; omega)⟩) hco (by decide) rfl rfl hl.1 rfl (Nat.le_of_ble_eq_true rfl) dX7_readSum_73 ⟨Nat.zero_le _, Nat.zero_le _⟩ (fun r_49 F_50 H locs w_51 h hfF_50 => ?_)
            obtain ⟨br_49, -⟩ := w_51
            refine lv_pop hx hb dX7_readSum_76 rfl ?_
            obtain ⟨x_52, ex_52, bx_52, tx_52⟩ := z_inc (n := 1) (lo := 1) (hi := 601) by2_j7_15_21 (by decide)
            refine lv_iinc (v := x_52) (lv' := [(2, .int x_52), (3, .int 4), (0, .ref th), (1, .int d)]) hx hb dX7_readSum_77 hl (k := 1) rfl ex_52 (by decide) rfl (fun ls hl => ?_)
            refine lv_goto (tgt := 7) hx hb dX7_readSum_80 (by decide) ?_
            have c1_53 := (c1_46.fr hfF_50 hth (by decide))
            have cc_54 := (cc_46.fr hfF_50 hth (by decide) (zTo_P Bt nt))
            have fk_55 := (fk_40.ss st_46)
            exact ih_j7_15 _ (by have := bx_52.1; have := bx_52.2; have := bd.1; have := bd.2; have := bx_44.1; have := bx_44.2; have := br_23_28.1; have := br_23_28.2; have := br_29.1; have := br_29.2; have := bfcv.1; have := bfcv.2; have := bsz_.1; have := bsz_.2; have := bx_47.1; have := bx_47.2; have := bx_48.1; have := bx_48.2; have := bcc.1; have := bcc.2; have : (1 : Int32).toInt = 1 := (by decide); have : (4 : Int32).toInt = 4 := (by decide); have : (43 : Int32).toInt = 43 := (by decide); have := by2_j7_15.1; have := by2_j7_15.2; omega) ls x_52 x_44 σ_46 F_50 H locs (lv_sub hl [0, 2, 3] rfl) (bx_52.w ⟨by decide, by decide⟩) h (((hfF_16.trans hfF_35 (by decide)).trans hfF_41 (by decide)).trans hfF_50 (by decide)) (hfF_50.f hth 11 ⟨by decide, by decide⟩ kx_44) bx_44 (by have := bx_52.1; have := bx_52.2; have := bd.1; have := bd.2; have := bx_44.1; have := bx_44.2; have := br_23_28.1; have := br_23_28.2; have := br_29.1; have := br_29.2; have := bfcv.1; have := bfcv.2; have := bsz_.1; have := bsz_.2; have := bx_47.1; have := bx_47.2; have := bx_48.1; have := bx_48.2; have := bcc.1; have := bcc.2; have : (1 : Int32).toInt = 1 := (by decide); have : (4 : Int32).toInt = 4 := (by decide); have : (43 : Int32).toInt = 43 := (by decide); omega) c1_53 rc_46 ss_46 (cc_54.w (by have := bx_52.1; have := bx_52.2; have := bd.1; have := bd.2; have := bx_44.1; have := bx_44.2; have := br_23_28.1; have := br_23_28.2; have := br_29.1; have := br_29.2; have := bfcv.1; have := bfcv.2; have := bsz_.1; have := bsz_.2; have := bx_47.1; have := bx_47.2; have := bx_48.1; have := bx_48.2; have := bcc.1; have := bcc.2; have : (1 : Int32).toInt = 1 := (by decide); have : (4 : Int32).toInt = 4 := (by decide); have : (43 : Int32).toInt = 43 := (by decide); omega)) fk_55 rfl
          · have c_33 := z_eq c_33
            have br_29_56 : zB 43 43 r_29 := zB.eqL (a := 0) (b := 0) c_33 (zBc 43 43 (by decide))
            refine lv_iconst (v := 3) hx hb dX7_readSum_45 (by decide) ?_
            refine lv_goto (tgt := 50) hx hb dX7_readSum_46 (by decide) ?_
            refine lv_istore_n (lv' := [(3, .int 3), (2, .int y2_j7_15), (0, .ref th), (1, .int d)]) hx hb dX7_readSum_50 rfl hl (by decide) rfl (fun ls hl => ?_)
            refine lv_aload_n hx hb dX7_readSum_51 rfl (lv_at hl 2 rfl) ?_
            refine lv_dup hx hb dX7_readSum_52 rfl ?_
            refine zt_getk (t := 7) (C := RX7) (T := TX7) (N := 12) Z h hth zin_7 rfl 6 kx_17 ⟨by decide, rfl, by decide⟩ (zm_RX7 (List.mem_of_getElem? (i := 9) rfl)) (fun _ h9 => h9) dX7_readSum_53 ?_
            refine lv_iconst (v := 1) hx hb dX7_readSum_56 (by decide) ?_
            refine lv_iadd hx hb dX7_readSum_57 ?_
            refine zi_add (lo := 1) (hi := 601) bx_17 (zBc 1 1 (by decide)) (by decide) (fun x_57 bx_57 tx_57 => ?_)
            refine zt_put (t := 7) (C := RX7) (T := TX7) (N := 12) (v := .int x_57) Z h hth zin_7 tyX7 tyX7_ok nmX7 rfl 6 rfl ⟨by decide, rfl⟩ (zm_RX7 (List.mem_of_getElem? (i := 9) rfl)) (fun _ h9 => h9) rfl (zV.i (bx_57.w ⟨by decide, by decide⟩)) rfl rfl dX7_readSum_58 (fun H locs F_58 h hfF_58 kF_58 => ?_)
            have c1_59 : zC1 F_58 th Nt (zadv σ_j7_15) := (zC1.adv (T := zTo Bt nt) c1_j7_15 hfF_58 hth (by decide) kx_17 kF_58 (by have := by2_j7_15_21.1; have := by2_j7_15_21.2; have := bd.1; have := bd.2; have := bx_17.1; have := bx_17.2; have := br_23_28.1; have := br_23_28.2; have := br_29_56.1; have := br_29_56.2; have := bkc_j7_15.1; have := bkc_j7_15.2; have := bfcv.1; have := bfcv.2; have := bsz_.1; have := bsz_.2; have := bx_57.1; have := bx_57.2; have := bx_18.1; have := bx_18.2; have := bcc.1; have := bcc.2; have : (1 : Int32).toInt = 1 := (by decide); have : (3 : Int32).toInt = 3 := (by decide); have : (43 : Int32).toInt = 43 := (by decide); omega) hLs_ ⟨by have := by2_j7_15_21.1; have := by2_j7_15_21.2; have := bd.1; have := bd.2; have := bx_17.1; have := bx_17.2; have := br_23_28.1; have := br_23_28.2; have := br_29_56.1; have := br_29_56.2; have := bkc_j7_15.1; have := bkc_j7_15.2; have := bfcv.1; have := bfcv.2; have := bsz_.1; have := bsz_.2; have := bx_57.1; have := bx_57.2; have := bx_18.1; have := bx_18.2; have := bcc.1; have := bcc.2; have : (1 : Int32).toInt = 1 := (by decide); have : (3 : Int32).toInt = 3 := (by decide); have : (43 : Int32).toInt = 43 := (by decide); omega, by have := by2_j7_15_21.1; have := by2_j7_15_21.2; have := bd.1; have := bd.2; have := bx_17.1; have := bx_17.2; have := br_23_28.1; have := br_23_28.2; have := br_29_56.1; have := br_29_56.2; have := bkc_j7_15.1; have := bkc_j7_15.2; have := bfcv.1; have := bfcv.2; have := bsz_.1; have := bsz_.2; have := bx_57.1; have := bx_57.2; have := bx_18.1; have := bx_18.2; have := bcc.1; have := bcc.2; have : (1 : Int32).toInt = 1 := (by decide); have : (3 : Int32).toInt = 3 := (by decide); have : (43 : Int32).toInt = 43 := (by decide); omega⟩)
            have rc_59 : zRc (zTo Bt nt) σ [(13, d.toInt.toNat, 0, 0)] (zadv σ_j7_15) [(15, d.toInt.toNat, 0, 0), (14, d.toInt.toNat, 0, 0)] := zRc.sumT1 (N := Nt) rc_j7_15 (by have := by2_j7_15_21.1; have := by2_j7_15_21.2; have := bd.1; have := bd.2; have := br_23_28.1; have := br_23_28.2; have := br_29_56.1; have := br_29_56.2; have := bkc_j7_15.1; have := bkc_j7_15.2; have := bfcv.1; have := bfcv.2; have := bsz_.1; have := bsz_.2; have := bx_57.1; have := bx_57.2; have := bx_18.1; have := bx_18.2; have := bcc.1; have := bcc.2; have : (1 : Int32).toInt = 1 := (by decide); have : (3 : Int32).toInt = 3 := (by decide); have : (43 : Int32).toInt = 43 := (by decide); omega)
            have st_59 : zss σ_j7_15 (zadv σ_j7_15) := zsm.adv.ss
            have ss_59 : zss σ (zadv σ_j7_15) := ss_j7_15.trans st_59
            have cc_59 : zCc Γ F F_58 th (zTo Bt nt) σ (zadv σ_j7_15) (d.toInt) := (cc_j7_15.mv hfF_58 hth (by decide) (zTo_P Bt nt) zsm.adv.cs)
            generalize hσ_59 : zadv σ_j7_15 = σ_59 at c1_59 rc_59 st_59 ss_59 cc_59
            obtain ⟨⟨x_60, kx_60, nx_60⟩, ⟨x_61, kx_61, nx_61⟩, ox_60⟩ := id c1_59
            have gx_60 := zC1.nx c1_59 hLs_.1 kx_60
            have bx_60 : zB 0 600 x_60 := ⟨by omega, by have := hLs_.2.1; omega⟩
            have bx_61 := zB.all x_61
            have vx_60 := congrArg Int32.toInt (z_same kF_58 kx_60)
            have mo_59 := zss.nx st_59 ox_17 ox_60
            refine lv_aload_n hx hb dX7_readSum_61 rfl (lv_at hl 2 rfl) ?_
            refine lv_iload_n hx hb dX7_readSum_62 rfl (lv_at hl 3 rfl) ?_
            have p_62 := (p_22.fr hfF_58 htk (by decide))
            have fk_63 := (fk_j7_15.ss st_59)
            refine zk_Vv (As := [.int d]) (rest := []) (bytes := cX7_readTerm) (maxL := 3) (ret := none) Z h (ze_X7_readTerm l D k Γ L F_58 H.size th d pr tk co Bt nt Nt kc_j7_15 σ_59 fcv nv hth bd (hfF_58.f hth 3 ⟨by decide, by decide⟩ (hfF_16.f hth 3 ⟨by decide, by decide⟩ (hfF_7.f hth 3 ⟨by decide, by decide⟩ kpr))) hpr (hfF_58.f hth 4 ⟨by decide, by decide⟩ (hfF_16.f hth 4 ⟨by decide, by decide⟩ (hfF_7.f hth 4 ⟨by decide, by decide⟩ ktk))) htk (hfF_58.f hth 5 ⟨by decide, by decide⟩ (hfF_16.f hth 5 ⟨by decide, by decide⟩ (hfF_7.f hth 5 ⟨by decide, by decide⟩ kco))) hco p_62 (hfF_58.f hth 11 ⟨by decide, by decide⟩ hkc_j7_15) bkc_j7_15 c1_59 (zCc.m (cc_59.w (dep' := d.toInt) (by have := by2_j7_15_21.1; have := by2_j7_15_21.2; have := bd.1; have := bd.2; have := bkc_j7_15.1; have := bkc_j7_15.2; have := br_23_28.1; have := br_23_28.2; have := br_29_56.1; have := br_29_56.2; have := bfcv.1; have := bfcv.2; have := bsz_.1; have := bsz_.2; have := bx_60.1; have := bx_60.2; have := bx_61.1; have := bx_61.2; have := bcc.1; have := bcc.2; have : (1 : Int32).toInt = 1 := (by decide); have : (3 : Int32).toInt = 3 := (by decide); have : (43 : Int32).toInt = 43 := (by decide); omega)) (hfF_58.f hth 11 ⟨by decide, by decide⟩ hkc_j7_15)) (hfF_58.f hpr 4 ⟨by decide, by decide⟩ (hfF_16.f hpr 4 ⟨by decide, by decide⟩ (hfF_7.f hpr 4 ⟨by decide, by decide⟩ kfcv))) bfcv fk_63 (by have := by2_j7_15_21.1; have := by2_j7_15_21.2; have := bd.1; have := bd.2; have := bkc_j7_15.1; have := bkc_j7_15.2; have := bfcv.1; have := bfcv.2; have := br_23_28.1; have := br_23_28.2; have := br_29_56.1; have := br_29_56.2; have := bsz_.1; have := bsz_.2; have := bx_60.1; have := bx_60.2; have := bx_61.1; have := bx_61.2; have := bcc.1; have := bcc.2; have : (1 : Int32).toInt = 1 := (by decide); have : (3 : Int32).toInt = 3 := (by decide); have : (43 : Int32).toInt = 43 := (by decide); omega) hrec) (cwV 1 hg zv_RX7_179 rfl rfl rfl zd_X7_readTerm ⟨z_leR hRf (by have := by2_j7_15_21.1; have := by2_j7_15_21.2; have := bd.1; have := bd.2; have := br_23_28.1; have := br_23_28.2; have := br_29_56.1; have := br_29_56.2; have := bkc_j7_15.1; have := bkc_j7_15.2; have := bfcv.1; have := bfcv.2; have := bsz_.1; have := bsz_.2; have := bx_60.1; have := bx_60.2; have := bx_61.1; have := bx_61.2; have := bcc.1; have := bcc.2; have : (1 : Int32).toInt = 1 := (by decide); have : (3 : Int32).toInt = 3 := (by decide); have : (43 : Int32).toInt = 43 := (by decide); dsimp only; omega), z_leR hRl (by have := by2_j7_15_21.1; have := by2_j7_15_21.2; have := bd.1; have := bd.2; have := br_23_28.1; have := br_23_28.2; have := br_29_56.1; have := br_29_56.2; have := bkc_j7_15.1; have := bkc_j7_15.2; have := bfcv.1; have := bfcv.2; have := bsz_.1; have := bsz_.2; have := bx_60.1; have := bx_60.2; have := bx_61.1; have := bx_61.2; have := bcc.1; have := bcc.2; have : (1 : Int32).toInt = 1 := (by decide); have : (3 : Int32).toInt = 3 := (by decide); have : (43 : Int32).toInt = 43 := (by decide); dsimp only; omega)⟩) hth (by decide) rfl rfl hl.1 rfl (Nat.le_of_ble_eq_true rfl) dX7_readSum_63 ⟨Nat.zero_le _, Nat.zero_le _⟩ (fun F_64 H locs w_65 h hfF_64 => ?_)
            obtain ⟨⟨x_67, kx_67, bx_67, q_66⟩, ⟨σ_69, c1_69, rn_69, st_69, cn_69⟩, -⟩ := w_65
            have rc_69 : zRc (zTo Bt nt) σ [(13, d.toInt.toNat, 0, 0)] σ_69 [(14, d.toInt.toNat, 0, 0)] := zRc.calls rc_59 (rn_69.x (zSy_eq (by have := by2_j7_15_21.1; have := by2_j7_15_21.2; have := bd.1; have := bd.2; have := bkc_j7_15.1; have := bkc_j7_15.2; have := bfcv.1; have := bfcv.2; have := bx_67.1; have := bx_67.2; have := br_23_28.1; have := br_23_28.2; have := br_29_56.1; have := br_29_56.2; have := bsz_.1; have := bsz_.2; have := bcc.1; have := bcc.2; have : (1 : Int32).toInt = 1 := (by decide); have : (3 : Int32).toInt = 3 := (by decide); have : (43 : Int32).toInt = 43 := (by decide); omega) (by have := by2_j7_15_21.1; have := by2_j7_15_21.2; have := bd.1; have := bd.2; have := bkc_j7_15.1; have := bkc_j7_15.2; have := bfcv.1; have := bfcv.2; have := bx_67.1; have := bx_67.2; have := br_23_28.1; have := br_23_28.2; have := br_29_56.1; have := br_29_56.2; have := bsz_.1; have := bsz_.2; have := bcc.1; have := bcc.2; have : (1 : Int32).toInt = 1 := (by decide); have : (3 : Int32).toInt = 3 := (by decide); have : (43 : Int32).toInt = 43 := (by decide); omega) (by have := by2_j7_15_21.1; have := by2_j7_15_21.2; have := bd.1; have := bd.2; have := bkc_j7_15.1; have := bkc_j7_15.2; have := bfcv.1; have := bfcv.2; have := bx_67.1; have := bx_67.2; have := br_23_28.1; have := br_23_28.2; have := br_29_56.1; have := br_29_56.2; have := bsz_.1; have := bsz_.2; have := bcc.1; have := bcc.2; have : (1 : Int32).toInt = 1 := (by decide); have : (3 : Int32).toInt = 3 := (by decide); have : (43 : Int32).toInt = 43 := (by decide); omega)))
            have ss_69 : zss σ σ_69 := ss_59.trans st_69
            have cc_69 : zCc Γ F F_64 th (zTo Bt nt) σ (σ_69) (d.toInt) := zCc.call cc_59 cn_69
            obtain ⟨⟨x_70, kx_70, nx_70⟩, ⟨x_71, kx_71, nx_71⟩, ox_70⟩ := id c1_69
            have gx_70 := zC1.nx c1_69 hLs_.1 kx_70
            have bx_70 : zB 0 600 x_70 := ⟨by omega, by have := hLs_.2.1; omega⟩
            have bx_71 := zB.all x_71
            have mo_69 := zss.nx st_69 ox_60 ox_70
            refine lv_aload_n hx hb dX7_readSum_66 rfl (lv_at hl 2 rfl) ?_
            refine zt_getk (t := 7) (C := RX7) (T := TX7) (N := 12) Z h hth zin_7 rfl 5 (hfF_64.f hth 5 ⟨by decide, by decide⟩ (hfF_58.f hth 5 ⟨by decide, by decide⟩ (hfF_16.f hth 5 ⟨by decide, by decide⟩ (hfF_7.f hth 5 ⟨by decide, by decide⟩ kco)))) ⟨by decide, rfl, by decide⟩ (zm_RX7 (List.mem_of_getElem? (i := 6) rfl)) (fun _ h9 => h9) dX7_readSum_67 ?_
            refine lv_iload_n hx hb dX7_readSum_70 rfl (lv_at hl 0 rfl) ?_
            refine lv_iconst (v := 0) hx hb dX7_readSum_71 (by decide) ?_
            refine lv_iconst (v := 0) hx hb dX7_readSum_72 (by decide) ?_
            refine zk_Vi (As := [.int 3, .int 0, .int 0]) (rest := []) (bytes := cX1_add) (maxL := 4) (ret := (some .int)) Z h (zc_X1_add l D k Γ L F_64 H.size co 3 0 0 hco) (cwV 3 hg zv_RX7_117 rfl rfl rfl zd_X1_add ⟨z_leR hRf (by have := by2_j7_15_21.1; have := by2_j7_15_21.2; have := bd.1; have := bd.2; have := br_23_28.1; have := br_23_28.2; have := br_29_56.1; have := br_29_56.2; have := bx_67.1; have := bx_67.2; have := bfcv.1; have := bfcv.2; have := bsz_.1; have := bsz_.2; have := bx_70.1; have := bx_70.2; have := bx_71.1; have := bx_71.2; have := bcc.1; have := bcc.2; have : (0 : Int32).toInt = 0 := (by decide); have : (1 : Int32).toInt = 1 := (by decide); have : (3 : Int32).toInt = 3 := (by decide); have : (43 : Int32).toInt = 43 := (by decide); dsimp only; omega), z_leR hRl (by have := by2_j7_15_21.1; have := by2_j7_15_21.2; have := bd.1; have := bd.2; have := br_23_28.1; have := br_23_28.2; have := br_29_56.1; have := br_29_56.2; have := bx_67.1; have := bx_67.2; have := bfcv.1; have := bfcv.2; have := bsz_.1; have := bsz_.2; have := bx_70.1; have := bx_70.2; have := bx_71.1; have := bx_71.2; have := bcc.1; have := bcc.2; have : (0 : Int32).toInt = 0 := (by decide); have : (1 : Int32).toInt = 1 := (by decide); have : (3 : Int32).toInt = 3 := (by decide); have : (43 : Int32).toInt = 43 := (by decide); dsimp only; omega)⟩) hco (by decide) rfl rfl hl.1 rfl (Nat.le_of_ble_eq_true rfl) dX7_readSum_73 ⟨Nat.zero_le _, Nat.zero_le _⟩ (fun r_72 F_73 H locs w_74 h hfF_73 => ?_)
            obtain ⟨br_72, -⟩ := w_74
            refine lv_pop hx hb dX7_readSum_76 rfl ?_
            obtain ⟨x_75, ex_75, bx_75, tx_75⟩ := z_inc (n := 1) (lo := 1) (hi := 601) by2_j7_15_21 (by decide)
            refine lv_iinc (v := x_75) (lv' := [(2, .int x_75), (3, .int 3), (0, .ref th), (1, .int d)]) hx hb dX7_readSum_77 hl (k := 1) rfl ex_75 (by decide) rfl (fun ls hl => ?_)
            refine lv_goto (tgt := 7) hx hb dX7_readSum_80 (by decide) ?_
            have c1_76 := (c1_69.fr hfF_73 hth (by decide))
            have cc_77 := (cc_69.fr hfF_73 hth (by decide) (zTo_P Bt nt))
            have fk_78 := (fk_63.ss st_69)
            exact ih_j7_15 _ (by have := bx_75.1; have := bx_75.2; have := bd.1; have := bd.2; have := bx_67.1; have := bx_67.2; have := br_23_28.1; have := br_23_28.2; have := br_29_56.1; have := br_29_56.2; have := bfcv.1; have := bfcv.2; have := bsz_.1; have := bsz_.2; have := bx_70.1; have := bx_70.2; have := bx_71.1; have := bx_71.2; have := bcc.1; have := bcc.2; have : (1 : Int32).toInt = 1 := (by decide); have : (3 : Int32).toInt = 3 := (by decide); have : (43 : Int32).toInt = 43 := (by decide); have := by2_j7_15.1; have := by2_j7_15.2; omega) ls x_75 x_67 σ_69 F_73 H locs (lv_sub hl [0, 2, 3] rfl) (bx_75.w ⟨by decide, by decide⟩) h (((hfF_16.trans hfF_58 (by decide)).trans hfF_64 (by decide)).trans hfF_73 (by decide)) (hfF_73.f hth 11 ⟨by decide, by decide⟩ kx_67) bx_67 (by have := bx_75.1; have := bx_75.2; have := bd.1; have := bd.2; have := bx_67.1; have := bx_67.2; have := br_23_28.1; have := br_23_28.2; have := br_29_56.1; have := br_29_56.2; have := bfcv.1; have := bfcv.2; have := bsz_.1; have := bsz_.2; have := bx_70.1; have := bx_70.2; have := bx_71.1; have := bx_71.2; have := bcc.1; have := bcc.2; have : (1 : Int32).toInt = 1 := (by decide); have : (3 : Int32).toInt = 3 := (by decide); have : (43 : Int32).toInt = 43 := (by decide); omega) c1_76 rc_69 ss_69 (cc_77.w (by have := bx_75.1; have := bx_75.2; have := bd.1; have := bd.2; have := bx_67.1; have := bx_67.2; have := br_23_28.1; have := br_23_28.2; have := br_29_56.1; have := br_29_56.2; have := bfcv.1; have := bfcv.2; have := bsz_.1; have := bsz_.2; have := bx_70.1; have := bx_70.2; have := bx_71.1; have := bx_71.2; have := bcc.1; have := bcc.2; have : (1 : Int32).toInt = 1 := (by decide); have : (3 : Int32).toInt = 3 := (by decide); have : (43 : Int32).toInt = 43 := (by decide); omega)) fk_78 rfl
        · have c_27 := z_ne c_27
          refine lv_aload_n hx hb dX7_readSum_27 rfl (lv_at hl 1 rfl) ?_
          refine zk_Vi (As := []) (rest := []) (bytes := cX7_kind) (maxL := 2) (ret := (some .int)) Z h (ze_X7_kind l D k Γ L F_16 H.size th tk Bt nt Nt σ_j7_15 hth (hfF_16.f hth 4 ⟨by decide, by decide⟩ (hfF_7.f hth 4 ⟨by decide, by decide⟩ ktk)) htk p_22 c1_j7_15) (cwV 0 hg zv_RX7_65 rfl rfl rfl zd_X7_kind ⟨z_leR hRf (by have := by2_j7_15_21.1; have := by2_j7_15_21.2; have := bd.1; have := bd.2; have := br_23.1; have := br_23.2; have := bkc_j7_15.1; have := bkc_j7_15.2; have := bfcv.1; have := bfcv.2; have := bsz_.1; have := bsz_.2; have := bx_17.1; have := bx_17.2; have := bx_18.1; have := bx_18.2; have := bcc.1; have := bcc.2; have : (43 : Int32).toInt = 43 := (by decide); dsimp only; omega), z_leR hRl (by have := by2_j7_15_21.1; have := by2_j7_15_21.2; have := bd.1; have := bd.2; have := br_23.1; have := br_23.2; have := bkc_j7_15.1; have := bkc_j7_15.2; have := bfcv.1; have := bfcv.2; have := bsz_.1; have := bsz_.2; have := bx_17.1; have := bx_17.2; have := bx_18.1; have := bx_18.2; have := bcc.1; have := bcc.2; have : (43 : Int32).toInt = 43 := (by decide); dsimp only; omega)⟩) hth (by decide) rfl rfl hl.1 rfl (Nat.le_of_ble_eq_true rfl) dX7_readSum_28 ⟨Nat.zero_le _, Nat.zero_le _⟩ (fun r_79 F_80 H locs w_81 h hfF_80 => ?_)
          obtain ⟨rfl, q_82, -⟩ := w_81
          have br_79 := zB.all r_79
          refine lv_bipush (v := 45) hx hb dX7_readSum_31 (by decide) ?_
          refine lv_icmp_ne (tgt := 83) hx hb dX7_readSum_33 (by decide) (fun c_83 => ?_) (fun c_83 => ?_)
          · have c_83 := z_ne c_83
            have rc_84 : zRc (zTo Bt nt) σ [(13, d.toInt.toNat, 0, 0)] σ_j7_15 [] := zRc.sumT0 (N := Nt) rc_j7_15 (by have := by2_j7_15_21.1; have := by2_j7_15_21.2; have := bd.1; have := bd.2; have := br_23.1; have := br_23.2; have := br_79.1; have := br_79.2; have := bkc_j7_15.1; have := bkc_j7_15.2; have := bfcv.1; have := bfcv.2; have := bsz_.1; have := bsz_.2; have := bx_17.1; have := bx_17.2; have := bx_18.1; have := bx_18.2; have := bcc.1; have := bcc.2; have : (43 : Int32).toInt = 43 := (by decide); have : (45 : Int32).toInt = 45 := (by decide); omega)
            subst hQ
            exact W.vret hx hb hr (fun t ht hW => ⟨⟨F_16, rfl, ⟨⟨kc_j7_15, hkc_j7_15, bkc_j7_15, (by have := by2_j7_15_21.1; have := by2_j7_15_21.2; have := bd.1; have := bd.2; have := bkc_j7_15.1; have := bkc_j7_15.2; have := br_23.1; have := br_23.2; have := br_79.1; have := br_79.2; have := bfcv.1; have := bfcv.2; have := bsz_.1; have := bsz_.2; have := bx_17.1; have := bx_17.2; have := bx_18.1; have := bx_18.2; have := bcc.1; have := bcc.2; have : (43 : Int32).toInt = 43 := (by decide); have : (45 : Int32).toInt = 45 := (by decide); omega)⟩, ⟨σ_j7_15, c1_j7_15, rc_84, ss_j7_15, (cc_j7_15.w (by have := by2_j7_15_21.1; have := by2_j7_15_21.2; have := bd.1; have := bd.2; have := br_23.1; have := br_23.2; have := br_79.1; have := br_79.2; have := bkc_j7_15.1; have := bkc_j7_15.2; have := bfcv.1; have := bfcv.2; have := bsz_.1; have := bsz_.2; have := bx_17.1; have := bx_17.2; have := bx_18.1; have := bx_18.2; have := bcc.1; have := bcc.2; have : (43 : Int32).toInt = 43 := (by decide); have : (45 : Int32).toInt = 45 := (by decide); omega))⟩, trivial⟩, by rw [ht]; exact h.1, h.2.1, (hfF_7.trans hfF_16 (by decide))⟩, h.2.2.F ht⟩) h.2.2.2.2 dX7_readSum_83
          · have c_83 := z_eq c_83
            have br_79_85 : zB 45 45 r_79 := zB.eqL (a := 0) (b := 0) c_83 (zBc 45 45 (by decide))
            refine lv_aload_n hx hb dX7_readSum_36 rfl (lv_at hl 1 rfl) ?_
            refine zk_Vi (As := []) (rest := []) (bytes := cX7_kind) (maxL := 2) (ret := (some .int)) Z h (ze_X7_kind l D k Γ L F_16 H.size th tk Bt nt Nt σ_j7_15 hth (hfF_16.f hth 4 ⟨by decide, by decide⟩ (hfF_7.f hth 4 ⟨by decide, by decide⟩ ktk)) htk p_22 c1_j7_15) (cwV 0 hg zv_RX7_65 rfl rfl rfl zd_X7_kind ⟨z_leR hRf (by have := by2_j7_15_21.1; have := by2_j7_15_21.2; have := bd.1; have := bd.2; have := br_23.1; have := br_23.2; have := br_79_85.1; have := br_79_85.2; have := bkc_j7_15.1; have := bkc_j7_15.2; have := bfcv.1; have := bfcv.2; have := bsz_.1; have := bsz_.2; have := bx_17.1; have := bx_17.2; have := bx_18.1; have := bx_18.2; have := bcc.1; have := bcc.2; have : (43 : Int32).toInt = 43 := (by decide); have : (45 : Int32).toInt = 45 := (by decide); dsimp only; omega), z_leR hRl (by have := by2_j7_15_21.1; have := by2_j7_15_21.2; have := bd.1; have := bd.2; have := br_23.1; have := br_23.2; have := br_79_85.1; have := br_79_85.2; have := bkc_j7_15.1; have := bkc_j7_15.2; have := bfcv.1; have := bfcv.2; have := bsz_.1; have := bsz_.2; have := bx_17.1; have := bx_17.2; have := bx_18.1; have := bx_18.2; have := bcc.1; have := bcc.2; have : (43 : Int32).toInt = 43 := (by decide); have : (45 : Int32).toInt = 45 := (by decide); dsimp only; omega)⟩) hth (by decide) rfl rfl hl.1 rfl (Nat.le_of_ble_eq_true rfl) dX7_readSum_37 ⟨Nat.zero_le _, Nat.zero_le _⟩ (fun r_86 F_87 H locs w_88 h hfF_87 => ?_)
            obtain ⟨rfl, q_89, -⟩ := w_88
            have br_86 := zB.all r_86
            refine lv_bipush (v := 43) hx hb dX7_readSum_40 (by decide) ?_
            refine lv_icmp_ne (tgt := 49) hx hb dX7_readSum_42 (by decide) (fun c_90 => ?_) (fun c_90 => ?_)
            · have c_90 := z_ne c_90
              refine lv_iconst (v := 4) hx hb dX7_readSum_49 (by decide) ?_
              refine lv_istore_n (lv' := [(3, .int 4), (2, .int y2_j7_15), (0, .ref th), (1, .int d)]) hx hb dX7_readSum_50 rfl hl (by decide) rfl (fun ls hl => ?_)
              refine lv_aload_n hx hb dX7_readSum_51 rfl (lv_at hl 2 rfl) ?_
              refine lv_dup hx hb dX7_readSum_52 rfl ?_
              refine zt_getk (t := 7) (C := RX7) (T := TX7) (N := 12) Z h hth zin_7 rfl 6 kx_17 ⟨by decide, rfl, by decide⟩ (zm_RX7 (List.mem_of_getElem? (i := 9) rfl)) (fun _ h9 => h9) dX7_readSum_53 ?_
              refine lv_iconst (v := 1) hx hb dX7_readSum_56 (by decide) ?_
              refine lv_iadd hx hb dX7_readSum_57 ?_
              refine zi_add (lo := 1) (hi := 601) bx_17 (zBc 1 1 (by decide)) (by decide) (fun x_91 bx_91 tx_91 => ?_)
              refine zt_put (t := 7) (C := RX7) (T := TX7) (N := 12) (v := .int x_91) Z h hth zin_7 tyX7 tyX7_ok nmX7 rfl 6 rfl ⟨by decide, rfl⟩ (zm_RX7 (List.mem_of_getElem? (i := 9) rfl)) (fun _ h9 => h9) rfl (zV.i (bx_91.w ⟨by decide, by decide⟩)) rfl rfl dX7_readSum_58 (fun H locs F_92 h hfF_92 kF_92 => ?_)
              have c1_93 : zC1 F_92 th Nt (zadv σ_j7_15) := (zC1.adv (T := zTo Bt nt) c1_j7_15 hfF_92 hth (by decide) kx_17 kF_92 (by have := by2_j7_15_21.1; have := by2_j7_15_21.2; have := bd.1; have := bd.2; have := bx_17.1; have := bx_17.2; have := br_79_85.1; have := br_79_85.2; have := br_86.1; have := br_86.2; have := bkc_j7_15.1; have := bkc_j7_15.2; have := bfcv.1; have := bfcv.2; have := bsz_.1; have := bsz_.2; have := bx_91.1; have := bx_91.2; have := bx_18.1; have := bx_18.2; have := bcc.1; have := bcc.2; have : (1 : Int32).toInt = 1 := (by decide); have : (4 : Int32).toInt = 4 := (by decide); have : (43 : Int32).toInt = 43 := (by decide); have : (45 : Int32).toInt = 45 := (by decide); omega) hLs_ ⟨by have := by2_j7_15_21.1; have := by2_j7_15_21.2; have := bd.1; have := bd.2; have := bx_17.1; have := bx_17.2; have := br_79_85.1; have := br_79_85.2; have := br_86.1; have := br_86.2; have := bkc_j7_15.1; have := bkc_j7_15.2; have := bfcv.1; have := bfcv.2; have := bsz_.1; have := bsz_.2; have := bx_91.1; have := bx_91.2; have := bx_18.1; have := bx_18.2; have := bcc.1; have := bcc.2; have : (1 : Int32).toInt = 1 := (by decide); have : (4 : Int32).toInt = 4 := (by decide); have : (43 : Int32).toInt = 43 := (by decide); have : (45 : Int32).toInt = 45 := (by decide); omega, by have := by2_j7_15_21.1; have := by2_j7_15_21.2; have := bd.1; have := bd.2; have := bx_17.1; have := bx_17.2; have := br_79_85.1; have := br_79_85.2; have := br_86.1; have := br_86.2; have := bkc_j7_15.1; have := bkc_j7_15.2; have := bfcv.1; have := bfcv.2; have := bsz_.1; have := bsz_.2; have := bx_91.1; have := bx_91.2; have := bx_18.1; have := bx_18.2; have := bcc.1; have := bcc.2; have : (1 : Int32).toInt = 1 := (by decide); have : (4 : Int32).toInt = 4 := (by decide); have : (43 : Int32).toInt = 43 := (by decide); have : (45 : Int32).toInt = 45 := (by decide); omega⟩)
              have rc_93 : zRc (zTo Bt nt) σ [(13, d.toInt.toNat, 0, 0)] (zadv σ_j7_15) [(15, d.toInt.toNat, 0, 0), (14, d.toInt.toNat, 0, 0)] := zRc.sumT1 (N := Nt) rc_j7_15 (by have := by2_j7_15_21.1; have := by2_j7_15_21.2; have := bd.1; have := bd.2; have := br_79_85.1; have := br_79_85.2; have := br_86.1; have := br_86.2; have := bkc_j7_15.1; have := bkc_j7_15.2; have := bfcv.1; have := bfcv.2; have := bsz_.1; have := bsz_.2; have := bx_91.1; have := bx_91.2; have := bx_18.1; have := bx_18.2; have := bcc.1; have := bcc.2; have : (1 : Int32).toInt = 1 := (by decide); have : (4 : Int32).toInt = 4 := (by decide); have : (43 : Int32).toInt = 43 := (by decide); have : (45 : Int32).toInt = 45 := (by decide); omega)
              have st_93 : zss σ_j7_15 (zadv σ_j7_15) := zsm.adv.ss
              have ss_93 : zss σ (zadv σ_j7_15) := ss_j7_15.trans st_93
              have cc_93 : zCc Γ F F_92 th (zTo Bt nt) σ (zadv σ_j7_15) (d.toInt) := (cc_j7_15.mv hfF_92 hth (by decide) (zTo_P Bt nt) zsm.adv.cs)
              generalize hσ_93 : zadv σ_j7_15 = σ_93 at c1_93 rc_93 st_93 ss_93 cc_93
              obtain ⟨⟨x_94, kx_94, nx_94⟩, ⟨x_95, kx_95, nx_95⟩, ox_94⟩ := id c1_93
              have gx_94 := zC1.nx c1_93 hLs_.1 kx_94
              have bx_94 : zB 0 600 x_94 := ⟨by omega, by have := hLs_.2.1; omega⟩
              have bx_95 := zB.all x_95
              have vx_94 := congrArg Int32.toInt (z_same kF_92 kx_94)
              have mo_93 := zss.nx st_93 ox_17 ox_94
              refine lv_aload_n hx hb dX7_readSum_61 rfl (lv_at hl 2 rfl) ?_
              refine lv_iload_n hx hb dX7_readSum_62 rfl (lv_at hl 3 rfl) ?_
              have p_96 := (p_22.fr hfF_92 htk (by decide))
              have fk_97 := (fk_j7_15.ss st_93)
              refine zk_Vv (As := [.int d]) (rest := []) (bytes := cX7_readTerm) (maxL := 3) (ret := none) Z h (ze_X7_readTerm l D k Γ L F_92 H.size th d pr tk co Bt nt Nt kc_j7_15 σ_93 fcv nv hth bd (hfF_92.f hth 3 ⟨by decide, by decide⟩ (hfF_16.f hth 3 ⟨by decide, by decide⟩ (hfF_7.f hth 3 ⟨by decide, by decide⟩ kpr))) hpr (hfF_92.f hth 4 ⟨by decide, by decide⟩ (hfF_16.f hth 4 ⟨by decide, by decide⟩ (hfF_7.f hth 4 ⟨by decide, by decide⟩ ktk))) htk (hfF_92.f hth 5 ⟨by decide, by decide⟩ (hfF_16.f hth 5 ⟨by decide, by decide⟩ (hfF_7.f hth 5 ⟨by decide, by decide⟩ kco))) hco p_96 (hfF_92.f hth 11 ⟨by decide, by decide⟩ hkc_j7_15) bkc_j7_15 c1_93 (zCc.m (cc_93.w (dep' := d.toInt) (by have := by2_j7_15_21.1; have := by2_j7_15_21.2; have := bd.1; have := bd.2; have := bkc_j7_15.1; have := bkc_j7_15.2; have := br_79_85.1; have := br_79_85.2; have := br_86.1; have := br_86.2; have := bfcv.1; have := bfcv.2; have := bsz_.1; have := bsz_.2; have := bx_94.1; have := bx_94.2; have := bx_95.1; have := bx_95.2; have := bcc.1; have := bcc.2; have : (1 : Int32).toInt = 1 := (by decide); have : (4 : Int32).toInt = 4 := (by decide); have : (43 : Int32).toInt = 43 := (by decide); have : (45 : Int32).toInt = 45 := (by decide); omega)) (hfF_92.f hth 11 ⟨by decide, by decide⟩ hkc_j7_15)) (hfF_92.f hpr 4 ⟨by decide, by decide⟩ (hfF_16.f hpr 4 ⟨by decide, by decide⟩ (hfF_7.f hpr 4 ⟨by decide, by decide⟩ kfcv))) bfcv fk_97 (by have := by2_j7_15_21.1; have := by2_j7_15_21.2; have := bd.1; have := bd.2; have := bkc_j7_15.1; have := bkc_j7_15.2; have := bfcv.1; have := bfcv.2; have := br_79_85.1; have := br_79_85.2; have := br_86.1; have := br_86.2; have := bsz_.1; have := bsz_.2; have := bx_94.1; have := bx_94.2; have := bx_95.1; have := bx_95.2; have := bcc.1; have := bcc.2; have : (1 : Int32).toInt = 1 := (by decide); have : (4 : Int32).toInt = 4 := (by decide); have : (43 : Int32).toInt = 43 := (by decide); have : (45 : Int32).toInt = 45 := (by decide); omega) hrec) (cwV 1 hg zv_RX7_179 rfl rfl rfl zd_X7_readTerm ⟨z_leR hRf (by have := by2_j7_15_21.1; have := by2_j7_15_21.2; have := bd.1; have := bd.2; have := br_79_85.1; have := br_79_85.2; have := br_86.1; have := br_86.2; have := bkc_j7_15.1; have := bkc_j7_15.2; have := bfcv.1; have := bfcv.2; have := bsz_.1; have := bsz_.2; have := bx_94.1; have := bx_94.2; have := bx_95.1; have := bx_95.2; have := bcc.1; have := bcc.2; have : (1 : Int32).toInt = 1 := (by decide); have : (4 : Int32).toInt = 4 := (by decide); have : (43 : Int32).toInt = 43 := (by decide); have : (45 : Int32).toInt = 45 := (by decide); dsimp only; omega), z_leR hRl (by have := by2_j7_15_21.1; have := by2_j7_15_21.2; have := bd.1; have := bd.2; have := br_79_85.1; have := br_79_85.2; have := br_86.1; have := br_86.2; have := bkc_j7_15.1; have := bkc_j7_15.2; have := bfcv.1; have := bfcv.2; have := bsz_.1; have := bsz_.2; have := bx_94.1; have := bx_94.2; have := bx_95.1; have := bx_95.2; have := bcc.1; have := bcc.2; have : (1 : Int32).toInt = 1 := (by decide); have : (4 : Int32).toInt = 4 := (by decide); have : (43 : Int32).toInt = 43 := (by decide); have : (45 : Int32).toInt = 45 := (by decide); dsimp only; omega)⟩) hth (by decide) rfl rfl hl.1 rfl (Nat.le_of_ble_eq_true rfl) dX7_readSum_63 ⟨Nat.zero_le _, Nat.zero_le _⟩ (fun F_98 H locs w_99 h hfF_98 => ?_)
              obtain ⟨⟨x_101, kx_101, bx_101, q_100⟩, ⟨σ_103, c1_103, rn_103, st_103, cn_103⟩, -⟩ := w_99
              have rc_103 : zRc (zTo Bt nt) σ [(13, d.toInt.toNat, 0, 0)] σ_103 [(14, d.toInt.toNat, 0, 0)] := zRc.calls rc_93 (rn_103.x (zSy_eq (by have := by2_j7_15_21.1; have := by2_j7_15_21.2; have := bd.1; have := bd.2; have := bkc_j7_15.1; have := bkc_j7_15.2; have := bfcv.1; have := bfcv.2; have := bx_101.1; have := bx_101.2; have := br_79_85.1; have := br_79_85.2; have := br_86.1; have := br_86.2; have := bsz_.1; have := bsz_.2; have := bcc.1; have := bcc.2; have : (1 : Int32).toInt = 1 := (by decide); have : (4 : Int32).toInt = 4 := (by decide); have : (43 : Int32).toInt = 43 := (by decide); have : (45 : Int32).toInt = 45 := (by decide); omega) (by have := by2_j7_15_21.1; have := by2_j7_15_21.2; have := bd.1; have := bd.2; have := bkc_j7_15.1; have := bkc_j7_15.2; have := bfcv.1; have := bfcv.2; have := bx_101.1; have := bx_101.2; have := br_79_85.1; have := br_79_85.2; have := br_86.1; have := br_86.2; have := bsz_.1; have := bsz_.2; have := bcc.1; have := bcc.2; have : (1 : Int32).toInt = 1 := (by decide); have : (4 : Int32).toInt = 4 := (by decide); have : (43 : Int32).toInt = 43 := (by decide); have : (45 : Int32).toInt = 45 := (by decide); omega) (by have := by2_j7_15_21.1; have := by2_j7_15_21.2; have := bd.1; have := bd.2; have := bkc_j7_15.1; have := bkc_j7_15.2; have := bfcv.1; have := bfcv.2; have := bx_101.1; have := bx_101.2; have := br_79_85.1; have := br_79_85.2; have := br_86.1; have := br_86.2; have := bsz_.1; have := bsz_.2; have := bcc.1; have := bcc.2; have : (1 : Int32).toInt = 1 := (by decide); have : (4 : Int32).toInt = 4 := (by decide); have : (43 : Int32).toInt = 43 := (by decide); have : (45 : Int32).toInt = 45 := (by decide); omega)))
              have ss_103 : zss σ σ_103 := ss_93.trans st_103
              have cc_103 : zCc Γ F F_98 th (zTo Bt nt) σ (σ_103) (d.toInt) := zCc.call cc_93 cn_103
              obtain ⟨⟨x_104, kx_104, nx_104⟩, ⟨x_105, kx_105, nx_105⟩, ox_104⟩ := id c1_103
              have gx_104 := zC1.nx c1_103 hLs_.1 kx_104
              have bx_104 : zB 0 600 x_104 := ⟨by omega, by have := hLs_.2.1; omega⟩
              have bx_105 := zB.all x_105
              have mo_103 := zss.nx st_103 ox_94 ox_104
              refine lv_aload_n hx hb dX7_readSum_66 rfl (lv_at hl 2 rfl) ?_
              refine zt_getk (t := 7) (C := RX7) (T := TX7) (N := 12) Z h hth zin_7 rfl 5 (hfF_98.f hth 5 ⟨by decide, by decide⟩ (hfF_92.f hth 5 ⟨by decide, by decide⟩ (hfF_16.f hth 5 ⟨by decide, by decide⟩ (hfF_7.f hth 5 ⟨by decide, by decide⟩ kco)))) ⟨by decide, rfl, by decide⟩ (zm_RX7 (List.mem_of_getElem? (i := 6) rfl)) (fun _ h9 => h9) dX7_readSum_67 ?_
              refine lv_iload_n hx hb dX7_readSum_70 rfl (lv_at hl 0 rfl) ?_
              refine lv_iconst (v := 0) hx hb dX7_readSum_71 (by decide) ?_
              refine lv_iconst (v := 0) hx hb dX7_readSum_72 (by decide) ?_
              refine zk_Vi (As := [.int 4, .int 0, .int 0]) (rest := []) (bytes := cX1_add) (maxL := 4) (ret := (some .int)) Z h (zc_X1_add l D k Γ L F_98 H.size co 4 0 0 hco) (cwV 3 hg zv_RX7_117 rfl rfl rfl zd_X1_add ⟨z_leR hRf (by have := by2_j7_15_21.1; have := by2_j7_15_21.2; have := bd.1; have := bd.2; have := br_79_85.1; have := br_79_85.2; have := br_86.1; have := br_86.2; have := bx_101.1; have := bx_101.2; have := bfcv.1; have := bfcv.2; have := bsz_.1; have := bsz_.2; have := bx_104.1; have := bx_104.2; have := bx_105.1; have := bx_105.2; have := bcc.1; have := bcc.2; have : (0 : Int32).toInt = 0 := (by decide); have : (1 : Int32).toInt = 1 := (by decide); have : (4 : Int32).toInt = 4 := (by decide); have : (43 : Int32).toInt = 43 := (by decide); have : (45 : Int32).toInt = 45 := (by decide); dsimp only; omega), z_leR hRl (by have := by2_j7_15_21.1; have := by2_j7_15_21.2; have := bd.1; have := bd.2; have := br_79_85.1; have := br_79_85.2; have := br_86.1; have := br_86.2; have := bx_101.1; have := bx_101.2; have := bfcv.1; have := bfcv.2; have := bsz_.1; have := bsz_.2; have := bx_104.1; have := bx_104.2; have := bx_105.1; have := bx_105.2; have := bcc.1; have := bcc.2; have : (0 : Int32).toInt = 0 := (by decide); have : (1 : Int32).toInt = 1 := (by decide); have : (4 : Int32).toInt = 4 := (by decide); have : (43 : Int32).toInt = 43 := (by decide); have : (45 : Int32).toInt = 45 := (by decide); dsimp only; omega)⟩) hco (by decide) rfl rfl hl.1 rfl (Nat.le_of_ble_eq_true rfl) dX7_readSum_73 ⟨Nat.zero_le _, Nat.zero_le _⟩ (fun r_106 F_107 H locs w_108 h hfF_107 => ?_)
              obtain ⟨br_106, -⟩ := w_108
              refine lv_pop hx hb dX7_readSum_76 rfl ?_
              obtain ⟨x_109, ex_109, bx_109, tx_109⟩ := z_inc (n := 1) (lo := 1) (hi := 601) by2_j7_15_21 (by decide)
              refine lv_iinc (v := x_109) (lv' := [(2, .int x_109), (3, .int 4), (0, .ref th), (1, .int d)]) hx hb dX7_readSum_77 hl (k := 1) rfl ex_109 (by decide) rfl (fun ls hl => ?_)
              refine lv_goto (tgt := 7) hx hb dX7_readSum_80 (by decide) ?_
              have c1_110 := (c1_103.fr hfF_107 hth (by decide))
              have cc_111 := (cc_103.fr hfF_107 hth (by decide) (zTo_P Bt nt))
              have fk_112 := (fk_97.ss st_103)
              exact ih_j7_15 _ (by have := bx_109.1; have := bx_109.2; have := bd.1; have := bd.2; have := bx_101.1; have := bx_101.2; have := br_79_85.1; have := br_79_85.2; have := br_86.1; have := br_86.2; have := bfcv.1; have := bfcv.2; have := bsz_.1; have := bsz_.2; have := bx_104.1; have := bx_104.2; have := bx_105.1; have := bx_105.2; have := bcc.1; have := bcc.2; have : (1 : Int32).toInt = 1 := (by decide); have : (4 : Int32).toInt = 4 := (by decide); have : (43 : Int32).toInt = 43 := (by decide); have : (45 : Int32).toInt = 45 := (by decide); have := by2_j7_15.1; have := by2_j7_15.2; omega) ls x_109 x_101 σ_103 F_107 H locs (lv_sub hl [0, 2, 3] rfl) (bx_109.w ⟨by decide, by decide⟩) h (((hfF_16.trans hfF_92 (by decide)).trans hfF_98 (by decide)).trans hfF_107 (by decide)) (hfF_107.f hth 11 ⟨by decide, by decide⟩ kx_101) bx_101 (by have := bx_109.1; have := bx_109.2; have := bd.1; have := bd.2; have := bx_101.1; have := bx_101.2; have := br_79_85.1; have := br_79_85.2; have := br_86.1; have := br_86.2; have := bfcv.1; have := bfcv.2; have := bsz_.1; have := bsz_.2; have := bx_104.1; have := bx_104.2; have := bx_105.1; have := bx_105.2; have := bcc.1; have := bcc.2; have : (1 : Int32).toInt = 1 := (by decide); have : (4 : Int32).toInt = 4 := (by decide); have : (43 : Int32).toInt = 43 := (by decide); have : (45 : Int32).toInt = 45 := (by decide); omega) c1_110 rc_103 ss_103 (cc_111.w (by have := bx_109.1; have := bx_109.2; have := bd.1; have := bd.2; have := bx_101.1; have := bx_101.2; have := br_79_85.1; have := br_79_85.2; have := br_86.1; have := br_86.2; have := bfcv.1; have := bfcv.2; have := bsz_.1; have := bsz_.2; have := bx_104.1; have := bx_104.2; have := bx_105.1; have := bx_105.2; have := bcc.1; have := bcc.2; have : (1 : Int32).toInt = 1 := (by decide); have : (4 : Int32).toInt = 4 := (by decide); have : (43 : Int32).toInt = 43 := (by decide); have : (45 : Int32).toInt = 45 := (by decide); omega)) fk_112 rfl
            · have c_90 := z_eq c_90
              have br_86_113 : zB 43 43 r_86 := zB.eqL (a := 0) (b := 0) c_90 (zBc 43 43 (by decide))
              refine lv_iconst (v := 3) hx hb dX7_readSum_45 (by decide) ?_
              refine lv_goto (tgt := 50) hx hb dX7_readSum_46 (by decide) ?_
              refine lv_istore_n (lv' := [(3, .int 3), (2, .int y2_j7_15), (0, .ref th), (1, .int d)]) hx hb dX7_readSum_50 rfl hl (by decide) rfl (fun ls hl => ?_)
              refine lv_aload_n hx hb dX7_readSum_51 rfl (lv_at hl 2 rfl) ?_
              refine lv_dup hx hb dX7_readSum_52 rfl ?_
              refine zt_getk (t := 7) (C := RX7) (T := TX7) (N := 12) Z h hth zin_7 rfl 6 kx_17 ⟨by decide, rfl, by decide⟩ (zm_RX7 (List.mem_of_getElem? (i := 9) rfl)) (fun _ h9 => h9) dX7_readSum_53 ?_
              refine lv_iconst (v := 1) hx hb dX7_readSum_56 (by decide) ?_
              refine lv_iadd hx hb dX7_readSum_57 ?_
              refine zi_add (lo := 1) (hi := 601) bx_17 (zBc 1 1 (by decide)) (by decide) (fun x_114 bx_114 tx_114 => ?_)
              refine zt_put (t := 7) (C := RX7) (T := TX7) (N := 12) (v := .int x_114) Z h hth zin_7 tyX7 tyX7_ok nmX7 rfl 6 rfl ⟨by decide, rfl⟩ (zm_RX7 (List.mem_of_getElem? (i := 9) rfl)) (fun _ h9 => h9) rfl (zV.i (bx_114.w ⟨by decide, by decide⟩)) rfl rfl dX7_readSum_58 (fun H locs F_115 h hfF_115 kF_115 => ?_)
              have c1_116 : zC1 F_115 th Nt (zadv σ_j7_15) := (zC1.adv (T := zTo Bt nt) c1_j7_15 hfF_115 hth (by decide) kx_17 kF_115 (by have := by2_j7_15_21.1; have := by2_j7_15_21.2; have := bd.1; have := bd.2; have := bx_17.1; have := bx_17.2; have := br_79_85.1; have := br_79_85.2; have := br_86_113.1; have := br_86_113.2; have := bkc_j7_15.1; have := bkc_j7_15.2; have := bfcv.1; have := bfcv.2; have := bsz_.1; have := bsz_.2; have := bx_114.1; have := bx_114.2; have := bx_18.1; have := bx_18.2; have := bcc.1; have := bcc.2; have : (1 : Int32).toInt = 1 := (by decide); have : (3 : Int32).toInt = 3 := (by decide); have : (43 : Int32).toInt = 43 := (by decide); have : (45 : Int32).toInt = 45 := (by decide); omega) hLs_ ⟨by have := by2_j7_15_21.1; have := by2_j7_15_21.2; have := bd.1; have := bd.2; have := bx_17.1; have := bx_17.2; have := br_79_85.1; have := br_79_85.2; have := br_86_113.1; have := br_86_113.2; have := bkc_j7_15.1; have := bkc_j7_15.2; have := bfcv.1; have := bfcv.2; have := bsz_.1; have := bsz_.2; have := bx_114.1; have := bx_114.2; have := bx_18.1; have := bx_18.2; have := bcc.1; have := bcc.2; have : (1 : Int32).toInt = 1 := (by decide); have : (3 : Int32).toInt = 3 := (by decide); have : (43 : Int32).toInt = 43 := (by decide); have : (45 : Int32).toInt = 45 := (by decide); omega, by have := by2_j7_15_21.1; have := by2_j7_15_21.2; have := bd.1; have := bd.2; have := bx_17.1; have := bx_17.2; have := br_79_85.1; have := br_79_85.2; have := br_86_113.1; have := br_86_113.2; have := bkc_j7_15.1; have := bkc_j7_15.2; have := bfcv.1; have := bfcv.2; have := bsz_.1; have := bsz_.2; have := bx_114.1; have := bx_114.2; have := bx_18.1; have := bx_18.2; have := bcc.1; have := bcc.2; have : (1 : Int32).toInt = 1 := (by decide); have : (3 : Int32).toInt = 3 := (by decide); have : (43 : Int32).toInt = 43 := (by decide); have : (45 : Int32).toInt = 45 := (by decide); omega⟩)
              have rc_116 : zRc (zTo Bt nt) σ [(13, d.toInt.toNat, 0, 0)] (zadv σ_j7_15) [(15, d.toInt.toNat, 0, 0), (14, d.toInt.toNat, 0, 0)] := zRc.sumT1 (N := Nt) rc_j7_15 (by have := by2_j7_15_21.1; have := by2_j7_15_21.2; have := bd.1; have := bd.2; have := br_79_85.1; have := br_79_85.2; have := br_86_113.1; have := br_86_113.2; have := bkc_j7_15.1; have := bkc_j7_15.2; have := bfcv.1; have := bfcv.2; have := bsz_.1; have := bsz_.2; have := bx_114.1; have := bx_114.2; have := bx_18.1; have := bx_18.2; have := bcc.1; have := bcc.2; have : (1 : Int32).toInt = 1 := (by decide); have : (3 : Int32).toInt = 3 := (by decide); have : (43 : Int32).toInt = 43 := (by decide); have : (45 : Int32).toInt = 45 := (by decide); omega)
              have st_116 : zss σ_j7_15 (zadv σ_j7_15) := zsm.adv.ss
              have ss_116 : zss σ (zadv σ_j7_15) := ss_j7_15.trans st_116
              have cc_116 : zCc Γ F F_115 th (zTo Bt nt) σ (zadv σ_j7_15) (d.toInt) := (cc_j7_15.mv hfF_115 hth (by decide) (zTo_P Bt nt) zsm.adv.cs)
              generalize hσ_116 : zadv σ_j7_15 = σ_116 at c1_116 rc_116 st_116 ss_116 cc_116
              obtain ⟨⟨x_117, kx_117, nx_117⟩, ⟨x_118, kx_118, nx_118⟩, ox_117⟩ := id c1_116
              have gx_117 := zC1.nx c1_116 hLs_.1 kx_117
              have bx_117 : zB 0 600 x_117 := ⟨by omega, by have := hLs_.2.1; omega⟩
              have bx_118 := zB.all x_118
              have vx_117 := congrArg Int32.toInt (z_same kF_115 kx_117)
              have mo_116 := zss.nx st_116 ox_17 ox_117
              refine lv_aload_n hx hb dX7_readSum_61 rfl (lv_at hl 2 rfl) ?_
              refine lv_iload_n hx hb dX7_readSum_62 rfl (lv_at hl 3 rfl) ?_
              have p_119 := (p_22.fr hfF_115 htk (by decide))
              have fk_120 := (fk_j7_15.ss st_116)
              refine zk_Vv (As := [.int d]) (rest := []) (bytes := cX7_readTerm) (maxL := 3) (ret := none) Z h (ze_X7_readTerm l D k Γ L F_115 H.size th d pr tk co Bt nt Nt kc_j7_15 σ_116 fcv nv hth bd (hfF_115.f hth 3 ⟨by decide, by decide⟩ (hfF_16.f hth 3 ⟨by decide, by decide⟩ (hfF_7.f hth 3 ⟨by decide, by decide⟩ kpr))) hpr (hfF_115.f hth 4 ⟨by decide, by decide⟩ (hfF_16.f hth 4 ⟨by decide, by decide⟩ (hfF_7.f hth 4 ⟨by decide, by decide⟩ ktk))) htk (hfF_115.f hth 5 ⟨by decide, by decide⟩ (hfF_16.f hth 5 ⟨by decide, by decide⟩ (hfF_7.f hth 5 ⟨by decide, by decide⟩ kco))) hco p_119 (hfF_115.f hth 11 ⟨by decide, by decide⟩ hkc_j7_15) bkc_j7_15 c1_116 (zCc.m (cc_116.w (dep' := d.toInt) (by have := by2_j7_15_21.1; have := by2_j7_15_21.2; have := bd.1; have := bd.2; have := bkc_j7_15.1; have := bkc_j7_15.2; have := br_79_85.1; have := br_79_85.2; have := br_86_113.1; have := br_86_113.2; have := bfcv.1; have := bfcv.2; have := bsz_.1; have := bsz_.2; have := bx_117.1; have := bx_117.2; have := bx_118.1; have := bx_118.2; have := bcc.1; have := bcc.2; have : (1 : Int32).toInt = 1 := (by decide); have : (3 : Int32).toInt = 3 := (by decide); have : (43 : Int32).toInt = 43 := (by decide); have : (45 : Int32).toInt = 45 := (by decide); omega)) (hfF_115.f hth 11 ⟨by decide, by decide⟩ hkc_j7_15)) (hfF_115.f hpr 4 ⟨by decide, by decide⟩ (hfF_16.f hpr 4 ⟨by decide, by decide⟩ (hfF_7.f hpr 4 ⟨by decide, by decide⟩ kfcv))) bfcv fk_120 (by have := by2_j7_15_21.1; have := by2_j7_15_21.2; have := bd.1; have := bd.2; have := bkc_j7_15.1; have := bkc_j7_15.2; have := bfcv.1; have := bfcv.2; have := br_79_85.1; have := br_79_85.2; have := br_86_113.1; have := br_86_113.2; have := bsz_.1; have := bsz_.2; have := bx_117.1; have := bx_117.2; have := bx_118.1; have := bx_118.2; have := bcc.1; have := bcc.2; have : (1 : Int32).toInt = 1 := (by decide); have : (3 : Int32).toInt = 3 := (by decide); have : (43 : Int32).toInt = 43 := (by decide); have : (45 : Int32).toInt = 45 := (by decide); omega) hrec) (cwV 1 hg zv_RX7_179 rfl rfl rfl zd_X7_readTerm ⟨z_leR hRf (by have := by2_j7_15_21.1; have := by2_j7_15_21.2; have := bd.1; have := bd.2; have := br_79_85.1; have := br_79_85.2; have := br_86_113.1; have := br_86_113.2; have := bkc_j7_15.1; have := bkc_j7_15.2; have := bfcv.1; have := bfcv.2; have := bsz_.1; have := bsz_.2; have := bx_117.1; have := bx_117.2; have := bx_118.1; have := bx_118.2; have := bcc.1; have := bcc.2; have : (1 : Int32).toInt = 1 := (by decide); have : (3 : Int32).toInt = 3 := (by decide); have : (43 : Int32).toInt = 43 := (by decide); have : (45 : Int32).toInt = 45 := (by decide); dsimp only; omega), z_leR hRl (by have := by2_j7_15_21.1; have := by2_j7_15_21.2; have := bd.1; have := bd.2; have := br_79_85.1; have := br_79_85.2; have := br_86_113.1; have := br_86_113.2; have := bkc_j7_15.1; have := bkc_j7_15.2; have := bfcv.1; have := bfcv.2; have := bsz_.1; have := bsz_.2; have := bx_117.1; have := bx_117.2; have := bx_118.1; have := bx_118.2; have := bcc.1; have := bcc.2; have : (1 : Int32).toInt = 1 := (by decide); have : (3 : Int32).toInt = 3 := (by decide); have : (43 : Int32).toInt = 43 := (by decide); have : (45 : Int32).toInt = 45 := (by decide); dsimp only; omega)⟩) hth (by decide) rfl rfl hl.1 rfl (Nat.le_of_ble_eq_true rfl) dX7_readSum_63 ⟨Nat.zero_le _, Nat.zero_le _⟩ (fun F_121 H locs w_122 h hfF_121 => ?_)
              obtain ⟨⟨x_124, kx_124, bx_124, q_123⟩, ⟨σ_126, c1_126, rn_126, st_126, cn_126⟩, -⟩ := w_122
              have rc_126 : zRc (zTo Bt nt) σ [(13, d.toInt.toNat, 0, 0)] σ_126 [(14, d.toInt.toNat, 0, 0)] := zRc.calls rc_116 (rn_126.x (zSy_eq (by have := by2_j7_15_21.1; have := by2_j7_15_21.2; have := bd.1; have := bd.2; have := bkc_j7_15.1; have := bkc_j7_15.2; have := bfcv.1; have := bfcv.2; have := bx_124.1; have := bx_124.2; have := br_79_85.1; have := br_79_85.2; have := br_86_113.1; have := br_86_113.2; have := bsz_.1; have := bsz_.2; have := bcc.1; have := bcc.2; have : (1 : Int32).toInt = 1 := (by decide); have : (3 : Int32).toInt = 3 := (by decide); have : (43 : Int32).toInt = 43 := (by decide); have : (45 : Int32).toInt = 45 := (by decide); omega) (by have := by2_j7_15_21.1; have := by2_j7_15_21.2; have := bd.1; have := bd.2; have := bkc_j7_15.1; have := bkc_j7_15.2; have := bfcv.1; have := bfcv.2; have := bx_124.1; have := bx_124.2; have := br_79_85.1; have := br_79_85.2; have := br_86_113.1; have := br_86_113.2; have := bsz_.1; have := bsz_.2; have := bcc.1; have := bcc.2; have : (1 : Int32).toInt = 1 := (by decide); have : (3 : Int32).toInt = 3 := (by decide); have : (43 : Int32).toInt = 43 := (by decide); have : (45 : Int32).toInt = 45 := (by decide); omega) (by have := by2_j7_15_21.1; have := by2_j7_15_21.2; have := bd.1; have := bd.2; have := bkc_j7_15.1; have := bkc_j7_15.2; have := bfcv.1; have := bfcv.2; have := bx_124.1; have := bx_124.2; have := br_79_85.1; have := br_79_85.2; have := br_86_113.1; have := br_86_113.2; have := bsz_.1; have := bsz_.2; have := bcc.1; have := bcc.2; have : (1 : Int32).toInt = 1 := (by decide); have : (3 : Int32).toInt = 3 := (by decide); have : (43 : Int32).toInt = 43 := (by decide); have : (45 : Int32).toInt = 45 := (by decide); omega)))
              have ss_126 : zss σ σ_126 := ss_116.trans st_126
              have cc_126 : zCc Γ F F_121 th (zTo Bt nt) σ (σ_126) (d.toInt) := zCc.call cc_116 cn_126
              obtain ⟨⟨x_127, kx_127, nx_127⟩, ⟨x_128, kx_128, nx_128⟩, ox_127⟩ := id c1_126
              have gx_127 := zC1.nx c1_126 hLs_.1 kx_127
              have bx_127 : zB 0 600 x_127 := ⟨by omega, by have := hLs_.2.1; omega⟩
              have bx_128 := zB.all x_128
              have mo_126 := zss.nx st_126 ox_117 ox_127
              refine lv_aload_n hx hb dX7_readSum_66 rfl (lv_at hl 2 rfl) ?_
              refine zt_getk (t := 7) (C := RX7) (T := TX7) (N := 12) Z h hth zin_7 rfl 5 (hfF_121.f hth 5 ⟨by decide, by decide⟩ (hfF_115.f hth 5 ⟨by decide, by decide⟩ (hfF_16.f hth 5 ⟨by decide, by decide⟩ (hfF_7.f hth 5 ⟨by decide, by decide⟩ kco)))) ⟨by decide, rfl, by decide⟩ (zm_RX7 (List.mem_of_getElem? (i := 6) rfl)) (fun _ h9 => h9) dX7_readSum_67 ?_
              refine lv_iload_n hx hb dX7_readSum_70 rfl (lv_at hl 0 rfl) ?_
              refine lv_iconst (v := 0) hx hb dX7_readSum_71 (by decide) ?_
              refine lv_iconst (v := 0) hx hb dX7_readSum_72 (by decide) ?_
              refine zk_Vi (As := [.int 3, .int 0, .int 0]) (rest := []) (bytes := cX1_add) (maxL := 4) (ret := (some .int)) Z h (zc_X1_add l D k Γ L F_121 H.size co 3 0 0 hco) (cwV 3 hg zv_RX7_117 rfl rfl rfl zd_X1_add ⟨z_leR hRf (by have := by2_j7_15_21.1; have := by2_j7_15_21.2; have := bd.1; have := bd.2; have := br_79_85.1; have := br_79_85.2; have := br_86_113.1; have := br_86_113.2; have := bx_124.1; have := bx_124.2; have := bfcv.1; have := bfcv.2; have := bsz_.1; have := bsz_.2; have := bx_127.1; have := bx_127.2; have := bx_128.1; have := bx_128.2; have := bcc.1; have := bcc.2; have : (0 : Int32).toInt = 0 := (by decide); have : (1 : Int32).toInt = 1 := (by decide); have : (3 : Int32).toInt = 3 := (by decide); have : (43 : Int32).toInt = 43 := (by decide); have : (45 : Int32).toInt = 45 := (by decide); dsimp only; omega), z_leR hRl (by have := by2_j7_15_21.1; have := by2_j7_15_21.2; have := bd.1; have := bd.2; have := br_79_85.1; have := br_79_85.2; have := br_86_113.1; have := br_86_113.2; have := bx_124.1; have := bx_124.2; have := bfcv.1; have := bfcv.2; have := bsz_.1; have := bsz_.2; have := bx_127.1; have := bx_127.2; have := bx_128.1; have := bx_128.2; have := bcc.1; have := bcc.2; have : (0 : Int32).toInt = 0 := (by decide); have : (1 : Int32).toInt = 1 := (by decide); have : (3 : Int32).toInt = 3 := (by decide); have : (43 : Int32).toInt = 43 := (by decide); have : (45 : Int32).toInt = 45 := (by decide); dsimp only; omega)⟩) hco (by decide) rfl rfl hl.1 rfl (Nat.le_of_ble_eq_true rfl) dX7_readSum_73 ⟨Nat.zero_le _, Nat.zero_le _⟩ (fun r_129 F_130 H locs w_131 h hfF_130 => ?_)
              obtain ⟨br_129, -⟩ := w_131
              refine lv_pop hx hb dX7_readSum_76 rfl ?_
              obtain ⟨x_132, ex_132, bx_132, tx_132⟩ := z_inc (n := 1) (lo := 1) (hi := 601) by2_j7_15_21 (by decide)
              refine lv_iinc (v := x_132) (lv' := [(2, .int x_132), (3, .int 3), (0, .ref th), (1, .int d)]) hx hb dX7_readSum_77 hl (k := 1) rfl ex_132 (by decide) rfl (fun ls hl => ?_)
              refine lv_goto (tgt := 7) hx hb dX7_readSum_80 (by decide) ?_
              have c1_133 := (c1_126.fr hfF_130 hth (by decide))
              have cc_134 := (cc_126.fr hfF_130 hth (by decide) (zTo_P Bt nt))
              have fk_135 := (fk_120.ss st_126)
              exact ih_j7_15 _ (by have := bx_132.1; have := bx_132.2; have := bd.1; have := bd.2; have := bx_124.1; have := bx_124.2; have := br_79_85.1; have := br_79_85.2; have := br_86_113.1; have := br_86_113.2; have := bfcv.1; have := bfcv.2; have := bsz_.1; have := bsz_.2; have := bx_127.1; have := bx_127.2; have := bx_128.1; have := bx_128.2; have := bcc.1; have := bcc.2; have : (1 : Int32).toInt = 1 := (by decide); have : (3 : Int32).toInt = 3 := (by decide); have : (43 : Int32).toInt = 43 := (by decide); have : (45 : Int32).toInt = 45 := (by decide); have := by2_j7_15.1; have := by2_j7_15.2; omega) ls x_132 x_124 σ_126 F_130 H locs (lv_sub hl [0, 2, 3] rfl) (bx_132.w ⟨by decide, by decide⟩) h (((hfF_16.trans hfF_115 (by decide)).trans hfF_121 (by decide)).trans hfF_130 (by decide)) (hfF_130.f hth 11 ⟨by decide, by decide⟩ kx_124) bx_124 (by have := bx_132.1; have := bx_132.2; have := bd.1; have := bd.2; have := bx_124.1; have := bx_124.2; have := br_79_85.1; have := br_79_85.2; have := br_86_113.1; have := br_86_113.2; have := bfcv.1; have := bfcv.2; have := bsz_.1; have := bsz_.2; have := bx_127.1; have := bx_127.2; have := bx_128.1; have := bx_128.2; have := bcc.1; have := bcc.2; have : (1 : Int32).toInt = 1 := (by decide); have : (3 : Int32).toInt = 3 := (by decide); have : (43 : Int32).toInt = 43 := (by decide); have : (45 : Int32).toInt = 45 := (by decide); omega) c1_133 rc_126 ss_126 (cc_134.w (by have := bx_132.1; have := bx_132.2; have := bd.1; have := bd.2; have := bx_124.1; have := bx_124.2; have := br_79_85.1; have := br_79_85.2; have := br_86_113.1; have := br_86_113.2; have := bfcv.1; have := bfcv.2; have := bsz_.1; have := bsz_.2; have := bx_127.1; have := bx_127.2; have := bx_128.1; have := bx_128.2; have := bcc.1; have := bcc.2; have : (1 : Int32).toInt = 1 := (by decide); have : (3 : Int32).toInt = 3 := (by decide); have : (43 : Int32).toInt = 43 := (by decide); have : (45 : Int32).toInt = 45 := (by decide); omega)) fk_135 rfl
  have fk_136 := (p_fk.ss st_12)
  exact j_j7_15 _ ls 0 x_10 σ_12 F_7 H locs (lv_sub hl [0, 1, 2] rfl) (zB.of ⟨by decide, by decide⟩) h zFr.rf kx_10 bx_10 (by have := bd.1; have := bd.2; have := bx_10.1; have := bx_10.2; have := bfcv.1; have := bfcv.2; have := bsz_.1; have := bsz_.2; have := bx_13.1; have := bx_13.2; have := bx_14.1; have := bx_14.2; have := bcc.1; have := bcc.2; have : (0 : Int32).toInt = 0 := (by decide); omega) c1_12 rc_12 ss_12 (cc_12.w (by have := bd.1; have := bd.2; have := bx_10.1; have := bx_10.2; have := bfcv.1; have := bfcv.2; have := bsz_.1; have := bsz_.2; have := bx_13.1; have := bx_13.2; have := bx_14.1; have := bx_14.2; have := bcc.1; have := bcc.2; have : (0 : Int32).toInt = 0 := (by decide); omega)) fk_136 rfl

theorem zs_sum (l : Launch) : ∀ nv : Nat, zR_sum l nv := by
  intro nv
  induction nv with
  | zero => exact fun D k Γ L F sz th d pr tk co Bt nt Nt cc σ fcv hth bd kpr hpr ktk htk kco hco p_tb kcc bcc p_au hm_ kfcv bfcv p_fk hr0 => ze_X7_readSum l D k Γ L F sz th d pr tk co Bt nt Nt cc σ fcv 0 hth bd kpr hpr ktk htk kco hco p_tb kcc bcc p_au hm_ kfcv bfcv p_fk hr0 (fun q h9 => by omega)
  | succ nv ih => exact fun D k Γ L F sz th d pr tk co Bt nt Nt cc σ fcv hth bd kpr hpr ktk htk kco hco p_tb kcc bcc p_au hm_ kfcv bfcv p_fk hr0 => ze_X7_readSum l D k Γ L F sz th d pr tk co Bt nt Nt cc σ fcv (nv + 1) hth bd kpr hpr ktk htk kco hco p_tb kcc bcc p_au hm_ kfcv bfcv p_fk hr0 (fun q h9 => by cases (show nv = q by omega); exact ih)

set_option maxHeartbeats 4000000 in
set_option maxRecDepth 100000 in
theorem ze_X7_readTest (l : Launch) (D : va_G) (k : Nat → ClassId) (Γ : Nat → Option Nat) (L : List Nat) (F : Nat → va_E) (sz : Nat) (th : Nat) (pr : Nat) (tk : Nat) (co : Nat) (Bt : Nat → Int32) (nt : Nat) (Nt : Nat) (cc : Int32) (σ : zSg) (fcv : Int32) (hth : Γ th = some 7) (kpr : zfld F th 3 = .ref pr) (hpr : Γ pr = some 6) (ktk : zfld F th 4 = .ref tk) (htk : Γ tk = some 8) (kco : zfld F th 5 = .ref co) (hco : Γ co = some 1) (p_tb : zTb Γ F tk Bt nt Nt) (kcc : zfld F th 11 = .int cc) (bcc : zB 0 150 cc) (p_au : zC1 F th Nt (σ)) (hm_ : ∀ i d9, σ = .inl (i, d9) → 4 * cc.toInt + 5 ≤ zpo Bt nt i + (0)) (kfcv : zfld F pr 4 = .int fcv) (bfcv : zB 0 10 fcv) (p_fk : zFk fcv σ) : Met l yX7_readTest zwX7_readTest ({ frames := 70, cells := 0, slots := 0, locals := 2723 }) (va_Pc [.ref th] (zP D k Γ L F sz)) (va_Qv (fun (u : Nat → va_E) => (∃ (c9 : Int32), zfld u th 11 = .int c9 ∧ zB 0 150 c9 ∧ (0 ≤ c9.toInt)) ∧ (∃ σ9 : zSg, zC1 u th Nt σ9 ∧ zRc (zTo Bt nt) σ [(11, 0, 0, 0)] σ9 [] ∧ zss σ σ9 ∧ zCc Γ F u th (zTo Bt nt) σ σ9 (0)) ∧ True) (zQ D k Γ L F [103, 701, 702, 706, 711, 10200, 10600, 10700, 15800, 15900, 16000, 16100]) (zA L sz)) 0 0 (zA L sz) := by
  refine Met.ofW (cc := cX7_readTest) (maxL := 2) (ret := none) (by decide) rfl ?_
  intro p e s m args below meth c s₁ B hml hv
  obtain ⟨rfl, hsz, hP, hK, hLn, hE, hI⟩ := hv
  have hx := B.exec
  have hb := B.bytes
  have hr := B.returns
  have hg : ∀ w ∈ zG, w.before _ s = true := fun w h9 => atoms_spec (ws := zwX7_readTest) B.pre w (List.mem_cons_of_mem _ h9)
  have hown : s.vm.findClass RX7 = some m.cls := findClass_of_methodNamed B.named
  have hlocks := B.notSynchronized
  subst hsz
  have Z : zC p m c cX7_readTest 2 s _ zG RX7 D k L := ⟨⟨hx, hb, hml, hown, hg⟩, hK, hLn, hE⟩
  have h : zH D k Γ L s F s.heap [] := ⟨hP, hI, va_S.rf⟩
  have hl := lv_entry ([.ref th]) (n := 2) (Nat.le_of_ble_eq_true rfl)
  rw [lg_entry_eq]
  generalize (lg_sl ([.ref th]) ++ List.replicate (2 - (lg_sl ([.ref th])).length) Slot.unset).toArray = ls at hl ⊢
  have hl : lv_has ls 2 [(0, .ref th)] := hl
  clear hP hK hLn hE hI
  generalize hargs : ([.ref th] : List Value).toArray = args at *
  refine z_start (fun R Q hRf hRl hQ => ?_)
  have hRf : R.frames = 70 := hRf
  have hRl : R.locals = 2723 := hRl
  have h9 := h
  have hLs_ := p_tb.2.2.2.1
  obtain ⟨sz_, ksz_, tsz_⟩ := p_tb.2.2.1
  have bsz_ : zB 1 601 sz_ := ⟨by have := hLs_.1; omega, by have := hLs_.2.1; omega⟩
  obtain ⟨⟨x_1, kx_1, nx_1⟩, ⟨x_2, kx_2, nx_2⟩, ox_1⟩ := id p_au
  have gx_1 := zC1.nx p_au hLs_.1 kx_1
  have bx_1 : zB 0 600 x_1 := ⟨by omega, by have := hLs_.2.1; omega⟩
  have bx_2 := zB.all x_2
  have ad_3 := z_ad (j := 7) (c := 106) h.2.1 hth (by decide) rfl
  have ad_4 := z_ad (j := 8) (c := 107) h.2.1 hth (by decide) rfl
  have ad_5 := z_ad (j := 10) (c := 161) h.2.1 hth (by decide) rfl
  have cc0_ : zCc Γ F F th (zTo Bt nt) σ σ (0) := zCc.rf kcc bcc.1 ⟨ad_3, ad_4, ad_5⟩ hm_
  have rc0_ : zRc (zTo Bt nt) σ [(11, 0, 0, 0)] σ [(11, 0, 0, 0)] := zRc.rf
  have ss0_ : zss σ σ := zss.rf
  have rc_6 : zRc (zTo Bt nt) σ [(11, 0, 0, 0)] σ [(13, 0, 0, 0), (12, 0, 0, 0), (13, 0, 0, 0)] := zRc.test rc0_
  refine lv_aload_n hx hb dX7_readTest_0 rfl (lv_at hl 0 rfl) ?_
  refine lv_iconst (v := 0) hx hb dX7_readTest_1 (by decide) ?_
  refine zk_Vv (As := [.int 0]) (rest := []) (bytes := cX7_readSum) (maxL := 4) (ret := none) Z h (zs_sum l 6 D k Γ L F s.heap.size th 0 pr tk co Bt nt Nt cc σ fcv  hth (zB.of ⟨by decide, by decide⟩) kpr hpr ktk htk kco hco p_tb kcc bcc p_au (zCc.m (cc0_.w (dep' := (0 : Int32).toInt) (by have := bcc.1; have := bcc.2; have := bfcv.1; have := bfcv.2; have := bsz_.1; have := bsz_.2; have := bx_1.1; have := bx_1.2; have := bx_2.1; have := bx_2.2; have : (0 : Int32).toInt = 0 := (by decide); omega)) kcc) kfcv bfcv p_fk (by have := bcc.1; have := bcc.2; have := bfcv.1; have := bfcv.2; have := bsz_.1; have := bsz_.2; have := bx_1.1; have := bx_1.2; have := bx_2.1; have := bx_2.2; have : (0 : Int32).toInt = 0 := (by decide); omega)) (cwV 1 hg zv_RX7_161 rfl rfl rfl zd_X7_readSum ⟨z_leR hRf (by decide), z_leR hRl (by decide)⟩) hth (by decide) rfl rfl hl.1 rfl (Nat.le_of_ble_eq_true rfl) dX7_readTest_2 ⟨Nat.zero_le _, Nat.zero_le _⟩ (fun F_7 H locs w_8 h hfF_7 => ?_)
  obtain ⟨⟨x_10, kx_10, bx_10, q_9⟩, ⟨σ_12, c1_12, rn_12, st_12, cn_12⟩, -⟩ := w_8
  have rc_12 : zRc (zTo Bt nt) σ [(11, 0, 0, 0)] σ_12 [(12, 0, 0, 0), (13, 0, 0, 0)] := zRc.calls rc_6 (rn_12.x (zSy_eq (by have := bcc.1; have := bcc.2; have := bfcv.1; have := bfcv.2; have := bx_10.1; have := bx_10.2; have := bsz_.1; have := bsz_.2; have : (0 : Int32).toInt = 0 := (by decide); omega) (by have := bcc.1; have := bcc.2; have := bfcv.1; have := bfcv.2; have := bx_10.1; have := bx_10.2; have := bsz_.1; have := bsz_.2; have : (0 : Int32).toInt = 0 := (by decide); omega) (by have := bcc.1; have := bcc.2; have := bfcv.1; have := bfcv.2; have := bx_10.1; have := bx_10.2; have := bsz_.1; have := bsz_.2; have : (0 : Int32).toInt = 0 := (by decide); omega)))
  have ss_12 : zss σ σ_12 := ss0_.trans st_12
  have cc_12 : zCc Γ F F_7 th (zTo Bt nt) σ (σ_12) ((0 : Int32).toInt) := zCc.call cc0_ cn_12
  obtain ⟨⟨x_13, kx_13, nx_13⟩, ⟨x_14, kx_14, nx_14⟩, ox_13⟩ := id c1_12
  have gx_13 := zC1.nx c1_12 hLs_.1 kx_13
  have bx_13 : zB 0 600 x_13 := ⟨by omega, by have := hLs_.2.1; omega⟩
  have bx_14 := zB.all x_14
  have mo_12 := zss.nx st_12 ox_1 ox_13
  refine lv_aload_n hx hb dX7_readTest_5 rfl (lv_at hl 0 rfl) ?_
  have p_15 := (p_tb.fr hfF_7 htk (by decide))
  refine zk_Vi (As := []) (rest := []) (bytes := cX7_kind) (maxL := 2) (ret := (some .int)) Z h (ze_X7_kind l D k Γ L F_7 H.size th tk Bt nt Nt σ_12 hth (hfF_7.f hth 4 ⟨by decide, by decide⟩ ktk) htk p_15 c1_12) (cwV 0 hg zv_RX7_65 rfl rfl rfl zd_X7_kind ⟨z_leR hRf (by decide), z_leR hRl (by decide)⟩) hth (by decide) rfl rfl hl.1 rfl (Nat.le_of_ble_eq_true rfl) dX7_readTest_6 ⟨Nat.zero_le _, Nat.zero_le _⟩ (fun r_16 F_17 H locs w_18 h hfF_17 => ?_)
  obtain ⟨rfl, q_19, -⟩ := w_18
  have br_16 := zB.all r_16
  refine lv_istore_n (lv' := [(1, .int r_16), (0, .ref th)]) hx hb dX7_readTest_9 rfl hl (by decide) rfl (fun ls hl => ?_)
  refine lv_iload_n hx hb dX7_readTest_10 rfl (lv_at hl 0 rfl) ?_
  refine lv_bipush (v := 60) hx hb dX7_readTest_11 (by decide) ?_
  refine lv_icmp_eq (tgt := 34) hx hb dX7_readTest_13 (by decide) (fun c_20 => ?_) (fun c_20 => ?_)
  · have c_20 := z_eq c_20
    have br_16_21 : zB 60 60 r_16 := zB.eqL (a := 0) (b := 0) c_20 (zBc 60 60 (by decide))
    refine lv_aload_n hx hb dX7_readTest_34 rfl (lv_at hl 1 rfl) ?_
    refine lv_dup hx hb dX7_readTest_35 rfl ?_
    refine zt_getk (t := 7) (C := RX7) (T := TX7) (N := 12) Z h hth zin_7 rfl 6 kx_13 ⟨by decide, rfl, by decide⟩ (zm_RX7 (List.mem_of_getElem? (i := 9) rfl)) (fun _ h9 => h9) dX7_readTest_36 ?_
    refine lv_iconst (v := 1) hx hb dX7_readTest_39 (by decide) ?_
    refine lv_iadd hx hb dX7_readTest_40 ?_
    refine zi_add (lo := 1) (hi := 601) bx_13 (zBc 1 1 (by decide)) (by decide) (fun x_22 bx_22 tx_22 => ?_)
    refine zt_put (t := 7) (C := RX7) (T := TX7) (N := 12) (v := .int x_22) Z h hth zin_7 tyX7 tyX7_ok nmX7 rfl 6 rfl ⟨by decide, rfl⟩ (zm_RX7 (List.mem_of_getElem? (i := 9) rfl)) (fun _ h9 => h9) rfl (zV.i (bx_22.w ⟨by decide, by decide⟩)) rfl rfl dX7_readTest_41 (fun H locs F_23 h hfF_23 kF_23 => ?_)
    have c1_24 : zC1 F_23 th Nt (zadv σ_12) := (zC1.adv (T := zTo Bt nt) c1_12 hfF_23 hth (by decide) kx_13 kF_23 (by have := br_16_21.1; have := br_16_21.2; have := bx_13.1; have := bx_13.2; have := bx_10.1; have := bx_10.2; have := bfcv.1; have := bfcv.2; have := bsz_.1; have := bsz_.2; have := bx_22.1; have := bx_22.2; have := bx_14.1; have := bx_14.2; have := bcc.1; have := bcc.2; have : (0 : Int32).toInt = 0 := (by decide); have : (1 : Int32).toInt = 1 := (by decide); have : (60 : Int32).toInt = 60 := (by decide); omega) hLs_ ⟨by have := br_16_21.1; have := br_16_21.2; have := bx_13.1; have := bx_13.2; have := bx_10.1; have := bx_10.2; have := bfcv.1; have := bfcv.2; have := bsz_.1; have := bsz_.2; have := bx_22.1; have := bx_22.2; have := bx_14.1; have := bx_14.2; have := bcc.1; have := bcc.2; have : (0 : Int32).toInt = 0 := (by decide); have : (1 : Int32).toInt = 1 := (by decide); have : (60 : Int32).toInt = 60 := (by decide); omega, by have := br_16_21.1; have := br_16_21.2; have := bx_13.1; have := bx_13.2; have := bx_10.1; have := bx_10.2; have := bfcv.1; have := bfcv.2; have := bsz_.1; have := bsz_.2; have := bx_22.1; have := bx_22.2; have := bx_14.1; have := bx_14.2; have := bcc.1; have := bcc.2; have : (0 : Int32).toInt = 0 := (by decide); have : (1 : Int32).toInt = 1 := (by decide); have : (60 : Int32).toInt = 60 := (by decide); omega⟩)
    have rc_24 : zRc (zTo Bt nt) σ [(11, 0, 0, 0)] (zadv σ_12) [(13, 0, 0, 0)] := zRc.sign1 (N := Nt) rc_12 (by have := br_16_21.1; have := br_16_21.2; have := bx_10.1; have := bx_10.2; have := bfcv.1; have := bfcv.2; have := bsz_.1; have := bsz_.2; have := bx_22.1; have := bx_22.2; have := bx_14.1; have := bx_14.2; have := bcc.1; have := bcc.2; have : (0 : Int32).toInt = 0 := (by decide); have : (1 : Int32).toInt = 1 := (by decide); have : (60 : Int32).toInt = 60 := (by decide); omega)
    have st_24 : zss σ_12 (zadv σ_12) := zsm.adv.ss
    have ss_24 : zss σ (zadv σ_12) := ss_12.trans st_24
    have cc_24 : zCc Γ F F_23 th (zTo Bt nt) σ (zadv σ_12) ((0 : Int32).toInt) := (cc_12.mv hfF_23 hth (by decide) (zTo_P Bt nt) zsm.adv.cs)
    generalize hσ_24 : zadv σ_12 = σ_24 at c1_24 rc_24 st_24 ss_24 cc_24
    obtain ⟨⟨x_25, kx_25, nx_25⟩, ⟨x_26, kx_26, nx_26⟩, ox_25⟩ := id c1_24
    have gx_25 := zC1.nx c1_24 hLs_.1 kx_25
    have bx_25 : zB 0 600 x_25 := ⟨by omega, by have := hLs_.2.1; omega⟩
    have bx_26 := zB.all x_26
    have vx_25 := congrArg Int32.toInt (z_same kF_23 kx_25)
    have mo_24 := zss.nx st_24 ox_13 ox_25
    refine lv_aload_n hx hb dX7_readTest_44 rfl (lv_at hl 1 rfl) ?_
    refine lv_iconst (v := 0) hx hb dX7_readTest_45 (by decide) ?_
    have p_27 := (p_15.fr hfF_23 htk (by decide))
    have fk_28 := ((p_fk.ss st_12).ss st_24)
    refine zk_Vv (As := [.int 0]) (rest := []) (bytes := cX7_readSum) (maxL := 4) (ret := none) Z h (zs_sum l 6 D k Γ L F_23 H.size th 0 pr tk co Bt nt Nt x_10 σ_24 fcv  hth (zB.of ⟨by decide, by decide⟩) (hfF_23.f hth 3 ⟨by decide, by decide⟩ (hfF_7.f hth 3 ⟨by decide, by decide⟩ kpr)) hpr (hfF_23.f hth 4 ⟨by decide, by decide⟩ (hfF_7.f hth 4 ⟨by decide, by decide⟩ ktk)) htk (hfF_23.f hth 5 ⟨by decide, by decide⟩ (hfF_7.f hth 5 ⟨by decide, by decide⟩ kco)) hco p_27 (hfF_23.f hth 11 ⟨by decide, by decide⟩ kx_10) bx_10 c1_24 (zCc.m (cc_24.w (dep' := (0 : Int32).toInt) (by have := br_16_21.1; have := br_16_21.2; have := bx_10.1; have := bx_10.2; have := bfcv.1; have := bfcv.2; have := bsz_.1; have := bsz_.2; have := bx_25.1; have := bx_25.2; have := bx_26.1; have := bx_26.2; have := bcc.1; have := bcc.2; have : (0 : Int32).toInt = 0 := (by decide); have : (1 : Int32).toInt = 1 := (by decide); have : (60 : Int32).toInt = 60 := (by decide); omega)) (hfF_23.f hth 11 ⟨by decide, by decide⟩ kx_10)) (hfF_23.f hpr 4 ⟨by decide, by decide⟩ (hfF_7.f hpr 4 ⟨by decide, by decide⟩ kfcv)) bfcv fk_28 (by have := br_16_21.1; have := br_16_21.2; have := bx_10.1; have := bx_10.2; have := bfcv.1; have := bfcv.2; have := bsz_.1; have := bsz_.2; have := bx_25.1; have := bx_25.2; have := bx_26.1; have := bx_26.2; have := bcc.1; have := bcc.2; have : (0 : Int32).toInt = 0 := (by decide); have : (1 : Int32).toInt = 1 := (by decide); have : (60 : Int32).toInt = 60 := (by decide); omega)) (cwV 1 hg zv_RX7_161 rfl rfl rfl zd_X7_readSum ⟨z_leR hRf (by decide), z_leR hRl (by decide)⟩) hth (by decide) rfl rfl hl.1 rfl (Nat.le_of_ble_eq_true rfl) dX7_readTest_46 ⟨Nat.zero_le _, Nat.zero_le _⟩ (fun F_29 H locs w_30 h hfF_29 => ?_)
    obtain ⟨⟨x_32, kx_32, bx_32, q_31⟩, ⟨σ_34, c1_34, rn_34, st_34, cn_34⟩, -⟩ := w_30
    have rc_34 : zRc (zTo Bt nt) σ [(11, 0, 0, 0)] σ_34 [] := zRc.calls rc_24 (rn_34.x (zSy_eq (by have := br_16_21.1; have := br_16_21.2; have := bx_10.1; have := bx_10.2; have := bfcv.1; have := bfcv.2; have := bx_32.1; have := bx_32.2; have := bsz_.1; have := bsz_.2; have := bcc.1; have := bcc.2; have : (0 : Int32).toInt = 0 := (by decide); have : (1 : Int32).toInt = 1 := (by decide); have : (60 : Int32).toInt = 60 := (by decide); omega) (by have := br_16_21.1; have := br_16_21.2; have := bx_10.1; have := bx_10.2; have := bfcv.1; have := bfcv.2; have := bx_32.1; have := bx_32.2; have := bsz_.1; have := bsz_.2; have := bcc.1; have := bcc.2; have : (0 : Int32).toInt = 0 := (by decide); have : (1 : Int32).toInt = 1 := (by decide); have : (60 : Int32).toInt = 60 := (by decide); omega) (by have := br_16_21.1; have := br_16_21.2; have := bx_10.1; have := bx_10.2; have := bfcv.1; have := bfcv.2; have := bx_32.1; have := bx_32.2; have := bsz_.1; have := bsz_.2; have := bcc.1; have := bcc.2; have : (0 : Int32).toInt = 0 := (by decide); have : (1 : Int32).toInt = 1 := (by decide); have : (60 : Int32).toInt = 60 := (by decide); omega)))
    have ss_34 : zss σ σ_34 := ss_24.trans st_34
    have cc_34 : zCc Γ F F_29 th (zTo Bt nt) σ (σ_34) ((0 : Int32).toInt) := zCc.call cc_24 cn_34
    obtain ⟨⟨x_35, kx_35, nx_35⟩, ⟨x_36, kx_36, nx_36⟩, ox_35⟩ := id c1_34
    have gx_35 := zC1.nx c1_34 hLs_.1 kx_35
    have bx_35 : zB 0 600 x_35 := ⟨by omega, by have := hLs_.2.1; omega⟩
    have bx_36 := zB.all x_36
    have mo_34 := zss.nx st_34 ox_25 ox_35
    refine lv_aload_n hx hb dX7_readTest_49 rfl (lv_at hl 1 rfl) ?_
    refine zt_getk (t := 7) (C := RX7) (T := TX7) (N := 12) Z h hth zin_7 rfl 5 (hfF_29.f hth 5 ⟨by decide, by decide⟩ (hfF_23.f hth 5 ⟨by decide, by decide⟩ (hfF_7.f hth 5 ⟨by decide, by decide⟩ kco))) ⟨by decide, rfl, by decide⟩ (zm_RX7 (List.mem_of_getElem? (i := 6) rfl)) (fun _ h9 => h9) dX7_readTest_50 ?_
    refine lv_iload_n hx hb dX7_readTest_53 rfl (lv_at hl 0 rfl) ?_
    refine lv_bipush (v := 60) hx hb dX7_readTest_54 (by decide) ?_
    refine lv_icmp_ne (tgt := 64) hx hb dX7_readTest_56 (by decide) (fun c_37 => ?_) (fun c_37 => ?_)
    · have c_37 := z_ne c_37
      exact zB.noNe c_37 br_16_21 (zBc 60 60 (by decide))
    · have c_37 := z_eq c_37
      refine lv_bipush (v := 6) hx hb dX7_readTest_59 (by decide) ?_
      refine lv_goto (tgt := 77) hx hb dX7_readTest_61 (by decide) ?_
      refine lv_iconst (v := 0) hx hb dX7_readTest_77 (by decide) ?_
      refine lv_iconst (v := 0) hx hb dX7_readTest_78 (by decide) ?_
      refine zk_Vi (As := [.int 6, .int 0, .int 0]) (rest := []) (bytes := cX1_add) (maxL := 4) (ret := (some .int)) Z h (zc_X1_add l D k Γ L F_29 H.size co 6 0 0 hco) (cwV 3 hg zv_RX7_117 rfl rfl rfl zd_X1_add ⟨z_leR hRf (by decide), z_leR hRl (by decide)⟩) hco (by decide) rfl rfl hl.1 rfl (Nat.le_of_ble_eq_true rfl) dX7_readTest_79 ⟨Nat.zero_le _, Nat.zero_le _⟩ (fun r_38 F_39 H locs w_40 h hfF_39 => ?_)
      obtain ⟨br_38, -⟩ := w_40
      refine lv_pop hx hb dX7_readTest_82 rfl ?_
      have c1_41 := (c1_34.fr hfF_39 hth (by decide))
      have cc_42 := (cc_34.fr hfF_39 hth (by decide) (zTo_P Bt nt))
      subst hQ
      exact W.vret hx hb hr (fun t ht hW => ⟨⟨F_39, rfl, ⟨⟨x_32, (hfF_39.f hth 11 ⟨by decide, by decide⟩ kx_32), bx_32, (by have := br_16_21.1; have := br_16_21.2; have := bx_32.1; have := bx_32.2; have := bfcv.1; have := bfcv.2; have := bsz_.1; have := bsz_.2; have := bx_35.1; have := bx_35.2; have := bx_36.1; have := bx_36.2; have := bcc.1; have := bcc.2; have : (0 : Int32).toInt = 0 := (by decide); have : (1 : Int32).toInt = 1 := (by decide); have : (60 : Int32).toInt = 60 := (by decide); omega)⟩, ⟨σ_34, c1_41, rc_34, ss_34, (cc_42.w (by have := br_16_21.1; have := br_16_21.2; have := bx_32.1; have := bx_32.2; have := bfcv.1; have := bfcv.2; have := bsz_.1; have := bsz_.2; have := bx_35.1; have := bx_35.2; have := bx_36.1; have := bx_36.2; have := bcc.1; have := bcc.2; have : (0 : Int32).toInt = 0 := (by decide); have : (1 : Int32).toInt = 1 := (by decide); have : (60 : Int32).toInt = 60 := (by decide); omega))⟩, trivial⟩, by rw [ht]; exact h.1, h.2.1, (((hfF_7.trans hfF_23 (by decide)).trans hfF_29 (by decide)).trans hfF_39 (by decide))⟩, h.2.2.F ht⟩) h.2.2.2.2 dX7_readTest_83
  · have c_20 := z_ne c_20
    refine lv_iload_n hx hb dX7_readTest_16 rfl (lv_at hl 0 rfl) ?_
    refine lv_bipush (v := 62) hx hb dX7_readTest_17 (by decide) ?_
    refine lv_icmp_eq (tgt := 34) hx hb dX7_readTest_19 (by decide) (fun c_43 => ?_) (fun c_43 => ?_)
    · have c_43 := z_eq c_43
      have br_16_44 : zB 62 62 r_16 := zB.eqL (a := 0) (b := 0) c_43 (zBc 62 62 (by decide))
      refine lv_aload_n hx hb dX7_readTest_34 rfl (lv_at hl 1 rfl) ?_
      refine lv_dup hx hb dX7_readTest_35 rfl ?_
      refine zt_getk (t := 7) (C := RX7) (T := TX7) (N := 12) Z h hth zin_7 rfl 6 kx_13 ⟨by decide, rfl, by decide⟩ (zm_RX7 (List.mem_of_getElem? (i := 9) rfl)) (fun _ h9 => h9) dX7_readTest_36 ?_
      refine lv_iconst (v := 1) hx hb dX7_readTest_39 (by decide) ?_
      refine lv_iadd hx hb dX7_readTest_40 ?_
      refine zi_add (lo := 1) (hi := 601) bx_13 (zBc 1 1 (by decide)) (by decide) (fun x_45 bx_45 tx_45 => ?_)
      refine zt_put (t := 7) (C := RX7) (T := TX7) (N := 12) (v := .int x_45) Z h hth zin_7 tyX7 tyX7_ok nmX7 rfl 6 rfl ⟨by decide, rfl⟩ (zm_RX7 (List.mem_of_getElem? (i := 9) rfl)) (fun _ h9 => h9) rfl (zV.i (bx_45.w ⟨by decide, by decide⟩)) rfl rfl dX7_readTest_41 (fun H locs F_46 h hfF_46 kF_46 => ?_)
      have c1_47 : zC1 F_46 th Nt (zadv σ_12) := (zC1.adv (T := zTo Bt nt) c1_12 hfF_46 hth (by decide) kx_13 kF_46 (by have := br_16_44.1; have := br_16_44.2; have := bx_13.1; have := bx_13.2; have := bx_10.1; have := bx_10.2; have := bfcv.1; have := bfcv.2; have := bsz_.1; have := bsz_.2; have := bx_45.1; have := bx_45.2; have := bx_14.1; have := bx_14.2; have := bcc.1; have := bcc.2; have : (0 : Int32).toInt = 0 := (by decide); have : (1 : Int32).toInt = 1 := (by decide); have : (60 : Int32).toInt = 60 := (by decide); have : (62 : Int32).toInt = 62 := (by decide); omega) hLs_ ⟨by have := br_16_44.1; have := br_16_44.2; have := bx_13.1; have := bx_13.2; have := bx_10.1; have := bx_10.2; have := bfcv.1; have := bfcv.2; have := bsz_.1; have := bsz_.2; have := bx_45.1; have := bx_45.2; have := bx_14.1; have := bx_14.2; have := bcc.1; have := bcc.2; have : (0 : Int32).toInt = 0 := (by decide); have : (1 : Int32).toInt = 1 := (by decide); have : (60 : Int32).toInt = 60 := (by decide); have : (62 : Int32).toInt = 62 := (by decide); omega, by have := br_16_44.1; have := br_16_44.2; have := bx_13.1; have := bx_13.2; have := bx_10.1; have := bx_10.2; have := bfcv.1; have := bfcv.2; have := bsz_.1; have := bsz_.2; have := bx_45.1; have := bx_45.2; have := bx_14.1; have := bx_14.2; have := bcc.1; have := bcc.2; have : (0 : Int32).toInt = 0 := (by decide); have : (1 : Int32).toInt = 1 := (by decide); have : (60 : Int32).toInt = 60 := (by decide); have : (62 : Int32).toInt = 62 := (by decide); omega⟩)
      have rc_47 : zRc (zTo Bt nt) σ [(11, 0, 0, 0)] (zadv σ_12) [(13, 0, 0, 0)] := zRc.sign1 (N := Nt) rc_12 (by have := br_16_44.1; have := br_16_44.2; have := bx_10.1; have := bx_10.2; have := bfcv.1; have := bfcv.2; have := bsz_.1; have := bsz_.2; have := bx_45.1; have := bx_45.2; have := bx_14.1; have := bx_14.2; have := bcc.1; have := bcc.2; have : (0 : Int32).toInt = 0 := (by decide); have : (1 : Int32).toInt = 1 := (by decide); have : (60 : Int32).toInt = 60 := (by decide); have : (62 : Int32).toInt = 62 := (by decide); omega)
      have st_47 : zss σ_12 (zadv σ_12) := zsm.adv.ss
      have ss_47 : zss σ (zadv σ_12) := ss_12.trans st_47
      have cc_47 : zCc Γ F F_46 th (zTo Bt nt) σ (zadv σ_12) ((0 : Int32).toInt) := (cc_12.mv hfF_46 hth (by decide) (zTo_P Bt nt) zsm.adv.cs)
      generalize hσ_47 : zadv σ_12 = σ_47 at c1_47 rc_47 st_47 ss_47 cc_47
      obtain ⟨⟨x_48, kx_48, nx_48⟩, ⟨x_49, kx_49, nx_49⟩, ox_48⟩ := id c1_47
      have gx_48 := zC1.nx c1_47 hLs_.1 kx_48
      have bx_48 : zB 0 600 x_48 := ⟨by omega, by have := hLs_.2.1; omega⟩
      have bx_49 := zB.all x_49
      have vx_48 := congrArg Int32.toInt (z_same kF_46 kx_48)
      have mo_47 := zss.nx st_47 ox_13 ox_48
      refine lv_aload_n hx hb dX7_readTest_44 rfl (lv_at hl 1 rfl) ?_
      refine lv_iconst (v := 0) hx hb dX7_readTest_45 (by decide) ?_
      have p_50 := (p_15.fr hfF_46 htk (by decide))
      have fk_51 := ((p_fk.ss st_12).ss st_47)
      refine zk_Vv (As := [.int 0]) (rest := []) (bytes := cX7_readSum) (maxL := 4) (ret := none) Z h (zs_sum l 6 D k Γ L F_46 H.size th 0 pr tk co Bt nt Nt x_10 σ_47 fcv  hth (zB.of ⟨by decide, by decide⟩) (hfF_46.f hth 3 ⟨by decide, by decide⟩ (hfF_7.f hth 3 ⟨by decide, by decide⟩ kpr)) hpr (hfF_46.f hth 4 ⟨by decide, by decide⟩ (hfF_7.f hth 4 ⟨by decide, by decide⟩ ktk)) htk (hfF_46.f hth 5 ⟨by decide, by decide⟩ (hfF_7.f hth 5 ⟨by decide, by decide⟩ kco)) hco p_50 (hfF_46.f hth 11 ⟨by decide, by decide⟩ kx_10) bx_10 c1_47 (zCc.m (cc_47.w (dep' := (0 : Int32).toInt) (by have := br_16_44.1; have := br_16_44.2; have := bx_10.1; have := bx_10.2; have := bfcv.1; have := bfcv.2; have := bsz_.1; have := bsz_.2; have := bx_48.1; have := bx_48.2; have := bx_49.1; have := bx_49.2; have := bcc.1; have := bcc.2; have : (0 : Int32).toInt = 0 := (by decide); have : (1 : Int32).toInt = 1 := (by decide); have : (60 : Int32).toInt = 60 := (by decide); have : (62 : Int32).toInt = 62 := (by decide); omega)) (hfF_46.f hth 11 ⟨by decide, by decide⟩ kx_10)) (hfF_46.f hpr 4 ⟨by decide, by decide⟩ (hfF_7.f hpr 4 ⟨by decide, by decide⟩ kfcv)) bfcv fk_51 (by have := br_16_44.1; have := br_16_44.2; have := bx_10.1; have := bx_10.2; have := bfcv.1; have := bfcv.2; have := bsz_.1; have := bsz_.2; have := bx_48.1; have := bx_48.2; have := bx_49.1; have := bx_49.2; have := bcc.1; have := bcc.2; have : (0 : Int32).toInt = 0 := (by decide); have : (1 : Int32).toInt = 1 := (by decide); have : (60 : Int32).toInt = 60 := (by decide); have : (62 : Int32).toInt = 62 := (by decide); omega)) (cwV 1 hg zv_RX7_161 rfl rfl rfl zd_X7_readSum ⟨z_leR hRf (by decide), z_leR hRl (by decide)⟩) hth (by decide) rfl rfl hl.1 rfl (Nat.le_of_ble_eq_true rfl) dX7_readTest_46 ⟨Nat.zero_le _, Nat.zero_le _⟩ (fun F_52 H locs w_53 h hfF_52 => ?_)
      obtain ⟨⟨x_55, kx_55, bx_55, q_54⟩, ⟨σ_57, c1_57, rn_57, st_57, cn_57⟩, -⟩ := w_53
      have rc_57 : zRc (zTo Bt nt) σ [(11, 0, 0, 0)] σ_57 [] := zRc.calls rc_47 (rn_57.x (zSy_eq (by have := br_16_44.1; have := br_16_44.2; have := bx_10.1; have := bx_10.2; have := bfcv.1; have := bfcv.2; have := bx_55.1; have := bx_55.2; have := bsz_.1; have := bsz_.2; have := bcc.1; have := bcc.2; have : (0 : Int32).toInt = 0 := (by decide); have : (1 : Int32).toInt = 1 := (by decide); have : (60 : Int32).toInt = 60 := (by decide); have : (62 : Int32).toInt = 62 := (by decide); omega) (by have := br_16_44.1; have := br_16_44.2; have := bx_10.1; have := bx_10.2; have := bfcv.1; have := bfcv.2; have := bx_55.1; have := bx_55.2; have := bsz_.1; have := bsz_.2; have := bcc.1; have := bcc.2; have : (0 : Int32).toInt = 0 := (by decide); have : (1 : Int32).toInt = 1 := (by decide); have : (60 : Int32).toInt = 60 := (by decide); have : (62 : Int32).toInt = 62 := (by decide); omega) (by have := br_16_44.1; have := br_16_44.2; have := bx_10.1; have := bx_10.2; have := bfcv.1; have := bfcv.2; have := bx_55.1; have := bx_55.2; have := bsz_.1; have := bsz_.2; have := bcc.1; have := bcc.2; have : (0 : Int32).toInt = 0 := (by decide); have : (1 : Int32).toInt = 1 := (by decide); have : (60 : Int32).toInt = 60 := (by decide); have : (62 : Int32).toInt = 62 := (by decide); omega)))
      have ss_57 : zss σ σ_57 := ss_47.trans st_57
      have cc_57 : zCc Γ F F_52 th (zTo Bt nt) σ (σ_57) ((0 : Int32).toInt) := zCc.call cc_47 cn_57
      obtain ⟨⟨x_58, kx_58, nx_58⟩, ⟨x_59, kx_59, nx_59⟩, ox_58⟩ := id c1_57
      have gx_58 := zC1.nx c1_57 hLs_.1 kx_58
      have bx_58 : zB 0 600 x_58 := ⟨by omega, by have := hLs_.2.1; omega⟩
      have bx_59 := zB.all x_59
      have mo_57 := zss.nx st_57 ox_48 ox_58
      refine lv_aload_n hx hb dX7_readTest_49 rfl (lv_at hl 1 rfl) ?_
      refine zt_getk (t := 7) (C := RX7) (T := TX7) (N := 12) Z h hth zin_7 rfl 5 (hfF_52.f hth 5 ⟨by decide, by decide⟩ (hfF_46.f hth 5 ⟨by decide, by decide⟩ (hfF_7.f hth 5 ⟨by decide, by decide⟩ kco))) ⟨by decide, rfl, by decide⟩ (zm_RX7 (List.mem_of_getElem? (i := 6) rfl)) (fun _ h9 => h9) dX7_readTest_50 ?_
      refine lv_iload_n hx hb dX7_readTest_53 rfl (lv_at hl 0 rfl) ?_
      refine lv_bipush (v := 60) hx hb dX7_readTest_54 (by decide) ?_
      refine lv_icmp_ne (tgt := 64) hx hb dX7_readTest_56 (by decide) (fun c_60 => ?_) (fun c_60 => ?_)
      · have c_60 := z_ne c_60
        refine lv_iload_n hx hb dX7_readTest_64 rfl (lv_at hl 0 rfl) ?_
        refine lv_bipush (v := 62) hx hb dX7_readTest_65 (by decide) ?_
        refine lv_icmp_ne (tgt := 75) hx hb dX7_readTest_67 (by decide) (fun c_61 => ?_) (fun c_61 => ?_)
        · have c_61 := z_ne c_61
          exact zB.noNe c_61 br_16_44 (zBc 62 62 (by decide))
        · have c_61 := z_eq c_61
          refine lv_bipush (v := 7) hx hb dX7_readTest_70 (by decide) ?_
          refine lv_goto (tgt := 77) hx hb dX7_readTest_72 (by decide) ?_
          refine lv_iconst (v := 0) hx hb dX7_readTest_77 (by decide) ?_
          refine lv_iconst (v := 0) hx hb dX7_readTest_78 (by decide) ?_
          refine zk_Vi (As := [.int 7, .int 0, .int 0]) (rest := []) (bytes := cX1_add) (maxL := 4) (ret := (some .int)) Z h (zc_X1_add l D k Γ L F_52 H.size co 7 0 0 hco) (cwV 3 hg zv_RX7_117 rfl rfl rfl zd_X1_add ⟨z_leR hRf (by decide), z_leR hRl (by decide)⟩) hco (by decide) rfl rfl hl.1 rfl (Nat.le_of_ble_eq_true rfl) dX7_readTest_79 ⟨Nat.zero_le _, Nat.zero_le _⟩ (fun r_62 F_63 H locs w_64 h hfF_63 => ?_)
          obtain ⟨br_62, -⟩ := w_64
          refine lv_pop hx hb dX7_readTest_82 rfl ?_
          have c1_65 := (c1_57.fr hfF_63 hth (by decide))
          have cc_66 := (cc_57.fr hfF_63 hth (by decide) (zTo_P Bt nt))
          subst hQ
          exact W.vret hx hb hr (fun t ht hW => ⟨⟨F_63, rfl, ⟨⟨x_55, (hfF_63.f hth 11 ⟨by decide, by decide⟩ kx_55), bx_55, (by have := br_16_44.1; have := br_16_44.2; have := bx_55.1; have := bx_55.2; have := bfcv.1; have := bfcv.2; have := bsz_.1; have := bsz_.2; have := bx_58.1; have := bx_58.2; have := bx_59.1; have := bx_59.2; have := bcc.1; have := bcc.2; have : (0 : Int32).toInt = 0 := (by decide); have : (1 : Int32).toInt = 1 := (by decide); have : (60 : Int32).toInt = 60 := (by decide); have : (62 : Int32).toInt = 62 := (by decide); omega)⟩, ⟨σ_57, c1_65, rc_57, ss_57, (cc_66.w (by have := br_16_44.1; have := br_16_44.2; have := bx_55.1; have := bx_55.2; have := bfcv.1; have := bfcv.2; have := bsz_.1; have := bsz_.2; have := bx_58.1; have := bx_58.2; have := bx_59.1; have := bx_59.2; have := bcc.1; have := bcc.2; have : (0 : Int32).toInt = 0 := (by decide); have : (1 : Int32).toInt = 1 := (by decide); have : (60 : Int32).toInt = 60 := (by decide); have : (62 : Int32).toInt = 62 := (by decide); omega))⟩, trivial⟩, by rw [ht]; exact h.1, h.2.1, (((hfF_7.trans hfF_46 (by decide)).trans hfF_52 (by decide)).trans hfF_63 (by decide))⟩, h.2.2.F ht⟩) h.2.2.2.2 dX7_readTest_83
      · have c_60 := z_eq c_60
        exact zB.noEq c_60 br_16_44 (zBc 60 60 (by decide)) (by decide)
    · have c_43 := z_ne c_43
      refine lv_iload_n hx hb dX7_readTest_22 rfl (lv_at hl 0 rfl) ?_
      refine lv_bipush (v := 61) hx hb dX7_readTest_23 (by decide) ?_
      refine lv_icmp_eq (tgt := 34) hx hb dX7_readTest_25 (by decide) (fun c_67 => ?_) (fun c_67 => ?_)
      · have c_67 := z_eq c_67
        have br_16_68 : zB 61 61 r_16 := zB.eqL (a := 0) (b := 0) c_67 (zBc 61 61 (by decide))
        refine lv_aload_n hx hb dX7_readTest_34 rfl (lv_at hl 1 rfl) ?_
        refine lv_dup hx hb dX7_readTest_35 rfl ?_
        refine zt_getk (t := 7) (C := RX7) (T := TX7) (N := 12) Z h hth zin_7 rfl 6 kx_13 ⟨by decide, rfl, by decide⟩ (zm_RX7 (List.mem_of_getElem? (i := 9) rfl)) (fun _ h9 => h9) dX7_readTest_36 ?_
        refine lv_iconst (v := 1) hx hb dX7_readTest_39 (by decide) ?_
        refine lv_iadd hx hb dX7_readTest_40 ?_
        refine zi_add (lo := 1) (hi := 601) bx_13 (zBc 1 1 (by decide)) (by decide) (fun x_69 bx_69 tx_69 => ?_)
        refine zt_put (t := 7) (C := RX7) (T := TX7) (N := 12) (v := .int x_69) Z h hth zin_7 tyX7 tyX7_ok nmX7 rfl 6 rfl ⟨by decide, rfl⟩ (zm_RX7 (List.mem_of_getElem? (i := 9) rfl)) (fun _ h9 => h9) rfl (zV.i (bx_69.w ⟨by decide, by decide⟩)) rfl rfl dX7_readTest_41 (fun H locs F_70 h hfF_70 kF_70 => ?_)
        have c1_71 : zC1 F_70 th Nt (zadv σ_12) := (zC1.adv (T := zTo Bt nt) c1_12 hfF_70 hth (by decide) kx_13 kF_70 (by have := br_16_68.1; have := br_16_68.2; have := bx_13.1; have := bx_13.2; have := bx_10.1; have := bx_10.2; have := bfcv.1; have := bfcv.2; have := bsz_.1; have := bsz_.2; have := bx_69.1; have := bx_69.2; have := bx_14.1; have := bx_14.2; have := bcc.1; have := bcc.2; have : (0 : Int32).toInt = 0 := (by decide); have : (1 : Int32).toInt = 1 := (by decide); have : (60 : Int32).toInt = 60 := (by decide); have : (61 : Int32).toInt = 61 := (by decide); have : (62 : Int32).toInt = 62 := (by decide); omega) hLs_ ⟨by have := br_16_68.1; have := br_16_68.2; have := bx_13.1; have := bx_13.2; have := bx_10.1; have := bx_10.2; have := bfcv.1; have := bfcv.2; have := bsz_.1; have := bsz_.2; have := bx_69.1; have := bx_69.2; have := bx_14.1; have := bx_14.2; have := bcc.1; have := bcc.2; have : (0 : Int32).toInt = 0 := (by decide); have : (1 : Int32).toInt = 1 := (by decide); have : (60 : Int32).toInt = 60 := (by decide); have : (61 : Int32).toInt = 61 := (by decide); have : (62 : Int32).toInt = 62 := (by decide); omega, by have := br_16_68.1; have := br_16_68.2; have := bx_13.1; have := bx_13.2; have := bx_10.1; have := bx_10.2; have := bfcv.1; have := bfcv.2; have := bsz_.1; have := bsz_.2; have := bx_69.1; have := bx_69.2; have := bx_14.1; have := bx_14.2; have := bcc.1; have := bcc.2; have : (0 : Int32).toInt = 0 := (by decide); have : (1 : Int32).toInt = 1 := (by decide); have : (60 : Int32).toInt = 60 := (by decide); have : (61 : Int32).toInt = 61 := (by decide); have : (62 : Int32).toInt = 62 := (by decide); omega⟩)
        have rc_71 : zRc (zTo Bt nt) σ [(11, 0, 0, 0)] (zadv σ_12) [(13, 0, 0, 0)] := zRc.sign1 (N := Nt) rc_12 (by have := br_16_68.1; have := br_16_68.2; have := bx_10.1; have := bx_10.2; have := bfcv.1; have := bfcv.2; have := bsz_.1; have := bsz_.2; have := bx_69.1; have := bx_69.2; have := bx_14.1; have := bx_14.2; have := bcc.1; have := bcc.2; have : (0 : Int32).toInt = 0 := (by decide); have : (1 : Int32).toInt = 1 := (by decide); have : (60 : Int32).toInt = 60 := (by decide); have : (61 : Int32).toInt = 61 := (by decide); have : (62 : Int32).toInt = 62 := (by decide); omega)
        have st_71 : zss σ_12 (zadv σ_12) := zsm.adv.ss
        have ss_71 : zss σ (zadv σ_12) := ss_12.trans st_71
        have cc_71 : zCc Γ F F_70 th (zTo Bt nt) σ (zadv σ_12) ((0 : Int32).toInt) := (cc_12.mv hfF_70 hth (by decide) (zTo_P Bt nt) zsm.adv.cs)
        generalize hσ_71 : zadv σ_12 = σ_71 at c1_71 rc_71 st_71 ss_71 cc_71
        obtain ⟨⟨x_72, kx_72, nx_72⟩, ⟨x_73, kx_73, nx_73⟩, ox_72⟩ := id c1_71
        have gx_72 := zC1.nx c1_71 hLs_.1 kx_72
        have bx_72 : zB 0 600 x_72 := ⟨by omega, by have := hLs_.2.1; omega⟩
        have bx_73 := zB.all x_73
        have vx_72 := congrArg Int32.toInt (z_same kF_70 kx_72)
        have mo_71 := zss.nx st_71 ox_13 ox_72
        refine lv_aload_n hx hb dX7_readTest_44 rfl (lv_at hl 1 rfl) ?_
        refine lv_iconst (v := 0) hx hb dX7_readTest_45 (by decide) ?_
        have p_74 := (p_15.fr hfF_70 htk (by decide))
        have fk_75 := ((p_fk.ss st_12).ss st_71)
        refine zk_Vv (As := [.int 0]) (rest := []) (bytes := cX7_readSum) (maxL := 4) (ret := none) Z h (zs_sum l 6 D k Γ L F_70 H.size th 0 pr tk co Bt nt Nt x_10 σ_71 fcv  hth (zB.of ⟨by decide, by decide⟩) (hfF_70.f hth 3 ⟨by decide, by decide⟩ (hfF_7.f hth 3 ⟨by decide, by decide⟩ kpr)) hpr (hfF_70.f hth 4 ⟨by decide, by decide⟩ (hfF_7.f hth 4 ⟨by decide, by decide⟩ ktk)) htk (hfF_70.f hth 5 ⟨by decide, by decide⟩ (hfF_7.f hth 5 ⟨by decide, by decide⟩ kco)) hco p_74 (hfF_70.f hth 11 ⟨by decide, by decide⟩ kx_10) bx_10 c1_71 (zCc.m (cc_71.w (dep' := (0 : Int32).toInt) (by have := br_16_68.1; have := br_16_68.2; have := bx_10.1; have := bx_10.2; have := bfcv.1; have := bfcv.2; have := bsz_.1; have := bsz_.2; have := bx_72.1; have := bx_72.2; have := bx_73.1; have := bx_73.2; have := bcc.1; have := bcc.2; have : (0 : Int32).toInt = 0 := (by decide); have : (1 : Int32).toInt = 1 := (by decide); have : (60 : Int32).toInt = 60 := (by decide); have : (61 : Int32).toInt = 61 := (by decide); have : (62 : Int32).toInt = 62 := (by decide); omega)) (hfF_70.f hth 11 ⟨by decide, by decide⟩ kx_10)) (hfF_70.f hpr 4 ⟨by decide, by decide⟩ (hfF_7.f hpr 4 ⟨by decide, by decide⟩ kfcv)) bfcv fk_75 (by have := br_16_68.1; have := br_16_68.2; have := bx_10.1; have := bx_10.2; have := bfcv.1; have := bfcv.2; have := bsz_.1; have := bsz_.2; have := bx_72.1; have := bx_72.2; have := bx_73.1; have := bx_73.2; have := bcc.1; have := bcc.2; have : (0 : Int32).toInt = 0 := (by decide); have : (1 : Int32).toInt = 1 := (by decide); have : (60 : Int32).toInt = 60 := (by decide); have : (61 : Int32).toInt = 61 := (by decide); have : (62 : Int32).toInt = 62 := (by decide); omega)) (cwV 1 hg zv_RX7_161 rfl rfl rfl zd_X7_readSum ⟨z_leR hRf (by decide), z_leR hRl (by decide)⟩) hth (by decide) rfl rfl hl.1 rfl (Nat.le_of_ble_eq_true rfl) dX7_readTest_46 ⟨Nat.zero_le _, Nat.zero_le _⟩ (fun F_76 H locs w_77 h hfF_76 => ?_)
        obtain ⟨⟨x_79, kx_79, bx_79, q_78⟩, ⟨σ_81, c1_81, rn_81, st_81, cn_81⟩, -⟩ := w_77
        have rc_81 : zRc (zTo Bt nt) σ [(11, 0, 0, 0)] σ_81 [] := zRc.calls rc_71 (rn_81.x (zSy_eq (by have := br_16_68.1; have := br_16_68.2; have := bx_10.1; have := bx_10.2; have := bfcv.1; have := bfcv.2; have := bx_79.1; have := bx_79.2; have := bsz_.1; have := bsz_.2; have := bcc.1; have := bcc.2; have : (0 : Int32).toInt = 0 := (by decide); have : (1 : Int32).toInt = 1 := (by decide); have : (60 : Int32).toInt = 60 := (by decide); have : (61 : Int32).toInt = 61 := (by decide); have : (62 : Int32).toInt = 62 := (by decide); omega) (by have := br_16_68.1; have := br_16_68.2; have := bx_10.1; have := bx_10.2; have := bfcv.1; have := bfcv.2; have := bx_79.1; have := bx_79.2; have := bsz_.1; have := bsz_.2; have := bcc.1; have := bcc.2; have : (0 : Int32).toInt = 0 := (by decide); have : (1 : Int32).toInt = 1 := (by decide); have : (60 : Int32).toInt = 60 := (by decide); have : (61 : Int32).toInt = 61 := (by decide); have : (62 : Int32).toInt = 62 := (by decide); omega) (by have := br_16_68.1; have := br_16_68.2; have := bx_10.1; have := bx_10.2; have := bfcv.1; have := bfcv.2; have := bx_79.1; have := bx_79.2; have := bsz_.1; have := bsz_.2; have := bcc.1; have := bcc.2; have : (0 : Int32).toInt = 0 := (by decide); have : (1 : Int32).toInt = 1 := (by decide); have : (60 : Int32).toInt = 60 := (by decide); have : (61 : Int32).toInt = 61 := (by decide); have : (62 : Int32).toInt = 62 := (by decide); omega)))
        have ss_81 : zss σ σ_81 := ss_71.trans st_81
        have cc_81 : zCc Γ F F_76 th (zTo Bt nt) σ (σ_81) ((0 : Int32).toInt) := zCc.call cc_71 cn_81
        obtain ⟨⟨x_82, kx_82, nx_82⟩, ⟨x_83, kx_83, nx_83⟩, ox_82⟩ := id c1_81
        have gx_82 := zC1.nx c1_81 hLs_.1 kx_82
        have bx_82 : zB 0 600 x_82 := ⟨by omega, by have := hLs_.2.1; omega⟩
        have bx_83 := zB.all x_83
        have mo_81 := zss.nx st_81 ox_72 ox_82
        refine lv_aload_n hx hb dX7_readTest_49 rfl (lv_at hl 1 rfl) ?_
        refine zt_getk (t := 7) (C := RX7) (T := TX7) (N := 12) Z h hth zin_7 rfl 5 (hfF_76.f hth 5 ⟨by decide, by decide⟩ (hfF_70.f hth 5 ⟨by decide, by decide⟩ (hfF_7.f hth 5 ⟨by decide, by decide⟩ kco))) ⟨by decide, rfl, by decide⟩ (zm_RX7 (List.mem_of_getElem? (i := 6) rfl)) (fun _ h9 => h9) dX7_readTest_50 ?_
        refine lv_iload_n hx hb dX7_readTest_53 rfl (lv_at hl 0 rfl) ?_
        refine lv_bipush (v := 60) hx hb dX7_readTest_54 (by decide) ?_
        refine lv_icmp_ne (tgt := 64) hx hb dX7_readTest_56 (by decide) (fun c_84 => ?_) (fun c_84 => ?_)
        · have c_84 := z_ne c_84
          refine lv_iload_n hx hb dX7_readTest_64 rfl (lv_at hl 0 rfl) ?_
          refine lv_bipush (v := 62) hx hb dX7_readTest_65 (by decide) ?_
          refine lv_icmp_ne (tgt := 75) hx hb dX7_readTest_67 (by decide) (fun c_85 => ?_) (fun c_85 => ?_)
          · have c_85 := z_ne c_85
            refine lv_bipush (v := 8) hx hb dX7_readTest_75 (by decide) ?_
            refine lv_iconst (v := 0) hx hb dX7_readTest_77 (by decide) ?_
            refine lv_iconst (v := 0) hx hb dX7_readTest_78 (by decide) ?_
            refine zk_Vi (As := [.int 8, .int 0, .int 0]) (rest := []) (bytes := cX1_add) (maxL := 4) (ret := (some .int)) Z h (zc_X1_add l D k Γ L F_76 H.size co 8 0 0 hco) (cwV 3 hg zv_RX7_117 rfl rfl rfl zd_X1_add ⟨z_leR hRf (by decide), z_leR hRl (by decide)⟩) hco (by decide) rfl rfl hl.1 rfl (Nat.le_of_ble_eq_true rfl) dX7_readTest_79 ⟨Nat.zero_le _, Nat.zero_le _⟩ (fun r_86 F_87 H locs w_88 h hfF_87 => ?_)
            obtain ⟨br_86, -⟩ := w_88
            refine lv_pop hx hb dX7_readTest_82 rfl ?_
            have c1_89 := (c1_81.fr hfF_87 hth (by decide))
            have cc_90 := (cc_81.fr hfF_87 hth (by decide) (zTo_P Bt nt))
            subst hQ
            exact W.vret hx hb hr (fun t ht hW => ⟨⟨F_87, rfl, ⟨⟨x_79, (hfF_87.f hth 11 ⟨by decide, by decide⟩ kx_79), bx_79, (by have := br_16_68.1; have := br_16_68.2; have := bx_79.1; have := bx_79.2; have := bfcv.1; have := bfcv.2; have := bsz_.1; have := bsz_.2; have := bx_82.1; have := bx_82.2; have := bx_83.1; have := bx_83.2; have := bcc.1; have := bcc.2; have : (0 : Int32).toInt = 0 := (by decide); have : (1 : Int32).toInt = 1 := (by decide); have : (60 : Int32).toInt = 60 := (by decide); have : (61 : Int32).toInt = 61 := (by decide); have : (62 : Int32).toInt = 62 := (by decide); omega)⟩, ⟨σ_81, c1_89, rc_81, ss_81, (cc_90.w (by have := br_16_68.1; have := br_16_68.2; have := bx_79.1; have := bx_79.2; have := bfcv.1; have := bfcv.2; have := bsz_.1; have := bsz_.2; have := bx_82.1; have := bx_82.2; have := bx_83.1; have := bx_83.2; have := bcc.1; have := bcc.2; have : (0 : Int32).toInt = 0 := (by decide); have : (1 : Int32).toInt = 1 := (by decide); have : (60 : Int32).toInt = 60 := (by decide); have : (61 : Int32).toInt = 61 := (by decide); have : (62 : Int32).toInt = 62 := (by decide); omega))⟩, trivial⟩, by rw [ht]; exact h.1, h.2.1, (((hfF_7.trans hfF_70 (by decide)).trans hfF_76 (by decide)).trans hfF_87 (by decide))⟩, h.2.2.F ht⟩) h.2.2.2.2 dX7_readTest_83
          · have c_85 := z_eq c_85
            exact zB.noEq c_85 br_16_68 (zBc 62 62 (by decide)) (by decide)
        · have c_84 := z_eq c_84
          exact zB.noEq c_84 br_16_68 (zBc 60 60 (by decide)) (by decide)
      · have c_67 := z_ne c_67
        refine lv_aload_n hx hb dX7_readTest_28 rfl (lv_at hl 1 rfl) ?_
        refine lv_iconst (v := 1) hx hb dX7_readTest_29 (by decide) ?_
        refine zk_Vv (As := [.int 1]) (rest := []) (bytes := cX7_fail) (maxL := 2) (ret := none) Z h (ze_X7_fail l D k Γ L F_7 H.size th 1 tk Bt nt Nt σ_12 hth (hfF_7.f hth 4 ⟨by decide, by decide⟩ ktk) htk p_15 c1_12 (by have := br_16.1; have := br_16.2; have := bx_10.1; have := bx_10.2; have := bfcv.1; have := bfcv.2; have := bsz_.1; have := bsz_.2; have := bx_13.1; have := bx_13.2; have := bx_14.1; have := bx_14.2; have := bcc.1; have := bcc.2; have : (0 : Int32).toInt = 0 := (by decide); have : (1 : Int32).toInt = 1 := (by decide); have : (60 : Int32).toInt = 60 := (by decide); have : (61 : Int32).toInt = 61 := (by decide); have : (62 : Int32).toInt = 62 := (by decide); omega)) (cwV 1 hg zv_RX7_79 rfl rfl rfl zd_X7_fail ⟨z_leR hRf (by decide), z_leR hRl (by decide)⟩) hth (by decide) rfl rfl hl.1 rfl (Nat.le_of_ble_eq_true rfl) dX7_readTest_30 ⟨Nat.zero_le _, Nat.zero_le _⟩ (fun F_91 H locs w_92 h hfF_91 => ?_)
        obtain ⟨q_93, -⟩ := w_92
        have c1_94 : zC1 F_91 th Nt (zfl 1 σ_12) := (by have h9 := q_93; rw [show (1 : Int32).toInt = 1 by decide] at h9; exact h9)
        have rc_94 : zRc (zTo Bt nt) σ [(11, 0, 0, 0)] (zfl 1 σ_12) [] := zRc.any (zRc.sign0 (N := Nt) rc_12 (by have := br_16.1; have := br_16.2; have := bx_10.1; have := bx_10.2; have := bfcv.1; have := bfcv.2; have := bsz_.1; have := bsz_.2; have := bcc.1; have := bcc.2; have : (0 : Int32).toInt = 0 := (by decide); have : (60 : Int32).toInt = 60 := (by decide); have : (61 : Int32).toInt = 61 := (by decide); have : (62 : Int32).toInt = 62 := (by decide); omega))
        have st_94 : zss σ_12 (zfl 1 σ_12) := zsm.fl.ss
        have ss_94 : zss σ (zfl 1 σ_12) := ss_12.trans st_94
        have cc_94 : zCc Γ F F_91 th (zTo Bt nt) σ (zfl 1 σ_12) ((0 : Int32).toInt) := (cc_12.mv hfF_91 hth (by decide) (zTo_P Bt nt) zsm.fl.cs)
        generalize hσ_94 : zfl 1 σ_12 = σ_94 at c1_94 rc_94 st_94 ss_94 cc_94
        obtain ⟨⟨x_95, kx_95, nx_95⟩, ⟨x_96, kx_96, nx_96⟩, ox_95⟩ := id c1_94
        have gx_95 := zC1.nx c1_94 hLs_.1 kx_95
        have bx_95 : zB 0 600 x_95 := ⟨by omega, by have := hLs_.2.1; omega⟩
        have bx_96 := zB.all x_96
        have mo_94 := zss.nx st_94 ox_13 ox_95
        subst hQ
        exact W.vret hx hb hr (fun t ht hW => ⟨⟨F_91, rfl, ⟨⟨x_10, (hfF_91.f hth 11 ⟨by decide, by decide⟩ kx_10), bx_10, (by have := br_16.1; have := br_16.2; have := bx_10.1; have := bx_10.2; have := bfcv.1; have := bfcv.2; have := bsz_.1; have := bsz_.2; have := bx_95.1; have := bx_95.2; have := bx_96.1; have := bx_96.2; have := bcc.1; have := bcc.2; have : (0 : Int32).toInt = 0 := (by decide); have : (60 : Int32).toInt = 60 := (by decide); have : (61 : Int32).toInt = 61 := (by decide); have : (62 : Int32).toInt = 62 := (by decide); omega)⟩, ⟨σ_94, c1_94, rc_94, ss_94, (cc_94.w (by have := br_16.1; have := br_16.2; have := bx_10.1; have := bx_10.2; have := bfcv.1; have := bfcv.2; have := bsz_.1; have := bsz_.2; have := bx_95.1; have := bx_95.2; have := bx_96.1; have := bx_96.2; have := bcc.1; have := bcc.2; have : (0 : Int32).toInt = 0 := (by decide); have : (60 : Int32).toInt = 60 := (by decide); have : (61 : Int32).toInt = 61 := (by decide); have : (62 : Int32).toInt = 62 := (by decide); omega))⟩, trivial⟩, by rw [ht]; exact h.1, h.2.1, (hfF_7.trans hfF_91 (by decide))⟩, h.2.2.F ht⟩) h.2.2.2.2 dX7_readTest_33
