abbrev zR_sum (l : Launch) (nv : Nat) : Prop := ∀ (D : va_G) (k : Nat → ClassId) (Γ : Nat → Option Nat) (L : List Nat) (F : Nat → va_E) (sz : Nat) (th : Nat) (d : Int32) (pr : Nat) (tk : Nat) (co : Nat) (Bt : Nat → Int32) (nt : Nat) (Nt : Nat) (cc : Int32) (σ : zSg) (hth : Γ th = some 7) (bd : zB 0 6 d) (kpr : zfld F th 3 = .ref pr) (hpr : Γ pr = some 6) (ktk : zfld F th 4 = .ref tk) (htk : Γ tk = some 8) (kco : zfld F th 5 = .ref co) (hco : Γ co = some 1) (p_tb : zTb Γ F tk Bt nt Nt) (kcc : zfld F th 11 = .int cc) (bcc : zB 0 150 cc) (p_au : zC1 F th Nt (σ)) (hm_ : ∀ i d9, σ = .inl (i, d9) → 4 * cc.toInt + 5 ≤ zpo Bt nt i + (d.toInt)) (hr0 : 6 ≤ d.toInt + (nv : Int)), Met l yX7_readSum zwX7_readSum ({ frames := 10 * nv + 9, cells := 0, slots := 0, locals := 400 * nv + 300 }) (va_Pc [.ref th, .int d] (zP D k Γ L F sz)) (va_Qv (fun (u : Nat → va_E) => (∃ (c9 : Int32), zfld u th 11 = .int c9 ∧ zB 0 150 c9 ∧ (0 ≤ c9.toInt)) ∧ (∃ σ9 : zSg, zC1 u th Nt σ9 ∧ zRc (zTo Bt nt) σ [(13, d.toInt.toNat, 0, 0)] σ9 [] ∧ zss σ σ9 ∧ zCc Γ F u th (zTo Bt nt) σ σ9 (d.toInt)) ∧ True) (zQ D k Γ L F [103, 701, 702, 706, 711, 10200, 10600, 10700, 15800, 15900, 16000, 16100]) (zA L sz)) 0 0 (zA L sz)

set_option maxHeartbeats 4000000 in
set_option maxRecDepth 100000 in
theorem ze_X7_readSumWithin (l : Launch) (D : va_G) (k : Nat → ClassId) (Γ : Nat → Option Nat) (L : List Nat) (F : Nat → va_E) (sz : Nat) (th : Nat) (d : Int32) (pr : Nat) (tk : Nat) (co : Nat) (Bt : Nat → Int32) (nt : Nat) (Nt : Nat) (cc : Int32) (σ : zSg) (nv : Nat) (hth : Γ th = some 7) (bd : zB 0 6 d) (kpr : zfld F th 3 = .ref pr) (hpr : Γ pr = some 6) (ktk : zfld F th 4 = .ref tk) (htk : Γ tk = some 8) (kco : zfld F th 5 = .ref co) (hco : Γ co = some 1) (p_tb : zTb Γ F tk Bt nt Nt) (kcc : zfld F th 11 = .int cc) (bcc : zB 0 150 cc) (p_au : zC1 F th Nt (σ)) (hm_ : ∀ i d9, σ = .inl (i, d9) → 4 * cc.toInt + 5 ≤ zpo Bt nt i + (d.toInt + 1)) (hr0 : 6 ≤ d.toInt + (nv : Int)) (hrec : ∀ q : Nat, nv = q + 1 → zR_sum l q) (hr1 : (6 ≤ d.toInt → ∃ q, σ = .inr q)) : Met l yX7_readSumWithin zwX7_readSumWithin ({ frames := 10 * nv + 4, cells := 0, slots := 0, locals := 400 * nv + 100 }) (va_Pc [.ref th, .int d] (zP D k Γ L F sz)) (va_Qv (fun (u : Nat → va_E) => (∃ (c9 : Int32), zfld u th 11 = .int c9 ∧ zB 0 150 c9 ∧ (0 ≤ c9.toInt)) ∧ (∃ σ9 : zSg, zC1 u th Nt σ9 ∧ zRc (zTo Bt nt) σ [(13, d.toInt.toNat + 1, 0, 0)] σ9 [] ∧ zss σ σ9 ∧ zCc Γ F u th (zTo Bt nt) σ σ9 (d.toInt + 1)) ∧ True) (zQ D k Γ L F [103, 701, 702, 706, 711, 10200, 10600, 10700, 15800, 15900, 16000, 16100]) (zA L sz)) 0 0 (zA L sz) := by
  refine Met.ofW (cc := cX7_readSumWithin) (maxL := 2) (ret := none) (by decide) rfl ?_
  intro p e s m args below meth c s₁ B hml hv
  obtain ⟨rfl, hsz, hP, hK, hLn, hE, hI⟩ := hv
  have hx := B.exec
  have hb := B.bytes
  have hr := B.returns
  have hg : ∀ w ∈ zG, w.before _ s = true := fun w h9 => atoms_spec (ws := zwX7_readSumWithin) B.pre w (List.mem_cons_of_mem _ h9)
  have hown : s.vm.findClass RX7 = some m.cls := findClass_of_methodNamed B.named
  have hlocks := B.notSynchronized
  subst hsz
  have Z : zC p m c cX7_readSumWithin 2 s _ zG RX7 D k L := ⟨⟨hx, hb, hml, hown, hg⟩, hK, hLn, hE⟩
  have h : zH D k Γ L s F s.heap [] := ⟨hP, hI, va_S.rf⟩
  have hl := lv_entry ([.ref th, .int d]) (n := 2) (Nat.le_of_ble_eq_true rfl)
  rw [lg_entry_eq]
  generalize (lg_sl ([.ref th, .int d]) ++ List.replicate (2 - (lg_sl ([.ref th, .int d])).length) Slot.unset).toArray = ls at hl ⊢
  have hl : lv_has ls 2 [(0, .ref th), (1, .int d)] := hl
  clear hP hK hLn hE hI
  generalize hargs : ([.ref th, .int d] : List Value).toArray = args at *
  refine z_start (fun R Q hRf hRl hQ => ?_)
  have hRf : R.frames = 10 * nv + 4 := hRf
  have hRl : R.locals = 400 * nv + 100 := hRl
  have h9 := h
  have hLs_ := p_tb.2.2.2.1
  obtain ⟨sz_, ksz_, tsz_⟩ := p_tb.2.2.1
  have bsz_ : zB 1 601 sz_ := ⟨by have := hLs_.1; omega, by have := hLs_.2.1; omega⟩
  obtain ⟨⟨x_1, kx_1, nx_1⟩, ⟨x_2, kx_2, nx_2⟩, ox_1⟩ := id p_au
  have gx_1 := zC1.nx p_au hLs_.1 kx_1
  have bx_1 : zB 0 600 x_1 := ⟨by omega, by have := hLs_.2.1; omega⟩
  have bx_2 := zB.all x_2
  have ad_3 := z_ad (j := 7) (c := 106) h.2.1 hth (by decide) rfl
  have ad_4 := z_ad (j := 8) (c := 107) h.2.1 hth (by decide) rfl
  have cc0_ : zCc Γ F F th (zTo Bt nt) σ σ (d.toInt + 1) := zCc.rf kcc bcc.1 ⟨ad_3, ad_4⟩ hm_
  have rc0_ : zRc (zTo Bt nt) σ [(13, d.toInt.toNat + 1, 0, 0)] σ [(13, d.toInt.toNat + 1, 0, 0)] := zRc.rf
  have ss0_ : zss σ σ := zss.rf
  refine lv_iload_n hx hb dX7_readSumWithin_0 rfl (lv_at hl 1 rfl) ?_
  refine lv_bipush (v := 6) hx hb dX7_readSumWithin_1 (by decide) ?_
  refine lv_icmp_ge (tgt := 13) hx hb dX7_readSumWithin_3 (by decide) (fun c_5 => ?_) (fun c_5 => ?_)
  · have c_5 := z_le c_5
    have bd_6 : zB 6 6 d := zB.leR c_5 (zBc 6 6 (by decide)) bd (by decide)
    have rc_7 : zRc (zTo Bt nt) σ [(13, d.toInt.toNat + 1, 0, 0)] σ [] := zRc.badY rc0_ (hr1 (by have := bd_6.1; have := bd_6.2; have := bcc.1; have := bcc.2; have := bsz_.1; have := bsz_.2; have := bx_1.1; have := bx_1.2; have := bx_2.1; have := bx_2.2; have : (6 : Int32).toInt = 6 := (by decide); omega))
    subst hQ
    exact W.vret hx hb hr (fun t ht hW => ⟨⟨F, rfl, ⟨⟨cc, kcc, bcc, (by have := bd_6.1; have := bd_6.2; have := bcc.1; have := bcc.2; have := bsz_.1; have := bsz_.2; have := bx_1.1; have := bx_1.2; have := bx_2.1; have := bx_2.2; have : (6 : Int32).toInt = 6 := (by decide); omega)⟩, ⟨σ, p_au, rc_7, ss0_, (cc0_.w (by have := bd_6.1; have := bd_6.2; have := bcc.1; have := bcc.2; have := bsz_.1; have := bsz_.2; have := bx_1.1; have := bx_1.2; have := bx_2.1; have := bx_2.2; have : (6 : Int32).toInt = 6 := (by decide); omega))⟩, trivial⟩, by rw [ht]; exact h.1, h.2.1, zFr.rf⟩, h.2.2.F ht⟩) h.2.2.2.2 dX7_readSumWithin_13
  · have c_5 := z_nle c_5
    have bd_8 : zB 0 5 d := zB.ltL c_5 bd (zBc 6 6 (by decide)) (by decide)
    refine lv_aload_n hx hb dX7_readSumWithin_6 rfl (lv_at hl 0 rfl) ?_
    refine lv_iload_n hx hb dX7_readSumWithin_7 rfl (lv_at hl 1 rfl) ?_
    refine lv_iconst (v := 1) hx hb dX7_readSumWithin_8 (by decide) ?_
    refine lv_iadd hx hb dX7_readSumWithin_9 ?_
    refine zi_add (lo := 1) (hi := 6) bd_8 (zBc 1 1 (by decide)) (by decide) (fun x_9 bx_9 tx_9 => ?_)
    refine zk_Vv (As := [.int x_9]) (rest := []) (bytes := cX7_readSum) (maxL := 4) (ret := none) Z h (hrec (nv - 1) (by have := bd_8.1; have := bd_8.2; have := bx_9.1; have := bx_9.2; have := bcc.1; have := bcc.2; have := bsz_.1; have := bsz_.2; have := bx_1.1; have := bx_1.2; have := bx_2.1; have := bx_2.2; have : (1 : Int32).toInt = 1 := (by decide); have : (6 : Int32).toInt = 6 := (by decide); omega) D k Γ L F s.heap.size th x_9 pr tk co Bt nt Nt cc σ  hth (bx_9.w ⟨by decide, by decide⟩) kpr hpr ktk htk kco hco p_tb kcc bcc p_au (zCc.m (cc0_.w (dep' := x_9.toInt) (by have := bd_8.1; have := bd_8.2; have := bx_9.1; have := bx_9.2; have := bcc.1; have := bcc.2; have := bsz_.1; have := bsz_.2; have := bx_1.1; have := bx_1.2; have := bx_2.1; have := bx_2.2; have : (1 : Int32).toInt = 1 := (by decide); have : (6 : Int32).toInt = 6 := (by decide); omega)) kcc) (by have := bd_8.1; have := bd_8.2; have := bx_9.1; have := bx_9.2; have := bcc.1; have := bcc.2; have := bsz_.1; have := bsz_.2; have := bx_1.1; have := bx_1.2; have := bx_2.1; have := bx_2.2; have : (1 : Int32).toInt = 1 := (by decide); have : (6 : Int32).toInt = 6 := (by decide); omega)) (cwV 1 hg zv_RX7_161 rfl rfl rfl zd_X7_readSum ⟨z_leR hRf (by have := bd_8.1; have := bd_8.2; have := bx_9.1; have := bx_9.2; have := bcc.1; have := bcc.2; have := bsz_.1; have := bsz_.2; have := bx_1.1; have := bx_1.2; have := bx_2.1; have := bx_2.2; have : (1 : Int32).toInt = 1 := (by decide); have : (6 : Int32).toInt = 6 := (by decide); dsimp only; omega), z_leR hRl (by have := bd_8.1; have := bd_8.2; have := bx_9.1; have := bx_9.2; have := bcc.1; have := bcc.2; have := bsz_.1; have := bsz_.2; have := bx_1.1; have := bx_1.2; have := bx_2.1; have := bx_2.2; have : (1 : Int32).toInt = 1 := (by decide); have : (6 : Int32).toInt = 6 := (by decide); dsimp only; omega)⟩) hth (by decide) rfl rfl hl.1 rfl (Nat.le_of_ble_eq_true rfl) dX7_readSumWithin_10 ⟨Nat.zero_le _, Nat.zero_le _⟩ (fun F_10 H locs w_11 h hfF_10 => ?_)
    obtain ⟨⟨x_13, kx_13, bx_13, q_12⟩, ⟨σ_15, c1_15, rn_15, st_15, cn_15⟩, -⟩ := w_11
    have rc_15 : zRc (zTo Bt nt) σ [(13, d.toInt.toNat + 1, 0, 0)] σ_15 [] := zRc.calls rc0_ (rn_15.x (zSy_eq (by have := bd_8.1; have := bd_8.2; have := bx_9.1; have := bx_9.2; have := bcc.1; have := bcc.2; have := bx_13.1; have := bx_13.2; have := bsz_.1; have := bsz_.2; have : (1 : Int32).toInt = 1 := (by decide); have : (6 : Int32).toInt = 6 := (by decide); omega) (by have := bd_8.1; have := bd_8.2; have := bx_9.1; have := bx_9.2; have := bcc.1; have := bcc.2; have := bx_13.1; have := bx_13.2; have := bsz_.1; have := bsz_.2; have : (1 : Int32).toInt = 1 := (by decide); have : (6 : Int32).toInt = 6 := (by decide); omega) (by have := bd_8.1; have := bd_8.2; have := bx_9.1; have := bx_9.2; have := bcc.1; have := bcc.2; have := bx_13.1; have := bx_13.2; have := bsz_.1; have := bsz_.2; have : (1 : Int32).toInt = 1 := (by decide); have : (6 : Int32).toInt = 6 := (by decide); omega)))
    have ss_15 : zss σ σ_15 := ss0_.trans st_15
    have cc_15 : zCc Γ F F_10 th (zTo Bt nt) σ (σ_15) (x_9.toInt) := zCc.call cc0_ cn_15
    obtain ⟨⟨x_16, kx_16, nx_16⟩, ⟨x_17, kx_17, nx_17⟩, ox_16⟩ := id c1_15
    have gx_16 := zC1.nx c1_15 hLs_.1 kx_16
    have bx_16 : zB 0 600 x_16 := ⟨by omega, by have := hLs_.2.1; omega⟩
    have bx_17 := zB.all x_17
    have mo_15 := zss.nx st_15 ox_1 ox_16
    subst hQ
    exact W.vret hx hb hr (fun t ht hW => ⟨⟨F_10, rfl, ⟨⟨x_13, kx_13, bx_13, (by have := bd_8.1; have := bd_8.2; have := bx_13.1; have := bx_13.2; have := bsz_.1; have := bsz_.2; have := bx_16.1; have := bx_16.2; have := bx_17.1; have := bx_17.2; have := bcc.1; have := bcc.2; have : (1 : Int32).toInt = 1 := (by decide); have : (6 : Int32).toInt = 6 := (by decide); omega)⟩, ⟨σ_15, c1_15, rc_15, ss_15, (cc_15.w (by have := bd_8.1; have := bd_8.2; have := bx_13.1; have := bx_13.2; have := bsz_.1; have := bsz_.2; have := bx_16.1; have := bx_16.2; have := bx_17.1; have := bx_17.2; have := bcc.1; have := bcc.2; have : (1 : Int32).toInt = 1 := (by decide); have : (6 : Int32).toInt = 6 := (by decide); omega))⟩, trivial⟩, by rw [ht]; exact h.1, h.2.1, hfF_10⟩, h.2.2.F ht⟩) h.2.2.2.2 dX7_readSumWithin_13

set_option maxHeartbeats 4000000 in
set_option maxRecDepth 100000 in
theorem ze_X7_readSums (l : Launch) (D : va_G) (k : Nat → ClassId) (Γ : Nat → Option Nat) (L : List Nat) (F : Nat → va_E) (sz : Nat) (th : Nat) (d : Int32) (pr : Nat) (tk : Nat) (co : Nat) (Bt : Nat → Int32) (nt : Nat) (Nt : Nat) (cc : Int32) (σ : zSg) (tn : Nat) (nv : Nat) (hth : Γ th = some 7) (bd : zB 0 6 d) (kpr : zfld F th 3 = .ref pr) (hpr : Γ pr = some 6) (ktk : zfld F th 4 = .ref tk) (htk : Γ tk = some 8) (kco : zfld F th 5 = .ref co) (hco : Γ co = some 1) (p_tb : zTb Γ F tk Bt nt Nt) (kcc : zfld F th 11 = .int cc) (bcc : zB 0 150 cc) (p_au : zC1 F th Nt (σ)) (hm_ : ∀ i d9, σ = .inl (i, d9) → 4 * cc.toInt + 5 ≤ zpo Bt nt i + (d.toInt + 1)) (hr0 : 6 ≤ d.toInt + (nv : Int)) (hrec : ∀ q : Nat, nv = q + 1 → zR_sum l q) (hr1 : (6 ≤ d.toInt → ∃ q, σ = .inr q)) : Met l yX7_readSums zwX7_readSums ({ frames := 10 * nv + 5, cells := 0, slots := 0, locals := 400 * nv + 140 }) (va_Pc [.ref th, .int d] (zP D k Γ L F sz)) (va_Qi (fun (r : Int32) (u : Nat → va_E) => zB 0 3 r ∧ (∃ (c9 : Int32), zfld u th 11 = .int c9 ∧ zB 0 150 c9 ∧ (0 ≤ c9.toInt)) ∧ (∃ σ9 : zSg, zC1 u th Nt σ9 ∧ zRc (zTo Bt nt) σ [(19, d.toInt.toNat, tn, 0)] σ9 [(6, 41, 0, 0), (21, tn, r.toInt.toNat, 0)] ∧ zss σ σ9 ∧ zCc Γ F u th (zTo Bt nt) σ σ9 (d.toInt + 1)) ∧ True) (zQ D k Γ L F [103, 701, 702, 706, 711, 10200, 10600, 10700, 15800, 15900, 16000, 16100]) (zA L sz)) 0 0 (zA L sz) := by
  refine Met.ofW (cc := cX7_readSums) (maxL := 4) (ret := (some .int)) (by decide) rfl ?_
  intro p e s m args below meth c s₁ B hml hv
  obtain ⟨rfl, hsz, hP, hK, hLn, hE, hI⟩ := hv
  have hx := B.exec
  have hb := B.bytes
  have hr := B.returns
  have hg : ∀ w ∈ zG, w.before _ s = true := fun w h9 => atoms_spec (ws := zwX7_readSums) B.pre w (List.mem_cons_of_mem _ h9)
  have hown : s.vm.findClass RX7 = some m.cls := findClass_of_methodNamed B.named
  have hlocks := B.notSynchronized
  subst hsz
  have Z : zC p m c cX7_readSums 4 s _ zG RX7 D k L := ⟨⟨hx, hb, hml, hown, hg⟩, hK, hLn, hE⟩
  have h : zH D k Γ L s F s.heap [] := ⟨hP, hI, va_S.rf⟩
  have hl := lv_entry ([.ref th, .int d]) (n := 4) (Nat.le_of_ble_eq_true rfl)
  rw [lg_entry_eq]
  generalize (lg_sl ([.ref th, .int d]) ++ List.replicate (4 - (lg_sl ([.ref th, .int d])).length) Slot.unset).toArray = ls at hl ⊢
  have hl : lv_has ls 4 [(0, .ref th), (1, .int d)] := hl
  clear hP hK hLn hE hI
  generalize hargs : ([.ref th, .int d] : List Value).toArray = args at *
  refine z_start (fun R Q hRf hRl hQ => ?_)
  have hRf : R.frames = 10 * nv + 5 := hRf
  have hRl : R.locals = 400 * nv + 140 := hRl
  have h9 := h
  have hLs_ := p_tb.2.2.2.1
  obtain ⟨sz_, ksz_, tsz_⟩ := p_tb.2.2.1
  have bsz_ : zB 1 601 sz_ := ⟨by have := hLs_.1; omega, by have := hLs_.2.1; omega⟩
  obtain ⟨⟨x_1, kx_1, nx_1⟩, ⟨x_2, kx_2, nx_2⟩, ox_1⟩ := id p_au
  have gx_1 := zC1.nx p_au hLs_.1 kx_1
  have bx_1 : zB 0 600 x_1 := ⟨by omega, by have := hLs_.2.1; omega⟩
  have bx_2 := zB.all x_2
  have ad_3 := z_ad (j := 7) (c := 106) h.2.1 hth (by decide) rfl
  have ad_4 := z_ad (j := 8) (c := 107) h.2.1 hth (by decide) rfl
  have cc0_ : zCc Γ F F th (zTo Bt nt) σ σ (d.toInt + 1) := zCc.rf kcc bcc.1 ⟨ad_3, ad_4⟩ hm_
  have rc0_ : zRc (zTo Bt nt) σ [(19, d.toInt.toNat, tn, 0)] σ [(19, d.toInt.toNat, tn, 0)] := zRc.rf
  have ss0_ : zss σ σ := zss.rf
  refine lv_aload_n hx hb dX7_readSums_0 rfl (lv_at hl 0 rfl) ?_
  refine zk_Vi (As := []) (rest := []) (bytes := cX7_kind) (maxL := 2) (ret := (some .int)) Z h (ze_X7_kind l D k Γ L F s.heap.size th tk Bt nt Nt σ hth ktk htk p_tb p_au) (cwV 0 hg zv_RX7_65 rfl rfl rfl zd_X7_kind ⟨z_leR hRf (by have := bd.1; have := bd.2; have := bcc.1; have := bcc.2; have := bsz_.1; have := bsz_.2; have := bx_1.1; have := bx_1.2; have := bx_2.1; have := bx_2.2; dsimp only; omega), z_leR hRl (by have := bd.1; have := bd.2; have := bcc.1; have := bcc.2; have := bsz_.1; have := bsz_.2; have := bx_1.1; have := bx_1.2; have := bx_2.1; have := bx_2.2; dsimp only; omega)⟩) hth (by decide) rfl rfl hl.1 rfl (Nat.le_of_ble_eq_true rfl) dX7_readSums_1 ⟨Nat.zero_le _, Nat.zero_le _⟩ (fun r_5 F_6 H locs w_7 h hfF_6 => ?_)
  obtain ⟨rfl, q_8, -⟩ := w_7
  have br_5 := zB.all r_5
  refine lv_bipush (v := 41) hx hb dX7_readSums_4 (by decide) ?_
  refine lv_icmp_ne (tgt := 11) hx hb dX7_readSums_6 (by decide) (fun c_9 => ?_) (fun c_9 => ?_)
  · have c_9 := z_ne c_9
    have rc_10 : zRc (zTo Bt nt) σ [(19, d.toInt.toNat, tn, 0)] σ [(13, d.toInt.toNat + 1, 0, 0), (20, d.toInt.toNat, tn, 1)] := zRc.sums1 (N := Nt) rc0_ (by have := bd.1; have := bd.2; have := br_5.1; have := br_5.2; have := bcc.1; have := bcc.2; have := bsz_.1; have := bsz_.2; have := bx_1.1; have := bx_1.2; have := bx_2.1; have := bx_2.2; have : (41 : Int32).toInt = 41 := (by decide); omega)
    refine lv_aload_n hx hb dX7_readSums_11 rfl (lv_at hl 0 rfl) ?_
    refine lv_iload_n hx hb dX7_readSums_12 rfl (lv_at hl 1 rfl) ?_
    refine zk_Vv (As := [.int d]) (rest := []) (bytes := cX7_readSumWithin) (maxL := 2) (ret := none) Z h (ze_X7_readSumWithin l D k Γ L F H.size th d pr tk co Bt nt Nt cc σ nv hth bd kpr hpr ktk htk kco hco p_tb kcc bcc p_au (zCc.m (cc0_.w (dep' := d.toInt + 1) (by have := bd.1; have := bd.2; have := bcc.1; have := bcc.2; have := br_5.1; have := br_5.2; have := bsz_.1; have := bsz_.2; have := bx_1.1; have := bx_1.2; have := bx_2.1; have := bx_2.2; have : (41 : Int32).toInt = 41 := (by decide); omega)) kcc) (by have := bd.1; have := bd.2; have := bcc.1; have := bcc.2; have := br_5.1; have := br_5.2; have := bsz_.1; have := bsz_.2; have := bx_1.1; have := bx_1.2; have := bx_2.1; have := bx_2.2; have : (41 : Int32).toInt = 41 := (by decide); omega) hrec hr1) (cwV 1 hg zv_RX7_191 rfl rfl rfl zd_X7_readSumWithin ⟨z_leR hRf (by have := bd.1; have := bd.2; have := br_5.1; have := br_5.2; have := bcc.1; have := bcc.2; have := bsz_.1; have := bsz_.2; have := bx_1.1; have := bx_1.2; have := bx_2.1; have := bx_2.2; have : (41 : Int32).toInt = 41 := (by decide); dsimp only; omega), z_leR hRl (by have := bd.1; have := bd.2; have := br_5.1; have := br_5.2; have := bcc.1; have := bcc.2; have := bsz_.1; have := bsz_.2; have := bx_1.1; have := bx_1.2; have := bx_2.1; have := bx_2.2; have : (41 : Int32).toInt = 41 := (by decide); dsimp only; omega)⟩) hth (by decide) rfl rfl hl.1 rfl (Nat.le_of_ble_eq_true rfl) dX7_readSums_13 ⟨Nat.zero_le _, Nat.zero_le _⟩ (fun F_11 H locs w_12 h hfF_11 => ?_)
    obtain ⟨⟨x_14, kx_14, bx_14, q_13⟩, ⟨σ_16, c1_16, rn_16, st_16, cn_16⟩, -⟩ := w_12
    have rc_16 : zRc (zTo Bt nt) σ [(19, d.toInt.toNat, tn, 0)] σ_16 [(20, d.toInt.toNat, tn, 1)] := zRc.calls rc_10 (rn_16.x (zSy_eq (by have := bd.1; have := bd.2; have := bcc.1; have := bcc.2; have := bx_14.1; have := bx_14.2; have := br_5.1; have := br_5.2; have := bsz_.1; have := bsz_.2; have : (41 : Int32).toInt = 41 := (by decide); omega) (by have := bd.1; have := bd.2; have := bcc.1; have := bcc.2; have := bx_14.1; have := bx_14.2; have := br_5.1; have := br_5.2; have := bsz_.1; have := bsz_.2; have : (41 : Int32).toInt = 41 := (by decide); omega) (by have := bd.1; have := bd.2; have := bcc.1; have := bcc.2; have := bx_14.1; have := bx_14.2; have := br_5.1; have := br_5.2; have := bsz_.1; have := bsz_.2; have : (41 : Int32).toInt = 41 := (by decide); omega)))
    have ss_16 : zss σ σ_16 := ss0_.trans st_16
    have cc_16 : zCc Γ F F_11 th (zTo Bt nt) σ (σ_16) (d.toInt + 1) := zCc.call cc0_ cn_16
    obtain ⟨⟨x_17, kx_17, nx_17⟩, ⟨x_18, kx_18, nx_18⟩, ox_17⟩ := id c1_16
    have gx_17 := zC1.nx c1_16 hLs_.1 kx_17
    have bx_17 : zB 0 600 x_17 := ⟨by omega, by have := hLs_.2.1; omega⟩
    have bx_18 := zB.all x_18
    have mo_16 := zss.nx st_16 ox_1 ox_17
    have hop_19 : 6 ≤ d.toInt → ∃ q, σ_16 = .inr q := fun h9 => zss.stay st_16 (hr1 h9)
    refine lv_iconst (v := 1) hx hb dX7_readSums_16 (by decide) ?_
    refine lv_istore_n (lv' := [(2, .int 1), (0, .ref th), (1, .int d)]) hx hb dX7_readSums_17 rfl hl (by decide) rfl (fun ls hl => ?_)
    refine lv_iconst (v := 0) hx hb dX7_readSums_18 (by decide) ?_
    refine lv_istore_n (lv' := [(3, .int 0), (2, .int 1), (0, .ref th), (1, .int d)]) hx hb dX7_readSums_19 rfl hl (by decide) rfl (fun ls hl => ?_)
    have j_j20_20 : ∀ (n : Nat) (ls : Array Slot) (y3_j20_20 : Int32) (y2_j20_20 : Int32) (kc_j20_20 : Int32) (σ_j20_20 : zSg) (F_21 : Nat → va_E) (H : Heap) (locs : List Loc), lv_has ls 4 [(3, .int y3_j20_20), (2, .int y2_j20_20), (0, .ref th), (1, .int d)] → zB 0 601 y3_j20_20 → zB 1 3 y2_j20_20 → zH D k Γ L s F_21 H locs → zFr Γ [103, 701, 702, 706, 711, 10200, 10600, 10700, 15800, 15900, 16000, 16100] F_11 F_21 → zfld F_21 th 11 = .int kc_j20_20 → zB 0 150 kc_j20_20 → (y3_j20_20.toInt ≤ znx Nt σ_j20_20) → (6 ≤ d.toInt → ∃ q, σ_j20_20 = .inr q) → zC1 F_21 th Nt (σ_j20_20) → zRc (zTo Bt nt) σ [(19, d.toInt.toNat, tn, 0)] σ_j20_20 [(20, d.toInt.toNat, tn, y2_j20_20.toInt.toNat)] → zss σ σ_j20_20 → zCc Γ F F_21 th (zTo Bt nt) σ (σ_j20_20) (d.toInt + 1) → (2147483647 - y3_j20_20.toInt).toNat = n → W p l e R s m args below meth c H locs 0 0 Q (F0 m 20 ls []) := by
      intro n
      induction n using Nat.strongRecOn with
      | _ n ih_j20_20 =>
        intro ls y3_j20_20 y2_j20_20 kc_j20_20 σ_j20_20 F_21 H locs hl by3_j20_20 by2_j20_20 h hfF_21 hkc_j20_20 bkc_j20_20 r0_j20_20 r1_j20_20 c1_j20_20 rc_j20_20 ss_j20_20 cc_j20_20 hn_j20_20
        obtain ⟨⟨x_22, kx_22, nx_22⟩, ⟨x_23, kx_23, nx_23⟩, ox_22⟩ := id c1_j20_20
        have gx_22 := zC1.nx c1_j20_20 hLs_.1 kx_22
        have bx_22 : zB 0 600 x_22 := ⟨by omega, by have := hLs_.2.1; omega⟩
        have bx_23 := zB.all x_23
        refine lv_iload_n hx hb dX7_readSums_20 rfl (lv_at hl 0 rfl) ?_
        refine lv_aload_n hx hb dX7_readSums_21 rfl (lv_at hl 2 rfl) ?_
        refine zt_getk (t := 7) (C := RX7) (T := TX7) (N := 12) Z h hth zin_7 rfl 4 (hfF_21.f hth 4 ⟨by decide, by decide⟩ (hfF_11.f hth 4 ⟨by decide, by decide⟩ ktk)) ⟨by decide, rfl, by decide⟩ (zm_RX7 (List.mem_of_getElem? (i := 4) rfl)) (fun _ h9 => h9) dX7_readSums_22 ?_
        refine zt_getk (t := 8) (C := RX8) (T := TX8) (N := 6) Z h htk zin_8 rfl 5 (hfF_21.f htk 5 ⟨by decide, by decide⟩ (hfF_11.f htk 5 ⟨by decide, by decide⟩ ksz_)) ⟨by decide, rfl, by decide⟩ (zm_RX7 (List.mem_of_getElem? (i := 56) rfl)) (fun _ h9 => h9) dX7_readSums_25 ?_
        refine lv_icmp_ge (tgt := 91) hx hb dX7_readSums_28 (by decide) (fun c_24 => ?_) (fun c_24 => ?_)
        · have c_24 := z_le c_24
          have by3_j20_20_25 : zB 1 601 y3_j20_20 := zB.leR c_24 bsz_ by3_j20_20 (by decide)
          exfalso
          have := by3_j20_20_25.1; have := by3_j20_20_25.2; have := by2_j20_20.1; have := by2_j20_20.2; have := bd.1; have := bd.2; have := bx_22.1; have := bx_22.2; have := br_5.1; have := br_5.2; have := bkc_j20_20.1; have := bkc_j20_20.2; have := bsz_.1; have := bsz_.2; have := bx_23.1; have := bx_23.2; have := bcc.1; have := bcc.2; have : (41 : Int32).toInt = 41 := (by decide); omega
        · have c_24 := z_nle c_24
          have by3_j20_20_26 : zB 0 600 y3_j20_20 := zB.ltL c_24 by3_j20_20 bsz_ (by decide)
          refine lv_aload_n hx hb dX7_readSums_31 rfl (lv_at hl 2 rfl) ?_
          have p_27 := ((p_tb.fr hfF_11 htk (by decide)).fr hfF_21 htk (by decide))
          refine zk_Vi (As := []) (rest := []) (bytes := cX7_kind) (maxL := 2) (ret := (some .int)) Z h (ze_X7_kind l D k Γ L F_21 H.size th tk Bt nt Nt σ_j20_20 hth (hfF_21.f hth 4 ⟨by decide, by decide⟩ (hfF_11.f hth 4 ⟨by decide, by decide⟩ ktk)) htk p_27 c1_j20_20) (cwV 0 hg zv_RX7_65 rfl rfl rfl zd_X7_kind ⟨z_leR hRf (by have := by3_j20_20_26.1; have := by3_j20_20_26.2; have := by2_j20_20.1; have := by2_j20_20.2; have := bd.1; have := bd.2; have := br_5.1; have := br_5.2; have := bkc_j20_20.1; have := bkc_j20_20.2; have := bsz_.1; have := bsz_.2; have := bx_22.1; have := bx_22.2; have := bx_23.1; have := bx_23.2; have := bcc.1; have := bcc.2; have : (41 : Int32).toInt = 41 := (by decide); dsimp only; omega), z_leR hRl (by have := by3_j20_20_26.1; have := by3_j20_20_26.2; have := by2_j20_20.1; have := by2_j20_20.2; have := bd.1; have := bd.2; have := br_5.1; have := br_5.2; have := bkc_j20_20.1; have := bkc_j20_20.2; have := bsz_.1; have := bsz_.2; have := bx_22.1; have := bx_22.2; have := bx_23.1; have := bx_23.2; have := bcc.1; have := bcc.2; have : (41 : Int32).toInt = 41 := (by decide); dsimp only; omega)⟩) hth (by decide) rfl rfl hl.1 rfl (Nat.le_of_ble_eq_true rfl) dX7_readSums_32 ⟨Nat.zero_le _, Nat.zero_le _⟩ (fun r_28 F_29 H locs w_30 h hfF_29 => ?_)
          obtain ⟨rfl, q_31, -⟩ := w_30
          have br_28 := zB.all r_28
          refine lv_bipush (v := 44) hx hb dX7_readSums_35 (by decide) ?_
          refine lv_icmp_ne (tgt := 91) hx hb dX7_readSums_37 (by decide) (fun c_32 => ?_) (fun c_32 => ?_)
          · have c_32 := z_ne c_32
            have rc_33 : zRc (zTo Bt nt) σ [(19, d.toInt.toNat, tn, 0)] σ_j20_20 [(6, 41, 0, 0), (21, tn, y2_j20_20.toInt.toNat, 0)] := zRc.sumsT0 (N := Nt) rc_j20_20 (by have := by3_j20_20_26.1; have := by3_j20_20_26.2; have := by2_j20_20.1; have := by2_j20_20.2; have := bd.1; have := bd.2; have := br_5.1; have := br_5.2; have := br_28.1; have := br_28.2; have := bkc_j20_20.1; have := bkc_j20_20.2; have := bsz_.1; have := bsz_.2; have := bx_22.1; have := bx_22.2; have := bx_23.1; have := bx_23.2; have := bcc.1; have := bcc.2; have : (41 : Int32).toInt = 41 := (by decide); have : (44 : Int32).toInt = 44 := (by decide); omega)
            refine lv_iload_n hx hb dX7_readSums_91 rfl (lv_at hl 1 rfl) ?_
            subst hQ
            exact W.iret (v := y2_j20_20) hx hb hr (fun t ht hW => ⟨⟨y2_j20_20, F_21, rfl, ⟨(by2_j20_20.w ⟨by decide, by decide⟩), ⟨kc_j20_20, hkc_j20_20, bkc_j20_20, (by have := by3_j20_20_26.1; have := by3_j20_20_26.2; have := by2_j20_20.1; have := by2_j20_20.2; have := bd.1; have := bd.2; have := bkc_j20_20.1; have := bkc_j20_20.2; have := br_5.1; have := br_5.2; have := br_28.1; have := br_28.2; have := bsz_.1; have := bsz_.2; have := bx_22.1; have := bx_22.2; have := bx_23.1; have := bx_23.2; have := bcc.1; have := bcc.2; have : (41 : Int32).toInt = 41 := (by decide); have : (44 : Int32).toInt = 44 := (by decide); omega)⟩, ⟨σ_j20_20, c1_j20_20, rc_33, ss_j20_20, (cc_j20_20.w (by have := by3_j20_20_26.1; have := by3_j20_20_26.2; have := by2_j20_20.1; have := by2_j20_20.2; have := bd.1; have := bd.2; have := br_5.1; have := br_5.2; have := br_28.1; have := br_28.2; have := bkc_j20_20.1; have := bkc_j20_20.2; have := bsz_.1; have := bsz_.2; have := bx_22.1; have := bx_22.2; have := bx_23.1; have := bx_23.2; have := bcc.1; have := bcc.2; have : (41 : Int32).toInt = 41 := (by decide); have : (44 : Int32).toInt = 44 := (by decide); omega))⟩, trivial⟩, by rw [ht]; exact h.1, h.2.1, (hfF_11.trans hfF_21 (by decide))⟩, h.2.2.F ht⟩) h.2.2.2.2 dX7_readSums_92
          · have c_32 := z_eq c_32
            have br_28_34 : zB 44 44 r_28 := zB.eqL (a := 0) (b := 0) c_32 (zBc 44 44 (by decide))
            refine lv_aload_n hx hb dX7_readSums_40 rfl (lv_at hl 2 rfl) ?_
            refine lv_dup hx hb dX7_readSums_41 rfl ?_
            refine zt_getk (t := 7) (C := RX7) (T := TX7) (N := 12) Z h hth zin_7 rfl 6 kx_22 ⟨by decide, rfl, by decide⟩ (zm_RX7 (List.mem_of_getElem? (i := 9) rfl)) (fun _ h9 => h9) dX7_readSums_42 ?_
            refine lv_iconst (v := 1) hx hb dX7_readSums_45 (by decide) ?_
            refine lv_iadd hx hb dX7_readSums_46 ?_
            refine zi_add (lo := 1) (hi := 601) bx_22 (zBc 1 1 (by decide)) (by decide) (fun x_35 bx_35 tx_35 => ?_)
            refine zt_put (t := 7) (C := RX7) (T := TX7) (N := 12) (v := .int x_35) Z h hth zin_7 tyX7 tyX7_ok nmX7 rfl 6 rfl ⟨by decide, rfl⟩ (zm_RX7 (List.mem_of_getElem? (i := 9) rfl)) (fun _ h9 => h9) rfl (zV.i (bx_35.w ⟨by decide, by decide⟩)) rfl rfl dX7_readSums_47 (fun H locs F_36 h hfF_36 kF_36 => ?_)
            have c1_37 : zC1 F_36 th Nt (zadv σ_j20_20) := (zC1.adv (T := zTo Bt nt) c1_j20_20 hfF_36 hth (by decide) kx_22 kF_36 (by have := by3_j20_20_26.1; have := by3_j20_20_26.2; have := by2_j20_20.1; have := by2_j20_20.2; have := bd.1; have := bd.2; have := bx_22.1; have := bx_22.2; have := br_5.1; have := br_5.2; have := br_28_34.1; have := br_28_34.2; have := bkc_j20_20.1; have := bkc_j20_20.2; have := bsz_.1; have := bsz_.2; have := bx_35.1; have := bx_35.2; have := bx_23.1; have := bx_23.2; have := bcc.1; have := bcc.2; have : (1 : Int32).toInt = 1 := (by decide); have : (41 : Int32).toInt = 41 := (by decide); have : (44 : Int32).toInt = 44 := (by decide); omega) hLs_ ⟨by have := by3_j20_20_26.1; have := by3_j20_20_26.2; have := by2_j20_20.1; have := by2_j20_20.2; have := bd.1; have := bd.2; have := bx_22.1; have := bx_22.2; have := br_5.1; have := br_5.2; have := br_28_34.1; have := br_28_34.2; have := bkc_j20_20.1; have := bkc_j20_20.2; have := bsz_.1; have := bsz_.2; have := bx_35.1; have := bx_35.2; have := bx_23.1; have := bx_23.2; have := bcc.1; have := bcc.2; have : (1 : Int32).toInt = 1 := (by decide); have : (41 : Int32).toInt = 41 := (by decide); have : (44 : Int32).toInt = 44 := (by decide); omega, by have := by3_j20_20_26.1; have := by3_j20_20_26.2; have := by2_j20_20.1; have := by2_j20_20.2; have := bd.1; have := bd.2; have := bx_22.1; have := bx_22.2; have := br_5.1; have := br_5.2; have := br_28_34.1; have := br_28_34.2; have := bkc_j20_20.1; have := bkc_j20_20.2; have := bsz_.1; have := bsz_.2; have := bx_35.1; have := bx_35.2; have := bx_23.1; have := bx_23.2; have := bcc.1; have := bcc.2; have : (1 : Int32).toInt = 1 := (by decide); have : (41 : Int32).toInt = 41 := (by decide); have : (44 : Int32).toInt = 44 := (by decide); omega⟩)
            have st_37 : zss σ_j20_20 (zadv σ_j20_20) := zsm.adv.ss
            have ss_37 : zss σ (zadv σ_j20_20) := ss_j20_20.trans st_37
            have cc_37 : zCc Γ F F_36 th (zTo Bt nt) σ (zadv σ_j20_20) (d.toInt + 1) := (cc_j20_20.mv hfF_36 hth (by decide) (zTo_P Bt nt) zsm.adv.cs)
            obtain ⟨σ_37, hσ_37⟩ : ∃ z, z = zadv σ_j20_20 := ⟨_, rfl⟩
            rw [← hσ_37] at c1_37 st_37 ss_37 cc_37
            obtain ⟨⟨x_38, kx_38, nx_38⟩, ⟨x_39, kx_39, nx_39⟩, ox_38⟩ := id c1_37
            have gx_38 := zC1.nx c1_37 hLs_.1 kx_38
            have bx_38 : zB 0 600 x_38 := ⟨by omega, by have := hLs_.2.1; omega⟩
            have bx_39 := zB.all x_39
            have vx_38 := congrArg Int32.toInt (z_same kF_36 kx_38)
            have mo_37 := zss.nx st_37 ox_22 ox_38
            refine lv_iload_n hx hb dX7_readSums_50 rfl (lv_at hl 1 rfl) ?_
            refine lv_iconst (v := 3) hx hb dX7_readSums_51 (by decide) ?_
            refine lv_icmp_lt (tgt := 77) hx hb dX7_readSums_52 (by decide) (fun c_40 => ?_) (fun c_40 => ?_)
            · have c_40 := z_lt c_40
              have by2_j20_20_41 : zB 1 2 y2_j20_20 := zB.ltL c_40 by2_j20_20 (zBc 3 3 (by decide)) (by decide)
              have rc_42 : zRc (zTo Bt nt) σ [(19, d.toInt.toNat, tn, 0)] σ_37 [(13, d.toInt.toNat + 1, 0, 0), (20, d.toInt.toNat, tn, y2_j20_20.toInt.toNat + 1)] := by rw [hσ_37]; exact zRc.sumsT1 (N := Nt) rc_j20_20 (by have := by3_j20_20_26.1; have := by3_j20_20_26.2; have := by2_j20_20_41.1; have := by2_j20_20_41.2; have := bd.1; have := bd.2; have := br_5.1; have := br_5.2; have := br_28_34.1; have := br_28_34.2; have := bkc_j20_20.1; have := bkc_j20_20.2; have := bsz_.1; have := bsz_.2; have := bx_38.1; have := bx_38.2; have := bx_39.1; have := bx_39.2; have := bcc.1; have := bcc.2; have : (1 : Int32).toInt = 1 := (by decide); have : (3 : Int32).toInt = 3 := (by decide); have : (41 : Int32).toInt = 41 := (by decide); have : (44 : Int32).toInt = 44 := (by decide); omega) (by have := by3_j20_20_26.1; have := by3_j20_20_26.2; have := by2_j20_20_41.1; have := by2_j20_20_41.2; have := bd.1; have := bd.2; have := br_5.1; have := br_5.2; have := br_28_34.1; have := br_28_34.2; have := bkc_j20_20.1; have := bkc_j20_20.2; have := bsz_.1; have := bsz_.2; have := bx_38.1; have := bx_38.2; have := bx_39.1; have := bx_39.2; have := bcc.1; have := bcc.2; have : (1 : Int32).toInt = 1 := (by decide); have : (3 : Int32).toInt = 3 := (by decide); have : (41 : Int32).toInt = 41 := (by decide); have : (44 : Int32).toInt = 44 := (by decide); omega)
              have hop_43 : 6 ≤ d.toInt → ∃ q, σ_37 = .inr q := fun h9 => by rw [hσ_37]; exact zbad_adv (r1_j20_20 h9)
              refine lv_aload_n hx hb dX7_readSums_77 rfl (lv_at hl 2 rfl) ?_
              refine lv_iload_n hx hb dX7_readSums_78 rfl (lv_at hl 3 rfl) ?_
              have p_44 := (p_27.fr hfF_36 htk (by decide))
              refine zk_Vv (As := [.int d]) (rest := []) (bytes := cX7_readSumWithin) (maxL := 2) (ret := none) Z h (ze_X7_readSumWithin l D k Γ L F_36 H.size th d pr tk co Bt nt Nt kc_j20_20 σ_37 nv hth bd (hfF_36.f hth 3 ⟨by decide, by decide⟩ (hfF_21.f hth 3 ⟨by decide, by decide⟩ (hfF_11.f hth 3 ⟨by decide, by decide⟩ kpr))) hpr (hfF_36.f hth 4 ⟨by decide, by decide⟩ (hfF_21.f hth 4 ⟨by decide, by decide⟩ (hfF_11.f hth 4 ⟨by decide, by decide⟩ ktk))) htk (hfF_36.f hth 5 ⟨by decide, by decide⟩ (hfF_21.f hth 5 ⟨by decide, by decide⟩ (hfF_11.f hth 5 ⟨by decide, by decide⟩ kco))) hco p_44 (hfF_36.f hth 11 ⟨by decide, by decide⟩ hkc_j20_20) bkc_j20_20 c1_37 (zCc.m (cc_37.w (dep' := d.toInt + 1) (by have := by3_j20_20_26.1; have := by3_j20_20_26.2; have := by2_j20_20_41.1; have := by2_j20_20_41.2; have := bd.1; have := bd.2; have := bkc_j20_20.1; have := bkc_j20_20.2; have := br_5.1; have := br_5.2; have := br_28_34.1; have := br_28_34.2; have := bsz_.1; have := bsz_.2; have := bx_38.1; have := bx_38.2; have := bx_39.1; have := bx_39.2; have := bcc.1; have := bcc.2; have : (1 : Int32).toInt = 1 := (by decide); have : (3 : Int32).toInt = 3 := (by decide); have : (41 : Int32).toInt = 41 := (by decide); have : (44 : Int32).toInt = 44 := (by decide); omega)) (hfF_36.f hth 11 ⟨by decide, by decide⟩ hkc_j20_20)) (by have := by3_j20_20_26.1; have := by3_j20_20_26.2; have := by2_j20_20_41.1; have := by2_j20_20_41.2; have := bd.1; have := bd.2; have := bkc_j20_20.1; have := bkc_j20_20.2; have := br_5.1; have := br_5.2; have := br_28_34.1; have := br_28_34.2; have := bsz_.1; have := bsz_.2; have := bx_38.1; have := bx_38.2; have := bx_39.1; have := bx_39.2; have := bcc.1; have := bcc.2; have : (1 : Int32).toInt = 1 := (by decide); have : (3 : Int32).toInt = 3 := (by decide); have : (41 : Int32).toInt = 41 := (by decide); have : (44 : Int32).toInt = 44 := (by decide); omega) hrec hop_43) (cwV 1 hg zv_RX7_191 rfl rfl rfl zd_X7_readSumWithin ⟨z_leR hRf (by have := by3_j20_20_26.1; have := by3_j20_20_26.2; have := by2_j20_20_41.1; have := by2_j20_20_41.2; have := bd.1; have := bd.2; have := br_5.1; have := br_5.2; have := br_28_34.1; have := br_28_34.2; have := bkc_j20_20.1; have := bkc_j20_20.2; have := bsz_.1; have := bsz_.2; have := bx_38.1; have := bx_38.2; have := bx_39.1; have := bx_39.2; have := bcc.1; have := bcc.2; have : (1 : Int32).toInt = 1 := (by decide); have : (3 : Int32).toInt = 3 := (by decide); have : (41 : Int32).toInt = 41 := (by decide); have : (44 : Int32).toInt = 44 := (by decide); dsimp only; omega), z_leR hRl (by have := by3_j20_20_26.1; have := by3_j20_20_26.2; have := by2_j20_20_41.1; have := by2_j20_20_41.2; have := bd.1; have := bd.2; have := br_5.1; have := br_5.2; have := br_28_34.1; have := br_28_34.2; have := bkc_j20_20.1; have := bkc_j20_20.2; have := bsz_.1; have := bsz_.2; have := bx_38.1; have := bx_38.2; have := bx_39.1; have := bx_39.2; have := bcc.1; have := bcc.2; have : (1 : Int32).toInt = 1 := (by decide); have : (3 : Int32).toInt = 3 := (by decide); have : (41 : Int32).toInt = 41 := (by decide); have : (44 : Int32).toInt = 44 := (by decide); dsimp only; omega)⟩) hth (by decide) rfl rfl hl.1 rfl (Nat.le_of_ble_eq_true rfl) dX7_readSums_79 ⟨Nat.zero_le _, Nat.zero_le _⟩ (fun F_45 H locs w_46 h hfF_45 => ?_)
              obtain ⟨⟨x_48, kx_48, bx_48, q_47⟩, ⟨σ_50, c1_50, rn_50, st_50, cn_50⟩, -⟩ := w_46
              have rc_50 : zRc (zTo Bt nt) σ [(19, d.toInt.toNat, tn, 0)] σ_50 [(20, d.toInt.toNat, tn, y2_j20_20.toInt.toNat + 1)] := zRc.calls rc_42 (rn_50.x (zSy_eq (by have := by3_j20_20_26.1; have := by3_j20_20_26.2; have := by2_j20_20_41.1; have := by2_j20_20_41.2; have := bd.1; have := bd.2; have := bkc_j20_20.1; have := bkc_j20_20.2; have := bx_48.1; have := bx_48.2; have := br_5.1; have := br_5.2; have := br_28_34.1; have := br_28_34.2; have := bsz_.1; have := bsz_.2; have := bcc.1; have := bcc.2; have : (1 : Int32).toInt = 1 := (by decide); have : (3 : Int32).toInt = 3 := (by decide); have : (41 : Int32).toInt = 41 := (by decide); have : (44 : Int32).toInt = 44 := (by decide); omega) (by have := by3_j20_20_26.1; have := by3_j20_20_26.2; have := by2_j20_20_41.1; have := by2_j20_20_41.2; have := bd.1; have := bd.2; have := bkc_j20_20.1; have := bkc_j20_20.2; have := bx_48.1; have := bx_48.2; have := br_5.1; have := br_5.2; have := br_28_34.1; have := br_28_34.2; have := bsz_.1; have := bsz_.2; have := bcc.1; have := bcc.2; have : (1 : Int32).toInt = 1 := (by decide); have : (3 : Int32).toInt = 3 := (by decide); have : (41 : Int32).toInt = 41 := (by decide); have : (44 : Int32).toInt = 44 := (by decide); omega) (by have := by3_j20_20_26.1; have := by3_j20_20_26.2; have := by2_j20_20_41.1; have := by2_j20_20_41.2; have := bd.1; have := bd.2; have := bkc_j20_20.1; have := bkc_j20_20.2; have := bx_48.1; have := bx_48.2; have := br_5.1; have := br_5.2; have := br_28_34.1; have := br_28_34.2; have := bsz_.1; have := bsz_.2; have := bcc.1; have := bcc.2; have : (1 : Int32).toInt = 1 := (by decide); have : (3 : Int32).toInt = 3 := (by decide); have : (41 : Int32).toInt = 41 := (by decide); have : (44 : Int32).toInt = 44 := (by decide); omega)))
              have ss_50 : zss σ σ_50 := ss_37.trans st_50
              have cc_50 : zCc Γ F F_45 th (zTo Bt nt) σ (σ_50) (d.toInt + 1) := zCc.call cc_37 cn_50
              obtain ⟨⟨x_51, kx_51, nx_51⟩, ⟨x_52, kx_52, nx_52⟩, ox_51⟩ := id c1_50
              have gx_51 := zC1.nx c1_50 hLs_.1 kx_51
              have bx_51 : zB 0 600 x_51 := ⟨by omega, by have := hLs_.2.1; omega⟩
              have bx_52 := zB.all x_52
              have mo_50 := zss.nx st_50 ox_38 ox_51
              have hop_53 : 6 ≤ d.toInt → ∃ q, σ_50 = .inr q := fun h9 => zss.stay st_50 (hop_43 h9)
              obtain ⟨x_54, ex_54, bx_54, tx_54⟩ := z_inc (n := 1) (lo := 2) (hi := 3) by2_j20_20_41 (by decide)
              refine lv_iinc (v := x_54) (lv' := [(2, .int x_54), (3, .int y3_j20_20), (0, .ref th), (1, .int d)]) hx hb dX7_readSums_82 hl (k := 1) rfl ex_54 (by decide) rfl (fun ls hl => ?_)
              obtain ⟨x_55, ex_55, bx_55, tx_55⟩ := z_inc (n := 1) (lo := 1) (hi := 601) by3_j20_20_26 (by decide)
              refine lv_iinc (v := x_55) (lv' := [(3, .int x_55), (2, .int x_54), (0, .ref th), (1, .int d)]) hx hb dX7_readSums_85 hl (k := 1) rfl ex_55 (by decide) rfl (fun ls hl => ?_)
              refine lv_goto (tgt := 20) hx hb dX7_readSums_88 (by decide) ?_
              exact ih_j20_20 _ (by have := bx_55.1; have := bx_55.2; have := bx_54.1; have := bx_54.2; have := bd.1; have := bd.2; have := bx_48.1; have := bx_48.2; have := br_5.1; have := br_5.2; have := br_28_34.1; have := br_28_34.2; have := bsz_.1; have := bsz_.2; have := bx_51.1; have := bx_51.2; have := bx_52.1; have := bx_52.2; have := bcc.1; have := bcc.2; have : (1 : Int32).toInt = 1 := (by decide); have : (3 : Int32).toInt = 3 := (by decide); have : (41 : Int32).toInt = 41 := (by decide); have : (44 : Int32).toInt = 44 := (by decide); have := by3_j20_20.1; have := by3_j20_20.2; have := by2_j20_20.1; have := by2_j20_20.2; omega) ls x_55 x_54 x_48 σ_50 F_45 H locs (lv_sub hl [0, 1, 2, 3] rfl) (bx_55.w ⟨by decide, by decide⟩) (bx_54.w ⟨by decide, by decide⟩) h ((hfF_21.trans hfF_36 (by decide)).trans hfF_45 (by decide)) kx_48 bx_48 (by have := bx_55.1; have := bx_55.2; have := bx_54.1; have := bx_54.2; have := bd.1; have := bd.2; have := bx_48.1; have := bx_48.2; have := br_5.1; have := br_5.2; have := br_28_34.1; have := br_28_34.2; have := bsz_.1; have := bsz_.2; have := bx_51.1; have := bx_51.2; have := bx_52.1; have := bx_52.2; have := bcc.1; have := bcc.2; have : (1 : Int32).toInt = 1 := (by decide); have : (3 : Int32).toInt = 3 := (by decide); have : (41 : Int32).toInt = 41 := (by decide); have : (44 : Int32).toInt = 44 := (by decide); omega) hop_53 c1_50 (rc_50.cg (zSy_eq (by have := bx_55.1; have := bx_55.2; have := bx_54.1; have := bx_54.2; have := bd.1; have := bd.2; have := bx_48.1; have := bx_48.2; have := br_5.1; have := br_5.2; have := br_28_34.1; have := br_28_34.2; have := bsz_.1; have := bsz_.2; have := bx_51.1; have := bx_51.2; have := bx_52.1; have := bx_52.2; have := bcc.1; have := bcc.2; have : (1 : Int32).toInt = 1 := (by decide); have : (3 : Int32).toInt = 3 := (by decide); have : (41 : Int32).toInt = 41 := (by decide); have : (44 : Int32).toInt = 44 := (by decide); omega) (by have := bx_55.1; have := bx_55.2; have := bx_54.1; have := bx_54.2; have := bd.1; have := bd.2; have := bx_48.1; have := bx_48.2; have := br_5.1; have := br_5.2; have := br_28_34.1; have := br_28_34.2; have := bsz_.1; have := bsz_.2; have := bx_51.1; have := bx_51.2; have := bx_52.1; have := bx_52.2; have := bcc.1; have := bcc.2; have : (1 : Int32).toInt = 1 := (by decide); have : (3 : Int32).toInt = 3 := (by decide); have : (41 : Int32).toInt = 41 := (by decide); have : (44 : Int32).toInt = 44 := (by decide); omega) (by have := bx_55.1; have := bx_55.2; have := bx_54.1; have := bx_54.2; have := bd.1; have := bd.2; have := bx_48.1; have := bx_48.2; have := br_5.1; have := br_5.2; have := br_28_34.1; have := br_28_34.2; have := bsz_.1; have := bsz_.2; have := bx_51.1; have := bx_51.2; have := bx_52.1; have := bx_52.2; have := bcc.1; have := bcc.2; have : (1 : Int32).toInt = 1 := (by decide); have : (3 : Int32).toInt = 3 := (by decide); have : (41 : Int32).toInt = 41 := (by decide); have : (44 : Int32).toInt = 44 := (by decide); omega))) ss_50 (cc_50.w (by have := bx_55.1; have := bx_55.2; have := bx_54.1; have := bx_54.2; have := bd.1; have := bd.2; have := bx_48.1; have := bx_48.2; have := br_5.1; have := br_5.2; have := br_28_34.1; have := br_28_34.2; have := bsz_.1; have := bsz_.2; have := bx_51.1; have := bx_51.2; have := bx_52.1; have := bx_52.2; have := bcc.1; have := bcc.2; have : (1 : Int32).toInt = 1 := (by decide); have : (3 : Int32).toInt = 3 := (by decide); have : (41 : Int32).toInt = 41 := (by decide); have : (44 : Int32).toInt = 44 := (by decide); omega)) rfl
            · have c_40 := z_nlt c_40
              have by2_j20_20_56 : zB 3 3 y2_j20_20 := zB.leR c_40 (zBc 3 3 (by decide)) by2_j20_20 (by decide)
              refine lv_aload_n hx hb dX7_readSums_55 rfl (lv_at hl 2 rfl) ?_
              refine lv_aload_n hx hb dX7_readSums_56 rfl (lv_at hl 2 rfl) ?_
              have p_57 := (p_27.fr hfF_36 htk (by decide))
              refine zk_Vi (As := []) (rest := [.ref th]) (bytes := cX7_kind) (maxL := 2) (ret := (some .int)) Z h (ze_X7_kind l D k Γ L F_36 H.size th tk Bt nt Nt σ_37 hth (hfF_36.f hth 4 ⟨by decide, by decide⟩ (hfF_21.f hth 4 ⟨by decide, by decide⟩ (hfF_11.f hth 4 ⟨by decide, by decide⟩ ktk))) htk p_57 c1_37) (cwV 0 hg zv_RX7_65 rfl rfl rfl zd_X7_kind ⟨z_leR hRf (by have := by3_j20_20_26.1; have := by3_j20_20_26.2; have := by2_j20_20_56.1; have := by2_j20_20_56.2; have := bd.1; have := bd.2; have := br_5.1; have := br_5.2; have := br_28_34.1; have := br_28_34.2; have := bkc_j20_20.1; have := bkc_j20_20.2; have := bsz_.1; have := bsz_.2; have := bx_38.1; have := bx_38.2; have := bx_39.1; have := bx_39.2; have := bcc.1; have := bcc.2; have : (1 : Int32).toInt = 1 := (by decide); have : (3 : Int32).toInt = 3 := (by decide); have : (41 : Int32).toInt = 41 := (by decide); have : (44 : Int32).toInt = 44 := (by decide); dsimp only; omega), z_leR hRl (by have := by3_j20_20_26.1; have := by3_j20_20_26.2; have := by2_j20_20_56.1; have := by2_j20_20_56.2; have := bd.1; have := bd.2; have := br_5.1; have := br_5.2; have := br_28_34.1; have := br_28_34.2; have := bkc_j20_20.1; have := bkc_j20_20.2; have := bsz_.1; have := bsz_.2; have := bx_38.1; have := bx_38.2; have := bx_39.1; have := bx_39.2; have := bcc.1; have := bcc.2; have : (1 : Int32).toInt = 1 := (by decide); have : (3 : Int32).toInt = 3 := (by decide); have : (41 : Int32).toInt = 41 := (by decide); have : (44 : Int32).toInt = 44 := (by decide); dsimp only; omega)⟩) hth (by decide) rfl rfl hl.1 rfl (Nat.le_of_ble_eq_true rfl) dX7_readSums_57 ⟨Nat.zero_le _, Nat.zero_le _⟩ (fun r_58 F_59 H locs w_60 h hfF_59 => ?_)
              obtain ⟨rfl, q_61, -⟩ := w_60
              have br_58 := zB.all r_58
              refine zk_Si (As := [.int r_58]) (rest := [.ref th]) (bytes := cX7_beginsSum) (maxL := 1) (ret := (some .boolean)) Z h (ze_X7_beginsSum l D k Γ L F_36 H.size r_58) (va_cwS 1 hg zv_RX7_203 rfl rfl rfl zd_X7_beginsSum ⟨z_leR hRf (by have := by3_j20_20_26.1; have := by3_j20_20_26.2; have := by2_j20_20_56.1; have := by2_j20_20_56.2; have := bd.1; have := bd.2; have := br_58.1; have := br_58.2; have := br_28_34.1; have := br_28_34.2; have := bkc_j20_20.1; have := bkc_j20_20.2; have := bsz_.1; have := bsz_.2; have := bx_38.1; have := bx_38.2; have := bx_39.1; have := bx_39.2; have := bcc.1; have := bcc.2; have : (1 : Int32).toInt = 1 := (by decide); have : (3 : Int32).toInt = 3 := (by decide); have : (41 : Int32).toInt = 41 := (by decide); have : (44 : Int32).toInt = 44 := (by decide); dsimp only; omega), z_leR hRl (by have := by3_j20_20_26.1; have := by3_j20_20_26.2; have := by2_j20_20_56.1; have := by2_j20_20_56.2; have := bd.1; have := bd.2; have := br_58.1; have := br_58.2; have := br_28_34.1; have := br_28_34.2; have := bkc_j20_20.1; have := bkc_j20_20.2; have := bsz_.1; have := bsz_.2; have := bx_38.1; have := bx_38.2; have := bx_39.1; have := bx_39.2; have := bcc.1; have := bcc.2; have : (1 : Int32).toInt = 1 := (by decide); have : (3 : Int32).toInt = 3 := (by decide); have : (41 : Int32).toInt = 41 := (by decide); have : (44 : Int32).toInt = 44 := (by decide); dsimp only; omega)⟩) rfl hl.1 rfl (Nat.le_of_ble_eq_true rfl) dX7_readSums_60 ⟨Nat.zero_le _, Nat.zero_le _⟩ (fun r_62 F_63 H locs w_64 h hfF_63 => ?_)
              obtain ⟨rfl, br_62, q_65, -⟩ := w_64
              refine lv_if_eq (tgt := 70) hx hb dX7_readSums_63 (by decide) (fun c_66 => ?_) (fun c_66 => ?_)
              · have c_66 := z_eq c_66
                have br_62_67 : zB 0 0 r_62 := zB.eqL (a := 0) (b := 0) c_66 (zBc 0 0 (by decide))
                have q_68 : ¬ zbeg r_58.toInt := by
                  rcases q_65 with ⟨g1, g2⟩ | ⟨g1, g2⟩
                  · exfalso; have := by3_j20_20_26.1; have := by3_j20_20_26.2; have := by2_j20_20_56.1; have := by2_j20_20_56.2; have := bd.1; have := bd.2; have := br_62_67.1; have := br_62_67.2; have := br_28_34.1; have := br_28_34.2; have := br_58.1; have := br_58.2; have := bkc_j20_20.1; have := bkc_j20_20.2; have := bsz_.1; have := bsz_.2; have := bx_38.1; have := bx_38.2; have := bx_39.1; have := bx_39.2; have := bcc.1; have := bcc.2; have : (0 : Int32).toInt = 0 := (by decide); have : (1 : Int32).toInt = 1 := (by decide); have : (3 : Int32).toInt = 3 := (by decide); have : (41 : Int32).toInt = 41 := (by decide); have : (44 : Int32).toInt = 44 := (by decide); omega
                  · exact g2
                refine lv_iconst (v := 1) hx hb dX7_readSums_70 (by decide) ?_
                refine zk_Vv (As := [.int 1]) (rest := []) (bytes := cX7_fail) (maxL := 2) (ret := none) Z h (ze_X7_fail l D k Γ L F_36 H.size th 1 tk Bt nt Nt σ_37 hth (hfF_36.f hth 4 ⟨by decide, by decide⟩ (hfF_21.f hth 4 ⟨by decide, by decide⟩ (hfF_11.f hth 4 ⟨by decide, by decide⟩ ktk))) htk p_57 c1_37 (by have := by3_j20_20_26.1; have := by3_j20_20_26.2; have := by2_j20_20_56.1; have := by2_j20_20_56.2; have := bd.1; have := bd.2; have := br_28_34.1; have := br_28_34.2; have := br_58.1; have := br_58.2; have := bkc_j20_20.1; have := bkc_j20_20.2; have := bsz_.1; have := bsz_.2; have := bx_38.1; have := bx_38.2; have := bx_39.1; have := bx_39.2; have := bcc.1; have := bcc.2; have : (0 : Int32).toInt = 0 := (by decide); have : (1 : Int32).toInt = 1 := (by decide); have : (3 : Int32).toInt = 3 := (by decide); have : (41 : Int32).toInt = 41 := (by decide); have : (44 : Int32).toInt = 44 := (by decide); omega)) (cwV 1 hg zv_RX7_79 rfl rfl rfl zd_X7_fail ⟨z_leR hRf (by have := by3_j20_20_26.1; have := by3_j20_20_26.2; have := by2_j20_20_56.1; have := by2_j20_20_56.2; have := bd.1; have := bd.2; have := br_28_34.1; have := br_28_34.2; have := br_58.1; have := br_58.2; have := bkc_j20_20.1; have := bkc_j20_20.2; have := bsz_.1; have := bsz_.2; have := bx_38.1; have := bx_38.2; have := bx_39.1; have := bx_39.2; have := bcc.1; have := bcc.2; have : (0 : Int32).toInt = 0 := (by decide); have : (1 : Int32).toInt = 1 := (by decide); have : (3 : Int32).toInt = 3 := (by decide); have : (41 : Int32).toInt = 41 := (by decide); have : (44 : Int32).toInt = 44 := (by decide); dsimp only; omega), z_leR hRl (by have := by3_j20_20_26.1; have := by3_j20_20_26.2; have := by2_j20_20_56.1; have := by2_j20_20_56.2; have := bd.1; have := bd.2; have := br_28_34.1; have := br_28_34.2; have := br_58.1; have := br_58.2; have := bkc_j20_20.1; have := bkc_j20_20.2; have := bsz_.1; have := bsz_.2; have := bx_38.1; have := bx_38.2; have := bx_39.1; have := bx_39.2; have := bcc.1; have := bcc.2; have : (0 : Int32).toInt = 0 := (by decide); have : (1 : Int32).toInt = 1 := (by decide); have : (3 : Int32).toInt = 3 := (by decide); have : (41 : Int32).toInt = 41 := (by decide); have : (44 : Int32).toInt = 44 := (by decide); dsimp only; omega)⟩) hth (by decide) rfl rfl hl.1 rfl (Nat.le_of_ble_eq_true rfl) dX7_readSums_71 ⟨Nat.zero_le _, Nat.zero_le _⟩ (fun F_69 H locs w_70 h hfF_69 => ?_)
                obtain ⟨q_71, -⟩ := w_70
                have c1_72 : zC1 F_69 th Nt (zfl 1 σ_37) := (by have h9 := q_71; rw [show (1 : Int32).toInt = 1 by decide] at h9; exact h9)
                have rc_72 : zRc (zTo Bt nt) σ [(19, d.toInt.toNat, tn, 0)] (zfl 1 σ_37) [(20, d.toInt.toNat, tn, y2_j20_20.toInt.toNat)] := (by rw [hσ_37]; exact zRc.sumsT2 (N := Nt) rc_j20_20 (by have := by3_j20_20_26.1; have := by3_j20_20_26.2; have := by2_j20_20_56.1; have := by2_j20_20_56.2; have := bd.1; have := bd.2; have := br_28_34.1; have := br_28_34.2; have := br_58.1; have := br_58.2; have := bkc_j20_20.1; have := bkc_j20_20.2; have := bsz_.1; have := bsz_.2; have := bcc.1; have := bcc.2; have : (0 : Int32).toInt = 0 := (by decide); have : (1 : Int32).toInt = 1 := (by decide); have : (3 : Int32).toInt = 3 := (by decide); have : (41 : Int32).toInt = 41 := (by decide); have : (44 : Int32).toInt = 44 := (by decide); omega) (by have := by3_j20_20_26.1; have := by3_j20_20_26.2; have := by2_j20_20_56.1; have := by2_j20_20_56.2; have := bd.1; have := bd.2; have := br_28_34.1; have := br_28_34.2; have := br_58.1; have := br_58.2; have := bkc_j20_20.1; have := bkc_j20_20.2; have := bsz_.1; have := bsz_.2; have := bcc.1; have := bcc.2; have : (0 : Int32).toInt = 0 := (by decide); have : (1 : Int32).toInt = 1 := (by decide); have : (3 : Int32).toInt = 3 := (by decide); have : (41 : Int32).toInt = 41 := (by decide); have : (44 : Int32).toInt = 44 := (by decide); omega) (by rw [← hσ_37, ← q_61]; exact q_68))
                have st_72 : zss σ_37 (zfl 1 σ_37) := zsm.fl.ss
                have ss_72 : zss σ (zfl 1 σ_37) := ss_37.trans st_72
                have cc_72 : zCc Γ F F_69 th (zTo Bt nt) σ (zfl 1 σ_37) (d.toInt + 1) := (cc_37.mv hfF_69 hth (by decide) (zTo_P Bt nt) zsm.fl.cs)
                generalize hσ_72 : zfl 1 σ_37 = σ_72 at c1_72 rc_72 st_72 ss_72 cc_72
                obtain ⟨⟨x_73, kx_73, nx_73⟩, ⟨x_74, kx_74, nx_74⟩, ox_73⟩ := id c1_72
                have gx_73 := zC1.nx c1_72 hLs_.1 kx_73
                have bx_73 : zB 0 600 x_73 := ⟨by omega, by have := hLs_.2.1; omega⟩
                have bx_74 := zB.all x_74
                have mo_72 := zss.nx st_72 ox_38 ox_73
                have hop_75 : 6 ≤ d.toInt → ∃ q, σ_72 = .inr q := fun h9 => by rw [← hσ_72]; exact zfl_bad _ _
                refine lv_goto (tgt := 85) hx hb dX7_readSums_74 (by decide) ?_
                obtain ⟨x_76, ex_76, bx_76, tx_76⟩ := z_inc (n := 1) (lo := 1) (hi := 601) by3_j20_20_26 (by decide)
                refine lv_iinc (v := x_76) (lv' := [(3, .int x_76), (2, .int y2_j20_20), (0, .ref th), (1, .int d)]) hx hb dX7_readSums_85 hl (k := 0) rfl ex_76 (by decide) rfl (fun ls hl => ?_)
                refine lv_goto (tgt := 20) hx hb dX7_readSums_88 (by decide) ?_
                exact ih_j20_20 _ (by have := bx_76.1; have := bx_76.2; have := by2_j20_20_56.1; have := by2_j20_20_56.2; have := bd.1; have := bd.2; have := bkc_j20_20.1; have := bkc_j20_20.2; have := br_28_34.1; have := br_28_34.2; have := br_58.1; have := br_58.2; have := bsz_.1; have := bsz_.2; have := bx_73.1; have := bx_73.2; have := bx_74.1; have := bx_74.2; have := bcc.1; have := bcc.2; have : (0 : Int32).toInt = 0 := (by decide); have : (1 : Int32).toInt = 1 := (by decide); have : (3 : Int32).toInt = 3 := (by decide); have : (41 : Int32).toInt = 41 := (by decide); have : (44 : Int32).toInt = 44 := (by decide); have := by3_j20_20.1; have := by3_j20_20.2; have := by2_j20_20.1; have := by2_j20_20.2; omega) ls x_76 y2_j20_20 kc_j20_20 σ_72 F_69 H locs (lv_sub hl [0, 1, 2, 3] rfl) (bx_76.w ⟨by decide, by decide⟩) (by2_j20_20_56.w ⟨by decide, by decide⟩) h ((hfF_21.trans hfF_36 (by decide)).trans hfF_69 (by decide)) (hfF_69.f hth 11 ⟨by decide, by decide⟩ (hfF_36.f hth 11 ⟨by decide, by decide⟩ hkc_j20_20)) bkc_j20_20 (by have := bx_76.1; have := bx_76.2; have := by2_j20_20_56.1; have := by2_j20_20_56.2; have := bd.1; have := bd.2; have := bkc_j20_20.1; have := bkc_j20_20.2; have := br_28_34.1; have := br_28_34.2; have := br_58.1; have := br_58.2; have := bsz_.1; have := bsz_.2; have := bx_73.1; have := bx_73.2; have := bx_74.1; have := bx_74.2; have := bcc.1; have := bcc.2; have : (0 : Int32).toInt = 0 := (by decide); have : (1 : Int32).toInt = 1 := (by decide); have : (3 : Int32).toInt = 3 := (by decide); have : (41 : Int32).toInt = 41 := (by decide); have : (44 : Int32).toInt = 44 := (by decide); omega) hop_75 c1_72 rc_72 ss_72 (cc_72.w (by have := bx_76.1; have := bx_76.2; have := by2_j20_20_56.1; have := by2_j20_20_56.2; have := bd.1; have := bd.2; have := bkc_j20_20.1; have := bkc_j20_20.2; have := br_28_34.1; have := br_28_34.2; have := br_58.1; have := br_58.2; have := bsz_.1; have := bsz_.2; have := bx_73.1; have := bx_73.2; have := bx_74.1; have := bx_74.2; have := bcc.1; have := bcc.2; have : (0 : Int32).toInt = 0 := (by decide); have : (1 : Int32).toInt = 1 := (by decide); have : (3 : Int32).toInt = 3 := (by decide); have : (41 : Int32).toInt = 41 := (by decide); have : (44 : Int32).toInt = 44 := (by decide); omega)) rfl
              · have c_66 := z_ne c_66
                have br_62_77 : zB 1 1 r_62 := zB.neLo c_66 br_62 (zBc 0 0 (by decide)) (by decide)
                have q_78 : zbeg r_58.toInt := by
                  rcases q_65 with ⟨g1, g2⟩ | ⟨g1, g2⟩
                  · exact g2
                  · exfalso; have := by3_j20_20_26.1; have := by3_j20_20_26.2; have := by2_j20_20_56.1; have := by2_j20_20_56.2; have := bd.1; have := bd.2; have := br_62_77.1; have := br_62_77.2; have := br_28_34.1; have := br_28_34.2; have := br_58.1; have := br_58.2; have := bkc_j20_20.1; have := bkc_j20_20.2; have := bsz_.1; have := bsz_.2; have := bx_38.1; have := bx_38.2; have := bx_39.1; have := bx_39.2; have := bcc.1; have := bcc.2; have : (0 : Int32).toInt = 0 := (by decide); have : (1 : Int32).toInt = 1 := (by decide); have : (3 : Int32).toInt = 3 := (by decide); have : (41 : Int32).toInt = 41 := (by decide); have : (44 : Int32).toInt = 44 := (by decide); omega
                refine lv_iconst (v := 3) hx hb dX7_readSums_66 (by decide) ?_
                refine lv_goto (tgt := 71) hx hb dX7_readSums_67 (by decide) ?_
                refine zk_Vv (As := [.int 3]) (rest := []) (bytes := cX7_fail) (maxL := 2) (ret := none) Z h (ze_X7_fail l D k Γ L F_36 H.size th 3 tk Bt nt Nt σ_37 hth (hfF_36.f hth 4 ⟨by decide, by decide⟩ (hfF_21.f hth 4 ⟨by decide, by decide⟩ (hfF_11.f hth 4 ⟨by decide, by decide⟩ ktk))) htk p_57 c1_37 (by have := by3_j20_20_26.1; have := by3_j20_20_26.2; have := by2_j20_20_56.1; have := by2_j20_20_56.2; have := bd.1; have := bd.2; have := br_28_34.1; have := br_28_34.2; have := br_58.1; have := br_58.2; have := bkc_j20_20.1; have := bkc_j20_20.2; have := bsz_.1; have := bsz_.2; have := bx_38.1; have := bx_38.2; have := bx_39.1; have := bx_39.2; have := bcc.1; have := bcc.2; have : (0 : Int32).toInt = 0 := (by decide); have : (1 : Int32).toInt = 1 := (by decide); have : (3 : Int32).toInt = 3 := (by decide); have : (41 : Int32).toInt = 41 := (by decide); have : (44 : Int32).toInt = 44 := (by decide); omega)) (cwV 1 hg zv_RX7_79 rfl rfl rfl zd_X7_fail ⟨z_leR hRf (by have := by3_j20_20_26.1; have := by3_j20_20_26.2; have := by2_j20_20_56.1; have := by2_j20_20_56.2; have := bd.1; have := bd.2; have := br_28_34.1; have := br_28_34.2; have := br_58.1; have := br_58.2; have := bkc_j20_20.1; have := bkc_j20_20.2; have := bsz_.1; have := bsz_.2; have := bx_38.1; have := bx_38.2; have := bx_39.1; have := bx_39.2; have := bcc.1; have := bcc.2; have : (0 : Int32).toInt = 0 := (by decide); have : (1 : Int32).toInt = 1 := (by decide); have : (3 : Int32).toInt = 3 := (by decide); have : (41 : Int32).toInt = 41 := (by decide); have : (44 : Int32).toInt = 44 := (by decide); dsimp only; omega), z_leR hRl (by have := by3_j20_20_26.1; have := by3_j20_20_26.2; have := by2_j20_20_56.1; have := by2_j20_20_56.2; have := bd.1; have := bd.2; have := br_28_34.1; have := br_28_34.2; have := br_58.1; have := br_58.2; have := bkc_j20_20.1; have := bkc_j20_20.2; have := bsz_.1; have := bsz_.2; have := bx_38.1; have := bx_38.2; have := bx_39.1; have := bx_39.2; have := bcc.1; have := bcc.2; have : (0 : Int32).toInt = 0 := (by decide); have : (1 : Int32).toInt = 1 := (by decide); have : (3 : Int32).toInt = 3 := (by decide); have : (41 : Int32).toInt = 41 := (by decide); have : (44 : Int32).toInt = 44 := (by decide); dsimp only; omega)⟩) hth (by decide) rfl rfl hl.1 rfl (Nat.le_of_ble_eq_true rfl) dX7_readSums_71 ⟨Nat.zero_le _, Nat.zero_le _⟩ (fun F_79 H locs w_80 h hfF_79 => ?_)
                obtain ⟨q_81, -⟩ := w_80
                have c1_82 : zC1 F_79 th Nt (zfl 3 σ_37) := (by have h9 := q_81; rw [show (3 : Int32).toInt = 3 by decide] at h9; exact h9)
                have rc_82 : zRc (zTo Bt nt) σ [(19, d.toInt.toNat, tn, 0)] (zfl 3 σ_37) [(20, d.toInt.toNat, tn, y2_j20_20.toInt.toNat)] := (by rw [hσ_37]; exact zRc.sumsT3 (N := Nt) rc_j20_20 (by have := by3_j20_20_26.1; have := by3_j20_20_26.2; have := by2_j20_20_56.1; have := by2_j20_20_56.2; have := bd.1; have := bd.2; have := br_28_34.1; have := br_28_34.2; have := br_58.1; have := br_58.2; have := bkc_j20_20.1; have := bkc_j20_20.2; have := bsz_.1; have := bsz_.2; have := bcc.1; have := bcc.2; have : (0 : Int32).toInt = 0 := (by decide); have : (1 : Int32).toInt = 1 := (by decide); have : (3 : Int32).toInt = 3 := (by decide); have : (41 : Int32).toInt = 41 := (by decide); have : (44 : Int32).toInt = 44 := (by decide); omega) (by have := by3_j20_20_26.1; have := by3_j20_20_26.2; have := by2_j20_20_56.1; have := by2_j20_20_56.2; have := bd.1; have := bd.2; have := br_28_34.1; have := br_28_34.2; have := br_58.1; have := br_58.2; have := bkc_j20_20.1; have := bkc_j20_20.2; have := bsz_.1; have := bsz_.2; have := bcc.1; have := bcc.2; have : (0 : Int32).toInt = 0 := (by decide); have : (1 : Int32).toInt = 1 := (by decide); have : (3 : Int32).toInt = 3 := (by decide); have : (41 : Int32).toInt = 41 := (by decide); have : (44 : Int32).toInt = 44 := (by decide); omega) (by rw [← hσ_37, ← q_61]; exact q_78))
                have st_82 : zss σ_37 (zfl 3 σ_37) := zsm.fl.ss
                have ss_82 : zss σ (zfl 3 σ_37) := ss_37.trans st_82
                have cc_82 : zCc Γ F F_79 th (zTo Bt nt) σ (zfl 3 σ_37) (d.toInt + 1) := (cc_37.mv hfF_79 hth (by decide) (zTo_P Bt nt) zsm.fl.cs)
                generalize hσ_82 : zfl 3 σ_37 = σ_82 at c1_82 rc_82 st_82 ss_82 cc_82
                obtain ⟨⟨x_83, kx_83, nx_83⟩, ⟨x_84, kx_84, nx_84⟩, ox_83⟩ := id c1_82
                have gx_83 := zC1.nx c1_82 hLs_.1 kx_83
                have bx_83 : zB 0 600 x_83 := ⟨by omega, by have := hLs_.2.1; omega⟩
                have bx_84 := zB.all x_84
                have mo_82 := zss.nx st_82 ox_38 ox_83
                have hop_85 : 6 ≤ d.toInt → ∃ q, σ_82 = .inr q := fun h9 => by rw [← hσ_82]; exact zfl_bad _ _
                refine lv_goto (tgt := 85) hx hb dX7_readSums_74 (by decide) ?_
                obtain ⟨x_86, ex_86, bx_86, tx_86⟩ := z_inc (n := 1) (lo := 1) (hi := 601) by3_j20_20_26 (by decide)
                refine lv_iinc (v := x_86) (lv' := [(3, .int x_86), (2, .int y2_j20_20), (0, .ref th), (1, .int d)]) hx hb dX7_readSums_85 hl (k := 0) rfl ex_86 (by decide) rfl (fun ls hl => ?_)
                refine lv_goto (tgt := 20) hx hb dX7_readSums_88 (by decide) ?_
                exact ih_j20_20 _ (by have := bx_86.1; have := bx_86.2; have := by2_j20_20_56.1; have := by2_j20_20_56.2; have := bd.1; have := bd.2; have := bkc_j20_20.1; have := bkc_j20_20.2; have := br_28_34.1; have := br_28_34.2; have := br_58.1; have := br_58.2; have := bsz_.1; have := bsz_.2; have := bx_83.1; have := bx_83.2; have := bx_84.1; have := bx_84.2; have := bcc.1; have := bcc.2; have : (0 : Int32).toInt = 0 := (by decide); have : (1 : Int32).toInt = 1 := (by decide); have : (3 : Int32).toInt = 3 := (by decide); have : (41 : Int32).toInt = 41 := (by decide); have : (44 : Int32).toInt = 44 := (by decide); have := by3_j20_20.1; have := by3_j20_20.2; have := by2_j20_20.1; have := by2_j20_20.2; omega) ls x_86 y2_j20_20 kc_j20_20 σ_82 F_79 H locs (lv_sub hl [0, 1, 2, 3] rfl) (bx_86.w ⟨by decide, by decide⟩) (by2_j20_20_56.w ⟨by decide, by decide⟩) h ((hfF_21.trans hfF_36 (by decide)).trans hfF_79 (by decide)) (hfF_79.f hth 11 ⟨by decide, by decide⟩ (hfF_36.f hth 11 ⟨by decide, by decide⟩ hkc_j20_20)) bkc_j20_20 (by have := bx_86.1; have := bx_86.2; have := by2_j20_20_56.1; have := by2_j20_20_56.2; have := bd.1; have := bd.2; have := bkc_j20_20.1; have := bkc_j20_20.2; have := br_28_34.1; have := br_28_34.2; have := br_58.1; have := br_58.2; have := bsz_.1; have := bsz_.2; have := bx_83.1; have := bx_83.2; have := bx_84.1; have := bx_84.2; have := bcc.1; have := bcc.2; have : (0 : Int32).toInt = 0 := (by decide); have : (1 : Int32).toInt = 1 := (by decide); have : (3 : Int32).toInt = 3 := (by decide); have : (41 : Int32).toInt = 41 := (by decide); have : (44 : Int32).toInt = 44 := (by decide); omega) hop_85 c1_82 rc_82 ss_82 (cc_82.w (by have := bx_86.1; have := bx_86.2; have := by2_j20_20_56.1; have := by2_j20_20_56.2; have := bd.1; have := bd.2; have := bkc_j20_20.1; have := bkc_j20_20.2; have := br_28_34.1; have := br_28_34.2; have := br_58.1; have := br_58.2; have := bsz_.1; have := bsz_.2; have := bx_83.1; have := bx_83.2; have := bx_84.1; have := bx_84.2; have := bcc.1; have := bcc.2; have : (0 : Int32).toInt = 0 := (by decide); have : (1 : Int32).toInt = 1 := (by decide); have : (3 : Int32).toInt = 3 := (by decide); have : (41 : Int32).toInt = 41 := (by decide); have : (44 : Int32).toInt = 44 := (by decide); omega)) rfl
    exact j_j20_20 _ ls 0 1 x_14 σ_16 F_11 H locs (lv_sub hl [0, 1, 2, 3] rfl) (zB.of ⟨by decide, by decide⟩) (zB.of ⟨by decide, by decide⟩) h zFr.rf kx_14 bx_14 (by have := bd.1; have := bd.2; have := bx_14.1; have := bx_14.2; have := br_5.1; have := br_5.2; have := bsz_.1; have := bsz_.2; have := bx_17.1; have := bx_17.2; have := bx_18.1; have := bx_18.2; have := bcc.1; have := bcc.2; have : (0 : Int32).toInt = 0 := (by decide); have : (1 : Int32).toInt = 1 := (by decide); have : (41 : Int32).toInt = 41 := (by decide); omega) hop_19 c1_16 (rc_16.cg (zSy_eq (by have := bd.1; have := bd.2; have := bx_14.1; have := bx_14.2; have := br_5.1; have := br_5.2; have := bsz_.1; have := bsz_.2; have := bx_17.1; have := bx_17.2; have := bx_18.1; have := bx_18.2; have := bcc.1; have := bcc.2; have : (0 : Int32).toInt = 0 := (by decide); have : (1 : Int32).toInt = 1 := (by decide); have : (41 : Int32).toInt = 41 := (by decide); omega) (by have := bd.1; have := bd.2; have := bx_14.1; have := bx_14.2; have := br_5.1; have := br_5.2; have := bsz_.1; have := bsz_.2; have := bx_17.1; have := bx_17.2; have := bx_18.1; have := bx_18.2; have := bcc.1; have := bcc.2; have : (0 : Int32).toInt = 0 := (by decide); have : (1 : Int32).toInt = 1 := (by decide); have : (41 : Int32).toInt = 41 := (by decide); omega) (by have := bd.1; have := bd.2; have := bx_14.1; have := bx_14.2; have := br_5.1; have := br_5.2; have := bsz_.1; have := bsz_.2; have := bx_17.1; have := bx_17.2; have := bx_18.1; have := bx_18.2; have := bcc.1; have := bcc.2; have : (0 : Int32).toInt = 0 := (by decide); have : (1 : Int32).toInt = 1 := (by decide); have : (41 : Int32).toInt = 41 := (by decide); omega))) ss_16 (cc_16.w (by have := bd.1; have := bd.2; have := bx_14.1; have := bx_14.2; have := br_5.1; have := br_5.2; have := bsz_.1; have := bsz_.2; have := bx_17.1; have := bx_17.2; have := bx_18.1; have := bx_18.2; have := bcc.1; have := bcc.2; have : (0 : Int32).toInt = 0 := (by decide); have : (1 : Int32).toInt = 1 := (by decide); have : (41 : Int32).toInt = 41 := (by decide); omega)) rfl
  · have c_9 := z_eq c_9
    have br_5_87 : zB 41 41 r_5 := zB.eqL (a := 0) (b := 0) c_9 (zBc 41 41 (by decide))
    have rc_88 : zRc (zTo Bt nt) σ [(19, d.toInt.toNat, tn, 0)] σ [(6, 41, 0, 0), (21, tn, (0 : Int32).toInt.toNat, 0)] := zRc.sums0 (N := Nt) rc0_ (by have := bd.1; have := bd.2; have := br_5_87.1; have := br_5_87.2; have := bcc.1; have := bcc.2; have := bsz_.1; have := bsz_.2; have := bx_1.1; have := bx_1.2; have := bx_2.1; have := bx_2.2; have : (41 : Int32).toInt = 41 := (by decide); omega)
    refine lv_iconst (v := 0) hx hb dX7_readSums_9 (by decide) ?_
    subst hQ
    exact W.iret (v := 0) hx hb hr (fun t ht hW => ⟨⟨0, F, rfl, ⟨(zB.of ⟨by decide, by decide⟩), ⟨cc, kcc, bcc, (by have := bd.1; have := bd.2; have := bcc.1; have := bcc.2; have := br_5_87.1; have := br_5_87.2; have := bsz_.1; have := bsz_.2; have := bx_1.1; have := bx_1.2; have := bx_2.1; have := bx_2.2; have : (0 : Int32).toInt = 0 := (by decide); have : (41 : Int32).toInt = 41 := (by decide); omega)⟩, ⟨σ, p_au, rc_88, ss0_, (cc0_.w (by have := bd.1; have := bd.2; have := br_5_87.1; have := br_5_87.2; have := bcc.1; have := bcc.2; have := bsz_.1; have := bsz_.2; have := bx_1.1; have := bx_1.2; have := bx_2.1; have := bx_2.2; have : (0 : Int32).toInt = 0 := (by decide); have : (41 : Int32).toInt = 41 := (by decide); omega))⟩, trivial⟩, by rw [ht]; exact h.1, h.2.1, zFr.rf⟩, h.2.2.F ht⟩) h.2.2.2.2 dX7_readSums_10

set_option maxHeartbeats 4000000 in
set_option maxRecDepth 100000 in
theorem ze_X7_readCall (l : Launch) (D : va_G) (k : Nat → ClassId) (Γ : Nat → Option Nat) (L : List Nat) (F : Nat → va_E) (sz : Nat) (th : Nat) (d : Int32) (pr : Nat) (tk : Nat) (co : Nat) (Bt : Nat → Int32) (nt : Nat) (Nt : Nat) (cc : Int32) (σ : zSg) (nv : Nat) (hth : Γ th = some 7) (bd : zB 0 6 d) (kpr : zfld F th 3 = .ref pr) (hpr : Γ pr = some 6) (ktk : zfld F th 4 = .ref tk) (htk : Γ tk = some 8) (kco : zfld F th 5 = .ref co) (hco : Γ co = some 1) (p_tb : zTb Γ F tk Bt nt Nt) (kcc : zfld F th 11 = .int cc) (bcc : zB 0 150 cc) (p_au : zC1 F th Nt (σ)) (hm_ : ∀ i d9, σ = .inl (i, d9) → 4 * cc.toInt + 5 ≤ zpo Bt nt i + (d.toInt)) (hr0 : 6 ≤ d.toInt + (nv : Int)) (hrec : ∀ q : Nat, nv = q + 1 → zR_sum l q) (hr1 : zkd (zTo Bt nt) Nt σ = 4) : Met l yX7_readCall zwX7_readCall ({ frames := 10 * nv + 6, cells := 0, slots := 0, locals := 400 * nv + 180 }) (va_Pc [.ref th, .int d] (zP D k Γ L F sz)) (va_Qv (fun (u : Nat → va_E) => (∃ (c9 : Int32), zfld u th 11 = .int c9 ∧ zB 0 150 c9 ∧ (0 ≤ c9.toInt)) ∧ (∃ σ9 : zSg, zC1 u th Nt σ9 ∧ zRc (zTo Bt nt) σ [(17, d.toInt.toNat, 0, 0)] σ9 [] ∧ zss σ σ9 ∧ zCc Γ F u th (zTo Bt nt) σ σ9 (d.toInt)) ∧ True) (zQ D k Γ L F [103, 701, 702, 706, 711, 10200, 10600, 10700, 15800, 15900, 16000, 16100]) (zA L sz)) 0 0 (zA L sz) := by
  refine Met.ofW (cc := cX7_readCall) (maxL := 5) (ret := none) (by decide) rfl ?_
  intro p e s m args below meth c s₁ B hml hv
  obtain ⟨rfl, hsz, hP, hK, hLn, hE, hI⟩ := hv
  have hx := B.exec
  have hb := B.bytes
  have hr := B.returns
  have hg : ∀ w ∈ zG, w.before _ s = true := fun w h9 => atoms_spec (ws := zwX7_readCall) B.pre w (List.mem_cons_of_mem _ h9)
  have hown : s.vm.findClass RX7 = some m.cls := findClass_of_methodNamed B.named
  have hlocks := B.notSynchronized
  subst hsz
  have Z : zC p m c cX7_readCall 5 s _ zG RX7 D k L := ⟨⟨hx, hb, hml, hown, hg⟩, hK, hLn, hE⟩
  have h : zH D k Γ L s F s.heap [] := ⟨hP, hI, va_S.rf⟩
  have hl := lv_entry ([.ref th, .int d]) (n := 5) (Nat.le_of_ble_eq_true rfl)
  rw [lg_entry_eq]
  generalize (lg_sl ([.ref th, .int d]) ++ List.replicate (5 - (lg_sl ([.ref th, .int d])).length) Slot.unset).toArray = ls at hl ⊢
  have hl : lv_has ls 5 [(0, .ref th), (1, .int d)] := hl
  clear hP hK hLn hE hI
  generalize hargs : ([.ref th, .int d] : List Value).toArray = args at *
  refine z_start (fun R Q hRf hRl hQ => ?_)
  have hRf : R.frames = 10 * nv + 6 := hRf
  have hRl : R.locals = 400 * nv + 180 := hRl
  have h9 := h
  have hLs_ := p_tb.2.2.2.1
  obtain ⟨sz_, ksz_, tsz_⟩ := p_tb.2.2.1
  have bsz_ : zB 1 601 sz_ := ⟨by have := hLs_.1; omega, by have := hLs_.2.1; omega⟩
  obtain ⟨⟨x_1, kx_1, nx_1⟩, ⟨x_2, kx_2, nx_2⟩, ox_1⟩ := id p_au
  have gx_1 := zC1.nx p_au hLs_.1 kx_1
  have bx_1 : zB 0 600 x_1 := ⟨by omega, by have := hLs_.2.1; omega⟩
  have bx_2 := zB.all x_2
  have ad_3 := z_ad (j := 7) (c := 106) h.2.1 hth (by decide) rfl
  have ad_4 := z_ad (j := 8) (c := 107) h.2.1 hth (by decide) rfl
  have cc0_ : zCc Γ F F th (zTo Bt nt) σ σ (d.toInt) := zCc.rf kcc bcc.1 ⟨ad_3, ad_4⟩ hm_
  have rc0_ : zRc (zTo Bt nt) σ [(17, d.toInt.toNat, 0, 0)] σ [(17, d.toInt.toNat, 0, 0)] := zRc.rf
  have ss0_ : zss σ σ := zss.rf
  have h149 := zcl_149 (dep := d.toInt) hm_ hr1 hLs_ (by have := bd.1; have := bd.2; have := bcc.1; have := bcc.2; have := bsz_.1; have := bsz_.2; have := bx_1.1; have := bx_1.2; have := bx_2.1; have := bx_2.2; omega) p_tb.1.2.2.1
  refine lv_aload_n hx hb dX7_readCall_0 rfl (lv_at hl 0 rfl) ?_
  refine lv_aload_n hx hb dX7_readCall_1 rfl (lv_at hl 0 rfl) ?_
  refine zt_getk (t := 7) (C := RX7) (T := TX7) (N := 12) Z h hth zin_7 rfl 6 kx_1 ⟨by decide, rfl, by decide⟩ (zm_RX7 (List.mem_of_getElem? (i := 9) rfl)) (fun _ h9 => h9) dX7_readCall_2 ?_
  refine zk_Vi (As := [.int x_1]) (rest := []) (bytes := cX7_addCall) (maxL := 2) (ret := (some .int)) Z h (ze_X7_addCall l D k Γ L F s.heap.size th x_1 pr cc hth (bx_1.w ⟨by decide, by decide⟩) kpr hpr kcc (zB.of ⟨by have := bd.1; have := bd.2; have := bx_1.1; have := bx_1.2; have := bcc.1; have := bcc.2; have := bsz_.1; have := bsz_.2; have := bx_2.1; have := bx_2.2; omega, by have := bd.1; have := bd.2; have := bx_1.1; have := bx_1.2; have := bcc.1; have := bcc.2; have := bsz_.1; have := bsz_.2; have := bx_2.1; have := bx_2.2; omega⟩)) (cwV 1 hg zv_RX7_197 rfl rfl rfl zd_X7_addCall ⟨z_leR hRf (by have := bd.1; have := bd.2; have := bx_1.1; have := bx_1.2; have := bcc.1; have := bcc.2; have := bsz_.1; have := bsz_.2; have := bx_2.1; have := bx_2.2; dsimp only; omega), z_leR hRl (by have := bd.1; have := bd.2; have := bx_1.1; have := bx_1.2; have := bcc.1; have := bcc.2; have := bsz_.1; have := bsz_.2; have := bx_2.1; have := bx_2.2; dsimp only; omega)⟩) hth (by decide) rfl rfl hl.1 rfl (Nat.le_of_ble_eq_true rfl) dX7_readCall_5 ⟨Nat.zero_le _, Nat.zero_le _⟩ (fun r_5 F_6 H locs w_7 h hfF_6 => ?_)
  obtain ⟨br_5, ⟨x_9, kx_9, bx_9, q_8⟩, q_10, q_11, -⟩ := w_7
  refine lv_istore_n (lv' := [(2, .int r_5), (0, .ref th), (1, .int d)]) hx hb dX7_readCall_8 rfl hl (by decide) rfl (fun ls hl => ?_)
  refine lv_aload_n hx hb dX7_readCall_9 rfl (lv_at hl 1 rfl) ?_
  refine lv_dup hx hb dX7_readCall_10 rfl ?_
  refine zt_getk (t := 7) (C := RX7) (T := TX7) (N := 12) Z h hth zin_7 rfl 6 (hfF_6.f hth 6 ⟨by decide, by decide⟩ kx_1) ⟨by decide, rfl, by decide⟩ (zm_RX7 (List.mem_of_getElem? (i := 9) rfl)) (fun _ h9 => h9) dX7_readCall_11 ?_
  refine lv_iconst (v := 1) hx hb dX7_readCall_14 (by decide) ?_
  refine lv_iadd hx hb dX7_readCall_15 ?_
  refine zi_add (lo := 1) (hi := 601) bx_1 (zBc 1 1 (by decide)) (by decide) (fun x_12 bx_12 tx_12 => ?_)
  refine zt_put (t := 7) (C := RX7) (T := TX7) (N := 12) (v := .int x_12) Z h hth zin_7 tyX7 tyX7_ok nmX7 rfl 6 rfl ⟨by decide, rfl⟩ (zm_RX7 (List.mem_of_getElem? (i := 9) rfl)) (fun _ h9 => h9) rfl (zV.i (bx_12.w ⟨by decide, by decide⟩)) rfl rfl dX7_readCall_16 (fun H locs F_13 h hfF_13 kF_13 => ?_)
  have c1_14 := (p_au.fr hfF_6 hth (by decide))
  have c1_15 : zC1 F_13 th Nt (zadv σ) := (zC1.adv (T := zTo Bt nt) c1_14 hfF_13 hth (by decide) (hfF_6.f hth 6 ⟨by decide, by decide⟩ kx_1) kF_13 (by have := br_5.1; have := br_5.2; have := bd.1; have := bd.2; have := bx_1.1; have := bx_1.2; have := bx_9.1; have := bx_9.2; have := bsz_.1; have := bsz_.2; have := bx_12.1; have := bx_12.2; have := bx_2.1; have := bx_2.2; have := bcc.1; have := bcc.2; have : (1 : Int32).toInt = 1 := (by decide); omega) hLs_ ⟨by rw [hr1]; decide, by rw [hr1]; decide⟩)
  have rc_15 : zRc (zTo Bt nt) σ [(17, d.toInt.toNat, 0, 0)] (zadv σ) [(18, d.toInt.toNat, 0, 0), (19, d.toInt.toNat, (znx Nt σ).toNat, 0)] := zRc.partC (N := Nt) rc0_ hr1 znx_tn
  have st_15 : zss σ (zadv σ) := zsm.adv.ss
  have ss_15 : zss σ (zadv σ) := ss0_.trans st_15
  generalize hσ_15 : zadv σ = σ_15 at c1_15 rc_15 st_15 ss_15
  obtain ⟨⟨x_16, kx_16, nx_16⟩, ⟨x_17, kx_17, nx_17⟩, ox_16⟩ := id c1_15
  have gx_16 := zC1.nx c1_15 hLs_.1 kx_16
  have bx_16 : zB 0 600 x_16 := ⟨by omega, by have := hLs_.2.1; omega⟩
  have bx_17 := zB.all x_17
  have vx_16 := congrArg Int32.toInt (z_same kF_13 kx_16)
  have mo_15 := zss.nx st_15 ox_1 ox_16
  refine lv_aload_n hx hb dX7_readCall_19 rfl (lv_at hl 1 rfl) ?_
  refine lv_iload_n hx hb dX7_readCall_20 rfl (lv_at hl 2 rfl) ?_
  have p_18 := ((p_tb.fr hfF_6 htk (by decide)).fr hfF_13 htk (by decide))
  refine zk_Vv (As := [.int d]) (rest := []) (bytes := cX7_openBracket) (maxL := 2) (ret := none) Z h (ze_X7_openBracket l D k Γ L F_13 H.size th d tk Bt nt Nt σ_15 hth bd (hfF_13.f hth 4 ⟨by decide, by decide⟩ (hfF_6.f hth 4 ⟨by decide, by decide⟩ ktk)) htk p_18 c1_15) (cwV 1 hg zv_RX7_188 rfl rfl rfl zd_X7_openBracket ⟨z_leR hRf (by have := br_5.1; have := br_5.2; have := bd.1; have := bd.2; have := bx_9.1; have := bx_9.2; have := bsz_.1; have := bsz_.2; have := bx_16.1; have := bx_16.2; have := bx_17.1; have := bx_17.2; have := bcc.1; have := bcc.2; have : (1 : Int32).toInt = 1 := (by decide); dsimp only; omega), z_leR hRl (by have := br_5.1; have := br_5.2; have := bd.1; have := bd.2; have := bx_9.1; have := bx_9.2; have := bsz_.1; have := bsz_.2; have := bx_16.1; have := bx_16.2; have := bx_17.1; have := bx_17.2; have := bcc.1; have := bcc.2; have : (1 : Int32).toInt = 1 := (by decide); dsimp only; omega)⟩) hth (by decide) rfl rfl hl.1 rfl (Nat.le_of_ble_eq_true rfl) dX7_readCall_21 ⟨Nat.zero_le _, Nat.zero_le _⟩ (fun F_19 H locs w_20 h hfF_19 => ?_)
  obtain ⟨q_21, -⟩ := w_20
  have hop_ : 6 ≤ d.toInt → ∃ q, zop (zTo Bt nt) Nt d.toInt σ_15 = .inr q := fun h9 => zop_bad h9
  have c1_22 : zC1 F_19 th Nt (zop (zTo Bt nt) Nt d.toInt σ_15) := q_21
  have rc_22 : zRc (zTo Bt nt) σ [(17, d.toInt.toNat, 0, 0)] (zop (zTo Bt nt) Nt d.toInt σ_15) [(19, d.toInt.toNat, (znx Nt σ).toNat, 0)] := zRc.op (N := Nt) rc_15 (by have := br_5.1; have := br_5.2; have := bd.1; have := bd.2; have := bx_9.1; have := bx_9.2; have := bsz_.1; have := bsz_.2; have := bcc.1; have := bcc.2; have : (1 : Int32).toInt = 1 := (by decide); omega)
  have st_22 : zss σ_15 (zop (zTo Bt nt) Nt d.toInt σ_15) := zsm.op.ss
  have ss_22 : zss σ (zop (zTo Bt nt) Nt d.toInt σ_15) := ss_15.trans st_22
  generalize hσ_22 : zop (zTo Bt nt) Nt d.toInt σ_15 = σ_22 at c1_22 rc_22 st_22 ss_22
  obtain ⟨⟨x_23, kx_23, nx_23⟩, ⟨x_24, kx_24, nx_24⟩, ox_23⟩ := id c1_22
  have gx_23 := zC1.nx c1_22 hLs_.1 kx_23
  have bx_23 : zB 0 600 x_23 := ⟨by omega, by have := hLs_.2.1; omega⟩
  have bx_24 := zB.all x_24
  have mo_22 := zss.nx st_22 ox_16 ox_23
  rw [hσ_22] at hop_
  have ad_25 := ad_3.fr hfF_6 hth ⟨by decide, by decide⟩
  have ad_26 := ad_25.fr hfF_13 hth ⟨by decide, by decide⟩
  have ad_27 := ad_26.fr hfF_19 hth ⟨by decide, by decide⟩
  have ad_28 := ad_4.fr hfF_6 hth ⟨by decide, by decide⟩
  have ad_29 := ad_28.fr hfF_13 hth ⟨by decide, by decide⟩
  have ad_30 := ad_29.fr hfF_19 hth ⟨by decide, by decide⟩
  have ccb_ : zCc Γ F_19 F_19 th (zTo Bt nt) σ_22 σ_22 (d.toInt + 1) := zCc.rf (hfF_19.f hth 11 ⟨by decide, by decide⟩ (hfF_13.f hth 11 ⟨by decide, by decide⟩ kx_9)) (by have := br_5.1; have := br_5.2; have := bd.1; have := bd.2; have := bx_9.1; have := bx_9.2; have := bsz_.1; have := bsz_.2; have := bx_23.1; have := bx_23.2; have := bx_24.1; have := bx_24.2; have := bcc.1; have := bcc.2; have : (1 : Int32).toInt = 1 := (by decide); omega) ⟨ad_27, ad_30⟩ (zcl_open (a := d.toInt) hm_ hr1 hLs_ (by rw [hσ_15]; exact hσ_22) (by have := br_5.1; have := br_5.2; have := bd.1; have := bd.2; have := bx_9.1; have := bx_9.2; have := bsz_.1; have := bsz_.2; have := bx_23.1; have := bx_23.2; have := bx_24.1; have := bx_24.2; have := bcc.1; have := bcc.2; have : (1 : Int32).toInt = 1 := (by decide); omega))
  have ar_31 : zar F_19 th 7 = (upd (zar F th 7) (Int32.toNatClampNeg cc) x_1) := ((ad_26.ar hfF_19 hth ⟨by decide, by decide⟩ ⟨by decide, by decide⟩).trans ((ad_25.ar hfF_13 hth ⟨by decide, by decide⟩ ⟨by decide, by decide⟩).trans q_10))
  have ar_32 : zar F_19 th 8 = (zar F th 8) := ((ad_29.ar hfF_19 hth ⟨by decide, by decide⟩ ⟨by decide, by decide⟩).trans ((ad_28.ar hfF_13 hth ⟨by decide, by decide⟩ ⟨by decide, by decide⟩).trans q_11))
  refine lv_aload_n hx hb dX7_readCall_24 rfl (lv_at hl 1 rfl) ?_
  refine lv_iload_n hx hb dX7_readCall_25 rfl (lv_at hl 2 rfl) ?_
  have p_33 := (p_18.fr hfF_19 htk (by decide))
  refine zk_Vi (As := [.int d]) (rest := []) (bytes := cX7_readSums) (maxL := 4) (ret := (some .int)) Z h (ze_X7_readSums l D k Γ L F_19 H.size th d pr tk co Bt nt Nt x_9 σ_22 (znx Nt σ).toNat nv hth bd (hfF_19.f hth 3 ⟨by decide, by decide⟩ (hfF_13.f hth 3 ⟨by decide, by decide⟩ (hfF_6.f hth 3 ⟨by decide, by decide⟩ kpr))) hpr (hfF_19.f hth 4 ⟨by decide, by decide⟩ (hfF_13.f hth 4 ⟨by decide, by decide⟩ (hfF_6.f hth 4 ⟨by decide, by decide⟩ ktk))) htk (hfF_19.f hth 5 ⟨by decide, by decide⟩ (hfF_13.f hth 5 ⟨by decide, by decide⟩ (hfF_6.f hth 5 ⟨by decide, by decide⟩ kco))) hco p_33 (hfF_19.f hth 11 ⟨by decide, by decide⟩ (hfF_13.f hth 11 ⟨by decide, by decide⟩ kx_9)) (bx_9.w ⟨by decide, by decide⟩) c1_22 (zCc.m (ccb_.w (dep' := d.toInt + 1) (by have := br_5.1; have := br_5.2; have := bd.1; have := bd.2; have := bx_9.1; have := bx_9.2; have := bsz_.1; have := bsz_.2; have := bx_23.1; have := bx_23.2; have := bx_24.1; have := bx_24.2; have := bcc.1; have := bcc.2; have : (1 : Int32).toInt = 1 := (by decide); omega)) (hfF_19.f hth 11 ⟨by decide, by decide⟩ (hfF_13.f hth 11 ⟨by decide, by decide⟩ kx_9))) (by have := br_5.1; have := br_5.2; have := bd.1; have := bd.2; have := bx_9.1; have := bx_9.2; have := bsz_.1; have := bsz_.2; have := bx_23.1; have := bx_23.2; have := bx_24.1; have := bx_24.2; have := bcc.1; have := bcc.2; have : (1 : Int32).toInt = 1 := (by decide); omega) hrec hop_) (cwV 1 hg zv_RX7_200 rfl rfl rfl zd_X7_readSums ⟨z_leR hRf (by have := br_5.1; have := br_5.2; have := bd.1; have := bd.2; have := bx_9.1; have := bx_9.2; have := bsz_.1; have := bsz_.2; have := bx_23.1; have := bx_23.2; have := bx_24.1; have := bx_24.2; have := bcc.1; have := bcc.2; have : (1 : Int32).toInt = 1 := (by decide); dsimp only; omega), z_leR hRl (by have := br_5.1; have := br_5.2; have := bd.1; have := bd.2; have := bx_9.1; have := bx_9.2; have := bsz_.1; have := bsz_.2; have := bx_23.1; have := bx_23.2; have := bx_24.1; have := bx_24.2; have := bcc.1; have := bcc.2; have : (1 : Int32).toInt = 1 := (by decide); dsimp only; omega)⟩) hth (by decide) rfl rfl hl.1 rfl (Nat.le_of_ble_eq_true rfl) dX7_readCall_26 ⟨Nat.zero_le _, Nat.zero_le _⟩ (fun r_34 F_35 H locs w_36 h hfF_35 => ?_)
  obtain ⟨br_34, ⟨x_38, kx_38, bx_38, q_37⟩, ⟨σ_40, c1_40, rn_40, st_40, cn_40⟩, -⟩ := w_36
  have rc_40 : zRc (zTo Bt nt) σ [(17, d.toInt.toNat, 0, 0)] σ_40 [(6, 41, 0, 0), (21, (znx Nt σ).toNat, r_34.toInt.toNat, 0)] := zRc.calls rc_22 (rn_40.x (zSy_eq (by have := br_5.1; have := br_5.2; have := bd.1; have := bd.2; have := bx_9.1; have := bx_9.2; have := bx_38.1; have := bx_38.2; have := bsz_.1; have := bsz_.2; have := bcc.1; have := bcc.2; have : (1 : Int32).toInt = 1 := (by decide); omega) (by have := br_5.1; have := br_5.2; have := bd.1; have := bd.2; have := bx_9.1; have := bx_9.2; have := bx_38.1; have := bx_38.2; have := bsz_.1; have := bsz_.2; have := bcc.1; have := bcc.2; have : (1 : Int32).toInt = 1 := (by decide); omega) (by have := br_5.1; have := br_5.2; have := bd.1; have := bd.2; have := bx_9.1; have := bx_9.2; have := bx_38.1; have := bx_38.2; have := bsz_.1; have := bsz_.2; have := bcc.1; have := bcc.2; have : (1 : Int32).toInt = 1 := (by decide); omega)))
  have ss_40 : zss σ σ_40 := ss_22.trans st_40
  have cc_40 : zCc Γ F_19 F_35 th (zTo Bt nt) σ_22 (σ_40) (d.toInt + 1) := zCc.call ccb_ cn_40
  obtain ⟨⟨x_41, kx_41, nx_41⟩, ⟨x_42, kx_42, nx_42⟩, ox_41⟩ := id c1_40
  have gx_41 := zC1.nx c1_40 hLs_.1 kx_41
  have bx_41 : zB 0 600 x_41 := ⟨by omega, by have := hLs_.2.1; omega⟩
  have bx_42 := zB.all x_42
  have mo_40 := zss.nx st_40 ox_23 ox_41
  refine lv_istore_n (lv' := [(3, .int r_34), (2, .int r_5), (0, .ref th), (1, .int d)]) hx hb dX7_readCall_29 rfl hl (by decide) rfl (fun ls hl => ?_)
  refine lv_aload_n hx hb dX7_readCall_30 rfl (lv_at hl 2 rfl) ?_
  refine lv_bipush (v := 41) hx hb dX7_readCall_31 (by decide) ?_
  have p_43 := (p_33.fr hfF_35 htk (by decide))
  refine zk_Vv (As := [.int 41]) (rest := []) (bytes := cX7_take) (maxL := 2) (ret := none) Z h (ze_X7_take l D k Γ L F_35 H.size th 41 tk Bt nt Nt σ_40 hth (zB.of ⟨by decide, by decide⟩) (hfF_35.f hth 4 ⟨by decide, by decide⟩ (hfF_19.f hth 4 ⟨by decide, by decide⟩ (hfF_13.f hth 4 ⟨by decide, by decide⟩ (hfF_6.f hth 4 ⟨by decide, by decide⟩ ktk)))) htk p_43 c1_40) (cwV 1 hg zv_RX7_108 rfl rfl rfl zd_X7_take ⟨z_leR hRf (by have := br_34.1; have := br_34.2; have := br_5.1; have := br_5.2; have := bd.1; have := bd.2; have := bx_38.1; have := bx_38.2; have := bsz_.1; have := bsz_.2; have := bx_41.1; have := bx_41.2; have := bx_42.1; have := bx_42.2; have := bcc.1; have := bcc.2; have : (1 : Int32).toInt = 1 := (by decide); have : (41 : Int32).toInt = 41 := (by decide); dsimp only; omega), z_leR hRl (by have := br_34.1; have := br_34.2; have := br_5.1; have := br_5.2; have := bd.1; have := bd.2; have := bx_38.1; have := bx_38.2; have := bsz_.1; have := bsz_.2; have := bx_41.1; have := bx_41.2; have := bx_42.1; have := bx_42.2; have := bcc.1; have := bcc.2; have : (1 : Int32).toInt = 1 := (by decide); have : (41 : Int32).toInt = 41 := (by decide); dsimp only; omega)⟩) hth (by decide) rfl rfl hl.1 rfl (Nat.le_of_ble_eq_true rfl) dX7_readCall_33 ⟨Nat.zero_le _, Nat.zero_le _⟩ (fun F_44 H locs w_45 h hfF_44 => ?_)
  obtain ⟨q_46, -⟩ := w_45
  have c1_47 : zC1 F_44 th Nt (ztk (zTo Bt nt) Nt (41 : Int32).toInt σ_40) := q_46
  have rc_47 : zRc (zTo Bt nt) σ [(17, d.toInt.toNat, 0, 0)] (ztk (zTo Bt nt) Nt (41 : Int32).toInt σ_40) [(21, (znx Nt σ).toNat, r_34.toInt.toNat, 0)] := zRc.tk (N := Nt) rc_40 (by decide)
  have st_47 : zss σ_40 (ztk (zTo Bt nt) Nt (41 : Int32).toInt σ_40) := zsm.tk.ss
  have ss_47 : zss σ (ztk (zTo Bt nt) Nt (41 : Int32).toInt σ_40) := ss_40.trans st_47
  have cc_47 : zCc Γ F_19 F_44 th (zTo Bt nt) σ_22 (ztk (zTo Bt nt) Nt (41 : Int32).toInt σ_40) (d.toInt) := (zCc.shut (N := Nt) (cc_40.fr hfF_44 hth (by decide) (zTo_P Bt nt)) (by have := br_34.1; have := br_34.2; have := br_5.1; have := br_5.2; have := bd.1; have := bd.2; have := bx_38.1; have := bx_38.2; have := bsz_.1; have := bsz_.2; have := bcc.1; have := bcc.2; have : (1 : Int32).toInt = 1 := (by decide); omega) (by decide))
  generalize hσ_47 : ztk (zTo Bt nt) Nt (41 : Int32).toInt σ_40 = σ_47 at c1_47 rc_47 st_47 ss_47 cc_47
  obtain ⟨⟨x_48, kx_48, nx_48⟩, ⟨x_49, kx_49, nx_49⟩, ox_48⟩ := id c1_47
  have gx_48 := zC1.nx c1_47 hLs_.1 kx_48
  have bx_48 : zB 0 600 x_48 := ⟨by omega, by have := hLs_.2.1; omega⟩
  have bx_49 := zB.all x_49
  have mo_47 := zss.nx st_47 ox_41 ox_48
  refine lv_aload_n hx hb dX7_readCall_36 rfl (lv_at hl 2 rfl) ?_
  refine zt_getk (t := 7) (C := RX7) (T := TX7) (N := 12) Z h hth zin_7 rfl 5 (hfF_44.f hth 5 ⟨by decide, by decide⟩ (hfF_35.f hth 5 ⟨by decide, by decide⟩ (hfF_19.f hth 5 ⟨by decide, by decide⟩ (hfF_13.f hth 5 ⟨by decide, by decide⟩ (hfF_6.f hth 5 ⟨by decide, by decide⟩ kco))))) ⟨by decide, rfl, by decide⟩ (zm_RX7 (List.mem_of_getElem? (i := 6) rfl)) (fun _ h9 => h9) dX7_readCall_37 ?_
  refine lv_bipush (v := 9) hx hb dX7_readCall_40 (by decide) ?_
  refine lv_iconst (v := 0) hx hb dX7_readCall_42 (by decide) ?_
  refine lv_iconst (v := 0) hx hb dX7_readCall_43 (by decide) ?_
  refine zk_Vi (As := [.int 9, .int 0, .int 0]) (rest := []) (bytes := cX1_add) (maxL := 4) (ret := (some .int)) Z h (zc_X1_add l D k Γ L F_44 H.size co 9 0 0 hco) (cwV 3 hg zv_RX7_117 rfl rfl rfl zd_X1_add ⟨z_leR hRf (by have := br_34.1; have := br_34.2; have := br_5.1; have := br_5.2; have := bd.1; have := bd.2; have := bx_38.1; have := bx_38.2; have := bsz_.1; have := bsz_.2; have := bx_48.1; have := bx_48.2; have := bx_49.1; have := bx_49.2; have := bcc.1; have := bcc.2; have : (0 : Int32).toInt = 0 := (by decide); have : (1 : Int32).toInt = 1 := (by decide); have : (9 : Int32).toInt = 9 := (by decide); dsimp only; omega), z_leR hRl (by have := br_34.1; have := br_34.2; have := br_5.1; have := br_5.2; have := bd.1; have := bd.2; have := bx_38.1; have := bx_38.2; have := bsz_.1; have := bsz_.2; have := bx_48.1; have := bx_48.2; have := bx_49.1; have := bx_49.2; have := bcc.1; have := bcc.2; have : (0 : Int32).toInt = 0 := (by decide); have : (1 : Int32).toInt = 1 := (by decide); have : (9 : Int32).toInt = 9 := (by decide); dsimp only; omega)⟩) hco (by decide) rfl rfl hl.1 rfl (Nat.le_of_ble_eq_true rfl) dX7_readCall_44 ⟨Nat.zero_le _, Nat.zero_le _⟩ (fun r_50 F_51 H locs w_52 h hfF_51 => ?_)
  obtain ⟨br_50, -⟩ := w_52
  refine lv_istore (lv' := [(4, .int r_50), (3, .int r_34), (2, .int r_5), (0, .ref th), (1, .int d)]) hx hb dX7_readCall_47 hl (by decide) rfl (fun ls hl => ?_)
  have cc_53 := (cc_47.fr hfF_51 hth (by decide) (zTo_P Bt nt))
  have hle_ := zCc.le cc_53 (hfF_19.f hth 11 ⟨by decide, by decide⟩ (hfF_13.f hth 11 ⟨by decide, by decide⟩ kx_9)) (hfF_51.f hth 11 ⟨by decide, by decide⟩ (hfF_44.f hth 11 ⟨by decide, by decide⟩ kx_38))
  refine lv_iload_n hx hb dX7_readCall_49 rfl (lv_at hl 2 rfl) ?_
  refine lv_if_lt (tgt := 76) hx hb dX7_readCall_50 (by decide) (fun c_54 => ?_) (fun c_54 => ?_)
  · have c_54 := z_lt c_54
    have br_5_55 : zB (-1) (-1) r_5 := zB.ltL c_54 br_5 (zBc 0 0 (by decide)) (by decide)
    exfalso
    have := br_50.1; have := br_50.2; have := br_34.1; have := br_34.2; have := br_5_55.1; have := br_5_55.2; have := bd.1; have := bd.2; have := bx_48.1; have := bx_48.2; have := bx_38.1; have := bx_38.2; have := bsz_.1; have := bsz_.2; have := bx_49.1; have := bx_49.2; have := bcc.1; have := bcc.2; have : (0 : Int32).toInt = 0 := (by decide); have : (1 : Int32).toInt = 1 := (by decide); omega
  · have c_54 := z_nlt c_54
    have br_5_56 : zB 0 149 r_5 := zB.leR c_54 (zBc 0 0 (by decide)) br_5 (by decide)
    refine lv_iload_n hx hb dX7_readCall_53 rfl (lv_at hl 2 rfl) ?_
    refine lv_aload_n hx hb dX7_readCall_54 rfl (lv_at hl 3 rfl) ?_
    refine zt_getk (t := 7) (C := RX7) (T := TX7) (N := 12) Z h hth zin_7 rfl 11 (hfF_51.f hth 11 ⟨by decide, by decide⟩ (hfF_44.f hth 11 ⟨by decide, by decide⟩ kx_38)) ⟨by decide, rfl, by decide⟩ (zm_RX7 (List.mem_of_getElem? (i := 10) rfl)) (fun _ h9 => h9) dX7_readCall_55 ?_
    refine lv_icmp_ge (tgt := 76) hx hb dX7_readCall_58 (by decide) (fun c_57 => ?_) (fun c_57 => ?_)
    · have c_57 := z_le c_57
      have bx_38_58 : zB 0 149 x_38 := zB.leL c_57 bx_38 br_5_56 (by decide)
      exfalso
      have := br_50.1; have := br_50.2; have := br_34.1; have := br_34.2; have := br_5_56.1; have := br_5_56.2; have := bd.1; have := bd.2; have := bx_48.1; have := bx_48.2; have := bx_38_58.1; have := bx_38_58.2; have := bsz_.1; have := bsz_.2; have := bx_49.1; have := bx_49.2; have := bcc.1; have := bcc.2; have : (0 : Int32).toInt = 0 := (by decide); have : (1 : Int32).toInt = 1 := (by decide); omega
    · have c_57 := z_nle c_57
      have bx_38_59 : zB 1 150 x_38 := zB.ltR c_57 br_5_56 bx_38 (by decide)
      have ad_60 := ad_27.fr hfF_35 hth ⟨by decide, by decide⟩
      have ad_61 := ad_60.fr hfF_44 hth ⟨by decide, by decide⟩
      have ad_62 := ad_61.fr hfF_51 hth ⟨by decide, by decide⟩
      have ad_63 := ad_30.fr hfF_35 hth ⟨by decide, by decide⟩
      have ad_64 := ad_63.fr hfF_44 hth ⟨by decide, by decide⟩
      have ad_65 := ad_64.fr hfF_51 hth ⟨by decide, by decide⟩
      refine lv_aload_n hx hb dX7_readCall_61 rfl (lv_at hl 3 rfl) ?_
      refine zt_getr (t := 7) (C := RX7) (T := TX7) (N := 12) Z h hth zin_7 rfl 8 rfl ⟨by decide, rfl⟩ (zm_RX7 (List.mem_of_getElem? (i := 113) rfl)) (fun _ h9 => h9) dX7_readCall_62 (fun a_66 ka_66 ha_66 => ?_)
      refine lv_iload_n hx hb dX7_readCall_65 rfl (lv_at hl 2 rfl) ?_
      refine lv_iload_n hx hb dX7_readCall_66 rfl (lv_at hl 1 rfl) ?_
      refine zt_iaste (t := 107) Z h ha_66 ⟨by decide, rfl⟩ br_5_56 ⟨by decide, by decide⟩ (br_34.w ⟨by decide, by decide⟩) dX7_readCall_67 (fun H locs F_67 h hfF_67 eF_67 gF_67 => ?_)
      have uF_67 := (zar_st ka_66 (hfF_67.f hth 8 ⟨by decide, by decide⟩ ka_66) eF_67 gF_67).trans (congrArg (fun z => upd z (Int32.toNatClampNeg r_5) r_34) (rfl : zar F_51 th 8 = (zar F_51 th 8)))
      refine lv_aload_n hx hb dX7_readCall_68 rfl (lv_at hl 3 rfl) ?_
      refine zt_getr (t := 7) (C := RX7) (T := TX7) (N := 12) Z h hth zin_7 rfl 9 rfl ⟨by decide, rfl⟩ (zm_RX7 (List.mem_of_getElem? (i := 114) rfl)) (fun _ h9 => h9) dX7_readCall_69 (fun a_68 ka_68 ha_68 => ?_)
      refine lv_iload_n hx hb dX7_readCall_72 rfl (lv_at hl 2 rfl) ?_
      refine lv_iload hx hb dX7_readCall_73 (lv_at hl 0 rfl) ?_
      have ad_70 := z_ad (j := 9) (c := 160) h.2.1 hth (by decide) rfl
      refine zt_iaste (t := 160) Z h ha_68 ⟨by decide, rfl⟩ br_5_56 ⟨by decide, by decide⟩ (br_50.w ⟨by decide, by decide⟩) dX7_readCall_75 (fun H locs F_69 h hfF_69 eF_69 gF_69 => ?_)
      have uF_69 := (zar_st ka_68 (hfF_69.f hth 9 ⟨by decide, by decide⟩ ka_68) eF_69 gF_69).trans (congrArg (fun z => upd z (Int32.toNatClampNeg r_5) r_50) (rfl : zar F_67 th 9 = (zar F_67 th 9)))
      have ad_71 := ad_62.fr hfF_67 hth ⟨by decide, by decide⟩
      have ar_72 : zar F_69 th 7 = (zar F_51 th 7) := ((ad_71.ar hfF_69 hth ⟨by decide, by decide⟩ ⟨by decide, by decide⟩).trans ((ad_62.ar hfF_67 hth ⟨by decide, by decide⟩ ⟨by decide, by decide⟩).trans rfl))
      have ad_73 := ad_65.fr hfF_67 hth ⟨by decide, by decide⟩
      have ar_74 : zar F_69 th 8 = (upd (zar F_51 th 8) (Int32.toNatClampNeg r_5) r_34) := ((ad_73.ar hfF_69 hth ⟨by decide, by decide⟩ ⟨by decide, by decide⟩).trans uF_67)
      have ad_75 := ad_71.fr hfF_69 hth ⟨by decide, by decide⟩
      have ad_76 := ad_73.fr hfF_69 hth ⟨by decide, by decide⟩
      have c1_77 := (((c1_47.fr hfF_51 hth (by decide)).fr hfF_67 hth (by decide)).fr hfF_69 hth (by decide))
      have c1_78 : zC1 F_69 th Nt (zmap (fun _ d => zaddc d [((znx Nt σ).toNat, r_34.toInt.toNat)]) σ_47) := c1_77.map
      have rc_78 : zRc (zTo Bt nt) σ [(17, d.toInt.toNat, 0, 0)] (zmap (fun _ d => zaddc d [((znx Nt σ).toNat, r_34.toInt.toNat)]) σ_47) [] := zRc.callE rc_47
      have st_78 : zss σ_47 (zmap (fun _ d => zaddc d [((znx Nt σ).toNat, r_34.toInt.toNat)]) σ_47) := zss.map (fun _ _ => zEL.addc)
      have ss_78 : zss σ (zmap (fun _ d => zaddc d [((znx Nt σ).toNat, r_34.toInt.toNat)]) σ_47) := ss_47.trans st_78
      have cc_78 : zCc Γ F F_69 th (zTo Bt nt) σ (zmap (fun _ d => zaddc d [((znx Nt σ).toNat, r_34.toInt.toNat)]) σ_47) (d.toInt) := (zCc.callX kcc bcc.1 (hfF_19.f hth 11 ⟨by decide, by decide⟩ (hfF_13.f hth 11 ⟨by decide, by decide⟩ kx_9)) (by have := br_50.1; have := br_50.2; have := br_34.1; have := br_34.2; have := br_5_56.1; have := br_5_56.2; have := bd.1; have := bd.2; have := bx_9.1; have := bx_9.2; have := bx_1.1; have := bx_1.2; have := bx_38_59.1; have := bx_38_59.2; have := bsz_.1; have := bsz_.2; have := bx_48.1; have := bx_48.2; have := bx_49.1; have := bx_49.2; have := bcc.1; have := bcc.2; have : (0 : Int32).toInt = 0 := (by decide); have : (1 : Int32).toInt = 1 := (by decide); omega) ar_31 (by have := br_50.1; have := br_50.2; have := br_34.1; have := br_34.2; have := br_5_56.1; have := br_5_56.2; have := bd.1; have := bd.2; have := bx_9.1; have := bx_9.2; have := bx_1.1; have := bx_1.2; have := bx_38_59.1; have := bx_38_59.2; have := bsz_.1; have := bsz_.2; have := bx_48.1; have := bx_48.2; have := bx_49.1; have := bx_49.2; have := bcc.1; have := bcc.2; have : (0 : Int32).toInt = 0 := (by decide); have : (1 : Int32).toInt = 1 := (by decide); have h8 := nx_1; omega) ar_32 cc_53 (hfF_51.f hth 11 ⟨by decide, by decide⟩ (hfF_44.f hth 11 ⟨by decide, by decide⟩ kx_38)) (hfF_69.f hth 11 ⟨by decide, by decide⟩ (hfF_67.f hth 11 ⟨by decide, by decide⟩ (hfF_51.f hth 11 ⟨by decide, by decide⟩ (hfF_44.f hth 11 ⟨by decide, by decide⟩ kx_38)))) ar_72 (by rw [show cc = r_5 from Int32.toInt_inj.mp (by have := br_50.1; have := br_50.2; have := br_34.1; have := br_34.2; have := br_5_56.1; have := br_5_56.2; have := bd.1; have := bd.2; have := bx_9.1; have := bx_9.2; have := bx_1.1; have := bx_1.2; have := bx_38_59.1; have := bx_38_59.2; have := bsz_.1; have := bsz_.2; have := bx_48.1; have := bx_48.2; have := bx_49.1; have := bx_49.2; have := bcc.1; have := bcc.2; have : (0 : Int32).toInt = 0 := (by decide); have : (1 : Int32).toInt = 1 := (by decide); omega)]; exact ar_74) (by have := br_50.1; have := br_50.2; have := br_34.1; have := br_34.2; have := br_5_56.1; have := br_5_56.2; have := bd.1; have := bd.2; have := bx_9.1; have := bx_9.2; have := bx_1.1; have := bx_1.2; have := bx_38_59.1; have := bx_38_59.2; have := bsz_.1; have := bsz_.2; have := bx_48.1; have := bx_48.2; have := bx_49.1; have := bx_49.2; have := bcc.1; have := bcc.2; have : (0 : Int32).toInt = 0 := (by decide); have : (1 : Int32).toInt = 1 := (by decide); omega) ⟨ad_75, ad_76⟩ (zsm.trans (σ1 := σ_15) (by rw [← hσ_15]; exact zsm.adv) (by rw [← hσ_22]; exact zsm.op)) (zcl_tn hr1 hLs_ (by rw [hσ_15]; exact hσ_22)))
      generalize hσ_78 : zmap (fun _ d => zaddc d [((znx Nt σ).toNat, r_34.toInt.toNat)]) σ_47 = σ_78 at c1_78 rc_78 st_78 ss_78 cc_78
      obtain ⟨⟨x_79, kx_79, nx_79⟩, ⟨x_80, kx_80, nx_80⟩, ox_79⟩ := id c1_78
      have gx_79 := zC1.nx c1_78 hLs_.1 kx_79
      have bx_79 : zB 0 600 x_79 := ⟨by omega, by have := hLs_.2.1; omega⟩
      have bx_80 := zB.all x_80
      have vx_79 := congrArg Int32.toInt (z_same (hfF_69.f hth 6 ⟨by decide, by decide⟩ (hfF_67.f hth 6 ⟨by decide, by decide⟩ (hfF_51.f hth 6 ⟨by decide, by decide⟩ kx_48))) kx_79)
      have mo_78 := zss.nx st_78 ox_48 ox_79
      subst hQ
      exact W.vret hx hb hr (fun t ht hW => ⟨⟨F_69, rfl, ⟨⟨x_38, (hfF_69.f hth 11 ⟨by decide, by decide⟩ (hfF_67.f hth 11 ⟨by decide, by decide⟩ (hfF_51.f hth 11 ⟨by decide, by decide⟩ (hfF_44.f hth 11 ⟨by decide, by decide⟩ kx_38)))), (bx_38_59.w ⟨by decide, by decide⟩), (by have := br_50.1; have := br_50.2; have := br_34.1; have := br_34.2; have := br_5_56.1; have := br_5_56.2; have := bd.1; have := bd.2; have := bx_38_59.1; have := bx_38_59.2; have := bsz_.1; have := bsz_.2; have := bx_79.1; have := bx_79.2; have := bx_80.1; have := bx_80.2; have := bcc.1; have := bcc.2; have : (0 : Int32).toInt = 0 := (by decide); have : (1 : Int32).toInt = 1 := (by decide); omega)⟩, ⟨σ_78, c1_78, rc_78, ss_78, (cc_78.w (by have := br_50.1; have := br_50.2; have := br_34.1; have := br_34.2; have := br_5_56.1; have := br_5_56.2; have := bd.1; have := bd.2; have := bx_38_59.1; have := bx_38_59.2; have := bsz_.1; have := bsz_.2; have := bx_79.1; have := bx_79.2; have := bx_80.1; have := bx_80.2; have := bcc.1; have := bcc.2; have : (0 : Int32).toInt = 0 := (by decide); have : (1 : Int32).toInt = 1 := (by decide); omega))⟩, trivial⟩, by rw [ht]; exact h.1, h.2.1, ((((((((hfF_6.w (by decide)).trans hfF_13 (by decide)).trans hfF_19 (by decide)).trans hfF_35 (by decide)).trans hfF_44 (by decide)).trans hfF_51 (by decide)).trans hfF_67 (by decide)).trans hfF_69 (by decide))⟩, h.2.2.F ht⟩) h.2.2.2.2 dX7_readCall_76

set_option maxHeartbeats 4000000 in
set_option maxRecDepth 100000 in
theorem ze_X7_readPart (l : Launch) (D : va_G) (k : Nat → ClassId) (Γ : Nat → Option Nat) (L : List Nat) (F : Nat → va_E) (sz : Nat) (th : Nat) (d : Int32) (pr : Nat) (tk : Nat) (co : Nat) (Bt : Nat → Int32) (nt : Nat) (Nt : Nat) (cc : Int32) (σ : zSg) (nv : Nat) (hth : Γ th = some 7) (bd : zB 0 6 d) (kpr : zfld F th 3 = .ref pr) (hpr : Γ pr = some 6) (ktk : zfld F th 4 = .ref tk) (htk : Γ tk = some 8) (kco : zfld F th 5 = .ref co) (hco : Γ co = some 1) (p_tb : zTb Γ F tk Bt nt Nt) (kcc : zfld F th 11 = .int cc) (bcc : zB 0 150 cc) (p_au : zC1 F th Nt (σ)) (hm_ : ∀ i d9, σ = .inl (i, d9) → 4 * cc.toInt + 5 ≤ zpo Bt nt i + (d.toInt)) (hr0 : 6 ≤ d.toInt + (nv : Int)) (hrec : ∀ q : Nat, nv = q + 1 → zR_sum l q) : Met l yX7_readPart zwX7_readPart ({ frames := 10 * nv + 7, cells := 0, slots := 0, locals := 400 * nv + 220 }) (va_Pc [.ref th, .int d] (zP D k Γ L F sz)) (va_Qv (fun (u : Nat → va_E) => (∃ (c9 : Int32), zfld u th 11 = .int c9 ∧ zB 0 150 c9 ∧ (0 ≤ c9.toInt)) ∧ (∃ σ9 : zSg, zC1 u th Nt σ9 ∧ zRc (zTo Bt nt) σ [(17, d.toInt.toNat, 0, 0)] σ9 [] ∧ zss σ σ9 ∧ zCc Γ F u th (zTo Bt nt) σ σ9 (d.toInt)) ∧ True) (zQ D k Γ L F [103, 701, 702, 706, 711, 10200, 10600, 10700, 15800, 15900, 16000, 16100]) (zA L sz)) 0 0 (zA L sz) := by
  refine Met.ofW (cc := cX7_readPart) (maxL := 2) (ret := none) (by decide) rfl ?_
  intro p e s m args below meth c s₁ B hml hv
  obtain ⟨rfl, hsz, hP, hK, hLn, hE, hI⟩ := hv
  have hx := B.exec
  have hb := B.bytes
  have hr := B.returns
  have hg : ∀ w ∈ zG, w.before _ s = true := fun w h9 => atoms_spec (ws := zwX7_readPart) B.pre w (List.mem_cons_of_mem _ h9)
  have hown : s.vm.findClass RX7 = some m.cls := findClass_of_methodNamed B.named
  have hlocks := B.notSynchronized
  subst hsz
  have Z : zC p m c cX7_readPart 2 s _ zG RX7 D k L := ⟨⟨hx, hb, hml, hown, hg⟩, hK, hLn, hE⟩
  have h : zH D k Γ L s F s.heap [] := ⟨hP, hI, va_S.rf⟩
  have hl := lv_entry ([.ref th, .int d]) (n := 2) (Nat.le_of_ble_eq_true rfl)
  rw [lg_entry_eq]
  generalize (lg_sl ([.ref th, .int d]) ++ List.replicate (2 - (lg_sl ([.ref th, .int d])).length) Slot.unset).toArray = ls at hl ⊢
  have hl : lv_has ls 2 [(0, .ref th), (1, .int d)] := hl
  clear hP hK hLn hE hI
  generalize hargs : ([.ref th, .int d] : List Value).toArray = args at *
  refine z_start (fun R Q hRf hRl hQ => ?_)
  have hRf : R.frames = 10 * nv + 7 := hRf
  have hRl : R.locals = 400 * nv + 220 := hRl
  have h9 := h
  have hLs_ := p_tb.2.2.2.1
  obtain ⟨sz_, ksz_, tsz_⟩ := p_tb.2.2.1
  have bsz_ : zB 1 601 sz_ := ⟨by have := hLs_.1; omega, by have := hLs_.2.1; omega⟩
  obtain ⟨⟨x_1, kx_1, nx_1⟩, ⟨x_2, kx_2, nx_2⟩, ox_1⟩ := id p_au
  have gx_1 := zC1.nx p_au hLs_.1 kx_1
  have bx_1 : zB 0 600 x_1 := ⟨by omega, by have := hLs_.2.1; omega⟩
  have bx_2 := zB.all x_2
  have ad_3 := z_ad (j := 7) (c := 106) h.2.1 hth (by decide) rfl
  have ad_4 := z_ad (j := 8) (c := 107) h.2.1 hth (by decide) rfl
  have cc0_ : zCc Γ F F th (zTo Bt nt) σ σ (d.toInt) := zCc.rf kcc bcc.1 ⟨ad_3, ad_4⟩ hm_
  have rc0_ : zRc (zTo Bt nt) σ [(17, d.toInt.toNat, 0, 0)] σ [(17, d.toInt.toNat, 0, 0)] := zRc.rf
  have ss0_ : zss σ σ := zss.rf
  refine lv_aload_n hx hb dX7_readPart_0 rfl (lv_at hl 0 rfl) ?_
  refine zk_Vi (As := []) (rest := []) (bytes := cX7_kind) (maxL := 2) (ret := (some .int)) Z h (ze_X7_kind l D k Γ L F s.heap.size th tk Bt nt Nt σ hth ktk htk p_tb p_au) (cwV 0 hg zv_RX7_65 rfl rfl rfl zd_X7_kind ⟨z_leR hRf (by have := bd.1; have := bd.2; have := bcc.1; have := bcc.2; have := bsz_.1; have := bsz_.2; have := bx_1.1; have := bx_1.2; have := bx_2.1; have := bx_2.2; dsimp only; omega), z_leR hRl (by have := bd.1; have := bd.2; have := bcc.1; have := bcc.2; have := bsz_.1; have := bsz_.2; have := bx_1.1; have := bx_1.2; have := bx_2.1; have := bx_2.2; dsimp only; omega)⟩) hth (by decide) rfl rfl hl.1 rfl (Nat.le_of_ble_eq_true rfl) dX7_readPart_1 ⟨Nat.zero_le _, Nat.zero_le _⟩ (fun r_5 F_6 H locs w_7 h hfF_6 => ?_)
  obtain ⟨rfl, q_8, -⟩ := w_7
  have br_5 := zB.all r_5
  by_cases c_9 : r_5 = 2
  · refine lv_lookup (off := 44) (tgt := 48) hx hb dX7_readPart_4 (by decide) (by rw [c_9]; rfl) (by decide) ?_
    have br_5_9 : zB 2 2 r_5 := by rw [c_9]; exact zBc _ _ (by decide)
    refine lv_aload_n hx hb dX7_readPart_48 rfl (lv_at hl 0 rfl) ?_
    refine zt_getk (t := 7) (C := RX7) (T := TX7) (N := 12) Z h hth zin_7 rfl 5 kco ⟨by decide, rfl, by decide⟩ (zm_RX7 (List.mem_of_getElem? (i := 6) rfl)) (fun _ h9 => h9) dX7_readPart_49 ?_
    refine lv_iconst (v := 1) hx hb dX7_readPart_52 (by decide) ?_
    refine lv_aload_n hx hb dX7_readPart_53 rfl (lv_at hl 0 rfl) ?_
    refine zt_getk (t := 7) (C := RX7) (T := TX7) (N := 12) Z h hth zin_7 rfl 4 ktk ⟨by decide, rfl, by decide⟩ (zm_RX7 (List.mem_of_getElem? (i := 4) rfl)) (fun _ h9 => h9) dX7_readPart_54 ?_
    refine lv_aload_n hx hb dX7_readPart_57 rfl (lv_at hl 0 rfl) ?_
    refine zt_getk (t := 7) (C := RX7) (T := TX7) (N := 12) Z h hth zin_7 rfl 6 kx_1 ⟨by decide, rfl, by decide⟩ (zm_RX7 (List.mem_of_getElem? (i := 9) rfl)) (fun _ h9 => h9) dX7_readPart_58 ?_
    refine zk_Vi (As := [.int x_1]) (rest := [.int 1, .ref co]) (bytes := cX8_valueOf) (maxL := 4) (ret := (some .int)) Z h (zc_X8_valueOf l D k Γ L F H.size tk x_1 htk) (cwV 1 hg zv_RX7_185 rfl rfl rfl zd_X8_valueOf ⟨z_leR hRf (by have := bd.1; have := bd.2; have := bx_1.1; have := bx_1.2; have := br_5_9.1; have := br_5_9.2; have := bcc.1; have := bcc.2; have := bsz_.1; have := bsz_.2; have := bx_2.1; have := bx_2.2; have : (1 : Int32).toInt = 1 := (by decide); dsimp only; omega), z_leR hRl (by have := bd.1; have := bd.2; have := bx_1.1; have := bx_1.2; have := br_5_9.1; have := br_5_9.2; have := bcc.1; have := bcc.2; have := bsz_.1; have := bsz_.2; have := bx_2.1; have := bx_2.2; have : (1 : Int32).toInt = 1 := (by decide); dsimp only; omega)⟩) htk (by decide) rfl rfl hl.1 rfl (Nat.le_of_ble_eq_true rfl) dX7_readPart_61 ⟨Nat.zero_le _, Nat.zero_le _⟩ (fun r_11 F_12 H locs w_13 h hfF_12 => ?_)
    obtain ⟨rfl, -⟩ := w_13
    have br_11 := zB.all r_11
    refine lv_iconst (v := 0) hx hb dX7_readPart_64 (by decide) ?_
    refine zk_Vi (As := [.int 1, .int r_11, .int 0]) (rest := []) (bytes := cX1_add) (maxL := 4) (ret := (some .int)) Z h (zc_X1_add l D k Γ L F H.size co 1 r_11 0 hco) (cwV 3 hg zv_RX7_117 rfl rfl rfl zd_X1_add ⟨z_leR hRf (by have := bd.1; have := bd.2; have := br_11.1; have := br_11.2; have := br_5_9.1; have := br_5_9.2; have := bcc.1; have := bcc.2; have := bsz_.1; have := bsz_.2; have := bx_1.1; have := bx_1.2; have := bx_2.1; have := bx_2.2; have : (0 : Int32).toInt = 0 := (by decide); have : (1 : Int32).toInt = 1 := (by decide); dsimp only; omega), z_leR hRl (by have := bd.1; have := bd.2; have := br_11.1; have := br_11.2; have := br_5_9.1; have := br_5_9.2; have := bcc.1; have := bcc.2; have := bsz_.1; have := bsz_.2; have := bx_1.1; have := bx_1.2; have := bx_2.1; have := bx_2.2; have : (0 : Int32).toInt = 0 := (by decide); have : (1 : Int32).toInt = 1 := (by decide); dsimp only; omega)⟩) hco (by decide) rfl rfl hl.1 rfl (Nat.le_of_ble_eq_true rfl) dX7_readPart_65 ⟨Nat.zero_le _, Nat.zero_le _⟩ (fun r_14 F_15 H locs w_16 h hfF_15 => ?_)
    obtain ⟨br_14, -⟩ := w_16
    refine lv_pop hx hb dX7_readPart_68 rfl ?_
    refine lv_aload_n hx hb dX7_readPart_69 rfl (lv_at hl 0 rfl) ?_
    refine lv_dup hx hb dX7_readPart_70 rfl ?_
    refine zt_getk (t := 7) (C := RX7) (T := TX7) (N := 12) Z h hth zin_7 rfl 6 (hfF_15.f hth 6 ⟨by decide, by decide⟩ kx_1) ⟨by decide, rfl, by decide⟩ (zm_RX7 (List.mem_of_getElem? (i := 9) rfl)) (fun _ h9 => h9) dX7_readPart_71 ?_
    refine lv_iconst (v := 1) hx hb dX7_readPart_74 (by decide) ?_
    refine lv_iadd hx hb dX7_readPart_75 ?_
    refine zi_add (lo := 1) (hi := 601) bx_1 (zBc 1 1 (by decide)) (by decide) (fun x_17 bx_17 tx_17 => ?_)
    refine zt_put (t := 7) (C := RX7) (T := TX7) (N := 12) (v := .int x_17) Z h hth zin_7 tyX7 tyX7_ok nmX7 rfl 6 rfl ⟨by decide, rfl⟩ (zm_RX7 (List.mem_of_getElem? (i := 9) rfl)) (fun _ h9 => h9) rfl (zV.i (bx_17.w ⟨by decide, by decide⟩)) rfl rfl dX7_readPart_76 (fun H locs F_18 h hfF_18 kF_18 => ?_)
    have c1_19 := (p_au.fr hfF_15 hth (by decide))
    have cc_20 := (cc0_.fr hfF_15 hth (by decide) (zTo_P Bt nt))
    have c1_21 : zC1 F_18 th Nt (zadv σ) := (zC1.adv (T := zTo Bt nt) c1_19 hfF_18 hth (by decide) (hfF_15.f hth 6 ⟨by decide, by decide⟩ kx_1) kF_18 (by have := bd.1; have := bd.2; have := bx_1.1; have := bx_1.2; have := br_5_9.1; have := br_5_9.2; have := bcc.1; have := bcc.2; have := bsz_.1; have := bsz_.2; have := bx_17.1; have := bx_17.2; have := bx_2.1; have := bx_2.2; have : (1 : Int32).toInt = 1 := (by decide); omega) hLs_ ⟨by have := bd.1; have := bd.2; have := bx_1.1; have := bx_1.2; have := br_5_9.1; have := br_5_9.2; have := bcc.1; have := bcc.2; have := bsz_.1; have := bsz_.2; have := bx_17.1; have := bx_17.2; have := bx_2.1; have := bx_2.2; have : (1 : Int32).toInt = 1 := (by decide); omega, by have := bd.1; have := bd.2; have := bx_1.1; have := bx_1.2; have := br_5_9.1; have := br_5_9.2; have := bcc.1; have := bcc.2; have := bsz_.1; have := bsz_.2; have := bx_17.1; have := bx_17.2; have := bx_2.1; have := bx_2.2; have : (1 : Int32).toInt = 1 := (by decide); omega⟩)
    have rc_21 : zRc (zTo Bt nt) σ [(17, d.toInt.toNat, 0, 0)] (zadv σ) [] := zRc.partA (N := Nt) rc0_ (by have := bd.1; have := bd.2; have := br_5_9.1; have := br_5_9.2; have := bcc.1; have := bcc.2; have := bsz_.1; have := bsz_.2; have := bx_17.1; have := bx_17.2; have := bx_2.1; have := bx_2.2; have : (1 : Int32).toInt = 1 := (by decide); omega)
    have st_21 : zss σ (zadv σ) := zsm.adv.ss
    have ss_21 : zss σ (zadv σ) := ss0_.trans st_21
    have cc_21 : zCc Γ F F_18 th (zTo Bt nt) σ (zadv σ) (d.toInt) := (cc_20.mv hfF_18 hth (by decide) (zTo_P Bt nt) zsm.adv.cs)
    generalize hσ_21 : zadv σ = σ_21 at c1_21 rc_21 st_21 ss_21 cc_21
    obtain ⟨⟨x_22, kx_22, nx_22⟩, ⟨x_23, kx_23, nx_23⟩, ox_22⟩ := id c1_21
    have gx_22 := zC1.nx c1_21 hLs_.1 kx_22
    have bx_22 : zB 0 600 x_22 := ⟨by omega, by have := hLs_.2.1; omega⟩
    have bx_23 := zB.all x_23
    have vx_22 := congrArg Int32.toInt (z_same kF_18 kx_22)
    have mo_21 := zss.nx st_21 ox_1 ox_22
    refine lv_goto (tgt := 148) hx hb dX7_readPart_79 (by decide) ?_
    subst hQ
    exact W.vret hx hb hr (fun t ht hW => ⟨⟨F_18, rfl, ⟨⟨cc, (hfF_18.f hth 11 ⟨by decide, by decide⟩ (hfF_15.f hth 11 ⟨by decide, by decide⟩ kcc)), bcc, (by have := bd.1; have := bd.2; have := bcc.1; have := bcc.2; have := br_5_9.1; have := br_5_9.2; have := bsz_.1; have := bsz_.2; have := bx_22.1; have := bx_22.2; have := bx_23.1; have := bx_23.2; have : (1 : Int32).toInt = 1 := (by decide); omega)⟩, ⟨σ_21, c1_21, rc_21, ss_21, (cc_21.w (by have := bd.1; have := bd.2; have := br_5_9.1; have := br_5_9.2; have := bcc.1; have := bcc.2; have := bsz_.1; have := bsz_.2; have := bx_22.1; have := bx_22.2; have := bx_23.1; have := bx_23.2; have : (1 : Int32).toInt = 1 := (by decide); omega))⟩, trivial⟩, by rw [ht]; exact h.1, h.2.1, ((hfF_15.w (by decide)).trans hfF_18 (by decide))⟩, h.2.2.F ht⟩) h.2.2.2.2 dX7_readPart_148
  · by_cases c_24 : r_5 = 3
    · refine lv_lookup (off := 78) (tgt := 82) hx hb dX7_readPart_4 (by decide) (by rw [c_24]; rfl) (by decide) ?_
      have br_5_24 : zB 3 3 r_5 := by rw [c_24]; exact zBc _ _ (by decide)
      refine lv_aload_n hx hb dX7_readPart_82 rfl (lv_at hl 0 rfl) ?_
      refine zt_getk (t := 7) (C := RX7) (T := TX7) (N := 12) Z h hth zin_7 rfl 5 kco ⟨by decide, rfl, by decide⟩ (zm_RX7 (List.mem_of_getElem? (i := 6) rfl)) (fun _ h9 => h9) dX7_readPart_83 ?_
      refine lv_iconst (v := 2) hx hb dX7_readPart_86 (by decide) ?_
      refine lv_aload_n hx hb dX7_readPart_87 rfl (lv_at hl 0 rfl) ?_
      refine zt_getk (t := 7) (C := RX7) (T := TX7) (N := 12) Z h hth zin_7 rfl 4 ktk ⟨by decide, rfl, by decide⟩ (zm_RX7 (List.mem_of_getElem? (i := 4) rfl)) (fun _ h9 => h9) dX7_readPart_88 ?_
      refine lv_aload_n hx hb dX7_readPart_91 rfl (lv_at hl 0 rfl) ?_
      refine zt_getk (t := 7) (C := RX7) (T := TX7) (N := 12) Z h hth zin_7 rfl 6 kx_1 ⟨by decide, rfl, by decide⟩ (zm_RX7 (List.mem_of_getElem? (i := 9) rfl)) (fun _ h9 => h9) dX7_readPart_92 ?_
      refine zk_Vi (As := [.int x_1]) (rest := [.int 2, .ref co]) (bytes := cX8_letterOf) (maxL := 2) (ret := (some .int)) Z h (zc_X8_letterOf l D k Γ L F H.size tk x_1 htk) (cwV 1 hg zv_RX7_139 rfl rfl rfl zd_X8_letterOf ⟨z_leR hRf (by have := bd.1; have := bd.2; have := bx_1.1; have := bx_1.2; have := br_5_24.1; have := br_5_24.2; have := bcc.1; have := bcc.2; have := bsz_.1; have := bsz_.2; have := bx_2.1; have := bx_2.2; have : (2 : Int32).toInt = 2 := (by decide); dsimp only; omega), z_leR hRl (by have := bd.1; have := bd.2; have := bx_1.1; have := bx_1.2; have := br_5_24.1; have := br_5_24.2; have := bcc.1; have := bcc.2; have := bsz_.1; have := bsz_.2; have := bx_2.1; have := bx_2.2; have : (2 : Int32).toInt = 2 := (by decide); dsimp only; omega)⟩) htk (by decide) rfl rfl hl.1 rfl (Nat.le_of_ble_eq_true rfl) dX7_readPart_95 ⟨Nat.zero_le _, Nat.zero_le _⟩ (fun r_26 F_27 H locs w_28 h hfF_27 => ?_)
      obtain ⟨rfl, br_26, -⟩ := w_28
      refine lv_iconst (v := 0) hx hb dX7_readPart_98 (by decide) ?_
      refine zk_Vi (As := [.int 2, .int r_26, .int 0]) (rest := []) (bytes := cX1_add) (maxL := 4) (ret := (some .int)) Z h (zc_X1_add l D k Γ L F H.size co 2 r_26 0 hco) (cwV 3 hg zv_RX7_117 rfl rfl rfl zd_X1_add ⟨z_leR hRf (by have := bd.1; have := bd.2; have := br_26.1; have := br_26.2; have := br_5_24.1; have := br_5_24.2; have := bcc.1; have := bcc.2; have := bsz_.1; have := bsz_.2; have := bx_1.1; have := bx_1.2; have := bx_2.1; have := bx_2.2; have : (0 : Int32).toInt = 0 := (by decide); have : (2 : Int32).toInt = 2 := (by decide); dsimp only; omega), z_leR hRl (by have := bd.1; have := bd.2; have := br_26.1; have := br_26.2; have := br_5_24.1; have := br_5_24.2; have := bcc.1; have := bcc.2; have := bsz_.1; have := bsz_.2; have := bx_1.1; have := bx_1.2; have := bx_2.1; have := bx_2.2; have : (0 : Int32).toInt = 0 := (by decide); have : (2 : Int32).toInt = 2 := (by decide); dsimp only; omega)⟩) hco (by decide) rfl rfl hl.1 rfl (Nat.le_of_ble_eq_true rfl) dX7_readPart_99 ⟨Nat.zero_le _, Nat.zero_le _⟩ (fun r_29 F_30 H locs w_31 h hfF_30 => ?_)
      obtain ⟨br_29, -⟩ := w_31
      refine lv_pop hx hb dX7_readPart_102 rfl ?_
      refine lv_aload_n hx hb dX7_readPart_103 rfl (lv_at hl 0 rfl) ?_
      refine lv_dup hx hb dX7_readPart_104 rfl ?_
      refine zt_getk (t := 7) (C := RX7) (T := TX7) (N := 12) Z h hth zin_7 rfl 6 (hfF_30.f hth 6 ⟨by decide, by decide⟩ kx_1) ⟨by decide, rfl, by decide⟩ (zm_RX7 (List.mem_of_getElem? (i := 9) rfl)) (fun _ h9 => h9) dX7_readPart_105 ?_
      refine lv_iconst (v := 1) hx hb dX7_readPart_108 (by decide) ?_
      refine lv_iadd hx hb dX7_readPart_109 ?_
      refine zi_add (lo := 1) (hi := 601) bx_1 (zBc 1 1 (by decide)) (by decide) (fun x_32 bx_32 tx_32 => ?_)
      refine zt_put (t := 7) (C := RX7) (T := TX7) (N := 12) (v := .int x_32) Z h hth zin_7 tyX7 tyX7_ok nmX7 rfl 6 rfl ⟨by decide, rfl⟩ (zm_RX7 (List.mem_of_getElem? (i := 9) rfl)) (fun _ h9 => h9) rfl (zV.i (bx_32.w ⟨by decide, by decide⟩)) rfl rfl dX7_readPart_110 (fun H locs F_33 h hfF_33 kF_33 => ?_)
      have c1_34 := (p_au.fr hfF_30 hth (by decide))
      have cc_35 := (cc0_.fr hfF_30 hth (by decide) (zTo_P Bt nt))
      have c1_36 : zC1 F_33 th Nt (zadv σ) := (zC1.adv (T := zTo Bt nt) c1_34 hfF_33 hth (by decide) (hfF_30.f hth 6 ⟨by decide, by decide⟩ kx_1) kF_33 (by have := bd.1; have := bd.2; have := bx_1.1; have := bx_1.2; have := br_5_24.1; have := br_5_24.2; have := bcc.1; have := bcc.2; have := bsz_.1; have := bsz_.2; have := bx_32.1; have := bx_32.2; have := bx_2.1; have := bx_2.2; have : (1 : Int32).toInt = 1 := (by decide); omega) hLs_ ⟨by have := bd.1; have := bd.2; have := bx_1.1; have := bx_1.2; have := br_5_24.1; have := br_5_24.2; have := bcc.1; have := bcc.2; have := bsz_.1; have := bsz_.2; have := bx_32.1; have := bx_32.2; have := bx_2.1; have := bx_2.2; have : (1 : Int32).toInt = 1 := (by decide); omega, by have := bd.1; have := bd.2; have := bx_1.1; have := bx_1.2; have := br_5_24.1; have := br_5_24.2; have := bcc.1; have := bcc.2; have := bsz_.1; have := bsz_.2; have := bx_32.1; have := bx_32.2; have := bx_2.1; have := bx_2.2; have : (1 : Int32).toInt = 1 := (by decide); omega⟩)
      have rc_36 : zRc (zTo Bt nt) σ [(17, d.toInt.toNat, 0, 0)] (zadv σ) [] := zRc.partA (N := Nt) rc0_ (by have := bd.1; have := bd.2; have := br_5_24.1; have := br_5_24.2; have := bcc.1; have := bcc.2; have := bsz_.1; have := bsz_.2; have := bx_32.1; have := bx_32.2; have := bx_2.1; have := bx_2.2; have : (1 : Int32).toInt = 1 := (by decide); omega)
      have st_36 : zss σ (zadv σ) := zsm.adv.ss
      have ss_36 : zss σ (zadv σ) := ss0_.trans st_36
      have cc_36 : zCc Γ F F_33 th (zTo Bt nt) σ (zadv σ) (d.toInt) := (cc_35.mv hfF_33 hth (by decide) (zTo_P Bt nt) zsm.adv.cs)
      generalize hσ_36 : zadv σ = σ_36 at c1_36 rc_36 st_36 ss_36 cc_36
      obtain ⟨⟨x_37, kx_37, nx_37⟩, ⟨x_38, kx_38, nx_38⟩, ox_37⟩ := id c1_36
      have gx_37 := zC1.nx c1_36 hLs_.1 kx_37
      have bx_37 : zB 0 600 x_37 := ⟨by omega, by have := hLs_.2.1; omega⟩
      have bx_38 := zB.all x_38
      have vx_37 := congrArg Int32.toInt (z_same kF_33 kx_37)
      have mo_36 := zss.nx st_36 ox_1 ox_37
      refine lv_goto (tgt := 148) hx hb dX7_readPart_113 (by decide) ?_
      subst hQ
      exact W.vret hx hb hr (fun t ht hW => ⟨⟨F_33, rfl, ⟨⟨cc, (hfF_33.f hth 11 ⟨by decide, by decide⟩ (hfF_30.f hth 11 ⟨by decide, by decide⟩ kcc)), bcc, (by have := bd.1; have := bd.2; have := bcc.1; have := bcc.2; have := br_5_24.1; have := br_5_24.2; have := bsz_.1; have := bsz_.2; have := bx_37.1; have := bx_37.2; have := bx_38.1; have := bx_38.2; have : (1 : Int32).toInt = 1 := (by decide); omega)⟩, ⟨σ_36, c1_36, rc_36, ss_36, (cc_36.w (by have := bd.1; have := bd.2; have := br_5_24.1; have := br_5_24.2; have := bcc.1; have := bcc.2; have := bsz_.1; have := bsz_.2; have := bx_37.1; have := bx_37.2; have := bx_38.1; have := bx_38.2; have : (1 : Int32).toInt = 1 := (by decide); omega))⟩, trivial⟩, by rw [ht]; exact h.1, h.2.1, ((hfF_30.w (by decide)).trans hfF_33 (by decide))⟩, h.2.2.F ht⟩) h.2.2.2.2 dX7_readPart_148
    · by_cases c_39 : r_5 = 4
      · refine lv_lookup (off := 131) (tgt := 135) hx hb dX7_readPart_4 (by decide) (by rw [c_39]; rfl) (by decide) ?_
        have br_5_39 : zB 4 4 r_5 := by rw [c_39]; exact zBc _ _ (by decide)
        refine lv_aload_n hx hb dX7_readPart_135 rfl (lv_at hl 0 rfl) ?_
        refine lv_iload_n hx hb dX7_readPart_136 rfl (lv_at hl 1 rfl) ?_
        refine zk_Vv (As := [.int d]) (rest := []) (bytes := cX7_readCall) (maxL := 5) (ret := none) Z h (ze_X7_readCall l D k Γ L F H.size th d pr tk co Bt nt Nt cc σ nv hth bd kpr hpr ktk htk kco hco p_tb kcc bcc p_au (zCc.m (cc0_.w (dep' := d.toInt) (by have := bd.1; have := bd.2; have := bcc.1; have := bcc.2; have := br_5_39.1; have := br_5_39.2; have := bsz_.1; have := bsz_.2; have := bx_1.1; have := bx_1.2; have := bx_2.1; have := bx_2.2; omega)) kcc) (by have := bd.1; have := bd.2; have := bcc.1; have := bcc.2; have := br_5_39.1; have := br_5_39.2; have := bsz_.1; have := bsz_.2; have := bx_1.1; have := bx_1.2; have := bx_2.1; have := bx_2.2; omega) hrec (by have := bd.1; have := bd.2; have := bcc.1; have := bcc.2; have := br_5_39.1; have := br_5_39.2; have := bsz_.1; have := bsz_.2; have := bx_1.1; have := bx_1.2; have := bx_2.1; have := bx_2.2; omega)) (cwV 1 hg zv_RX7_194 rfl rfl rfl zd_X7_readCall ⟨z_leR hRf (by have := bd.1; have := bd.2; have := br_5_39.1; have := br_5_39.2; have := bcc.1; have := bcc.2; have := bsz_.1; have := bsz_.2; have := bx_1.1; have := bx_1.2; have := bx_2.1; have := bx_2.2; dsimp only; omega), z_leR hRl (by have := bd.1; have := bd.2; have := br_5_39.1; have := br_5_39.2; have := bcc.1; have := bcc.2; have := bsz_.1; have := bsz_.2; have := bx_1.1; have := bx_1.2; have := bx_2.1; have := bx_2.2; dsimp only; omega)⟩) hth (by decide) rfl rfl hl.1 rfl (Nat.le_of_ble_eq_true rfl) dX7_readPart_137 ⟨Nat.zero_le _, Nat.zero_le _⟩ (fun F_41 H locs w_42 h hfF_41 => ?_)
        obtain ⟨⟨x_44, kx_44, bx_44, q_43⟩, ⟨σ_46, c1_46, rn_46, st_46, cn_46⟩, -⟩ := w_42
        have rc_46 : zRc (zTo Bt nt) σ [(17, d.toInt.toNat, 0, 0)] σ_46 [] := zRc.calls rc0_ (rn_46.x (zSy_eq (by have := bd.1; have := bd.2; have := bcc.1; have := bcc.2; have := bx_44.1; have := bx_44.2; have := br_5_39.1; have := br_5_39.2; have := bsz_.1; have := bsz_.2; omega) (by have := bd.1; have := bd.2; have := bcc.1; have := bcc.2; have := bx_44.1; have := bx_44.2; have := br_5_39.1; have := br_5_39.2; have := bsz_.1; have := bsz_.2; omega) (by have := bd.1; have := bd.2; have := bcc.1; have := bcc.2; have := bx_44.1; have := bx_44.2; have := br_5_39.1; have := br_5_39.2; have := bsz_.1; have := bsz_.2; omega)))
        have ss_46 : zss σ σ_46 := ss0_.trans st_46
        have cc_46 : zCc Γ F F_41 th (zTo Bt nt) σ (σ_46) (d.toInt) := zCc.call cc0_ cn_46
        obtain ⟨⟨x_47, kx_47, nx_47⟩, ⟨x_48, kx_48, nx_48⟩, ox_47⟩ := id c1_46
        have gx_47 := zC1.nx c1_46 hLs_.1 kx_47
        have bx_47 : zB 0 600 x_47 := ⟨by omega, by have := hLs_.2.1; omega⟩
        have bx_48 := zB.all x_48
        have mo_46 := zss.nx st_46 ox_1 ox_47
        refine lv_goto (tgt := 148) hx hb dX7_readPart_140 (by decide) ?_
        subst hQ
        exact W.vret hx hb hr (fun t ht hW => ⟨⟨F_41, rfl, ⟨⟨x_44, kx_44, bx_44, (by have := bd.1; have := bd.2; have := bx_44.1; have := bx_44.2; have := br_5_39.1; have := br_5_39.2; have := bsz_.1; have := bsz_.2; have := bx_47.1; have := bx_47.2; have := bx_48.1; have := bx_48.2; have := bcc.1; have := bcc.2; omega)⟩, ⟨σ_46, c1_46, rc_46, ss_46, (cc_46.w (by have := bd.1; have := bd.2; have := br_5_39.1; have := br_5_39.2; have := bx_44.1; have := bx_44.2; have := bsz_.1; have := bsz_.2; have := bx_47.1; have := bx_47.2; have := bx_48.1; have := bx_48.2; have := bcc.1; have := bcc.2; omega))⟩, trivial⟩, by rw [ht]; exact h.1, h.2.1, hfF_41⟩, h.2.2.F ht⟩) h.2.2.2.2 dX7_readPart_148
      · by_cases c_49 : r_5 = 40
        · refine lv_lookup (off := 112) (tgt := 116) hx hb dX7_readPart_4 (by decide) (by rw [c_49]; rfl) (by decide) ?_
          have br_5_49 : zB 40 40 r_5 := by rw [c_49]; exact zBc _ _ (by decide)
          have rc_51 : zRc (zTo Bt nt) σ [(17, d.toInt.toNat, 0, 0)] σ [(18, d.toInt.toNat, 0, 0), (13, d.toInt.toNat + 1, 0, 0), (6, 41, 0, 0)] := zRc.partB (N := Nt) rc0_ (by have := bd.1; have := bd.2; have := br_5_49.1; have := br_5_49.2; have := bcc.1; have := bcc.2; have := bsz_.1; have := bsz_.2; have := bx_1.1; have := bx_1.2; have := bx_2.1; have := bx_2.2; omega)
          refine lv_aload_n hx hb dX7_readPart_116 rfl (lv_at hl 0 rfl) ?_
          refine lv_iload_n hx hb dX7_readPart_117 rfl (lv_at hl 1 rfl) ?_
          refine zk_Vv (As := [.int d]) (rest := []) (bytes := cX7_openBracket) (maxL := 2) (ret := none) Z h (ze_X7_openBracket l D k Γ L F H.size th d tk Bt nt Nt σ hth bd ktk htk p_tb p_au) (cwV 1 hg zv_RX7_188 rfl rfl rfl zd_X7_openBracket ⟨z_leR hRf (by have := bd.1; have := bd.2; have := br_5_49.1; have := br_5_49.2; have := bcc.1; have := bcc.2; have := bsz_.1; have := bsz_.2; have := bx_1.1; have := bx_1.2; have := bx_2.1; have := bx_2.2; dsimp only; omega), z_leR hRl (by have := bd.1; have := bd.2; have := br_5_49.1; have := br_5_49.2; have := bcc.1; have := bcc.2; have := bsz_.1; have := bsz_.2; have := bx_1.1; have := bx_1.2; have := bx_2.1; have := bx_2.2; dsimp only; omega)⟩) hth (by decide) rfl rfl hl.1 rfl (Nat.le_of_ble_eq_true rfl) dX7_readPart_118 ⟨Nat.zero_le _, Nat.zero_le _⟩ (fun F_52 H locs w_53 h hfF_52 => ?_)
          obtain ⟨q_54, -⟩ := w_53
          have hop_ : 6 ≤ d.toInt → ∃ q, zop (zTo Bt nt) Nt d.toInt σ = .inr q := fun h9 => zop_bad h9
          have c1_55 : zC1 F_52 th Nt (zop (zTo Bt nt) Nt d.toInt σ) := q_54
          have rc_55 : zRc (zTo Bt nt) σ [(17, d.toInt.toNat, 0, 0)] (zop (zTo Bt nt) Nt d.toInt σ) [(13, d.toInt.toNat + 1, 0, 0), (6, 41, 0, 0)] := zRc.op (N := Nt) rc_51 (by have := bd.1; have := bd.2; have := br_5_49.1; have := br_5_49.2; have := bcc.1; have := bcc.2; have := bsz_.1; have := bsz_.2; omega)
          have st_55 : zss σ (zop (zTo Bt nt) Nt d.toInt σ) := zsm.op.ss
          have ss_55 : zss σ (zop (zTo Bt nt) Nt d.toInt σ) := ss0_.trans st_55
          have cc_55 : zCc Γ F F_52 th (zTo Bt nt) σ (zop (zTo Bt nt) Nt d.toInt σ) (d.toInt) := (cc0_.mv hfF_52 hth (by decide) (zTo_P Bt nt) zsm.op.cs)
          generalize hσ_55 : zop (zTo Bt nt) Nt d.toInt σ = σ_55 at c1_55 rc_55 st_55 ss_55 cc_55
          obtain ⟨⟨x_56, kx_56, nx_56⟩, ⟨x_57, kx_57, nx_57⟩, ox_56⟩ := id c1_55
          have gx_56 := zC1.nx c1_55 hLs_.1 kx_56
          have bx_56 : zB 0 600 x_56 := ⟨by omega, by have := hLs_.2.1; omega⟩
          have bx_57 := zB.all x_57
          have mo_55 := zss.nx st_55 ox_1 ox_56
          rw [hσ_55] at hop_
          refine lv_aload_n hx hb dX7_readPart_121 rfl (lv_at hl 0 rfl) ?_
          refine lv_iload_n hx hb dX7_readPart_122 rfl (lv_at hl 1 rfl) ?_
          have p_58 := (p_tb.fr hfF_52 htk (by decide))
          refine zk_Vv (As := [.int d]) (rest := []) (bytes := cX7_readSumWithin) (maxL := 2) (ret := none) Z h (ze_X7_readSumWithin l D k Γ L F_52 H.size th d pr tk co Bt nt Nt cc σ_55 nv hth bd (hfF_52.f hth 3 ⟨by decide, by decide⟩ kpr) hpr (hfF_52.f hth 4 ⟨by decide, by decide⟩ ktk) htk (hfF_52.f hth 5 ⟨by decide, by decide⟩ kco) hco p_58 (hfF_52.f hth 11 ⟨by decide, by decide⟩ kcc) bcc c1_55 (zCc.m (cc_55.w (dep' := d.toInt + 1) (by have := bd.1; have := bd.2; have := bcc.1; have := bcc.2; have := br_5_49.1; have := br_5_49.2; have := bsz_.1; have := bsz_.2; have := bx_56.1; have := bx_56.2; have := bx_57.1; have := bx_57.2; omega)) (hfF_52.f hth 11 ⟨by decide, by decide⟩ kcc)) (by have := bd.1; have := bd.2; have := bcc.1; have := bcc.2; have := br_5_49.1; have := br_5_49.2; have := bsz_.1; have := bsz_.2; have := bx_56.1; have := bx_56.2; have := bx_57.1; have := bx_57.2; omega) hrec hop_) (cwV 1 hg zv_RX7_191 rfl rfl rfl zd_X7_readSumWithin ⟨z_leR hRf (by have := bd.1; have := bd.2; have := br_5_49.1; have := br_5_49.2; have := bcc.1; have := bcc.2; have := bsz_.1; have := bsz_.2; have := bx_56.1; have := bx_56.2; have := bx_57.1; have := bx_57.2; dsimp only; omega), z_leR hRl (by have := bd.1; have := bd.2; have := br_5_49.1; have := br_5_49.2; have := bcc.1; have := bcc.2; have := bsz_.1; have := bsz_.2; have := bx_56.1; have := bx_56.2; have := bx_57.1; have := bx_57.2; dsimp only; omega)⟩) hth (by decide) rfl rfl hl.1 rfl (Nat.le_of_ble_eq_true rfl) dX7_readPart_123 ⟨Nat.zero_le _, Nat.zero_le _⟩ (fun F_59 H locs w_60 h hfF_59 => ?_)
          obtain ⟨⟨x_62, kx_62, bx_62, q_61⟩, ⟨σ_64, c1_64, rn_64, st_64, cn_64⟩, -⟩ := w_60
          have rc_64 : zRc (zTo Bt nt) σ [(17, d.toInt.toNat, 0, 0)] σ_64 [(6, 41, 0, 0)] := zRc.calls rc_55 (rn_64.x (zSy_eq (by have := bd.1; have := bd.2; have := bcc.1; have := bcc.2; have := bx_62.1; have := bx_62.2; have := br_5_49.1; have := br_5_49.2; have := bsz_.1; have := bsz_.2; omega) (by have := bd.1; have := bd.2; have := bcc.1; have := bcc.2; have := bx_62.1; have := bx_62.2; have := br_5_49.1; have := br_5_49.2; have := bsz_.1; have := bsz_.2; omega) (by have := bd.1; have := bd.2; have := bcc.1; have := bcc.2; have := bx_62.1; have := bx_62.2; have := br_5_49.1; have := br_5_49.2; have := bsz_.1; have := bsz_.2; omega)))
          have ss_64 : zss σ σ_64 := ss_55.trans st_64
          have cc_64 : zCc Γ F F_59 th (zTo Bt nt) σ (σ_64) (d.toInt + 1) := zCc.call cc_55 cn_64
          obtain ⟨⟨x_65, kx_65, nx_65⟩, ⟨x_66, kx_66, nx_66⟩, ox_65⟩ := id c1_64
          have gx_65 := zC1.nx c1_64 hLs_.1 kx_65
          have bx_65 : zB 0 600 x_65 := ⟨by omega, by have := hLs_.2.1; omega⟩
          have bx_66 := zB.all x_66
          have mo_64 := zss.nx st_64 ox_56 ox_65
          refine lv_aload_n hx hb dX7_readPart_126 rfl (lv_at hl 0 rfl) ?_
          refine lv_bipush (v := 41) hx hb dX7_readPart_127 (by decide) ?_
          have p_67 := (p_58.fr hfF_59 htk (by decide))
          refine zk_Vv (As := [.int 41]) (rest := []) (bytes := cX7_take) (maxL := 2) (ret := none) Z h (ze_X7_take l D k Γ L F_59 H.size th 41 tk Bt nt Nt σ_64 hth (zB.of ⟨by decide, by decide⟩) (hfF_59.f hth 4 ⟨by decide, by decide⟩ (hfF_52.f hth 4 ⟨by decide, by decide⟩ ktk)) htk p_67 c1_64) (cwV 1 hg zv_RX7_108 rfl rfl rfl zd_X7_take ⟨z_leR hRf (by have := bd.1; have := bd.2; have := br_5_49.1; have := br_5_49.2; have := bx_62.1; have := bx_62.2; have := bsz_.1; have := bsz_.2; have := bx_65.1; have := bx_65.2; have := bx_66.1; have := bx_66.2; have := bcc.1; have := bcc.2; have : (41 : Int32).toInt = 41 := (by decide); dsimp only; omega), z_leR hRl (by have := bd.1; have := bd.2; have := br_5_49.1; have := br_5_49.2; have := bx_62.1; have := bx_62.2; have := bsz_.1; have := bsz_.2; have := bx_65.1; have := bx_65.2; have := bx_66.1; have := bx_66.2; have := bcc.1; have := bcc.2; have : (41 : Int32).toInt = 41 := (by decide); dsimp only; omega)⟩) hth (by decide) rfl rfl hl.1 rfl (Nat.le_of_ble_eq_true rfl) dX7_readPart_129 ⟨Nat.zero_le _, Nat.zero_le _⟩ (fun F_68 H locs w_69 h hfF_68 => ?_)
          obtain ⟨q_70, -⟩ := w_69
          have c1_71 : zC1 F_68 th Nt (ztk (zTo Bt nt) Nt (41 : Int32).toInt σ_64) := q_70
          have rc_71 : zRc (zTo Bt nt) σ [(17, d.toInt.toNat, 0, 0)] (ztk (zTo Bt nt) Nt (41 : Int32).toInt σ_64) [] := zRc.tk (N := Nt) rc_64 (by decide)
          have st_71 : zss σ_64 (ztk (zTo Bt nt) Nt (41 : Int32).toInt σ_64) := zsm.tk.ss
          have ss_71 : zss σ (ztk (zTo Bt nt) Nt (41 : Int32).toInt σ_64) := ss_64.trans st_71
          have cc_71 : zCc Γ F F_68 th (zTo Bt nt) σ (ztk (zTo Bt nt) Nt (41 : Int32).toInt σ_64) (d.toInt) := (zCc.shut (N := Nt) (cc_64.fr hfF_68 hth (by decide) (zTo_P Bt nt)) (by have := bd.1; have := bd.2; have := br_5_49.1; have := br_5_49.2; have := bx_62.1; have := bx_62.2; have := bsz_.1; have := bsz_.2; have := bcc.1; have := bcc.2; omega) (by decide))
          generalize hσ_71 : ztk (zTo Bt nt) Nt (41 : Int32).toInt σ_64 = σ_71 at c1_71 rc_71 st_71 ss_71 cc_71
          obtain ⟨⟨x_72, kx_72, nx_72⟩, ⟨x_73, kx_73, nx_73⟩, ox_72⟩ := id c1_71
          have gx_72 := zC1.nx c1_71 hLs_.1 kx_72
          have bx_72 : zB 0 600 x_72 := ⟨by omega, by have := hLs_.2.1; omega⟩
          have bx_73 := zB.all x_73
          have mo_71 := zss.nx st_71 ox_65 ox_72
          refine lv_goto (tgt := 148) hx hb dX7_readPart_132 (by decide) ?_
          subst hQ
          exact W.vret hx hb hr (fun t ht hW => ⟨⟨F_68, rfl, ⟨⟨x_62, (hfF_68.f hth 11 ⟨by decide, by decide⟩ kx_62), bx_62, (by have := bd.1; have := bd.2; have := bx_62.1; have := bx_62.2; have := br_5_49.1; have := br_5_49.2; have := bsz_.1; have := bsz_.2; have := bx_72.1; have := bx_72.2; have := bx_73.1; have := bx_73.2; have := bcc.1; have := bcc.2; omega)⟩, ⟨σ_71, c1_71, rc_71, ss_71, (cc_71.w (by have := bd.1; have := bd.2; have := br_5_49.1; have := br_5_49.2; have := bx_62.1; have := bx_62.2; have := bsz_.1; have := bsz_.2; have := bx_72.1; have := bx_72.2; have := bx_73.1; have := bx_73.2; have := bcc.1; have := bcc.2; omega))⟩, trivial⟩, by rw [ht]; exact h.1, h.2.1, (((hfF_52.w (by decide)).trans hfF_59 (by decide)).trans hfF_68 (by decide))⟩, h.2.2.F ht⟩) h.2.2.2.2 dX7_readPart_148
        · have nc_9 : r_5.toInt ≠ 2 := z_nev c_9 (by decide)
          have nc_24 : r_5.toInt ≠ 3 := z_nev c_24 (by decide)
          have nc_39 : r_5.toInt ≠ 4 := z_nev c_39 (by decide)
          have nc_49 : r_5.toInt ≠ 40 := z_nev c_49 (by decide)
          refine lv_lookup (off := 139) (tgt := 143) hx hb dX7_readPart_4 (by decide) ((lv_osw (k := 2) c_9 (by decide)).trans ((lv_osw (k := 3) c_24 (by decide)).trans ((lv_osw (k := 4) c_39 (by decide)).trans ((lv_osw (k := 40) c_49 (by decide)).trans rfl)))) (by decide) ?_
          refine lv_aload_n hx hb dX7_readPart_143 rfl (lv_at hl 0 rfl) ?_
          refine lv_iconst (v := 1) hx hb dX7_readPart_144 (by decide) ?_
          refine zk_Vv (As := [.int 1]) (rest := []) (bytes := cX7_fail) (maxL := 2) (ret := none) Z h (ze_X7_fail l D k Γ L F H.size th 1 tk Bt nt Nt σ hth ktk htk p_tb p_au (by have := bd.1; have := bd.2; have := br_5.1; have := br_5.2; have := bcc.1; have := bcc.2; have := bsz_.1; have := bsz_.2; have := bx_1.1; have := bx_1.2; have := bx_2.1; have := bx_2.2; have : (1 : Int32).toInt = 1 := (by decide); omega)) (cwV 1 hg zv_RX7_79 rfl rfl rfl zd_X7_fail ⟨z_leR hRf (by have := bd.1; have := bd.2; have := br_5.1; have := br_5.2; have := bcc.1; have := bcc.2; have := bsz_.1; have := bsz_.2; have := bx_1.1; have := bx_1.2; have := bx_2.1; have := bx_2.2; have : (1 : Int32).toInt = 1 := (by decide); dsimp only; omega), z_leR hRl (by have := bd.1; have := bd.2; have := br_5.1; have := br_5.2; have := bcc.1; have := bcc.2; have := bsz_.1; have := bsz_.2; have := bx_1.1; have := bx_1.2; have := bx_2.1; have := bx_2.2; have : (1 : Int32).toInt = 1 := (by decide); dsimp only; omega)⟩) hth (by decide) rfl rfl hl.1 rfl (Nat.le_of_ble_eq_true rfl) dX7_readPart_145 ⟨Nat.zero_le _, Nat.zero_le _⟩ (fun F_74 H locs w_75 h hfF_74 => ?_)
          obtain ⟨q_76, -⟩ := w_75
          have c1_77 : zC1 F_74 th Nt (zfl 1 σ) := (by have h9 := q_76; rw [show (1 : Int32).toInt = 1 by decide] at h9; exact h9)
          have rc_77 : zRc (zTo Bt nt) σ [(17, d.toInt.toNat, 0, 0)] (zfl 1 σ) [] := zRc.part1 (N := Nt) rc0_ (by unfold zbeg; have := bd.1; have := bd.2; have := br_5.1; have := br_5.2; have := bcc.1; have := bcc.2; have := bsz_.1; have := bsz_.2; omega)
          have st_77 : zss σ (zfl 1 σ) := zsm.fl.ss
          have ss_77 : zss σ (zfl 1 σ) := ss0_.trans st_77
          have cc_77 : zCc Γ F F_74 th (zTo Bt nt) σ (zfl 1 σ) (d.toInt) := (cc0_.mv hfF_74 hth (by decide) (zTo_P Bt nt) zsm.fl.cs)
          generalize hσ_77 : zfl 1 σ = σ_77 at c1_77 rc_77 st_77 ss_77 cc_77
          obtain ⟨⟨x_78, kx_78, nx_78⟩, ⟨x_79, kx_79, nx_79⟩, ox_78⟩ := id c1_77
          have gx_78 := zC1.nx c1_77 hLs_.1 kx_78
          have bx_78 : zB 0 600 x_78 := ⟨by omega, by have := hLs_.2.1; omega⟩
          have bx_79 := zB.all x_79
          have mo_77 := zss.nx st_77 ox_1 ox_78
          subst hQ
          exact W.vret hx hb hr (fun t ht hW => ⟨⟨F_74, rfl, ⟨⟨cc, (hfF_74.f hth 11 ⟨by decide, by decide⟩ kcc), bcc, (by have := bd.1; have := bd.2; have := bcc.1; have := bcc.2; have := br_5.1; have := br_5.2; have := bsz_.1; have := bsz_.2; have := bx_78.1; have := bx_78.2; have := bx_79.1; have := bx_79.2; omega)⟩, ⟨σ_77, c1_77, rc_77, ss_77, (cc_77.w (by have := bd.1; have := bd.2; have := br_5.1; have := br_5.2; have := bcc.1; have := bcc.2; have := bsz_.1; have := bsz_.2; have := bx_78.1; have := bx_78.2; have := bx_79.1; have := bx_79.2; omega))⟩, trivial⟩, by rw [ht]; exact h.1, h.2.1, (hfF_74.w (by decide))⟩, h.2.2.F ht⟩) h.2.2.2.2 dX7_readPart_148

set_option maxHeartbeats 4000000 in
set_option maxRecDepth 100000 in
theorem ze_X7_readTerm (l : Launch) (D : va_G) (k : Nat → ClassId) (Γ : Nat → Option Nat) (L : List Nat) (F : Nat → va_E) (sz : Nat) (th : Nat) (d : Int32) (pr : Nat) (tk : Nat) (co : Nat) (Bt : Nat → Int32) (nt : Nat) (Nt : Nat) (cc : Int32) (σ : zSg) (nv : Nat) (hth : Γ th = some 7) (bd : zB 0 6 d) (kpr : zfld F th 3 = .ref pr) (hpr : Γ pr = some 6) (ktk : zfld F th 4 = .ref tk) (htk : Γ tk = some 8) (kco : zfld F th 5 = .ref co) (hco : Γ co = some 1) (p_tb : zTb Γ F tk Bt nt Nt) (kcc : zfld F th 11 = .int cc) (bcc : zB 0 150 cc) (p_au : zC1 F th Nt (σ)) (hm_ : ∀ i d9, σ = .inl (i, d9) → 4 * cc.toInt + 5 ≤ zpo Bt nt i + (d.toInt)) (hr0 : 6 ≤ d.toInt + (nv : Int)) (hrec : ∀ q : Nat, nv = q + 1 → zR_sum l q) : Met l yX7_readTerm zwX7_readTerm ({ frames := 10 * nv + 8, cells := 0, slots := 0, locals := 400 * nv + 260 }) (va_Pc [.ref th, .int d] (zP D k Γ L F sz)) (va_Qv (fun (u : Nat → va_E) => (∃ (c9 : Int32), zfld u th 11 = .int c9 ∧ zB 0 150 c9 ∧ (0 ≤ c9.toInt)) ∧ (∃ σ9 : zSg, zC1 u th Nt σ9 ∧ zRc (zTo Bt nt) σ [(15, d.toInt.toNat, 0, 0)] σ9 [] ∧ zss σ σ9 ∧ zCc Γ F u th (zTo Bt nt) σ σ9 (d.toInt)) ∧ True) (zQ D k Γ L F [103, 701, 702, 706, 711, 10200, 10600, 10700, 15800, 15900, 16000, 16100]) (zA L sz)) 0 0 (zA L sz) := by
  refine Met.ofW (cc := cX7_readTerm) (maxL := 3) (ret := none) (by decide) rfl ?_
  intro p e s m args below meth c s₁ B hml hv
  obtain ⟨rfl, hsz, hP, hK, hLn, hE, hI⟩ := hv
  have hx := B.exec
  have hb := B.bytes
  have hr := B.returns
  have hg : ∀ w ∈ zG, w.before _ s = true := fun w h9 => atoms_spec (ws := zwX7_readTerm) B.pre w (List.mem_cons_of_mem _ h9)
  have hown : s.vm.findClass RX7 = some m.cls := findClass_of_methodNamed B.named
  have hlocks := B.notSynchronized
  subst hsz
  have Z : zC p m c cX7_readTerm 3 s _ zG RX7 D k L := ⟨⟨hx, hb, hml, hown, hg⟩, hK, hLn, hE⟩
  have h : zH D k Γ L s F s.heap [] := ⟨hP, hI, va_S.rf⟩
  have hl := lv_entry ([.ref th, .int d]) (n := 3) (Nat.le_of_ble_eq_true rfl)
  rw [lg_entry_eq]
  generalize (lg_sl ([.ref th, .int d]) ++ List.replicate (3 - (lg_sl ([.ref th, .int d])).length) Slot.unset).toArray = ls at hl ⊢
  have hl : lv_has ls 3 [(0, .ref th), (1, .int d)] := hl
  clear hP hK hLn hE hI
  generalize hargs : ([.ref th, .int d] : List Value).toArray = args at *
  refine z_start (fun R Q hRf hRl hQ => ?_)
  have hRf : R.frames = 10 * nv + 8 := hRf
  have hRl : R.locals = 400 * nv + 260 := hRl
  have h9 := h
  have hLs_ := p_tb.2.2.2.1
  obtain ⟨sz_, ksz_, tsz_⟩ := p_tb.2.2.1
  have bsz_ : zB 1 601 sz_ := ⟨by have := hLs_.1; omega, by have := hLs_.2.1; omega⟩
  obtain ⟨⟨x_1, kx_1, nx_1⟩, ⟨x_2, kx_2, nx_2⟩, ox_1⟩ := id p_au
  have gx_1 := zC1.nx p_au hLs_.1 kx_1
  have bx_1 : zB 0 600 x_1 := ⟨by omega, by have := hLs_.2.1; omega⟩
  have bx_2 := zB.all x_2
  have ad_3 := z_ad (j := 7) (c := 106) h.2.1 hth (by decide) rfl
  have ad_4 := z_ad (j := 8) (c := 107) h.2.1 hth (by decide) rfl
  have cc0_ : zCc Γ F F th (zTo Bt nt) σ σ (d.toInt) := zCc.rf kcc bcc.1 ⟨ad_3, ad_4⟩ hm_
  have rc0_ : zRc (zTo Bt nt) σ [(15, d.toInt.toNat, 0, 0)] σ [(15, d.toInt.toNat, 0, 0)] := zRc.rf
  have ss0_ : zss σ σ := zss.rf
  have rc_5 : zRc (zTo Bt nt) σ [(15, d.toInt.toNat, 0, 0)] σ [(17, d.toInt.toNat, 0, 0), (16, d.toInt.toNat, 0, 0)] := zRc.term rc0_
  refine lv_aload_n hx hb dX7_readTerm_0 rfl (lv_at hl 0 rfl) ?_
  refine lv_iload_n hx hb dX7_readTerm_1 rfl (lv_at hl 1 rfl) ?_
  refine zk_Vv (As := [.int d]) (rest := []) (bytes := cX7_readPart) (maxL := 2) (ret := none) Z h (ze_X7_readPart l D k Γ L F s.heap.size th d pr tk co Bt nt Nt cc σ nv hth bd kpr hpr ktk htk kco hco p_tb kcc bcc p_au (zCc.m (cc0_.w (dep' := d.toInt) (by have := bd.1; have := bd.2; have := bcc.1; have := bcc.2; have := bsz_.1; have := bsz_.2; have := bx_1.1; have := bx_1.2; have := bx_2.1; have := bx_2.2; omega)) kcc) (by have := bd.1; have := bd.2; have := bcc.1; have := bcc.2; have := bsz_.1; have := bsz_.2; have := bx_1.1; have := bx_1.2; have := bx_2.1; have := bx_2.2; omega) hrec) (cwV 1 hg zv_RX7_182 rfl rfl rfl zd_X7_readPart ⟨z_leR hRf (by have := bd.1; have := bd.2; have := bcc.1; have := bcc.2; have := bsz_.1; have := bsz_.2; have := bx_1.1; have := bx_1.2; have := bx_2.1; have := bx_2.2; dsimp only; omega), z_leR hRl (by have := bd.1; have := bd.2; have := bcc.1; have := bcc.2; have := bsz_.1; have := bsz_.2; have := bx_1.1; have := bx_1.2; have := bx_2.1; have := bx_2.2; dsimp only; omega)⟩) hth (by decide) rfl rfl hl.1 rfl (Nat.le_of_ble_eq_true rfl) dX7_readTerm_2 ⟨Nat.zero_le _, Nat.zero_le _⟩ (fun F_6 H locs w_7 h hfF_6 => ?_)
  obtain ⟨⟨x_9, kx_9, bx_9, q_8⟩, ⟨σ_11, c1_11, rn_11, st_11, cn_11⟩, -⟩ := w_7
  have rc_11 : zRc (zTo Bt nt) σ [(15, d.toInt.toNat, 0, 0)] σ_11 [(16, d.toInt.toNat, 0, 0)] := zRc.calls rc_5 (rn_11.x (zSy_eq (by have := bd.1; have := bd.2; have := bcc.1; have := bcc.2; have := bx_9.1; have := bx_9.2; have := bsz_.1; have := bsz_.2; omega) (by have := bd.1; have := bd.2; have := bcc.1; have := bcc.2; have := bx_9.1; have := bx_9.2; have := bsz_.1; have := bsz_.2; omega) (by have := bd.1; have := bd.2; have := bcc.1; have := bcc.2; have := bx_9.1; have := bx_9.2; have := bsz_.1; have := bsz_.2; omega)))
  have ss_11 : zss σ σ_11 := ss0_.trans st_11
  have cc_11 : zCc Γ F F_6 th (zTo Bt nt) σ (σ_11) (d.toInt) := zCc.call cc0_ cn_11
  obtain ⟨⟨x_12, kx_12, nx_12⟩, ⟨x_13, kx_13, nx_13⟩, ox_12⟩ := id c1_11
  have gx_12 := zC1.nx c1_11 hLs_.1 kx_12
  have bx_12 : zB 0 600 x_12 := ⟨by omega, by have := hLs_.2.1; omega⟩
  have bx_13 := zB.all x_13
  have mo_11 := zss.nx st_11 ox_1 ox_12
  refine lv_iconst (v := 0) hx hb dX7_readTerm_5 (by decide) ?_
  refine lv_istore_n (lv' := [(2, .int 0), (0, .ref th), (1, .int d)]) hx hb dX7_readTerm_6 rfl hl (by decide) rfl (fun ls hl => ?_)
  have j_j7_14 : ∀ (n : Nat) (ls : Array Slot) (y2_j7_14 : Int32) (kc_j7_14 : Int32) (σ_j7_14 : zSg) (F_15 : Nat → va_E) (H : Heap) (locs : List Loc), lv_has ls 3 [(2, .int y2_j7_14), (0, .ref th), (1, .int d)] → zB 0 601 y2_j7_14 → zH D k Γ L s F_15 H locs → zFr Γ [103, 701, 702, 706, 711, 10200, 10600, 10700, 15800, 15900, 16000, 16100] F_6 F_15 → zfld F_15 th 11 = .int kc_j7_14 → zB 0 150 kc_j7_14 → (y2_j7_14.toInt ≤ znx Nt σ_j7_14) → zC1 F_15 th Nt (σ_j7_14) → zRc (zTo Bt nt) σ [(15, d.toInt.toNat, 0, 0)] σ_j7_14 [(16, d.toInt.toNat, 0, 0)] → zss σ σ_j7_14 → zCc Γ F F_15 th (zTo Bt nt) σ (σ_j7_14) (d.toInt) → (2147483647 - y2_j7_14.toInt).toNat = n → W p l e R s m args below meth c H locs 0 0 Q (F0 m 7 ls []) := by
    intro n
    induction n using Nat.strongRecOn with
    | _ n ih_j7_14 =>
      intro ls y2_j7_14 kc_j7_14 σ_j7_14 F_15 H locs hl by2_j7_14 h hfF_15 hkc_j7_14 bkc_j7_14 r0_j7_14 c1_j7_14 rc_j7_14 ss_j7_14 cc_j7_14 hn_j7_14
      obtain ⟨⟨x_16, kx_16, nx_16⟩, ⟨x_17, kx_17, nx_17⟩, ox_16⟩ := id c1_j7_14
      have gx_16 := zC1.nx c1_j7_14 hLs_.1 kx_16
      have bx_16 : zB 0 600 x_16 := ⟨by omega, by have := hLs_.2.1; omega⟩
      have bx_17 := zB.all x_17
      refine lv_iload_n hx hb dX7_readTerm_7 rfl (lv_at hl 0 rfl) ?_
      refine lv_aload_n hx hb dX7_readTerm_8 rfl (lv_at hl 1 rfl) ?_
      refine zt_getk (t := 7) (C := RX7) (T := TX7) (N := 12) Z h hth zin_7 rfl 4 (hfF_15.f hth 4 ⟨by decide, by decide⟩ (hfF_6.f hth 4 ⟨by decide, by decide⟩ ktk)) ⟨by decide, rfl, by decide⟩ (zm_RX7 (List.mem_of_getElem? (i := 4) rfl)) (fun _ h9 => h9) dX7_readTerm_9 ?_
      refine zt_getk (t := 8) (C := RX8) (T := TX8) (N := 6) Z h htk zin_8 rfl 5 (hfF_15.f htk 5 ⟨by decide, by decide⟩ (hfF_6.f htk 5 ⟨by decide, by decide⟩ ksz_)) ⟨by decide, rfl, by decide⟩ (zm_RX7 (List.mem_of_getElem? (i := 56) rfl)) (fun _ h9 => h9) dX7_readTerm_12 ?_
      refine lv_icmp_ge (tgt := 59) hx hb dX7_readTerm_15 (by decide) (fun c_18 => ?_) (fun c_18 => ?_)
      · have c_18 := z_le c_18
        have by2_j7_14_19 : zB 1 601 y2_j7_14 := zB.leR c_18 bsz_ by2_j7_14 (by decide)
        exfalso
        have := by2_j7_14_19.1; have := by2_j7_14_19.2; have := bd.1; have := bd.2; have := bx_16.1; have := bx_16.2; have := bkc_j7_14.1; have := bkc_j7_14.2; have := bsz_.1; have := bsz_.2; have := bx_17.1; have := bx_17.2; have := bcc.1; have := bcc.2; omega
      · have c_18 := z_nle c_18
        have by2_j7_14_20 : zB 0 600 y2_j7_14 := zB.ltL c_18 by2_j7_14 bsz_ (by decide)
        refine lv_aload_n hx hb dX7_readTerm_18 rfl (lv_at hl 1 rfl) ?_
        have p_21 := ((p_tb.fr hfF_6 htk (by decide)).fr hfF_15 htk (by decide))
        refine zk_Vi (As := []) (rest := []) (bytes := cX7_kind) (maxL := 2) (ret := (some .int)) Z h (ze_X7_kind l D k Γ L F_15 H.size th tk Bt nt Nt σ_j7_14 hth (hfF_15.f hth 4 ⟨by decide, by decide⟩ (hfF_6.f hth 4 ⟨by decide, by decide⟩ ktk)) htk p_21 c1_j7_14) (cwV 0 hg zv_RX7_65 rfl rfl rfl zd_X7_kind ⟨z_leR hRf (by have := by2_j7_14_20.1; have := by2_j7_14_20.2; have := bd.1; have := bd.2; have := bkc_j7_14.1; have := bkc_j7_14.2; have := bsz_.1; have := bsz_.2; have := bx_16.1; have := bx_16.2; have := bx_17.1; have := bx_17.2; have := bcc.1; have := bcc.2; dsimp only; omega), z_leR hRl (by have := by2_j7_14_20.1; have := by2_j7_14_20.2; have := bd.1; have := bd.2; have := bkc_j7_14.1; have := bkc_j7_14.2; have := bsz_.1; have := bsz_.2; have := bx_16.1; have := bx_16.2; have := bx_17.1; have := bx_17.2; have := bcc.1; have := bcc.2; dsimp only; omega)⟩) hth (by decide) rfl rfl hl.1 rfl (Nat.le_of_ble_eq_true rfl) dX7_readTerm_19 ⟨Nat.zero_le _, Nat.zero_le _⟩ (fun r_22 F_23 H locs w_24 h hfF_23 => ?_)
        obtain ⟨rfl, q_25, -⟩ := w_24
        have br_22 := zB.all r_22
        refine lv_bipush (v := 42) hx hb dX7_readTerm_22 (by decide) ?_
        refine lv_icmp_ne (tgt := 59) hx hb dX7_readTerm_24 (by decide) (fun c_26 => ?_) (fun c_26 => ?_)
        · have c_26 := z_ne c_26
          have rc_27 : zRc (zTo Bt nt) σ [(15, d.toInt.toNat, 0, 0)] σ_j7_14 [] := zRc.termT0 (N := Nt) rc_j7_14 (by have := by2_j7_14_20.1; have := by2_j7_14_20.2; have := bd.1; have := bd.2; have := br_22.1; have := br_22.2; have := bkc_j7_14.1; have := bkc_j7_14.2; have := bsz_.1; have := bsz_.2; have := bx_16.1; have := bx_16.2; have := bx_17.1; have := bx_17.2; have := bcc.1; have := bcc.2; have : (42 : Int32).toInt = 42 := (by decide); omega)
          subst hQ
          exact W.vret hx hb hr (fun t ht hW => ⟨⟨F_15, rfl, ⟨⟨kc_j7_14, hkc_j7_14, bkc_j7_14, (by have := by2_j7_14_20.1; have := by2_j7_14_20.2; have := bd.1; have := bd.2; have := bkc_j7_14.1; have := bkc_j7_14.2; have := br_22.1; have := br_22.2; have := bsz_.1; have := bsz_.2; have := bx_16.1; have := bx_16.2; have := bx_17.1; have := bx_17.2; have := bcc.1; have := bcc.2; have : (42 : Int32).toInt = 42 := (by decide); omega)⟩, ⟨σ_j7_14, c1_j7_14, rc_27, ss_j7_14, (cc_j7_14.w (by have := by2_j7_14_20.1; have := by2_j7_14_20.2; have := bd.1; have := bd.2; have := br_22.1; have := br_22.2; have := bkc_j7_14.1; have := bkc_j7_14.2; have := bsz_.1; have := bsz_.2; have := bx_16.1; have := bx_16.2; have := bx_17.1; have := bx_17.2; have := bcc.1; have := bcc.2; have : (42 : Int32).toInt = 42 := (by decide); omega))⟩, trivial⟩, by rw [ht]; exact h.1, h.2.1, (hfF_6.trans hfF_15 (by decide))⟩, h.2.2.F ht⟩) h.2.2.2.2 dX7_readTerm_59
        · have c_26 := z_eq c_26
          have br_22_28 : zB 42 42 r_22 := zB.eqL (a := 0) (b := 0) c_26 (zBc 42 42 (by decide))
          refine lv_aload_n hx hb dX7_readTerm_27 rfl (lv_at hl 1 rfl) ?_
          refine lv_dup hx hb dX7_readTerm_28 rfl ?_
          refine zt_getk (t := 7) (C := RX7) (T := TX7) (N := 12) Z h hth zin_7 rfl 6 kx_16 ⟨by decide, rfl, by decide⟩ (zm_RX7 (List.mem_of_getElem? (i := 9) rfl)) (fun _ h9 => h9) dX7_readTerm_29 ?_
          refine lv_iconst (v := 1) hx hb dX7_readTerm_32 (by decide) ?_
          refine lv_iadd hx hb dX7_readTerm_33 ?_
          refine zi_add (lo := 1) (hi := 601) bx_16 (zBc 1 1 (by decide)) (by decide) (fun x_29 bx_29 tx_29 => ?_)
          refine zt_put (t := 7) (C := RX7) (T := TX7) (N := 12) (v := .int x_29) Z h hth zin_7 tyX7 tyX7_ok nmX7 rfl 6 rfl ⟨by decide, rfl⟩ (zm_RX7 (List.mem_of_getElem? (i := 9) rfl)) (fun _ h9 => h9) rfl (zV.i (bx_29.w ⟨by decide, by decide⟩)) rfl rfl dX7_readTerm_34 (fun H locs F_30 h hfF_30 kF_30 => ?_)
          have c1_31 : zC1 F_30 th Nt (zadv σ_j7_14) := (zC1.adv (T := zTo Bt nt) c1_j7_14 hfF_30 hth (by decide) kx_16 kF_30 (by have := by2_j7_14_20.1; have := by2_j7_14_20.2; have := bd.1; have := bd.2; have := bx_16.1; have := bx_16.2; have := br_22_28.1; have := br_22_28.2; have := bkc_j7_14.1; have := bkc_j7_14.2; have := bsz_.1; have := bsz_.2; have := bx_29.1; have := bx_29.2; have := bx_17.1; have := bx_17.2; have := bcc.1; have := bcc.2; have : (1 : Int32).toInt = 1 := (by decide); have : (42 : Int32).toInt = 42 := (by decide); omega) hLs_ ⟨by have := by2_j7_14_20.1; have := by2_j7_14_20.2; have := bd.1; have := bd.2; have := bx_16.1; have := bx_16.2; have := br_22_28.1; have := br_22_28.2; have := bkc_j7_14.1; have := bkc_j7_14.2; have := bsz_.1; have := bsz_.2; have := bx_29.1; have := bx_29.2; have := bx_17.1; have := bx_17.2; have := bcc.1; have := bcc.2; have : (1 : Int32).toInt = 1 := (by decide); have : (42 : Int32).toInt = 42 := (by decide); omega, by have := by2_j7_14_20.1; have := by2_j7_14_20.2; have := bd.1; have := bd.2; have := bx_16.1; have := bx_16.2; have := br_22_28.1; have := br_22_28.2; have := bkc_j7_14.1; have := bkc_j7_14.2; have := bsz_.1; have := bsz_.2; have := bx_29.1; have := bx_29.2; have := bx_17.1; have := bx_17.2; have := bcc.1; have := bcc.2; have : (1 : Int32).toInt = 1 := (by decide); have : (42 : Int32).toInt = 42 := (by decide); omega⟩)
          have rc_31 : zRc (zTo Bt nt) σ [(15, d.toInt.toNat, 0, 0)] (zadv σ_j7_14) [(17, d.toInt.toNat, 0, 0), (16, d.toInt.toNat, 0, 0)] := zRc.termT1 (N := Nt) rc_j7_14 (by have := by2_j7_14_20.1; have := by2_j7_14_20.2; have := bd.1; have := bd.2; have := br_22_28.1; have := br_22_28.2; have := bkc_j7_14.1; have := bkc_j7_14.2; have := bsz_.1; have := bsz_.2; have := bx_29.1; have := bx_29.2; have := bx_17.1; have := bx_17.2; have := bcc.1; have := bcc.2; have : (1 : Int32).toInt = 1 := (by decide); have : (42 : Int32).toInt = 42 := (by decide); omega)
          have st_31 : zss σ_j7_14 (zadv σ_j7_14) := zsm.adv.ss
          have ss_31 : zss σ (zadv σ_j7_14) := ss_j7_14.trans st_31
          have cc_31 : zCc Γ F F_30 th (zTo Bt nt) σ (zadv σ_j7_14) (d.toInt) := (cc_j7_14.mv hfF_30 hth (by decide) (zTo_P Bt nt) zsm.adv.cs)
          generalize hσ_31 : zadv σ_j7_14 = σ_31 at c1_31 rc_31 st_31 ss_31 cc_31
          obtain ⟨⟨x_32, kx_32, nx_32⟩, ⟨x_33, kx_33, nx_33⟩, ox_32⟩ := id c1_31
          have gx_32 := zC1.nx c1_31 hLs_.1 kx_32
          have bx_32 : zB 0 600 x_32 := ⟨by omega, by have := hLs_.2.1; omega⟩
          have bx_33 := zB.all x_33
          have vx_32 := congrArg Int32.toInt (z_same kF_30 kx_32)
          have mo_31 := zss.nx st_31 ox_16 ox_32
          refine lv_aload_n hx hb dX7_readTerm_37 rfl (lv_at hl 1 rfl) ?_
          refine lv_iload_n hx hb dX7_readTerm_38 rfl (lv_at hl 2 rfl) ?_
          have p_34 := (p_21.fr hfF_30 htk (by decide))
          refine zk_Vv (As := [.int d]) (rest := []) (bytes := cX7_readPart) (maxL := 2) (ret := none) Z h (ze_X7_readPart l D k Γ L F_30 H.size th d pr tk co Bt nt Nt kc_j7_14 σ_31 nv hth bd (hfF_30.f hth 3 ⟨by decide, by decide⟩ (hfF_15.f hth 3 ⟨by decide, by decide⟩ (hfF_6.f hth 3 ⟨by decide, by decide⟩ kpr))) hpr (hfF_30.f hth 4 ⟨by decide, by decide⟩ (hfF_15.f hth 4 ⟨by decide, by decide⟩ (hfF_6.f hth 4 ⟨by decide, by decide⟩ ktk))) htk (hfF_30.f hth 5 ⟨by decide, by decide⟩ (hfF_15.f hth 5 ⟨by decide, by decide⟩ (hfF_6.f hth 5 ⟨by decide, by decide⟩ kco))) hco p_34 (hfF_30.f hth 11 ⟨by decide, by decide⟩ hkc_j7_14) bkc_j7_14 c1_31 (zCc.m (cc_31.w (dep' := d.toInt) (by have := by2_j7_14_20.1; have := by2_j7_14_20.2; have := bd.1; have := bd.2; have := bkc_j7_14.1; have := bkc_j7_14.2; have := br_22_28.1; have := br_22_28.2; have := bsz_.1; have := bsz_.2; have := bx_32.1; have := bx_32.2; have := bx_33.1; have := bx_33.2; have := bcc.1; have := bcc.2; have : (1 : Int32).toInt = 1 := (by decide); have : (42 : Int32).toInt = 42 := (by decide); omega)) (hfF_30.f hth 11 ⟨by decide, by decide⟩ hkc_j7_14)) (by have := by2_j7_14_20.1; have := by2_j7_14_20.2; have := bd.1; have := bd.2; have := bkc_j7_14.1; have := bkc_j7_14.2; have := br_22_28.1; have := br_22_28.2; have := bsz_.1; have := bsz_.2; have := bx_32.1; have := bx_32.2; have := bx_33.1; have := bx_33.2; have := bcc.1; have := bcc.2; have : (1 : Int32).toInt = 1 := (by decide); have : (42 : Int32).toInt = 42 := (by decide); omega) hrec) (cwV 1 hg zv_RX7_182 rfl rfl rfl zd_X7_readPart ⟨z_leR hRf (by have := by2_j7_14_20.1; have := by2_j7_14_20.2; have := bd.1; have := bd.2; have := br_22_28.1; have := br_22_28.2; have := bkc_j7_14.1; have := bkc_j7_14.2; have := bsz_.1; have := bsz_.2; have := bx_32.1; have := bx_32.2; have := bx_33.1; have := bx_33.2; have := bcc.1; have := bcc.2; have : (1 : Int32).toInt = 1 := (by decide); have : (42 : Int32).toInt = 42 := (by decide); dsimp only; omega), z_leR hRl (by have := by2_j7_14_20.1; have := by2_j7_14_20.2; have := bd.1; have := bd.2; have := br_22_28.1; have := br_22_28.2; have := bkc_j7_14.1; have := bkc_j7_14.2; have := bsz_.1; have := bsz_.2; have := bx_32.1; have := bx_32.2; have := bx_33.1; have := bx_33.2; have := bcc.1; have := bcc.2; have : (1 : Int32).toInt = 1 := (by decide); have : (42 : Int32).toInt = 42 := (by decide); dsimp only; omega)⟩) hth (by decide) rfl rfl hl.1 rfl (Nat.le_of_ble_eq_true rfl) dX7_readTerm_39 ⟨Nat.zero_le _, Nat.zero_le _⟩ (fun F_35 H locs w_36 h hfF_35 => ?_)
          obtain ⟨⟨x_38, kx_38, bx_38, q_37⟩, ⟨σ_40, c1_40, rn_40, st_40, cn_40⟩, -⟩ := w_36
          have rc_40 : zRc (zTo Bt nt) σ [(15, d.toInt.toNat, 0, 0)] σ_40 [(16, d.toInt.toNat, 0, 0)] := zRc.calls rc_31 (rn_40.x (zSy_eq (by have := by2_j7_14_20.1; have := by2_j7_14_20.2; have := bd.1; have := bd.2; have := bkc_j7_14.1; have := bkc_j7_14.2; have := bx_38.1; have := bx_38.2; have := br_22_28.1; have := br_22_28.2; have := bsz_.1; have := bsz_.2; have := bcc.1; have := bcc.2; have : (1 : Int32).toInt = 1 := (by decide); have : (42 : Int32).toInt = 42 := (by decide); omega) (by have := by2_j7_14_20.1; have := by2_j7_14_20.2; have := bd.1; have := bd.2; have := bkc_j7_14.1; have := bkc_j7_14.2; have := bx_38.1; have := bx_38.2; have := br_22_28.1; have := br_22_28.2; have := bsz_.1; have := bsz_.2; have := bcc.1; have := bcc.2; have : (1 : Int32).toInt = 1 := (by decide); have : (42 : Int32).toInt = 42 := (by decide); omega) (by have := by2_j7_14_20.1; have := by2_j7_14_20.2; have := bd.1; have := bd.2; have := bkc_j7_14.1; have := bkc_j7_14.2; have := bx_38.1; have := bx_38.2; have := br_22_28.1; have := br_22_28.2; have := bsz_.1; have := bsz_.2; have := bcc.1; have := bcc.2; have : (1 : Int32).toInt = 1 := (by decide); have : (42 : Int32).toInt = 42 := (by decide); omega)))
          have ss_40 : zss σ σ_40 := ss_31.trans st_40
          have cc_40 : zCc Γ F F_35 th (zTo Bt nt) σ (σ_40) (d.toInt) := zCc.call cc_31 cn_40
          obtain ⟨⟨x_41, kx_41, nx_41⟩, ⟨x_42, kx_42, nx_42⟩, ox_41⟩ := id c1_40
          have gx_41 := zC1.nx c1_40 hLs_.1 kx_41
          have bx_41 : zB 0 600 x_41 := ⟨by omega, by have := hLs_.2.1; omega⟩
          have bx_42 := zB.all x_42
          have mo_40 := zss.nx st_40 ox_32 ox_41
          refine lv_aload_n hx hb dX7_readTerm_42 rfl (lv_at hl 1 rfl) ?_
          refine zt_getk (t := 7) (C := RX7) (T := TX7) (N := 12) Z h hth zin_7 rfl 5 (hfF_35.f hth 5 ⟨by decide, by decide⟩ (hfF_30.f hth 5 ⟨by decide, by decide⟩ (hfF_15.f hth 5 ⟨by decide, by decide⟩ (hfF_6.f hth 5 ⟨by decide, by decide⟩ kco)))) ⟨by decide, rfl, by decide⟩ (zm_RX7 (List.mem_of_getElem? (i := 6) rfl)) (fun _ h9 => h9) dX7_readTerm_43 ?_
          refine lv_iconst (v := 5) hx hb dX7_readTerm_46 (by decide) ?_
          refine lv_iconst (v := 0) hx hb dX7_readTerm_47 (by decide) ?_
          refine lv_iconst (v := 0) hx hb dX7_readTerm_48 (by decide) ?_
          refine zk_Vi (As := [.int 5, .int 0, .int 0]) (rest := []) (bytes := cX1_add) (maxL := 4) (ret := (some .int)) Z h (zc_X1_add l D k Γ L F_35 H.size co 5 0 0 hco) (cwV 3 hg zv_RX7_117 rfl rfl rfl zd_X1_add ⟨z_leR hRf (by have := by2_j7_14_20.1; have := by2_j7_14_20.2; have := bd.1; have := bd.2; have := br_22_28.1; have := br_22_28.2; have := bx_38.1; have := bx_38.2; have := bsz_.1; have := bsz_.2; have := bx_41.1; have := bx_41.2; have := bx_42.1; have := bx_42.2; have := bcc.1; have := bcc.2; have : (0 : Int32).toInt = 0 := (by decide); have : (1 : Int32).toInt = 1 := (by decide); have : (5 : Int32).toInt = 5 := (by decide); have : (42 : Int32).toInt = 42 := (by decide); dsimp only; omega), z_leR hRl (by have := by2_j7_14_20.1; have := by2_j7_14_20.2; have := bd.1; have := bd.2; have := br_22_28.1; have := br_22_28.2; have := bx_38.1; have := bx_38.2; have := bsz_.1; have := bsz_.2; have := bx_41.1; have := bx_41.2; have := bx_42.1; have := bx_42.2; have := bcc.1; have := bcc.2; have : (0 : Int32).toInt = 0 := (by decide); have : (1 : Int32).toInt = 1 := (by decide); have : (5 : Int32).toInt = 5 := (by decide); have : (42 : Int32).toInt = 42 := (by decide); dsimp only; omega)⟩) hco (by decide) rfl rfl hl.1 rfl (Nat.le_of_ble_eq_true rfl) dX7_readTerm_49 ⟨Nat.zero_le _, Nat.zero_le _⟩ (fun r_43 F_44 H locs w_45 h hfF_44 => ?_)
          obtain ⟨br_43, -⟩ := w_45
          refine lv_pop hx hb dX7_readTerm_52 rfl ?_
          obtain ⟨x_46, ex_46, bx_46, tx_46⟩ := z_inc (n := 1) (lo := 1) (hi := 601) by2_j7_14_20 (by decide)
          refine lv_iinc (v := x_46) (lv' := [(2, .int x_46), (0, .ref th), (1, .int d)]) hx hb dX7_readTerm_53 hl (k := 0) rfl ex_46 (by decide) rfl (fun ls hl => ?_)
          refine lv_goto (tgt := 7) hx hb dX7_readTerm_56 (by decide) ?_
          have c1_47 := (c1_40.fr hfF_44 hth (by decide))
          have cc_48 := (cc_40.fr hfF_44 hth (by decide) (zTo_P Bt nt))
          exact ih_j7_14 _ (by have := bx_46.1; have := bx_46.2; have := bd.1; have := bd.2; have := bx_38.1; have := bx_38.2; have := br_22_28.1; have := br_22_28.2; have := bsz_.1; have := bsz_.2; have := bx_41.1; have := bx_41.2; have := bx_42.1; have := bx_42.2; have := bcc.1; have := bcc.2; have : (1 : Int32).toInt = 1 := (by decide); have : (42 : Int32).toInt = 42 := (by decide); have := by2_j7_14.1; have := by2_j7_14.2; omega) ls x_46 x_38 σ_40 F_44 H locs (lv_sub hl [0, 1, 2] rfl) (bx_46.w ⟨by decide, by decide⟩) h (((hfF_15.trans hfF_30 (by decide)).trans hfF_35 (by decide)).trans hfF_44 (by decide)) (hfF_44.f hth 11 ⟨by decide, by decide⟩ kx_38) bx_38 (by have := bx_46.1; have := bx_46.2; have := bd.1; have := bd.2; have := bx_38.1; have := bx_38.2; have := br_22_28.1; have := br_22_28.2; have := bsz_.1; have := bsz_.2; have := bx_41.1; have := bx_41.2; have := bx_42.1; have := bx_42.2; have := bcc.1; have := bcc.2; have : (1 : Int32).toInt = 1 := (by decide); have : (42 : Int32).toInt = 42 := (by decide); omega) c1_47 rc_40 ss_40 (cc_48.w (by have := bx_46.1; have := bx_46.2; have := bd.1; have := bd.2; have := bx_38.1; have := bx_38.2; have := br_22_28.1; have := br_22_28.2; have := bsz_.1; have := bsz_.2; have := bx_41.1; have := bx_41.2; have := bx_42.1; have := bx_42.2; have := bcc.1; have := bcc.2; have : (1 : Int32).toInt = 1 := (by decide); have : (42 : Int32).toInt = 42 := (by decide); omega)) rfl
  exact j_j7_14 _ ls 0 x_9 σ_11 F_6 H locs (lv_sub hl [0, 1, 2] rfl) (zB.of ⟨by decide, by decide⟩) h zFr.rf kx_9 bx_9 (by have := bd.1; have := bd.2; have := bx_9.1; have := bx_9.2; have := bsz_.1; have := bsz_.2; have := bx_12.1; have := bx_12.2; have := bx_13.1; have := bx_13.2; have := bcc.1; have := bcc.2; have : (0 : Int32).toInt = 0 := (by decide); omega) c1_11 rc_11 ss_11 (cc_11.w (by have := bd.1; have := bd.2; have := bx_9.1; have := bx_9.2; have := bsz_.1; have := bsz_.2; have := bx_12.1; have := bx_12.2; have := bx_13.1; have := bx_13.2; have := bcc.1; have := bcc.2; have : (0 : Int32).toInt = 0 := (by decide); omega)) rfl

set_option maxHeartbeats 4000000 in
set_option maxRecDepth 100000 in
theorem ze_X7_readSum (l : Launch) (D : va_G) (k : Nat → ClassId) (Γ : Nat → Option Nat) (L : List Nat) (F : Nat → va_E) (sz : Nat) (th : Nat) (d : Int32) (pr : Nat) (tk : Nat) (co : Nat) (Bt : Nat → Int32) (nt : Nat) (Nt : Nat) (cc : Int32) (σ : zSg) (nv : Nat) (hth : Γ th = some 7) (bd : zB 0 6 d) (kpr : zfld F th 3 = .ref pr) (hpr : Γ pr = some 6) (ktk : zfld F th 4 = .ref tk) (htk : Γ tk = some 8) (kco : zfld F th 5 = .ref co) (hco : Γ co = some 1) (p_tb : zTb Γ F tk Bt nt Nt) (kcc : zfld F th 11 = .int cc) (bcc : zB 0 150 cc) (p_au : zC1 F th Nt (σ)) (hm_ : ∀ i d9, σ = .inl (i, d9) → 4 * cc.toInt + 5 ≤ zpo Bt nt i + (d.toInt)) (hr0 : 6 ≤ d.toInt + (nv : Int)) (hrec : ∀ q : Nat, nv = q + 1 → zR_sum l q) : Met l yX7_readSum zwX7_readSum ({ frames := 10 * nv + 9, cells := 0, slots := 0, locals := 400 * nv + 300 }) (va_Pc [.ref th, .int d] (zP D k Γ L F sz)) (va_Qv (fun (u : Nat → va_E) => (∃ (c9 : Int32), zfld u th 11 = .int c9 ∧ zB 0 150 c9 ∧ (0 ≤ c9.toInt)) ∧ (∃ σ9 : zSg, zC1 u th Nt σ9 ∧ zRc (zTo Bt nt) σ [(13, d.toInt.toNat, 0, 0)] σ9 [] ∧ zss σ σ9 ∧ zCc Γ F u th (zTo Bt nt) σ σ9 (d.toInt)) ∧ True) (zQ D k Γ L F [103, 701, 702, 706, 711, 10200, 10600, 10700, 15800, 15900, 16000, 16100]) (zA L sz)) 0 0 (zA L sz) := by
  refine Met.ofW (cc := cX7_readSum) (maxL := 4) (ret := none) (by decide) rfl ?_
  intro p e s m args below meth c s₁ B hml hv
  obtain ⟨rfl, hsz, hP, hK, hLn, hE, hI⟩ := hv
  have hx := B.exec
  have hb := B.bytes
  have hr := B.returns
  have hg : ∀ w ∈ zG, w.before _ s = true := fun w h9 => atoms_spec (ws := zwX7_readSum) B.pre w (List.mem_cons_of_mem _ h9)
  have hown : s.vm.findClass RX7 = some m.cls := findClass_of_methodNamed B.named
  have hlocks := B.notSynchronized
  subst hsz
  have Z : zC p m c cX7_readSum 4 s _ zG RX7 D k L := ⟨⟨hx, hb, hml, hown, hg⟩, hK, hLn, hE⟩
  have h : zH D k Γ L s F s.heap [] := ⟨hP, hI, va_S.rf⟩
  have hl := lv_entry ([.ref th, .int d]) (n := 4) (Nat.le_of_ble_eq_true rfl)
  rw [lg_entry_eq]
  generalize (lg_sl ([.ref th, .int d]) ++ List.replicate (4 - (lg_sl ([.ref th, .int d])).length) Slot.unset).toArray = ls at hl ⊢
  have hl : lv_has ls 4 [(0, .ref th), (1, .int d)] := hl
  clear hP hK hLn hE hI
  generalize hargs : ([.ref th, .int d] : List Value).toArray = args at *
  refine z_start (fun R Q hRf hRl hQ => ?_)
  have hRf : R.frames = 10 * nv + 9 := hRf
  have hRl : R.locals = 400 * nv + 300 := hRl
  have h9 := h
  have hLs_ := p_tb.2.2.2.1
  obtain ⟨sz_, ksz_, tsz_⟩ := p_tb.2.2.1
  have bsz_ : zB 1 601 sz_ := ⟨by have := hLs_.1; omega, by have := hLs_.2.1; omega⟩
  obtain ⟨⟨x_1, kx_1, nx_1⟩, ⟨x_2, kx_2, nx_2⟩, ox_1⟩ := id p_au
  have gx_1 := zC1.nx p_au hLs_.1 kx_1
  have bx_1 : zB 0 600 x_1 := ⟨by omega, by have := hLs_.2.1; omega⟩
  have bx_2 := zB.all x_2
  have ad_3 := z_ad (j := 7) (c := 106) h.2.1 hth (by decide) rfl
  have ad_4 := z_ad (j := 8) (c := 107) h.2.1 hth (by decide) rfl
  have cc0_ : zCc Γ F F th (zTo Bt nt) σ σ (d.toInt) := zCc.rf kcc bcc.1 ⟨ad_3, ad_4⟩ hm_
  have rc0_ : zRc (zTo Bt nt) σ [(13, d.toInt.toNat, 0, 0)] σ [(13, d.toInt.toNat, 0, 0)] := zRc.rf
  have ss0_ : zss σ σ := zss.rf
  have rc_5 : zRc (zTo Bt nt) σ [(13, d.toInt.toNat, 0, 0)] σ [(15, d.toInt.toNat, 0, 0), (14, d.toInt.toNat, 0, 0)] := zRc.sum rc0_
  refine lv_aload_n hx hb dX7_readSum_0 rfl (lv_at hl 0 rfl) ?_
  refine lv_iload_n hx hb dX7_readSum_1 rfl (lv_at hl 1 rfl) ?_
  refine zk_Vv (As := [.int d]) (rest := []) (bytes := cX7_readTerm) (maxL := 3) (ret := none) Z h (ze_X7_readTerm l D k Γ L F s.heap.size th d pr tk co Bt nt Nt cc σ nv hth bd kpr hpr ktk htk kco hco p_tb kcc bcc p_au (zCc.m (cc0_.w (dep' := d.toInt) (by have := bd.1; have := bd.2; have := bcc.1; have := bcc.2; have := bsz_.1; have := bsz_.2; have := bx_1.1; have := bx_1.2; have := bx_2.1; have := bx_2.2; omega)) kcc) (by have := bd.1; have := bd.2; have := bcc.1; have := bcc.2; have := bsz_.1; have := bsz_.2; have := bx_1.1; have := bx_1.2; have := bx_2.1; have := bx_2.2; omega) hrec) (cwV 1 hg zv_RX7_179 rfl rfl rfl zd_X7_readTerm ⟨z_leR hRf (by have := bd.1; have := bd.2; have := bcc.1; have := bcc.2; have := bsz_.1; have := bsz_.2; have := bx_1.1; have := bx_1.2; have := bx_2.1; have := bx_2.2; dsimp only; omega), z_leR hRl (by have := bd.1; have := bd.2; have := bcc.1; have := bcc.2; have := bsz_.1; have := bsz_.2; have := bx_1.1; have := bx_1.2; have := bx_2.1; have := bx_2.2; dsimp only; omega)⟩) hth (by decide) rfl rfl hl.1 rfl (Nat.le_of_ble_eq_true rfl) dX7_readSum_2 ⟨Nat.zero_le _, Nat.zero_le _⟩ (fun F_6 H locs w_7 h hfF_6 => ?_)
  obtain ⟨⟨x_9, kx_9, bx_9, q_8⟩, ⟨σ_11, c1_11, rn_11, st_11, cn_11⟩, -⟩ := w_7
  have rc_11 : zRc (zTo Bt nt) σ [(13, d.toInt.toNat, 0, 0)] σ_11 [(14, d.toInt.toNat, 0, 0)] := zRc.calls rc_5 (rn_11.x (zSy_eq (by have := bd.1; have := bd.2; have := bcc.1; have := bcc.2; have := bx_9.1; have := bx_9.2; have := bsz_.1; have := bsz_.2; omega) (by have := bd.1; have := bd.2; have := bcc.1; have := bcc.2; have := bx_9.1; have := bx_9.2; have := bsz_.1; have := bsz_.2; omega) (by have := bd.1; have := bd.2; have := bcc.1; have := bcc.2; have := bx_9.1; have := bx_9.2; have := bsz_.1; have := bsz_.2; omega)))
  have ss_11 : zss σ σ_11 := ss0_.trans st_11
  have cc_11 : zCc Γ F F_6 th (zTo Bt nt) σ (σ_11) (d.toInt) := zCc.call cc0_ cn_11
  obtain ⟨⟨x_12, kx_12, nx_12⟩, ⟨x_13, kx_13, nx_13⟩, ox_12⟩ := id c1_11
  have gx_12 := zC1.nx c1_11 hLs_.1 kx_12
  have bx_12 : zB 0 600 x_12 := ⟨by omega, by have := hLs_.2.1; omega⟩
  have bx_13 := zB.all x_13
  have mo_11 := zss.nx st_11 ox_1 ox_12
  refine lv_iconst (v := 0) hx hb dX7_readSum_5 (by decide) ?_
  refine lv_istore_n (lv' := [(2, .int 0), (0, .ref th), (1, .int d)]) hx hb dX7_readSum_6 rfl hl (by decide) rfl (fun ls hl => ?_)
  have j_j7_14 : ∀ (n : Nat) (ls : Array Slot) (y2_j7_14 : Int32) (kc_j7_14 : Int32) (σ_j7_14 : zSg) (F_15 : Nat → va_E) (H : Heap) (locs : List Loc), lv_has ls 4 [(2, .int y2_j7_14), (0, .ref th), (1, .int d)] → zB 0 601 y2_j7_14 → zH D k Γ L s F_15 H locs → zFr Γ [103, 701, 702, 706, 711, 10200, 10600, 10700, 15800, 15900, 16000, 16100] F_6 F_15 → zfld F_15 th 11 = .int kc_j7_14 → zB 0 150 kc_j7_14 → (y2_j7_14.toInt ≤ znx Nt σ_j7_14) → zC1 F_15 th Nt (σ_j7_14) → zRc (zTo Bt nt) σ [(13, d.toInt.toNat, 0, 0)] σ_j7_14 [(14, d.toInt.toNat, 0, 0)] → zss σ σ_j7_14 → zCc Γ F F_15 th (zTo Bt nt) σ (σ_j7_14) (d.toInt) → (2147483647 - y2_j7_14.toInt).toNat = n → W p l e R s m args below meth c H locs 0 0 Q (F0 m 7 ls []) := by
    intro n
    induction n using Nat.strongRecOn with
    | _ n ih_j7_14 =>
      intro ls y2_j7_14 kc_j7_14 σ_j7_14 F_15 H locs hl by2_j7_14 h hfF_15 hkc_j7_14 bkc_j7_14 r0_j7_14 c1_j7_14 rc_j7_14 ss_j7_14 cc_j7_14 hn_j7_14
      obtain ⟨⟨x_16, kx_16, nx_16⟩, ⟨x_17, kx_17, nx_17⟩, ox_16⟩ := id c1_j7_14
      have gx_16 := zC1.nx c1_j7_14 hLs_.1 kx_16
      have bx_16 : zB 0 600 x_16 := ⟨by omega, by have := hLs_.2.1; omega⟩
      have bx_17 := zB.all x_17
      refine lv_iload_n hx hb dX7_readSum_7 rfl (lv_at hl 0 rfl) ?_
      refine lv_aload_n hx hb dX7_readSum_8 rfl (lv_at hl 1 rfl) ?_
      refine zt_getk (t := 7) (C := RX7) (T := TX7) (N := 12) Z h hth zin_7 rfl 4 (hfF_15.f hth 4 ⟨by decide, by decide⟩ (hfF_6.f hth 4 ⟨by decide, by decide⟩ ktk)) ⟨by decide, rfl, by decide⟩ (zm_RX7 (List.mem_of_getElem? (i := 4) rfl)) (fun _ h9 => h9) dX7_readSum_9 ?_
      refine zt_getk (t := 8) (C := RX8) (T := TX8) (N := 6) Z h htk zin_8 rfl 5 (hfF_15.f htk 5 ⟨by decide, by decide⟩ (hfF_6.f htk 5 ⟨by decide, by decide⟩ ksz_)) ⟨by decide, rfl, by decide⟩ (zm_RX7 (List.mem_of_getElem? (i := 56) rfl)) (fun _ h9 => h9) dX7_readSum_12 ?_
      refine lv_icmp_ge (tgt := 83) hx hb dX7_readSum_15 (by decide) (fun c_18 => ?_) (fun c_18 => ?_)
      · have c_18 := z_le c_18
        have by2_j7_14_19 : zB 1 601 y2_j7_14 := zB.leR c_18 bsz_ by2_j7_14 (by decide)
        exfalso
        have := by2_j7_14_19.1; have := by2_j7_14_19.2; have := bd.1; have := bd.2; have := bx_16.1; have := bx_16.2; have := bkc_j7_14.1; have := bkc_j7_14.2; have := bsz_.1; have := bsz_.2; have := bx_17.1; have := bx_17.2; have := bcc.1; have := bcc.2; omega
      · have c_18 := z_nle c_18
        have by2_j7_14_20 : zB 0 600 y2_j7_14 := zB.ltL c_18 by2_j7_14 bsz_ (by decide)
        refine lv_aload_n hx hb dX7_readSum_18 rfl (lv_at hl 1 rfl) ?_
        have p_21 := ((p_tb.fr hfF_6 htk (by decide)).fr hfF_15 htk (by decide))
        refine zk_Vi (As := []) (rest := []) (bytes := cX7_kind) (maxL := 2) (ret := (some .int)) Z h (ze_X7_kind l D k Γ L F_15 H.size th tk Bt nt Nt σ_j7_14 hth (hfF_15.f hth 4 ⟨by decide, by decide⟩ (hfF_6.f hth 4 ⟨by decide, by decide⟩ ktk)) htk p_21 c1_j7_14) (cwV 0 hg zv_RX7_65 rfl rfl rfl zd_X7_kind ⟨z_leR hRf (by have := by2_j7_14_20.1; have := by2_j7_14_20.2; have := bd.1; have := bd.2; have := bkc_j7_14.1; have := bkc_j7_14.2; have := bsz_.1; have := bsz_.2; have := bx_16.1; have := bx_16.2; have := bx_17.1; have := bx_17.2; have := bcc.1; have := bcc.2; dsimp only; omega), z_leR hRl (by have := by2_j7_14_20.1; have := by2_j7_14_20.2; have := bd.1; have := bd.2; have := bkc_j7_14.1; have := bkc_j7_14.2; have := bsz_.1; have := bsz_.2; have := bx_16.1; have := bx_16.2; have := bx_17.1; have := bx_17.2; have := bcc.1; have := bcc.2; dsimp only; omega)⟩) hth (by decide) rfl rfl hl.1 rfl (Nat.le_of_ble_eq_true rfl) dX7_readSum_19 ⟨Nat.zero_le _, Nat.zero_le _⟩ (fun r_22 F_23 H locs w_24 h hfF_23 => ?_)
        obtain ⟨rfl, q_25, -⟩ := w_24
        have br_22 := zB.all r_22
        refine lv_bipush (v := 43) hx hb dX7_readSum_22 (by decide) ?_
        refine lv_icmp_eq (tgt := 36) hx hb dX7_readSum_24 (by decide) (fun c_26 => ?_) (fun c_26 => ?_)
        · have c_26 := z_eq c_26
          have br_22_27 : zB 43 43 r_22 := zB.eqL (a := 0) (b := 0) c_26 (zBc 43 43 (by decide))
          refine lv_aload_n hx hb dX7_readSum_36 rfl (lv_at hl 1 rfl) ?_
          refine zk_Vi (As := []) (rest := []) (bytes := cX7_kind) (maxL := 2) (ret := (some .int)) Z h (ze_X7_kind l D k Γ L F_15 H.size th tk Bt nt Nt σ_j7_14 hth (hfF_15.f hth 4 ⟨by decide, by decide⟩ (hfF_6.f hth 4 ⟨by decide, by decide⟩ ktk)) htk p_21 c1_j7_14) (cwV 0 hg zv_RX7_65 rfl rfl rfl zd_X7_kind ⟨z_leR hRf (by have := by2_j7_14_20.1; have := by2_j7_14_20.2; have := bd.1; have := bd.2; have := br_22_27.1; have := br_22_27.2; have := bkc_j7_14.1; have := bkc_j7_14.2; have := bsz_.1; have := bsz_.2; have := bx_16.1; have := bx_16.2; have := bx_17.1; have := bx_17.2; have := bcc.1; have := bcc.2; have : (43 : Int32).toInt = 43 := (by decide); dsimp only; omega), z_leR hRl (by have := by2_j7_14_20.1; have := by2_j7_14_20.2; have := bd.1; have := bd.2; have := br_22_27.1; have := br_22_27.2; have := bkc_j7_14.1; have := bkc_j7_14.2; have := bsz_.1; have := bsz_.2; have := bx_16.1; have := bx_16.2; have := bx_17.1; have := bx_17.2; have := bcc.1; have := bcc.2; have : (43 : Int32).toInt = 43 := (by decide); dsimp only; omega)⟩) hth (by decide) rfl rfl hl.1 rfl (Nat.le_of_ble_eq_true rfl) dX7_readSum_37 ⟨Nat.zero_le _, Nat.zero_le _⟩ (fun r_28 F_29 H locs w_30 h hfF_29 => ?_)
          obtain ⟨rfl, q_31, -⟩ := w_30
          have br_28 := zB.all r_28
          refine lv_bipush (v := 43) hx hb dX7_readSum_40 (by decide) ?_
          refine lv_icmp_ne (tgt := 49) hx hb dX7_readSum_42 (by decide) (fun c_32 => ?_) (fun c_32 => ?_)
          · have c_32 := z_ne c_32
            refine lv_iconst (v := 4) hx hb dX7_readSum_49 (by decide) ?_
            refine lv_istore_n (lv' := [(3, .int 4), (2, .int y2_j7_14), (0, .ref th), (1, .int d)]) hx hb dX7_readSum_50 rfl hl (by decide) rfl (fun ls hl => ?_)
            refine lv_aload_n hx hb dX7_readSum_51 rfl (lv_at hl 2 rfl) ?_
            refine lv_dup hx hb dX7_readSum_52 rfl ?_
            refine zt_getk (t := 7) (C := RX7) (T := TX7) (N := 12) Z h hth zin_7 rfl 6 kx_16 ⟨by decide, rfl, by decide⟩ (zm_RX7 (List.mem_of_getElem? (i := 9) rfl)) (fun _ h9 => h9) dX7_readSum_53 ?_
            refine lv_iconst (v := 1) hx hb dX7_readSum_56 (by decide) ?_
            refine lv_iadd hx hb dX7_readSum_57 ?_
            refine zi_add (lo := 1) (hi := 601) bx_16 (zBc 1 1 (by decide)) (by decide) (fun x_33 bx_33 tx_33 => ?_)
            refine zt_put (t := 7) (C := RX7) (T := TX7) (N := 12) (v := .int x_33) Z h hth zin_7 tyX7 tyX7_ok nmX7 rfl 6 rfl ⟨by decide, rfl⟩ (zm_RX7 (List.mem_of_getElem? (i := 9) rfl)) (fun _ h9 => h9) rfl (zV.i (bx_33.w ⟨by decide, by decide⟩)) rfl rfl dX7_readSum_58 (fun H locs F_34 h hfF_34 kF_34 => ?_)
            have c1_35 : zC1 F_34 th Nt (zadv σ_j7_14) := (zC1.adv (T := zTo Bt nt) c1_j7_14 hfF_34 hth (by decide) kx_16 kF_34 (by have := by2_j7_14_20.1; have := by2_j7_14_20.2; have := bd.1; have := bd.2; have := bx_16.1; have := bx_16.2; have := br_22_27.1; have := br_22_27.2; have := br_28.1; have := br_28.2; have := bkc_j7_14.1; have := bkc_j7_14.2; have := bsz_.1; have := bsz_.2; have := bx_33.1; have := bx_33.2; have := bx_17.1; have := bx_17.2; have := bcc.1; have := bcc.2; have : (1 : Int32).toInt = 1 := (by decide); have : (4 : Int32).toInt = 4 := (by decide); have : (43 : Int32).toInt = 43 := (by decide); omega) hLs_ ⟨by have := by2_j7_14_20.1; have := by2_j7_14_20.2; have := bd.1; have := bd.2; have := bx_16.1; have := bx_16.2; have := br_22_27.1; have := br_22_27.2; have := br_28.1; have := br_28.2; have := bkc_j7_14.1; have := bkc_j7_14.2; have := bsz_.1; have := bsz_.2; have := bx_33.1; have := bx_33.2; have := bx_17.1; have := bx_17.2; have := bcc.1; have := bcc.2; have : (1 : Int32).toInt = 1 := (by decide); have : (4 : Int32).toInt = 4 := (by decide); have : (43 : Int32).toInt = 43 := (by decide); omega, by have := by2_j7_14_20.1; have := by2_j7_14_20.2; have := bd.1; have := bd.2; have := bx_16.1; have := bx_16.2; have := br_22_27.1; have := br_22_27.2; have := br_28.1; have := br_28.2; have := bkc_j7_14.1; have := bkc_j7_14.2; have := bsz_.1; have := bsz_.2; have := bx_33.1; have := bx_33.2; have := bx_17.1; have := bx_17.2; have := bcc.1; have := bcc.2; have : (1 : Int32).toInt = 1 := (by decide); have : (4 : Int32).toInt = 4 := (by decide); have : (43 : Int32).toInt = 43 := (by decide); omega⟩)
            have rc_35 : zRc (zTo Bt nt) σ [(13, d.toInt.toNat, 0, 0)] (zadv σ_j7_14) [(15, d.toInt.toNat, 0, 0), (14, d.toInt.toNat, 0, 0)] := zRc.sumT1 (N := Nt) rc_j7_14 (by have := by2_j7_14_20.1; have := by2_j7_14_20.2; have := bd.1; have := bd.2; have := br_22_27.1; have := br_22_27.2; have := br_28.1; have := br_28.2; have := bkc_j7_14.1; have := bkc_j7_14.2; have := bsz_.1; have := bsz_.2; have := bx_33.1; have := bx_33.2; have := bx_17.1; have := bx_17.2; have := bcc.1; have := bcc.2; have : (1 : Int32).toInt = 1 := (by decide); have : (4 : Int32).toInt = 4 := (by decide); have : (43 : Int32).toInt = 43 := (by decide); omega)
            have st_35 : zss σ_j7_14 (zadv σ_j7_14) := zsm.adv.ss
            have ss_35 : zss σ (zadv σ_j7_14) := ss_j7_14.trans st_35
            have cc_35 : zCc Γ F F_34 th (zTo Bt nt) σ (zadv σ_j7_14) (d.toInt) := (cc_j7_14.mv hfF_34 hth (by decide) (zTo_P Bt nt) zsm.adv.cs)
            generalize hσ_35 : zadv σ_j7_14 = σ_35 at c1_35 rc_35 st_35 ss_35 cc_35
            obtain ⟨⟨x_36, kx_36, nx_36⟩, ⟨x_37, kx_37, nx_37⟩, ox_36⟩ := id c1_35
            have gx_36 := zC1.nx c1_35 hLs_.1 kx_36
            have bx_36 : zB 0 600 x_36 := ⟨by omega, by have := hLs_.2.1; omega⟩
            have bx_37 := zB.all x_37
            have vx_36 := congrArg Int32.toInt (z_same kF_34 kx_36)
            have mo_35 := zss.nx st_35 ox_16 ox_36
            refine lv_aload_n hx hb dX7_readSum_61 rfl (lv_at hl 2 rfl) ?_
            refine lv_iload_n hx hb dX7_readSum_62 rfl (lv_at hl 3 rfl) ?_
            have p_38 := (p_21.fr hfF_34 htk (by decide))
            refine zk_Vv (As := [.int d]) (rest := []) (bytes := cX7_readTerm) (maxL := 3) (ret := none) Z h (ze_X7_readTerm l D k Γ L F_34 H.size th d pr tk co Bt nt Nt kc_j7_14 σ_35 nv hth bd (hfF_34.f hth 3 ⟨by decide, by decide⟩ (hfF_15.f hth 3 ⟨by decide, by decide⟩ (hfF_6.f hth 3 ⟨by decide, by decide⟩ kpr))) hpr (hfF_34.f hth 4 ⟨by decide, by decide⟩ (hfF_15.f hth 4 ⟨by decide, by decide⟩ (hfF_6.f hth 4 ⟨by decide, by decide⟩ ktk))) htk (hfF_34.f hth 5 ⟨by decide, by decide⟩ (hfF_15.f hth 5 ⟨by decide, by decide⟩ (hfF_6.f hth 5 ⟨by decide, by decide⟩ kco))) hco p_38 (hfF_34.f hth 11 ⟨by decide, by decide⟩ hkc_j7_14) bkc_j7_14 c1_35 (zCc.m (cc_35.w (dep' := d.toInt) (by have := by2_j7_14_20.1; have := by2_j7_14_20.2; have := bd.1; have := bd.2; have := bkc_j7_14.1; have := bkc_j7_14.2; have := br_22_27.1; have := br_22_27.2; have := br_28.1; have := br_28.2; have := bsz_.1; have := bsz_.2; have := bx_36.1; have := bx_36.2; have := bx_37.1; have := bx_37.2; have := bcc.1; have := bcc.2; have : (1 : Int32).toInt = 1 := (by decide); have : (4 : Int32).toInt = 4 := (by decide); have : (43 : Int32).toInt = 43 := (by decide); omega)) (hfF_34.f hth 11 ⟨by decide, by decide⟩ hkc_j7_14)) (by have := by2_j7_14_20.1; have := by2_j7_14_20.2; have := bd.1; have := bd.2; have := bkc_j7_14.1; have := bkc_j7_14.2; have := br_22_27.1; have := br_22_27.2; have := br_28.1; have := br_28.2; have := bsz_.1; have := bsz_.2; have := bx_36.1; have := bx_36.2; have := bx_37.1; have := bx_37.2; have := bcc.1; have := bcc.2; have : (1 : Int32).toInt = 1 := (by decide); have : (4 : Int32).toInt = 4 := (by decide); have : (43 : Int32).toInt = 43 := (by decide); omega) hrec) (cwV 1 hg zv_RX7_179 rfl rfl rfl zd_X7_readTerm ⟨z_leR hRf (by have := by2_j7_14_20.1; have := by2_j7_14_20.2; have := bd.1; have := bd.2; have := br_22_27.1; have := br_22_27.2; have := br_28.1; have := br_28.2; have := bkc_j7_14.1; have := bkc_j7_14.2; have := bsz_.1; have := bsz_.2; have := bx_36.1; have := bx_36.2; have := bx_37.1; have := bx_37.2; have := bcc.1; have := bcc.2; have : (1 : Int32).toInt = 1 := (by decide); have : (4 : Int32).toInt = 4 := (by decide); have : (43 : Int32).toInt = 43 := (by decide); dsimp only; omega), z_leR hRl (by have := by2_j7_14_20.1; have := by2_j7_14_20.2; have := bd.1; have := bd.2; have := br_22_27.1; have := br_22_27.2; have := br_28.1; have := br_28.2; have := bkc_j7_14.1; have := bkc_j7_14.2; have := bsz_.1; have := bsz_.2; have := bx_36.1; have := bx_36.2; have := bx_37.1; have := bx_37.2; have := bcc.1; have := bcc.2; have : (1 : Int32).toInt = 1 := (by decide); have : (4 : Int32).toInt = 4 := (by decide); have : (43 : Int32).toInt = 43 := (by decide); dsimp only; omega)⟩) hth (by decide) rfl rfl hl.1 rfl (Nat.le_of_ble_eq_true rfl) dX7_readSum_63 ⟨Nat.zero_le _, Nat.zero_le _⟩ (fun F_39 H locs w_40 h hfF_39 => ?_)
            obtain ⟨⟨x_42, kx_42, bx_42, q_41⟩, ⟨σ_44, c1_44, rn_44, st_44, cn_44⟩, -⟩ := w_40
            have rc_44 : zRc (zTo Bt nt) σ [(13, d.toInt.toNat, 0, 0)] σ_44 [(14, d.toInt.toNat, 0, 0)] := zRc.calls rc_35 (rn_44.x (zSy_eq (by have := by2_j7_14_20.1; have := by2_j7_14_20.2; have := bd.1; have := bd.2; have := bkc_j7_14.1; have := bkc_j7_14.2; have := bx_42.1; have := bx_42.2; have := br_22_27.1; have := br_22_27.2; have := br_28.1; have := br_28.2; have := bsz_.1; have := bsz_.2; have := bcc.1; have := bcc.2; have : (1 : Int32).toInt = 1 := (by decide); have : (4 : Int32).toInt = 4 := (by decide); have : (43 : Int32).toInt = 43 := (by decide); omega) (by have := by2_j7_14_20.1; have := by2_j7_14_20.2; have := bd.1; have := bd.2; have := bkc_j7_14.1; have := bkc_j7_14.2; have := bx_42.1; have := bx_42.2; have := br_22_27.1; have := br_22_27.2; have := br_28.1; have := br_28.2; have := bsz_.1; have := bsz_.2; have := bcc.1; have := bcc.2; have : (1 : Int32).toInt = 1 := (by decide); have : (4 : Int32).toInt = 4 := (by decide); have : (43 : Int32).toInt = 43 := (by decide); omega) (by have := by2_j7_14_20.1; have := by2_j7_14_20.2; have := bd.1; have := bd.2; have := bkc_j7_14.1; have := bkc_j7_14.2; have := bx_42.1; have := bx_42.2; have := br_22_27.1; have := br_22_27.2; have := br_28.1; have := br_28.2; have := bsz_.1; have := bsz_.2; have := bcc.1; have := bcc.2; have : (1 : Int32).toInt = 1 := (by decide); have : (4 : Int32).toInt = 4 := (by decide); have : (43 : Int32).toInt = 43 := (by decide); omega)))
            have ss_44 : zss σ σ_44 := ss_35.trans st_44
            have cc_44 : zCc Γ F F_39 th (zTo Bt nt) σ (σ_44) (d.toInt) := zCc.call cc_35 cn_44
            obtain ⟨⟨x_45, kx_45, nx_45⟩, ⟨x_46, kx_46, nx_46⟩, ox_45⟩ := id c1_44
            have gx_45 := zC1.nx c1_44 hLs_.1 kx_45
            have bx_45 : zB 0 600 x_45 := ⟨by omega, by have := hLs_.2.1; omega⟩
            have bx_46 := zB.all x_46
            have mo_44 := zss.nx st_44 ox_36 ox_45
            refine lv_aload_n hx hb dX7_readSum_66 rfl (lv_at hl 2 rfl) ?_
            refine zt_getk (t := 7) (C := RX7) (T := TX7) (N := 12) Z h hth zin_7 rfl 5 (hfF_39.f hth 5 ⟨by decide, by decide⟩ (hfF_34.f hth 5 ⟨by decide, by decide⟩ (hfF_15.f hth 5 ⟨by decide, by decide⟩ (hfF_6.f hth 5 ⟨by decide, by decide⟩ kco)))) ⟨by decide, rfl, by decide⟩ (zm_RX7 (List.mem_of_getElem? (i := 6) rfl)) (fun _ h9 => h9) dX7_readSum_67 ?_
            refine lv_iload_n hx hb dX7_readSum_70 rfl (lv_at hl 0 rfl) ?_
            refine lv_iconst (v := 0) hx hb dX7_readSum_71 (by decide) ?_
            refine lv_iconst (v := 0) hx hb dX7_readSum_72 (by decide) ?_
            refine zk_Vi (As := [.int 4, .int 0, .int 0]) (rest := []) (bytes := cX1_add) (maxL := 4) (ret := (some .int)) Z h (zc_X1_add l D k Γ L F_39 H.size co 4 0 0 hco) (cwV 3 hg zv_RX7_117 rfl rfl rfl zd_X1_add ⟨z_leR hRf (by have := by2_j7_14_20.1; have := by2_j7_14_20.2; have := bd.1; have := bd.2; have := br_22_27.1; have := br_22_27.2; have := br_28.1; have := br_28.2; have := bx_42.1; have := bx_42.2; have := bsz_.1; have := bsz_.2; have := bx_45.1; have := bx_45.2; have := bx_46.1; have := bx_46.2; have := bcc.1; have := bcc.2; have : (0 : Int32).toInt = 0 := (by decide); have : (1 : Int32).toInt = 1 := (by decide); have : (4 : Int32).toInt = 4 := (by decide); have : (43 : Int32).toInt = 43 := (by decide); dsimp only; omega), z_leR hRl (by have := by2_j7_14_20.1; have := by2_j7_14_20.2; have := bd.1; have := bd.2; have := br_22_27.1; have := br_22_27.2; have := br_28.1; have := br_28.2; have := bx_42.1; have := bx_42.2; have := bsz_.1; have := bsz_.2; have := bx_45.1; have := bx_45.2; have := bx_46.1; have := bx_46.2; have := bcc.1; have := bcc.2; have : (0 : Int32).toInt = 0 := (by decide); have : (1 : Int32).toInt = 1 := (by decide); have : (4 : Int32).toInt = 4 := (by decide); have : (43 : Int32).toInt = 43 := (by decide); dsimp only; omega)⟩) hco (by decide) rfl rfl hl.1 rfl (Nat.le_of_ble_eq_true rfl) dX7_readSum_73 ⟨Nat.zero_le _, Nat.zero_le _⟩ (fun r_47 F_48 H locs w_49 h hfF_48 => ?_)
            obtain ⟨br_47, -⟩ := w_49
            refine lv_pop hx hb dX7_readSum_76 rfl ?_
            obtain ⟨x_50, ex_50, bx_50, tx_50⟩ := z_inc (n := 1) (lo := 1) (hi := 601) by2_j7_14_20 (by decide)
            refine lv_iinc (v := x_50) (lv' := [(2, .int x_50), (3, .int 4), (0, .ref th), (1, .int d)]) hx hb dX7_readSum_77 hl (k := 1) rfl ex_50 (by decide) rfl (fun ls hl => ?_)
            refine lv_goto (tgt := 7) hx hb dX7_readSum_80 (by decide) ?_
            have c1_51 := (c1_44.fr hfF_48 hth (by decide))
            have cc_52 := (cc_44.fr hfF_48 hth (by decide) (zTo_P Bt nt))
            exact ih_j7_14 _ (by have := bx_50.1; have := bx_50.2; have := bd.1; have := bd.2; have := bx_42.1; have := bx_42.2; have := br_22_27.1; have := br_22_27.2; have := br_28.1; have := br_28.2; have := bsz_.1; have := bsz_.2; have := bx_45.1; have := bx_45.2; have := bx_46.1; have := bx_46.2; have := bcc.1; have := bcc.2; have : (1 : Int32).toInt = 1 := (by decide); have : (4 : Int32).toInt = 4 := (by decide); have : (43 : Int32).toInt = 43 := (by decide); have := by2_j7_14.1; have := by2_j7_14.2; omega) ls x_50 x_42 σ_44 F_48 H locs (lv_sub hl [0, 2, 3] rfl) (bx_50.w ⟨by decide, by decide⟩) h (((hfF_15.trans hfF_34 (by decide)).trans hfF_39 (by decide)).trans hfF_48 (by decide)) (hfF_48.f hth 11 ⟨by decide, by decide⟩ kx_42) bx_42 (by have := bx_50.1; have := bx_50.2; have := bd.1; have := bd.2; have := bx_42.1; have := bx_42.2; have := br_22_27.1; have := br_22_27.2; have := br_28.1; have := br_28.2; have := bsz_.1; have := bsz_.2; have := bx_45.1; have := bx_45.2; have := bx_46.1; have := bx_46.2; have := bcc.1; have := bcc.2; have : (1 : Int32).toInt = 1 := (by decide); have : (4 : Int32).toInt = 4 := (by decide); have : (43 : Int32).toInt = 43 := (by decide); omega) c1_51 rc_44 ss_44 (cc_52.w (by have := bx_50.1; have := bx_50.2; have := bd.1; have := bd.2; have := bx_42.1; have := bx_42.2; have := br_22_27.1; have := br_22_27.2; have := br_28.1; have := br_28.2; have := bsz_.1; have := bsz_.2; have := bx_45.1; have := bx_45.2; have := bx_46.1; have := bx_46.2; have := bcc.1; have := bcc.2; have : (1 : Int32).toInt = 1 := (by decide); have : (4 : Int32).toInt = 4 := (by decide); have : (43 : Int32).toInt = 43 := (by decide); omega)) rfl
          · have c_32 := z_eq c_32
            have br_28_53 : zB 43 43 r_28 := zB.eqL (a := 0) (b := 0) c_32 (zBc 43 43 (by decide))
            refine lv_iconst (v := 3) hx hb dX7_readSum_45 (by decide) ?_
            refine lv_goto (tgt := 50) hx hb dX7_readSum_46 (by decide) ?_
            refine lv_istore_n (lv' := [(3, .int 3), (2, .int y2_j7_14), (0, .ref th), (1, .int d)]) hx hb dX7_readSum_50 rfl hl (by decide) rfl (fun ls hl => ?_)
            refine lv_aload_n hx hb dX7_readSum_51 rfl (lv_at hl 2 rfl) ?_
            refine lv_dup hx hb dX7_readSum_52 rfl ?_
            refine zt_getk (t := 7) (C := RX7) (T := TX7) (N := 12) Z h hth zin_7 rfl 6 kx_16 ⟨by decide, rfl, by decide⟩ (zm_RX7 (List.mem_of_getElem? (i := 9) rfl)) (fun _ h9 => h9) dX7_readSum_53 ?_
            refine lv_iconst (v := 1) hx hb dX7_readSum_56 (by decide) ?_
            refine lv_iadd hx hb dX7_readSum_57 ?_
            refine zi_add (lo := 1) (hi := 601) bx_16 (zBc 1 1 (by decide)) (by decide) (fun x_54 bx_54 tx_54 => ?_)
            refine zt_put (t := 7) (C := RX7) (T := TX7) (N := 12) (v := .int x_54) Z h hth zin_7 tyX7 tyX7_ok nmX7 rfl 6 rfl ⟨by decide, rfl⟩ (zm_RX7 (List.mem_of_getElem? (i := 9) rfl)) (fun _ h9 => h9) rfl (zV.i (bx_54.w ⟨by decide, by decide⟩)) rfl rfl dX7_readSum_58 (fun H locs F_55 h hfF_55 kF_55 => ?_)
            have c1_56 : zC1 F_55 th Nt (zadv σ_j7_14) := (zC1.adv (T := zTo Bt nt) c1_j7_14 hfF_55 hth (by decide) kx_16 kF_55 (by have := by2_j7_14_20.1; have := by2_j7_14_20.2; have := bd.1; have := bd.2; have := bx_16.1; have := bx_16.2; have := br_22_27.1; have := br_22_27.2; have := br_28_53.1; have := br_28_53.2; have := bkc_j7_14.1; have := bkc_j7_14.2; have := bsz_.1; have := bsz_.2; have := bx_54.1; have := bx_54.2; have := bx_17.1; have := bx_17.2; have := bcc.1; have := bcc.2; have : (1 : Int32).toInt = 1 := (by decide); have : (3 : Int32).toInt = 3 := (by decide); have : (43 : Int32).toInt = 43 := (by decide); omega) hLs_ ⟨by have := by2_j7_14_20.1; have := by2_j7_14_20.2; have := bd.1; have := bd.2; have := bx_16.1; have := bx_16.2; have := br_22_27.1; have := br_22_27.2; have := br_28_53.1; have := br_28_53.2; have := bkc_j7_14.1; have := bkc_j7_14.2; have := bsz_.1; have := bsz_.2; have := bx_54.1; have := bx_54.2; have := bx_17.1; have := bx_17.2; have := bcc.1; have := bcc.2; have : (1 : Int32).toInt = 1 := (by decide); have : (3 : Int32).toInt = 3 := (by decide); have : (43 : Int32).toInt = 43 := (by decide); omega, by have := by2_j7_14_20.1; have := by2_j7_14_20.2; have := bd.1; have := bd.2; have := bx_16.1; have := bx_16.2; have := br_22_27.1; have := br_22_27.2; have := br_28_53.1; have := br_28_53.2; have := bkc_j7_14.1; have := bkc_j7_14.2; have := bsz_.1; have := bsz_.2; have := bx_54.1; have := bx_54.2; have := bx_17.1; have := bx_17.2; have := bcc.1; have := bcc.2; have : (1 : Int32).toInt = 1 := (by decide); have : (3 : Int32).toInt = 3 := (by decide); have : (43 : Int32).toInt = 43 := (by decide); omega⟩)
            have rc_56 : zRc (zTo Bt nt) σ [(13, d.toInt.toNat, 0, 0)] (zadv σ_j7_14) [(15, d.toInt.toNat, 0, 0), (14, d.toInt.toNat, 0, 0)] := zRc.sumT1 (N := Nt) rc_j7_14 (by have := by2_j7_14_20.1; have := by2_j7_14_20.2; have := bd.1; have := bd.2; have := br_22_27.1; have := br_22_27.2; have := br_28_53.1; have := br_28_53.2; have := bkc_j7_14.1; have := bkc_j7_14.2; have := bsz_.1; have := bsz_.2; have := bx_54.1; have := bx_54.2; have := bx_17.1; have := bx_17.2; have := bcc.1; have := bcc.2; have : (1 : Int32).toInt = 1 := (by decide); have : (3 : Int32).toInt = 3 := (by decide); have : (43 : Int32).toInt = 43 := (by decide); omega)
            have st_56 : zss σ_j7_14 (zadv σ_j7_14) := zsm.adv.ss
            have ss_56 : zss σ (zadv σ_j7_14) := ss_j7_14.trans st_56
            have cc_56 : zCc Γ F F_55 th (zTo Bt nt) σ (zadv σ_j7_14) (d.toInt) := (cc_j7_14.mv hfF_55 hth (by decide) (zTo_P Bt nt) zsm.adv.cs)
            generalize hσ_56 : zadv σ_j7_14 = σ_56 at c1_56 rc_56 st_56 ss_56 cc_56
            obtain ⟨⟨x_57, kx_57, nx_57⟩, ⟨x_58, kx_58, nx_58⟩, ox_57⟩ := id c1_56
            have gx_57 := zC1.nx c1_56 hLs_.1 kx_57
            have bx_57 : zB 0 600 x_57 := ⟨by omega, by have := hLs_.2.1; omega⟩
            have bx_58 := zB.all x_58
            have vx_57 := congrArg Int32.toInt (z_same kF_55 kx_57)
            have mo_56 := zss.nx st_56 ox_16 ox_57
            refine lv_aload_n hx hb dX7_readSum_61 rfl (lv_at hl 2 rfl) ?_
            refine lv_iload_n hx hb dX7_readSum_62 rfl (lv_at hl 3 rfl) ?_
            have p_59 := (p_21.fr hfF_55 htk (by decide))
            refine zk_Vv (As := [.int d]) (rest := []) (bytes := cX7_readTerm) (maxL := 3) (ret := none) Z h (ze_X7_readTerm l D k Γ L F_55 H.size th d pr tk co Bt nt Nt kc_j7_14 σ_56 nv hth bd (hfF_55.f hth 3 ⟨by decide, by decide⟩ (hfF_15.f hth 3 ⟨by decide, by decide⟩ (hfF_6.f hth 3 ⟨by decide, by decide⟩ kpr))) hpr (hfF_55.f hth 4 ⟨by decide, by decide⟩ (hfF_15.f hth 4 ⟨by decide, by decide⟩ (hfF_6.f hth 4 ⟨by decide, by decide⟩ ktk))) htk (hfF_55.f hth 5 ⟨by decide, by decide⟩ (hfF_15.f hth 5 ⟨by decide, by decide⟩ (hfF_6.f hth 5 ⟨by decide, by decide⟩ kco))) hco p_59 (hfF_55.f hth 11 ⟨by decide, by decide⟩ hkc_j7_14) bkc_j7_14 c1_56 (zCc.m (cc_56.w (dep' := d.toInt) (by have := by2_j7_14_20.1; have := by2_j7_14_20.2; have := bd.1; have := bd.2; have := bkc_j7_14.1; have := bkc_j7_14.2; have := br_22_27.1; have := br_22_27.2; have := br_28_53.1; have := br_28_53.2; have := bsz_.1; have := bsz_.2; have := bx_57.1; have := bx_57.2; have := bx_58.1; have := bx_58.2; have := bcc.1; have := bcc.2; have : (1 : Int32).toInt = 1 := (by decide); have : (3 : Int32).toInt = 3 := (by decide); have : (43 : Int32).toInt = 43 := (by decide); omega)) (hfF_55.f hth 11 ⟨by decide, by decide⟩ hkc_j7_14)) (by have := by2_j7_14_20.1; have := by2_j7_14_20.2; have := bd.1; have := bd.2; have := bkc_j7_14.1; have := bkc_j7_14.2; have := br_22_27.1; have := br_22_27.2; have := br_28_53.1; have := br_28_53.2; have := bsz_.1; have := bsz_.2; have := bx_57.1; have := bx_57.2; have := bx_58.1; have := bx_58.2; have := bcc.1; have := bcc.2; have : (1 : Int32).toInt = 1 := (by decide); have : (3 : Int32).toInt = 3 := (by decide); have : (43 : Int32).toInt = 43 := (by decide); omega) hrec) (cwV 1 hg zv_RX7_179 rfl rfl rfl zd_X7_readTerm ⟨z_leR hRf (by have := by2_j7_14_20.1; have := by2_j7_14_20.2; have := bd.1; have := bd.2; have := br_22_27.1; have := br_22_27.2; have := br_28_53.1; have := br_28_53.2; have := bkc_j7_14.1; have := bkc_j7_14.2; have := bsz_.1; have := bsz_.2; have := bx_57.1; have := bx_57.2; have := bx_58.1; have := bx_58.2; have := bcc.1; have := bcc.2; have : (1 : Int32).toInt = 1 := (by decide); have : (3 : Int32).toInt = 3 := (by decide); have : (43 : Int32).toInt = 43 := (by decide); dsimp only; omega), z_leR hRl (by have := by2_j7_14_20.1; have := by2_j7_14_20.2; have := bd.1; have := bd.2; have := br_22_27.1; have := br_22_27.2; have := br_28_53.1; have := br_28_53.2; have := bkc_j7_14.1; have := bkc_j7_14.2; have := bsz_.1; have := bsz_.2; have := bx_57.1; have := bx_57.2; have := bx_58.1; have := bx_58.2; have := bcc.1; have := bcc.2; have : (1 : Int32).toInt = 1 := (by decide); have : (3 : Int32).toInt = 3 := (by decide); have : (43 : Int32).toInt = 43 := (by decide); dsimp only; omega)⟩) hth (by decide) rfl rfl hl.1 rfl (Nat.le_of_ble_eq_true rfl) dX7_readSum_63 ⟨Nat.zero_le _, Nat.zero_le _⟩ (fun F_60 H locs w_61 h hfF_60 => ?_)
            obtain ⟨⟨x_63, kx_63, bx_63, q_62⟩, ⟨σ_65, c1_65, rn_65, st_65, cn_65⟩, -⟩ := w_61
            have rc_65 : zRc (zTo Bt nt) σ [(13, d.toInt.toNat, 0, 0)] σ_65 [(14, d.toInt.toNat, 0, 0)] := zRc.calls rc_56 (rn_65.x (zSy_eq (by have := by2_j7_14_20.1; have := by2_j7_14_20.2; have := bd.1; have := bd.2; have := bkc_j7_14.1; have := bkc_j7_14.2; have := bx_63.1; have := bx_63.2; have := br_22_27.1; have := br_22_27.2; have := br_28_53.1; have := br_28_53.2; have := bsz_.1; have := bsz_.2; have := bcc.1; have := bcc.2; have : (1 : Int32).toInt = 1 := (by decide); have : (3 : Int32).toInt = 3 := (by decide); have : (43 : Int32).toInt = 43 := (by decide); omega) (by have := by2_j7_14_20.1; have := by2_j7_14_20.2; have := bd.1; have := bd.2; have := bkc_j7_14.1; have := bkc_j7_14.2; have := bx_63.1; have := bx_63.2; have := br_22_27.1; have := br_22_27.2; have := br_28_53.1; have := br_28_53.2; have := bsz_.1; have := bsz_.2; have := bcc.1; have := bcc.2; have : (1 : Int32).toInt = 1 := (by decide); have : (3 : Int32).toInt = 3 := (by decide); have : (43 : Int32).toInt = 43 := (by decide); omega) (by have := by2_j7_14_20.1; have := by2_j7_14_20.2; have := bd.1; have := bd.2; have := bkc_j7_14.1; have := bkc_j7_14.2; have := bx_63.1; have := bx_63.2; have := br_22_27.1; have := br_22_27.2; have := br_28_53.1; have := br_28_53.2; have := bsz_.1; have := bsz_.2; have := bcc.1; have := bcc.2; have : (1 : Int32).toInt = 1 := (by decide); have : (3 : Int32).toInt = 3 := (by decide); have : (43 : Int32).toInt = 43 := (by decide); omega)))
            have ss_65 : zss σ σ_65 := ss_56.trans st_65
            have cc_65 : zCc Γ F F_60 th (zTo Bt nt) σ (σ_65) (d.toInt) := zCc.call cc_56 cn_65
            obtain ⟨⟨x_66, kx_66, nx_66⟩, ⟨x_67, kx_67, nx_67⟩, ox_66⟩ := id c1_65
            have gx_66 := zC1.nx c1_65 hLs_.1 kx_66
            have bx_66 : zB 0 600 x_66 := ⟨by omega, by have := hLs_.2.1; omega⟩
            have bx_67 := zB.all x_67
            have mo_65 := zss.nx st_65 ox_57 ox_66
            refine lv_aload_n hx hb dX7_readSum_66 rfl (lv_at hl 2 rfl) ?_
            refine zt_getk (t := 7) (C := RX7) (T := TX7) (N := 12) Z h hth zin_7 rfl 5 (hfF_60.f hth 5 ⟨by decide, by decide⟩ (hfF_55.f hth 5 ⟨by decide, by decide⟩ (hfF_15.f hth 5 ⟨by decide, by decide⟩ (hfF_6.f hth 5 ⟨by decide, by decide⟩ kco)))) ⟨by decide, rfl, by decide⟩ (zm_RX7 (List.mem_of_getElem? (i := 6) rfl)) (fun _ h9 => h9) dX7_readSum_67 ?_
            refine lv_iload_n hx hb dX7_readSum_70 rfl (lv_at hl 0 rfl) ?_
            refine lv_iconst (v := 0) hx hb dX7_readSum_71 (by decide) ?_
            refine lv_iconst (v := 0) hx hb dX7_readSum_72 (by decide) ?_
            refine zk_Vi (As := [.int 3, .int 0, .int 0]) (rest := []) (bytes := cX1_add) (maxL := 4) (ret := (some .int)) Z h (zc_X1_add l D k Γ L F_60 H.size co 3 0 0 hco) (cwV 3 hg zv_RX7_117 rfl rfl rfl zd_X1_add ⟨z_leR hRf (by have := by2_j7_14_20.1; have := by2_j7_14_20.2; have := bd.1; have := bd.2; have := br_22_27.1; have := br_22_27.2; have := br_28_53.1; have := br_28_53.2; have := bx_63.1; have := bx_63.2; have := bsz_.1; have := bsz_.2; have := bx_66.1; have := bx_66.2; have := bx_67.1; have := bx_67.2; have := bcc.1; have := bcc.2; have : (0 : Int32).toInt = 0 := (by decide); have : (1 : Int32).toInt = 1 := (by decide); have : (3 : Int32).toInt = 3 := (by decide); have : (43 : Int32).toInt = 43 := (by decide); dsimp only; omega), z_leR hRl (by have := by2_j7_14_20.1; have := by2_j7_14_20.2; have := bd.1; have := bd.2; have := br_22_27.1; have := br_22_27.2; have := br_28_53.1; have := br_28_53.2; have := bx_63.1; have := bx_63.2; have := bsz_.1; have := bsz_.2; have := bx_66.1; have := bx_66.2; have := bx_67.1; have := bx_67.2; have := bcc.1; have := bcc.2; have : (0 : Int32).toInt = 0 := (by decide); have : (1 : Int32).toInt = 1 := (by decide); have : (3 : Int32).toInt = 3 := (by decide); have : (43 : Int32).toInt = 43 := (by decide); dsimp only; omega)⟩) hco (by decide) rfl rfl hl.1 rfl (Nat.le_of_ble_eq_true rfl) dX7_readSum_73 ⟨Nat.zero_le _, Nat.zero_le _⟩ (fun r_68 F_69 H locs w_70 h hfF_69 => ?_)
            obtain ⟨br_68, -⟩ := w_70
            refine lv_pop hx hb dX7_readSum_76 rfl ?_
            obtain ⟨x_71, ex_71, bx_71, tx_71⟩ := z_inc (n := 1) (lo := 1) (hi := 601) by2_j7_14_20 (by decide)
            refine lv_iinc (v := x_71) (lv' := [(2, .int x_71), (3, .int 3), (0, .ref th), (1, .int d)]) hx hb dX7_readSum_77 hl (k := 1) rfl ex_71 (by decide) rfl (fun ls hl => ?_)
            refine lv_goto (tgt := 7) hx hb dX7_readSum_80 (by decide) ?_
            have c1_72 := (c1_65.fr hfF_69 hth (by decide))
            have cc_73 := (cc_65.fr hfF_69 hth (by decide) (zTo_P Bt nt))
            exact ih_j7_14 _ (by have := bx_71.1; have := bx_71.2; have := bd.1; have := bd.2; have := bx_63.1; have := bx_63.2; have := br_22_27.1; have := br_22_27.2; have := br_28_53.1; have := br_28_53.2; have := bsz_.1; have := bsz_.2; have := bx_66.1; have := bx_66.2; have := bx_67.1; have := bx_67.2; have := bcc.1; have := bcc.2; have : (1 : Int32).toInt = 1 := (by decide); have : (3 : Int32).toInt = 3 := (by decide); have : (43 : Int32).toInt = 43 := (by decide); have := by2_j7_14.1; have := by2_j7_14.2; omega) ls x_71 x_63 σ_65 F_69 H locs (lv_sub hl [0, 2, 3] rfl) (bx_71.w ⟨by decide, by decide⟩) h (((hfF_15.trans hfF_55 (by decide)).trans hfF_60 (by decide)).trans hfF_69 (by decide)) (hfF_69.f hth 11 ⟨by decide, by decide⟩ kx_63) bx_63 (by have := bx_71.1; have := bx_71.2; have := bd.1; have := bd.2; have := bx_63.1; have := bx_63.2; have := br_22_27.1; have := br_22_27.2; have := br_28_53.1; have := br_28_53.2; have := bsz_.1; have := bsz_.2; have := bx_66.1; have := bx_66.2; have := bx_67.1; have := bx_67.2; have := bcc.1; have := bcc.2; have : (1 : Int32).toInt = 1 := (by decide); have : (3 : Int32).toInt = 3 := (by decide); have : (43 : Int32).toInt = 43 := (by decide); omega) c1_72 rc_65 ss_65 (cc_73.w (by have := bx_71.1; have := bx_71.2; have := bd.1; have := bd.2; have := bx_63.1; have := bx_63.2; have := br_22_27.1; have := br_22_27.2; have := br_28_53.1; have := br_28_53.2; have := bsz_.1; have := bsz_.2; have := bx_66.1; have := bx_66.2; have := bx_67.1; have := bx_67.2; have := bcc.1; have := bcc.2; have : (1 : Int32).toInt = 1 := (by decide); have : (3 : Int32).toInt = 3 := (by decide); have : (43 : Int32).toInt = 43 := (by decide); omega)) rfl
        · have c_26 := z_ne c_26
          refine lv_aload_n hx hb dX7_readSum_27 rfl (lv_at hl 1 rfl) ?_
          refine zk_Vi (As := []) (rest := []) (bytes := cX7_kind) (maxL := 2) (ret := (some .int)) Z h (ze_X7_kind l D k Γ L F_15 H.size th tk Bt nt Nt σ_j7_14 hth (hfF_15.f hth 4 ⟨by decide, by decide⟩ (hfF_6.f hth 4 ⟨by decide, by decide⟩ ktk)) htk p_21 c1_j7_14) (cwV 0 hg zv_RX7_65 rfl rfl rfl zd_X7_kind ⟨z_leR hRf (by have := by2_j7_14_20.1; have := by2_j7_14_20.2; have := bd.1; have := bd.2; have := br_22.1; have := br_22.2; have := bkc_j7_14.1; have := bkc_j7_14.2; have := bsz_.1; have := bsz_.2; have := bx_16.1; have := bx_16.2; have := bx_17.1; have := bx_17.2; have := bcc.1; have := bcc.2; have : (43 : Int32).toInt = 43 := (by decide); dsimp only; omega), z_leR hRl (by have := by2_j7_14_20.1; have := by2_j7_14_20.2; have := bd.1; have := bd.2; have := br_22.1; have := br_22.2; have := bkc_j7_14.1; have := bkc_j7_14.2; have := bsz_.1; have := bsz_.2; have := bx_16.1; have := bx_16.2; have := bx_17.1; have := bx_17.2; have := bcc.1; have := bcc.2; have : (43 : Int32).toInt = 43 := (by decide); dsimp only; omega)⟩) hth (by decide) rfl rfl hl.1 rfl (Nat.le_of_ble_eq_true rfl) dX7_readSum_28 ⟨Nat.zero_le _, Nat.zero_le _⟩ (fun r_74 F_75 H locs w_76 h hfF_75 => ?_)
          obtain ⟨rfl, q_77, -⟩ := w_76
          have br_74 := zB.all r_74
          refine lv_bipush (v := 45) hx hb dX7_readSum_31 (by decide) ?_
          refine lv_icmp_ne (tgt := 83) hx hb dX7_readSum_33 (by decide) (fun c_78 => ?_) (fun c_78 => ?_)
          · have c_78 := z_ne c_78
            have rc_79 : zRc (zTo Bt nt) σ [(13, d.toInt.toNat, 0, 0)] σ_j7_14 [] := zRc.sumT0 (N := Nt) rc_j7_14 (by have := by2_j7_14_20.1; have := by2_j7_14_20.2; have := bd.1; have := bd.2; have := br_22.1; have := br_22.2; have := br_74.1; have := br_74.2; have := bkc_j7_14.1; have := bkc_j7_14.2; have := bsz_.1; have := bsz_.2; have := bx_16.1; have := bx_16.2; have := bx_17.1; have := bx_17.2; have := bcc.1; have := bcc.2; have : (43 : Int32).toInt = 43 := (by decide); have : (45 : Int32).toInt = 45 := (by decide); omega)
            subst hQ
            exact W.vret hx hb hr (fun t ht hW => ⟨⟨F_15, rfl, ⟨⟨kc_j7_14, hkc_j7_14, bkc_j7_14, (by have := by2_j7_14_20.1; have := by2_j7_14_20.2; have := bd.1; have := bd.2; have := bkc_j7_14.1; have := bkc_j7_14.2; have := br_22.1; have := br_22.2; have := br_74.1; have := br_74.2; have := bsz_.1; have := bsz_.2; have := bx_16.1; have := bx_16.2; have := bx_17.1; have := bx_17.2; have := bcc.1; have := bcc.2; have : (43 : Int32).toInt = 43 := (by decide); have : (45 : Int32).toInt = 45 := (by decide); omega)⟩, ⟨σ_j7_14, c1_j7_14, rc_79, ss_j7_14, (cc_j7_14.w (by have := by2_j7_14_20.1; have := by2_j7_14_20.2; have := bd.1; have := bd.2; have := br_22.1; have := br_22.2; have := br_74.1; have := br_74.2; have := bkc_j7_14.1; have := bkc_j7_14.2; have := bsz_.1; have := bsz_.2; have := bx_16.1; have := bx_16.2; have := bx_17.1; have := bx_17.2; have := bcc.1; have := bcc.2; have : (43 : Int32).toInt = 43 := (by decide); have : (45 : Int32).toInt = 45 := (by decide); omega))⟩, trivial⟩, by rw [ht]; exact h.1, h.2.1, (hfF_6.trans hfF_15 (by decide))⟩, h.2.2.F ht⟩) h.2.2.2.2 dX7_readSum_83
          · have c_78 := z_eq c_78
            have br_74_80 : zB 45 45 r_74 := zB.eqL (a := 0) (b := 0) c_78 (zBc 45 45 (by decide))
            refine lv_aload_n hx hb dX7_readSum_36 rfl (lv_at hl 1 rfl) ?_
            refine zk_Vi (As := []) (rest := []) (bytes := cX7_kind) (maxL := 2) (ret := (some .int)) Z h (ze_X7_kind l D k Γ L F_15 H.size th tk Bt nt Nt σ_j7_14 hth (hfF_15.f hth 4 ⟨by decide, by decide⟩ (hfF_6.f hth 4 ⟨by decide, by decide⟩ ktk)) htk p_21 c1_j7_14) (cwV 0 hg zv_RX7_65 rfl rfl rfl zd_X7_kind ⟨z_leR hRf (by have := by2_j7_14_20.1; have := by2_j7_14_20.2; have := bd.1; have := bd.2; have := br_22.1; have := br_22.2; have := br_74_80.1; have := br_74_80.2; have := bkc_j7_14.1; have := bkc_j7_14.2; have := bsz_.1; have := bsz_.2; have := bx_16.1; have := bx_16.2; have := bx_17.1; have := bx_17.2; have := bcc.1; have := bcc.2; have : (43 : Int32).toInt = 43 := (by decide); have : (45 : Int32).toInt = 45 := (by decide); dsimp only; omega), z_leR hRl (by have := by2_j7_14_20.1; have := by2_j7_14_20.2; have := bd.1; have := bd.2; have := br_22.1; have := br_22.2; have := br_74_80.1; have := br_74_80.2; have := bkc_j7_14.1; have := bkc_j7_14.2; have := bsz_.1; have := bsz_.2; have := bx_16.1; have := bx_16.2; have := bx_17.1; have := bx_17.2; have := bcc.1; have := bcc.2; have : (43 : Int32).toInt = 43 := (by decide); have : (45 : Int32).toInt = 45 := (by decide); dsimp only; omega)⟩) hth (by decide) rfl rfl hl.1 rfl (Nat.le_of_ble_eq_true rfl) dX7_readSum_37 ⟨Nat.zero_le _, Nat.zero_le _⟩ (fun r_81 F_82 H locs w_83 h hfF_82 => ?_)
            obtain ⟨rfl, q_84, -⟩ := w_83
            have br_81 := zB.all r_81
            refine lv_bipush (v := 43) hx hb dX7_readSum_40 (by decide) ?_
            refine lv_icmp_ne (tgt := 49) hx hb dX7_readSum_42 (by decide) (fun c_85 => ?_) (fun c_85 => ?_)
            · have c_85 := z_ne c_85
              refine lv_iconst (v := 4) hx hb dX7_readSum_49 (by decide) ?_
              refine lv_istore_n (lv' := [(3, .int 4), (2, .int y2_j7_14), (0, .ref th), (1, .int d)]) hx hb dX7_readSum_50 rfl hl (by decide) rfl (fun ls hl => ?_)
              refine lv_aload_n hx hb dX7_readSum_51 rfl (lv_at hl 2 rfl) ?_
              refine lv_dup hx hb dX7_readSum_52 rfl ?_
              refine zt_getk (t := 7) (C := RX7) (T := TX7) (N := 12) Z h hth zin_7 rfl 6 kx_16 ⟨by decide, rfl, by decide⟩ (zm_RX7 (List.mem_of_getElem? (i := 9) rfl)) (fun _ h9 => h9) dX7_readSum_53 ?_
              refine lv_iconst (v := 1) hx hb dX7_readSum_56 (by decide) ?_
              refine lv_iadd hx hb dX7_readSum_57 ?_
              refine zi_add (lo := 1) (hi := 601) bx_16 (zBc 1 1 (by decide)) (by decide) (fun x_86 bx_86 tx_86 => ?_)
              refine zt_put (t := 7) (C := RX7) (T := TX7) (N := 12) (v := .int x_86) Z h hth zin_7 tyX7 tyX7_ok nmX7 rfl 6 rfl ⟨by decide, rfl⟩ (zm_RX7 (List.mem_of_getElem? (i := 9) rfl)) (fun _ h9 => h9) rfl (zV.i (bx_86.w ⟨by decide, by decide⟩)) rfl rfl dX7_readSum_58 (fun H locs F_87 h hfF_87 kF_87 => ?_)
              have c1_88 : zC1 F_87 th Nt (zadv σ_j7_14) := (zC1.adv (T := zTo Bt nt) c1_j7_14 hfF_87 hth (by decide) kx_16 kF_87 (by have := by2_j7_14_20.1; have := by2_j7_14_20.2; have := bd.1; have := bd.2; have := bx_16.1; have := bx_16.2; have := br_74_80.1; have := br_74_80.2; have := br_81.1; have := br_81.2; have := bkc_j7_14.1; have := bkc_j7_14.2; have := bsz_.1; have := bsz_.2; have := bx_86.1; have := bx_86.2; have := bx_17.1; have := bx_17.2; have := bcc.1; have := bcc.2; have : (1 : Int32).toInt = 1 := (by decide); have : (4 : Int32).toInt = 4 := (by decide); have : (43 : Int32).toInt = 43 := (by decide); have : (45 : Int32).toInt = 45 := (by decide); omega) hLs_ ⟨by have := by2_j7_14_20.1; have := by2_j7_14_20.2; have := bd.1; have := bd.2; have := bx_16.1; have := bx_16.2; have := br_74_80.1; have := br_74_80.2; have := br_81.1; have := br_81.2; have := bkc_j7_14.1; have := bkc_j7_14.2; have := bsz_.1; have := bsz_.2; have := bx_86.1; have := bx_86.2; have := bx_17.1; have := bx_17.2; have := bcc.1; have := bcc.2; have : (1 : Int32).toInt = 1 := (by decide); have : (4 : Int32).toInt = 4 := (by decide); have : (43 : Int32).toInt = 43 := (by decide); have : (45 : Int32).toInt = 45 := (by decide); omega, by have := by2_j7_14_20.1; have := by2_j7_14_20.2; have := bd.1; have := bd.2; have := bx_16.1; have := bx_16.2; have := br_74_80.1; have := br_74_80.2; have := br_81.1; have := br_81.2; have := bkc_j7_14.1; have := bkc_j7_14.2; have := bsz_.1; have := bsz_.2; have := bx_86.1; have := bx_86.2; have := bx_17.1; have := bx_17.2; have := bcc.1; have := bcc.2; have : (1 : Int32).toInt = 1 := (by decide); have : (4 : Int32).toInt = 4 := (by decide); have : (43 : Int32).toInt = 43 := (by decide); have : (45 : Int32).toInt = 45 := (by decide); omega⟩)
              have rc_88 : zRc (zTo Bt nt) σ [(13, d.toInt.toNat, 0, 0)] (zadv σ_j7_14) [(15, d.toInt.toNat, 0, 0), (14, d.toInt.toNat, 0, 0)] := zRc.sumT1 (N := Nt) rc_j7_14 (by have := by2_j7_14_20.1; have := by2_j7_14_20.2; have := bd.1; have := bd.2; have := br_74_80.1; have := br_74_80.2; have := br_81.1; have := br_81.2; have := bkc_j7_14.1; have := bkc_j7_14.2; have := bsz_.1; have := bsz_.2; have := bx_86.1; have := bx_86.2; have := bx_17.1; have := bx_17.2; have := bcc.1; have := bcc.2; have : (1 : Int32).toInt = 1 := (by decide); have : (4 : Int32).toInt = 4 := (by decide); have : (43 : Int32).toInt = 43 := (by decide); have : (45 : Int32).toInt = 45 := (by decide); omega)
              have st_88 : zss σ_j7_14 (zadv σ_j7_14) := zsm.adv.ss
              have ss_88 : zss σ (zadv σ_j7_14) := ss_j7_14.trans st_88
              have cc_88 : zCc Γ F F_87 th (zTo Bt nt) σ (zadv σ_j7_14) (d.toInt) := (cc_j7_14.mv hfF_87 hth (by decide) (zTo_P Bt nt) zsm.adv.cs)
              generalize hσ_88 : zadv σ_j7_14 = σ_88 at c1_88 rc_88 st_88 ss_88 cc_88
              obtain ⟨⟨x_89, kx_89, nx_89⟩, ⟨x_90, kx_90, nx_90⟩, ox_89⟩ := id c1_88
              have gx_89 := zC1.nx c1_88 hLs_.1 kx_89
              have bx_89 : zB 0 600 x_89 := ⟨by omega, by have := hLs_.2.1; omega⟩
              have bx_90 := zB.all x_90
              have vx_89 := congrArg Int32.toInt (z_same kF_87 kx_89)
              have mo_88 := zss.nx st_88 ox_16 ox_89
              refine lv_aload_n hx hb dX7_readSum_61 rfl (lv_at hl 2 rfl) ?_
              refine lv_iload_n hx hb dX7_readSum_62 rfl (lv_at hl 3 rfl) ?_
              have p_91 := (p_21.fr hfF_87 htk (by decide))
              refine zk_Vv (As := [.int d]) (rest := []) (bytes := cX7_readTerm) (maxL := 3) (ret := none) Z h (ze_X7_readTerm l D k Γ L F_87 H.size th d pr tk co Bt nt Nt kc_j7_14 σ_88 nv hth bd (hfF_87.f hth 3 ⟨by decide, by decide⟩ (hfF_15.f hth 3 ⟨by decide, by decide⟩ (hfF_6.f hth 3 ⟨by decide, by decide⟩ kpr))) hpr (hfF_87.f hth 4 ⟨by decide, by decide⟩ (hfF_15.f hth 4 ⟨by decide, by decide⟩ (hfF_6.f hth 4 ⟨by decide, by decide⟩ ktk))) htk (hfF_87.f hth 5 ⟨by decide, by decide⟩ (hfF_15.f hth 5 ⟨by decide, by decide⟩ (hfF_6.f hth 5 ⟨by decide, by decide⟩ kco))) hco p_91 (hfF_87.f hth 11 ⟨by decide, by decide⟩ hkc_j7_14) bkc_j7_14 c1_88 (zCc.m (cc_88.w (dep' := d.toInt) (by have := by2_j7_14_20.1; have := by2_j7_14_20.2; have := bd.1; have := bd.2; have := bkc_j7_14.1; have := bkc_j7_14.2; have := br_74_80.1; have := br_74_80.2; have := br_81.1; have := br_81.2; have := bsz_.1; have := bsz_.2; have := bx_89.1; have := bx_89.2; have := bx_90.1; have := bx_90.2; have := bcc.1; have := bcc.2; have : (1 : Int32).toInt = 1 := (by decide); have : (4 : Int32).toInt = 4 := (by decide); have : (43 : Int32).toInt = 43 := (by decide); have : (45 : Int32).toInt = 45 := (by decide); omega)) (hfF_87.f hth 11 ⟨by decide, by decide⟩ hkc_j7_14)) (by have := by2_j7_14_20.1; have := by2_j7_14_20.2; have := bd.1; have := bd.2; have := bkc_j7_14.1; have := bkc_j7_14.2; have := br_74_80.1; have := br_74_80.2; have := br_81.1; have := br_81.2; have := bsz_.1; have := bsz_.2; have := bx_89.1; have := bx_89.2; have := bx_90.1; have := bx_90.2; have := bcc.1; have := bcc.2; have : (1 : Int32).toInt = 1 := (by decide); have : (4 : Int32).toInt = 4 := (by decide); have : (43 : Int32).toInt = 43 := (by decide); have : (45 : Int32).toInt = 45 := (by decide); omega) hrec) (cwV 1 hg zv_RX7_179 rfl rfl rfl zd_X7_readTerm ⟨z_leR hRf (by have := by2_j7_14_20.1; have := by2_j7_14_20.2; have := bd.1; have := bd.2; have := br_74_80.1; have := br_74_80.2; have := br_81.1; have := br_81.2; have := bkc_j7_14.1; have := bkc_j7_14.2; have := bsz_.1; have := bsz_.2; have := bx_89.1; have := bx_89.2; have := bx_90.1; have := bx_90.2; have := bcc.1; have := bcc.2; have : (1 : Int32).toInt = 1 := (by decide); have : (4 : Int32).toInt = 4 := (by decide); have : (43 : Int32).toInt = 43 := (by decide); have : (45 : Int32).toInt = 45 := (by decide); dsimp only; omega), z_leR hRl (by have := by2_j7_14_20.1; have := by2_j7_14_20.2; have := bd.1; have := bd.2; have := br_74_80.1; have := br_74_80.2; have := br_81.1; have := br_81.2; have := bkc_j7_14.1; have := bkc_j7_14.2; have := bsz_.1; have := bsz_.2; have := bx_89.1; have := bx_89.2; have := bx_90.1; have := bx_90.2; have := bcc.1; have := bcc.2; have : (1 : Int32).toInt = 1 := (by decide); have : (4 : Int32).toInt = 4 := (by decide); have : (43 : Int32).toInt = 43 := (by decide); have : (45 : Int32).toInt = 45 := (by decide); dsimp only; omega)⟩) hth (by decide) rfl rfl hl.1 rfl (Nat.le_of_ble_eq_true rfl) dX7_readSum_63 ⟨Nat.zero_le _, Nat.zero_le _⟩ (fun F_92 H locs w_93 h hfF_92 => ?_)
              obtain ⟨⟨x_95, kx_95, bx_95, q_94⟩, ⟨σ_97, c1_97, rn_97, st_97, cn_97⟩, -⟩ := w_93
              have rc_97 : zRc (zTo Bt nt) σ [(13, d.toInt.toNat, 0, 0)] σ_97 [(14, d.toInt.toNat, 0, 0)] := zRc.calls rc_88 (rn_97.x (zSy_eq (by have := by2_j7_14_20.1; have := by2_j7_14_20.2; have := bd.1; have := bd.2; have := bkc_j7_14.1; have := bkc_j7_14.2; have := bx_95.1; have := bx_95.2; have := br_74_80.1; have := br_74_80.2; have := br_81.1; have := br_81.2; have := bsz_.1; have := bsz_.2; have := bcc.1; have := bcc.2; have : (1 : Int32).toInt = 1 := (by decide); have : (4 : Int32).toInt = 4 := (by decide); have : (43 : Int32).toInt = 43 := (by decide); have : (45 : Int32).toInt = 45 := (by decide); omega) (by have := by2_j7_14_20.1; have := by2_j7_14_20.2; have := bd.1; have := bd.2; have := bkc_j7_14.1; have := bkc_j7_14.2; have := bx_95.1; have := bx_95.2; have := br_74_80.1; have := br_74_80.2; have := br_81.1; have := br_81.2; have := bsz_.1; have := bsz_.2; have := bcc.1; have := bcc.2; have : (1 : Int32).toInt = 1 := (by decide); have : (4 : Int32).toInt = 4 := (by decide); have : (43 : Int32).toInt = 43 := (by decide); have : (45 : Int32).toInt = 45 := (by decide); omega) (by have := by2_j7_14_20.1; have := by2_j7_14_20.2; have := bd.1; have := bd.2; have := bkc_j7_14.1; have := bkc_j7_14.2; have := bx_95.1; have := bx_95.2; have := br_74_80.1; have := br_74_80.2; have := br_81.1; have := br_81.2; have := bsz_.1; have := bsz_.2; have := bcc.1; have := bcc.2; have : (1 : Int32).toInt = 1 := (by decide); have : (4 : Int32).toInt = 4 := (by decide); have : (43 : Int32).toInt = 43 := (by decide); have : (45 : Int32).toInt = 45 := (by decide); omega)))
              have ss_97 : zss σ σ_97 := ss_88.trans st_97
              have cc_97 : zCc Γ F F_92 th (zTo Bt nt) σ (σ_97) (d.toInt) := zCc.call cc_88 cn_97
              obtain ⟨⟨x_98, kx_98, nx_98⟩, ⟨x_99, kx_99, nx_99⟩, ox_98⟩ := id c1_97
              have gx_98 := zC1.nx c1_97 hLs_.1 kx_98
              have bx_98 : zB 0 600 x_98 := ⟨by omega, by have := hLs_.2.1; omega⟩
              have bx_99 := zB.all x_99
              have mo_97 := zss.nx st_97 ox_89 ox_98
              refine lv_aload_n hx hb dX7_readSum_66 rfl (lv_at hl 2 rfl) ?_
              refine zt_getk (t := 7) (C := RX7) (T := TX7) (N := 12) Z h hth zin_7 rfl 5 (hfF_92.f hth 5 ⟨by decide, by decide⟩ (hfF_87.f hth 5 ⟨by decide, by decide⟩ (hfF_15.f hth 5 ⟨by decide, by decide⟩ (hfF_6.f hth 5 ⟨by decide, by decide⟩ kco)))) ⟨by decide, rfl, by decide⟩ (zm_RX7 (List.mem_of_getElem? (i := 6) rfl)) (fun _ h9 => h9) dX7_readSum_67 ?_
              refine lv_iload_n hx hb dX7_readSum_70 rfl (lv_at hl 0 rfl) ?_
              refine lv_iconst (v := 0) hx hb dX7_readSum_71 (by decide) ?_
              refine lv_iconst (v := 0) hx hb dX7_readSum_72 (by decide) ?_
              refine zk_Vi (As := [.int 4, .int 0, .int 0]) (rest := []) (bytes := cX1_add) (maxL := 4) (ret := (some .int)) Z h (zc_X1_add l D k Γ L F_92 H.size co 4 0 0 hco) (cwV 3 hg zv_RX7_117 rfl rfl rfl zd_X1_add ⟨z_leR hRf (by have := by2_j7_14_20.1; have := by2_j7_14_20.2; have := bd.1; have := bd.2; have := br_74_80.1; have := br_74_80.2; have := br_81.1; have := br_81.2; have := bx_95.1; have := bx_95.2; have := bsz_.1; have := bsz_.2; have := bx_98.1; have := bx_98.2; have := bx_99.1; have := bx_99.2; have := bcc.1; have := bcc.2; have : (0 : Int32).toInt = 0 := (by decide); have : (1 : Int32).toInt = 1 := (by decide); have : (4 : Int32).toInt = 4 := (by decide); have : (43 : Int32).toInt = 43 := (by decide); have : (45 : Int32).toInt = 45 := (by decide); dsimp only; omega), z_leR hRl (by have := by2_j7_14_20.1; have := by2_j7_14_20.2; have := bd.1; have := bd.2; have := br_74_80.1; have := br_74_80.2; have := br_81.1; have := br_81.2; have := bx_95.1; have := bx_95.2; have := bsz_.1; have := bsz_.2; have := bx_98.1; have := bx_98.2; have := bx_99.1; have := bx_99.2; have := bcc.1; have := bcc.2; have : (0 : Int32).toInt = 0 := (by decide); have : (1 : Int32).toInt = 1 := (by decide); have : (4 : Int32).toInt = 4 := (by decide); have : (43 : Int32).toInt = 43 := (by decide); have : (45 : Int32).toInt = 45 := (by decide); dsimp only; omega)⟩) hco (by decide) rfl rfl hl.1 rfl (Nat.le_of_ble_eq_true rfl) dX7_readSum_73 ⟨Nat.zero_le _, Nat.zero_le _⟩ (fun r_100 F_101 H locs w_102 h hfF_101 => ?_)
              obtain ⟨br_100, -⟩ := w_102
              refine lv_pop hx hb dX7_readSum_76 rfl ?_
              obtain ⟨x_103, ex_103, bx_103, tx_103⟩ := z_inc (n := 1) (lo := 1) (hi := 601) by2_j7_14_20 (by decide)
              refine lv_iinc (v := x_103) (lv' := [(2, .int x_103), (3, .int 4), (0, .ref th), (1, .int d)]) hx hb dX7_readSum_77 hl (k := 1) rfl ex_103 (by decide) rfl (fun ls hl => ?_)
              refine lv_goto (tgt := 7) hx hb dX7_readSum_80 (by decide) ?_
              have c1_104 := (c1_97.fr hfF_101 hth (by decide))
              have cc_105 := (cc_97.fr hfF_101 hth (by decide) (zTo_P Bt nt))
              exact ih_j7_14 _ (by have := bx_103.1; have := bx_103.2; have := bd.1; have := bd.2; have := bx_95.1; have := bx_95.2; have := br_74_80.1; have := br_74_80.2; have := br_81.1; have := br_81.2; have := bsz_.1; have := bsz_.2; have := bx_98.1; have := bx_98.2; have := bx_99.1; have := bx_99.2; have := bcc.1; have := bcc.2; have : (1 : Int32).toInt = 1 := (by decide); have : (4 : Int32).toInt = 4 := (by decide); have : (43 : Int32).toInt = 43 := (by decide); have : (45 : Int32).toInt = 45 := (by decide); have := by2_j7_14.1; have := by2_j7_14.2; omega) ls x_103 x_95 σ_97 F_101 H locs (lv_sub hl [0, 2, 3] rfl) (bx_103.w ⟨by decide, by decide⟩) h (((hfF_15.trans hfF_87 (by decide)).trans hfF_92 (by decide)).trans hfF_101 (by decide)) (hfF_101.f hth 11 ⟨by decide, by decide⟩ kx_95) bx_95 (by have := bx_103.1; have := bx_103.2; have := bd.1; have := bd.2; have := bx_95.1; have := bx_95.2; have := br_74_80.1; have := br_74_80.2; have := br_81.1; have := br_81.2; have := bsz_.1; have := bsz_.2; have := bx_98.1; have := bx_98.2; have := bx_99.1; have := bx_99.2; have := bcc.1; have := bcc.2; have : (1 : Int32).toInt = 1 := (by decide); have : (4 : Int32).toInt = 4 := (by decide); have : (43 : Int32).toInt = 43 := (by decide); have : (45 : Int32).toInt = 45 := (by decide); omega) c1_104 rc_97 ss_97 (cc_105.w (by have := bx_103.1; have := bx_103.2; have := bd.1; have := bd.2; have := bx_95.1; have := bx_95.2; have := br_74_80.1; have := br_74_80.2; have := br_81.1; have := br_81.2; have := bsz_.1; have := bsz_.2; have := bx_98.1; have := bx_98.2; have := bx_99.1; have := bx_99.2; have := bcc.1; have := bcc.2; have : (1 : Int32).toInt = 1 := (by decide); have : (4 : Int32).toInt = 4 := (by decide); have : (43 : Int32).toInt = 43 := (by decide); have : (45 : Int32).toInt = 45 := (by decide); omega)) rfl
            · have c_85 := z_eq c_85
              have br_81_106 : zB 43 43 r_81 := zB.eqL (a := 0) (b := 0) c_85 (zBc 43 43 (by decide))
              refine lv_iconst (v := 3) hx hb dX7_readSum_45 (by decide) ?_
              refine lv_goto (tgt := 50) hx hb dX7_readSum_46 (by decide) ?_
              refine lv_istore_n (lv' := [(3, .int 3), (2, .int y2_j7_14), (0, .ref th), (1, .int d)]) hx hb dX7_readSum_50 rfl hl (by decide) rfl (fun ls hl => ?_)
              refine lv_aload_n hx hb dX7_readSum_51 rfl (lv_at hl 2 rfl) ?_
              refine lv_dup hx hb dX7_readSum_52 rfl ?_
              refine zt_getk (t := 7) (C := RX7) (T := TX7) (N := 12) Z h hth zin_7 rfl 6 kx_16 ⟨by decide, rfl, by decide⟩ (zm_RX7 (List.mem_of_getElem? (i := 9) rfl)) (fun _ h9 => h9) dX7_readSum_53 ?_
              refine lv_iconst (v := 1) hx hb dX7_readSum_56 (by decide) ?_
              refine lv_iadd hx hb dX7_readSum_57 ?_
              refine zi_add (lo := 1) (hi := 601) bx_16 (zBc 1 1 (by decide)) (by decide) (fun x_107 bx_107 tx_107 => ?_)
              refine zt_put (t := 7) (C := RX7) (T := TX7) (N := 12) (v := .int x_107) Z h hth zin_7 tyX7 tyX7_ok nmX7 rfl 6 rfl ⟨by decide, rfl⟩ (zm_RX7 (List.mem_of_getElem? (i := 9) rfl)) (fun _ h9 => h9) rfl (zV.i (bx_107.w ⟨by decide, by decide⟩)) rfl rfl dX7_readSum_58 (fun H locs F_108 h hfF_108 kF_108 => ?_)
              have c1_109 : zC1 F_108 th Nt (zadv σ_j7_14) := (zC1.adv (T := zTo Bt nt) c1_j7_14 hfF_108 hth (by decide) kx_16 kF_108 (by have := by2_j7_14_20.1; have := by2_j7_14_20.2; have := bd.1; have := bd.2; have := bx_16.1; have := bx_16.2; have := br_74_80.1; have := br_74_80.2; have := br_81_106.1; have := br_81_106.2; have := bkc_j7_14.1; have := bkc_j7_14.2; have := bsz_.1; have := bsz_.2; have := bx_107.1; have := bx_107.2; have := bx_17.1; have := bx_17.2; have := bcc.1; have := bcc.2; have : (1 : Int32).toInt = 1 := (by decide); have : (3 : Int32).toInt = 3 := (by decide); have : (43 : Int32).toInt = 43 := (by decide); have : (45 : Int32).toInt = 45 := (by decide); omega) hLs_ ⟨by have := by2_j7_14_20.1; have := by2_j7_14_20.2; have := bd.1; have := bd.2; have := bx_16.1; have := bx_16.2; have := br_74_80.1; have := br_74_80.2; have := br_81_106.1; have := br_81_106.2; have := bkc_j7_14.1; have := bkc_j7_14.2; have := bsz_.1; have := bsz_.2; have := bx_107.1; have := bx_107.2; have := bx_17.1; have := bx_17.2; have := bcc.1; have := bcc.2; have : (1 : Int32).toInt = 1 := (by decide); have : (3 : Int32).toInt = 3 := (by decide); have : (43 : Int32).toInt = 43 := (by decide); have : (45 : Int32).toInt = 45 := (by decide); omega, by have := by2_j7_14_20.1; have := by2_j7_14_20.2; have := bd.1; have := bd.2; have := bx_16.1; have := bx_16.2; have := br_74_80.1; have := br_74_80.2; have := br_81_106.1; have := br_81_106.2; have := bkc_j7_14.1; have := bkc_j7_14.2; have := bsz_.1; have := bsz_.2; have := bx_107.1; have := bx_107.2; have := bx_17.1; have := bx_17.2; have := bcc.1; have := bcc.2; have : (1 : Int32).toInt = 1 := (by decide); have : (3 : Int32).toInt = 3 := (by decide); have : (43 : Int32).toInt = 43 := (by decide); have : (45 : Int32).toInt = 45 := (by decide); omega⟩)
              have rc_109 : zRc (zTo Bt nt) σ [(13, d.toInt.toNat, 0, 0)] (zadv σ_j7_14) [(15, d.toInt.toNat, 0, 0), (14, d.toInt.toNat, 0, 0)] := zRc.sumT1 (N := Nt) rc_j7_14 (by have := by2_j7_14_20.1; have := by2_j7_14_20.2; have := bd.1; have := bd.2; have := br_74_80.1; have := br_74_80.2; have := br_81_106.1; have := br_81_106.2; have := bkc_j7_14.1; have := bkc_j7_14.2; have := bsz_.1; have := bsz_.2; have := bx_107.1; have := bx_107.2; have := bx_17.1; have := bx_17.2; have := bcc.1; have := bcc.2; have : (1 : Int32).toInt = 1 := (by decide); have : (3 : Int32).toInt = 3 := (by decide); have : (43 : Int32).toInt = 43 := (by decide); have : (45 : Int32).toInt = 45 := (by decide); omega)
              have st_109 : zss σ_j7_14 (zadv σ_j7_14) := zsm.adv.ss
              have ss_109 : zss σ (zadv σ_j7_14) := ss_j7_14.trans st_109
              have cc_109 : zCc Γ F F_108 th (zTo Bt nt) σ (zadv σ_j7_14) (d.toInt) := (cc_j7_14.mv hfF_108 hth (by decide) (zTo_P Bt nt) zsm.adv.cs)
              generalize hσ_109 : zadv σ_j7_14 = σ_109 at c1_109 rc_109 st_109 ss_109 cc_109
              obtain ⟨⟨x_110, kx_110, nx_110⟩, ⟨x_111, kx_111, nx_111⟩, ox_110⟩ := id c1_109
              have gx_110 := zC1.nx c1_109 hLs_.1 kx_110
              have bx_110 : zB 0 600 x_110 := ⟨by omega, by have := hLs_.2.1; omega⟩
              have bx_111 := zB.all x_111
              have vx_110 := congrArg Int32.toInt (z_same kF_108 kx_110)
              have mo_109 := zss.nx st_109 ox_16 ox_110
              refine lv_aload_n hx hb dX7_readSum_61 rfl (lv_at hl 2 rfl) ?_
              refine lv_iload_n hx hb dX7_readSum_62 rfl (lv_at hl 3 rfl) ?_
              have p_112 := (p_21.fr hfF_108 htk (by decide))
              refine zk_Vv (As := [.int d]) (rest := []) (bytes := cX7_readTerm) (maxL := 3) (ret := none) Z h (ze_X7_readTerm l D k Γ L F_108 H.size th d pr tk co Bt nt Nt kc_j7_14 σ_109 nv hth bd (hfF_108.f hth 3 ⟨by decide, by decide⟩ (hfF_15.f hth 3 ⟨by decide, by decide⟩ (hfF_6.f hth 3 ⟨by decide, by decide⟩ kpr))) hpr (hfF_108.f hth 4 ⟨by decide, by decide⟩ (hfF_15.f hth 4 ⟨by decide, by decide⟩ (hfF_6.f hth 4 ⟨by decide, by decide⟩ ktk))) htk (hfF_108.f hth 5 ⟨by decide, by decide⟩ (hfF_15.f hth 5 ⟨by decide, by decide⟩ (hfF_6.f hth 5 ⟨by decide, by decide⟩ kco))) hco p_112 (hfF_108.f hth 11 ⟨by decide, by decide⟩ hkc_j7_14) bkc_j7_14 c1_109 (zCc.m (cc_109.w (dep' := d.toInt) (by have := by2_j7_14_20.1; have := by2_j7_14_20.2; have := bd.1; have := bd.2; have := bkc_j7_14.1; have := bkc_j7_14.2; have := br_74_80.1; have := br_74_80.2; have := br_81_106.1; have := br_81_106.2; have := bsz_.1; have := bsz_.2; have := bx_110.1; have := bx_110.2; have := bx_111.1; have := bx_111.2; have := bcc.1; have := bcc.2; have : (1 : Int32).toInt = 1 := (by decide); have : (3 : Int32).toInt = 3 := (by decide); have : (43 : Int32).toInt = 43 := (by decide); have : (45 : Int32).toInt = 45 := (by decide); omega)) (hfF_108.f hth 11 ⟨by decide, by decide⟩ hkc_j7_14)) (by have := by2_j7_14_20.1; have := by2_j7_14_20.2; have := bd.1; have := bd.2; have := bkc_j7_14.1; have := bkc_j7_14.2; have := br_74_80.1; have := br_74_80.2; have := br_81_106.1; have := br_81_106.2; have := bsz_.1; have := bsz_.2; have := bx_110.1; have := bx_110.2; have := bx_111.1; have := bx_111.2; have := bcc.1; have := bcc.2; have : (1 : Int32).toInt = 1 := (by decide); have : (3 : Int32).toInt = 3 := (by decide); have : (43 : Int32).toInt = 43 := (by decide); have : (45 : Int32).toInt = 45 := (by decide); omega) hrec) (cwV 1 hg zv_RX7_179 rfl rfl rfl zd_X7_readTerm ⟨z_leR hRf (by have := by2_j7_14_20.1; have := by2_j7_14_20.2; have := bd.1; have := bd.2; have := br_74_80.1; have := br_74_80.2; have := br_81_106.1; have := br_81_106.2; have := bkc_j7_14.1; have := bkc_j7_14.2; have := bsz_.1; have := bsz_.2; have := bx_110.1; have := bx_110.2; have := bx_111.1; have := bx_111.2; have := bcc.1; have := bcc.2; have : (1 : Int32).toInt = 1 := (by decide); have : (3 : Int32).toInt = 3 := (by decide); have : (43 : Int32).toInt = 43 := (by decide); have : (45 : Int32).toInt = 45 := (by decide); dsimp only; omega), z_leR hRl (by have := by2_j7_14_20.1; have := by2_j7_14_20.2; have := bd.1; have := bd.2; have := br_74_80.1; have := br_74_80.2; have := br_81_106.1; have := br_81_106.2; have := bkc_j7_14.1; have := bkc_j7_14.2; have := bsz_.1; have := bsz_.2; have := bx_110.1; have := bx_110.2; have := bx_111.1; have := bx_111.2; have := bcc.1; have := bcc.2; have : (1 : Int32).toInt = 1 := (by decide); have : (3 : Int32).toInt = 3 := (by decide); have : (43 : Int32).toInt = 43 := (by decide); have : (45 : Int32).toInt = 45 := (by decide); dsimp only; omega)⟩) hth (by decide) rfl rfl hl.1 rfl (Nat.le_of_ble_eq_true rfl) dX7_readSum_63 ⟨Nat.zero_le _, Nat.zero_le _⟩ (fun F_113 H locs w_114 h hfF_113 => ?_)
              obtain ⟨⟨x_116, kx_116, bx_116, q_115⟩, ⟨σ_118, c1_118, rn_118, st_118, cn_118⟩, -⟩ := w_114
              have rc_118 : zRc (zTo Bt nt) σ [(13, d.toInt.toNat, 0, 0)] σ_118 [(14, d.toInt.toNat, 0, 0)] := zRc.calls rc_109 (rn_118.x (zSy_eq (by have := by2_j7_14_20.1; have := by2_j7_14_20.2; have := bd.1; have := bd.2; have := bkc_j7_14.1; have := bkc_j7_14.2; have := bx_116.1; have := bx_116.2; have := br_74_80.1; have := br_74_80.2; have := br_81_106.1; have := br_81_106.2; have := bsz_.1; have := bsz_.2; have := bcc.1; have := bcc.2; have : (1 : Int32).toInt = 1 := (by decide); have : (3 : Int32).toInt = 3 := (by decide); have : (43 : Int32).toInt = 43 := (by decide); have : (45 : Int32).toInt = 45 := (by decide); omega) (by have := by2_j7_14_20.1; have := by2_j7_14_20.2; have := bd.1; have := bd.2; have := bkc_j7_14.1; have := bkc_j7_14.2; have := bx_116.1; have := bx_116.2; have := br_74_80.1; have := br_74_80.2; have := br_81_106.1; have := br_81_106.2; have := bsz_.1; have := bsz_.2; have := bcc.1; have := bcc.2; have : (1 : Int32).toInt = 1 := (by decide); have : (3 : Int32).toInt = 3 := (by decide); have : (43 : Int32).toInt = 43 := (by decide); have : (45 : Int32).toInt = 45 := (by decide); omega) (by have := by2_j7_14_20.1; have := by2_j7_14_20.2; have := bd.1; have := bd.2; have := bkc_j7_14.1; have := bkc_j7_14.2; have := bx_116.1; have := bx_116.2; have := br_74_80.1; have := br_74_80.2; have := br_81_106.1; have := br_81_106.2; have := bsz_.1; have := bsz_.2; have := bcc.1; have := bcc.2; have : (1 : Int32).toInt = 1 := (by decide); have : (3 : Int32).toInt = 3 := (by decide); have : (43 : Int32).toInt = 43 := (by decide); have : (45 : Int32).toInt = 45 := (by decide); omega)))
              have ss_118 : zss σ σ_118 := ss_109.trans st_118
              have cc_118 : zCc Γ F F_113 th (zTo Bt nt) σ (σ_118) (d.toInt) := zCc.call cc_109 cn_118
              obtain ⟨⟨x_119, kx_119, nx_119⟩, ⟨x_120, kx_120, nx_120⟩, ox_119⟩ := id c1_118
              have gx_119 := zC1.nx c1_118 hLs_.1 kx_119
              have bx_119 : zB 0 600 x_119 := ⟨by omega, by have := hLs_.2.1; omega⟩
              have bx_120 := zB.all x_120
              have mo_118 := zss.nx st_118 ox_110 ox_119
              refine lv_aload_n hx hb dX7_readSum_66 rfl (lv_at hl 2 rfl) ?_
              refine zt_getk (t := 7) (C := RX7) (T := TX7) (N := 12) Z h hth zin_7 rfl 5 (hfF_113.f hth 5 ⟨by decide, by decide⟩ (hfF_108.f hth 5 ⟨by decide, by decide⟩ (hfF_15.f hth 5 ⟨by decide, by decide⟩ (hfF_6.f hth 5 ⟨by decide, by decide⟩ kco)))) ⟨by decide, rfl, by decide⟩ (zm_RX7 (List.mem_of_getElem? (i := 6) rfl)) (fun _ h9 => h9) dX7_readSum_67 ?_
              refine lv_iload_n hx hb dX7_readSum_70 rfl (lv_at hl 0 rfl) ?_
              refine lv_iconst (v := 0) hx hb dX7_readSum_71 (by decide) ?_
              refine lv_iconst (v := 0) hx hb dX7_readSum_72 (by decide) ?_
              refine zk_Vi (As := [.int 3, .int 0, .int 0]) (rest := []) (bytes := cX1_add) (maxL := 4) (ret := (some .int)) Z h (zc_X1_add l D k Γ L F_113 H.size co 3 0 0 hco) (cwV 3 hg zv_RX7_117 rfl rfl rfl zd_X1_add ⟨z_leR hRf (by have := by2_j7_14_20.1; have := by2_j7_14_20.2; have := bd.1; have := bd.2; have := br_74_80.1; have := br_74_80.2; have := br_81_106.1; have := br_81_106.2; have := bx_116.1; have := bx_116.2; have := bsz_.1; have := bsz_.2; have := bx_119.1; have := bx_119.2; have := bx_120.1; have := bx_120.2; have := bcc.1; have := bcc.2; have : (0 : Int32).toInt = 0 := (by decide); have : (1 : Int32).toInt = 1 := (by decide); have : (3 : Int32).toInt = 3 := (by decide); have : (43 : Int32).toInt = 43 := (by decide); have : (45 : Int32).toInt = 45 := (by decide); dsimp only; omega), z_leR hRl (by have := by2_j7_14_20.1; have := by2_j7_14_20.2; have := bd.1; have := bd.2; have := br_74_80.1; have := br_74_80.2; have := br_81_106.1; have := br_81_106.2; have := bx_116.1; have := bx_116.2; have := bsz_.1; have := bsz_.2; have := bx_119.1; have := bx_119.2; have := bx_120.1; have := bx_120.2; have := bcc.1; have := bcc.2; have : (0 : Int32).toInt = 0 := (by decide); have : (1 : Int32).toInt = 1 := (by decide); have : (3 : Int32).toInt = 3 := (by decide); have : (43 : Int32).toInt = 43 := (by decide); have : (45 : Int32).toInt = 45 := (by decide); dsimp only; omega)⟩) hco (by decide) rfl rfl hl.1 rfl (Nat.le_of_ble_eq_true rfl) dX7_readSum_73 ⟨Nat.zero_le _, Nat.zero_le _⟩ (fun r_121 F_122 H locs w_123 h hfF_122 => ?_)
              obtain ⟨br_121, -⟩ := w_123
              refine lv_pop hx hb dX7_readSum_76 rfl ?_
              obtain ⟨x_124, ex_124, bx_124, tx_124⟩ := z_inc (n := 1) (lo := 1) (hi := 601) by2_j7_14_20 (by decide)
              refine lv_iinc (v := x_124) (lv' := [(2, .int x_124), (3, .int 3), (0, .ref th), (1, .int d)]) hx hb dX7_readSum_77 hl (k := 1) rfl ex_124 (by decide) rfl (fun ls hl => ?_)
              refine lv_goto (tgt := 7) hx hb dX7_readSum_80 (by decide) ?_
              have c1_125 := (c1_118.fr hfF_122 hth (by decide))
              have cc_126 := (cc_118.fr hfF_122 hth (by decide) (zTo_P Bt nt))
              exact ih_j7_14 _ (by have := bx_124.1; have := bx_124.2; have := bd.1; have := bd.2; have := bx_116.1; have := bx_116.2; have := br_74_80.1; have := br_74_80.2; have := br_81_106.1; have := br_81_106.2; have := bsz_.1; have := bsz_.2; have := bx_119.1; have := bx_119.2; have := bx_120.1; have := bx_120.2; have := bcc.1; have := bcc.2; have : (1 : Int32).toInt = 1 := (by decide); have : (3 : Int32).toInt = 3 := (by decide); have : (43 : Int32).toInt = 43 := (by decide); have : (45 : Int32).toInt = 45 := (by decide); have := by2_j7_14.1; have := by2_j7_14.2; omega) ls x_124 x_116 σ_118 F_122 H locs (lv_sub hl [0, 2, 3] rfl) (bx_124.w ⟨by decide, by decide⟩) h (((hfF_15.trans hfF_108 (by decide)).trans hfF_113 (by decide)).trans hfF_122 (by decide)) (hfF_122.f hth 11 ⟨by decide, by decide⟩ kx_116) bx_116 (by have := bx_124.1; have := bx_124.2; have := bd.1; have := bd.2; have := bx_116.1; have := bx_116.2; have := br_74_80.1; have := br_74_80.2; have := br_81_106.1; have := br_81_106.2; have := bsz_.1; have := bsz_.2; have := bx_119.1; have := bx_119.2; have := bx_120.1; have := bx_120.2; have := bcc.1; have := bcc.2; have : (1 : Int32).toInt = 1 := (by decide); have : (3 : Int32).toInt = 3 := (by decide); have : (43 : Int32).toInt = 43 := (by decide); have : (45 : Int32).toInt = 45 := (by decide); omega) c1_125 rc_118 ss_118 (cc_126.w (by have := bx_124.1; have := bx_124.2; have := bd.1; have := bd.2; have := bx_116.1; have := bx_116.2; have := br_74_80.1; have := br_74_80.2; have := br_81_106.1; have := br_81_106.2; have := bsz_.1; have := bsz_.2; have := bx_119.1; have := bx_119.2; have := bx_120.1; have := bx_120.2; have := bcc.1; have := bcc.2; have : (1 : Int32).toInt = 1 := (by decide); have : (3 : Int32).toInt = 3 := (by decide); have : (43 : Int32).toInt = 43 := (by decide); have : (45 : Int32).toInt = 45 := (by decide); omega)) rfl
  exact j_j7_14 _ ls 0 x_9 σ_11 F_6 H locs (lv_sub hl [0, 1, 2] rfl) (zB.of ⟨by decide, by decide⟩) h zFr.rf kx_9 bx_9 (by have := bd.1; have := bd.2; have := bx_9.1; have := bx_9.2; have := bsz_.1; have := bsz_.2; have := bx_12.1; have := bx_12.2; have := bx_13.1; have := bx_13.2; have := bcc.1; have := bcc.2; have : (0 : Int32).toInt = 0 := (by decide); omega) c1_11 rc_11 ss_11 (cc_11.w (by have := bd.1; have := bd.2; have := bx_9.1; have := bx_9.2; have := bsz_.1; have := bsz_.2; have := bx_12.1; have := bx_12.2; have := bx_13.1; have := bx_13.2; have := bcc.1; have := bcc.2; have : (0 : Int32).toInt = 0 := (by decide); omega)) rfl

theorem zs_sum (l : Launch) : ∀ nv : Nat, zR_sum l nv := by
  intro nv
  induction nv with
  | zero => exact fun D k Γ L F sz th d pr tk co Bt nt Nt cc σ hth bd kpr hpr ktk htk kco hco p_tb kcc bcc p_au hm_ hr0 => ze_X7_readSum l D k Γ L F sz th d pr tk co Bt nt Nt cc σ 0 hth bd kpr hpr ktk htk kco hco p_tb kcc bcc p_au hm_ hr0 (fun q h9 => by omega)
  | succ nv ih => exact fun D k Γ L F sz th d pr tk co Bt nt Nt cc σ hth bd kpr hpr ktk htk kco hco p_tb kcc bcc p_au hm_ hr0 => ze_X7_readSum l D k Γ L F sz th d pr tk co Bt nt Nt cc σ (nv + 1) hth bd kpr hpr ktk htk kco hco p_tb kcc bcc p_au hm_ hr0 (fun q h9 => by cases (show nv = q by omega); exact ih)

set_option maxHeartbeats 4000000 in
set_option maxRecDepth 100000 in
theorem ze_X7_readTest (l : Launch) (D : va_G) (k : Nat → ClassId) (Γ : Nat → Option Nat) (L : List Nat) (F : Nat → va_E) (sz : Nat) (th : Nat) (pr : Nat) (tk : Nat) (co : Nat) (Bt : Nat → Int32) (nt : Nat) (Nt : Nat) (cc : Int32) (σ : zSg) (hth : Γ th = some 7) (kpr : zfld F th 3 = .ref pr) (hpr : Γ pr = some 6) (ktk : zfld F th 4 = .ref tk) (htk : Γ tk = some 8) (kco : zfld F th 5 = .ref co) (hco : Γ co = some 1) (p_tb : zTb Γ F tk Bt nt Nt) (kcc : zfld F th 11 = .int cc) (bcc : zB 0 150 cc) (p_au : zC1 F th Nt (σ)) (hm_ : ∀ i d9, σ = .inl (i, d9) → 4 * cc.toInt + 5 ≤ zpo Bt nt i + (0)) : Met l yX7_readTest zwX7_readTest ({ frames := 70, cells := 0, slots := 0, locals := 2723 }) (va_Pc [.ref th] (zP D k Γ L F sz)) (va_Qv (fun (u : Nat → va_E) => (∃ (c9 : Int32), zfld u th 11 = .int c9 ∧ zB 0 150 c9 ∧ (0 ≤ c9.toInt)) ∧ (∃ σ9 : zSg, zC1 u th Nt σ9 ∧ zRc (zTo Bt nt) σ [(11, 0, 0, 0)] σ9 [] ∧ zss σ σ9 ∧ zCc Γ F u th (zTo Bt nt) σ σ9 (0)) ∧ True) (zQ D k Γ L F [103, 701, 702, 706, 711, 10200, 10600, 10700, 15800, 15900, 16000, 16100]) (zA L sz)) 0 0 (zA L sz) := by
  refine Met.ofW (cc := cX7_readTest) (maxL := 2) (ret := none) (by decide) rfl ?_
  intro p e s m args below meth c s₁ B hml hv
  obtain ⟨rfl, hsz, hP, hK, hLn, hE, hI⟩ := hv
  have hx := B.exec
  have hb := B.bytes
  have hr := B.returns
  have hg : ∀ w ∈ zG, w.before _ s = true := fun w h9 => atoms_spec (ws := zwX7_readTest) B.pre w (List.mem_cons_of_mem _ h9)
  have hown : s.vm.findClass RX7 = some m.cls := findClass_of_methodNamed B.named
  have hlocks := B.notSynchronized
  subst hsz
  have Z : zC p m c cX7_readTest 2 s _ zG RX7 D k L := ⟨⟨hx, hb, hml, hown, hg⟩, hK, hLn, hE⟩
  have h : zH D k Γ L s F s.heap [] := ⟨hP, hI, va_S.rf⟩
  have hl := lv_entry ([.ref th]) (n := 2) (Nat.le_of_ble_eq_true rfl)
  rw [lg_entry_eq]
  generalize (lg_sl ([.ref th]) ++ List.replicate (2 - (lg_sl ([.ref th])).length) Slot.unset).toArray = ls at hl ⊢
  have hl : lv_has ls 2 [(0, .ref th)] := hl
  clear hP hK hLn hE hI
  generalize hargs : ([.ref th] : List Value).toArray = args at *
  refine z_start (fun R Q hRf hRl hQ => ?_)
  have hRf : R.frames = 70 := hRf
  have hRl : R.locals = 2723 := hRl
  have h9 := h
  have hLs_ := p_tb.2.2.2.1
  obtain ⟨sz_, ksz_, tsz_⟩ := p_tb.2.2.1
  have bsz_ : zB 1 601 sz_ := ⟨by have := hLs_.1; omega, by have := hLs_.2.1; omega⟩
  obtain ⟨⟨x_1, kx_1, nx_1⟩, ⟨x_2, kx_2, nx_2⟩, ox_1⟩ := id p_au
  have gx_1 := zC1.nx p_au hLs_.1 kx_1
  have bx_1 : zB 0 600 x_1 := ⟨by omega, by have := hLs_.2.1; omega⟩
  have bx_2 := zB.all x_2
  have ad_3 := z_ad (j := 7) (c := 106) h.2.1 hth (by decide) rfl
  have ad_4 := z_ad (j := 8) (c := 107) h.2.1 hth (by decide) rfl
  have cc0_ : zCc Γ F F th (zTo Bt nt) σ σ (0) := zCc.rf kcc bcc.1 ⟨ad_3, ad_4⟩ hm_
  have rc0_ : zRc (zTo Bt nt) σ [(11, 0, 0, 0)] σ [(11, 0, 0, 0)] := zRc.rf
  have ss0_ : zss σ σ := zss.rf
  have rc_5 : zRc (zTo Bt nt) σ [(11, 0, 0, 0)] σ [(13, 0, 0, 0), (12, 0, 0, 0), (13, 0, 0, 0)] := zRc.test rc0_
  refine lv_aload_n hx hb dX7_readTest_0 rfl (lv_at hl 0 rfl) ?_
  refine lv_iconst (v := 0) hx hb dX7_readTest_1 (by decide) ?_
  refine zk_Vv (As := [.int 0]) (rest := []) (bytes := cX7_readSum) (maxL := 4) (ret := none) Z h (zs_sum l 6 D k Γ L F s.heap.size th 0 pr tk co Bt nt Nt cc σ  hth (zB.of ⟨by decide, by decide⟩) kpr hpr ktk htk kco hco p_tb kcc bcc p_au (zCc.m (cc0_.w (dep' := (0 : Int32).toInt) (by have := bcc.1; have := bcc.2; have := bsz_.1; have := bsz_.2; have := bx_1.1; have := bx_1.2; have := bx_2.1; have := bx_2.2; have : (0 : Int32).toInt = 0 := (by decide); omega)) kcc) (by have := bcc.1; have := bcc.2; have := bsz_.1; have := bsz_.2; have := bx_1.1; have := bx_1.2; have := bx_2.1; have := bx_2.2; have : (0 : Int32).toInt = 0 := (by decide); omega)) (cwV 1 hg zv_RX7_161 rfl rfl rfl zd_X7_readSum ⟨z_leR hRf (by decide), z_leR hRl (by decide)⟩) hth (by decide) rfl rfl hl.1 rfl (Nat.le_of_ble_eq_true rfl) dX7_readTest_2 ⟨Nat.zero_le _, Nat.zero_le _⟩ (fun F_6 H locs w_7 h hfF_6 => ?_)
  obtain ⟨⟨x_9, kx_9, bx_9, q_8⟩, ⟨σ_11, c1_11, rn_11, st_11, cn_11⟩, -⟩ := w_7
  have rc_11 : zRc (zTo Bt nt) σ [(11, 0, 0, 0)] σ_11 [(12, 0, 0, 0), (13, 0, 0, 0)] := zRc.calls rc_5 (rn_11.x (zSy_eq (by have := bcc.1; have := bcc.2; have := bx_9.1; have := bx_9.2; have := bsz_.1; have := bsz_.2; have : (0 : Int32).toInt = 0 := (by decide); omega) (by have := bcc.1; have := bcc.2; have := bx_9.1; have := bx_9.2; have := bsz_.1; have := bsz_.2; have : (0 : Int32).toInt = 0 := (by decide); omega) (by have := bcc.1; have := bcc.2; have := bx_9.1; have := bx_9.2; have := bsz_.1; have := bsz_.2; have : (0 : Int32).toInt = 0 := (by decide); omega)))
  have ss_11 : zss σ σ_11 := ss0_.trans st_11
  have cc_11 : zCc Γ F F_6 th (zTo Bt nt) σ (σ_11) ((0 : Int32).toInt) := zCc.call cc0_ cn_11
  obtain ⟨⟨x_12, kx_12, nx_12⟩, ⟨x_13, kx_13, nx_13⟩, ox_12⟩ := id c1_11
  have gx_12 := zC1.nx c1_11 hLs_.1 kx_12
  have bx_12 : zB 0 600 x_12 := ⟨by omega, by have := hLs_.2.1; omega⟩
  have bx_13 := zB.all x_13
  have mo_11 := zss.nx st_11 ox_1 ox_12
  refine lv_aload_n hx hb dX7_readTest_5 rfl (lv_at hl 0 rfl) ?_
  have p_14 := (p_tb.fr hfF_6 htk (by decide))
  refine zk_Vi (As := []) (rest := []) (bytes := cX7_kind) (maxL := 2) (ret := (some .int)) Z h (ze_X7_kind l D k Γ L F_6 H.size th tk Bt nt Nt σ_11 hth (hfF_6.f hth 4 ⟨by decide, by decide⟩ ktk) htk p_14 c1_11) (cwV 0 hg zv_RX7_65 rfl rfl rfl zd_X7_kind ⟨z_leR hRf (by decide), z_leR hRl (by decide)⟩) hth (by decide) rfl rfl hl.1 rfl (Nat.le_of_ble_eq_true rfl) dX7_readTest_6 ⟨Nat.zero_le _, Nat.zero_le _⟩ (fun r_15 F_16 H locs w_17 h hfF_16 => ?_)
  obtain ⟨rfl, q_18, -⟩ := w_17
  have br_15 := zB.all r_15
  refine lv_istore_n (lv' := [(1, .int r_15), (0, .ref th)]) hx hb dX7_readTest_9 rfl hl (by decide) rfl (fun ls hl => ?_)
  refine lv_iload_n hx hb dX7_readTest_10 rfl (lv_at hl 0 rfl) ?_
  refine lv_bipush (v := 60) hx hb dX7_readTest_11 (by decide) ?_
  refine lv_icmp_eq (tgt := 34) hx hb dX7_readTest_13 (by decide) (fun c_19 => ?_) (fun c_19 => ?_)
  · have c_19 := z_eq c_19
    have br_15_20 : zB 60 60 r_15 := zB.eqL (a := 0) (b := 0) c_19 (zBc 60 60 (by decide))
    refine lv_aload_n hx hb dX7_readTest_34 rfl (lv_at hl 1 rfl) ?_
    refine lv_dup hx hb dX7_readTest_35 rfl ?_
    refine zt_getk (t := 7) (C := RX7) (T := TX7) (N := 12) Z h hth zin_7 rfl 6 kx_12 ⟨by decide, rfl, by decide⟩ (zm_RX7 (List.mem_of_getElem? (i := 9) rfl)) (fun _ h9 => h9) dX7_readTest_36 ?_
    refine lv_iconst (v := 1) hx hb dX7_readTest_39 (by decide) ?_
    refine lv_iadd hx hb dX7_readTest_40 ?_
    refine zi_add (lo := 1) (hi := 601) bx_12 (zBc 1 1 (by decide)) (by decide) (fun x_21 bx_21 tx_21 => ?_)
    refine zt_put (t := 7) (C := RX7) (T := TX7) (N := 12) (v := .int x_21) Z h hth zin_7 tyX7 tyX7_ok nmX7 rfl 6 rfl ⟨by decide, rfl⟩ (zm_RX7 (List.mem_of_getElem? (i := 9) rfl)) (fun _ h9 => h9) rfl (zV.i (bx_21.w ⟨by decide, by decide⟩)) rfl rfl dX7_readTest_41 (fun H locs F_22 h hfF_22 kF_22 => ?_)
    have c1_23 : zC1 F_22 th Nt (zadv σ_11) := (zC1.adv (T := zTo Bt nt) c1_11 hfF_22 hth (by decide) kx_12 kF_22 (by have := br_15_20.1; have := br_15_20.2; have := bx_12.1; have := bx_12.2; have := bx_9.1; have := bx_9.2; have := bsz_.1; have := bsz_.2; have := bx_21.1; have := bx_21.2; have := bx_13.1; have := bx_13.2; have := bcc.1; have := bcc.2; have : (0 : Int32).toInt = 0 := (by decide); have : (1 : Int32).toInt = 1 := (by decide); have : (60 : Int32).toInt = 60 := (by decide); omega) hLs_ ⟨by have := br_15_20.1; have := br_15_20.2; have := bx_12.1; have := bx_12.2; have := bx_9.1; have := bx_9.2; have := bsz_.1; have := bsz_.2; have := bx_21.1; have := bx_21.2; have := bx_13.1; have := bx_13.2; have := bcc.1; have := bcc.2; have : (0 : Int32).toInt = 0 := (by decide); have : (1 : Int32).toInt = 1 := (by decide); have : (60 : Int32).toInt = 60 := (by decide); omega, by have := br_15_20.1; have := br_15_20.2; have := bx_12.1; have := bx_12.2; have := bx_9.1; have := bx_9.2; have := bsz_.1; have := bsz_.2; have := bx_21.1; have := bx_21.2; have := bx_13.1; have := bx_13.2; have := bcc.1; have := bcc.2; have : (0 : Int32).toInt = 0 := (by decide); have : (1 : Int32).toInt = 1 := (by decide); have : (60 : Int32).toInt = 60 := (by decide); omega⟩)
    have rc_23 : zRc (zTo Bt nt) σ [(11, 0, 0, 0)] (zadv σ_11) [(13, 0, 0, 0)] := zRc.sign1 (N := Nt) rc_11 (by have := br_15_20.1; have := br_15_20.2; have := bx_9.1; have := bx_9.2; have := bsz_.1; have := bsz_.2; have := bx_21.1; have := bx_21.2; have := bx_13.1; have := bx_13.2; have := bcc.1; have := bcc.2; have : (0 : Int32).toInt = 0 := (by decide); have : (1 : Int32).toInt = 1 := (by decide); have : (60 : Int32).toInt = 60 := (by decide); omega)
    have st_23 : zss σ_11 (zadv σ_11) := zsm.adv.ss
    have ss_23 : zss σ (zadv σ_11) := ss_11.trans st_23
    have cc_23 : zCc Γ F F_22 th (zTo Bt nt) σ (zadv σ_11) ((0 : Int32).toInt) := (cc_11.mv hfF_22 hth (by decide) (zTo_P Bt nt) zsm.adv.cs)
    generalize hσ_23 : zadv σ_11 = σ_23 at c1_23 rc_23 st_23 ss_23 cc_23
    obtain ⟨⟨x_24, kx_24, nx_24⟩, ⟨x_25, kx_25, nx_25⟩, ox_24⟩ := id c1_23
    have gx_24 := zC1.nx c1_23 hLs_.1 kx_24
    have bx_24 : zB 0 600 x_24 := ⟨by omega, by have := hLs_.2.1; omega⟩
    have bx_25 := zB.all x_25
    have vx_24 := congrArg Int32.toInt (z_same kF_22 kx_24)
    have mo_23 := zss.nx st_23 ox_12 ox_24
    refine lv_aload_n hx hb dX7_readTest_44 rfl (lv_at hl 1 rfl) ?_
    refine lv_iconst (v := 0) hx hb dX7_readTest_45 (by decide) ?_
    have p_26 := (p_14.fr hfF_22 htk (by decide))
    refine zk_Vv (As := [.int 0]) (rest := []) (bytes := cX7_readSum) (maxL := 4) (ret := none) Z h (zs_sum l 6 D k Γ L F_22 H.size th 0 pr tk co Bt nt Nt x_9 σ_23  hth (zB.of ⟨by decide, by decide⟩) (hfF_22.f hth 3 ⟨by decide, by decide⟩ (hfF_6.f hth 3 ⟨by decide, by decide⟩ kpr)) hpr (hfF_22.f hth 4 ⟨by decide, by decide⟩ (hfF_6.f hth 4 ⟨by decide, by decide⟩ ktk)) htk (hfF_22.f hth 5 ⟨by decide, by decide⟩ (hfF_6.f hth 5 ⟨by decide, by decide⟩ kco)) hco p_26 (hfF_22.f hth 11 ⟨by decide, by decide⟩ kx_9) bx_9 c1_23 (zCc.m (cc_23.w (dep' := (0 : Int32).toInt) (by have := br_15_20.1; have := br_15_20.2; have := bx_9.1; have := bx_9.2; have := bsz_.1; have := bsz_.2; have := bx_24.1; have := bx_24.2; have := bx_25.1; have := bx_25.2; have := bcc.1; have := bcc.2; have : (0 : Int32).toInt = 0 := (by decide); have : (1 : Int32).toInt = 1 := (by decide); have : (60 : Int32).toInt = 60 := (by decide); omega)) (hfF_22.f hth 11 ⟨by decide, by decide⟩ kx_9)) (by have := br_15_20.1; have := br_15_20.2; have := bx_9.1; have := bx_9.2; have := bsz_.1; have := bsz_.2; have := bx_24.1; have := bx_24.2; have := bx_25.1; have := bx_25.2; have := bcc.1; have := bcc.2; have : (0 : Int32).toInt = 0 := (by decide); have : (1 : Int32).toInt = 1 := (by decide); have : (60 : Int32).toInt = 60 := (by decide); omega)) (cwV 1 hg zv_RX7_161 rfl rfl rfl zd_X7_readSum ⟨z_leR hRf (by decide), z_leR hRl (by decide)⟩) hth (by decide) rfl rfl hl.1 rfl (Nat.le_of_ble_eq_true rfl) dX7_readTest_46 ⟨Nat.zero_le _, Nat.zero_le _⟩ (fun F_27 H locs w_28 h hfF_27 => ?_)
    obtain ⟨⟨x_30, kx_30, bx_30, q_29⟩, ⟨σ_32, c1_32, rn_32, st_32, cn_32⟩, -⟩ := w_28
    have rc_32 : zRc (zTo Bt nt) σ [(11, 0, 0, 0)] σ_32 [] := zRc.calls rc_23 (rn_32.x (zSy_eq (by have := br_15_20.1; have := br_15_20.2; have := bx_9.1; have := bx_9.2; have := bx_30.1; have := bx_30.2; have := bsz_.1; have := bsz_.2; have := bcc.1; have := bcc.2; have : (0 : Int32).toInt = 0 := (by decide); have : (1 : Int32).toInt = 1 := (by decide); have : (60 : Int32).toInt = 60 := (by decide); omega) (by have := br_15_20.1; have := br_15_20.2; have := bx_9.1; have := bx_9.2; have := bx_30.1; have := bx_30.2; have := bsz_.1; have := bsz_.2; have := bcc.1; have := bcc.2; have : (0 : Int32).toInt = 0 := (by decide); have : (1 : Int32).toInt = 1 := (by decide); have : (60 : Int32).toInt = 60 := (by decide); omega) (by have := br_15_20.1; have := br_15_20.2; have := bx_9.1; have := bx_9.2; have := bx_30.1; have := bx_30.2; have := bsz_.1; have := bsz_.2; have := bcc.1; have := bcc.2; have : (0 : Int32).toInt = 0 := (by decide); have : (1 : Int32).toInt = 1 := (by decide); have : (60 : Int32).toInt = 60 := (by decide); omega)))
    have ss_32 : zss σ σ_32 := ss_23.trans st_32
    have cc_32 : zCc Γ F F_27 th (zTo Bt nt) σ (σ_32) ((0 : Int32).toInt) := zCc.call cc_23 cn_32
    obtain ⟨⟨x_33, kx_33, nx_33⟩, ⟨x_34, kx_34, nx_34⟩, ox_33⟩ := id c1_32
    have gx_33 := zC1.nx c1_32 hLs_.1 kx_33
    have bx_33 : zB 0 600 x_33 := ⟨by omega, by have := hLs_.2.1; omega⟩
    have bx_34 := zB.all x_34
    have mo_32 := zss.nx st_32 ox_24 ox_33
    refine lv_aload_n hx hb dX7_readTest_49 rfl (lv_at hl 1 rfl) ?_
    refine zt_getk (t := 7) (C := RX7) (T := TX7) (N := 12) Z h hth zin_7 rfl 5 (hfF_27.f hth 5 ⟨by decide, by decide⟩ (hfF_22.f hth 5 ⟨by decide, by decide⟩ (hfF_6.f hth 5 ⟨by decide, by decide⟩ kco))) ⟨by decide, rfl, by decide⟩ (zm_RX7 (List.mem_of_getElem? (i := 6) rfl)) (fun _ h9 => h9) dX7_readTest_50 ?_
    refine lv_iload_n hx hb dX7_readTest_53 rfl (lv_at hl 0 rfl) ?_
    refine lv_bipush (v := 60) hx hb dX7_readTest_54 (by decide) ?_
    refine lv_icmp_ne (tgt := 64) hx hb dX7_readTest_56 (by decide) (fun c_35 => ?_) (fun c_35 => ?_)
    · have c_35 := z_ne c_35
      exact zB.noNe c_35 br_15_20 (zBc 60 60 (by decide))
    · have c_35 := z_eq c_35
      refine lv_bipush (v := 6) hx hb dX7_readTest_59 (by decide) ?_
      refine lv_goto (tgt := 77) hx hb dX7_readTest_61 (by decide) ?_
      refine lv_iconst (v := 0) hx hb dX7_readTest_77 (by decide) ?_
      refine lv_iconst (v := 0) hx hb dX7_readTest_78 (by decide) ?_
      refine zk_Vi (As := [.int 6, .int 0, .int 0]) (rest := []) (bytes := cX1_add) (maxL := 4) (ret := (some .int)) Z h (zc_X1_add l D k Γ L F_27 H.size co 6 0 0 hco) (cwV 3 hg zv_RX7_117 rfl rfl rfl zd_X1_add ⟨z_leR hRf (by decide), z_leR hRl (by decide)⟩) hco (by decide) rfl rfl hl.1 rfl (Nat.le_of_ble_eq_true rfl) dX7_readTest_79 ⟨Nat.zero_le _, Nat.zero_le _⟩ (fun r_36 F_37 H locs w_38 h hfF_37 => ?_)
      obtain ⟨br_36, -⟩ := w_38
      refine lv_pop hx hb dX7_readTest_82 rfl ?_
      have c1_39 := (c1_32.fr hfF_37 hth (by decide))
      have cc_40 := (cc_32.fr hfF_37 hth (by decide) (zTo_P Bt nt))
      subst hQ
      exact W.vret hx hb hr (fun t ht hW => ⟨⟨F_37, rfl, ⟨⟨x_30, (hfF_37.f hth 11 ⟨by decide, by decide⟩ kx_30), bx_30, (by have := br_15_20.1; have := br_15_20.2; have := bx_30.1; have := bx_30.2; have := bsz_.1; have := bsz_.2; have := bx_33.1; have := bx_33.2; have := bx_34.1; have := bx_34.2; have := bcc.1; have := bcc.2; have : (0 : Int32).toInt = 0 := (by decide); have : (1 : Int32).toInt = 1 := (by decide); have : (60 : Int32).toInt = 60 := (by decide); omega)⟩, ⟨σ_32, c1_39, rc_32, ss_32, (cc_40.w (by have := br_15_20.1; have := br_15_20.2; have := bx_30.1; have := bx_30.2; have := bsz_.1; have := bsz_.2; have := bx_33.1; have := bx_33.2; have := bx_34.1; have := bx_34.2; have := bcc.1; have := bcc.2; have : (0 : Int32).toInt = 0 := (by decide); have : (1 : Int32).toInt = 1 := (by decide); have : (60 : Int32).toInt = 60 := (by decide); omega))⟩, trivial⟩, by rw [ht]; exact h.1, h.2.1, (((hfF_6.trans hfF_22 (by decide)).trans hfF_27 (by decide)).trans hfF_37 (by decide))⟩, h.2.2.F ht⟩) h.2.2.2.2 dX7_readTest_83
  · have c_19 := z_ne c_19
    refine lv_iload_n hx hb dX7_readTest_16 rfl (lv_at hl 0 rfl) ?_
    refine lv_bipush (v := 62) hx hb dX7_readTest_17 (by decide) ?_
    refine lv_icmp_eq (tgt := 34) hx hb dX7_readTest_19 (by decide) (fun c_41 => ?_) (fun c_41 => ?_)
    · have c_41 := z_eq c_41
      have br_15_42 : zB 62 62 r_15 := zB.eqL (a := 0) (b := 0) c_41 (zBc 62 62 (by decide))
      refine lv_aload_n hx hb dX7_readTest_34 rfl (lv_at hl 1 rfl) ?_
      refine lv_dup hx hb dX7_readTest_35 rfl ?_
      refine zt_getk (t := 7) (C := RX7) (T := TX7) (N := 12) Z h hth zin_7 rfl 6 kx_12 ⟨by decide, rfl, by decide⟩ (zm_RX7 (List.mem_of_getElem? (i := 9) rfl)) (fun _ h9 => h9) dX7_readTest_36 ?_
      refine lv_iconst (v := 1) hx hb dX7_readTest_39 (by decide) ?_
      refine lv_iadd hx hb dX7_readTest_40 ?_
      refine zi_add (lo := 1) (hi := 601) bx_12 (zBc 1 1 (by decide)) (by decide) (fun x_43 bx_43 tx_43 => ?_)
      refine zt_put (t := 7) (C := RX7) (T := TX7) (N := 12) (v := .int x_43) Z h hth zin_7 tyX7 tyX7_ok nmX7 rfl 6 rfl ⟨by decide, rfl⟩ (zm_RX7 (List.mem_of_getElem? (i := 9) rfl)) (fun _ h9 => h9) rfl (zV.i (bx_43.w ⟨by decide, by decide⟩)) rfl rfl dX7_readTest_41 (fun H locs F_44 h hfF_44 kF_44 => ?_)
      have c1_45 : zC1 F_44 th Nt (zadv σ_11) := (zC1.adv (T := zTo Bt nt) c1_11 hfF_44 hth (by decide) kx_12 kF_44 (by have := br_15_42.1; have := br_15_42.2; have := bx_12.1; have := bx_12.2; have := bx_9.1; have := bx_9.2; have := bsz_.1; have := bsz_.2; have := bx_43.1; have := bx_43.2; have := bx_13.1; have := bx_13.2; have := bcc.1; have := bcc.2; have : (0 : Int32).toInt = 0 := (by decide); have : (1 : Int32).toInt = 1 := (by decide); have : (60 : Int32).toInt = 60 := (by decide); have : (62 : Int32).toInt = 62 := (by decide); omega) hLs_ ⟨by have := br_15_42.1; have := br_15_42.2; have := bx_12.1; have := bx_12.2; have := bx_9.1; have := bx_9.2; have := bsz_.1; have := bsz_.2; have := bx_43.1; have := bx_43.2; have := bx_13.1; have := bx_13.2; have := bcc.1; have := bcc.2; have : (0 : Int32).toInt = 0 := (by decide); have : (1 : Int32).toInt = 1 := (by decide); have : (60 : Int32).toInt = 60 := (by decide); have : (62 : Int32).toInt = 62 := (by decide); omega, by have := br_15_42.1; have := br_15_42.2; have := bx_12.1; have := bx_12.2; have := bx_9.1; have := bx_9.2; have := bsz_.1; have := bsz_.2; have := bx_43.1; have := bx_43.2; have := bx_13.1; have := bx_13.2; have := bcc.1; have := bcc.2; have : (0 : Int32).toInt = 0 := (by decide); have : (1 : Int32).toInt = 1 := (by decide); have : (60 : Int32).toInt = 60 := (by decide); have : (62 : Int32).toInt = 62 := (by decide); omega⟩)
      have rc_45 : zRc (zTo Bt nt) σ [(11, 0, 0, 0)] (zadv σ_11) [(13, 0, 0, 0)] := zRc.sign1 (N := Nt) rc_11 (by have := br_15_42.1; have := br_15_42.2; have := bx_9.1; have := bx_9.2; have := bsz_.1; have := bsz_.2; have := bx_43.1; have := bx_43.2; have := bx_13.1; have := bx_13.2; have := bcc.1; have := bcc.2; have : (0 : Int32).toInt = 0 := (by decide); have : (1 : Int32).toInt = 1 := (by decide); have : (60 : Int32).toInt = 60 := (by decide); have : (62 : Int32).toInt = 62 := (by decide); omega)
      have st_45 : zss σ_11 (zadv σ_11) := zsm.adv.ss
      have ss_45 : zss σ (zadv σ_11) := ss_11.trans st_45
      have cc_45 : zCc Γ F F_44 th (zTo Bt nt) σ (zadv σ_11) ((0 : Int32).toInt) := (cc_11.mv hfF_44 hth (by decide) (zTo_P Bt nt) zsm.adv.cs)
      generalize hσ_45 : zadv σ_11 = σ_45 at c1_45 rc_45 st_45 ss_45 cc_45
      obtain ⟨⟨x_46, kx_46, nx_46⟩, ⟨x_47, kx_47, nx_47⟩, ox_46⟩ := id c1_45
      have gx_46 := zC1.nx c1_45 hLs_.1 kx_46
      have bx_46 : zB 0 600 x_46 := ⟨by omega, by have := hLs_.2.1; omega⟩
      have bx_47 := zB.all x_47
      have vx_46 := congrArg Int32.toInt (z_same kF_44 kx_46)
      have mo_45 := zss.nx st_45 ox_12 ox_46
      refine lv_aload_n hx hb dX7_readTest_44 rfl (lv_at hl 1 rfl) ?_
      refine lv_iconst (v := 0) hx hb dX7_readTest_45 (by decide) ?_
      have p_48 := (p_14.fr hfF_44 htk (by decide))
      refine zk_Vv (As := [.int 0]) (rest := []) (bytes := cX7_readSum) (maxL := 4) (ret := none) Z h (zs_sum l 6 D k Γ L F_44 H.size th 0 pr tk co Bt nt Nt x_9 σ_45  hth (zB.of ⟨by decide, by decide⟩) (hfF_44.f hth 3 ⟨by decide, by decide⟩ (hfF_6.f hth 3 ⟨by decide, by decide⟩ kpr)) hpr (hfF_44.f hth 4 ⟨by decide, by decide⟩ (hfF_6.f hth 4 ⟨by decide, by decide⟩ ktk)) htk (hfF_44.f hth 5 ⟨by decide, by decide⟩ (hfF_6.f hth 5 ⟨by decide, by decide⟩ kco)) hco p_48 (hfF_44.f hth 11 ⟨by decide, by decide⟩ kx_9) bx_9 c1_45 (zCc.m (cc_45.w (dep' := (0 : Int32).toInt) (by have := br_15_42.1; have := br_15_42.2; have := bx_9.1; have := bx_9.2; have := bsz_.1; have := bsz_.2; have := bx_46.1; have := bx_46.2; have := bx_47.1; have := bx_47.2; have := bcc.1; have := bcc.2; have : (0 : Int32).toInt = 0 := (by decide); have : (1 : Int32).toInt = 1 := (by decide); have : (60 : Int32).toInt = 60 := (by decide); have : (62 : Int32).toInt = 62 := (by decide); omega)) (hfF_44.f hth 11 ⟨by decide, by decide⟩ kx_9)) (by have := br_15_42.1; have := br_15_42.2; have := bx_9.1; have := bx_9.2; have := bsz_.1; have := bsz_.2; have := bx_46.1; have := bx_46.2; have := bx_47.1; have := bx_47.2; have := bcc.1; have := bcc.2; have : (0 : Int32).toInt = 0 := (by decide); have : (1 : Int32).toInt = 1 := (by decide); have : (60 : Int32).toInt = 60 := (by decide); have : (62 : Int32).toInt = 62 := (by decide); omega)) (cwV 1 hg zv_RX7_161 rfl rfl rfl zd_X7_readSum ⟨z_leR hRf (by decide), z_leR hRl (by decide)⟩) hth (by decide) rfl rfl hl.1 rfl (Nat.le_of_ble_eq_true rfl) dX7_readTest_46 ⟨Nat.zero_le _, Nat.zero_le _⟩ (fun F_49 H locs w_50 h hfF_49 => ?_)
      obtain ⟨⟨x_52, kx_52, bx_52, q_51⟩, ⟨σ_54, c1_54, rn_54, st_54, cn_54⟩, -⟩ := w_50
      have rc_54 : zRc (zTo Bt nt) σ [(11, 0, 0, 0)] σ_54 [] := zRc.calls rc_45 (rn_54.x (zSy_eq (by have := br_15_42.1; have := br_15_42.2; have := bx_9.1; have := bx_9.2; have := bx_52.1; have := bx_52.2; have := bsz_.1; have := bsz_.2; have := bcc.1; have := bcc.2; have : (0 : Int32).toInt = 0 := (by decide); have : (1 : Int32).toInt = 1 := (by decide); have : (60 : Int32).toInt = 60 := (by decide); have : (62 : Int32).toInt = 62 := (by decide); omega) (by have := br_15_42.1; have := br_15_42.2; have := bx_9.1; have := bx_9.2; have := bx_52.1; have := bx_52.2; have := bsz_.1; have := bsz_.2; have := bcc.1; have := bcc.2; have : (0 : Int32).toInt = 0 := (by decide); have : (1 : Int32).toInt = 1 := (by decide); have : (60 : Int32).toInt = 60 := (by decide); have : (62 : Int32).toInt = 62 := (by decide); omega) (by have := br_15_42.1; have := br_15_42.2; have := bx_9.1; have := bx_9.2; have := bx_52.1; have := bx_52.2; have := bsz_.1; have := bsz_.2; have := bcc.1; have := bcc.2; have : (0 : Int32).toInt = 0 := (by decide); have : (1 : Int32).toInt = 1 := (by decide); have : (60 : Int32).toInt = 60 := (by decide); have : (62 : Int32).toInt = 62 := (by decide); omega)))
      have ss_54 : zss σ σ_54 := ss_45.trans st_54
      have cc_54 : zCc Γ F F_49 th (zTo Bt nt) σ (σ_54) ((0 : Int32).toInt) := zCc.call cc_45 cn_54
      obtain ⟨⟨x_55, kx_55, nx_55⟩, ⟨x_56, kx_56, nx_56⟩, ox_55⟩ := id c1_54
      have gx_55 := zC1.nx c1_54 hLs_.1 kx_55
      have bx_55 : zB 0 600 x_55 := ⟨by omega, by have := hLs_.2.1; omega⟩
      have bx_56 := zB.all x_56
      have mo_54 := zss.nx st_54 ox_46 ox_55
      refine lv_aload_n hx hb dX7_readTest_49 rfl (lv_at hl 1 rfl) ?_
      refine zt_getk (t := 7) (C := RX7) (T := TX7) (N := 12) Z h hth zin_7 rfl 5 (hfF_49.f hth 5 ⟨by decide, by decide⟩ (hfF_44.f hth 5 ⟨by decide, by decide⟩ (hfF_6.f hth 5 ⟨by decide, by decide⟩ kco))) ⟨by decide, rfl, by decide⟩ (zm_RX7 (List.mem_of_getElem? (i := 6) rfl)) (fun _ h9 => h9) dX7_readTest_50 ?_
      refine lv_iload_n hx hb dX7_readTest_53 rfl (lv_at hl 0 rfl) ?_
      refine lv_bipush (v := 60) hx hb dX7_readTest_54 (by decide) ?_
      refine lv_icmp_ne (tgt := 64) hx hb dX7_readTest_56 (by decide) (fun c_57 => ?_) (fun c_57 => ?_)
      · have c_57 := z_ne c_57
        refine lv_iload_n hx hb dX7_readTest_64 rfl (lv_at hl 0 rfl) ?_
        refine lv_bipush (v := 62) hx hb dX7_readTest_65 (by decide) ?_
        refine lv_icmp_ne (tgt := 75) hx hb dX7_readTest_67 (by decide) (fun c_58 => ?_) (fun c_58 => ?_)
        · have c_58 := z_ne c_58
          exact zB.noNe c_58 br_15_42 (zBc 62 62 (by decide))
        · have c_58 := z_eq c_58
          refine lv_bipush (v := 7) hx hb dX7_readTest_70 (by decide) ?_
          refine lv_goto (tgt := 77) hx hb dX7_readTest_72 (by decide) ?_
          refine lv_iconst (v := 0) hx hb dX7_readTest_77 (by decide) ?_
          refine lv_iconst (v := 0) hx hb dX7_readTest_78 (by decide) ?_
          refine zk_Vi (As := [.int 7, .int 0, .int 0]) (rest := []) (bytes := cX1_add) (maxL := 4) (ret := (some .int)) Z h (zc_X1_add l D k Γ L F_49 H.size co 7 0 0 hco) (cwV 3 hg zv_RX7_117 rfl rfl rfl zd_X1_add ⟨z_leR hRf (by decide), z_leR hRl (by decide)⟩) hco (by decide) rfl rfl hl.1 rfl (Nat.le_of_ble_eq_true rfl) dX7_readTest_79 ⟨Nat.zero_le _, Nat.zero_le _⟩ (fun r_59 F_60 H locs w_61 h hfF_60 => ?_)
          obtain ⟨br_59, -⟩ := w_61
          refine lv_pop hx hb dX7_readTest_82 rfl ?_
          have c1_62 := (c1_54.fr hfF_60 hth (by decide))
          have cc_63 := (cc_54.fr hfF_60 hth (by decide) (zTo_P Bt nt))
          subst hQ
          exact W.vret hx hb hr (fun t ht hW => ⟨⟨F_60, rfl, ⟨⟨x_52, (hfF_60.f hth 11 ⟨by decide, by decide⟩ kx_52), bx_52, (by have := br_15_42.1; have := br_15_42.2; have := bx_52.1; have := bx_52.2; have := bsz_.1; have := bsz_.2; have := bx_55.1; have := bx_55.2; have := bx_56.1; have := bx_56.2; have := bcc.1; have := bcc.2; have : (0 : Int32).toInt = 0 := (by decide); have : (1 : Int32).toInt = 1 := (by decide); have : (60 : Int32).toInt = 60 := (by decide); have : (62 : Int32).toInt = 62 := (by decide); omega)⟩, ⟨σ_54, c1_62, rc_54, ss_54, (cc_63.w (by have := br_15_42.1; have := br_15_42.2; have := bx_52.1; have := bx_52.2; have := bsz_.1; have := bsz_.2; have := bx_55.1; have := bx_55.2; have := bx_56.1; have := bx_56.2; have := bcc.1; have := bcc.2; have : (0 : Int32).toInt = 0 := (by decide); have : (1 : Int32).toInt = 1 := (by decide); have : (60 : Int32).toInt = 60 := (by decide); have : (62 : Int32).toInt = 62 := (by decide); omega))⟩, trivial⟩, by rw [ht]; exact h.1, h.2.1, (((hfF_6.trans hfF_44 (by decide)).trans hfF_49 (by decide)).trans hfF_60 (by decide))⟩, h.2.2.F ht⟩) h.2.2.2.2 dX7_readTest_83
      · have c_57 := z_eq c_57
        exact zB.noEq c_57 br_15_42 (zBc 60 60 (by decide)) (by decide)
    · have c_41 := z_ne c_41
      refine lv_iload_n hx hb dX7_readTest_22 rfl (lv_at hl 0 rfl) ?_
      refine lv_bipush (v := 61) hx hb dX7_readTest_23 (by decide) ?_
      refine lv_icmp_eq (tgt := 34) hx hb dX7_readTest_25 (by decide) (fun c_64 => ?_) (fun c_64 => ?_)
      · have c_64 := z_eq c_64
        have br_15_65 : zB 61 61 r_15 := zB.eqL (a := 0) (b := 0) c_64 (zBc 61 61 (by decide))
        refine lv_aload_n hx hb dX7_readTest_34 rfl (lv_at hl 1 rfl) ?_
        refine lv_dup hx hb dX7_readTest_35 rfl ?_
        refine zt_getk (t := 7) (C := RX7) (T := TX7) (N := 12) Z h hth zin_7 rfl 6 kx_12 ⟨by decide, rfl, by decide⟩ (zm_RX7 (List.mem_of_getElem? (i := 9) rfl)) (fun _ h9 => h9) dX7_readTest_36 ?_
        refine lv_iconst (v := 1) hx hb dX7_readTest_39 (by decide) ?_
        refine lv_iadd hx hb dX7_readTest_40 ?_
        refine zi_add (lo := 1) (hi := 601) bx_12 (zBc 1 1 (by decide)) (by decide) (fun x_66 bx_66 tx_66 => ?_)
        refine zt_put (t := 7) (C := RX7) (T := TX7) (N := 12) (v := .int x_66) Z h hth zin_7 tyX7 tyX7_ok nmX7 rfl 6 rfl ⟨by decide, rfl⟩ (zm_RX7 (List.mem_of_getElem? (i := 9) rfl)) (fun _ h9 => h9) rfl (zV.i (bx_66.w ⟨by decide, by decide⟩)) rfl rfl dX7_readTest_41 (fun H locs F_67 h hfF_67 kF_67 => ?_)
        have c1_68 : zC1 F_67 th Nt (zadv σ_11) := (zC1.adv (T := zTo Bt nt) c1_11 hfF_67 hth (by decide) kx_12 kF_67 (by have := br_15_65.1; have := br_15_65.2; have := bx_12.1; have := bx_12.2; have := bx_9.1; have := bx_9.2; have := bsz_.1; have := bsz_.2; have := bx_66.1; have := bx_66.2; have := bx_13.1; have := bx_13.2; have := bcc.1; have := bcc.2; have : (0 : Int32).toInt = 0 := (by decide); have : (1 : Int32).toInt = 1 := (by decide); have : (60 : Int32).toInt = 60 := (by decide); have : (61 : Int32).toInt = 61 := (by decide); have : (62 : Int32).toInt = 62 := (by decide); omega) hLs_ ⟨by have := br_15_65.1; have := br_15_65.2; have := bx_12.1; have := bx_12.2; have := bx_9.1; have := bx_9.2; have := bsz_.1; have := bsz_.2; have := bx_66.1; have := bx_66.2; have := bx_13.1; have := bx_13.2; have := bcc.1; have := bcc.2; have : (0 : Int32).toInt = 0 := (by decide); have : (1 : Int32).toInt = 1 := (by decide); have : (60 : Int32).toInt = 60 := (by decide); have : (61 : Int32).toInt = 61 := (by decide); have : (62 : Int32).toInt = 62 := (by decide); omega, by have := br_15_65.1; have := br_15_65.2; have := bx_12.1; have := bx_12.2; have := bx_9.1; have := bx_9.2; have := bsz_.1; have := bsz_.2; have := bx_66.1; have := bx_66.2; have := bx_13.1; have := bx_13.2; have := bcc.1; have := bcc.2; have : (0 : Int32).toInt = 0 := (by decide); have : (1 : Int32).toInt = 1 := (by decide); have : (60 : Int32).toInt = 60 := (by decide); have : (61 : Int32).toInt = 61 := (by decide); have : (62 : Int32).toInt = 62 := (by decide); omega⟩)
        have rc_68 : zRc (zTo Bt nt) σ [(11, 0, 0, 0)] (zadv σ_11) [(13, 0, 0, 0)] := zRc.sign1 (N := Nt) rc_11 (by have := br_15_65.1; have := br_15_65.2; have := bx_9.1; have := bx_9.2; have := bsz_.1; have := bsz_.2; have := bx_66.1; have := bx_66.2; have := bx_13.1; have := bx_13.2; have := bcc.1; have := bcc.2; have : (0 : Int32).toInt = 0 := (by decide); have : (1 : Int32).toInt = 1 := (by decide); have : (60 : Int32).toInt = 60 := (by decide); have : (61 : Int32).toInt = 61 := (by decide); have : (62 : Int32).toInt = 62 := (by decide); omega)
        have st_68 : zss σ_11 (zadv σ_11) := zsm.adv.ss
        have ss_68 : zss σ (zadv σ_11) := ss_11.trans st_68
        have cc_68 : zCc Γ F F_67 th (zTo Bt nt) σ (zadv σ_11) ((0 : Int32).toInt) := (cc_11.mv hfF_67 hth (by decide) (zTo_P Bt nt) zsm.adv.cs)
        generalize hσ_68 : zadv σ_11 = σ_68 at c1_68 rc_68 st_68 ss_68 cc_68
        obtain ⟨⟨x_69, kx_69, nx_69⟩, ⟨x_70, kx_70, nx_70⟩, ox_69⟩ := id c1_68
        have gx_69 := zC1.nx c1_68 hLs_.1 kx_69
        have bx_69 : zB 0 600 x_69 := ⟨by omega, by have := hLs_.2.1; omega⟩
        have bx_70 := zB.all x_70
        have vx_69 := congrArg Int32.toInt (z_same kF_67 kx_69)
        have mo_68 := zss.nx st_68 ox_12 ox_69
        refine lv_aload_n hx hb dX7_readTest_44 rfl (lv_at hl 1 rfl) ?_
        refine lv_iconst (v := 0) hx hb dX7_readTest_45 (by decide) ?_
        have p_71 := (p_14.fr hfF_67 htk (by decide))
        refine zk_Vv (As := [.int 0]) (rest := []) (bytes := cX7_readSum) (maxL := 4) (ret := none) Z h (zs_sum l 6 D k Γ L F_67 H.size th 0 pr tk co Bt nt Nt x_9 σ_68  hth (zB.of ⟨by decide, by decide⟩) (hfF_67.f hth 3 ⟨by decide, by decide⟩ (hfF_6.f hth 3 ⟨by decide, by decide⟩ kpr)) hpr (hfF_67.f hth 4 ⟨by decide, by decide⟩ (hfF_6.f hth 4 ⟨by decide, by decide⟩ ktk)) htk (hfF_67.f hth 5 ⟨by decide, by decide⟩ (hfF_6.f hth 5 ⟨by decide, by decide⟩ kco)) hco p_71 (hfF_67.f hth 11 ⟨by decide, by decide⟩ kx_9) bx_9 c1_68 (zCc.m (cc_68.w (dep' := (0 : Int32).toInt) (by have := br_15_65.1; have := br_15_65.2; have := bx_9.1; have := bx_9.2; have := bsz_.1; have := bsz_.2; have := bx_69.1; have := bx_69.2; have := bx_70.1; have := bx_70.2; have := bcc.1; have := bcc.2; have : (0 : Int32).toInt = 0 := (by decide); have : (1 : Int32).toInt = 1 := (by decide); have : (60 : Int32).toInt = 60 := (by decide); have : (61 : Int32).toInt = 61 := (by decide); have : (62 : Int32).toInt = 62 := (by decide); omega)) (hfF_67.f hth 11 ⟨by decide, by decide⟩ kx_9)) (by have := br_15_65.1; have := br_15_65.2; have := bx_9.1; have := bx_9.2; have := bsz_.1; have := bsz_.2; have := bx_69.1; have := bx_69.2; have := bx_70.1; have := bx_70.2; have := bcc.1; have := bcc.2; have : (0 : Int32).toInt = 0 := (by decide); have : (1 : Int32).toInt = 1 := (by decide); have : (60 : Int32).toInt = 60 := (by decide); have : (61 : Int32).toInt = 61 := (by decide); have : (62 : Int32).toInt = 62 := (by decide); omega)) (cwV 1 hg zv_RX7_161 rfl rfl rfl zd_X7_readSum ⟨z_leR hRf (by decide), z_leR hRl (by decide)⟩) hth (by decide) rfl rfl hl.1 rfl (Nat.le_of_ble_eq_true rfl) dX7_readTest_46 ⟨Nat.zero_le _, Nat.zero_le _⟩ (fun F_72 H locs w_73 h hfF_72 => ?_)
        obtain ⟨⟨x_75, kx_75, bx_75, q_74⟩, ⟨σ_77, c1_77, rn_77, st_77, cn_77⟩, -⟩ := w_73
        have rc_77 : zRc (zTo Bt nt) σ [(11, 0, 0, 0)] σ_77 [] := zRc.calls rc_68 (rn_77.x (zSy_eq (by have := br_15_65.1; have := br_15_65.2; have := bx_9.1; have := bx_9.2; have := bx_75.1; have := bx_75.2; have := bsz_.1; have := bsz_.2; have := bcc.1; have := bcc.2; have : (0 : Int32).toInt = 0 := (by decide); have : (1 : Int32).toInt = 1 := (by decide); have : (60 : Int32).toInt = 60 := (by decide); have : (61 : Int32).toInt = 61 := (by decide); have : (62 : Int32).toInt = 62 := (by decide); omega) (by have := br_15_65.1; have := br_15_65.2; have := bx_9.1; have := bx_9.2; have := bx_75.1; have := bx_75.2; have := bsz_.1; have := bsz_.2; have := bcc.1; have := bcc.2; have : (0 : Int32).toInt = 0 := (by decide); have : (1 : Int32).toInt = 1 := (by decide); have : (60 : Int32).toInt = 60 := (by decide); have : (61 : Int32).toInt = 61 := (by decide); have : (62 : Int32).toInt = 62 := (by decide); omega) (by have := br_15_65.1; have := br_15_65.2; have := bx_9.1; have := bx_9.2; have := bx_75.1; have := bx_75.2; have := bsz_.1; have := bsz_.2; have := bcc.1; have := bcc.2; have : (0 : Int32).toInt = 0 := (by decide); have : (1 : Int32).toInt = 1 := (by decide); have : (60 : Int32).toInt = 60 := (by decide); have : (61 : Int32).toInt = 61 := (by decide); have : (62 : Int32).toInt = 62 := (by decide); omega)))
        have ss_77 : zss σ σ_77 := ss_68.trans st_77
        have cc_77 : zCc Γ F F_72 th (zTo Bt nt) σ (σ_77) ((0 : Int32).toInt) := zCc.call cc_68 cn_77
        obtain ⟨⟨x_78, kx_78, nx_78⟩, ⟨x_79, kx_79, nx_79⟩, ox_78⟩ := id c1_77
        have gx_78 := zC1.nx c1_77 hLs_.1 kx_78
        have bx_78 : zB 0 600 x_78 := ⟨by omega, by have := hLs_.2.1; omega⟩
        have bx_79 := zB.all x_79
        have mo_77 := zss.nx st_77 ox_69 ox_78
        refine lv_aload_n hx hb dX7_readTest_49 rfl (lv_at hl 1 rfl) ?_
        refine zt_getk (t := 7) (C := RX7) (T := TX7) (N := 12) Z h hth zin_7 rfl 5 (hfF_72.f hth 5 ⟨by decide, by decide⟩ (hfF_67.f hth 5 ⟨by decide, by decide⟩ (hfF_6.f hth 5 ⟨by decide, by decide⟩ kco))) ⟨by decide, rfl, by decide⟩ (zm_RX7 (List.mem_of_getElem? (i := 6) rfl)) (fun _ h9 => h9) dX7_readTest_50 ?_
        refine lv_iload_n hx hb dX7_readTest_53 rfl (lv_at hl 0 rfl) ?_
        refine lv_bipush (v := 60) hx hb dX7_readTest_54 (by decide) ?_
        refine lv_icmp_ne (tgt := 64) hx hb dX7_readTest_56 (by decide) (fun c_80 => ?_) (fun c_80 => ?_)
        · have c_80 := z_ne c_80
          refine lv_iload_n hx hb dX7_readTest_64 rfl (lv_at hl 0 rfl) ?_
          refine lv_bipush (v := 62) hx hb dX7_readTest_65 (by decide) ?_
          refine lv_icmp_ne (tgt := 75) hx hb dX7_readTest_67 (by decide) (fun c_81 => ?_) (fun c_81 => ?_)
          · have c_81 := z_ne c_81
            refine lv_bipush (v := 8) hx hb dX7_readTest_75 (by decide) ?_
            refine lv_iconst (v := 0) hx hb dX7_readTest_77 (by decide) ?_
            refine lv_iconst (v := 0) hx hb dX7_readTest_78 (by decide) ?_
            refine zk_Vi (As := [.int 8, .int 0, .int 0]) (rest := []) (bytes := cX1_add) (maxL := 4) (ret := (some .int)) Z h (zc_X1_add l D k Γ L F_72 H.size co 8 0 0 hco) (cwV 3 hg zv_RX7_117 rfl rfl rfl zd_X1_add ⟨z_leR hRf (by decide), z_leR hRl (by decide)⟩) hco (by decide) rfl rfl hl.1 rfl (Nat.le_of_ble_eq_true rfl) dX7_readTest_79 ⟨Nat.zero_le _, Nat.zero_le _⟩ (fun r_82 F_83 H locs w_84 h hfF_83 => ?_)
            obtain ⟨br_82, -⟩ := w_84
            refine lv_pop hx hb dX7_readTest_82 rfl ?_
            have c1_85 := (c1_77.fr hfF_83 hth (by decide))
            have cc_86 := (cc_77.fr hfF_83 hth (by decide) (zTo_P Bt nt))
            subst hQ
            exact W.vret hx hb hr (fun t ht hW => ⟨⟨F_83, rfl, ⟨⟨x_75, (hfF_83.f hth 11 ⟨by decide, by decide⟩ kx_75), bx_75, (by have := br_15_65.1; have := br_15_65.2; have := bx_75.1; have := bx_75.2; have := bsz_.1; have := bsz_.2; have := bx_78.1; have := bx_78.2; have := bx_79.1; have := bx_79.2; have := bcc.1; have := bcc.2; have : (0 : Int32).toInt = 0 := (by decide); have : (1 : Int32).toInt = 1 := (by decide); have : (60 : Int32).toInt = 60 := (by decide); have : (61 : Int32).toInt = 61 := (by decide); have : (62 : Int32).toInt = 62 := (by decide); omega)⟩, ⟨σ_77, c1_85, rc_77, ss_77, (cc_86.w (by have := br_15_65.1; have := br_15_65.2; have := bx_75.1; have := bx_75.2; have := bsz_.1; have := bsz_.2; have := bx_78.1; have := bx_78.2; have := bx_79.1; have := bx_79.2; have := bcc.1; have := bcc.2; have : (0 : Int32).toInt = 0 := (by decide); have : (1 : Int32).toInt = 1 := (by decide); have : (60 : Int32).toInt = 60 := (by decide); have : (61 : Int32).toInt = 61 := (by decide); have : (62 : Int32).toInt = 62 := (by decide); omega))⟩, trivial⟩, by rw [ht]; exact h.1, h.2.1, (((hfF_6.trans hfF_67 (by decide)).trans hfF_72 (by decide)).trans hfF_83 (by decide))⟩, h.2.2.F ht⟩) h.2.2.2.2 dX7_readTest_83
          · have c_81 := z_eq c_81
            exact zB.noEq c_81 br_15_65 (zBc 62 62 (by decide)) (by decide)
        · have c_80 := z_eq c_80
          exact zB.noEq c_80 br_15_65 (zBc 60 60 (by decide)) (by decide)
      · have c_64 := z_ne c_64
        refine lv_aload_n hx hb dX7_readTest_28 rfl (lv_at hl 1 rfl) ?_
        refine lv_iconst (v := 1) hx hb dX7_readTest_29 (by decide) ?_
        refine zk_Vv (As := [.int 1]) (rest := []) (bytes := cX7_fail) (maxL := 2) (ret := none) Z h (ze_X7_fail l D k Γ L F_6 H.size th 1 tk Bt nt Nt σ_11 hth (hfF_6.f hth 4 ⟨by decide, by decide⟩ ktk) htk p_14 c1_11 (by have := br_15.1; have := br_15.2; have := bx_9.1; have := bx_9.2; have := bsz_.1; have := bsz_.2; have := bx_12.1; have := bx_12.2; have := bx_13.1; have := bx_13.2; have := bcc.1; have := bcc.2; have : (0 : Int32).toInt = 0 := (by decide); have : (1 : Int32).toInt = 1 := (by decide); have : (60 : Int32).toInt = 60 := (by decide); have : (61 : Int32).toInt = 61 := (by decide); have : (62 : Int32).toInt = 62 := (by decide); omega)) (cwV 1 hg zv_RX7_79 rfl rfl rfl zd_X7_fail ⟨z_leR hRf (by decide), z_leR hRl (by decide)⟩) hth (by decide) rfl rfl hl.1 rfl (Nat.le_of_ble_eq_true rfl) dX7_readTest_30 ⟨Nat.zero_le _, Nat.zero_le _⟩ (fun F_87 H locs w_88 h hfF_87 => ?_)
        obtain ⟨q_89, -⟩ := w_88
        have c1_90 : zC1 F_87 th Nt (zfl 1 σ_11) := (by have h9 := q_89; rw [show (1 : Int32).toInt = 1 by decide] at h9; exact h9)
        have rc_90 : zRc (zTo Bt nt) σ [(11, 0, 0, 0)] (zfl 1 σ_11) [] := zRc.any (zRc.sign0 (N := Nt) rc_11 (by have := br_15.1; have := br_15.2; have := bx_9.1; have := bx_9.2; have := bsz_.1; have := bsz_.2; have := bcc.1; have := bcc.2; have : (0 : Int32).toInt = 0 := (by decide); have : (60 : Int32).toInt = 60 := (by decide); have : (61 : Int32).toInt = 61 := (by decide); have : (62 : Int32).toInt = 62 := (by decide); omega))
        have st_90 : zss σ_11 (zfl 1 σ_11) := zsm.fl.ss
        have ss_90 : zss σ (zfl 1 σ_11) := ss_11.trans st_90
        have cc_90 : zCc Γ F F_87 th (zTo Bt nt) σ (zfl 1 σ_11) ((0 : Int32).toInt) := (cc_11.mv hfF_87 hth (by decide) (zTo_P Bt nt) zsm.fl.cs)
        generalize hσ_90 : zfl 1 σ_11 = σ_90 at c1_90 rc_90 st_90 ss_90 cc_90
        obtain ⟨⟨x_91, kx_91, nx_91⟩, ⟨x_92, kx_92, nx_92⟩, ox_91⟩ := id c1_90
        have gx_91 := zC1.nx c1_90 hLs_.1 kx_91
        have bx_91 : zB 0 600 x_91 := ⟨by omega, by have := hLs_.2.1; omega⟩
        have bx_92 := zB.all x_92
        have mo_90 := zss.nx st_90 ox_12 ox_91
        subst hQ
        exact W.vret hx hb hr (fun t ht hW => ⟨⟨F_87, rfl, ⟨⟨x_9, (hfF_87.f hth 11 ⟨by decide, by decide⟩ kx_9), bx_9, (by have := br_15.1; have := br_15.2; have := bx_9.1; have := bx_9.2; have := bsz_.1; have := bsz_.2; have := bx_91.1; have := bx_91.2; have := bx_92.1; have := bx_92.2; have := bcc.1; have := bcc.2; have : (0 : Int32).toInt = 0 := (by decide); have : (60 : Int32).toInt = 60 := (by decide); have : (61 : Int32).toInt = 61 := (by decide); have : (62 : Int32).toInt = 62 := (by decide); omega)⟩, ⟨σ_90, c1_90, rc_90, ss_90, (cc_90.w (by have := br_15.1; have := br_15.2; have := bx_9.1; have := bx_9.2; have := bsz_.1; have := bsz_.2; have := bx_91.1; have := bx_91.2; have := bx_92.1; have := bx_92.2; have := bcc.1; have := bcc.2; have : (0 : Int32).toInt = 0 := (by decide); have : (60 : Int32).toInt = 60 := (by decide); have : (61 : Int32).toInt = 61 := (by decide); have : (62 : Int32).toInt = 62 := (by decide); omega))⟩, trivial⟩, by rw [ht]; exact h.1, h.2.1, (hfF_6.trans hfF_87 (by decide))⟩, h.2.2.F ht⟩) h.2.2.2.2 dX7_readTest_33
