/-! LessonMaker's constructor, the model's. -/
/-- a Program of the reference and its arrays, all in X -/
def zFm (Γ : Nat → Option Nat) (F : Nat → va_E) (X : List Nat) (pr : Nat) : Prop := pr ∈ X ∧ Γ pr = some 11 ∧ (∀ a ∈ X, a = pr ∨ ∃ t, Γ a = some t ∧ 124 ≤ t ∧ t ≤ 149) ∧ ∀ j, 4 ≤ j → j < 30 → ∃ b, zfld F pr j = .ref b ∧ b ∈ X ∧ Γ b = some (120 + j)
theorem zFm.mk0 {Γ : Nat → Option Nat} {k : Nat → ClassId} {L : List Nat} {F : Nat → va_E} {q : Nat} (hI : zInv Γ k L F) (hq : Γ q = some 11) (hp : zp_11 q (Γ, L, F)) : zFm Γ F L q :=
  ⟨(hI q _ hq).1, hq, fun a ha => (hp a ha).elim (fun h => Or.inl h.2) Or.inr, fun j h1 h2 => ((z_SA hI hq).2 j h1 h2).elim (fun b hb => ⟨b, hb.1, (hI b _ hb.2).1, hb.2⟩)⟩
theorem zFm.mv {Γ Γ' : Nat → Option Nat} {F F' : Nat → va_E} {X : List Nat} {pr : Nat} (h : zFm Γ F X pr) (hk : ∀ a ∈ X, Γ' a = Γ a ∧ F' a = F a) : zFm Γ' F' X pr := by
  obtain ⟨h1, h2, h3, h4⟩ := h
  refine ⟨h1, (hk _ h1).1.trans h2, fun a ha => (h3 a ha).imp id (fun ⟨t, q1, q2⟩ => ⟨t, (hk a ha).1.trans q1, q2⟩), fun j a b => ?_⟩
  obtain ⟨c, g1, g2, g3⟩ := h4 j a b
  refine ⟨c, ?_, g2, (hk _ g2).1.trans g3⟩
  have e : zfld F' pr j = zfld F pr j := by
    unfold zfld
    rw [(hk _ h1).2]
  exact e.trans g1
theorem zFm.no {Γ : Nat → Option Nat} {F : Nat → va_E} {X : List Nat} {pr h0 : Nat} (h : zFm Γ F X pr) (h0Γ : Γ h0 = none) : ∀ a ∈ X, a ≠ h0 := fun a ha e => by
  rcases h.2.2.1 a ha with q | ⟨t, q, _⟩
  · have q1 := h.2.1
    rw [← q, e, h0Γ] at q1
    cases q1
  · rw [e, h0Γ] at q
    cases q
theorem zsne {t : Nat} (h : 124 ≤ t ∧ t ≤ 149) : some t ≠ some 11 := fun e => by
  injection e with e
  omega
theorem zif_of {h0 a t : Nat} {o : Option Nat} (ht : t ≠ 11) (h : (if a = h0 then some t else o) = some 11) : o = some 11 := by
  split at h
  · injection h with h
    exact absurd h ht
  · exact h
theorem z3m {a x y z : Nat} (h : a ∈ [z, y, x]) : a = x ∨ a = y ∨ a = z := by
  simp only [List.mem_cons, List.not_mem_nil, or_false] at h
  omega
def zFz (Γ : Nat → Option Nat) (F : Nat → va_E) (th pr pq sp : Nat) (Lp Lq Ls : List Nat) : Prop := zfld F th 4 = .ref pr ∧ zfld F th 5 = .ref pq ∧ zfld F th 6 = .ref sp ∧ zFm Γ F Lp pr ∧ zFm Γ F Lq pq ∧ zFm Γ F Ls sp ∧ (∀ a ∈ Lp, a ∉ Lq) ∧ (∀ a ∈ Lp, a ∉ Ls) ∧ (∀ a ∈ Lq, a ∉ Ls) ∧ ∀ a, Γ a = some 11 → a = pr ∨ a = pq ∨ a = sp
def z14 (Γ : Nat → Option Nat) (F : Nat → va_E) (th : Nat) : Prop := ∃ (pr pq sp : Nat) (Lp Lq Ls : List Nat), zFz Γ F th pr pq sp Lp Lq Ls ∧ zfld F th 7 = .int 0 ∧ zfld F th 11 = .int 0 ∧ zfld F th 32 = .int 0 ∧ zfld F th 3 = .int 0 ∧ zfld F th 8 = .int 0

def zp_10 : Nat → zW3 → Prop := fun h0 u => (∀ a, u.1 a ≠ some 11) ∧ zfld u.2.2 h0 1 = .int 0 ∧ zfld u.2.2 h0 12 = .int 0 ∧ ∃ (pn sp : Nat) (fa fb : Nat → Nat), zfld u.2.2 h0 2 = .ref pn ∧ zfld u.2.2 h0 3 = .ref sp ∧ zPS u.1 u.2.2 pn fa ∧ zPS u.1 u.2.2 sp fb ∧ ∃ (to : Nat) (Ln Ls : List Nat), zfld u.2.2 h0 10 = .ref to ∧ zF2 u.1 u.2.2 pn sp Ln Ls ∧ zfld u.2.2 to 4 = .int 0 ∧ zfld u.2.2 pn 4 = .int 0 ∧ zfld u.2.2 pn 5 = .int 0 ∧ ∃ la lb : Nat → Nat, zLS u.1 u.2.2 pn la ∧ zLS u.1 u.2.2 sp lb ∧ ∃ gr : Nat, zfld u.2.2 h0 11 = .ref gr ∧ zfld u.2.2 gr 2 = .int 0 ∧ zM3 u.1 u.2.2 h0 ∧ zPD u.1 u.2.2 fa ∧ zPD u.1 u.2.2 fb ∧ zfld u.2.2 h0 8 = .int 0
set_option maxHeartbeats 4000000 in
set_option maxRecDepth 100000 in
theorem zi_X10 (l : Launch) (D : va_G) (k : Nat → ClassId) (h0 sz : Nat) : Met l yX10_init zwi_10 ({ frames := 3, cells := 217, slots := 21316, locals := 81 }) (va_Pc [.ref h0] (zPi D k 10 [.null, .int 0, .null, .null, .null, .null, .null, .null, .int 0, .null, .null, .null, .int 0, .int 0] h0 sz)) (va_Qv (fun u : zW3 => u.1 h0 = some 10 ∧ zp_10 h0 u) (zQi D k (zA0 h0 sz)) (zA0 h0 sz)) 217 21316 (zA0 h0 sz) := by
  refine Met.ofW (cc := cX10_init) (maxL := 1) (ret := none) (by decide) rfl ?_
  intro p e s m args below meth c s₁ B hml hv
  obtain ⟨rfl, hsz, hP, hK, hN0, hZ⟩ := hv
  have hx := B.exec
  have hb := B.bytes
  have hr := B.returns
  have hts : ∀ w ∈ zGI, w.before _ s = true := fun w h9 => atoms_spec (ws := zwi_10) B.pre w (List.mem_cons_of_mem _ h9)
  have hown : s.vm.findClass RX10 = some m.cls := findClass_of_methodNamed B.named
  have hini : meth.name = "<init>" := (name_of_methodNamed B.named B.method).1
  subst hsz
  have Y : zY p m c cX10_init 1 s _ zGI RX10 D k (zA0 h0 s.heap.size) := ⟨⟨hx, hb, hml, hown, hts⟩, hK, hN0, hZ, fun q h9 => Or.inr h9⟩
  have h : zU D k (zA0 h0 s.heap.size) s (fun _ => none) [h0] (fun _ => .inr (10, [.null, .int 0, .null, .null, .null, .null, .null, .null, .int 0, .null, .null, .null, .int 0, .int 0])) s.heap [] := ⟨hP, by simp, fun a ha => Or.inl (List.mem_singleton.mp ha), (fun a t9 h9 => by cases h9), va_S.rf⟩
  have hl := lv_entry ([.ref h0]) (n := 1) (Nat.le_of_ble_eq_true rfl)
  rw [lg_entry_eq]
  generalize (lg_sl ([.ref h0]) ++ List.replicate (1 - (lg_sl ([.ref h0])).length) Slot.unset).toArray = ls at hl ⊢
  have hl : lv_has ls 1 [(0, .ref h0)] := hl
  have h0L : h0 ∈ [h0] := List.mem_singleton.mpr rfl
  have hfam : ∀ a ∈ [h0], a = h0 ∨ ∃ t, (fun _ => none : Nat → Option Nat) a = some t ∧ 124 ≤ t ∧ t ≤ 149 := fun a ha => Or.inl (List.mem_singleton.mp ha)
  generalize hΓ9 : (fun _ => none : Nat → Option Nat) = Γ at h hfam
  have h0Γ : Γ h0 = none := by rw [← hΓ9]
  generalize hF9 : (fun _ => .inr (10, [.null, .int 0, .null, .null, .null, .null, .null, .null, .int 0, .null, .null, .null, .int 0, .int 0]) : Nat → va_E) = F at h
  have hF : F h0 = .inr (10, [.null, .int 0, .null, .null, .null, .null, .null, .null, .int 0, .null, .null, .null, .int 0, .int 0]) := by rw [← hF9]
  have hΓ0 : ∀ a, Γ a = none := fun a => by rw [← hΓ9]
  clear hΓ9 hF9
  generalize [h0] = L at h h0L hfam
  generalize hargs : ([.ref h0] : List Value).toArray = args at *
  refine z_start2 (fun R Q hRf hRl hRc hRs hQ => ?_)
  have hRf : R.frames = 3 := hRf
  have hRl : R.locals = 81 := hRl
  have hRc : R.cells = 217 := hRc
  have hRs : R.slots = 21316 := hRs
  have h11 : ∀ a, Γ a ≠ some 11 := fun a => by rw [hΓ0]; exact fun h9 => by cases h9
  refine lv_aload_n hx hb dX10_init_0 rfl (lv_at hl 0 rfl) ?_
  refine W.objInit hx hb hown (hts _ (zmi (List.mem_of_getElem? (i := 93) rfl))) (hts _ (zmi (List.mem_of_getElem? (i := 1) rfl))) (hts _ (zmi (List.mem_of_getElem? (i := 2) rfl))) rfl (by rw [hml]; exact hl.1) rfl dX10_init_1 (by rw [hRf]; exact (Nat.le_of_ble_eq_true rfl)) (by rw [hRl]; exact (Nat.le_of_ble_eq_true rfl)) ?_
  refine W.eq (g2 := F0 m 4 ls []) rfl ?_
  refine lv_aload_n hx hb dX10_init_4 rfl (lv_at hl 0 rfl) ?_
  refine lv_sipush (v := 600) hx hb dX10_init_5 (by decide) ?_
  refine zj_ar (atype := .byte) (ty := .byte) (κ := 0) (tc := 100) (N' := 600) (a0 := (600, .inl (fun _ => 0))) Y h (zmi (List.mem_of_getElem? (i := 3) rfl)) rfl rfl (fun _ h9 => h9) (fun _ => rfl) (by decide) (by decide) (by decide) (by rw [hRc]; exact (Nat.le_of_ble_eq_true rfl)) (by rw [hRs]; exact (Nat.le_of_ble_eq_true rfl)) (by decide) (fun _ _ _ hF9 => zar_z (κ := 0) (n := 600) (lo := (-128)) (hi := 127) (by decide) rfl (by decide) hF9) dX10_init_8 (fun q1 Γ L F H hq1 hk hL9 h' => ?_)
  have h0Γ := (hk h0 h0L).1.trans h0Γ
  have hF := (hk h0 h0L).2.1.trans hF
  have h0L := (hk h0 h0L).2.2
  have h11 : ∀ a, Γ a ≠ some 11 := fun a ha => (hL9 a (h'.2.2.2.1 a _ ha).1).elim (fun h1 => h11 a ((hk a h1).1.symm.trans ha)) (fun h1 => by rw [h1, hq1] at ha; injection ha with ha; omega)
  have h := h'
  clear h' hk hL9
  refine W.widen (k := 1) (n := 600) (Nat.le_of_ble_eq_true rfl) (Nat.le_of_ble_eq_true rfl) ?_
  refine zj_put (C := RX10) (T := TX10) (N := 14) (t := 10) (v := .ref q1) Y h h0L h0Γ hF ziin_10 tyX10 tyX10_ok nmX10 rfl 0 (by decide) (zmi (List.mem_of_getElem? (i := 94) rfl)) (fun _ h9 => h9) rfl hini rfl rfl rfl (Nat.le_of_ble_eq_true rfl) dX10_init_10 (fun F' H locs hF' hne h' => ?_)
  have hF : F' h0 = .inr (10, [.ref q1, .int 0, .null, .null, .null, .null, .null, .null, .int 0, .null, .null, .null, .int 0, .int 0]) := hF'
  have h := h'
  clear hF' hne h'
  generalize F' = F at h hF
  refine lv_aload_n hx hb dX10_init_13 rfl (lv_at hl 0 rfl) ?_
  refine zj_new (t := 6) (C := RX6) (T := TX6) (N := 6) (fs := [.null, .null, .null, .null, .int 0, .int 0]) (mc := 91) (ms := 6443) (post := zp_6) Y h ziin_6 tyX6 tyX6_ok (zmi (List.mem_of_getElem? (i := 98) rfl)) (zmi (List.mem_of_getElem? (i := 99) rfl)) (zmi (List.mem_of_getElem? (i := 95) rfl)) rfl (fun j hj => z_df6 j hj) (fun q9 sz9 => zi_X6 l D k q9 sz9) (cwI 0 hts zgi_6 rfl rfl rfl (hts _ (zmi (List.mem_of_getElem? (i := 95) rfl))) (hts _ (zmi (List.mem_of_getElem? (i := 96) rfl))) (hts _ (zmi (List.mem_of_getElem? (i := 97) rfl))) rfl (by decide +kernel) ⟨by rw [hRf]; exact (Nat.le_of_ble_eq_true rfl), by rw [hRl]; exact (Nat.le_of_ble_eq_true rfl)⟩) hl.1 (Nat.le_of_ble_eq_true rfl) (by rw [hRc]; exact (Nat.le_of_ble_eq_true rfl)) (by rw [hRs]; exact (Nat.le_of_ble_eq_true rfl)) dX10_init_14 dX10_init_17 dX10_init_18 (fun q2 Γq2 Lq2 Fq2 Γ L F H locs hq2 hnq2 hpq2 hIq2 hk hk2q2 hL9 huq2 h' => ?_)
  have hq1 := (hk q1 (h.2.2.2.1 _ _ hq1).1).1.trans hq1
  have h0Γ := (hk h0 h0L).1.trans h0Γ
  have hF := (hk h0 h0L).2.1.trans hF
  have h11 : ∀ a, Γ a ≠ some 11 := fun a ha => (hL9 a (h'.2.2.2.1 a _ ha).1).elim (fun h1 => h11 a ((hk a h1).1.symm.trans ha)) (fun h1 => absurd ((hk2q2 a h1).1.symm.trans ha) (hpq2.1 a))
  obtain ⟨-, ⟨faq2, hpsq2, hpdq2⟩, f4q2, f5q2, laq2, hlsq2⟩ := hpq2
  have hpdq2 := hpdq2.mv (Γ' := Γ) (F' := F) (fun f hf => hpsq2.ty hf) (fun a t ha => ⟨(hk2q2 a (hIq2 a t ha).1).1.trans ha, (hk2q2 a (hIq2 a t ha).1).2.1⟩)
  have hlsq2 := hlsq2.mv hnq2 (Γ' := Γ) (F' := F) (fun a t ha => ⟨(hk2q2 a (hIq2 a t ha).1).1.trans ha, (hk2q2 a (hIq2 a t ha).1).2.1⟩)
  have hpsq2 := hpsq2.mv hnq2 (Γ' := Γ) (F' := F) (fun a t ha => ⟨(hk2q2 a (hIq2 a t ha).1).1.trans ha, (hk2q2 a (hIq2 a t ha).1).2.1⟩)
  obtain ⟨Xq2, hfcq2, hXq2⟩ : ∃ X, zFc Γ F X q2 ∧ ∀ a ∈ X, a ∈ Lq2 := ⟨_, (zFc.mk0 hIq2 hnq2).mv (fun a ha => ⟨(hk2q2 a (List.mem_filter.mp ha).1).1, (hk2q2 a (List.mem_filter.mp ha).1).2.1⟩), fun a ha => (List.mem_filter.mp ha).1⟩
  have f4q2 := zfld_e (hk2q2 q2 (hIq2 q2 _ hnq2).1).2.1 f4q2
  have f5q2 := zfld_e (hk2q2 q2 (hIq2 q2 _ hnq2).1).2.1 f5q2
  have h0L := (hk h0 h0L).2.2.1
  have h := h'
  clear h' hk hL9
  refine W.widen (k := 93) (n := 7049) (Nat.le_of_ble_eq_true rfl) (Nat.le_of_ble_eq_true rfl) ?_
  refine zj_putn (C := RX10) (T := TX10) (N := 14) (t := 10) (v := .ref q2) Y h h0L h0Γ hF ziin_10 tyX10 tyX10_ok nmX10 rfl 2 (by decide) (zmi (List.mem_of_getElem? (i := 100) rfl)) (fun _ h9 => h9) rfl rfl rfl (Nat.le_of_ble_eq_true rfl) dX10_init_21 (fun F' H locs hF' hne h' => ?_)
  have hF : F' h0 = .inr (10, [.ref q1, .int 0, .ref q2, .null, .null, .null, .null, .null, .int 0, .null, .null, .null, .int 0, .int 0]) := hF'
  have h := h'
  have hfcq2 := hfcq2.mv (Γ' := Γ) (F' := F') (fun a ha => ⟨rfl, hne a (hfcq2.no h0Γ a ha)⟩)
  have hpdq2 := hpdq2.mv (Γ' := Γ) (F' := F') (fun f hf => hpsq2.ty hf) (fun a t ha => ⟨ha, hne a (fun e9 => by rw [e9, h0Γ] at ha; cases ha)⟩)
  have hpsq2 := hpsq2.mv hq2 (Γ' := Γ) (F' := F') (fun a t ha => ⟨ha, hne a (fun e9 => by rw [e9, h0Γ] at ha; cases ha)⟩)
  have hlsq2 := hlsq2.mv hq2 (Γ' := Γ) (F' := F') (fun a t ha => ⟨ha, hne a (fun e9 => by rw [e9, h0Γ] at ha; cases ha)⟩)
  have f4q2 := zfld_e (hne q2 (fun e9 => by rw [e9, h0Γ] at hq2; cases hq2)) f4q2
  have f5q2 := zfld_e (hne q2 (fun e9 => by rw [e9, h0Γ] at hq2; cases hq2)) f5q2
  clear hF' hne h'
  generalize F' = F at h hF f4q2 f5q2 hpsq2 hfcq2 hlsq2 hpdq2
  refine lv_aload_n hx hb dX10_init_24 rfl (lv_at hl 0 rfl) ?_
  refine zj_new (t := 6) (C := RX6) (T := TX6) (N := 6) (fs := [.null, .null, .null, .null, .int 0, .int 0]) (mc := 91) (ms := 6443) (post := zp_6) Y h ziin_6 tyX6 tyX6_ok (zmi (List.mem_of_getElem? (i := 98) rfl)) (zmi (List.mem_of_getElem? (i := 99) rfl)) (zmi (List.mem_of_getElem? (i := 95) rfl)) rfl (fun j hj => z_df6 j hj) (fun q9 sz9 => zi_X6 l D k q9 sz9) (cwI 0 hts zgi_6 rfl rfl rfl (hts _ (zmi (List.mem_of_getElem? (i := 95) rfl))) (hts _ (zmi (List.mem_of_getElem? (i := 96) rfl))) (hts _ (zmi (List.mem_of_getElem? (i := 97) rfl))) rfl (by decide +kernel) ⟨by rw [hRf]; exact (Nat.le_of_ble_eq_true rfl), by rw [hRl]; exact (Nat.le_of_ble_eq_true rfl)⟩) hl.1 (Nat.le_of_ble_eq_true rfl) (by rw [hRc]; exact (Nat.le_of_ble_eq_true rfl)) (by rw [hRs]; exact (Nat.le_of_ble_eq_true rfl)) dX10_init_25 dX10_init_28 dX10_init_29 (fun q3 Γq3 Lq3 Fq3 Γ L F H locs hq3 hnq3 hpq3 hIq3 hk hk2q3 hL9 huq3 h' => ?_)
  have hq1 := (hk q1 (h.2.2.2.1 _ _ hq1).1).1.trans hq1
  have hoq2 := hq2
  have hq2 := (hk q2 (h.2.2.2.1 _ _ hq2).1).1.trans hq2
  have hdq2q3 : ∀ a ∈ Xq2, a ∉ Lq3 := fun a ha => (hk a (hfcq2.sub h.2.2.2.1 a ha)).2.2.2
  have hfcq2 := hfcq2.mv (Γ' := Γ) (F' := F) (fun a ha => ⟨(hk a (hfcq2.sub h.2.2.2.1 a ha)).1, (hk a (hfcq2.sub h.2.2.2.1 a ha)).2.1⟩)
  have hpdq2 := hpdq2.mv (Γ' := Γ) (F' := F) (fun f hf => hpsq2.ty hf) (fun a t ha => ⟨(hk a (h.2.2.2.1 a t ha).1).1.trans ha, (hk a (h.2.2.2.1 a t ha).1).2.1⟩)
  have hlsq2 := hlsq2.mv hoq2 (Γ' := Γ) (F' := F) (fun a t ha => ⟨(hk a (h.2.2.2.1 a t ha).1).1.trans ha, (hk a (h.2.2.2.1 a t ha).1).2.1⟩)
  have hpsq2 := hpsq2.mv hoq2 (Γ' := Γ) (F' := F) (fun a t ha => ⟨(hk a (h.2.2.2.1 a t ha).1).1.trans ha, (hk a (h.2.2.2.1 a t ha).1).2.1⟩)
  have f4q2 := zfld_e (hk q2 (h.2.2.2.1 _ _ hoq2).1).2.1 f4q2
  have f5q2 := zfld_e (hk q2 (h.2.2.2.1 _ _ hoq2).1).2.1 f5q2
  have h0Γ := (hk h0 h0L).1.trans h0Γ
  have hF := (hk h0 h0L).2.1.trans hF
  have h11 : ∀ a, Γ a ≠ some 11 := fun a ha => (hL9 a (h'.2.2.2.1 a _ ha).1).elim (fun h1 => h11 a ((hk a h1).1.symm.trans ha)) (fun h1 => absurd ((hk2q3 a h1).1.symm.trans ha) (hpq3.1 a))
  obtain ⟨-, ⟨faq3, hpsq3, hpdq3⟩, f4q3, f5q3, laq3, hlsq3⟩ := hpq3
  have hpdq3 := hpdq3.mv (Γ' := Γ) (F' := F) (fun f hf => hpsq3.ty hf) (fun a t ha => ⟨(hk2q3 a (hIq3 a t ha).1).1.trans ha, (hk2q3 a (hIq3 a t ha).1).2.1⟩)
  have hlsq3 := hlsq3.mv hnq3 (Γ' := Γ) (F' := F) (fun a t ha => ⟨(hk2q3 a (hIq3 a t ha).1).1.trans ha, (hk2q3 a (hIq3 a t ha).1).2.1⟩)
  have hpsq3 := hpsq3.mv hnq3 (Γ' := Γ) (F' := F) (fun a t ha => ⟨(hk2q3 a (hIq3 a t ha).1).1.trans ha, (hk2q3 a (hIq3 a t ha).1).2.1⟩)
  obtain ⟨Xq3, hfcq3, hXq3⟩ : ∃ X, zFc Γ F X q3 ∧ ∀ a ∈ X, a ∈ Lq3 := ⟨_, (zFc.mk0 hIq3 hnq3).mv (fun a ha => ⟨(hk2q3 a (List.mem_filter.mp ha).1).1, (hk2q3 a (List.mem_filter.mp ha).1).2.1⟩), fun a ha => (List.mem_filter.mp ha).1⟩
  have hdq2q3 : ∀ a ∈ Xq2, a ∉ Xq3 := fun a ha hb => hdq2q3 a ha (hXq3 a hb)
  have f4q3 := zfld_e (hk2q3 q3 (hIq3 q3 _ hnq3).1).2.1 f4q3
  have f5q3 := zfld_e (hk2q3 q3 (hIq3 q3 _ hnq3).1).2.1 f5q3
  have h0L := (hk h0 h0L).2.2.1
  have h := h'
  clear h' hk hL9
  refine W.widen (k := 185) (n := 13498) (Nat.le_of_ble_eq_true rfl) (Nat.le_of_ble_eq_true rfl) ?_
  refine zj_putn (C := RX10) (T := TX10) (N := 14) (t := 10) (v := .ref q3) Y h h0L h0Γ hF ziin_10 tyX10 tyX10_ok nmX10 rfl 3 (by decide) (zmi (List.mem_of_getElem? (i := 101) rfl)) (fun _ h9 => h9) rfl rfl rfl (Nat.le_of_ble_eq_true rfl) dX10_init_32 (fun F' H locs hF' hne h' => ?_)
  have hF : F' h0 = .inr (10, [.ref q1, .int 0, .ref q2, .ref q3, .null, .null, .null, .null, .int 0, .null, .null, .null, .int 0, .int 0]) := hF'
  have h := h'
  have hfcq2 := hfcq2.mv (Γ' := Γ) (F' := F') (fun a ha => ⟨rfl, hne a (hfcq2.no h0Γ a ha)⟩)
  have hfcq3 := hfcq3.mv (Γ' := Γ) (F' := F') (fun a ha => ⟨rfl, hne a (hfcq3.no h0Γ a ha)⟩)
  have hpdq2 := hpdq2.mv (Γ' := Γ) (F' := F') (fun f hf => hpsq2.ty hf) (fun a t ha => ⟨ha, hne a (fun e9 => by rw [e9, h0Γ] at ha; cases ha)⟩)
  have hpsq2 := hpsq2.mv hq2 (Γ' := Γ) (F' := F') (fun a t ha => ⟨ha, hne a (fun e9 => by rw [e9, h0Γ] at ha; cases ha)⟩)
  have hlsq2 := hlsq2.mv hq2 (Γ' := Γ) (F' := F') (fun a t ha => ⟨ha, hne a (fun e9 => by rw [e9, h0Γ] at ha; cases ha)⟩)
  have hpdq3 := hpdq3.mv (Γ' := Γ) (F' := F') (fun f hf => hpsq3.ty hf) (fun a t ha => ⟨ha, hne a (fun e9 => by rw [e9, h0Γ] at ha; cases ha)⟩)
  have hpsq3 := hpsq3.mv hq3 (Γ' := Γ) (F' := F') (fun a t ha => ⟨ha, hne a (fun e9 => by rw [e9, h0Γ] at ha; cases ha)⟩)
  have hlsq3 := hlsq3.mv hq3 (Γ' := Γ) (F' := F') (fun a t ha => ⟨ha, hne a (fun e9 => by rw [e9, h0Γ] at ha; cases ha)⟩)
  have f4q2 := zfld_e (hne q2 (fun e9 => by rw [e9, h0Γ] at hq2; cases hq2)) f4q2
  have f5q2 := zfld_e (hne q2 (fun e9 => by rw [e9, h0Γ] at hq2; cases hq2)) f5q2
  have f4q3 := zfld_e (hne q3 (fun e9 => by rw [e9, h0Γ] at hq3; cases hq3)) f4q3
  have f5q3 := zfld_e (hne q3 (fun e9 => by rw [e9, h0Γ] at hq3; cases hq3)) f5q3
  clear hF' hne h'
  generalize F' = F at h hF f4q2 f5q2 hpsq2 hfcq2 hlsq2 hpdq2 f4q3 f5q3 hpsq3 hfcq3 hlsq3 hpdq3
  refine lv_aload_n hx hb dX10_init_35 rfl (lv_at hl 0 rfl) ?_
  refine zj_new (t := 7) (C := RX7) (T := TX7) (N := 12) (fs := [.int 0, .int 0, .int 0, .null, .null, .null, .int 0, .null, .null, .null, .null, .int 0]) (mc := 4) (ms := 600) (post := zp_7) Y h ziin_7 tyX7 tyX7_ok (zmi (List.mem_of_getElem? (i := 105) rfl)) (zmi (List.mem_of_getElem? (i := 106) rfl)) (zmi (List.mem_of_getElem? (i := 102) rfl)) rfl (fun j hj => z_df7 j hj) (fun q9 sz9 => zi_X7 l D k q9 sz9) (cwI 0 hts zgi_7 rfl rfl rfl (hts _ (zmi (List.mem_of_getElem? (i := 102) rfl))) (hts _ (zmi (List.mem_of_getElem? (i := 103) rfl))) (hts _ (zmi (List.mem_of_getElem? (i := 104) rfl))) rfl (by decide +kernel) ⟨by rw [hRf]; exact (Nat.le_of_ble_eq_true rfl), by rw [hRl]; exact (Nat.le_of_ble_eq_true rfl)⟩) hl.1 (Nat.le_of_ble_eq_true rfl) (by rw [hRc]; exact (Nat.le_of_ble_eq_true rfl)) (by rw [hRs]; exact (Nat.le_of_ble_eq_true rfl)) dX10_init_36 dX10_init_39 dX10_init_40 (fun q4 Γq4 Lq4 Fq4 Γ L F H locs hq4 hnq4 hpq4 hIq4 hk hk2q4 hL9 huq4 h' => ?_)
  have hq1 := (hk q1 (h.2.2.2.1 _ _ hq1).1).1.trans hq1
  have hoq2 := hq2
  have hq2 := (hk q2 (h.2.2.2.1 _ _ hq2).1).1.trans hq2
  have hoq3 := hq3
  have hq3 := (hk q3 (h.2.2.2.1 _ _ hq3).1).1.trans hq3
  have hfcq2 := hfcq2.mv (Γ' := Γ) (F' := F) (fun a ha => ⟨(hk a (hfcq2.sub h.2.2.2.1 a ha)).1, (hk a (hfcq2.sub h.2.2.2.1 a ha)).2.1⟩)
  have hfcq3 := hfcq3.mv (Γ' := Γ) (F' := F) (fun a ha => ⟨(hk a (hfcq3.sub h.2.2.2.1 a ha)).1, (hk a (hfcq3.sub h.2.2.2.1 a ha)).2.1⟩)
  have hpdq2 := hpdq2.mv (Γ' := Γ) (F' := F) (fun f hf => hpsq2.ty hf) (fun a t ha => ⟨(hk a (h.2.2.2.1 a t ha).1).1.trans ha, (hk a (h.2.2.2.1 a t ha).1).2.1⟩)
  have hlsq2 := hlsq2.mv hoq2 (Γ' := Γ) (F' := F) (fun a t ha => ⟨(hk a (h.2.2.2.1 a t ha).1).1.trans ha, (hk a (h.2.2.2.1 a t ha).1).2.1⟩)
  have hpsq2 := hpsq2.mv hoq2 (Γ' := Γ) (F' := F) (fun a t ha => ⟨(hk a (h.2.2.2.1 a t ha).1).1.trans ha, (hk a (h.2.2.2.1 a t ha).1).2.1⟩)
  have hpdq3 := hpdq3.mv (Γ' := Γ) (F' := F) (fun f hf => hpsq3.ty hf) (fun a t ha => ⟨(hk a (h.2.2.2.1 a t ha).1).1.trans ha, (hk a (h.2.2.2.1 a t ha).1).2.1⟩)
  have hlsq3 := hlsq3.mv hoq3 (Γ' := Γ) (F' := F) (fun a t ha => ⟨(hk a (h.2.2.2.1 a t ha).1).1.trans ha, (hk a (h.2.2.2.1 a t ha).1).2.1⟩)
  have hpsq3 := hpsq3.mv hoq3 (Γ' := Γ) (F' := F) (fun a t ha => ⟨(hk a (h.2.2.2.1 a t ha).1).1.trans ha, (hk a (h.2.2.2.1 a t ha).1).2.1⟩)
  have f4q2 := zfld_e (hk q2 (h.2.2.2.1 _ _ hoq2).1).2.1 f4q2
  have f5q2 := zfld_e (hk q2 (h.2.2.2.1 _ _ hoq2).1).2.1 f5q2
  have f4q3 := zfld_e (hk q3 (h.2.2.2.1 _ _ hoq3).1).2.1 f4q3
  have f5q3 := zfld_e (hk q3 (h.2.2.2.1 _ _ hoq3).1).2.1 f5q3
  have h0Γ := (hk h0 h0L).1.trans h0Γ
  have hF := (hk h0 h0L).2.1.trans hF
  have h11 : ∀ a, Γ a ≠ some 11 := fun a ha => (hL9 a (h'.2.2.2.1 a _ ha).1).elim (fun h1 => h11 a ((hk a h1).1.symm.trans ha)) (fun h1 => absurd ((hk2q4 a h1).1.symm.trans ha) (hpq4 a))
  have h0L := (hk h0 h0L).2.2.1
  have h := h'
  clear h' hk hL9
  refine W.widen (k := 190) (n := 14110) (Nat.le_of_ble_eq_true rfl) (Nat.le_of_ble_eq_true rfl) ?_
  refine zj_put (C := RX10) (T := TX10) (N := 14) (t := 10) (v := .ref q4) Y h h0L h0Γ hF ziin_10 tyX10 tyX10_ok nmX10 rfl 4 (by decide) (zmi (List.mem_of_getElem? (i := 107) rfl)) (fun _ h9 => h9) rfl hini rfl rfl rfl (Nat.le_of_ble_eq_true rfl) dX10_init_43 (fun F' H locs hF' hne h' => ?_)
  have hF : F' h0 = .inr (10, [.ref q1, .int 0, .ref q2, .ref q3, .ref q4, .null, .null, .null, .int 0, .null, .null, .null, .int 0, .int 0]) := hF'
  have h := h'
  have hfcq2 := hfcq2.mv (Γ' := Γ) (F' := F') (fun a ha => ⟨rfl, hne a (hfcq2.no h0Γ a ha)⟩)
  have hfcq3 := hfcq3.mv (Γ' := Γ) (F' := F') (fun a ha => ⟨rfl, hne a (hfcq3.no h0Γ a ha)⟩)
  have hpdq2 := hpdq2.mv (Γ' := Γ) (F' := F') (fun f hf => hpsq2.ty hf) (fun a t ha => ⟨ha, hne a (fun e9 => by rw [e9, h0Γ] at ha; cases ha)⟩)
  have hpsq2 := hpsq2.mv hq2 (Γ' := Γ) (F' := F') (fun a t ha => ⟨ha, hne a (fun e9 => by rw [e9, h0Γ] at ha; cases ha)⟩)
  have hlsq2 := hlsq2.mv hq2 (Γ' := Γ) (F' := F') (fun a t ha => ⟨ha, hne a (fun e9 => by rw [e9, h0Γ] at ha; cases ha)⟩)
  have hpdq3 := hpdq3.mv (Γ' := Γ) (F' := F') (fun f hf => hpsq3.ty hf) (fun a t ha => ⟨ha, hne a (fun e9 => by rw [e9, h0Γ] at ha; cases ha)⟩)
  have hpsq3 := hpsq3.mv hq3 (Γ' := Γ) (F' := F') (fun a t ha => ⟨ha, hne a (fun e9 => by rw [e9, h0Γ] at ha; cases ha)⟩)
  have hlsq3 := hlsq3.mv hq3 (Γ' := Γ) (F' := F') (fun a t ha => ⟨ha, hne a (fun e9 => by rw [e9, h0Γ] at ha; cases ha)⟩)
  have f4q2 := zfld_e (hne q2 (fun e9 => by rw [e9, h0Γ] at hq2; cases hq2)) f4q2
  have f5q2 := zfld_e (hne q2 (fun e9 => by rw [e9, h0Γ] at hq2; cases hq2)) f5q2
  have f4q3 := zfld_e (hne q3 (fun e9 => by rw [e9, h0Γ] at hq3; cases hq3)) f4q3
  have f5q3 := zfld_e (hne q3 (fun e9 => by rw [e9, h0Γ] at hq3; cases hq3)) f5q3
  clear hF' hne h'
  generalize F' = F at h hF f4q2 f5q2 hpsq2 hfcq2 hlsq2 hpdq2 f4q3 f5q3 hpsq3 hfcq3 hlsq3 hpdq3
  refine lv_aload_n hx hb dX10_init_46 rfl (lv_at hl 0 rfl) ?_
  refine zj_new (t := 5) (C := RX5) (T := TX5) (N := 19) (fs := [.int 0, .int 0, .int 0, .int 0, .int 0, .int 0, .long 0, .null, .null, .null, .null, .int 0, .int 0, .int 0, .int 0, .int 0, .null, .null, .int 0]) (mc := 5) (ms := 2020) (post := zp_5) Y h ziin_5 tyX5 tyX5_ok (zmi (List.mem_of_getElem? (i := 111) rfl)) (zmi (List.mem_of_getElem? (i := 112) rfl)) (zmi (List.mem_of_getElem? (i := 108) rfl)) rfl (fun j hj => z_df5 j hj) (fun q9 sz9 => zi_X5 l D k q9 sz9) (cwI 0 hts zgi_5 rfl rfl rfl (hts _ (zmi (List.mem_of_getElem? (i := 108) rfl))) (hts _ (zmi (List.mem_of_getElem? (i := 109) rfl))) (hts _ (zmi (List.mem_of_getElem? (i := 110) rfl))) rfl (by decide +kernel) ⟨by rw [hRf]; exact (Nat.le_of_ble_eq_true rfl), by rw [hRl]; exact (Nat.le_of_ble_eq_true rfl)⟩) hl.1 (Nat.le_of_ble_eq_true rfl) (by rw [hRc]; exact (Nat.le_of_ble_eq_true rfl)) (by rw [hRs]; exact (Nat.le_of_ble_eq_true rfl)) dX10_init_47 dX10_init_50 dX10_init_51 (fun q5 Γq5 Lq5 Fq5 Γ L F H locs hq5 hnq5 hpq5 hIq5 hk hk2q5 hL9 huq5 h' => ?_)
  have hq1 := (hk q1 (h.2.2.2.1 _ _ hq1).1).1.trans hq1
  have hoq2 := hq2
  have hq2 := (hk q2 (h.2.2.2.1 _ _ hq2).1).1.trans hq2
  have hoq3 := hq3
  have hq3 := (hk q3 (h.2.2.2.1 _ _ hq3).1).1.trans hq3
  have hq4 := (hk q4 (h.2.2.2.1 _ _ hq4).1).1.trans hq4
  have hfcq2 := hfcq2.mv (Γ' := Γ) (F' := F) (fun a ha => ⟨(hk a (hfcq2.sub h.2.2.2.1 a ha)).1, (hk a (hfcq2.sub h.2.2.2.1 a ha)).2.1⟩)
  have hfcq3 := hfcq3.mv (Γ' := Γ) (F' := F) (fun a ha => ⟨(hk a (hfcq3.sub h.2.2.2.1 a ha)).1, (hk a (hfcq3.sub h.2.2.2.1 a ha)).2.1⟩)
  have hpdq2 := hpdq2.mv (Γ' := Γ) (F' := F) (fun f hf => hpsq2.ty hf) (fun a t ha => ⟨(hk a (h.2.2.2.1 a t ha).1).1.trans ha, (hk a (h.2.2.2.1 a t ha).1).2.1⟩)
  have hlsq2 := hlsq2.mv hoq2 (Γ' := Γ) (F' := F) (fun a t ha => ⟨(hk a (h.2.2.2.1 a t ha).1).1.trans ha, (hk a (h.2.2.2.1 a t ha).1).2.1⟩)
  have hpsq2 := hpsq2.mv hoq2 (Γ' := Γ) (F' := F) (fun a t ha => ⟨(hk a (h.2.2.2.1 a t ha).1).1.trans ha, (hk a (h.2.2.2.1 a t ha).1).2.1⟩)
  have hpdq3 := hpdq3.mv (Γ' := Γ) (F' := F) (fun f hf => hpsq3.ty hf) (fun a t ha => ⟨(hk a (h.2.2.2.1 a t ha).1).1.trans ha, (hk a (h.2.2.2.1 a t ha).1).2.1⟩)
  have hlsq3 := hlsq3.mv hoq3 (Γ' := Γ) (F' := F) (fun a t ha => ⟨(hk a (h.2.2.2.1 a t ha).1).1.trans ha, (hk a (h.2.2.2.1 a t ha).1).2.1⟩)
  have hpsq3 := hpsq3.mv hoq3 (Γ' := Γ) (F' := F) (fun a t ha => ⟨(hk a (h.2.2.2.1 a t ha).1).1.trans ha, (hk a (h.2.2.2.1 a t ha).1).2.1⟩)
  have f4q2 := zfld_e (hk q2 (h.2.2.2.1 _ _ hoq2).1).2.1 f4q2
  have f5q2 := zfld_e (hk q2 (h.2.2.2.1 _ _ hoq2).1).2.1 f5q2
  have f4q3 := zfld_e (hk q3 (h.2.2.2.1 _ _ hoq3).1).2.1 f4q3
  have f5q3 := zfld_e (hk q3 (h.2.2.2.1 _ _ hoq3).1).2.1 f5q3
  have h0Γ := (hk h0 h0L).1.trans h0Γ
  have hF := (hk h0 h0L).2.1.trans hF
  have h11 : ∀ a, Γ a ≠ some 11 := fun a ha => (hL9 a (h'.2.2.2.1 a _ ha).1).elim (fun h1 => h11 a ((hk a h1).1.symm.trans ha)) (fun h1 => absurd ((hk2q5 a h1).1.symm.trans ha) (hpq5.1 a))
  have f14q5 := zfld_e (hk2q5 q5 (hIq5 q5 _ hnq5).1).2.1 hpq5.2
  obtain ⟨Xq5, hmaq5, hXq5⟩ : ∃ X, zMa Γ F q5 X ∧ ∀ a ∈ X, a ∈ Lq5 := ⟨_, (zMa.mk0 hIq5 hnq5).mv (fun a ha => ⟨(hk2q5 a (List.mem_filter.mp ha).1).1, (hk2q5 a (List.mem_filter.mp ha).1).2.1⟩), fun a ha => (List.mem_filter.mp ha).1⟩
  have h0L := (hk h0 h0L).2.2.1
  have h := h'
  clear h' hk hL9
  refine W.widen (k := 196) (n := 16149) (Nat.le_of_ble_eq_true rfl) (Nat.le_of_ble_eq_true rfl) ?_
  refine zj_put (C := RX10) (T := TX10) (N := 14) (t := 10) (v := .ref q5) Y h h0L h0Γ hF ziin_10 tyX10 tyX10_ok nmX10 rfl 5 (by decide) (zmi (List.mem_of_getElem? (i := 113) rfl)) (fun _ h9 => h9) rfl hini rfl rfl rfl (Nat.le_of_ble_eq_true rfl) dX10_init_54 (fun F' H locs hF' hne h' => ?_)
  have hF : F' h0 = .inr (10, [.ref q1, .int 0, .ref q2, .ref q3, .ref q4, .ref q5, .null, .null, .int 0, .null, .null, .null, .int 0, .int 0]) := hF'
  have h := h'
  have hmaq5 := hmaq5.mv (Γ' := Γ) (F' := F') (fun a ha => ⟨rfl, hne a (hmaq5.no h0Γ a ha)⟩)
  have hfcq2 := hfcq2.mv (Γ' := Γ) (F' := F') (fun a ha => ⟨rfl, hne a (hfcq2.no h0Γ a ha)⟩)
  have hfcq3 := hfcq3.mv (Γ' := Γ) (F' := F') (fun a ha => ⟨rfl, hne a (hfcq3.no h0Γ a ha)⟩)
  have hpdq2 := hpdq2.mv (Γ' := Γ) (F' := F') (fun f hf => hpsq2.ty hf) (fun a t ha => ⟨ha, hne a (fun e9 => by rw [e9, h0Γ] at ha; cases ha)⟩)
  have hpsq2 := hpsq2.mv hq2 (Γ' := Γ) (F' := F') (fun a t ha => ⟨ha, hne a (fun e9 => by rw [e9, h0Γ] at ha; cases ha)⟩)
  have hlsq2 := hlsq2.mv hq2 (Γ' := Γ) (F' := F') (fun a t ha => ⟨ha, hne a (fun e9 => by rw [e9, h0Γ] at ha; cases ha)⟩)
  have hpdq3 := hpdq3.mv (Γ' := Γ) (F' := F') (fun f hf => hpsq3.ty hf) (fun a t ha => ⟨ha, hne a (fun e9 => by rw [e9, h0Γ] at ha; cases ha)⟩)
  have hpsq3 := hpsq3.mv hq3 (Γ' := Γ) (F' := F') (fun a t ha => ⟨ha, hne a (fun e9 => by rw [e9, h0Γ] at ha; cases ha)⟩)
  have hlsq3 := hlsq3.mv hq3 (Γ' := Γ) (F' := F') (fun a t ha => ⟨ha, hne a (fun e9 => by rw [e9, h0Γ] at ha; cases ha)⟩)
  have f4q2 := zfld_e (hne q2 (fun e9 => by rw [e9, h0Γ] at hq2; cases hq2)) f4q2
  have f5q2 := zfld_e (hne q2 (fun e9 => by rw [e9, h0Γ] at hq2; cases hq2)) f5q2
  have f4q3 := zfld_e (hne q3 (fun e9 => by rw [e9, h0Γ] at hq3; cases hq3)) f4q3
  have f5q3 := zfld_e (hne q3 (fun e9 => by rw [e9, h0Γ] at hq3; cases hq3)) f5q3
  have f14q5 := zfld_e (hne q5 (fun e9 => by rw [e9, h0Γ] at hq5; cases hq5)) f14q5
  clear hF' hne h'
  generalize F' = F at h hF f4q2 f5q2 hpsq2 hfcq2 hlsq2 hpdq2 f4q3 f5q3 hpsq3 hfcq3 hlsq3 hpdq3 f14q5 hmaq5
  refine lv_aload_n hx hb dX10_init_57 rfl (lv_at hl 0 rfl) ?_
  refine zj_new (t := 5) (C := RX5) (T := TX5) (N := 19) (fs := [.int 0, .int 0, .int 0, .int 0, .int 0, .int 0, .long 0, .null, .null, .null, .null, .int 0, .int 0, .int 0, .int 0, .int 0, .null, .null, .int 0]) (mc := 5) (ms := 2020) (post := zp_5) Y h ziin_5 tyX5 tyX5_ok (zmi (List.mem_of_getElem? (i := 111) rfl)) (zmi (List.mem_of_getElem? (i := 112) rfl)) (zmi (List.mem_of_getElem? (i := 108) rfl)) rfl (fun j hj => z_df5 j hj) (fun q9 sz9 => zi_X5 l D k q9 sz9) (cwI 0 hts zgi_5 rfl rfl rfl (hts _ (zmi (List.mem_of_getElem? (i := 108) rfl))) (hts _ (zmi (List.mem_of_getElem? (i := 109) rfl))) (hts _ (zmi (List.mem_of_getElem? (i := 110) rfl))) rfl (by decide +kernel) ⟨by rw [hRf]; exact (Nat.le_of_ble_eq_true rfl), by rw [hRl]; exact (Nat.le_of_ble_eq_true rfl)⟩) hl.1 (Nat.le_of_ble_eq_true rfl) (by rw [hRc]; exact (Nat.le_of_ble_eq_true rfl)) (by rw [hRs]; exact (Nat.le_of_ble_eq_true rfl)) dX10_init_58 dX10_init_61 dX10_init_62 (fun q6 Γq6 Lq6 Fq6 Γ L F H locs hq6 hnq6 hpq6 hIq6 hk hk2q6 hL9 huq6 h' => ?_)
  have hq1 := (hk q1 (h.2.2.2.1 _ _ hq1).1).1.trans hq1
  have hoq2 := hq2
  have hq2 := (hk q2 (h.2.2.2.1 _ _ hq2).1).1.trans hq2
  have hoq3 := hq3
  have hq3 := (hk q3 (h.2.2.2.1 _ _ hq3).1).1.trans hq3
  have hq4 := (hk q4 (h.2.2.2.1 _ _ hq4).1).1.trans hq4
  have hoq5 := hq5
  have hq5 := (hk q5 (h.2.2.2.1 _ _ hq5).1).1.trans hq5
  have hdq5q6 : ∀ a ∈ Xq5, a ∉ Lq6 := fun a ha => (hk a (hmaq5.sub h.2.2.2.1 a ha)).2.2.2
  have hmaq5 := hmaq5.mv (Γ' := Γ) (F' := F) (fun a ha => ⟨(hk a (hmaq5.sub h.2.2.2.1 a ha)).1, (hk a (hmaq5.sub h.2.2.2.1 a ha)).2.1⟩)
  have hfcq2 := hfcq2.mv (Γ' := Γ) (F' := F) (fun a ha => ⟨(hk a (hfcq2.sub h.2.2.2.1 a ha)).1, (hk a (hfcq2.sub h.2.2.2.1 a ha)).2.1⟩)
  have hfcq3 := hfcq3.mv (Γ' := Γ) (F' := F) (fun a ha => ⟨(hk a (hfcq3.sub h.2.2.2.1 a ha)).1, (hk a (hfcq3.sub h.2.2.2.1 a ha)).2.1⟩)
  have hpdq2 := hpdq2.mv (Γ' := Γ) (F' := F) (fun f hf => hpsq2.ty hf) (fun a t ha => ⟨(hk a (h.2.2.2.1 a t ha).1).1.trans ha, (hk a (h.2.2.2.1 a t ha).1).2.1⟩)
  have hlsq2 := hlsq2.mv hoq2 (Γ' := Γ) (F' := F) (fun a t ha => ⟨(hk a (h.2.2.2.1 a t ha).1).1.trans ha, (hk a (h.2.2.2.1 a t ha).1).2.1⟩)
  have hpsq2 := hpsq2.mv hoq2 (Γ' := Γ) (F' := F) (fun a t ha => ⟨(hk a (h.2.2.2.1 a t ha).1).1.trans ha, (hk a (h.2.2.2.1 a t ha).1).2.1⟩)
  have hpdq3 := hpdq3.mv (Γ' := Γ) (F' := F) (fun f hf => hpsq3.ty hf) (fun a t ha => ⟨(hk a (h.2.2.2.1 a t ha).1).1.trans ha, (hk a (h.2.2.2.1 a t ha).1).2.1⟩)
  have hlsq3 := hlsq3.mv hoq3 (Γ' := Γ) (F' := F) (fun a t ha => ⟨(hk a (h.2.2.2.1 a t ha).1).1.trans ha, (hk a (h.2.2.2.1 a t ha).1).2.1⟩)
  have hpsq3 := hpsq3.mv hoq3 (Γ' := Γ) (F' := F) (fun a t ha => ⟨(hk a (h.2.2.2.1 a t ha).1).1.trans ha, (hk a (h.2.2.2.1 a t ha).1).2.1⟩)
  have f4q2 := zfld_e (hk q2 (h.2.2.2.1 _ _ hoq2).1).2.1 f4q2
  have f5q2 := zfld_e (hk q2 (h.2.2.2.1 _ _ hoq2).1).2.1 f5q2
  have f4q3 := zfld_e (hk q3 (h.2.2.2.1 _ _ hoq3).1).2.1 f4q3
  have f5q3 := zfld_e (hk q3 (h.2.2.2.1 _ _ hoq3).1).2.1 f5q3
  have f14q5 := zfld_e (hk q5 (h.2.2.2.1 _ _ hoq5).1).2.1 f14q5
  have h0Γ := (hk h0 h0L).1.trans h0Γ
  have hF := (hk h0 h0L).2.1.trans hF
  have h11 : ∀ a, Γ a ≠ some 11 := fun a ha => (hL9 a (h'.2.2.2.1 a _ ha).1).elim (fun h1 => h11 a ((hk a h1).1.symm.trans ha)) (fun h1 => absurd ((hk2q6 a h1).1.symm.trans ha) (hpq6.1 a))
  have f14q6 := zfld_e (hk2q6 q6 (hIq6 q6 _ hnq6).1).2.1 hpq6.2
  obtain ⟨Xq6, hmaq6, hXq6⟩ : ∃ X, zMa Γ F q6 X ∧ ∀ a ∈ X, a ∈ Lq6 := ⟨_, (zMa.mk0 hIq6 hnq6).mv (fun a ha => ⟨(hk2q6 a (List.mem_filter.mp ha).1).1, (hk2q6 a (List.mem_filter.mp ha).1).2.1⟩), fun a ha => (List.mem_filter.mp ha).1⟩
  have hdq5q6 : ∀ a ∈ Xq5, a ∉ Xq6 := fun a ha hb => hdq5q6 a ha (hXq6 a hb)
  have h0L := (hk h0 h0L).2.2.1
  have h := h'
  clear h' hk hL9
  refine W.widen (k := 202) (n := 18188) (Nat.le_of_ble_eq_true rfl) (Nat.le_of_ble_eq_true rfl) ?_
  refine zj_put (C := RX10) (T := TX10) (N := 14) (t := 10) (v := .ref q6) Y h h0L h0Γ hF ziin_10 tyX10 tyX10_ok nmX10 rfl 6 (by decide) (zmi (List.mem_of_getElem? (i := 114) rfl)) (fun _ h9 => h9) rfl hini rfl rfl rfl (Nat.le_of_ble_eq_true rfl) dX10_init_65 (fun F' H locs hF' hne h' => ?_)
  have hF : F' h0 = .inr (10, [.ref q1, .int 0, .ref q2, .ref q3, .ref q4, .ref q5, .ref q6, .null, .int 0, .null, .null, .null, .int 0, .int 0]) := hF'
  have h := h'
  have hmaq5 := hmaq5.mv (Γ' := Γ) (F' := F') (fun a ha => ⟨rfl, hne a (hmaq5.no h0Γ a ha)⟩)
  have hmaq6 := hmaq6.mv (Γ' := Γ) (F' := F') (fun a ha => ⟨rfl, hne a (hmaq6.no h0Γ a ha)⟩)
  have hfcq2 := hfcq2.mv (Γ' := Γ) (F' := F') (fun a ha => ⟨rfl, hne a (hfcq2.no h0Γ a ha)⟩)
  have hfcq3 := hfcq3.mv (Γ' := Γ) (F' := F') (fun a ha => ⟨rfl, hne a (hfcq3.no h0Γ a ha)⟩)
  have hpdq2 := hpdq2.mv (Γ' := Γ) (F' := F') (fun f hf => hpsq2.ty hf) (fun a t ha => ⟨ha, hne a (fun e9 => by rw [e9, h0Γ] at ha; cases ha)⟩)
  have hpsq2 := hpsq2.mv hq2 (Γ' := Γ) (F' := F') (fun a t ha => ⟨ha, hne a (fun e9 => by rw [e9, h0Γ] at ha; cases ha)⟩)
  have hlsq2 := hlsq2.mv hq2 (Γ' := Γ) (F' := F') (fun a t ha => ⟨ha, hne a (fun e9 => by rw [e9, h0Γ] at ha; cases ha)⟩)
  have hpdq3 := hpdq3.mv (Γ' := Γ) (F' := F') (fun f hf => hpsq3.ty hf) (fun a t ha => ⟨ha, hne a (fun e9 => by rw [e9, h0Γ] at ha; cases ha)⟩)
  have hpsq3 := hpsq3.mv hq3 (Γ' := Γ) (F' := F') (fun a t ha => ⟨ha, hne a (fun e9 => by rw [e9, h0Γ] at ha; cases ha)⟩)
  have hlsq3 := hlsq3.mv hq3 (Γ' := Γ) (F' := F') (fun a t ha => ⟨ha, hne a (fun e9 => by rw [e9, h0Γ] at ha; cases ha)⟩)
  have f4q2 := zfld_e (hne q2 (fun e9 => by rw [e9, h0Γ] at hq2; cases hq2)) f4q2
  have f5q2 := zfld_e (hne q2 (fun e9 => by rw [e9, h0Γ] at hq2; cases hq2)) f5q2
  have f4q3 := zfld_e (hne q3 (fun e9 => by rw [e9, h0Γ] at hq3; cases hq3)) f4q3
  have f5q3 := zfld_e (hne q3 (fun e9 => by rw [e9, h0Γ] at hq3; cases hq3)) f5q3
  have f14q5 := zfld_e (hne q5 (fun e9 => by rw [e9, h0Γ] at hq5; cases hq5)) f14q5
  have f14q6 := zfld_e (hne q6 (fun e9 => by rw [e9, h0Γ] at hq6; cases hq6)) f14q6
  clear hF' hne h'
  generalize F' = F at h hF f4q2 f5q2 hpsq2 hfcq2 hlsq2 hpdq2 f4q3 f5q3 hpsq3 hfcq3 hlsq3 hpdq3 f14q5 hmaq5 f14q6 hmaq6
  refine lv_aload_n hx hb dX10_init_68 rfl (lv_at hl 0 rfl) ?_
  refine zj_new (t := 5) (C := RX5) (T := TX5) (N := 19) (fs := [.int 0, .int 0, .int 0, .int 0, .int 0, .int 0, .long 0, .null, .null, .null, .null, .int 0, .int 0, .int 0, .int 0, .int 0, .null, .null, .int 0]) (mc := 5) (ms := 2020) (post := zp_5) Y h ziin_5 tyX5 tyX5_ok (zmi (List.mem_of_getElem? (i := 111) rfl)) (zmi (List.mem_of_getElem? (i := 112) rfl)) (zmi (List.mem_of_getElem? (i := 108) rfl)) rfl (fun j hj => z_df5 j hj) (fun q9 sz9 => zi_X5 l D k q9 sz9) (cwI 0 hts zgi_5 rfl rfl rfl (hts _ (zmi (List.mem_of_getElem? (i := 108) rfl))) (hts _ (zmi (List.mem_of_getElem? (i := 109) rfl))) (hts _ (zmi (List.mem_of_getElem? (i := 110) rfl))) rfl (by decide +kernel) ⟨by rw [hRf]; exact (Nat.le_of_ble_eq_true rfl), by rw [hRl]; exact (Nat.le_of_ble_eq_true rfl)⟩) hl.1 (Nat.le_of_ble_eq_true rfl) (by rw [hRc]; exact (Nat.le_of_ble_eq_true rfl)) (by rw [hRs]; exact (Nat.le_of_ble_eq_true rfl)) dX10_init_69 dX10_init_72 dX10_init_73 (fun q7 Γq7 Lq7 Fq7 Γ L F H locs hq7 hnq7 hpq7 hIq7 hk hk2q7 hL9 huq7 h' => ?_)
  have hq1 := (hk q1 (h.2.2.2.1 _ _ hq1).1).1.trans hq1
  have hoq2 := hq2
  have hq2 := (hk q2 (h.2.2.2.1 _ _ hq2).1).1.trans hq2
  have hoq3 := hq3
  have hq3 := (hk q3 (h.2.2.2.1 _ _ hq3).1).1.trans hq3
  have hq4 := (hk q4 (h.2.2.2.1 _ _ hq4).1).1.trans hq4
  have hoq5 := hq5
  have hq5 := (hk q5 (h.2.2.2.1 _ _ hq5).1).1.trans hq5
  have hoq6 := hq6
  have hq6 := (hk q6 (h.2.2.2.1 _ _ hq6).1).1.trans hq6
  have hdq5q7 : ∀ a ∈ Xq5, a ∉ Lq7 := fun a ha => (hk a (hmaq5.sub h.2.2.2.1 a ha)).2.2.2
  have hdq6q7 : ∀ a ∈ Xq6, a ∉ Lq7 := fun a ha => (hk a (hmaq6.sub h.2.2.2.1 a ha)).2.2.2
  have hmaq5 := hmaq5.mv (Γ' := Γ) (F' := F) (fun a ha => ⟨(hk a (hmaq5.sub h.2.2.2.1 a ha)).1, (hk a (hmaq5.sub h.2.2.2.1 a ha)).2.1⟩)
  have hmaq6 := hmaq6.mv (Γ' := Γ) (F' := F) (fun a ha => ⟨(hk a (hmaq6.sub h.2.2.2.1 a ha)).1, (hk a (hmaq6.sub h.2.2.2.1 a ha)).2.1⟩)
  have hfcq2 := hfcq2.mv (Γ' := Γ) (F' := F) (fun a ha => ⟨(hk a (hfcq2.sub h.2.2.2.1 a ha)).1, (hk a (hfcq2.sub h.2.2.2.1 a ha)).2.1⟩)
  have hfcq3 := hfcq3.mv (Γ' := Γ) (F' := F) (fun a ha => ⟨(hk a (hfcq3.sub h.2.2.2.1 a ha)).1, (hk a (hfcq3.sub h.2.2.2.1 a ha)).2.1⟩)
  have hpdq2 := hpdq2.mv (Γ' := Γ) (F' := F) (fun f hf => hpsq2.ty hf) (fun a t ha => ⟨(hk a (h.2.2.2.1 a t ha).1).1.trans ha, (hk a (h.2.2.2.1 a t ha).1).2.1⟩)
  have hlsq2 := hlsq2.mv hoq2 (Γ' := Γ) (F' := F) (fun a t ha => ⟨(hk a (h.2.2.2.1 a t ha).1).1.trans ha, (hk a (h.2.2.2.1 a t ha).1).2.1⟩)
  have hpsq2 := hpsq2.mv hoq2 (Γ' := Γ) (F' := F) (fun a t ha => ⟨(hk a (h.2.2.2.1 a t ha).1).1.trans ha, (hk a (h.2.2.2.1 a t ha).1).2.1⟩)
  have hpdq3 := hpdq3.mv (Γ' := Γ) (F' := F) (fun f hf => hpsq3.ty hf) (fun a t ha => ⟨(hk a (h.2.2.2.1 a t ha).1).1.trans ha, (hk a (h.2.2.2.1 a t ha).1).2.1⟩)
  have hlsq3 := hlsq3.mv hoq3 (Γ' := Γ) (F' := F) (fun a t ha => ⟨(hk a (h.2.2.2.1 a t ha).1).1.trans ha, (hk a (h.2.2.2.1 a t ha).1).2.1⟩)
  have hpsq3 := hpsq3.mv hoq3 (Γ' := Γ) (F' := F) (fun a t ha => ⟨(hk a (h.2.2.2.1 a t ha).1).1.trans ha, (hk a (h.2.2.2.1 a t ha).1).2.1⟩)
  have f4q2 := zfld_e (hk q2 (h.2.2.2.1 _ _ hoq2).1).2.1 f4q2
  have f5q2 := zfld_e (hk q2 (h.2.2.2.1 _ _ hoq2).1).2.1 f5q2
  have f4q3 := zfld_e (hk q3 (h.2.2.2.1 _ _ hoq3).1).2.1 f4q3
  have f5q3 := zfld_e (hk q3 (h.2.2.2.1 _ _ hoq3).1).2.1 f5q3
  have f14q5 := zfld_e (hk q5 (h.2.2.2.1 _ _ hoq5).1).2.1 f14q5
  have f14q6 := zfld_e (hk q6 (h.2.2.2.1 _ _ hoq6).1).2.1 f14q6
  have h0Γ := (hk h0 h0L).1.trans h0Γ
  have hF := (hk h0 h0L).2.1.trans hF
  have h11 : ∀ a, Γ a ≠ some 11 := fun a ha => (hL9 a (h'.2.2.2.1 a _ ha).1).elim (fun h1 => h11 a ((hk a h1).1.symm.trans ha)) (fun h1 => absurd ((hk2q7 a h1).1.symm.trans ha) (hpq7.1 a))
  have f14q7 := zfld_e (hk2q7 q7 (hIq7 q7 _ hnq7).1).2.1 hpq7.2
  obtain ⟨Xq7, hmaq7, hXq7⟩ : ∃ X, zMa Γ F q7 X ∧ ∀ a ∈ X, a ∈ Lq7 := ⟨_, (zMa.mk0 hIq7 hnq7).mv (fun a ha => ⟨(hk2q7 a (List.mem_filter.mp ha).1).1, (hk2q7 a (List.mem_filter.mp ha).1).2.1⟩), fun a ha => (List.mem_filter.mp ha).1⟩
  have hdq5q7 : ∀ a ∈ Xq5, a ∉ Xq7 := fun a ha hb => hdq5q7 a ha (hXq7 a hb)
  have hdq6q7 : ∀ a ∈ Xq6, a ∉ Xq7 := fun a ha hb => hdq6q7 a ha (hXq7 a hb)
  have h0L := (hk h0 h0L).2.2.1
  have h := h'
  clear h' hk hL9
  refine W.widen (k := 208) (n := 20227) (Nat.le_of_ble_eq_true rfl) (Nat.le_of_ble_eq_true rfl) ?_
  refine zj_put (C := RX10) (T := TX10) (N := 14) (t := 10) (v := .ref q7) Y h h0L h0Γ hF ziin_10 tyX10 tyX10_ok nmX10 rfl 7 (by decide) (zmi (List.mem_of_getElem? (i := 115) rfl)) (fun _ h9 => h9) rfl hini rfl rfl rfl (Nat.le_of_ble_eq_true rfl) dX10_init_76 (fun F' H locs hF' hne h' => ?_)
  have hF : F' h0 = .inr (10, [.ref q1, .int 0, .ref q2, .ref q3, .ref q4, .ref q5, .ref q6, .ref q7, .int 0, .null, .null, .null, .int 0, .int 0]) := hF'
  have h := h'
  have hmaq5 := hmaq5.mv (Γ' := Γ) (F' := F') (fun a ha => ⟨rfl, hne a (hmaq5.no h0Γ a ha)⟩)
  have hmaq6 := hmaq6.mv (Γ' := Γ) (F' := F') (fun a ha => ⟨rfl, hne a (hmaq6.no h0Γ a ha)⟩)
  have hmaq7 := hmaq7.mv (Γ' := Γ) (F' := F') (fun a ha => ⟨rfl, hne a (hmaq7.no h0Γ a ha)⟩)
  have hfcq2 := hfcq2.mv (Γ' := Γ) (F' := F') (fun a ha => ⟨rfl, hne a (hfcq2.no h0Γ a ha)⟩)
  have hfcq3 := hfcq3.mv (Γ' := Γ) (F' := F') (fun a ha => ⟨rfl, hne a (hfcq3.no h0Γ a ha)⟩)
  have hpdq2 := hpdq2.mv (Γ' := Γ) (F' := F') (fun f hf => hpsq2.ty hf) (fun a t ha => ⟨ha, hne a (fun e9 => by rw [e9, h0Γ] at ha; cases ha)⟩)
  have hpsq2 := hpsq2.mv hq2 (Γ' := Γ) (F' := F') (fun a t ha => ⟨ha, hne a (fun e9 => by rw [e9, h0Γ] at ha; cases ha)⟩)
  have hlsq2 := hlsq2.mv hq2 (Γ' := Γ) (F' := F') (fun a t ha => ⟨ha, hne a (fun e9 => by rw [e9, h0Γ] at ha; cases ha)⟩)
  have hpdq3 := hpdq3.mv (Γ' := Γ) (F' := F') (fun f hf => hpsq3.ty hf) (fun a t ha => ⟨ha, hne a (fun e9 => by rw [e9, h0Γ] at ha; cases ha)⟩)
  have hpsq3 := hpsq3.mv hq3 (Γ' := Γ) (F' := F') (fun a t ha => ⟨ha, hne a (fun e9 => by rw [e9, h0Γ] at ha; cases ha)⟩)
  have hlsq3 := hlsq3.mv hq3 (Γ' := Γ) (F' := F') (fun a t ha => ⟨ha, hne a (fun e9 => by rw [e9, h0Γ] at ha; cases ha)⟩)
  have f4q2 := zfld_e (hne q2 (fun e9 => by rw [e9, h0Γ] at hq2; cases hq2)) f4q2
  have f5q2 := zfld_e (hne q2 (fun e9 => by rw [e9, h0Γ] at hq2; cases hq2)) f5q2
  have f4q3 := zfld_e (hne q3 (fun e9 => by rw [e9, h0Γ] at hq3; cases hq3)) f4q3
  have f5q3 := zfld_e (hne q3 (fun e9 => by rw [e9, h0Γ] at hq3; cases hq3)) f5q3
  have f14q5 := zfld_e (hne q5 (fun e9 => by rw [e9, h0Γ] at hq5; cases hq5)) f14q5
  have f14q6 := zfld_e (hne q6 (fun e9 => by rw [e9, h0Γ] at hq6; cases hq6)) f14q6
  have f14q7 := zfld_e (hne q7 (fun e9 => by rw [e9, h0Γ] at hq7; cases hq7)) f14q7
  clear hF' hne h'
  generalize F' = F at h hF f4q2 f5q2 hpsq2 hfcq2 hlsq2 hpdq2 f4q3 f5q3 hpsq3 hfcq3 hlsq3 hpdq3 f14q5 hmaq5 f14q6 hmaq6 f14q7 hmaq7
  refine lv_aload_n hx hb dX10_init_79 rfl (lv_at hl 0 rfl) ?_
  refine zj_new (t := 0) (C := RX0) (T := TX0) (N := 3) (fs := [.null, .null, .int 0]) (mc := 2) (ms := 1034) (post := zp_0) Y h ziin_0 tyX0 tyX0_ok (zmi (List.mem_of_getElem? (i := 119) rfl)) (zmi (List.mem_of_getElem? (i := 120) rfl)) (zmi (List.mem_of_getElem? (i := 116) rfl)) rfl (fun j hj => z_df0 j hj) (fun q9 sz9 => zi_X0 l D k q9 sz9) (cwI 0 hts zgi_0 rfl rfl rfl (hts _ (zmi (List.mem_of_getElem? (i := 116) rfl))) (hts _ (zmi (List.mem_of_getElem? (i := 117) rfl))) (hts _ (zmi (List.mem_of_getElem? (i := 118) rfl))) rfl (by decide +kernel) ⟨by rw [hRf]; exact (Nat.le_of_ble_eq_true rfl), by rw [hRl]; exact (Nat.le_of_ble_eq_true rfl)⟩) hl.1 (Nat.le_of_ble_eq_true rfl) (by rw [hRc]; exact (Nat.le_of_ble_eq_true rfl)) (by rw [hRs]; exact (Nat.le_of_ble_eq_true rfl)) dX10_init_80 dX10_init_83 dX10_init_84 (fun q8 Γq8 Lq8 Fq8 Γ L F H locs hq8 hnq8 hpq8 hIq8 hk hk2q8 hL9 huq8 h' => ?_)
  have hq1 := (hk q1 (h.2.2.2.1 _ _ hq1).1).1.trans hq1
  have hoq2 := hq2
  have hq2 := (hk q2 (h.2.2.2.1 _ _ hq2).1).1.trans hq2
  have hoq3 := hq3
  have hq3 := (hk q3 (h.2.2.2.1 _ _ hq3).1).1.trans hq3
  have hq4 := (hk q4 (h.2.2.2.1 _ _ hq4).1).1.trans hq4
  have hoq5 := hq5
  have hq5 := (hk q5 (h.2.2.2.1 _ _ hq5).1).1.trans hq5
  have hoq6 := hq6
  have hq6 := (hk q6 (h.2.2.2.1 _ _ hq6).1).1.trans hq6
  have hoq7 := hq7
  have hq7 := (hk q7 (h.2.2.2.1 _ _ hq7).1).1.trans hq7
  have hmaq5 := hmaq5.mv (Γ' := Γ) (F' := F) (fun a ha => ⟨(hk a (hmaq5.sub h.2.2.2.1 a ha)).1, (hk a (hmaq5.sub h.2.2.2.1 a ha)).2.1⟩)
  have hmaq6 := hmaq6.mv (Γ' := Γ) (F' := F) (fun a ha => ⟨(hk a (hmaq6.sub h.2.2.2.1 a ha)).1, (hk a (hmaq6.sub h.2.2.2.1 a ha)).2.1⟩)
  have hmaq7 := hmaq7.mv (Γ' := Γ) (F' := F) (fun a ha => ⟨(hk a (hmaq7.sub h.2.2.2.1 a ha)).1, (hk a (hmaq7.sub h.2.2.2.1 a ha)).2.1⟩)
  have hfcq2 := hfcq2.mv (Γ' := Γ) (F' := F) (fun a ha => ⟨(hk a (hfcq2.sub h.2.2.2.1 a ha)).1, (hk a (hfcq2.sub h.2.2.2.1 a ha)).2.1⟩)
  have hfcq3 := hfcq3.mv (Γ' := Γ) (F' := F) (fun a ha => ⟨(hk a (hfcq3.sub h.2.2.2.1 a ha)).1, (hk a (hfcq3.sub h.2.2.2.1 a ha)).2.1⟩)
  have hpdq2 := hpdq2.mv (Γ' := Γ) (F' := F) (fun f hf => hpsq2.ty hf) (fun a t ha => ⟨(hk a (h.2.2.2.1 a t ha).1).1.trans ha, (hk a (h.2.2.2.1 a t ha).1).2.1⟩)
  have hlsq2 := hlsq2.mv hoq2 (Γ' := Γ) (F' := F) (fun a t ha => ⟨(hk a (h.2.2.2.1 a t ha).1).1.trans ha, (hk a (h.2.2.2.1 a t ha).1).2.1⟩)
  have hpsq2 := hpsq2.mv hoq2 (Γ' := Γ) (F' := F) (fun a t ha => ⟨(hk a (h.2.2.2.1 a t ha).1).1.trans ha, (hk a (h.2.2.2.1 a t ha).1).2.1⟩)
  have hpdq3 := hpdq3.mv (Γ' := Γ) (F' := F) (fun f hf => hpsq3.ty hf) (fun a t ha => ⟨(hk a (h.2.2.2.1 a t ha).1).1.trans ha, (hk a (h.2.2.2.1 a t ha).1).2.1⟩)
  have hlsq3 := hlsq3.mv hoq3 (Γ' := Γ) (F' := F) (fun a t ha => ⟨(hk a (h.2.2.2.1 a t ha).1).1.trans ha, (hk a (h.2.2.2.1 a t ha).1).2.1⟩)
  have hpsq3 := hpsq3.mv hoq3 (Γ' := Γ) (F' := F) (fun a t ha => ⟨(hk a (h.2.2.2.1 a t ha).1).1.trans ha, (hk a (h.2.2.2.1 a t ha).1).2.1⟩)
  have f4q2 := zfld_e (hk q2 (h.2.2.2.1 _ _ hoq2).1).2.1 f4q2
  have f5q2 := zfld_e (hk q2 (h.2.2.2.1 _ _ hoq2).1).2.1 f5q2
  have f4q3 := zfld_e (hk q3 (h.2.2.2.1 _ _ hoq3).1).2.1 f4q3
  have f5q3 := zfld_e (hk q3 (h.2.2.2.1 _ _ hoq3).1).2.1 f5q3
  have f14q5 := zfld_e (hk q5 (h.2.2.2.1 _ _ hoq5).1).2.1 f14q5
  have f14q6 := zfld_e (hk q6 (h.2.2.2.1 _ _ hoq6).1).2.1 f14q6
  have f14q7 := zfld_e (hk q7 (h.2.2.2.1 _ _ hoq7).1).2.1 f14q7
  have h0Γ := (hk h0 h0L).1.trans h0Γ
  have hF := (hk h0 h0L).2.1.trans hF
  have h11 : ∀ a, Γ a ≠ some 11 := fun a ha => (hL9 a (h'.2.2.2.1 a _ ha).1).elim (fun h1 => h11 a ((hk a h1).1.symm.trans ha)) (fun h1 => absurd ((hk2q8 a h1).1.symm.trans ha) (hpq8 a))
  have h0L := (hk h0 h0L).2.2.1
  have h := h'
  clear h' hk hL9
  refine W.widen (k := 211) (n := 21264) (Nat.le_of_ble_eq_true rfl) (Nat.le_of_ble_eq_true rfl) ?_
  refine zj_put (C := RX10) (T := TX10) (N := 14) (t := 10) (v := .ref q8) Y h h0L h0Γ hF ziin_10 tyX10 tyX10_ok nmX10 rfl 9 (by decide) (zmi (List.mem_of_getElem? (i := 121) rfl)) (fun _ h9 => h9) rfl hini rfl rfl rfl (Nat.le_of_ble_eq_true rfl) dX10_init_87 (fun F' H locs hF' hne h' => ?_)
  have hF : F' h0 = .inr (10, [.ref q1, .int 0, .ref q2, .ref q3, .ref q4, .ref q5, .ref q6, .ref q7, .int 0, .ref q8, .null, .null, .int 0, .int 0]) := hF'
  have h := h'
  have hmaq5 := hmaq5.mv (Γ' := Γ) (F' := F') (fun a ha => ⟨rfl, hne a (hmaq5.no h0Γ a ha)⟩)
  have hmaq6 := hmaq6.mv (Γ' := Γ) (F' := F') (fun a ha => ⟨rfl, hne a (hmaq6.no h0Γ a ha)⟩)
  have hmaq7 := hmaq7.mv (Γ' := Γ) (F' := F') (fun a ha => ⟨rfl, hne a (hmaq7.no h0Γ a ha)⟩)
  have hfcq2 := hfcq2.mv (Γ' := Γ) (F' := F') (fun a ha => ⟨rfl, hne a (hfcq2.no h0Γ a ha)⟩)
  have hfcq3 := hfcq3.mv (Γ' := Γ) (F' := F') (fun a ha => ⟨rfl, hne a (hfcq3.no h0Γ a ha)⟩)
  have hpdq2 := hpdq2.mv (Γ' := Γ) (F' := F') (fun f hf => hpsq2.ty hf) (fun a t ha => ⟨ha, hne a (fun e9 => by rw [e9, h0Γ] at ha; cases ha)⟩)
  have hpsq2 := hpsq2.mv hq2 (Γ' := Γ) (F' := F') (fun a t ha => ⟨ha, hne a (fun e9 => by rw [e9, h0Γ] at ha; cases ha)⟩)
  have hlsq2 := hlsq2.mv hq2 (Γ' := Γ) (F' := F') (fun a t ha => ⟨ha, hne a (fun e9 => by rw [e9, h0Γ] at ha; cases ha)⟩)
  have hpdq3 := hpdq3.mv (Γ' := Γ) (F' := F') (fun f hf => hpsq3.ty hf) (fun a t ha => ⟨ha, hne a (fun e9 => by rw [e9, h0Γ] at ha; cases ha)⟩)
  have hpsq3 := hpsq3.mv hq3 (Γ' := Γ) (F' := F') (fun a t ha => ⟨ha, hne a (fun e9 => by rw [e9, h0Γ] at ha; cases ha)⟩)
  have hlsq3 := hlsq3.mv hq3 (Γ' := Γ) (F' := F') (fun a t ha => ⟨ha, hne a (fun e9 => by rw [e9, h0Γ] at ha; cases ha)⟩)
  have f4q2 := zfld_e (hne q2 (fun e9 => by rw [e9, h0Γ] at hq2; cases hq2)) f4q2
  have f5q2 := zfld_e (hne q2 (fun e9 => by rw [e9, h0Γ] at hq2; cases hq2)) f5q2
  have f4q3 := zfld_e (hne q3 (fun e9 => by rw [e9, h0Γ] at hq3; cases hq3)) f4q3
  have f5q3 := zfld_e (hne q3 (fun e9 => by rw [e9, h0Γ] at hq3; cases hq3)) f5q3
  have f14q5 := zfld_e (hne q5 (fun e9 => by rw [e9, h0Γ] at hq5; cases hq5)) f14q5
  have f14q6 := zfld_e (hne q6 (fun e9 => by rw [e9, h0Γ] at hq6; cases hq6)) f14q6
  have f14q7 := zfld_e (hne q7 (fun e9 => by rw [e9, h0Γ] at hq7; cases hq7)) f14q7
  clear hF' hne h'
  generalize F' = F at h hF f4q2 f5q2 hpsq2 hfcq2 hlsq2 hpdq2 f4q3 f5q3 hpsq3 hfcq3 hlsq3 hpdq3 f14q5 hmaq5 f14q6 hmaq6 f14q7 hmaq7
  refine lv_aload_n hx hb dX10_init_90 rfl (lv_at hl 0 rfl) ?_
  refine zj_new (t := 9) (C := RX9) (T := TX9) (N := 5) (fs := [.null, .null, .int 0, .int 0, .int 0]) (mc := 2) (ms := 24) (post := zp_9) Y h ziin_9 tyX9 tyX9_ok (zmi (List.mem_of_getElem? (i := 125) rfl)) (zmi (List.mem_of_getElem? (i := 126) rfl)) (zmi (List.mem_of_getElem? (i := 122) rfl)) rfl (fun j hj => z_df9 j hj) (fun q9 sz9 => zi_X9 l D k q9 sz9) (cwI 0 hts zgi_9 rfl rfl rfl (hts _ (zmi (List.mem_of_getElem? (i := 122) rfl))) (hts _ (zmi (List.mem_of_getElem? (i := 123) rfl))) (hts _ (zmi (List.mem_of_getElem? (i := 124) rfl))) rfl (by decide +kernel) ⟨by rw [hRf]; exact (Nat.le_of_ble_eq_true rfl), by rw [hRl]; exact (Nat.le_of_ble_eq_true rfl)⟩) hl.1 (Nat.le_of_ble_eq_true rfl) (by rw [hRc]; exact (Nat.le_of_ble_eq_true rfl)) (by rw [hRs]; exact (Nat.le_of_ble_eq_true rfl)) dX10_init_91 dX10_init_94 dX10_init_95 (fun q9 Γq9 Lq9 Fq9 Γ L F H locs hq9 hnq9 hpq9 hIq9 hk hk2q9 hL9 huq9 h' => ?_)
  have hq1 := (hk q1 (h.2.2.2.1 _ _ hq1).1).1.trans hq1
  have hoq2 := hq2
  have hq2 := (hk q2 (h.2.2.2.1 _ _ hq2).1).1.trans hq2
  have hoq3 := hq3
  have hq3 := (hk q3 (h.2.2.2.1 _ _ hq3).1).1.trans hq3
  have hq4 := (hk q4 (h.2.2.2.1 _ _ hq4).1).1.trans hq4
  have hoq5 := hq5
  have hq5 := (hk q5 (h.2.2.2.1 _ _ hq5).1).1.trans hq5
  have hoq6 := hq6
  have hq6 := (hk q6 (h.2.2.2.1 _ _ hq6).1).1.trans hq6
  have hoq7 := hq7
  have hq7 := (hk q7 (h.2.2.2.1 _ _ hq7).1).1.trans hq7
  have hq8 := (hk q8 (h.2.2.2.1 _ _ hq8).1).1.trans hq8
  have hmaq5 := hmaq5.mv (Γ' := Γ) (F' := F) (fun a ha => ⟨(hk a (hmaq5.sub h.2.2.2.1 a ha)).1, (hk a (hmaq5.sub h.2.2.2.1 a ha)).2.1⟩)
  have hmaq6 := hmaq6.mv (Γ' := Γ) (F' := F) (fun a ha => ⟨(hk a (hmaq6.sub h.2.2.2.1 a ha)).1, (hk a (hmaq6.sub h.2.2.2.1 a ha)).2.1⟩)
  have hmaq7 := hmaq7.mv (Γ' := Γ) (F' := F) (fun a ha => ⟨(hk a (hmaq7.sub h.2.2.2.1 a ha)).1, (hk a (hmaq7.sub h.2.2.2.1 a ha)).2.1⟩)
  have hfcq2 := hfcq2.mv (Γ' := Γ) (F' := F) (fun a ha => ⟨(hk a (hfcq2.sub h.2.2.2.1 a ha)).1, (hk a (hfcq2.sub h.2.2.2.1 a ha)).2.1⟩)
  have hfcq3 := hfcq3.mv (Γ' := Γ) (F' := F) (fun a ha => ⟨(hk a (hfcq3.sub h.2.2.2.1 a ha)).1, (hk a (hfcq3.sub h.2.2.2.1 a ha)).2.1⟩)
  have hpdq2 := hpdq2.mv (Γ' := Γ) (F' := F) (fun f hf => hpsq2.ty hf) (fun a t ha => ⟨(hk a (h.2.2.2.1 a t ha).1).1.trans ha, (hk a (h.2.2.2.1 a t ha).1).2.1⟩)
  have hlsq2 := hlsq2.mv hoq2 (Γ' := Γ) (F' := F) (fun a t ha => ⟨(hk a (h.2.2.2.1 a t ha).1).1.trans ha, (hk a (h.2.2.2.1 a t ha).1).2.1⟩)
  have hpsq2 := hpsq2.mv hoq2 (Γ' := Γ) (F' := F) (fun a t ha => ⟨(hk a (h.2.2.2.1 a t ha).1).1.trans ha, (hk a (h.2.2.2.1 a t ha).1).2.1⟩)
  have hpdq3 := hpdq3.mv (Γ' := Γ) (F' := F) (fun f hf => hpsq3.ty hf) (fun a t ha => ⟨(hk a (h.2.2.2.1 a t ha).1).1.trans ha, (hk a (h.2.2.2.1 a t ha).1).2.1⟩)
  have hlsq3 := hlsq3.mv hoq3 (Γ' := Γ) (F' := F) (fun a t ha => ⟨(hk a (h.2.2.2.1 a t ha).1).1.trans ha, (hk a (h.2.2.2.1 a t ha).1).2.1⟩)
  have hpsq3 := hpsq3.mv hoq3 (Γ' := Γ) (F' := F) (fun a t ha => ⟨(hk a (h.2.2.2.1 a t ha).1).1.trans ha, (hk a (h.2.2.2.1 a t ha).1).2.1⟩)
  have f4q2 := zfld_e (hk q2 (h.2.2.2.1 _ _ hoq2).1).2.1 f4q2
  have f5q2 := zfld_e (hk q2 (h.2.2.2.1 _ _ hoq2).1).2.1 f5q2
  have f4q3 := zfld_e (hk q3 (h.2.2.2.1 _ _ hoq3).1).2.1 f4q3
  have f5q3 := zfld_e (hk q3 (h.2.2.2.1 _ _ hoq3).1).2.1 f5q3
  have f14q5 := zfld_e (hk q5 (h.2.2.2.1 _ _ hoq5).1).2.1 f14q5
  have f14q6 := zfld_e (hk q6 (h.2.2.2.1 _ _ hoq6).1).2.1 f14q6
  have f14q7 := zfld_e (hk q7 (h.2.2.2.1 _ _ hoq7).1).2.1 f14q7
  have h0Γ := (hk h0 h0L).1.trans h0Γ
  have hF := (hk h0 h0L).2.1.trans hF
  have h11 : ∀ a, Γ a ≠ some 11 := fun a ha => (hL9 a (h'.2.2.2.1 a _ ha).1).elim (fun h1 => h11 a ((hk a h1).1.symm.trans ha)) (fun h1 => absurd ((hk2q9 a h1).1.symm.trans ha) (hpq9.1 a))
  have f4q9 := zfld_e (hk2q9 q9 (hIq9 q9 _ hnq9).1).2.1 hpq9.2
  have h0L := (hk h0 h0L).2.2.1
  have h := h'
  clear h' hk hL9
  refine W.widen (k := 214) (n := 21293) (Nat.le_of_ble_eq_true rfl) (Nat.le_of_ble_eq_true rfl) ?_
  refine zj_put (C := RX10) (T := TX10) (N := 14) (t := 10) (v := .ref q9) Y h h0L h0Γ hF ziin_10 tyX10 tyX10_ok nmX10 rfl 10 (by decide) (zmi (List.mem_of_getElem? (i := 127) rfl)) (fun _ h9 => h9) rfl hini rfl rfl rfl (Nat.le_of_ble_eq_true rfl) dX10_init_98 (fun F' H locs hF' hne h' => ?_)
  have hF : F' h0 = .inr (10, [.ref q1, .int 0, .ref q2, .ref q3, .ref q4, .ref q5, .ref q6, .ref q7, .int 0, .ref q8, .ref q9, .null, .int 0, .int 0]) := hF'
  have h := h'
  have hmaq5 := hmaq5.mv (Γ' := Γ) (F' := F') (fun a ha => ⟨rfl, hne a (hmaq5.no h0Γ a ha)⟩)
  have hmaq6 := hmaq6.mv (Γ' := Γ) (F' := F') (fun a ha => ⟨rfl, hne a (hmaq6.no h0Γ a ha)⟩)
  have hmaq7 := hmaq7.mv (Γ' := Γ) (F' := F') (fun a ha => ⟨rfl, hne a (hmaq7.no h0Γ a ha)⟩)
  have hfcq2 := hfcq2.mv (Γ' := Γ) (F' := F') (fun a ha => ⟨rfl, hne a (hfcq2.no h0Γ a ha)⟩)
  have hfcq3 := hfcq3.mv (Γ' := Γ) (F' := F') (fun a ha => ⟨rfl, hne a (hfcq3.no h0Γ a ha)⟩)
  have hpdq2 := hpdq2.mv (Γ' := Γ) (F' := F') (fun f hf => hpsq2.ty hf) (fun a t ha => ⟨ha, hne a (fun e9 => by rw [e9, h0Γ] at ha; cases ha)⟩)
  have hpsq2 := hpsq2.mv hq2 (Γ' := Γ) (F' := F') (fun a t ha => ⟨ha, hne a (fun e9 => by rw [e9, h0Γ] at ha; cases ha)⟩)
  have hlsq2 := hlsq2.mv hq2 (Γ' := Γ) (F' := F') (fun a t ha => ⟨ha, hne a (fun e9 => by rw [e9, h0Γ] at ha; cases ha)⟩)
  have hpdq3 := hpdq3.mv (Γ' := Γ) (F' := F') (fun f hf => hpsq3.ty hf) (fun a t ha => ⟨ha, hne a (fun e9 => by rw [e9, h0Γ] at ha; cases ha)⟩)
  have hpsq3 := hpsq3.mv hq3 (Γ' := Γ) (F' := F') (fun a t ha => ⟨ha, hne a (fun e9 => by rw [e9, h0Γ] at ha; cases ha)⟩)
  have hlsq3 := hlsq3.mv hq3 (Γ' := Γ) (F' := F') (fun a t ha => ⟨ha, hne a (fun e9 => by rw [e9, h0Γ] at ha; cases ha)⟩)
  have f4q2 := zfld_e (hne q2 (fun e9 => by rw [e9, h0Γ] at hq2; cases hq2)) f4q2
  have f5q2 := zfld_e (hne q2 (fun e9 => by rw [e9, h0Γ] at hq2; cases hq2)) f5q2
  have f4q3 := zfld_e (hne q3 (fun e9 => by rw [e9, h0Γ] at hq3; cases hq3)) f4q3
  have f5q3 := zfld_e (hne q3 (fun e9 => by rw [e9, h0Γ] at hq3; cases hq3)) f5q3
  have f14q5 := zfld_e (hne q5 (fun e9 => by rw [e9, h0Γ] at hq5; cases hq5)) f14q5
  have f14q6 := zfld_e (hne q6 (fun e9 => by rw [e9, h0Γ] at hq6; cases hq6)) f14q6
  have f14q7 := zfld_e (hne q7 (fun e9 => by rw [e9, h0Γ] at hq7; cases hq7)) f14q7
  have f4q9 := zfld_e (hne q9 (fun e9 => by rw [e9, h0Γ] at hq9; cases hq9)) f4q9
  clear hF' hne h'
  generalize F' = F at h hF f4q2 f5q2 hpsq2 hfcq2 hlsq2 hpdq2 f4q3 f5q3 hpsq3 hfcq3 hlsq3 hpdq3 f14q5 hmaq5 f14q6 hmaq6 f14q7 hmaq7 f4q9
  refine lv_aload_n hx hb dX10_init_101 rfl (lv_at hl 0 rfl) ?_
  refine zj_new (t := 3) (C := RX3) (T := TX3) (N := 3) (fs := [.null, .null, .int 0]) (mc := 2) (ms := 20) (post := zp_3) Y h ziin_3 tyX3 tyX3_ok (zmi (List.mem_of_getElem? (i := 131) rfl)) (zmi (List.mem_of_getElem? (i := 132) rfl)) (zmi (List.mem_of_getElem? (i := 128) rfl)) rfl (fun j hj => z_df3 j hj) (fun q9 sz9 => zi_X3 l D k q9 sz9) (cwI 0 hts zgi_3 rfl rfl rfl (hts _ (zmi (List.mem_of_getElem? (i := 128) rfl))) (hts _ (zmi (List.mem_of_getElem? (i := 129) rfl))) (hts _ (zmi (List.mem_of_getElem? (i := 130) rfl))) rfl (by decide +kernel) ⟨by rw [hRf]; exact (Nat.le_of_ble_eq_true rfl), by rw [hRl]; exact (Nat.le_of_ble_eq_true rfl)⟩) hl.1 (Nat.le_of_ble_eq_true rfl) (by rw [hRc]; exact (Nat.le_of_ble_eq_true rfl)) (by rw [hRs]; exact (Nat.le_of_ble_eq_true rfl)) dX10_init_102 dX10_init_105 dX10_init_106 (fun q10 Γq10 Lq10 Fq10 Γ L F H locs hq10 hnq10 hpq10 hIq10 hk hk2q10 hL9 huq10 h' => ?_)
  have hq1 := (hk q1 (h.2.2.2.1 _ _ hq1).1).1.trans hq1
  have hoq2 := hq2
  have hq2 := (hk q2 (h.2.2.2.1 _ _ hq2).1).1.trans hq2
  have hoq3 := hq3
  have hq3 := (hk q3 (h.2.2.2.1 _ _ hq3).1).1.trans hq3
  have hq4 := (hk q4 (h.2.2.2.1 _ _ hq4).1).1.trans hq4
  have hoq5 := hq5
  have hq5 := (hk q5 (h.2.2.2.1 _ _ hq5).1).1.trans hq5
  have hoq6 := hq6
  have hq6 := (hk q6 (h.2.2.2.1 _ _ hq6).1).1.trans hq6
  have hoq7 := hq7
  have hq7 := (hk q7 (h.2.2.2.1 _ _ hq7).1).1.trans hq7
  have hq8 := (hk q8 (h.2.2.2.1 _ _ hq8).1).1.trans hq8
  have hoq9 := hq9
  have hq9 := (hk q9 (h.2.2.2.1 _ _ hq9).1).1.trans hq9
  have hmaq5 := hmaq5.mv (Γ' := Γ) (F' := F) (fun a ha => ⟨(hk a (hmaq5.sub h.2.2.2.1 a ha)).1, (hk a (hmaq5.sub h.2.2.2.1 a ha)).2.1⟩)
  have hmaq6 := hmaq6.mv (Γ' := Γ) (F' := F) (fun a ha => ⟨(hk a (hmaq6.sub h.2.2.2.1 a ha)).1, (hk a (hmaq6.sub h.2.2.2.1 a ha)).2.1⟩)
  have hmaq7 := hmaq7.mv (Γ' := Γ) (F' := F) (fun a ha => ⟨(hk a (hmaq7.sub h.2.2.2.1 a ha)).1, (hk a (hmaq7.sub h.2.2.2.1 a ha)).2.1⟩)
  have hfcq2 := hfcq2.mv (Γ' := Γ) (F' := F) (fun a ha => ⟨(hk a (hfcq2.sub h.2.2.2.1 a ha)).1, (hk a (hfcq2.sub h.2.2.2.1 a ha)).2.1⟩)
  have hfcq3 := hfcq3.mv (Γ' := Γ) (F' := F) (fun a ha => ⟨(hk a (hfcq3.sub h.2.2.2.1 a ha)).1, (hk a (hfcq3.sub h.2.2.2.1 a ha)).2.1⟩)
  have hpdq2 := hpdq2.mv (Γ' := Γ) (F' := F) (fun f hf => hpsq2.ty hf) (fun a t ha => ⟨(hk a (h.2.2.2.1 a t ha).1).1.trans ha, (hk a (h.2.2.2.1 a t ha).1).2.1⟩)
  have hlsq2 := hlsq2.mv hoq2 (Γ' := Γ) (F' := F) (fun a t ha => ⟨(hk a (h.2.2.2.1 a t ha).1).1.trans ha, (hk a (h.2.2.2.1 a t ha).1).2.1⟩)
  have hpsq2 := hpsq2.mv hoq2 (Γ' := Γ) (F' := F) (fun a t ha => ⟨(hk a (h.2.2.2.1 a t ha).1).1.trans ha, (hk a (h.2.2.2.1 a t ha).1).2.1⟩)
  have hpdq3 := hpdq3.mv (Γ' := Γ) (F' := F) (fun f hf => hpsq3.ty hf) (fun a t ha => ⟨(hk a (h.2.2.2.1 a t ha).1).1.trans ha, (hk a (h.2.2.2.1 a t ha).1).2.1⟩)
  have hlsq3 := hlsq3.mv hoq3 (Γ' := Γ) (F' := F) (fun a t ha => ⟨(hk a (h.2.2.2.1 a t ha).1).1.trans ha, (hk a (h.2.2.2.1 a t ha).1).2.1⟩)
  have hpsq3 := hpsq3.mv hoq3 (Γ' := Γ) (F' := F) (fun a t ha => ⟨(hk a (h.2.2.2.1 a t ha).1).1.trans ha, (hk a (h.2.2.2.1 a t ha).1).2.1⟩)
  have f4q2 := zfld_e (hk q2 (h.2.2.2.1 _ _ hoq2).1).2.1 f4q2
  have f5q2 := zfld_e (hk q2 (h.2.2.2.1 _ _ hoq2).1).2.1 f5q2
  have f4q3 := zfld_e (hk q3 (h.2.2.2.1 _ _ hoq3).1).2.1 f4q3
  have f5q3 := zfld_e (hk q3 (h.2.2.2.1 _ _ hoq3).1).2.1 f5q3
  have f14q5 := zfld_e (hk q5 (h.2.2.2.1 _ _ hoq5).1).2.1 f14q5
  have f14q6 := zfld_e (hk q6 (h.2.2.2.1 _ _ hoq6).1).2.1 f14q6
  have f14q7 := zfld_e (hk q7 (h.2.2.2.1 _ _ hoq7).1).2.1 f14q7
  have f4q9 := zfld_e (hk q9 (h.2.2.2.1 _ _ hoq9).1).2.1 f4q9
  have h0Γ := (hk h0 h0L).1.trans h0Γ
  have hF := (hk h0 h0L).2.1.trans hF
  have h11 : ∀ a, Γ a ≠ some 11 := fun a ha => (hL9 a (h'.2.2.2.1 a _ ha).1).elim (fun h1 => h11 a ((hk a h1).1.symm.trans ha)) (fun h1 => absurd ((hk2q10 a h1).1.symm.trans ha) (hpq10.1 a))
  have f2q10 := zfld_e (hk2q10 q10 (hIq10 q10 _ hnq10).1).2.1 hpq10.2
  have h0L := (hk h0 h0L).2.2.1
  have h := h'
  clear h' hk hL9
  refine W.widen (k := 217) (n := 21316) (Nat.le_of_ble_eq_true rfl) (Nat.le_of_ble_eq_true rfl) ?_
  refine zj_put (C := RX10) (T := TX10) (N := 14) (t := 10) (v := .ref q10) Y h h0L h0Γ hF ziin_10 tyX10 tyX10_ok nmX10 rfl 11 (by decide) (zmi (List.mem_of_getElem? (i := 133) rfl)) (fun _ h9 => h9) rfl hini rfl rfl rfl (Nat.le_of_ble_eq_true rfl) dX10_init_109 (fun F' H locs hF' hne h' => ?_)
  have hF : F' h0 = .inr (10, [.ref q1, .int 0, .ref q2, .ref q3, .ref q4, .ref q5, .ref q6, .ref q7, .int 0, .ref q8, .ref q9, .ref q10, .int 0, .int 0]) := hF'
  have h := h'
  have hmaq5 := hmaq5.mv (Γ' := Γ) (F' := F') (fun a ha => ⟨rfl, hne a (hmaq5.no h0Γ a ha)⟩)
  have hmaq6 := hmaq6.mv (Γ' := Γ) (F' := F') (fun a ha => ⟨rfl, hne a (hmaq6.no h0Γ a ha)⟩)
  have hmaq7 := hmaq7.mv (Γ' := Γ) (F' := F') (fun a ha => ⟨rfl, hne a (hmaq7.no h0Γ a ha)⟩)
  have hfcq2 := hfcq2.mv (Γ' := Γ) (F' := F') (fun a ha => ⟨rfl, hne a (hfcq2.no h0Γ a ha)⟩)
  have hfcq3 := hfcq3.mv (Γ' := Γ) (F' := F') (fun a ha => ⟨rfl, hne a (hfcq3.no h0Γ a ha)⟩)
  have hpdq2 := hpdq2.mv (Γ' := Γ) (F' := F') (fun f hf => hpsq2.ty hf) (fun a t ha => ⟨ha, hne a (fun e9 => by rw [e9, h0Γ] at ha; cases ha)⟩)
  have hpsq2 := hpsq2.mv hq2 (Γ' := Γ) (F' := F') (fun a t ha => ⟨ha, hne a (fun e9 => by rw [e9, h0Γ] at ha; cases ha)⟩)
  have hlsq2 := hlsq2.mv hq2 (Γ' := Γ) (F' := F') (fun a t ha => ⟨ha, hne a (fun e9 => by rw [e9, h0Γ] at ha; cases ha)⟩)
  have hpdq3 := hpdq3.mv (Γ' := Γ) (F' := F') (fun f hf => hpsq3.ty hf) (fun a t ha => ⟨ha, hne a (fun e9 => by rw [e9, h0Γ] at ha; cases ha)⟩)
  have hpsq3 := hpsq3.mv hq3 (Γ' := Γ) (F' := F') (fun a t ha => ⟨ha, hne a (fun e9 => by rw [e9, h0Γ] at ha; cases ha)⟩)
  have hlsq3 := hlsq3.mv hq3 (Γ' := Γ) (F' := F') (fun a t ha => ⟨ha, hne a (fun e9 => by rw [e9, h0Γ] at ha; cases ha)⟩)
  have f4q2 := zfld_e (hne q2 (fun e9 => by rw [e9, h0Γ] at hq2; cases hq2)) f4q2
  have f5q2 := zfld_e (hne q2 (fun e9 => by rw [e9, h0Γ] at hq2; cases hq2)) f5q2
  have f4q3 := zfld_e (hne q3 (fun e9 => by rw [e9, h0Γ] at hq3; cases hq3)) f4q3
  have f5q3 := zfld_e (hne q3 (fun e9 => by rw [e9, h0Γ] at hq3; cases hq3)) f5q3
  have f14q5 := zfld_e (hne q5 (fun e9 => by rw [e9, h0Γ] at hq5; cases hq5)) f14q5
  have f14q6 := zfld_e (hne q6 (fun e9 => by rw [e9, h0Γ] at hq6; cases hq6)) f14q6
  have f14q7 := zfld_e (hne q7 (fun e9 => by rw [e9, h0Γ] at hq7; cases hq7)) f14q7
  have f4q9 := zfld_e (hne q9 (fun e9 => by rw [e9, h0Γ] at hq9; cases hq9)) f4q9
  have f2q10 := zfld_e (hne q10 (fun e9 => by rw [e9, h0Γ] at hq10; cases hq10)) f2q10
  clear hF' hne h'
  generalize F' = F at h hF f4q2 f5q2 hpsq2 hfcq2 hlsq2 hpdq2 f4q3 f5q3 hpsq3 hfcq3 hlsq3 hpdq3 f14q5 hmaq5 f14q6 hmaq6 f14q7 hmaq7 f4q9 f2q10
  have h := zj_end h h0L h0Γ hF (by decide) (show zVs _ [(2, 100, 0), (0, 0, 600), (4, 0, 0), (4, 0, 0), (2, 7, 0), (2, 5, 0), (2, 5, 0), (2, 5, 0), (0, 0, 1), (2, 0, 0), (2, 9, 0), (2, 3, 0), (0, (-2147483648), 2147483647), (0, (-2147483648), 2147483647)] [.ref q1, .int 0, .ref q2, .ref q3, .ref q4, .ref q5, .ref q6, .ref q7, .int 0, .ref q8, .ref q9, .ref q10, .int 0, .int 0] from ⟨zV.r (zif hq1 h0Γ) rfl, zV.i ⟨by decide, by decide⟩, trivial, trivial, zV.r (zif hq4 h0Γ) rfl, zV.r (zif hq5 h0Γ) rfl, zV.r (zif hq6 h0Γ) rfl, zV.r (zif hq7 h0Γ) rfl, zV.i ⟨by decide, by decide⟩, zV.r (zif hq8 h0Γ) rfl, zV.r (zif hq9 h0Γ) rfl, zV.r (zif hq10 h0Γ) rfl, zV.i ⟨by decide, by decide⟩, zV.i ⟨by decide, by decide⟩, trivial⟩)
  subst hQ
  exact W.vret hx hb hr (fun t9 ht9 hW9 => ⟨⟨(fun a => if a = h0 then some 10 else Γ a, L, F), rfl, ⟨if_pos rfl, fun a => zif_ne (by decide) (h11 a), (show zfld F h0 1 = .int 0 from by unfold zfld; rw [hF]; rfl), (show zfld F h0 12 = .int 0 from by unfold zfld; rw [hF]; rfl), q2, q3, faq2, faq3, (show zfld F h0 2 = .ref q2 from by unfold zfld; rw [hF]; rfl), (show zfld F h0 3 = .ref q3 from by unfold zfld; rw [hF]; rfl), hpsq2.mv hq2 (Γ' := fun a => if a = h0 then some 10 else Γ a) (F' := F) (fun a t ha => ⟨zif ha h0Γ, rfl⟩), hpsq3.mv hq3 (Γ' := fun a => if a = h0 then some 10 else Γ a) (F' := F) (fun a t ha => ⟨zif ha h0Γ, rfl⟩), q9, Xq2, Xq3, (show zfld F h0 10 = .ref q9 from by unfold zfld; rw [hF]; rfl), ⟨hfcq2.mv (Γ' := fun a => if a = h0 then some 10 else Γ a) (F' := F) (fun a ha => ⟨if_neg (hfcq2.no h0Γ a ha), rfl⟩), hfcq3.mv (Γ' := fun a => if a = h0 then some 10 else Γ a) (F' := F) (fun a ha => ⟨if_neg (hfcq3.no h0Γ a ha), rfl⟩), hdq2q3⟩, f4q9, f4q2, f5q2, laq2, laq3, hlsq2.mv hq2 (Γ' := fun a => if a = h0 then some 10 else Γ a) (F' := F) (fun a t ha => ⟨zif ha h0Γ, rfl⟩), hlsq3.mv hq3 (Γ' := fun a => if a = h0 then some 10 else Γ a) (F' := F) (fun a t ha => ⟨zif ha h0Γ, rfl⟩), q10, (show zfld F h0 11 = .ref q10 from by unfold zfld; rw [hF]; rfl), f2q10, ⟨q5, q6, q7, Xq5, Xq6, Xq7, ⟨(show zfld F h0 5 = .ref q5 from by unfold zfld; rw [hF]; rfl), (show zfld F h0 6 = .ref q6 from by unfold zfld; rw [hF]; rfl), (show zfld F h0 7 = .ref q7 from by unfold zfld; rw [hF]; rfl)⟩, ⟨hmaq5.mv (Γ' := fun a => if a = h0 then some 10 else Γ a) (F' := F) (fun a ha => ⟨if_neg (hmaq5.no h0Γ a ha), rfl⟩), hmaq6.mv (Γ' := fun a => if a = h0 then some 10 else Γ a) (F' := F) (fun a ha => ⟨if_neg (hmaq6.no h0Γ a ha), rfl⟩), hmaq7.mv (Γ' := fun a => if a = h0 then some 10 else Γ a) (F' := F) (fun a ha => ⟨if_neg (hmaq7.no h0Γ a ha), rfl⟩)⟩, ⟨hdq5q6, hdq5q7, hdq6q7⟩⟩, hpdq2.mv (Γ' := fun a => if a = h0 then some 10 else Γ a) (F' := F) (fun f hf => hpsq2.ty hf) (fun a t ha => ⟨zif ha h0Γ, rfl⟩), hpdq3.mv (Γ' := fun a => if a = h0 then some 10 else Γ a) (F' := F) (fun f hf => hpsq3.ty hf) (fun a t ha => ⟨zif ha h0Γ, rfl⟩), (show zfld F h0 8 = .int 0 from by unfold zfld; rw [hF]; rfl)⟩, by rw [ht9]; exact h.1, h.2.1, h.2.2.1, h.2.2.2.1⟩, h.2.2.2.2.F ht9⟩) h.2.2.2.2.2.2 dX10_init_112

def zp_14 : Nat → zW3 → Prop := fun h0 u => z14 u.1 u.2.2 h0 ∧ zYn u.1 u.2.2 h0 ∧ zfld u.2.2 h0 24 = .int 0
set_option maxHeartbeats 4000000 in
set_option maxRecDepth 100000 in
theorem zi_X14 (l : Launch) (D : va_G) (k : Nat → ClassId) (h0 sz : Nat) : Met l yX14_init zwi_14 ({ frames := 5, cells := 100, slots := 22535, locals := 132 }) (va_Pc [.ref h0] (zPi D k 14 [.int 0, .int 0, .int 0, .int 0, .null, .null, .null, .int 0, .int 0, .null, .null, .int 0, .int 0, .int 0, .int 0, .int 0, .int 0, .int 0, .int 0, .int 0, .int 0, .long 0, .null, .null, .int 0, .null, .int 0, .int 0, .int 0, .int 0, .null, .null, .int 0, .int 0, .null, .null, .null, .null, .null, .null] h0 sz)) (va_Qv (fun u : zW3 => u.1 h0 = some 14 ∧ zp_14 h0 u) (zQi D k (zA0 h0 sz)) (zA0 h0 sz)) 100 22535 (zA0 h0 sz) := by
  refine Met.ofW (cc := cX14_init) (maxL := 1) (ret := none) (by decide) rfl ?_
  intro p e s m args below meth c s₁ B hml hv
  obtain ⟨rfl, hsz, hP, hK, hN0, hZ⟩ := hv
  have hx := B.exec
  have hb := B.bytes
  have hr := B.returns
  have hts : ∀ w ∈ zGI, w.before _ s = true := fun w h9 => atoms_spec (ws := zwi_14) B.pre w (List.mem_cons_of_mem _ h9)
  have hown : s.vm.findClass RX14 = some m.cls := findClass_of_methodNamed B.named
  have hini : meth.name = "<init>" := (name_of_methodNamed B.named B.method).1
  subst hsz
  have Y : zY p m c cX14_init 1 s _ zGI RX14 D k (zA0 h0 s.heap.size) := ⟨⟨hx, hb, hml, hown, hts⟩, hK, hN0, hZ, fun q h9 => Or.inr h9⟩
  have h : zU D k (zA0 h0 s.heap.size) s (fun _ => none) [h0] (fun _ => .inr (14, [.int 0, .int 0, .int 0, .int 0, .null, .null, .null, .int 0, .int 0, .null, .null, .int 0, .int 0, .int 0, .int 0, .int 0, .int 0, .int 0, .int 0, .int 0, .int 0, .long 0, .null, .null, .int 0, .null, .int 0, .int 0, .int 0, .int 0, .null, .null, .int 0, .int 0, .null, .null, .null, .null, .null, .null])) s.heap [] := ⟨hP, by simp, fun a ha => Or.inl (List.mem_singleton.mp ha), (fun a t9 h9 => by cases h9), va_S.rf⟩
  have hl := lv_entry ([.ref h0]) (n := 1) (Nat.le_of_ble_eq_true rfl)
  rw [lg_entry_eq]
  generalize (lg_sl ([.ref h0]) ++ List.replicate (1 - (lg_sl ([.ref h0])).length) Slot.unset).toArray = ls at hl ⊢
  have hl : lv_has ls 1 [(0, .ref h0)] := hl
  have h0L : h0 ∈ [h0] := List.mem_singleton.mpr rfl
  have hfam : ∀ a ∈ [h0], a = h0 ∨ ∃ t, (fun _ => none : Nat → Option Nat) a = some t ∧ 124 ≤ t ∧ t ≤ 149 := fun a ha => Or.inl (List.mem_singleton.mp ha)
  generalize hΓ9 : (fun _ => none : Nat → Option Nat) = Γ at h hfam
  have h0Γ : Γ h0 = none := by rw [← hΓ9]
  generalize hF9 : (fun _ => .inr (14, [.int 0, .int 0, .int 0, .int 0, .null, .null, .null, .int 0, .int 0, .null, .null, .int 0, .int 0, .int 0, .int 0, .int 0, .int 0, .int 0, .int 0, .int 0, .int 0, .long 0, .null, .null, .int 0, .null, .int 0, .int 0, .int 0, .int 0, .null, .null, .int 0, .int 0, .null, .null, .null, .null, .null, .null]) : Nat → va_E) = F at h
  have hF : F h0 = .inr (14, [.int 0, .int 0, .int 0, .int 0, .null, .null, .null, .int 0, .int 0, .null, .null, .int 0, .int 0, .int 0, .int 0, .int 0, .int 0, .int 0, .int 0, .int 0, .int 0, .long 0, .null, .null, .int 0, .null, .int 0, .int 0, .int 0, .int 0, .null, .null, .int 0, .int 0, .null, .null, .null, .null, .null, .null]) := by rw [← hF9]
  have hΓ0 : ∀ a, Γ a = none := fun a => by rw [← hΓ9]
  clear hΓ9 hF9
  generalize [h0] = L at h h0L hfam
  generalize hargs : ([.ref h0] : List Value).toArray = args at *
  refine z_start2 (fun R Q hRf hRl hRc hRs hQ => ?_)
  have hRf : R.frames = 5 := hRf
  have hRl : R.locals = 132 := hRl
  have hRc : R.cells = 100 := hRc
  have hRs : R.slots = 22535 := hRs
  have h11 : ∀ a, Γ a = some 11 → a ∈ ([] : List Nat) := fun a ha => by rw [hΓ0] at ha; cases ha
  refine lv_aload_n hx hb dX14_init_0 rfl (lv_at hl 0 rfl) ?_
  refine W.objInit hx hb hown (hts _ (zmi (List.mem_of_getElem? (i := 134) rfl))) (hts _ (zmi (List.mem_of_getElem? (i := 1) rfl))) (hts _ (zmi (List.mem_of_getElem? (i := 2) rfl))) rfl (by rw [hml]; exact hl.1) rfl dX14_init_1 (by rw [hRf]; exact (Nat.le_of_ble_eq_true rfl)) (by rw [hRl]; exact (Nat.le_of_ble_eq_true rfl)) ?_
  refine W.eq (g2 := F0 m 4 ls []) rfl ?_
  refine lv_aload_n hx hb dX14_init_4 rfl (lv_at hl 0 rfl) ?_
  refine lv_iconst (v := (-1)) hx hb dX14_init_5 (by decide) ?_
  refine zj_putn (C := RX14) (T := TX14) (N := 40) (t := 14) (v := .int (-1)) Y h h0L h0Γ hF ziin_14 tyX14 tyX14_ok nmX14 rfl 2 (by decide) (zmi (List.mem_of_getElem? (i := 135) rfl)) (fun _ h9 => h9) rfl rfl rfl (Nat.le_of_ble_eq_true rfl) dX14_init_6 (fun F' H locs hF' hne h' => ?_)
  have hF : F' h0 = .inr (14, [.int 0, .int 0, .int (-1), .int 0, .null, .null, .null, .int 0, .int 0, .null, .null, .int 0, .int 0, .int 0, .int 0, .int 0, .int 0, .int 0, .int 0, .int 0, .int 0, .long 0, .null, .null, .int 0, .null, .int 0, .int 0, .int 0, .int 0, .null, .null, .int 0, .int 0, .null, .null, .null, .null, .null, .null]) := hF'
  have h := h'
  clear hF' hne h'
  generalize F' = F at h hF
  refine lv_aload_n hx hb dX14_init_9 rfl (lv_at hl 0 rfl) ?_
  refine zj_newN (t := 11) (C := RX11) (T := TX11) (N := 30) (fs := [.int 0, .int 0, .int 0, .int 0, .null, .null, .null, .null, .null, .null, .null, .null, .null, .null, .null, .null, .null, .null, .null, .null, .null, .null, .null, .null, .null, .null, .null, .null, .null, .null]) (mc := 26) (ms := 5071) (post := zp_11) Y h ziin_11 tyX11 tyX11_ok (zmi (List.mem_of_getElem? (i := 138) rfl)) (zmi (List.mem_of_getElem? (i := 139) rfl)) (zmi (List.mem_of_getElem? (i := 136) rfl)) rfl (fun j hj => z_df11 j hj) (fun q9 sz9 => zi_X11 l D k q9 sz9) ⟨va_cnB 0 hts zgi_11 rfl rfl rfl (hN0.at 1 rfl) (hts _ (zmi (List.mem_of_getElem? (i := 136) rfl))) (by decide +kernel) ⟨by rw [hRf]; exact (Nat.le_of_ble_eq_true rfl), by rw [hRl]; exact (Nat.le_of_ble_eq_true rfl)⟩, rfl, hts _ (zmi (List.mem_of_getElem? (i := 137) rfl))⟩ hl.1 (Nat.le_of_ble_eq_true rfl) (by rw [hRc]; exact (Nat.le_of_ble_eq_true rfl)) (by rw [hRs]; exact (Nat.le_of_ble_eq_true rfl)) dX14_init_10 dX14_init_13 dX14_init_14 (fun q1 Γq1 Lq1 Fq1 Γ L F H locs hq1 hnq1 hpq1 hIq1 hk hk2q1 hL9 huq1 h' => ?_)
  have h0Γ := (hk h0 h0L).1.trans h0Γ
  have hF := (hk h0 h0L).2.1.trans hF
  have hfq1 := (zFm.mk0 hIq1 hnq1 hpq1).mv (Γ' := Γ) (F' := F) (fun a ha => ⟨(hk2q1 a ha).1, (hk2q1 a ha).2.1⟩)
  have hsq1 : ∀ a ∈ Lq1, a ∈ L := fun a ha => (hk2q1 a ha).2.2
  have h11 : ∀ a, Γ a = some 11 → a ∈ [q1] := fun a ha => (hL9 a (h'.2.2.2.1 a _ ha).1).elim (fun h1 => List.mem_cons_of_mem _ (h11 a ((hk a h1).1.symm.trans ha))) (fun h1 => (hpq1 a h1).elim (fun h2 => List.mem_cons.mpr (Or.inl h2.2)) (fun ⟨t9, h2, h3⟩ => absurd (h2.symm.trans ((hk2q1 a h1).1.symm.trans ha)) (zsne h3)))
  have h0L := (hk h0 h0L).2.2.1
  have h := h'
  clear h' hk hL9
  refine W.widen (k := 27) (n := 5101) (Nat.le_of_ble_eq_true rfl) (Nat.le_of_ble_eq_true rfl) ?_
  refine zj_putn (C := RX14) (T := TX14) (N := 40) (t := 14) (v := .ref q1) Y h h0L h0Γ hF ziin_14 tyX14 tyX14_ok nmX14 rfl 4 (by decide) (zmi (List.mem_of_getElem? (i := 140) rfl)) (fun _ h9 => h9) rfl rfl rfl (Nat.le_of_ble_eq_true rfl) dX14_init_17 (fun F' H locs hF' hne h' => ?_)
  have hF : F' h0 = .inr (14, [.int 0, .int 0, .int (-1), .int 0, .ref q1, .null, .null, .int 0, .int 0, .null, .null, .int 0, .int 0, .int 0, .int 0, .int 0, .int 0, .int 0, .int 0, .int 0, .int 0, .long 0, .null, .null, .int 0, .null, .int 0, .int 0, .int 0, .int 0, .null, .null, .int 0, .int 0, .null, .null, .null, .null, .null, .null]) := hF'
  have h := h'
  have hfq1 := hfq1.mv (Γ' := Γ) (F' := F') (fun a ha => ⟨rfl, hne a (hfq1.no h0Γ a ha)⟩)
  clear hF' hne h'
  generalize F' = F at h hF hfq1
  refine lv_aload_n hx hb dX14_init_20 rfl (lv_at hl 0 rfl) ?_
  refine zj_newN (t := 11) (C := RX11) (T := TX11) (N := 30) (fs := [.int 0, .int 0, .int 0, .int 0, .null, .null, .null, .null, .null, .null, .null, .null, .null, .null, .null, .null, .null, .null, .null, .null, .null, .null, .null, .null, .null, .null, .null, .null, .null, .null]) (mc := 26) (ms := 5071) (post := zp_11) Y h ziin_11 tyX11 tyX11_ok (zmi (List.mem_of_getElem? (i := 138) rfl)) (zmi (List.mem_of_getElem? (i := 139) rfl)) (zmi (List.mem_of_getElem? (i := 136) rfl)) rfl (fun j hj => z_df11 j hj) (fun q9 sz9 => zi_X11 l D k q9 sz9) ⟨va_cnB 0 hts zgi_11 rfl rfl rfl (hN0.at 1 rfl) (hts _ (zmi (List.mem_of_getElem? (i := 136) rfl))) (by decide +kernel) ⟨by rw [hRf]; exact (Nat.le_of_ble_eq_true rfl), by rw [hRl]; exact (Nat.le_of_ble_eq_true rfl)⟩, rfl, hts _ (zmi (List.mem_of_getElem? (i := 137) rfl))⟩ hl.1 (Nat.le_of_ble_eq_true rfl) (by rw [hRc]; exact (Nat.le_of_ble_eq_true rfl)) (by rw [hRs]; exact (Nat.le_of_ble_eq_true rfl)) dX14_init_21 dX14_init_24 dX14_init_25 (fun q2 Γq2 Lq2 Fq2 Γ L F H locs hq2 hnq2 hpq2 hIq2 hk hk2q2 hL9 huq2 h' => ?_)
  have hq1 := (hk q1 (h.2.2.2.1 _ _ hq1).1).1.trans hq1
  have hdq1q2 : ∀ a ∈ Lq1, a ∉ Lq2 := fun a ha => (hk a (hsq1 a ha)).2.2.2
  have hfq1 := hfq1.mv (Γ' := Γ) (F' := F) (fun a ha => ⟨(hk a (hsq1 a ha)).1, (hk a (hsq1 a ha)).2.1⟩)
  have hsq1 : ∀ a ∈ Lq1, a ∈ L := fun a ha => (hk a (hsq1 a ha)).2.2.1
  have h0Γ := (hk h0 h0L).1.trans h0Γ
  have hF := (hk h0 h0L).2.1.trans hF
  have hfq2 := (zFm.mk0 hIq2 hnq2 hpq2).mv (Γ' := Γ) (F' := F) (fun a ha => ⟨(hk2q2 a ha).1, (hk2q2 a ha).2.1⟩)
  have hsq2 : ∀ a ∈ Lq2, a ∈ L := fun a ha => (hk2q2 a ha).2.2
  have h11 : ∀ a, Γ a = some 11 → a ∈ [q2, q1] := fun a ha => (hL9 a (h'.2.2.2.1 a _ ha).1).elim (fun h1 => List.mem_cons_of_mem _ (h11 a ((hk a h1).1.symm.trans ha))) (fun h1 => (hpq2 a h1).elim (fun h2 => List.mem_cons.mpr (Or.inl h2.2)) (fun ⟨t9, h2, h3⟩ => absurd (h2.symm.trans ((hk2q2 a h1).1.symm.trans ha)) (zsne h3)))
  have h0L := (hk h0 h0L).2.2.1
  have h := h'
  clear h' hk hL9
  refine W.widen (k := 54) (n := 10202) (Nat.le_of_ble_eq_true rfl) (Nat.le_of_ble_eq_true rfl) ?_
  refine zj_putn (C := RX14) (T := TX14) (N := 40) (t := 14) (v := .ref q2) Y h h0L h0Γ hF ziin_14 tyX14 tyX14_ok nmX14 rfl 5 (by decide) (zmi (List.mem_of_getElem? (i := 141) rfl)) (fun _ h9 => h9) rfl rfl rfl (Nat.le_of_ble_eq_true rfl) dX14_init_28 (fun F' H locs hF' hne h' => ?_)
  have hF : F' h0 = .inr (14, [.int 0, .int 0, .int (-1), .int 0, .ref q1, .ref q2, .null, .int 0, .int 0, .null, .null, .int 0, .int 0, .int 0, .int 0, .int 0, .int 0, .int 0, .int 0, .int 0, .int 0, .long 0, .null, .null, .int 0, .null, .int 0, .int 0, .int 0, .int 0, .null, .null, .int 0, .int 0, .null, .null, .null, .null, .null, .null]) := hF'
  have h := h'
  have hfq1 := hfq1.mv (Γ' := Γ) (F' := F') (fun a ha => ⟨rfl, hne a (hfq1.no h0Γ a ha)⟩)
  have hfq2 := hfq2.mv (Γ' := Γ) (F' := F') (fun a ha => ⟨rfl, hne a (hfq2.no h0Γ a ha)⟩)
  clear hF' hne h'
  generalize F' = F at h hF hfq1 hfq2
  refine lv_aload_n hx hb dX14_init_31 rfl (lv_at hl 0 rfl) ?_
  refine zj_newN (t := 11) (C := RX11) (T := TX11) (N := 30) (fs := [.int 0, .int 0, .int 0, .int 0, .null, .null, .null, .null, .null, .null, .null, .null, .null, .null, .null, .null, .null, .null, .null, .null, .null, .null, .null, .null, .null, .null, .null, .null, .null, .null]) (mc := 26) (ms := 5071) (post := zp_11) Y h ziin_11 tyX11 tyX11_ok (zmi (List.mem_of_getElem? (i := 138) rfl)) (zmi (List.mem_of_getElem? (i := 139) rfl)) (zmi (List.mem_of_getElem? (i := 136) rfl)) rfl (fun j hj => z_df11 j hj) (fun q9 sz9 => zi_X11 l D k q9 sz9) ⟨va_cnB 0 hts zgi_11 rfl rfl rfl (hN0.at 1 rfl) (hts _ (zmi (List.mem_of_getElem? (i := 136) rfl))) (by decide +kernel) ⟨by rw [hRf]; exact (Nat.le_of_ble_eq_true rfl), by rw [hRl]; exact (Nat.le_of_ble_eq_true rfl)⟩, rfl, hts _ (zmi (List.mem_of_getElem? (i := 137) rfl))⟩ hl.1 (Nat.le_of_ble_eq_true rfl) (by rw [hRc]; exact (Nat.le_of_ble_eq_true rfl)) (by rw [hRs]; exact (Nat.le_of_ble_eq_true rfl)) dX14_init_32 dX14_init_35 dX14_init_36 (fun q3 Γq3 Lq3 Fq3 Γ L F H locs hq3 hnq3 hpq3 hIq3 hk hk2q3 hL9 huq3 h' => ?_)
  have hq1 := (hk q1 (h.2.2.2.1 _ _ hq1).1).1.trans hq1
  have hq2 := (hk q2 (h.2.2.2.1 _ _ hq2).1).1.trans hq2
  have hdq1q3 : ∀ a ∈ Lq1, a ∉ Lq3 := fun a ha => (hk a (hsq1 a ha)).2.2.2
  have hdq2q3 : ∀ a ∈ Lq2, a ∉ Lq3 := fun a ha => (hk a (hsq2 a ha)).2.2.2
  have hfq1 := hfq1.mv (Γ' := Γ) (F' := F) (fun a ha => ⟨(hk a (hsq1 a ha)).1, (hk a (hsq1 a ha)).2.1⟩)
  have hsq1 : ∀ a ∈ Lq1, a ∈ L := fun a ha => (hk a (hsq1 a ha)).2.2.1
  have hfq2 := hfq2.mv (Γ' := Γ) (F' := F) (fun a ha => ⟨(hk a (hsq2 a ha)).1, (hk a (hsq2 a ha)).2.1⟩)
  have hsq2 : ∀ a ∈ Lq2, a ∈ L := fun a ha => (hk a (hsq2 a ha)).2.2.1
  have h0Γ := (hk h0 h0L).1.trans h0Γ
  have hF := (hk h0 h0L).2.1.trans hF
  have hfq3 := (zFm.mk0 hIq3 hnq3 hpq3).mv (Γ' := Γ) (F' := F) (fun a ha => ⟨(hk2q3 a ha).1, (hk2q3 a ha).2.1⟩)
  have hsq3 : ∀ a ∈ Lq3, a ∈ L := fun a ha => (hk2q3 a ha).2.2
  have h11 : ∀ a, Γ a = some 11 → a ∈ [q3, q2, q1] := fun a ha => (hL9 a (h'.2.2.2.1 a _ ha).1).elim (fun h1 => List.mem_cons_of_mem _ (h11 a ((hk a h1).1.symm.trans ha))) (fun h1 => (hpq3 a h1).elim (fun h2 => List.mem_cons.mpr (Or.inl h2.2)) (fun ⟨t9, h2, h3⟩ => absurd (h2.symm.trans ((hk2q3 a h1).1.symm.trans ha)) (zsne h3)))
  have h0L := (hk h0 h0L).2.2.1
  have h := h'
  clear h' hk hL9
  refine W.widen (k := 81) (n := 15303) (Nat.le_of_ble_eq_true rfl) (Nat.le_of_ble_eq_true rfl) ?_
  refine zj_putn (C := RX14) (T := TX14) (N := 40) (t := 14) (v := .ref q3) Y h h0L h0Γ hF ziin_14 tyX14 tyX14_ok nmX14 rfl 6 (by decide) (zmi (List.mem_of_getElem? (i := 142) rfl)) (fun _ h9 => h9) rfl rfl rfl (Nat.le_of_ble_eq_true rfl) dX14_init_39 (fun F' H locs hF' hne h' => ?_)
  have hF : F' h0 = .inr (14, [.int 0, .int 0, .int (-1), .int 0, .ref q1, .ref q2, .ref q3, .int 0, .int 0, .null, .null, .int 0, .int 0, .int 0, .int 0, .int 0, .int 0, .int 0, .int 0, .int 0, .int 0, .long 0, .null, .null, .int 0, .null, .int 0, .int 0, .int 0, .int 0, .null, .null, .int 0, .int 0, .null, .null, .null, .null, .null, .null]) := hF'
  have h := h'
  have hfq1 := hfq1.mv (Γ' := Γ) (F' := F') (fun a ha => ⟨rfl, hne a (hfq1.no h0Γ a ha)⟩)
  have hfq2 := hfq2.mv (Γ' := Γ) (F' := F') (fun a ha => ⟨rfl, hne a (hfq2.no h0Γ a ha)⟩)
  have hfq3 := hfq3.mv (Γ' := Γ) (F' := F') (fun a ha => ⟨rfl, hne a (hfq3.no h0Γ a ha)⟩)
  clear hF' hne h'
  generalize F' = F at h hF hfq1 hfq2 hfq3
  refine lv_aload_n hx hb dX14_init_42 rfl (lv_at hl 0 rfl) ?_
  refine zj_new (t := 13) (C := RX13) (T := TX13) (N := 8) (fs := [.null, .null, .null, .null, .null, .int 0, .int 0, .int 0]) (mc := 0) (ms := 0) (post := zp_13) Y h ziin_13 tyX13 tyX13_ok (zmi (List.mem_of_getElem? (i := 146) rfl)) (zmi (List.mem_of_getElem? (i := 147) rfl)) (zmi (List.mem_of_getElem? (i := 143) rfl)) rfl (fun j hj => z_df13 j hj) (fun q9 sz9 => zi_X13 l D k q9 sz9) (cwI 0 hts zgi_13 rfl rfl rfl (hts _ (zmi (List.mem_of_getElem? (i := 143) rfl))) (hts _ (zmi (List.mem_of_getElem? (i := 144) rfl))) (hts _ (zmi (List.mem_of_getElem? (i := 145) rfl))) rfl (by decide +kernel) ⟨by rw [hRf]; exact (Nat.le_of_ble_eq_true rfl), by rw [hRl]; exact (Nat.le_of_ble_eq_true rfl)⟩) hl.1 (Nat.le_of_ble_eq_true rfl) (by rw [hRc]; exact (Nat.le_of_ble_eq_true rfl)) (by rw [hRs]; exact (Nat.le_of_ble_eq_true rfl)) dX14_init_43 dX14_init_46 dX14_init_47 (fun q4 Γq4 Lq4 Fq4 Γ L F H locs hq4 hnq4 hpq4 hIq4 hk hk2q4 hL9 huq4 h' => ?_)
  have hq1 := (hk q1 (h.2.2.2.1 _ _ hq1).1).1.trans hq1
  have hq2 := (hk q2 (h.2.2.2.1 _ _ hq2).1).1.trans hq2
  have hq3 := (hk q3 (h.2.2.2.1 _ _ hq3).1).1.trans hq3
  have hfq1 := hfq1.mv (Γ' := Γ) (F' := F) (fun a ha => ⟨(hk a (hsq1 a ha)).1, (hk a (hsq1 a ha)).2.1⟩)
  have hsq1 : ∀ a ∈ Lq1, a ∈ L := fun a ha => (hk a (hsq1 a ha)).2.2.1
  have hfq2 := hfq2.mv (Γ' := Γ) (F' := F) (fun a ha => ⟨(hk a (hsq2 a ha)).1, (hk a (hsq2 a ha)).2.1⟩)
  have hsq2 : ∀ a ∈ Lq2, a ∈ L := fun a ha => (hk a (hsq2 a ha)).2.2.1
  have hfq3 := hfq3.mv (Γ' := Γ) (F' := F) (fun a ha => ⟨(hk a (hsq3 a ha)).1, (hk a (hsq3 a ha)).2.1⟩)
  have hsq3 : ∀ a ∈ Lq3, a ∈ L := fun a ha => (hk a (hsq3 a ha)).2.2.1
  have h0Γ := (hk h0 h0L).1.trans h0Γ
  have hF := (hk h0 h0L).2.1.trans hF
  have h11 : ∀ a, Γ a = some 11 → a ∈ [q3, q2, q1] := fun a ha => (hL9 a (h'.2.2.2.1 a _ ha).1).elim (fun h1 => h11 a ((hk a h1).1.symm.trans ha)) (fun h1 => absurd ((hk2q4 a h1).1.symm.trans ha) (hpq4 a))
  have h0L := (hk h0 h0L).2.2.1
  have h := h'
  clear h' hk hL9
  refine W.widen (k := 82) (n := 15311) (Nat.le_of_ble_eq_true rfl) (Nat.le_of_ble_eq_true rfl) ?_
  refine zj_put (C := RX14) (T := TX14) (N := 40) (t := 14) (v := .ref q4) Y h h0L h0Γ hF ziin_14 tyX14 tyX14_ok nmX14 rfl 9 (by decide) (zmi (List.mem_of_getElem? (i := 148) rfl)) (fun _ h9 => h9) rfl hini rfl rfl rfl (Nat.le_of_ble_eq_true rfl) dX14_init_50 (fun F' H locs hF' hne h' => ?_)
  have hF : F' h0 = .inr (14, [.int 0, .int 0, .int (-1), .int 0, .ref q1, .ref q2, .ref q3, .int 0, .int 0, .ref q4, .null, .int 0, .int 0, .int 0, .int 0, .int 0, .int 0, .int 0, .int 0, .int 0, .int 0, .long 0, .null, .null, .int 0, .null, .int 0, .int 0, .int 0, .int 0, .null, .null, .int 0, .int 0, .null, .null, .null, .null, .null, .null]) := hF'
  have h := h'
  have hfq1 := hfq1.mv (Γ' := Γ) (F' := F') (fun a ha => ⟨rfl, hne a (hfq1.no h0Γ a ha)⟩)
  have hfq2 := hfq2.mv (Γ' := Γ) (F' := F') (fun a ha => ⟨rfl, hne a (hfq2.no h0Γ a ha)⟩)
  have hfq3 := hfq3.mv (Γ' := Γ) (F' := F') (fun a ha => ⟨rfl, hne a (hfq3.no h0Γ a ha)⟩)
  clear hF' hne h'
  generalize F' = F at h hF hfq1 hfq2 hfq3
  refine lv_aload_n hx hb dX14_init_53 rfl (lv_at hl 0 rfl) ?_
  refine lv_sipush (v := 600) hx hb dX14_init_54 (by decide) ?_
  refine zj_ar (atype := .byte) (ty := .byte) (κ := 0) (tc := 152) (N' := 600) (a0 := (600, .inl (fun _ => 0))) Y h (zmi (List.mem_of_getElem? (i := 3) rfl)) rfl rfl (fun _ h9 => h9) (fun _ => rfl) (by decide) (by decide) (by decide) (by rw [hRc]; exact (Nat.le_of_ble_eq_true rfl)) (by rw [hRs]; exact (Nat.le_of_ble_eq_true rfl)) (by decide) (fun _ _ _ hF9 => zar_z (κ := 0) (n := 600) (lo := (-128)) (hi := 127) (by decide) rfl (by decide) hF9) dX14_init_57 (fun q5 Γ L F H hq5 hk hL9 h' => ?_)
  have hq1 := (hk q1 (h.2.2.2.1 _ _ hq1).1).1.trans hq1
  have hq2 := (hk q2 (h.2.2.2.1 _ _ hq2).1).1.trans hq2
  have hq3 := (hk q3 (h.2.2.2.1 _ _ hq3).1).1.trans hq3
  have hq4 := (hk q4 (h.2.2.2.1 _ _ hq4).1).1.trans hq4
  have hfq1 := hfq1.mv (Γ' := Γ) (F' := F) (fun a ha => ⟨(hk a (hsq1 a ha)).1, (hk a (hsq1 a ha)).2.1⟩)
  have hsq1 : ∀ a ∈ Lq1, a ∈ L := fun a ha => (hk a (hsq1 a ha)).2.2
  have hfq2 := hfq2.mv (Γ' := Γ) (F' := F) (fun a ha => ⟨(hk a (hsq2 a ha)).1, (hk a (hsq2 a ha)).2.1⟩)
  have hsq2 : ∀ a ∈ Lq2, a ∈ L := fun a ha => (hk a (hsq2 a ha)).2.2
  have hfq3 := hfq3.mv (Γ' := Γ) (F' := F) (fun a ha => ⟨(hk a (hsq3 a ha)).1, (hk a (hsq3 a ha)).2.1⟩)
  have hsq3 : ∀ a ∈ Lq3, a ∈ L := fun a ha => (hk a (hsq3 a ha)).2.2
  have h0Γ := (hk h0 h0L).1.trans h0Γ
  have hF := (hk h0 h0L).2.1.trans hF
  have h0L := (hk h0 h0L).2.2
  have h11 : ∀ a, Γ a = some 11 → a ∈ [q3, q2, q1] := fun a ha => (hL9 a (h'.2.2.2.1 a _ ha).1).elim (fun h1 => h11 a ((hk a h1).1.symm.trans ha)) (fun h1 => by rw [h1, hq5] at ha; injection ha with ha; omega)
  have h := h'
  clear h' hk hL9
  refine W.widen (k := 83) (n := 15911) (Nat.le_of_ble_eq_true rfl) (Nat.le_of_ble_eq_true rfl) ?_
  refine zj_put (C := RX14) (T := TX14) (N := 40) (t := 14) (v := .ref q5) Y h h0L h0Γ hF ziin_14 tyX14 tyX14_ok nmX14 rfl 10 (by decide) (zmi (List.mem_of_getElem? (i := 149) rfl)) (fun _ h9 => h9) rfl hini rfl rfl rfl (Nat.le_of_ble_eq_true rfl) dX14_init_59 (fun F' H locs hF' hne h' => ?_)
  have hF : F' h0 = .inr (14, [.int 0, .int 0, .int (-1), .int 0, .ref q1, .ref q2, .ref q3, .int 0, .int 0, .ref q4, .ref q5, .int 0, .int 0, .int 0, .int 0, .int 0, .int 0, .int 0, .int 0, .int 0, .int 0, .long 0, .null, .null, .int 0, .null, .int 0, .int 0, .int 0, .int 0, .null, .null, .int 0, .int 0, .null, .null, .null, .null, .null, .null]) := hF'
  have h := h'
  have hfq1 := hfq1.mv (Γ' := Γ) (F' := F') (fun a ha => ⟨rfl, hne a (hfq1.no h0Γ a ha)⟩)
  have hfq2 := hfq2.mv (Γ' := Γ) (F' := F') (fun a ha => ⟨rfl, hne a (hfq2.no h0Γ a ha)⟩)
  have hfq3 := hfq3.mv (Γ' := Γ) (F' := F') (fun a ha => ⟨rfl, hne a (hfq3.no h0Γ a ha)⟩)
  clear hF' hne h'
  generalize F' = F at h hF hfq1 hfq2 hfq3
  refine lv_aload_n hx hb dX14_init_62 rfl (lv_at hl 0 rfl) ?_
  refine zj_newN (t := 12) (C := RX12) (T := TX12) (N := 10) (fs := [.int 0, .int 0, .int 0, .int 0, .int 0, .int 0, .long 0, .null, .null, .null]) (mc := 3) (ms := 1724) (post := zp_12) Y h ziin_12 tyX12 tyX12_ok (zmi (List.mem_of_getElem? (i := 152) rfl)) (zmi (List.mem_of_getElem? (i := 153) rfl)) (zmi (List.mem_of_getElem? (i := 150) rfl)) rfl (fun j hj => z_df12 j hj) (fun q9 sz9 => zi_X12 l D k q9 sz9) ⟨va_cnB 0 hts zgi_12 rfl rfl rfl (hN0.at 2 rfl) (hts _ (zmi (List.mem_of_getElem? (i := 150) rfl))) (by decide +kernel) ⟨by rw [hRf]; exact (Nat.le_of_ble_eq_true rfl), by rw [hRl]; exact (Nat.le_of_ble_eq_true rfl)⟩, rfl, hts _ (zmi (List.mem_of_getElem? (i := 151) rfl))⟩ hl.1 (Nat.le_of_ble_eq_true rfl) (by rw [hRc]; exact (Nat.le_of_ble_eq_true rfl)) (by rw [hRs]; exact (Nat.le_of_ble_eq_true rfl)) dX14_init_63 dX14_init_66 dX14_init_67 (fun q6 Γq6 Lq6 Fq6 Γ L F H locs hq6 hnq6 hpq6 hIq6 hk hk2q6 hL9 huq6 h' => ?_)
  have hq1 := (hk q1 (h.2.2.2.1 _ _ hq1).1).1.trans hq1
  have hq2 := (hk q2 (h.2.2.2.1 _ _ hq2).1).1.trans hq2
  have hq3 := (hk q3 (h.2.2.2.1 _ _ hq3).1).1.trans hq3
  have hq4 := (hk q4 (h.2.2.2.1 _ _ hq4).1).1.trans hq4
  have hq5 := (hk q5 (h.2.2.2.1 _ _ hq5).1).1.trans hq5
  have hfq1 := hfq1.mv (Γ' := Γ) (F' := F) (fun a ha => ⟨(hk a (hsq1 a ha)).1, (hk a (hsq1 a ha)).2.1⟩)
  have hsq1 : ∀ a ∈ Lq1, a ∈ L := fun a ha => (hk a (hsq1 a ha)).2.2.1
  have hfq2 := hfq2.mv (Γ' := Γ) (F' := F) (fun a ha => ⟨(hk a (hsq2 a ha)).1, (hk a (hsq2 a ha)).2.1⟩)
  have hsq2 : ∀ a ∈ Lq2, a ∈ L := fun a ha => (hk a (hsq2 a ha)).2.2.1
  have hfq3 := hfq3.mv (Γ' := Γ) (F' := F) (fun a ha => ⟨(hk a (hsq3 a ha)).1, (hk a (hsq3 a ha)).2.1⟩)
  have hsq3 : ∀ a ∈ Lq3, a ∈ L := fun a ha => (hk a (hsq3 a ha)).2.2.1
  have h0Γ := (hk h0 h0L).1.trans h0Γ
  have hF := (hk h0 h0L).2.1.trans hF
  obtain ⟨Xq6, hyaq6, hXq6⟩ : ∃ X, zYm Γ F q6 X ∧ ∀ a ∈ X, a ∈ Lq6 := ⟨_, (zYm.mk0 hIq6 hnq6).mv (fun a ha => ⟨(hk2q6 a (List.mem_filter.mp ha).1).1, (hk2q6 a (List.mem_filter.mp ha).1).2.1⟩), fun a ha => (List.mem_filter.mp ha).1⟩
  have h11 : ∀ a, Γ a = some 11 → a ∈ [q3, q2, q1] := fun a ha => (hL9 a (h'.2.2.2.1 a _ ha).1).elim (fun h1 => h11 a ((hk a h1).1.symm.trans ha)) (fun h1 => absurd ((hk2q6 a h1).1.symm.trans ha) (hpq6 a))
  have h0L := (hk h0 h0L).2.2.1
  have h := h'
  clear h' hk hL9
  refine W.widen (k := 87) (n := 17645) (Nat.le_of_ble_eq_true rfl) (Nat.le_of_ble_eq_true rfl) ?_
  refine zj_putn (C := RX14) (T := TX14) (N := 40) (t := 14) (v := .ref q6) Y h h0L h0Γ hF ziin_14 tyX14 tyX14_ok nmX14 rfl 22 (by decide) (zmi (List.mem_of_getElem? (i := 154) rfl)) (fun _ h9 => h9) rfl rfl rfl (Nat.le_of_ble_eq_true rfl) dX14_init_70 (fun F' H locs hF' hne h' => ?_)
  have hF : F' h0 = .inr (14, [.int 0, .int 0, .int (-1), .int 0, .ref q1, .ref q2, .ref q3, .int 0, .int 0, .ref q4, .ref q5, .int 0, .int 0, .int 0, .int 0, .int 0, .int 0, .int 0, .int 0, .int 0, .int 0, .long 0, .ref q6, .null, .int 0, .null, .int 0, .int 0, .int 0, .int 0, .null, .null, .int 0, .int 0, .null, .null, .null, .null, .null, .null]) := hF'
  have h := h'
  have hfq1 := hfq1.mv (Γ' := Γ) (F' := F') (fun a ha => ⟨rfl, hne a (hfq1.no h0Γ a ha)⟩)
  have hfq2 := hfq2.mv (Γ' := Γ) (F' := F') (fun a ha => ⟨rfl, hne a (hfq2.no h0Γ a ha)⟩)
  have hfq3 := hfq3.mv (Γ' := Γ) (F' := F') (fun a ha => ⟨rfl, hne a (hfq3.no h0Γ a ha)⟩)
  have hyaq6 := hyaq6.mv (Γ' := Γ) (F' := F') (fun a ha => ⟨rfl, hne a (hyaq6.no h0Γ a ha)⟩)
  clear hF' hne h'
  generalize F' = F at h hF hfq1 hfq2 hfq3 hyaq6
  refine lv_aload_n hx hb dX14_init_73 rfl (lv_at hl 0 rfl) ?_
  refine zj_newN (t := 12) (C := RX12) (T := TX12) (N := 10) (fs := [.int 0, .int 0, .int 0, .int 0, .int 0, .int 0, .long 0, .null, .null, .null]) (mc := 3) (ms := 1724) (post := zp_12) Y h ziin_12 tyX12 tyX12_ok (zmi (List.mem_of_getElem? (i := 152) rfl)) (zmi (List.mem_of_getElem? (i := 153) rfl)) (zmi (List.mem_of_getElem? (i := 150) rfl)) rfl (fun j hj => z_df12 j hj) (fun q9 sz9 => zi_X12 l D k q9 sz9) ⟨va_cnB 0 hts zgi_12 rfl rfl rfl (hN0.at 2 rfl) (hts _ (zmi (List.mem_of_getElem? (i := 150) rfl))) (by decide +kernel) ⟨by rw [hRf]; exact (Nat.le_of_ble_eq_true rfl), by rw [hRl]; exact (Nat.le_of_ble_eq_true rfl)⟩, rfl, hts _ (zmi (List.mem_of_getElem? (i := 151) rfl))⟩ hl.1 (Nat.le_of_ble_eq_true rfl) (by rw [hRc]; exact (Nat.le_of_ble_eq_true rfl)) (by rw [hRs]; exact (Nat.le_of_ble_eq_true rfl)) dX14_init_74 dX14_init_77 dX14_init_78 (fun q7 Γq7 Lq7 Fq7 Γ L F H locs hq7 hnq7 hpq7 hIq7 hk hk2q7 hL9 huq7 h' => ?_)
  have hq1 := (hk q1 (h.2.2.2.1 _ _ hq1).1).1.trans hq1
  have hq2 := (hk q2 (h.2.2.2.1 _ _ hq2).1).1.trans hq2
  have hq3 := (hk q3 (h.2.2.2.1 _ _ hq3).1).1.trans hq3
  have hq4 := (hk q4 (h.2.2.2.1 _ _ hq4).1).1.trans hq4
  have hq5 := (hk q5 (h.2.2.2.1 _ _ hq5).1).1.trans hq5
  have hq6 := (hk q6 (h.2.2.2.1 _ _ hq6).1).1.trans hq6
  have hdq6q7 : ∀ a ∈ Xq6, a ∉ Lq7 := fun a ha => (hk a (hyaq6.sub h.2.2.2.1 a ha)).2.2.2
  have hyaq6 := hyaq6.mv (Γ' := Γ) (F' := F) (fun a ha => ⟨(hk a (hyaq6.sub h.2.2.2.1 a ha)).1, (hk a (hyaq6.sub h.2.2.2.1 a ha)).2.1⟩)
  have hfq1 := hfq1.mv (Γ' := Γ) (F' := F) (fun a ha => ⟨(hk a (hsq1 a ha)).1, (hk a (hsq1 a ha)).2.1⟩)
  have hsq1 : ∀ a ∈ Lq1, a ∈ L := fun a ha => (hk a (hsq1 a ha)).2.2.1
  have hfq2 := hfq2.mv (Γ' := Γ) (F' := F) (fun a ha => ⟨(hk a (hsq2 a ha)).1, (hk a (hsq2 a ha)).2.1⟩)
  have hsq2 : ∀ a ∈ Lq2, a ∈ L := fun a ha => (hk a (hsq2 a ha)).2.2.1
  have hfq3 := hfq3.mv (Γ' := Γ) (F' := F) (fun a ha => ⟨(hk a (hsq3 a ha)).1, (hk a (hsq3 a ha)).2.1⟩)
  have hsq3 : ∀ a ∈ Lq3, a ∈ L := fun a ha => (hk a (hsq3 a ha)).2.2.1
  have h0Γ := (hk h0 h0L).1.trans h0Γ
  have hF := (hk h0 h0L).2.1.trans hF
  obtain ⟨Xq7, hyaq7, hXq7⟩ : ∃ X, zYm Γ F q7 X ∧ ∀ a ∈ X, a ∈ Lq7 := ⟨_, (zYm.mk0 hIq7 hnq7).mv (fun a ha => ⟨(hk2q7 a (List.mem_filter.mp ha).1).1, (hk2q7 a (List.mem_filter.mp ha).1).2.1⟩), fun a ha => (List.mem_filter.mp ha).1⟩
  have hdq6q7 : ∀ a ∈ Xq6, a ∉ Xq7 := fun a ha hb => hdq6q7 a ha (hXq7 a hb)
  have h11 : ∀ a, Γ a = some 11 → a ∈ [q3, q2, q1] := fun a ha => (hL9 a (h'.2.2.2.1 a _ ha).1).elim (fun h1 => h11 a ((hk a h1).1.symm.trans ha)) (fun h1 => absurd ((hk2q7 a h1).1.symm.trans ha) (hpq7 a))
  have h0L := (hk h0 h0L).2.2.1
  have h := h'
  clear h' hk hL9
  refine W.widen (k := 91) (n := 19379) (Nat.le_of_ble_eq_true rfl) (Nat.le_of_ble_eq_true rfl) ?_
  refine zj_putn (C := RX14) (T := TX14) (N := 40) (t := 14) (v := .ref q7) Y h h0L h0Γ hF ziin_14 tyX14 tyX14_ok nmX14 rfl 23 (by decide) (zmi (List.mem_of_getElem? (i := 155) rfl)) (fun _ h9 => h9) rfl rfl rfl (Nat.le_of_ble_eq_true rfl) dX14_init_81 (fun F' H locs hF' hne h' => ?_)
  have hF : F' h0 = .inr (14, [.int 0, .int 0, .int (-1), .int 0, .ref q1, .ref q2, .ref q3, .int 0, .int 0, .ref q4, .ref q5, .int 0, .int 0, .int 0, .int 0, .int 0, .int 0, .int 0, .int 0, .int 0, .int 0, .long 0, .ref q6, .ref q7, .int 0, .null, .int 0, .int 0, .int 0, .int 0, .null, .null, .int 0, .int 0, .null, .null, .null, .null, .null, .null]) := hF'
  have h := h'
  have hfq1 := hfq1.mv (Γ' := Γ) (F' := F') (fun a ha => ⟨rfl, hne a (hfq1.no h0Γ a ha)⟩)
  have hfq2 := hfq2.mv (Γ' := Γ) (F' := F') (fun a ha => ⟨rfl, hne a (hfq2.no h0Γ a ha)⟩)
  have hfq3 := hfq3.mv (Γ' := Γ) (F' := F') (fun a ha => ⟨rfl, hne a (hfq3.no h0Γ a ha)⟩)
  have hyaq6 := hyaq6.mv (Γ' := Γ) (F' := F') (fun a ha => ⟨rfl, hne a (hyaq6.no h0Γ a ha)⟩)
  have hyaq7 := hyaq7.mv (Γ' := Γ) (F' := F') (fun a ha => ⟨rfl, hne a (hyaq7.no h0Γ a ha)⟩)
  clear hF' hne h'
  generalize F' = F at h hF hfq1 hfq2 hfq3 hyaq6 hyaq7
  refine lv_aload_n hx hb dX14_init_84 rfl (lv_at hl 0 rfl) ?_
  refine lv_sipush (v := 2000) hx hb dX14_init_85 (by decide) ?_
  refine zj_ar (atype := .int) (ty := .int) (κ := 1) (tc := 150) (N' := 2000) (a0 := (2000, .inl (fun _ => 0))) Y h (zmi (List.mem_of_getElem? (i := 5) rfl)) rfl rfl (fun _ h9 => h9) (fun _ => rfl) (by decide) (by decide) (by decide) (by rw [hRc]; exact (Nat.le_of_ble_eq_true rfl)) (by rw [hRs]; exact (Nat.le_of_ble_eq_true rfl)) (by decide) (fun _ _ _ hF9 => zar_z (κ := 1) (n := 2000) (lo := (-2147483648)) (hi := 2147483647) (by decide) rfl (by decide) hF9) dX14_init_88 (fun q8 Γ L F H hq8 hk hL9 h' => ?_)
  have hq1 := (hk q1 (h.2.2.2.1 _ _ hq1).1).1.trans hq1
  have hq2 := (hk q2 (h.2.2.2.1 _ _ hq2).1).1.trans hq2
  have hq3 := (hk q3 (h.2.2.2.1 _ _ hq3).1).1.trans hq3
  have hq4 := (hk q4 (h.2.2.2.1 _ _ hq4).1).1.trans hq4
  have hq5 := (hk q5 (h.2.2.2.1 _ _ hq5).1).1.trans hq5
  have hq6 := (hk q6 (h.2.2.2.1 _ _ hq6).1).1.trans hq6
  have hq7 := (hk q7 (h.2.2.2.1 _ _ hq7).1).1.trans hq7
  have hyaq6 := hyaq6.mv (Γ' := Γ) (F' := F) (fun a ha => ⟨(hk a (hyaq6.sub h.2.2.2.1 a ha)).1, (hk a (hyaq6.sub h.2.2.2.1 a ha)).2.1⟩)
  have hyaq7 := hyaq7.mv (Γ' := Γ) (F' := F) (fun a ha => ⟨(hk a (hyaq7.sub h.2.2.2.1 a ha)).1, (hk a (hyaq7.sub h.2.2.2.1 a ha)).2.1⟩)
  have hfq1 := hfq1.mv (Γ' := Γ) (F' := F) (fun a ha => ⟨(hk a (hsq1 a ha)).1, (hk a (hsq1 a ha)).2.1⟩)
  have hsq1 : ∀ a ∈ Lq1, a ∈ L := fun a ha => (hk a (hsq1 a ha)).2.2
  have hfq2 := hfq2.mv (Γ' := Γ) (F' := F) (fun a ha => ⟨(hk a (hsq2 a ha)).1, (hk a (hsq2 a ha)).2.1⟩)
  have hsq2 : ∀ a ∈ Lq2, a ∈ L := fun a ha => (hk a (hsq2 a ha)).2.2
  have hfq3 := hfq3.mv (Γ' := Γ) (F' := F) (fun a ha => ⟨(hk a (hsq3 a ha)).1, (hk a (hsq3 a ha)).2.1⟩)
  have hsq3 : ∀ a ∈ Lq3, a ∈ L := fun a ha => (hk a (hsq3 a ha)).2.2
  have h0Γ := (hk h0 h0L).1.trans h0Γ
  have hF := (hk h0 h0L).2.1.trans hF
  have h0L := (hk h0 h0L).2.2
  have h11 : ∀ a, Γ a = some 11 → a ∈ [q3, q2, q1] := fun a ha => (hL9 a (h'.2.2.2.1 a _ ha).1).elim (fun h1 => h11 a ((hk a h1).1.symm.trans ha)) (fun h1 => by rw [h1, hq8] at ha; injection ha with ha; omega)
  have h := h'
  clear h' hk hL9
  refine W.widen (k := 92) (n := 21379) (Nat.le_of_ble_eq_true rfl) (Nat.le_of_ble_eq_true rfl) ?_
  refine zj_put (C := RX14) (T := TX14) (N := 40) (t := 14) (v := .ref q8) Y h h0L h0Γ hF ziin_14 tyX14 tyX14_ok nmX14 rfl 25 (by decide) (zmi (List.mem_of_getElem? (i := 156) rfl)) (fun _ h9 => h9) rfl hini rfl rfl rfl (Nat.le_of_ble_eq_true rfl) dX14_init_90 (fun F' H locs hF' hne h' => ?_)
  have hF : F' h0 = .inr (14, [.int 0, .int 0, .int (-1), .int 0, .ref q1, .ref q2, .ref q3, .int 0, .int 0, .ref q4, .ref q5, .int 0, .int 0, .int 0, .int 0, .int 0, .int 0, .int 0, .int 0, .int 0, .int 0, .long 0, .ref q6, .ref q7, .int 0, .ref q8, .int 0, .int 0, .int 0, .int 0, .null, .null, .int 0, .int 0, .null, .null, .null, .null, .null, .null]) := hF'
  have h := h'
  have hfq1 := hfq1.mv (Γ' := Γ) (F' := F') (fun a ha => ⟨rfl, hne a (hfq1.no h0Γ a ha)⟩)
  have hfq2 := hfq2.mv (Γ' := Γ) (F' := F') (fun a ha => ⟨rfl, hne a (hfq2.no h0Γ a ha)⟩)
  have hfq3 := hfq3.mv (Γ' := Γ) (F' := F') (fun a ha => ⟨rfl, hne a (hfq3.no h0Γ a ha)⟩)
  have hyaq6 := hyaq6.mv (Γ' := Γ) (F' := F') (fun a ha => ⟨rfl, hne a (hyaq6.no h0Γ a ha)⟩)
  have hyaq7 := hyaq7.mv (Γ' := Γ) (F' := F') (fun a ha => ⟨rfl, hne a (hyaq7.no h0Γ a ha)⟩)
  clear hF' hne h'
  generalize F' = F at h hF hfq1 hfq2 hfq3 hyaq6 hyaq7
  refine lv_aload_n hx hb dX14_init_93 rfl (lv_at hl 0 rfl) ?_
  refine lv_bipush (v := 60) hx hb dX14_init_94 (by decide) ?_
  refine zj_ar (atype := .int) (ty := .int) (κ := 1) (tc := 168) (N' := 60) (a0 := (60, .inl (fun _ => 0))) Y h (zmi (List.mem_of_getElem? (i := 5) rfl)) rfl rfl (fun _ h9 => h9) (fun _ => rfl) (by decide) (by decide) (by decide) (by rw [hRc]; exact (Nat.le_of_ble_eq_true rfl)) (by rw [hRs]; exact (Nat.le_of_ble_eq_true rfl)) (by decide) (fun _ _ _ hF9 => zar_z (κ := 1) (n := 60) (lo := (-2147483648)) (hi := 2147483647) (by decide) rfl (by decide) hF9) dX14_init_96 (fun q9 Γ L F H hq9 hk hL9 h' => ?_)
  have hq1 := (hk q1 (h.2.2.2.1 _ _ hq1).1).1.trans hq1
  have hq2 := (hk q2 (h.2.2.2.1 _ _ hq2).1).1.trans hq2
  have hq3 := (hk q3 (h.2.2.2.1 _ _ hq3).1).1.trans hq3
  have hq4 := (hk q4 (h.2.2.2.1 _ _ hq4).1).1.trans hq4
  have hq5 := (hk q5 (h.2.2.2.1 _ _ hq5).1).1.trans hq5
  have hq6 := (hk q6 (h.2.2.2.1 _ _ hq6).1).1.trans hq6
  have hq7 := (hk q7 (h.2.2.2.1 _ _ hq7).1).1.trans hq7
  have hq8 := (hk q8 (h.2.2.2.1 _ _ hq8).1).1.trans hq8
  have hyaq6 := hyaq6.mv (Γ' := Γ) (F' := F) (fun a ha => ⟨(hk a (hyaq6.sub h.2.2.2.1 a ha)).1, (hk a (hyaq6.sub h.2.2.2.1 a ha)).2.1⟩)
  have hyaq7 := hyaq7.mv (Γ' := Γ) (F' := F) (fun a ha => ⟨(hk a (hyaq7.sub h.2.2.2.1 a ha)).1, (hk a (hyaq7.sub h.2.2.2.1 a ha)).2.1⟩)
  have hfq1 := hfq1.mv (Γ' := Γ) (F' := F) (fun a ha => ⟨(hk a (hsq1 a ha)).1, (hk a (hsq1 a ha)).2.1⟩)
  have hsq1 : ∀ a ∈ Lq1, a ∈ L := fun a ha => (hk a (hsq1 a ha)).2.2
  have hfq2 := hfq2.mv (Γ' := Γ) (F' := F) (fun a ha => ⟨(hk a (hsq2 a ha)).1, (hk a (hsq2 a ha)).2.1⟩)
  have hsq2 : ∀ a ∈ Lq2, a ∈ L := fun a ha => (hk a (hsq2 a ha)).2.2
  have hfq3 := hfq3.mv (Γ' := Γ) (F' := F) (fun a ha => ⟨(hk a (hsq3 a ha)).1, (hk a (hsq3 a ha)).2.1⟩)
  have hsq3 : ∀ a ∈ Lq3, a ∈ L := fun a ha => (hk a (hsq3 a ha)).2.2
  have h0Γ := (hk h0 h0L).1.trans h0Γ
  have hF := (hk h0 h0L).2.1.trans hF
  have h0L := (hk h0 h0L).2.2
  have h11 : ∀ a, Γ a = some 11 → a ∈ [q3, q2, q1] := fun a ha => (hL9 a (h'.2.2.2.1 a _ ha).1).elim (fun h1 => h11 a ((hk a h1).1.symm.trans ha)) (fun h1 => by rw [h1, hq9] at ha; injection ha with ha; omega)
  have h := h'
  clear h' hk hL9
  refine W.widen (k := 93) (n := 21439) (Nat.le_of_ble_eq_true rfl) (Nat.le_of_ble_eq_true rfl) ?_
  refine zj_put (C := RX14) (T := TX14) (N := 40) (t := 14) (v := .ref q9) Y h h0L h0Γ hF ziin_14 tyX14 tyX14_ok nmX14 rfl 30 (by decide) (zmi (List.mem_of_getElem? (i := 157) rfl)) (fun _ h9 => h9) rfl hini rfl rfl rfl (Nat.le_of_ble_eq_true rfl) dX14_init_98 (fun F' H locs hF' hne h' => ?_)
  have hF : F' h0 = .inr (14, [.int 0, .int 0, .int (-1), .int 0, .ref q1, .ref q2, .ref q3, .int 0, .int 0, .ref q4, .ref q5, .int 0, .int 0, .int 0, .int 0, .int 0, .int 0, .int 0, .int 0, .int 0, .int 0, .long 0, .ref q6, .ref q7, .int 0, .ref q8, .int 0, .int 0, .int 0, .int 0, .ref q9, .null, .int 0, .int 0, .null, .null, .null, .null, .null, .null]) := hF'
  have h := h'
  have hfq1 := hfq1.mv (Γ' := Γ) (F' := F') (fun a ha => ⟨rfl, hne a (hfq1.no h0Γ a ha)⟩)
  have hfq2 := hfq2.mv (Γ' := Γ) (F' := F') (fun a ha => ⟨rfl, hne a (hfq2.no h0Γ a ha)⟩)
  have hfq3 := hfq3.mv (Γ' := Γ) (F' := F') (fun a ha => ⟨rfl, hne a (hfq3.no h0Γ a ha)⟩)
  have hyaq6 := hyaq6.mv (Γ' := Γ) (F' := F') (fun a ha => ⟨rfl, hne a (hyaq6.no h0Γ a ha)⟩)
  have hyaq7 := hyaq7.mv (Γ' := Γ) (F' := F') (fun a ha => ⟨rfl, hne a (hyaq7.no h0Γ a ha)⟩)
  clear hF' hne h'
  generalize F' = F at h hF hfq1 hfq2 hfq3 hyaq6 hyaq7
  refine lv_aload_n hx hb dX14_init_101 rfl (lv_at hl 0 rfl) ?_
  refine lv_sipush (v := 1024) hx hb dX14_init_102 (by decide) ?_
  refine zj_ar (atype := .int) (ty := .int) (κ := 1) (tc := 153) (N' := 1024) (a0 := (1024, .inl (fun _ => 0))) Y h (zmi (List.mem_of_getElem? (i := 5) rfl)) rfl rfl (fun _ h9 => h9) (fun _ => rfl) (by decide) (by decide) (by decide) (by rw [hRc]; exact (Nat.le_of_ble_eq_true rfl)) (by rw [hRs]; exact (Nat.le_of_ble_eq_true rfl)) (by decide) (fun _ _ _ hF9 => zar_z (κ := 1) (n := 1024) (lo := (-2147483648)) (hi := 2147483647) (by decide) rfl (by decide) hF9) dX14_init_105 (fun q10 Γ L F H hq10 hk hL9 h' => ?_)
  have hq1 := (hk q1 (h.2.2.2.1 _ _ hq1).1).1.trans hq1
  have hq2 := (hk q2 (h.2.2.2.1 _ _ hq2).1).1.trans hq2
  have hq3 := (hk q3 (h.2.2.2.1 _ _ hq3).1).1.trans hq3
  have hq4 := (hk q4 (h.2.2.2.1 _ _ hq4).1).1.trans hq4
  have hq5 := (hk q5 (h.2.2.2.1 _ _ hq5).1).1.trans hq5
  have hq6 := (hk q6 (h.2.2.2.1 _ _ hq6).1).1.trans hq6
  have hq7 := (hk q7 (h.2.2.2.1 _ _ hq7).1).1.trans hq7
  have hq8 := (hk q8 (h.2.2.2.1 _ _ hq8).1).1.trans hq8
  have hq9 := (hk q9 (h.2.2.2.1 _ _ hq9).1).1.trans hq9
  have hyaq6 := hyaq6.mv (Γ' := Γ) (F' := F) (fun a ha => ⟨(hk a (hyaq6.sub h.2.2.2.1 a ha)).1, (hk a (hyaq6.sub h.2.2.2.1 a ha)).2.1⟩)
  have hyaq7 := hyaq7.mv (Γ' := Γ) (F' := F) (fun a ha => ⟨(hk a (hyaq7.sub h.2.2.2.1 a ha)).1, (hk a (hyaq7.sub h.2.2.2.1 a ha)).2.1⟩)
  have hfq1 := hfq1.mv (Γ' := Γ) (F' := F) (fun a ha => ⟨(hk a (hsq1 a ha)).1, (hk a (hsq1 a ha)).2.1⟩)
  have hsq1 : ∀ a ∈ Lq1, a ∈ L := fun a ha => (hk a (hsq1 a ha)).2.2
  have hfq2 := hfq2.mv (Γ' := Γ) (F' := F) (fun a ha => ⟨(hk a (hsq2 a ha)).1, (hk a (hsq2 a ha)).2.1⟩)
  have hsq2 : ∀ a ∈ Lq2, a ∈ L := fun a ha => (hk a (hsq2 a ha)).2.2
  have hfq3 := hfq3.mv (Γ' := Γ) (F' := F) (fun a ha => ⟨(hk a (hsq3 a ha)).1, (hk a (hsq3 a ha)).2.1⟩)
  have hsq3 : ∀ a ∈ Lq3, a ∈ L := fun a ha => (hk a (hsq3 a ha)).2.2
  have h0Γ := (hk h0 h0L).1.trans h0Γ
  have hF := (hk h0 h0L).2.1.trans hF
  have h0L := (hk h0 h0L).2.2
  have h11 : ∀ a, Γ a = some 11 → a ∈ [q3, q2, q1] := fun a ha => (hL9 a (h'.2.2.2.1 a _ ha).1).elim (fun h1 => h11 a ((hk a h1).1.symm.trans ha)) (fun h1 => by rw [h1, hq10] at ha; injection ha with ha; omega)
  have h := h'
  clear h' hk hL9
  refine W.widen (k := 94) (n := 22463) (Nat.le_of_ble_eq_true rfl) (Nat.le_of_ble_eq_true rfl) ?_
  refine zj_put (C := RX14) (T := TX14) (N := 40) (t := 14) (v := .ref q10) Y h h0L h0Γ hF ziin_14 tyX14 tyX14_ok nmX14 rfl 31 (by decide) (zmi (List.mem_of_getElem? (i := 158) rfl)) (fun _ h9 => h9) rfl hini rfl rfl rfl (Nat.le_of_ble_eq_true rfl) dX14_init_107 (fun F' H locs hF' hne h' => ?_)
  have hF : F' h0 = .inr (14, [.int 0, .int 0, .int (-1), .int 0, .ref q1, .ref q2, .ref q3, .int 0, .int 0, .ref q4, .ref q5, .int 0, .int 0, .int 0, .int 0, .int 0, .int 0, .int 0, .int 0, .int 0, .int 0, .long 0, .ref q6, .ref q7, .int 0, .ref q8, .int 0, .int 0, .int 0, .int 0, .ref q9, .ref q10, .int 0, .int 0, .null, .null, .null, .null, .null, .null]) := hF'
  have h := h'
  have hfq1 := hfq1.mv (Γ' := Γ) (F' := F') (fun a ha => ⟨rfl, hne a (hfq1.no h0Γ a ha)⟩)
  have hfq2 := hfq2.mv (Γ' := Γ) (F' := F') (fun a ha => ⟨rfl, hne a (hfq2.no h0Γ a ha)⟩)
  have hfq3 := hfq3.mv (Γ' := Γ) (F' := F') (fun a ha => ⟨rfl, hne a (hfq3.no h0Γ a ha)⟩)
  have hyaq6 := hyaq6.mv (Γ' := Γ) (F' := F') (fun a ha => ⟨rfl, hne a (hyaq6.no h0Γ a ha)⟩)
  have hyaq7 := hyaq7.mv (Γ' := Γ) (F' := F') (fun a ha => ⟨rfl, hne a (hyaq7.no h0Γ a ha)⟩)
  clear hF' hne h'
  generalize F' = F at h hF hfq1 hfq2 hfq3 hyaq6 hyaq7
  refine lv_aload_n hx hb dX14_init_110 rfl (lv_at hl 0 rfl) ?_
  refine lv_bipush (v := 12) hx hb dX14_init_111 (by decide) ?_
  refine zj_ar (atype := .int) (ty := .int) (κ := 1) (tc := 151) (N' := 12) (a0 := (12, .inl (fun _ => 0))) Y h (zmi (List.mem_of_getElem? (i := 5) rfl)) rfl rfl (fun _ h9 => h9) (fun _ => rfl) (by decide) (by decide) (by decide) (by rw [hRc]; exact (Nat.le_of_ble_eq_true rfl)) (by rw [hRs]; exact (Nat.le_of_ble_eq_true rfl)) (by decide) (fun _ _ _ hF9 => zar_z (κ := 1) (n := 12) (lo := 0) (hi := 9) (by decide) rfl (by decide) hF9) dX14_init_113 (fun q11 Γ L F H hq11 hk hL9 h' => ?_)
  have hq1 := (hk q1 (h.2.2.2.1 _ _ hq1).1).1.trans hq1
  have hq2 := (hk q2 (h.2.2.2.1 _ _ hq2).1).1.trans hq2
  have hq3 := (hk q3 (h.2.2.2.1 _ _ hq3).1).1.trans hq3
  have hq4 := (hk q4 (h.2.2.2.1 _ _ hq4).1).1.trans hq4
  have hq5 := (hk q5 (h.2.2.2.1 _ _ hq5).1).1.trans hq5
  have hq6 := (hk q6 (h.2.2.2.1 _ _ hq6).1).1.trans hq6
  have hq7 := (hk q7 (h.2.2.2.1 _ _ hq7).1).1.trans hq7
  have hq8 := (hk q8 (h.2.2.2.1 _ _ hq8).1).1.trans hq8
  have hq9 := (hk q9 (h.2.2.2.1 _ _ hq9).1).1.trans hq9
  have hq10 := (hk q10 (h.2.2.2.1 _ _ hq10).1).1.trans hq10
  have hyaq6 := hyaq6.mv (Γ' := Γ) (F' := F) (fun a ha => ⟨(hk a (hyaq6.sub h.2.2.2.1 a ha)).1, (hk a (hyaq6.sub h.2.2.2.1 a ha)).2.1⟩)
  have hyaq7 := hyaq7.mv (Γ' := Γ) (F' := F) (fun a ha => ⟨(hk a (hyaq7.sub h.2.2.2.1 a ha)).1, (hk a (hyaq7.sub h.2.2.2.1 a ha)).2.1⟩)
  have hfq1 := hfq1.mv (Γ' := Γ) (F' := F) (fun a ha => ⟨(hk a (hsq1 a ha)).1, (hk a (hsq1 a ha)).2.1⟩)
  have hsq1 : ∀ a ∈ Lq1, a ∈ L := fun a ha => (hk a (hsq1 a ha)).2.2
  have hfq2 := hfq2.mv (Γ' := Γ) (F' := F) (fun a ha => ⟨(hk a (hsq2 a ha)).1, (hk a (hsq2 a ha)).2.1⟩)
  have hsq2 : ∀ a ∈ Lq2, a ∈ L := fun a ha => (hk a (hsq2 a ha)).2.2
  have hfq3 := hfq3.mv (Γ' := Γ) (F' := F) (fun a ha => ⟨(hk a (hsq3 a ha)).1, (hk a (hsq3 a ha)).2.1⟩)
  have hsq3 : ∀ a ∈ Lq3, a ∈ L := fun a ha => (hk a (hsq3 a ha)).2.2
  have h0Γ := (hk h0 h0L).1.trans h0Γ
  have hF := (hk h0 h0L).2.1.trans hF
  have h0L := (hk h0 h0L).2.2
  have h11 : ∀ a, Γ a = some 11 → a ∈ [q3, q2, q1] := fun a ha => (hL9 a (h'.2.2.2.1 a _ ha).1).elim (fun h1 => h11 a ((hk a h1).1.symm.trans ha)) (fun h1 => by rw [h1, hq11] at ha; injection ha with ha; omega)
  have h := h'
  clear h' hk hL9
  refine W.widen (k := 95) (n := 22475) (Nat.le_of_ble_eq_true rfl) (Nat.le_of_ble_eq_true rfl) ?_
  refine zj_put (C := RX14) (T := TX14) (N := 40) (t := 14) (v := .ref q11) Y h h0L h0Γ hF ziin_14 tyX14 tyX14_ok nmX14 rfl 34 (by decide) (zmi (List.mem_of_getElem? (i := 159) rfl)) (fun _ h9 => h9) rfl hini rfl rfl rfl (Nat.le_of_ble_eq_true rfl) dX14_init_115 (fun F' H locs hF' hne h' => ?_)
  have hF : F' h0 = .inr (14, [.int 0, .int 0, .int (-1), .int 0, .ref q1, .ref q2, .ref q3, .int 0, .int 0, .ref q4, .ref q5, .int 0, .int 0, .int 0, .int 0, .int 0, .int 0, .int 0, .int 0, .int 0, .int 0, .long 0, .ref q6, .ref q7, .int 0, .ref q8, .int 0, .int 0, .int 0, .int 0, .ref q9, .ref q10, .int 0, .int 0, .ref q11, .null, .null, .null, .null, .null]) := hF'
  have h := h'
  have hfq1 := hfq1.mv (Γ' := Γ) (F' := F') (fun a ha => ⟨rfl, hne a (hfq1.no h0Γ a ha)⟩)
  have hfq2 := hfq2.mv (Γ' := Γ) (F' := F') (fun a ha => ⟨rfl, hne a (hfq2.no h0Γ a ha)⟩)
  have hfq3 := hfq3.mv (Γ' := Γ) (F' := F') (fun a ha => ⟨rfl, hne a (hfq3.no h0Γ a ha)⟩)
  have hyaq6 := hyaq6.mv (Γ' := Γ) (F' := F') (fun a ha => ⟨rfl, hne a (hyaq6.no h0Γ a ha)⟩)
  have hyaq7 := hyaq7.mv (Γ' := Γ) (F' := F') (fun a ha => ⟨rfl, hne a (hyaq7.no h0Γ a ha)⟩)
  clear hF' hne h'
  generalize F' = F at h hF hfq1 hfq2 hfq3 hyaq6 hyaq7
  refine lv_aload_n hx hb dX14_init_118 rfl (lv_at hl 0 rfl) ?_
  refine lv_bipush (v := 12) hx hb dX14_init_119 (by decide) ?_
  refine zj_ar (atype := .int) (ty := .int) (κ := 1) (tc := 169) (N' := 12) (a0 := (12, .inl (fun _ => 0))) Y h (zmi (List.mem_of_getElem? (i := 5) rfl)) rfl rfl (fun _ h9 => h9) (fun _ => rfl) (by decide) (by decide) (by decide) (by rw [hRc]; exact (Nat.le_of_ble_eq_true rfl)) (by rw [hRs]; exact (Nat.le_of_ble_eq_true rfl)) (by decide) (fun _ _ _ hF9 => zar_z (κ := 1) (n := 12) (lo := (-2147483648)) (hi := 2147483647) (by decide) rfl (by decide) hF9) dX14_init_121 (fun q12 Γ L F H hq12 hk hL9 h' => ?_)
  have hq1 := (hk q1 (h.2.2.2.1 _ _ hq1).1).1.trans hq1
  have hq2 := (hk q2 (h.2.2.2.1 _ _ hq2).1).1.trans hq2
  have hq3 := (hk q3 (h.2.2.2.1 _ _ hq3).1).1.trans hq3
  have hq4 := (hk q4 (h.2.2.2.1 _ _ hq4).1).1.trans hq4
  have hq5 := (hk q5 (h.2.2.2.1 _ _ hq5).1).1.trans hq5
  have hq6 := (hk q6 (h.2.2.2.1 _ _ hq6).1).1.trans hq6
  have hq7 := (hk q7 (h.2.2.2.1 _ _ hq7).1).1.trans hq7
  have hq8 := (hk q8 (h.2.2.2.1 _ _ hq8).1).1.trans hq8
  have hq9 := (hk q9 (h.2.2.2.1 _ _ hq9).1).1.trans hq9
  have hq10 := (hk q10 (h.2.2.2.1 _ _ hq10).1).1.trans hq10
  have hq11 := (hk q11 (h.2.2.2.1 _ _ hq11).1).1.trans hq11
  have hyaq6 := hyaq6.mv (Γ' := Γ) (F' := F) (fun a ha => ⟨(hk a (hyaq6.sub h.2.2.2.1 a ha)).1, (hk a (hyaq6.sub h.2.2.2.1 a ha)).2.1⟩)
  have hyaq7 := hyaq7.mv (Γ' := Γ) (F' := F) (fun a ha => ⟨(hk a (hyaq7.sub h.2.2.2.1 a ha)).1, (hk a (hyaq7.sub h.2.2.2.1 a ha)).2.1⟩)
  have hfq1 := hfq1.mv (Γ' := Γ) (F' := F) (fun a ha => ⟨(hk a (hsq1 a ha)).1, (hk a (hsq1 a ha)).2.1⟩)
  have hsq1 : ∀ a ∈ Lq1, a ∈ L := fun a ha => (hk a (hsq1 a ha)).2.2
  have hfq2 := hfq2.mv (Γ' := Γ) (F' := F) (fun a ha => ⟨(hk a (hsq2 a ha)).1, (hk a (hsq2 a ha)).2.1⟩)
  have hsq2 : ∀ a ∈ Lq2, a ∈ L := fun a ha => (hk a (hsq2 a ha)).2.2
  have hfq3 := hfq3.mv (Γ' := Γ) (F' := F) (fun a ha => ⟨(hk a (hsq3 a ha)).1, (hk a (hsq3 a ha)).2.1⟩)
  have hsq3 : ∀ a ∈ Lq3, a ∈ L := fun a ha => (hk a (hsq3 a ha)).2.2
  have h0Γ := (hk h0 h0L).1.trans h0Γ
  have hF := (hk h0 h0L).2.1.trans hF
  have h0L := (hk h0 h0L).2.2
  have h11 : ∀ a, Γ a = some 11 → a ∈ [q3, q2, q1] := fun a ha => (hL9 a (h'.2.2.2.1 a _ ha).1).elim (fun h1 => h11 a ((hk a h1).1.symm.trans ha)) (fun h1 => by rw [h1, hq12] at ha; injection ha with ha; omega)
  have h := h'
  clear h' hk hL9
  refine W.widen (k := 96) (n := 22487) (Nat.le_of_ble_eq_true rfl) (Nat.le_of_ble_eq_true rfl) ?_
  refine zj_put (C := RX14) (T := TX14) (N := 40) (t := 14) (v := .ref q12) Y h h0L h0Γ hF ziin_14 tyX14 tyX14_ok nmX14 rfl 35 (by decide) (zmi (List.mem_of_getElem? (i := 160) rfl)) (fun _ h9 => h9) rfl hini rfl rfl rfl (Nat.le_of_ble_eq_true rfl) dX14_init_123 (fun F' H locs hF' hne h' => ?_)
  have hF : F' h0 = .inr (14, [.int 0, .int 0, .int (-1), .int 0, .ref q1, .ref q2, .ref q3, .int 0, .int 0, .ref q4, .ref q5, .int 0, .int 0, .int 0, .int 0, .int 0, .int 0, .int 0, .int 0, .int 0, .int 0, .long 0, .ref q6, .ref q7, .int 0, .ref q8, .int 0, .int 0, .int 0, .int 0, .ref q9, .ref q10, .int 0, .int 0, .ref q11, .ref q12, .null, .null, .null, .null]) := hF'
  have h := h'
  have hfq1 := hfq1.mv (Γ' := Γ) (F' := F') (fun a ha => ⟨rfl, hne a (hfq1.no h0Γ a ha)⟩)
  have hfq2 := hfq2.mv (Γ' := Γ) (F' := F') (fun a ha => ⟨rfl, hne a (hfq2.no h0Γ a ha)⟩)
  have hfq3 := hfq3.mv (Γ' := Γ) (F' := F') (fun a ha => ⟨rfl, hne a (hfq3.no h0Γ a ha)⟩)
  have hyaq6 := hyaq6.mv (Γ' := Γ) (F' := F') (fun a ha => ⟨rfl, hne a (hyaq6.no h0Γ a ha)⟩)
  have hyaq7 := hyaq7.mv (Γ' := Γ) (F' := F') (fun a ha => ⟨rfl, hne a (hyaq7.no h0Γ a ha)⟩)
  clear hF' hne h'
  generalize F' = F at h hF hfq1 hfq2 hfq3 hyaq6 hyaq7
  refine lv_aload_n hx hb dX14_init_126 rfl (lv_at hl 0 rfl) ?_
  refine lv_bipush (v := 12) hx hb dX14_init_127 (by decide) ?_
  refine zj_ar (atype := .int) (ty := .int) (κ := 1) (tc := 170) (N' := 12) (a0 := (12, .inl (fun _ => 0))) Y h (zmi (List.mem_of_getElem? (i := 5) rfl)) rfl rfl (fun _ h9 => h9) (fun _ => rfl) (by decide) (by decide) (by decide) (by rw [hRc]; exact (Nat.le_of_ble_eq_true rfl)) (by rw [hRs]; exact (Nat.le_of_ble_eq_true rfl)) (by decide) (fun _ _ _ hF9 => zar_z (κ := 1) (n := 12) (lo := (-2147483648)) (hi := 2147483647) (by decide) rfl (by decide) hF9) dX14_init_129 (fun q13 Γ L F H hq13 hk hL9 h' => ?_)
  have hq1 := (hk q1 (h.2.2.2.1 _ _ hq1).1).1.trans hq1
  have hq2 := (hk q2 (h.2.2.2.1 _ _ hq2).1).1.trans hq2
  have hq3 := (hk q3 (h.2.2.2.1 _ _ hq3).1).1.trans hq3
  have hq4 := (hk q4 (h.2.2.2.1 _ _ hq4).1).1.trans hq4
  have hq5 := (hk q5 (h.2.2.2.1 _ _ hq5).1).1.trans hq5
  have hq6 := (hk q6 (h.2.2.2.1 _ _ hq6).1).1.trans hq6
  have hq7 := (hk q7 (h.2.2.2.1 _ _ hq7).1).1.trans hq7
  have hq8 := (hk q8 (h.2.2.2.1 _ _ hq8).1).1.trans hq8
  have hq9 := (hk q9 (h.2.2.2.1 _ _ hq9).1).1.trans hq9
  have hq10 := (hk q10 (h.2.2.2.1 _ _ hq10).1).1.trans hq10
  have hq11 := (hk q11 (h.2.2.2.1 _ _ hq11).1).1.trans hq11
  have hq12 := (hk q12 (h.2.2.2.1 _ _ hq12).1).1.trans hq12
  have hyaq6 := hyaq6.mv (Γ' := Γ) (F' := F) (fun a ha => ⟨(hk a (hyaq6.sub h.2.2.2.1 a ha)).1, (hk a (hyaq6.sub h.2.2.2.1 a ha)).2.1⟩)
  have hyaq7 := hyaq7.mv (Γ' := Γ) (F' := F) (fun a ha => ⟨(hk a (hyaq7.sub h.2.2.2.1 a ha)).1, (hk a (hyaq7.sub h.2.2.2.1 a ha)).2.1⟩)
  have hfq1 := hfq1.mv (Γ' := Γ) (F' := F) (fun a ha => ⟨(hk a (hsq1 a ha)).1, (hk a (hsq1 a ha)).2.1⟩)
  have hsq1 : ∀ a ∈ Lq1, a ∈ L := fun a ha => (hk a (hsq1 a ha)).2.2
  have hfq2 := hfq2.mv (Γ' := Γ) (F' := F) (fun a ha => ⟨(hk a (hsq2 a ha)).1, (hk a (hsq2 a ha)).2.1⟩)
  have hsq2 : ∀ a ∈ Lq2, a ∈ L := fun a ha => (hk a (hsq2 a ha)).2.2
  have hfq3 := hfq3.mv (Γ' := Γ) (F' := F) (fun a ha => ⟨(hk a (hsq3 a ha)).1, (hk a (hsq3 a ha)).2.1⟩)
  have hsq3 : ∀ a ∈ Lq3, a ∈ L := fun a ha => (hk a (hsq3 a ha)).2.2
  have h0Γ := (hk h0 h0L).1.trans h0Γ
  have hF := (hk h0 h0L).2.1.trans hF
  have h0L := (hk h0 h0L).2.2
  have h11 : ∀ a, Γ a = some 11 → a ∈ [q3, q2, q1] := fun a ha => (hL9 a (h'.2.2.2.1 a _ ha).1).elim (fun h1 => h11 a ((hk a h1).1.symm.trans ha)) (fun h1 => by rw [h1, hq13] at ha; injection ha with ha; omega)
  have h := h'
  clear h' hk hL9
  refine W.widen (k := 97) (n := 22499) (Nat.le_of_ble_eq_true rfl) (Nat.le_of_ble_eq_true rfl) ?_
  refine zj_put (C := RX14) (T := TX14) (N := 40) (t := 14) (v := .ref q13) Y h h0L h0Γ hF ziin_14 tyX14 tyX14_ok nmX14 rfl 36 (by decide) (zmi (List.mem_of_getElem? (i := 161) rfl)) (fun _ h9 => h9) rfl hini rfl rfl rfl (Nat.le_of_ble_eq_true rfl) dX14_init_131 (fun F' H locs hF' hne h' => ?_)
  have hF : F' h0 = .inr (14, [.int 0, .int 0, .int (-1), .int 0, .ref q1, .ref q2, .ref q3, .int 0, .int 0, .ref q4, .ref q5, .int 0, .int 0, .int 0, .int 0, .int 0, .int 0, .int 0, .int 0, .int 0, .int 0, .long 0, .ref q6, .ref q7, .int 0, .ref q8, .int 0, .int 0, .int 0, .int 0, .ref q9, .ref q10, .int 0, .int 0, .ref q11, .ref q12, .ref q13, .null, .null, .null]) := hF'
  have h := h'
  have hfq1 := hfq1.mv (Γ' := Γ) (F' := F') (fun a ha => ⟨rfl, hne a (hfq1.no h0Γ a ha)⟩)
  have hfq2 := hfq2.mv (Γ' := Γ) (F' := F') (fun a ha => ⟨rfl, hne a (hfq2.no h0Γ a ha)⟩)
  have hfq3 := hfq3.mv (Γ' := Γ) (F' := F') (fun a ha => ⟨rfl, hne a (hfq3.no h0Γ a ha)⟩)
  have hyaq6 := hyaq6.mv (Γ' := Γ) (F' := F') (fun a ha => ⟨rfl, hne a (hyaq6.no h0Γ a ha)⟩)
  have hyaq7 := hyaq7.mv (Γ' := Γ) (F' := F') (fun a ha => ⟨rfl, hne a (hyaq7.no h0Γ a ha)⟩)
  clear hF' hne h'
  generalize F' = F at h hF hfq1 hfq2 hfq3 hyaq6 hyaq7
  refine lv_aload_n hx hb dX14_init_134 rfl (lv_at hl 0 rfl) ?_
  refine lv_bipush (v := 12) hx hb dX14_init_135 (by decide) ?_
  refine zj_ar (atype := .int) (ty := .int) (κ := 1) (tc := 171) (N' := 12) (a0 := (12, .inl (fun _ => 0))) Y h (zmi (List.mem_of_getElem? (i := 5) rfl)) rfl rfl (fun _ h9 => h9) (fun _ => rfl) (by decide) (by decide) (by decide) (by rw [hRc]; exact (Nat.le_of_ble_eq_true rfl)) (by rw [hRs]; exact (Nat.le_of_ble_eq_true rfl)) (by decide) (fun _ _ _ hF9 => zar_z (κ := 1) (n := 12) (lo := (-2147483648)) (hi := 2147483647) (by decide) rfl (by decide) hF9) dX14_init_137 (fun q14 Γ L F H hq14 hk hL9 h' => ?_)
  have hq1 := (hk q1 (h.2.2.2.1 _ _ hq1).1).1.trans hq1
  have hq2 := (hk q2 (h.2.2.2.1 _ _ hq2).1).1.trans hq2
  have hq3 := (hk q3 (h.2.2.2.1 _ _ hq3).1).1.trans hq3
  have hq4 := (hk q4 (h.2.2.2.1 _ _ hq4).1).1.trans hq4
  have hq5 := (hk q5 (h.2.2.2.1 _ _ hq5).1).1.trans hq5
  have hq6 := (hk q6 (h.2.2.2.1 _ _ hq6).1).1.trans hq6
  have hq7 := (hk q7 (h.2.2.2.1 _ _ hq7).1).1.trans hq7
  have hq8 := (hk q8 (h.2.2.2.1 _ _ hq8).1).1.trans hq8
  have hq9 := (hk q9 (h.2.2.2.1 _ _ hq9).1).1.trans hq9
  have hq10 := (hk q10 (h.2.2.2.1 _ _ hq10).1).1.trans hq10
  have hq11 := (hk q11 (h.2.2.2.1 _ _ hq11).1).1.trans hq11
  have hq12 := (hk q12 (h.2.2.2.1 _ _ hq12).1).1.trans hq12
  have hq13 := (hk q13 (h.2.2.2.1 _ _ hq13).1).1.trans hq13
  have hyaq6 := hyaq6.mv (Γ' := Γ) (F' := F) (fun a ha => ⟨(hk a (hyaq6.sub h.2.2.2.1 a ha)).1, (hk a (hyaq6.sub h.2.2.2.1 a ha)).2.1⟩)
  have hyaq7 := hyaq7.mv (Γ' := Γ) (F' := F) (fun a ha => ⟨(hk a (hyaq7.sub h.2.2.2.1 a ha)).1, (hk a (hyaq7.sub h.2.2.2.1 a ha)).2.1⟩)
  have hfq1 := hfq1.mv (Γ' := Γ) (F' := F) (fun a ha => ⟨(hk a (hsq1 a ha)).1, (hk a (hsq1 a ha)).2.1⟩)
  have hsq1 : ∀ a ∈ Lq1, a ∈ L := fun a ha => (hk a (hsq1 a ha)).2.2
  have hfq2 := hfq2.mv (Γ' := Γ) (F' := F) (fun a ha => ⟨(hk a (hsq2 a ha)).1, (hk a (hsq2 a ha)).2.1⟩)
  have hsq2 : ∀ a ∈ Lq2, a ∈ L := fun a ha => (hk a (hsq2 a ha)).2.2
  have hfq3 := hfq3.mv (Γ' := Γ) (F' := F) (fun a ha => ⟨(hk a (hsq3 a ha)).1, (hk a (hsq3 a ha)).2.1⟩)
  have hsq3 : ∀ a ∈ Lq3, a ∈ L := fun a ha => (hk a (hsq3 a ha)).2.2
  have h0Γ := (hk h0 h0L).1.trans h0Γ
  have hF := (hk h0 h0L).2.1.trans hF
  have h0L := (hk h0 h0L).2.2
  have h11 : ∀ a, Γ a = some 11 → a ∈ [q3, q2, q1] := fun a ha => (hL9 a (h'.2.2.2.1 a _ ha).1).elim (fun h1 => h11 a ((hk a h1).1.symm.trans ha)) (fun h1 => by rw [h1, hq14] at ha; injection ha with ha; omega)
  have h := h'
  clear h' hk hL9
  refine W.widen (k := 98) (n := 22511) (Nat.le_of_ble_eq_true rfl) (Nat.le_of_ble_eq_true rfl) ?_
  refine zj_put (C := RX14) (T := TX14) (N := 40) (t := 14) (v := .ref q14) Y h h0L h0Γ hF ziin_14 tyX14 tyX14_ok nmX14 rfl 37 (by decide) (zmi (List.mem_of_getElem? (i := 162) rfl)) (fun _ h9 => h9) rfl hini rfl rfl rfl (Nat.le_of_ble_eq_true rfl) dX14_init_139 (fun F' H locs hF' hne h' => ?_)
  have hF : F' h0 = .inr (14, [.int 0, .int 0, .int (-1), .int 0, .ref q1, .ref q2, .ref q3, .int 0, .int 0, .ref q4, .ref q5, .int 0, .int 0, .int 0, .int 0, .int 0, .int 0, .int 0, .int 0, .int 0, .int 0, .long 0, .ref q6, .ref q7, .int 0, .ref q8, .int 0, .int 0, .int 0, .int 0, .ref q9, .ref q10, .int 0, .int 0, .ref q11, .ref q12, .ref q13, .ref q14, .null, .null]) := hF'
  have h := h'
  have hfq1 := hfq1.mv (Γ' := Γ) (F' := F') (fun a ha => ⟨rfl, hne a (hfq1.no h0Γ a ha)⟩)
  have hfq2 := hfq2.mv (Γ' := Γ) (F' := F') (fun a ha => ⟨rfl, hne a (hfq2.no h0Γ a ha)⟩)
  have hfq3 := hfq3.mv (Γ' := Γ) (F' := F') (fun a ha => ⟨rfl, hne a (hfq3.no h0Γ a ha)⟩)
  have hyaq6 := hyaq6.mv (Γ' := Γ) (F' := F') (fun a ha => ⟨rfl, hne a (hyaq6.no h0Γ a ha)⟩)
  have hyaq7 := hyaq7.mv (Γ' := Γ) (F' := F') (fun a ha => ⟨rfl, hne a (hyaq7.no h0Γ a ha)⟩)
  clear hF' hne h'
  generalize F' = F at h hF hfq1 hfq2 hfq3 hyaq6 hyaq7
  refine lv_aload_n hx hb dX14_init_142 rfl (lv_at hl 0 rfl) ?_
  refine lv_bipush (v := 12) hx hb dX14_init_143 (by decide) ?_
  refine zj_ar (atype := .int) (ty := .int) (κ := 1) (tc := 172) (N' := 12) (a0 := (12, .inl (fun _ => 0))) Y h (zmi (List.mem_of_getElem? (i := 5) rfl)) rfl rfl (fun _ h9 => h9) (fun _ => rfl) (by decide) (by decide) (by decide) (by rw [hRc]; exact (Nat.le_of_ble_eq_true rfl)) (by rw [hRs]; exact (Nat.le_of_ble_eq_true rfl)) (by decide) (fun _ _ _ hF9 => zar_z (κ := 1) (n := 12) (lo := (-2147483648)) (hi := 2147483647) (by decide) rfl (by decide) hF9) dX14_init_145 (fun q15 Γ L F H hq15 hk hL9 h' => ?_)
  have hq1 := (hk q1 (h.2.2.2.1 _ _ hq1).1).1.trans hq1
  have hq2 := (hk q2 (h.2.2.2.1 _ _ hq2).1).1.trans hq2
  have hq3 := (hk q3 (h.2.2.2.1 _ _ hq3).1).1.trans hq3
  have hq4 := (hk q4 (h.2.2.2.1 _ _ hq4).1).1.trans hq4
  have hq5 := (hk q5 (h.2.2.2.1 _ _ hq5).1).1.trans hq5
  have hq6 := (hk q6 (h.2.2.2.1 _ _ hq6).1).1.trans hq6
  have hq7 := (hk q7 (h.2.2.2.1 _ _ hq7).1).1.trans hq7
  have hq8 := (hk q8 (h.2.2.2.1 _ _ hq8).1).1.trans hq8
  have hq9 := (hk q9 (h.2.2.2.1 _ _ hq9).1).1.trans hq9
  have hq10 := (hk q10 (h.2.2.2.1 _ _ hq10).1).1.trans hq10
  have hq11 := (hk q11 (h.2.2.2.1 _ _ hq11).1).1.trans hq11
  have hq12 := (hk q12 (h.2.2.2.1 _ _ hq12).1).1.trans hq12
  have hq13 := (hk q13 (h.2.2.2.1 _ _ hq13).1).1.trans hq13
  have hq14 := (hk q14 (h.2.2.2.1 _ _ hq14).1).1.trans hq14
  have hyaq6 := hyaq6.mv (Γ' := Γ) (F' := F) (fun a ha => ⟨(hk a (hyaq6.sub h.2.2.2.1 a ha)).1, (hk a (hyaq6.sub h.2.2.2.1 a ha)).2.1⟩)
  have hyaq7 := hyaq7.mv (Γ' := Γ) (F' := F) (fun a ha => ⟨(hk a (hyaq7.sub h.2.2.2.1 a ha)).1, (hk a (hyaq7.sub h.2.2.2.1 a ha)).2.1⟩)
  have hfq1 := hfq1.mv (Γ' := Γ) (F' := F) (fun a ha => ⟨(hk a (hsq1 a ha)).1, (hk a (hsq1 a ha)).2.1⟩)
  have hsq1 : ∀ a ∈ Lq1, a ∈ L := fun a ha => (hk a (hsq1 a ha)).2.2
  have hfq2 := hfq2.mv (Γ' := Γ) (F' := F) (fun a ha => ⟨(hk a (hsq2 a ha)).1, (hk a (hsq2 a ha)).2.1⟩)
  have hsq2 : ∀ a ∈ Lq2, a ∈ L := fun a ha => (hk a (hsq2 a ha)).2.2
  have hfq3 := hfq3.mv (Γ' := Γ) (F' := F) (fun a ha => ⟨(hk a (hsq3 a ha)).1, (hk a (hsq3 a ha)).2.1⟩)
  have hsq3 : ∀ a ∈ Lq3, a ∈ L := fun a ha => (hk a (hsq3 a ha)).2.2
  have h0Γ := (hk h0 h0L).1.trans h0Γ
  have hF := (hk h0 h0L).2.1.trans hF
  have h0L := (hk h0 h0L).2.2
  have h11 : ∀ a, Γ a = some 11 → a ∈ [q3, q2, q1] := fun a ha => (hL9 a (h'.2.2.2.1 a _ ha).1).elim (fun h1 => h11 a ((hk a h1).1.symm.trans ha)) (fun h1 => by rw [h1, hq15] at ha; injection ha with ha; omega)
  have h := h'
  clear h' hk hL9
  refine W.widen (k := 99) (n := 22523) (Nat.le_of_ble_eq_true rfl) (Nat.le_of_ble_eq_true rfl) ?_
  refine zj_put (C := RX14) (T := TX14) (N := 40) (t := 14) (v := .ref q15) Y h h0L h0Γ hF ziin_14 tyX14 tyX14_ok nmX14 rfl 38 (by decide) (zmi (List.mem_of_getElem? (i := 163) rfl)) (fun _ h9 => h9) rfl hini rfl rfl rfl (Nat.le_of_ble_eq_true rfl) dX14_init_147 (fun F' H locs hF' hne h' => ?_)
  have hF : F' h0 = .inr (14, [.int 0, .int 0, .int (-1), .int 0, .ref q1, .ref q2, .ref q3, .int 0, .int 0, .ref q4, .ref q5, .int 0, .int 0, .int 0, .int 0, .int 0, .int 0, .int 0, .int 0, .int 0, .int 0, .long 0, .ref q6, .ref q7, .int 0, .ref q8, .int 0, .int 0, .int 0, .int 0, .ref q9, .ref q10, .int 0, .int 0, .ref q11, .ref q12, .ref q13, .ref q14, .ref q15, .null]) := hF'
  have h := h'
  have hfq1 := hfq1.mv (Γ' := Γ) (F' := F') (fun a ha => ⟨rfl, hne a (hfq1.no h0Γ a ha)⟩)
  have hfq2 := hfq2.mv (Γ' := Γ) (F' := F') (fun a ha => ⟨rfl, hne a (hfq2.no h0Γ a ha)⟩)
  have hfq3 := hfq3.mv (Γ' := Γ) (F' := F') (fun a ha => ⟨rfl, hne a (hfq3.no h0Γ a ha)⟩)
  have hyaq6 := hyaq6.mv (Γ' := Γ) (F' := F') (fun a ha => ⟨rfl, hne a (hyaq6.no h0Γ a ha)⟩)
  have hyaq7 := hyaq7.mv (Γ' := Γ) (F' := F') (fun a ha => ⟨rfl, hne a (hyaq7.no h0Γ a ha)⟩)
  clear hF' hne h'
  generalize F' = F at h hF hfq1 hfq2 hfq3 hyaq6 hyaq7
  refine lv_aload_n hx hb dX14_init_150 rfl (lv_at hl 0 rfl) ?_
  refine lv_bipush (v := 12) hx hb dX14_init_151 (by decide) ?_
  refine zj_ar (atype := .long) (ty := .long) (κ := 2) (tc := 173) (N' := 12) (a0 := (12, .inr (.inl (fun _ => 0)))) Y h (zmi (List.mem_of_getElem? (i := 31) rfl)) rfl rfl (fun _ h9 => h9) (fun _ => rfl) (by decide) (by decide) (by decide) (by rw [hRc]; exact (Nat.le_of_ble_eq_true rfl)) (by rw [hRs]; exact (Nat.le_of_ble_eq_true rfl)) (by decide) (fun _ _ _ hF9 => zar_l (n := 12) (lo := 0) (hi := 0) rfl hF9) dX14_init_153 (fun q16 Γ L F H hq16 hk hL9 h' => ?_)
  have hq1 := (hk q1 (h.2.2.2.1 _ _ hq1).1).1.trans hq1
  have hq2 := (hk q2 (h.2.2.2.1 _ _ hq2).1).1.trans hq2
  have hq3 := (hk q3 (h.2.2.2.1 _ _ hq3).1).1.trans hq3
  have hq4 := (hk q4 (h.2.2.2.1 _ _ hq4).1).1.trans hq4
  have hq5 := (hk q5 (h.2.2.2.1 _ _ hq5).1).1.trans hq5
  have hq6 := (hk q6 (h.2.2.2.1 _ _ hq6).1).1.trans hq6
  have hq7 := (hk q7 (h.2.2.2.1 _ _ hq7).1).1.trans hq7
  have hq8 := (hk q8 (h.2.2.2.1 _ _ hq8).1).1.trans hq8
  have hq9 := (hk q9 (h.2.2.2.1 _ _ hq9).1).1.trans hq9
  have hq10 := (hk q10 (h.2.2.2.1 _ _ hq10).1).1.trans hq10
  have hq11 := (hk q11 (h.2.2.2.1 _ _ hq11).1).1.trans hq11
  have hq12 := (hk q12 (h.2.2.2.1 _ _ hq12).1).1.trans hq12
  have hq13 := (hk q13 (h.2.2.2.1 _ _ hq13).1).1.trans hq13
  have hq14 := (hk q14 (h.2.2.2.1 _ _ hq14).1).1.trans hq14
  have hq15 := (hk q15 (h.2.2.2.1 _ _ hq15).1).1.trans hq15
  have hyaq6 := hyaq6.mv (Γ' := Γ) (F' := F) (fun a ha => ⟨(hk a (hyaq6.sub h.2.2.2.1 a ha)).1, (hk a (hyaq6.sub h.2.2.2.1 a ha)).2.1⟩)
  have hyaq7 := hyaq7.mv (Γ' := Γ) (F' := F) (fun a ha => ⟨(hk a (hyaq7.sub h.2.2.2.1 a ha)).1, (hk a (hyaq7.sub h.2.2.2.1 a ha)).2.1⟩)
  have hfq1 := hfq1.mv (Γ' := Γ) (F' := F) (fun a ha => ⟨(hk a (hsq1 a ha)).1, (hk a (hsq1 a ha)).2.1⟩)
  have hsq1 : ∀ a ∈ Lq1, a ∈ L := fun a ha => (hk a (hsq1 a ha)).2.2
  have hfq2 := hfq2.mv (Γ' := Γ) (F' := F) (fun a ha => ⟨(hk a (hsq2 a ha)).1, (hk a (hsq2 a ha)).2.1⟩)
  have hsq2 : ∀ a ∈ Lq2, a ∈ L := fun a ha => (hk a (hsq2 a ha)).2.2
  have hfq3 := hfq3.mv (Γ' := Γ) (F' := F) (fun a ha => ⟨(hk a (hsq3 a ha)).1, (hk a (hsq3 a ha)).2.1⟩)
  have hsq3 : ∀ a ∈ Lq3, a ∈ L := fun a ha => (hk a (hsq3 a ha)).2.2
  have h0Γ := (hk h0 h0L).1.trans h0Γ
  have hF := (hk h0 h0L).2.1.trans hF
  have h0L := (hk h0 h0L).2.2
  have h11 : ∀ a, Γ a = some 11 → a ∈ [q3, q2, q1] := fun a ha => (hL9 a (h'.2.2.2.1 a _ ha).1).elim (fun h1 => h11 a ((hk a h1).1.symm.trans ha)) (fun h1 => by rw [h1, hq16] at ha; injection ha with ha; omega)
  have h := h'
  clear h' hk hL9
  refine W.widen (k := 100) (n := 22535) (Nat.le_of_ble_eq_true rfl) (Nat.le_of_ble_eq_true rfl) ?_
  refine zj_put (C := RX14) (T := TX14) (N := 40) (t := 14) (v := .ref q16) Y h h0L h0Γ hF ziin_14 tyX14 tyX14_ok nmX14 rfl 39 (by decide) (zmi (List.mem_of_getElem? (i := 164) rfl)) (fun _ h9 => h9) rfl hini rfl rfl rfl (Nat.le_of_ble_eq_true rfl) dX14_init_155 (fun F' H locs hF' hne h' => ?_)
  have hF : F' h0 = .inr (14, [.int 0, .int 0, .int (-1), .int 0, .ref q1, .ref q2, .ref q3, .int 0, .int 0, .ref q4, .ref q5, .int 0, .int 0, .int 0, .int 0, .int 0, .int 0, .int 0, .int 0, .int 0, .int 0, .long 0, .ref q6, .ref q7, .int 0, .ref q8, .int 0, .int 0, .int 0, .int 0, .ref q9, .ref q10, .int 0, .int 0, .ref q11, .ref q12, .ref q13, .ref q14, .ref q15, .ref q16]) := hF'
  have h := h'
  have hfq1 := hfq1.mv (Γ' := Γ) (F' := F') (fun a ha => ⟨rfl, hne a (hfq1.no h0Γ a ha)⟩)
  have hfq2 := hfq2.mv (Γ' := Γ) (F' := F') (fun a ha => ⟨rfl, hne a (hfq2.no h0Γ a ha)⟩)
  have hfq3 := hfq3.mv (Γ' := Γ) (F' := F') (fun a ha => ⟨rfl, hne a (hfq3.no h0Γ a ha)⟩)
  have hyaq6 := hyaq6.mv (Γ' := Γ) (F' := F') (fun a ha => ⟨rfl, hne a (hyaq6.no h0Γ a ha)⟩)
  have hyaq7 := hyaq7.mv (Γ' := Γ) (F' := F') (fun a ha => ⟨rfl, hne a (hyaq7.no h0Γ a ha)⟩)
  clear hF' hne h'
  generalize F' = F at h hF hfq1 hfq2 hfq3 hyaq6 hyaq7
  have z9 : z14 (fun a => if a = h0 then some 14 else Γ a) F h0 := by
    unfold z14 zFz
    exact ⟨q1, q2, q3, Lq1, Lq2, Lq3, ⟨(by unfold zfld; rw [hF]; rfl), (by unfold zfld; rw [hF]; rfl), (by unfold zfld; rw [hF]; rfl), hfq1.mv (Γ' := fun a => if a = h0 then some 14 else Γ a) (F' := F) (fun a ha => ⟨if_neg (hfq1.no h0Γ a ha), rfl⟩), hfq2.mv (Γ' := fun a => if a = h0 then some 14 else Γ a) (F' := F) (fun a ha => ⟨if_neg (hfq2.no h0Γ a ha), rfl⟩), hfq3.mv (Γ' := fun a => if a = h0 then some 14 else Γ a) (F' := F) (fun a ha => ⟨if_neg (hfq3.no h0Γ a ha), rfl⟩), hdq1q2, hdq1q3, hdq2q3, fun a ha => z3m (h11 a (zif_of (by decide) ha))⟩, (by unfold zfld; rw [hF]; rfl), (by unfold zfld; rw [hF]; rfl), (by unfold zfld; rw [hF]; rfl), (by unfold zfld; rw [hF]; rfl), (by unfold zfld; rw [hF]; rfl)⟩
  have h := zj_end h h0L h0Γ hF (by decide) (show zVs _ [(0, (-2147483648), 2147483647), (0, (-2147483648), 2147483647), (0, (-2147483648), 2147483647), (0, (-2147483648), 2147483647), (4, 0, 0), (4, 0, 0), (4, 0, 0), (0, 0, 1), (0, 0, 1), (2, 13, 0), (2, 152, 0), (0, 0, 600), (0, 0, 600), (0, 0, 600), (0, (-2147483648), 2147483647), (0, 0, 600), (0, (-2147483648), 2147483647), (0, (-2147483648), 2147483647), (0, (-2147483648), 2147483647), (0, 0, 6), (0, 0, 6), (1, 0, 0), (4, 0, 0), (4, 0, 0), (0, 0, 1), (2, 150, 0), (0, (-2147483648), 2147483647), (0, 0, 8), (0, 0, 2000), (0, (-2147483648), 2147483647), (2, 168, 0), (2, 153, 0), (0, 0, 12), (0, 0, 12), (2, 151, 0), (2, 169, 0), (2, 170, 0), (2, 171, 0), (2, 172, 0), (2, 173, 0)] [.int 0, .int 0, .int (-1), .int 0, .ref q1, .ref q2, .ref q3, .int 0, .int 0, .ref q4, .ref q5, .int 0, .int 0, .int 0, .int 0, .int 0, .int 0, .int 0, .int 0, .int 0, .int 0, .long 0, .ref q6, .ref q7, .int 0, .ref q8, .int 0, .int 0, .int 0, .int 0, .ref q9, .ref q10, .int 0, .int 0, .ref q11, .ref q12, .ref q13, .ref q14, .ref q15, .ref q16] from ⟨zV.i ⟨by decide, by decide⟩, zV.i ⟨by decide, by decide⟩, zV.i ⟨by decide, by decide⟩, zV.i ⟨by decide, by decide⟩, trivial, trivial, trivial, zV.i ⟨by decide, by decide⟩, zV.i ⟨by decide, by decide⟩, zV.r (zif hq4 h0Γ) rfl, zV.r (zif hq5 h0Γ) rfl, zV.i ⟨by decide, by decide⟩, zV.i ⟨by decide, by decide⟩, zV.i ⟨by decide, by decide⟩, zV.i ⟨by decide, by decide⟩, zV.i ⟨by decide, by decide⟩, zV.i ⟨by decide, by decide⟩, zV.i ⟨by decide, by decide⟩, zV.i ⟨by decide, by decide⟩, zV.i ⟨by decide, by decide⟩, zV.i ⟨by decide, by decide⟩, zV.l, trivial, trivial, zV.i ⟨by decide, by decide⟩, zV.r (zif hq8 h0Γ) rfl, zV.i ⟨by decide, by decide⟩, zV.i ⟨by decide, by decide⟩, zV.i ⟨by decide, by decide⟩, zV.i ⟨by decide, by decide⟩, zV.r (zif hq9 h0Γ) rfl, zV.r (zif hq10 h0Γ) rfl, zV.i ⟨by decide, by decide⟩, zV.i ⟨by decide, by decide⟩, zV.r (zif hq11 h0Γ) rfl, zV.r (zif hq12 h0Γ) rfl, zV.r (zif hq13 h0Γ) rfl, zV.r (zif hq14 h0Γ) rfl, zV.r (zif hq15 h0Γ) rfl, zV.r (zif hq16 h0Γ) rfl, trivial⟩)
  subst hQ
  exact W.vret hx hb hr (fun t9 ht9 hW9 => ⟨⟨(fun a => if a = h0 then some 14 else Γ a, L, F), rfl, ⟨if_pos rfl, z9, ⟨q6, q7, Xq6, Xq7, ⟨(show zfld F h0 22 = .ref q6 from by unfold zfld; rw [hF]; rfl), (show zfld F h0 23 = .ref q7 from by unfold zfld; rw [hF]; rfl)⟩, ⟨hyaq6.mv (Γ' := fun a => if a = h0 then some 14 else Γ a) (F' := F) (fun a ha => ⟨if_neg (hyaq6.no h0Γ a ha), rfl⟩), hyaq7.mv (Γ' := fun a => if a = h0 then some 14 else Γ a) (F' := F) (fun a ha => ⟨if_neg (hyaq7.no h0Γ a ha), rfl⟩)⟩, hdq6q7, fun a h1 h2 => hdq6q7 a h2 h1⟩, (show zfld F h0 24 = .int 0 from by unfold zfld; rw [hF]; rfl)⟩, by rw [ht9]; exact h.1, h.2.1, h.2.2.1, h.2.2.2.1⟩, h.2.2.2.2.F ht9⟩) h.2.2.2.2.2.2 dX14_init_158
