theorem zml_I {w : Cond} (h : w ∈ zc_ini) : w ∈ zGL := List.mem_append_right _ (List.mem_append_left _ h)
theorem z_icmp {L i : Nat} (hL : L ≤ 3072) (hi : 6 * i ≤ L) : (Int32.ofNat L - 6 < nI (6 * i)) ↔ L < 6 * i + 6 := by
  have e0 : (Int32.ofNat L).toInt = (L : Int) := Int32.toInt_ofNat_of_lt (by omega)
  have e6 : (6 : Int32).toInt = 6 := by decide
  have e1 : (Int32.ofNat L - 6).toInt = (L : Int) - 6 := by
    rw [zB.subE (a := 0) (b := 3072) (c := 6) (d := 6) ⟨by omega, by omega⟩ ⟨by omega, by omega⟩ ⟨by decide, by decide⟩, e0, e6]
  have e2 : (nI (6 * i)).toInt = ((6 * i : Nat) : Int) := Int32.toInt_ofNat_of_lt (by omega)
  rw [Int32.lt_iff_toInt_lt, e1, e2]
  omega
theorem zE.nar {D : va_G} {A A' : Nat → Prop} {U : State} {H : Heap} (h : zE D A U H) (hA : ∀ q, A' q → A q) : zE D A' U H :=
  ⟨h.1, h.2.1, ⟨h.2.2.1.1.narrow hA, h.2.2.1.2.narrow hA⟩, fun i q hq => ⟨(h.2.2.2.1 i q hq).1, by
    obtain ⟨h1, h2, h3, h4⟩ := (h.2.2.2.1 i q hq).2
    exact ⟨h1.narrow hA, h2.narrow hA, h3.narrow hA, h4.narrow hA⟩⟩, h.2.2.2.2.1.narrow hA, h.2.2.2.2.2.1.narrow hA, h.2.2.2.2.2.2⟩
theorem zFm.sub {Γ : Nat → Option Nat} {k : Nat → ClassId} {L X : List Nat} {F : Nat → va_E} {pr : Nat} (h : zFm Γ F X pr) (hI : zInv Γ k L F) : ∀ a ∈ X, a ∈ L := fun a ha => by
  rcases h.2.2.1 a ha with q | ⟨t, q, _⟩
  · rw [q]
    exact (hI pr _ h.2.1).1
  · exact (hI a t q).1
theorem zgl_10 : GoodIn zGL zwi_10 := fun w hw => ⟨List.mem_append_right _ (zgi_10 w hw).1, (zgi_10 w hw).2⟩
theorem zgl_14 : GoodIn zGL zwi_14 := fun w hw => ⟨List.mem_append_right _ (zgi_14 w hw).1, (zgi_14 w hw).2⟩
theorem zlin_10 : ∀ w ∈ u_ws RX10 TX10 14, w ∈ zGL := fun w h => List.mem_append_right _ (ziin_10 w h)
theorem zlin_14 : ∀ w ∈ u_ws RX14 TX14 40, w ∈ zGL := fun w h => List.mem_append_right _ (ziin_14 w h)
theorem zFP.mv {Γ Γ' : Nat → Option Nat} {F F' : Nat → va_E} {pr pq sp : Nat} {Lp Lq Ls L : List Nat} {k : Nat → ClassId} (h : zFP Γ F pr pq sp Lp Lq Ls) (hI : zInv Γ k L F) (hk : ∀ a ∈ L, Γ' a = Γ a ∧ F' a = F a) (h11 : ∀ a, Γ' a = some 11 → Γ a = some 11) : zFP Γ' F' pr pq sp Lp Lq Ls :=
  ⟨h.1.mv (fun a ha => hk a (h.1.sub hI a ha)), h.2.1.mv (fun a ha => hk a (h.2.1.sub hI a ha)), h.2.2.1.mv (fun a ha => hk a (h.2.2.1.sub hI a ha)), h.2.2.2.1, h.2.2.2.2.1, h.2.2.2.2.2.1, fun a ha => h.2.2.2.2.2.2 a (h11 a ha)⟩
section
variable {p : Program} {l : Launch} {e : Env} {s : State} {m : MethodId} {below : List Frame} {meth : Method} {c : Code}
variable {D : va_G} {k : Nat → ClassId} {Γ : Nat → Option Nat} {L : List Nat} {b Ln th mo o : Nat} {xs : Nat → Int32}
set_option maxHeartbeats 4000000 in
set_option maxRecDepth 100000 in
theorem law_loop (hst : l.stackTraces = false) (Z : zC p m c cL_law 7 s #[Value.ref b] zGL RL D k L) (hX : va_X b Ln xs s s.heap) (hbl : b < s.heap.size) (hbA : ¬ zA L s.heap.size b) (hLn : Ln ≤ 3072) (hr : meth.sig.returnType = ret) (hlocks : meth.locks = false) (hAge : ∀ q, zA L s.heap.size q → s.heap.size ≤ q) : ∀ (n i : Nat) (F : Nat → va_E) (H : Heap) (locs : List Loc) (ls : Array Slot) (fe : Int32), Ln < 6 * (i + n) + 6 → 6 * i ≤ Ln → zH D k Γ L s F H locs → zIw Γ F th mo o → zFe F th mo fe → zJw Γ F th mo fe → zKw F th mo → zDw Γ F th mo → zEw Γ F th mo → zRw Γ F th mo → zKl Γ F th mo → lv_has ls 7 [(4, .int (nI (6 * i))), (3, .ref o), (2, .ref mo), (1, .ref th), (0, .ref b)] → W p l e room_1 s m #[Value.ref b] below meth c H locs (320 + i) (43906 + 6 * i) (lw_Z below #[Value.ref b] s) (F0 m 23 ls []) := by
  have hx := Z.1.1
  have hb := Z.1.2.1
  have exit_ : ∀ (i : Nat) (F : Nat → va_E) (H : Heap) (locs : List Loc) (ls : Array Slot), 6 * i ≤ Ln → zH D k Γ L s F H locs → W p l e room_1 s m #[Value.ref b] below meth c H locs (320 + i) (43906 + 6 * i) (lw_Z below #[Value.ref b] s) (F0 m 976 ls []) := by
    intro i F H locs ls hi h
    refine lv_iconst (v := 1) hx hb dL_law_976 (by decide) ?_
    refine va_forget (fun q hq => hAge _ (h.2.2.2.2 q hq)) ?_
    refine W.widen (k := 601024) (n := 7293034) (by omega) (by omega) ?_
    exact lw_ret hx hb hr hlocks dL_law_977
  intro n
  induction n with
  | zero =>
    intro i F H locs ls fe hn hi h hw hfe hJ hK hD hE hR hG hl
    refine lv_iload hx hb dL_law_23 (lv_at hl 0 rfl) ?_
    refine lv_aload_n hx hb dL_law_25 rfl (lv_at hl 4 rfl) ?_
    refine va_slen hx hb hX hbl hbA h.2.2 dL_law_26 ?_
    refine lv_bipush (v := 6) hx hb dL_law_27 (by decide) ?_
    refine lv_isub hx hb dL_law_29 ?_
    exact lv_icmp_gt (tgt := 976) hx hb dL_law_30 (by decide) (fun _ => exit_ i F H locs ls hi h) (fun h9 => absurd ((z_icmp hLn hi).mpr (by omega)) h9)
  | succ n ih =>
    intro i F H locs ls fe hn hi h hw hfe hJ hK hD hE hR hG hl
    refine lv_iload hx hb dL_law_23 (lv_at hl 0 rfl) ?_
    refine lv_aload_n hx hb dL_law_25 rfl (lv_at hl 4 rfl) ?_
    refine va_slen hx hb hX hbl hbA h.2.2 dL_law_26 ?_
    refine lv_bipush (v := 6) hx hb dL_law_27 (by decide) ?_
    refine lv_isub hx hb dL_law_29 ?_
    by_cases c9 : Ln < 6 * i + 6
    · exact lv_icmp_gt (tgt := 976) hx hb dL_law_30 (by decide) (fun _ => exit_ i F H locs ls hi h) (fun h9 => absurd ((z_icmp hLn hi).mpr c9) h9)
    refine lv_icmp_gt (tgt := 976) hx hb dL_law_30 (by decide) (fun h9 => absurd ((z_icmp hLn hi).mp h9) c9) (fun _ => ?_)
    have tail : ∀ (F : Nat → va_E) (H : Heap) (locs : List Loc) (ls : Array Slot) (fe : Int32), zH D k Γ L s F H locs → zIw Γ F th mo o → zFe F th mo fe → zJw Γ F th mo fe → zKw F th mo → zDw Γ F th mo → zEw Γ F th mo → zRw Γ F th mo → zKl Γ F th mo → lv_has ls 7 [(4, .int (nI (6 * i))), (3, .ref o), (2, .ref mo), (1, .ref th), (0, .ref b)] → W p l e room_1 s m #[Value.ref b] below meth c H locs (320 + i + 1) (43906 + 6 * i + 6) (lw_Z below #[Value.ref b] s) (F0 m 970 ls []) := by
      intro F H locs ls fe h hw hfe hJ hK hD hE hR hG hl
      obtain ⟨y1, ey1⟩ : ∃ y : Int32, y = nI (6 * i) + 6 := ⟨_, rfl⟩
      refine lv_iinc (v := y1) (lv' := [(4, .int y1), (3, .ref o), (2, .ref mo), (1, .ref th), (0, .ref b)]) hx hb dL_law_970 hl (k := 0) rfl (by rw [ey1]; rfl) (by decide) rfl (fun ls hl => ?_)
      refine lv_goto (tgt := 23) hx hb dL_law_973 (by decide) ?_
      refine W.widen (k := 320 + (i + 1)) (n := 43906 + 6 * (i + 1)) (by omega) (by omega) ?_
      rw [ey1, show nI (6 * i) + 6 = nI (6 * (i + 1)) from nI_add (6 * i) 6] at hl
      exact ih (i + 1) F H locs ls fe (by omega) (by omega) h hw hfe hJ hK hD hE hR hG hl
    have hv : ∀ j : Nat, j < 6 → vp_in (nI (6 * i) + nI j) Ln := fun j hj => by
      rw [nI_add]
      exact vp_in_nI (by omega) (by omega)
    have hrm : 320 + i + 1 ≤ room_1.cells ∧ 43906 + 6 * i + 6 ≤ room_1.slots := ⟨by show _ ≤ 601024; omega, by show _ ≤ 7293034; omega⟩
    refine lv_aload_n hx hb dL_law_33 rfl (lv_at hl 4 rfl) ?_
    refine lv_iload hx hb dL_law_34 (lv_at hl 0 rfl) ?_
    refine va_sld hx hb hX hbl hbA h.2.2 (i := nI (6 * i)) (vp_in_nI (by omega) (by omega)) dL_law_36 ?_
    refine lv_topi (fun x0 _ => ?_)
    refine lv_bipush (v := 31) hx hb dL_law_37 (by decide) ?_
    refine lv_iand hx hb dL_law_39 ?_
    refine lv_topi (fun y0 ey0 => ?_)
    obtain ⟨j0, hj0, ej0⟩ := pk_andE x0 (m := 31) 5 (by decide)
    have hy0 : y0 = nI j0 := ey0.trans ej0
    clear ey0 ej0
    have hj0 : j0 < 32 := hj0
    rcases z_32 hj0 with rfl | rfl | rfl | rfl | rfl | rfl | rfl | rfl | rfl | rfl | rfl | rfl | rfl | rfl | rfl | rfl | rfl | rfl | rfl | rfl | rfl | rfl | rfl | rfl | rfl | rfl | rfl | rfl | rfl | rfl | rfl | rfl
    · have h9 : y0 = (0 : Int32) := hy0.trans (by decide)
      subst h9
      refine lv_tableIn (off := 116) (tgt := 156) hx hb dL_law_40 (by decide) (by decide) rfl (by decide) ?_
      exact law_case_0 hst Z hX hbl hbA h hw hfe hJ hK hD hE hR hG hl (hv 1 (by decide)) (hv 2 (by decide)) (hv 3 (by decide)) (hv 4 (by decide)) (hv 5 (by decide)) hrm tail
    · have h9 : y0 = (1 : Int32) := hy0.trans (by decide)
      subst h9
      refine lv_tableIn (off := 189) (tgt := 229) hx hb dL_law_40 (by decide) (by decide) rfl (by decide) ?_
      exact law_case_1 hst Z hX hbl hbA h hw hfe hJ hK hD hE hR hG hl (hv 1 (by decide)) (hv 2 (by decide)) (hv 3 (by decide)) (hv 4 (by decide)) (hv 5 (by decide)) hrm tail
    · have h9 : y0 = (2 : Int32) := hy0.trans (by decide)
      subst h9
      refine lv_tableIn (off := 214) (tgt := 254) hx hb dL_law_40 (by decide) (by decide) rfl (by decide) ?_
      exact law_case_2 hst Z hX hbl hbA h hw hfe hJ hK hD hE hR hG hl (hv 1 (by decide)) (hv 2 (by decide)) (hv 3 (by decide)) (hv 4 (by decide)) (hv 5 (by decide)) hrm tail
    · have h9 : y0 = (3 : Int32) := hy0.trans (by decide)
      subst h9
      refine lv_tableIn (off := 227) (tgt := 267) hx hb dL_law_40 (by decide) (by decide) rfl (by decide) ?_
      exact law_case_3 hst Z hX hbl hbA h hw hfe hJ hK hD hE hR hG hl (hv 1 (by decide)) (hv 2 (by decide)) (hv 3 (by decide)) (hv 4 (by decide)) (hv 5 (by decide)) hrm tail
    · have h9 : y0 = (4 : Int32) := hy0.trans (by decide)
      subst h9
      refine lv_tableIn (off := 240) (tgt := 280) hx hb dL_law_40 (by decide) (by decide) rfl (by decide) ?_
      exact law_case_4 hst Z hX hbl hbA h hw hfe hJ hK hD hE hR hG hl (hv 1 (by decide)) (hv 2 (by decide)) (hv 3 (by decide)) (hv 4 (by decide)) (hv 5 (by decide)) hrm tail
    · have h9 : y0 = (5 : Int32) := hy0.trans (by decide)
      subst h9
      refine lv_tableIn (off := 277) (tgt := 317) hx hb dL_law_40 (by decide) (by decide) rfl (by decide) ?_
      exact law_case_5 hst Z hX hbl hbA h hw hfe hJ hK hD hE hR hG hl (hv 1 (by decide)) (hv 2 (by decide)) (hv 3 (by decide)) (hv 4 (by decide)) (hv 5 (by decide)) hrm tail
    · have h9 : y0 = (6 : Int32) := hy0.trans (by decide)
      subst h9
      refine lv_tableIn (off := 317) (tgt := 357) hx hb dL_law_40 (by decide) (by decide) rfl (by decide) ?_
      exact law_case_6 hst Z hX hbl hbA h hw hfe hJ hK hD hE hR hG hl (hv 1 (by decide)) (hv 2 (by decide)) (hv 3 (by decide)) (hv 4 (by decide)) (hv 5 (by decide)) hrm tail
    · have h9 : y0 = (7 : Int32) := hy0.trans (by decide)
      subst h9
      refine lv_tableIn (off := 354) (tgt := 394) hx hb dL_law_40 (by decide) (by decide) rfl (by decide) ?_
      exact law_case_7 hst Z hX hbl hbA h hw hfe hJ hK hD hE hR hG hl (hv 1 (by decide)) (hv 2 (by decide)) (hv 3 (by decide)) (hv 4 (by decide)) (hv 5 (by decide)) hrm tail
    · have h9 : y0 = (8 : Int32) := hy0.trans (by decide)
      subst h9
      refine lv_tableIn (off := 427) (tgt := 467) hx hb dL_law_40 (by decide) (by decide) rfl (by decide) ?_
      exact law_case_8 hst Z hX hbl hbA h hw hfe hJ hK hD hE hR hG hl (hv 1 (by decide)) (hv 2 (by decide)) (hv 3 (by decide)) (hv 4 (by decide)) (hv 5 (by decide)) hrm tail
    · have h9 : y0 = (9 : Int32) := hy0.trans (by decide)
      subst h9
      refine lv_tableIn (off := 452) (tgt := 492) hx hb dL_law_40 (by decide) (by decide) rfl (by decide) ?_
      exact law_case_9 hst Z hX hbl hbA h hw hfe hJ hK hD hE hR hG hl (hv 1 (by decide)) (hv 2 (by decide)) (hv 3 (by decide)) (hv 4 (by decide)) (hv 5 (by decide)) hrm tail
    · have h9 : y0 = (10 : Int32) := hy0.trans (by decide)
      subst h9
      refine lv_tableIn (off := 480) (tgt := 520) hx hb dL_law_40 (by decide) (by decide) rfl (by decide) ?_
      exact law_case_10 hst Z hX hbl hbA h hw hfe hJ hK hD hE hR hG hl (hv 1 (by decide)) (hv 2 (by decide)) (hv 3 (by decide)) (hv 4 (by decide)) (hv 5 (by decide)) hrm tail
    · have h9 : y0 = (11 : Int32) := hy0.trans (by decide)
      subst h9
      refine lv_tableIn (off := 520) (tgt := 560) hx hb dL_law_40 (by decide) (by decide) rfl (by decide) ?_
      exact law_case_11 hst Z hX hbl hbA h hw hfe hJ hK hD hE hR hG hl (hv 1 (by decide)) (hv 2 (by decide)) (hv 3 (by decide)) (hv 4 (by decide)) (hv 5 (by decide)) hrm tail
    · have h9 : y0 = (12 : Int32) := hy0.trans (by decide)
      subst h9
      refine lv_tableIn (off := 545) (tgt := 585) hx hb dL_law_40 (by decide) (by decide) rfl (by decide) ?_
      exact law_case_12 hst Z hX hbl hbA h hw hfe hJ hK hD hE hR hG hl (hv 1 (by decide)) (hv 2 (by decide)) (hv 3 (by decide)) (hv 4 (by decide)) (hv 5 (by decide)) hrm tail
    · have h9 : y0 = (13 : Int32) := hy0.trans (by decide)
      subst h9
      refine lv_tableIn (off := 570) (tgt := 610) hx hb dL_law_40 (by decide) (by decide) rfl (by decide) ?_
      exact law_case_13 hst Z hX hbl hbA h hw hfe hJ hK hD hE hR hG hl (hv 1 (by decide)) (hv 2 (by decide)) (hv 3 (by decide)) (hv 4 (by decide)) (hv 5 (by decide)) hrm tail
    · have h9 : y0 = (14 : Int32) := hy0.trans (by decide)
      subst h9
      refine lv_tableIn (off := 643) (tgt := 683) hx hb dL_law_40 (by decide) (by decide) rfl (by decide) ?_
      exact law_case_14 hst Z hX hbl hbA h hw hfe hJ hK hD hE hR hG hl (hv 1 (by decide)) (hv 2 (by decide)) (hv 3 (by decide)) (hv 4 (by decide)) (hv 5 (by decide)) hrm tail
    · have h9 : y0 = (15 : Int32) := hy0.trans (by decide)
      subst h9
      refine lv_tableIn (off := 704) (tgt := 744) hx hb dL_law_40 (by decide) (by decide) rfl (by decide) ?_
      exact law_case_15 hst Z hX hbl hbA h hw hfe hJ hK hD hE hR hG hl (hv 1 (by decide)) (hv 2 (by decide)) (hv 3 (by decide)) (hv 4 (by decide)) (hv 5 (by decide)) hrm tail
    · have h9 : y0 = (16 : Int32) := hy0.trans (by decide)
      subst h9
      refine lv_tableIn (off := 717) (tgt := 757) hx hb dL_law_40 (by decide) (by decide) rfl (by decide) ?_
      exact law_case_16 hst Z hX hbl hbA h hw hfe hJ hK hD hE hR hG hl (hv 1 (by decide)) (hv 2 (by decide)) (hv 3 (by decide)) (hv 4 (by decide)) (hv 5 (by decide)) hrm tail
    · have h9 : y0 = (17 : Int32) := hy0.trans (by decide)
      subst h9
      refine lv_tableIn (off := 742) (tgt := 782) hx hb dL_law_40 (by decide) (by decide) rfl (by decide) ?_
      exact law_case_17 hst Z hX hbl hbA h hw hfe hJ hK hD hE hR hG hl (hv 1 (by decide)) (hv 2 (by decide)) (hv 3 (by decide)) (hv 4 (by decide)) (hv 5 (by decide)) hrm tail
    · have h9 : y0 = (18 : Int32) := hy0.trans (by decide)
      subst h9
      refine lv_tableIn (off := 803) (tgt := 843) hx hb dL_law_40 (by decide) (by decide) rfl (by decide) ?_
      exact law_case_18 hst Z hX hbl hbA h hw hfe hJ hK hD hE hR hG hl (hv 1 (by decide)) (hv 2 (by decide)) (hv 3 (by decide)) (hv 4 (by decide)) (hv 5 (by decide)) hrm tail
    · have h9 : y0 = (19 : Int32) := hy0.trans (by decide)
      subst h9
      refine lv_tableIn (off := 816) (tgt := 856) hx hb dL_law_40 (by decide) (by decide) rfl (by decide) ?_
      exact law_case_19 hst Z hX hbl hbA h hw hfe hJ hK hD hE hR hG hl (hv 1 (by decide)) (hv 2 (by decide)) (hv 3 (by decide)) (hv 4 (by decide)) (hv 5 (by decide)) hrm tail
    · have h9 : y0 = (20 : Int32) := hy0.trans (by decide)
      subst h9
      refine lv_tableIn (off := 829) (tgt := 869) hx hb dL_law_40 (by decide) (by decide) rfl (by decide) ?_
      exact law_case_20 hst Z hX hbl hbA h hw hfe hJ hK hD hE hR hG hl (hv 1 (by decide)) (hv 2 (by decide)) (hv 3 (by decide)) (hv 4 (by decide)) (hv 5 (by decide)) hrm tail
    · have h9 : y0 = (21 : Int32) := hy0.trans (by decide)
      subst h9
      refine lv_tableIn (off := 854) (tgt := 894) hx hb dL_law_40 (by decide) (by decide) rfl (by decide) ?_
      exact law_case_21 hst Z hX hbl hbA h hw hfe hJ hK hD hE hR hG hl (hv 1 (by decide)) (hv 2 (by decide)) (hv 3 (by decide)) (hv 4 (by decide)) (hv 5 (by decide)) hrm tail
    · have h9 : y0 = (22 : Int32) := hy0.trans (by decide)
      subst h9
      refine lv_tableIn (off := 879) (tgt := 919) hx hb dL_law_40 (by decide) (by decide) rfl (by decide) ?_
      exact law_case_22 hst Z hX hbl hbA h hw hfe hJ hK hD hE hR hG hl (hv 1 (by decide)) (hv 2 (by decide)) (hv 3 (by decide)) (hv 4 (by decide)) (hv 5 (by decide)) hrm tail
    · have h9 : y0 = (23 : Int32) := hy0.trans (by decide)
      subst h9
      refine lv_tableIn (off := 892) (tgt := 932) hx hb dL_law_40 (by decide) (by decide) rfl (by decide) ?_
      exact law_case_23 hst Z hX hbl hbA h hw hfe hJ hK hD hE hR hG hl (hv 1 (by decide)) (hv 2 (by decide)) (hv 3 (by decide)) (hv 4 (by decide)) (hv 5 (by decide)) hrm tail
    · have h9 : y0 = (24 : Int32) := hy0.trans (by decide)
      subst h9
      refine lv_tableIn (off := 917) (tgt := 957) hx hb dL_law_40 (by decide) (by decide) rfl (by decide) ?_
      exact law_case_24 hst Z hX hbl hbA h hw hfe hJ hK hD hE hR hG hl (hv 1 (by decide)) (hv 2 (by decide)) (hv 3 (by decide)) (hv 4 (by decide)) (hv 5 (by decide)) hrm tail
    · have h9 : y0 = (25 : Int32) := hy0.trans (by decide)
      subst h9
      refine lv_tableOut (tgt := 970) hx hb dL_law_40 (by decide) (by decide) ?_
      refine W.widen (k := 320 + i + 1) (n := 43906 + 6 * i + 6) (by omega) (by omega) ?_
      exact tail F H locs ls fe h hw hfe hJ hK hD hE hR hG hl
    · have h9 : y0 = (26 : Int32) := hy0.trans (by decide)
      subst h9
      refine lv_tableOut (tgt := 970) hx hb dL_law_40 (by decide) (by decide) ?_
      refine W.widen (k := 320 + i + 1) (n := 43906 + 6 * i + 6) (by omega) (by omega) ?_
      exact tail F H locs ls fe h hw hfe hJ hK hD hE hR hG hl
    · have h9 : y0 = (27 : Int32) := hy0.trans (by decide)
      subst h9
      refine lv_tableOut (tgt := 970) hx hb dL_law_40 (by decide) (by decide) ?_
      refine W.widen (k := 320 + i + 1) (n := 43906 + 6 * i + 6) (by omega) (by omega) ?_
      exact tail F H locs ls fe h hw hfe hJ hK hD hE hR hG hl
    · have h9 : y0 = (28 : Int32) := hy0.trans (by decide)
      subst h9
      refine lv_tableOut (tgt := 970) hx hb dL_law_40 (by decide) (by decide) ?_
      refine W.widen (k := 320 + i + 1) (n := 43906 + 6 * i + 6) (by omega) (by omega) ?_
      exact tail F H locs ls fe h hw hfe hJ hK hD hE hR hG hl
    · have h9 : y0 = (29 : Int32) := hy0.trans (by decide)
      subst h9
      refine lv_tableOut (tgt := 970) hx hb dL_law_40 (by decide) (by decide) ?_
      refine W.widen (k := 320 + i + 1) (n := 43906 + 6 * i + 6) (by omega) (by omega) ?_
      exact tail F H locs ls fe h hw hfe hJ hK hD hE hR hG hl
    · have h9 : y0 = (30 : Int32) := hy0.trans (by decide)
      subst h9
      refine lv_tableOut (tgt := 970) hx hb dL_law_40 (by decide) (by decide) ?_
      refine W.widen (k := 320 + i + 1) (n := 43906 + 6 * i + 6) (by omega) (by omega) ?_
      exact tail F H locs ls fe h hw hfe hJ hK hD hE hR hG hl
    · have h9 : y0 = (31 : Int32) := hy0.trans (by decide)
      subst h9
      refine lv_tableOut (tgt := 970) hx hb dL_law_40 (by decide) (by decide) ?_
      refine W.widen (k := 320 + i + 1) (n := 43906 + 6 * i + 6) (by omega) (by omega) ?_
      exact tail F H locs ls fe h hw hfe hJ hK hD hE hR hG hl
end
set_option maxHeartbeats 4000000 in
set_option maxRecDepth 100000 in
/-- THE LAW, from its entry -/
theorem whole_start {p : Program} {e : Env} {s : State} {m : MethodId} {below : List Frame} {meth : Method} {c : Code} (l : Launch) (hst : l.stackTraces = false) {b L : Nat} {xs : Nat → Int32} (hL : L ≤ 3072) (C0 : lw_At p s m meth c b L xs) : W p l e room_1 s m #[Value.ref b] below meth c s.heap [] 0 0 (lw_Z below #[Value.ref b] s) (entryFrame m ([Value.ref b] : List Value).toArray 7) := by
  obtain ⟨hx, hb, hr, hml, hown, hts0, hX, hbl, hlocks, hgv⟩ := id C0
  have hown : s.vm.findClass RL = some m.cls := hown
  obtain ⟨A, hAe⟩ : ∃ A : Nat → Prop, A = fun q : Nat => s.heap.size ≤ q := ⟨_, rfl⟩
  have hg : ∀ w ∈ zGL, w.before #[Value.ref b] s = true := fun w h => hts0 w (zt_GL w h)
  have hA : ∀ q : Nat, s.heap.size ≤ q → A q := fun q h => by rw [hAe]; exact h
  have hA2 : ∀ q : Nat, A q → s.heap.size ≤ q := fun q h => by rw [hAe] at h; exact h
  have hA3 : ∀ a : Nat, a < s.heap.size → ¬ A a := fun a h h9 => Nat.not_le.mpr h (hA2 a h9)
  have hN : z_N s := z_N0 hts0 hgv
  have hZ : z_st A s s.heap := z_st0 hts0 hgv hA3
  obtain ⟨aK, aV, hE0⟩ := zE0 (A := A) hts0 hgv hA3
  obtain ⟨c0, iS0, hKn0⟩ := u_known (C := RX0) (T := TX0) (N := 3) (n := 3) hts0 z_in_0 (hg (.instantiable RX0 3) (zml_I (List.mem_of_getElem? (i := 120) rfl)))
  obtain ⟨c1, iS1, hKn1⟩ := u_known (C := RX1) (T := TX1) (N := 4) (n := 4) hts0 z_in_1 (hg (.instantiable RX1 4) (zml_I (List.mem_of_getElem? (i := 80) rfl)))
  obtain ⟨c2, iS2, hKn2⟩ := u_known (C := RX2) (T := TX2) (N := 9) (n := 9) hts0 z_in_2 (hg (.instantiable RX2 9) (zml_I (List.mem_of_getElem? (i := 87) rfl)))
  obtain ⟨c3, iS3, hKn3⟩ := u_known (C := RX3) (T := TX3) (N := 3) (n := 3) hts0 z_in_3 (hg (.instantiable RX3 3) (zml_I (List.mem_of_getElem? (i := 132) rfl)))
  obtain ⟨c4, iS4, hKn4⟩ := u_known (C := RX4) (T := TX4) (N := 4) (n := 4) hts0 z_in_4 (hg (.instantiable RX4 4) (zml_I (List.mem_of_getElem? (i := 92) rfl)))
  obtain ⟨c5, iS5, hKn5⟩ := u_known (C := RX5) (T := TX5) (N := 19) (n := 19) hts0 z_in_5 (hg (.instantiable RX5 19) (zml_I (List.mem_of_getElem? (i := 112) rfl)))
  obtain ⟨c6, iS6, hKn6⟩ := u_known (C := RX6) (T := TX6) (N := 6) (n := 6) hts0 z_in_6 (hg (.instantiable RX6 6) (zml_I (List.mem_of_getElem? (i := 99) rfl)))
  obtain ⟨c7, iS7, hKn7⟩ := u_known (C := RX7) (T := TX7) (N := 12) (n := 12) hts0 z_in_7 (hg (.instantiable RX7 12) (zml_I (List.mem_of_getElem? (i := 106) rfl)))
  obtain ⟨c8, iS8, hKn8⟩ := u_known (C := RX8) (T := TX8) (N := 6) (n := 6) hts0 z_in_8 (hg (.instantiable RX8 6) (zml_I (List.mem_of_getElem? (i := 74) rfl)))
  obtain ⟨c9, iS9, hKn9⟩ := u_known (C := RX9) (T := TX9) (N := 5) (n := 5) hts0 z_in_9 (hg (.instantiable RX9 5) (zml_I (List.mem_of_getElem? (i := 126) rfl)))
  obtain ⟨c10, iS10, hKn10⟩ := u_known (C := RX10) (T := TX10) (N := 14) (n := 14) hts0 z_in_10 (hg (.instantiable RX10 14) (zml (List.mem_of_getElem? (i := 201) rfl)))
  obtain ⟨c11, iS11, hKn11⟩ := u_known (C := RX11) (T := TX11) (N := 30) (n := 30) hts0 z_in_11 (hg (.instantiable RX11 30) (zml_I (List.mem_of_getElem? (i := 139) rfl)))
  obtain ⟨c12, iS12, hKn12⟩ := u_known (C := RX12) (T := TX12) (N := 10) (n := 10) hts0 z_in_12 (hg (.instantiable RX12 10) (zml_I (List.mem_of_getElem? (i := 153) rfl)))
  obtain ⟨c13, iS13, hKn13⟩ := u_known (C := RX13) (T := TX13) (N := 8) (n := 8) hts0 z_in_13 (hg (.instantiable RX13 8) (zml_I (List.mem_of_getElem? (i := 147) rfl)))
  obtain ⟨c14, iS14, hKn14⟩ := u_known (C := RX14) (T := TX14) (N := 40) (n := 40) hts0 z_in_14 (hg (.instantiable RX14 40) (zml (List.mem_of_getElem? (i := 205) rfl)))
  obtain ⟨k0, a0, b0⟩ := zArr0 (hg (.arrayClass .byte) (zml (List.mem_of_getElem? (i := 209) rfl)))
  obtain ⟨k1, a1, b1⟩ := zArr0 (hg (.arrayClass .int) (zml (List.mem_of_getElem? (i := 210) rfl)))
  obtain ⟨k2, a2, b2⟩ := zArr0 (hg (.arrayClass .long) (zml (List.mem_of_getElem? (i := 208) rfl)))
  obtain ⟨k3, a3, b3⟩ := zArrO hN.2.1
  obtain ⟨k4, a4, b4⟩ := zArrO hN.2.2.1
  obtain ⟨D, k, hK, hE⟩ : ∃ (D : va_G) (k : Nat → ClassId), va_K D z_Cl (zT k) s ∧ zE D A s s.heap := by
    refine ⟨(fun k => [c0, c1, c2, c3, c4, c5, c6, c7, c8, c9, c10, c11, c12, c13, c14].getD k c0, fun k => if k = 99 then aK else if k = 98 then aV else [iS0, iS1, iS2, iS3, iS4, iS5, iS6, iS7, iS8, iS9, iS10, iS11, iS12, iS13, iS14].getD k iS0), fun j => [k0, k1, k2, k3, k4].getD j k0, ⟨fun k q hq => ?_, fun j q hq => ?_⟩, hE0 _ rfl rfl⟩
    · match k, hq with
      | 0, hq => cases hq; exact hKn0
      | 1, hq => cases hq; exact hKn1
      | 2, hq => cases hq; exact hKn2
      | 3, hq => cases hq; exact hKn3
      | 4, hq => cases hq; exact hKn4
      | 5, hq => cases hq; exact hKn5
      | 6, hq => cases hq; exact hKn6
      | 7, hq => cases hq; exact hKn7
      | 8, hq => cases hq; exact hKn8
      | 9, hq => cases hq; exact hKn9
      | 10, hq => cases hq; exact hKn10
      | 11, hq => cases hq; exact hKn11
      | 12, hq => cases hq; exact hKn12
      | 13, hq => cases hq; exact hKn13
      | 14, hq => cases hq; exact hKn14
      | k + 15, hq => simp [z_Cl] at hq
    · match j, hq with
      | 0, hq => cases hq; exact ⟨a0, b0⟩
      | 1, hq => cases hq; exact ⟨a1, b1⟩
      | 2, hq => cases hq; exact ⟨a2, b2⟩
      | 3, hq => cases hq; exact ⟨a3, b3⟩
      | 4, hq => cases hq; exact ⟨a4, b4⟩
      | j + 5, hq => simp [zT] at hq
  have Y : zY p m c cL_law 7 s #[Value.ref b] zGL RL D k A := ⟨⟨hx, hb, hml, hown, hg⟩, hK, hN, hZ, hA⟩
  have h : zU D k A s (fun _ => none) [] (fun _ => .inr (0, [])) s.heap [] := ⟨fun j x h => by simp [va_pl] at h, List.nodup_nil, (fun a h => by cases h), (fun a t h => by cases h), va_S.rf⟩
  have hl := lv_entry ([.ref b]) (n := 7) (Nat.le_of_ble_eq_true rfl)
  rw [lg_entry_eq]
  generalize (lg_sl ([.ref b]) ++ List.replicate (7 - (lg_sl ([.ref b])).length) Slot.unset).toArray = ls at hl ⊢
  have hl : lv_has ls 7 [(0, .ref b)] := hl
  refine zj_new (t := 10) (C := RX10) (T := TX10) (N := 14) (fs := [.null, .int 0, .null, .null, .null, .null, .null, .null, .int 0, .null, .null, .null, .int 0, .int 0]) (mc := 217) (ms := 21316) (post := zp_10) Y h zlin_10 tyX10 tyX10_ok (zml (List.mem_of_getElem? (i := 200) rfl)) (zml (List.mem_of_getElem? (i := 201) rfl)) (zml (List.mem_of_getElem? (i := 3) rfl)) rfl (fun j hj => z_df10 j hj) (fun q9 sz9 => zi_X10 l D k q9 sz9) (cwI 0 hg zgl_10 rfl rfl rfl (hg _ (zml (List.mem_of_getElem? (i := 3) rfl))) (hg _ (zml (List.mem_of_getElem? (i := 202) rfl))) (hg _ (zml (List.mem_of_getElem? (i := 203) rfl))) rfl (by decide +kernel) ⟨(Nat.le_of_ble_eq_true rfl), (Nat.le_of_ble_eq_true rfl)⟩) hl.1 (Nat.le_of_ble_eq_true rfl) (Nat.le_of_ble_eq_true rfl) (Nat.le_of_ble_eq_true rfl) dL_law_0 dL_law_3 dL_law_4 (fun th Γa La Fa Γ L F H locs hth hn hp hI hk hk2 hL9 hu h' => ?_)
  have hp : (∀ a, Γa a ≠ some 11) ∧ zfld Fa th 1 = .int 0 ∧ zfld Fa th 12 = .int 0 ∧ ∃ (pn sp : Nat) (fa fb : Nat → Nat), zfld Fa th 2 = .ref pn ∧ zfld Fa th 3 = .ref sp ∧ zPS Γa Fa pn fa ∧ zPS Γa Fa sp fb ∧ ∃ (to : Nat) (Ln Ls : List Nat), zfld Fa th 10 = .ref to ∧ zF2 Γa Fa pn sp Ln Ls ∧ zfld Fa to 4 = .int 0 ∧ zfld Fa pn 4 = .int 0 ∧ zfld Fa pn 5 = .int 0 ∧ ∃ la lb : Nat → Nat, zLS Γa Fa pn la ∧ zLS Γa Fa sp lb ∧ ∃ gr : Nat, zfld Fa th 11 = .ref gr ∧ zfld Fa gr 2 = .int 0 ∧ zM3 Γa Fa th ∧ zPD Γa Fa fa ∧ zPD Γa Fa fb ∧ zfld Fa th 8 = .int 0 := hp
  obtain ⟨pn, sn, fa, fb, j2, j3, hPa, hPb, to, Ln9, Ls9, j10, hF2, g1, g2, g3, la, lb, hLa, hLb, gr, j11, g4, hM3, hDa, hDb, k8a⟩ := hp.2.2.2
  have hgr : Γa gr = some 3 := by
    obtain ⟨b9, kb9, hb9⟩ := z_rf (j := 11) (n := 3) hI hn (by decide) rfl
    cases Value.ref.inj (j11.symm.trans kb9)
    exact hb9
  have hto : Γa to = some 9 := by
    obtain ⟨b9, kb9, hb9⟩ := z_rf (j := 10) (n := 9) hI hn (by decide) rfl
    cases Value.ref.inj (j10.symm.trans kb9)
    exact hb9
  have hpn := hF2.1.2.1
  have hsn := hF2.2.1.2.1
  have hF2 := hF2.mv (Γ' := Γ) (F' := F) (fun a t ha => ⟨(hk2 a (hI a t ha).1).1.trans ha, (hk2 a (hI a t ha).1).2.1⟩)
  have hM3 := hM3.mv hn (Γ' := Γ) (F' := F) (fun a t ha => ⟨((hk2 a (hI a t ha).1).1.trans ha).trans ha.symm, (hk2 a (hI a t ha).1).2.1⟩)
  have hDa := hDa.mv (fun f h9 => hPa.ty h9) (Γ' := Γ) (F' := F) (fun a t ha => ⟨(hk2 a (hI a t ha).1).1.trans ha, (hk2 a (hI a t ha).1).2.1⟩)
  have hDb := hDb.mv (fun f h9 => hPb.ty h9) (Γ' := Γ) (F' := F) (fun a t ha => ⟨(hk2 a (hI a t ha).1).1.trans ha, (hk2 a (hI a t ha).1).2.1⟩)
  have hPa := hPa.mv hpn (Γ' := Γ) (F' := F) (fun a t ha => ⟨(hk2 a (hI a t ha).1).1.trans ha, (hk2 a (hI a t ha).1).2.1⟩)
  have hPb := hPb.mv hsn (Γ' := Γ) (F' := F) (fun a t ha => ⟨(hk2 a (hI a t ha).1).1.trans ha, (hk2 a (hI a t ha).1).2.1⟩)
  have hLa := hLa.mv hpn (Γ' := Γ) (F' := F) (fun a t ha => ⟨(hk2 a (hI a t ha).1).1.trans ha, (hk2 a (hI a t ha).1).2.1⟩)
  have hLb := hLb.mv hsn (Γ' := Γ) (F' := F) (fun a t ha => ⟨(hk2 a (hI a t ha).1).1.trans ha, (hk2 a (hI a t ha).1).2.1⟩)
  have g1 := zfld_e ((hk2 to (hI to _ hto).1).2.1) g1
  have g2 := zfld_e ((hk2 pn (hI pn _ hpn).1).2.1) g2
  have g3 := zfld_e ((hk2 pn (hI pn _ hpn).1).2.1) g3
  have g4 := zfld_e ((hk2 gr (hI gr _ hgr).1).2.1) g4
  have hpn := (hk2 pn (hI pn _ hpn).1).1.trans hpn
  have hsn := (hk2 sn (hI sn _ hsn).1).1.trans hsn
  have hto := (hk2 to (hI to _ hto).1).1.trans hto
  have hgr := (hk2 gr (hI gr _ hgr).1).1.trans hgr
  have j2 := zfld_e ((hk2 th (hI th _ hn).1).2.1) j2
  have j3 := zfld_e ((hk2 th (hI th _ hn).1).2.1) j3
  have j10 := zfld_e ((hk2 th (hI th _ hn).1).2.1) j10
  have j11 := zfld_e ((hk2 th (hI th _ hn).1).2.1) j11
  have h11 : ∀ a, Γ a ≠ some 11 := fun a ha => (hL9 a (h'.2.2.2.1 a _ ha).1).elim (fun h1 => by cases h1) (fun h1 => absurd ((hk2 a h1).1.symm.trans ha) (hp.1 a))
  have kf : zfld F th 1 = .int 0 := zfld_e (hk2 th (hI th _ hn).1).2.1 hp.2.1
  have kq : zfld F th 12 = .int 0 := zfld_e (hk2 th (hI th _ hn).1).2.1 hp.2.2.1
  have k8 : zfld F th 8 = .int 0 := zfld_e (hk2 th (hI th _ hn).1).2.1 k8a
  have thL := (h'.2.2.2.1 th _ hth).1
  have h := h'
  clear h' hk hk2 hL9 hu hp hn hI
  refine W.widen (k := 218) (n := 21330) (Nat.le_of_ble_eq_true rfl) (Nat.le_of_ble_eq_true rfl) ?_
  refine lv_astore_n (lv' := [(1, .ref th), (0, .ref b)]) hx hb dL_law_7 rfl hl (by decide) rfl (fun ls hl => ?_)
  refine zj_new (t := 14) (C := RX14) (T := TX14) (N := 40) (fs := [.int 0, .int 0, .int 0, .int 0, .null, .null, .null, .int 0, .int 0, .null, .null, .int 0, .int 0, .int 0, .int 0, .int 0, .int 0, .int 0, .int 0, .int 0, .int 0, .long 0, .null, .null, .int 0, .null, .int 0, .int 0, .int 0, .int 0, .null, .null, .int 0, .int 0, .null, .null, .null, .null, .null, .null]) (mc := 100) (ms := 22535) (post := zp_14) Y h zlin_14 tyX14 tyX14_ok (zml (List.mem_of_getElem? (i := 204) rfl)) (zml (List.mem_of_getElem? (i := 205) rfl)) (zml (List.mem_of_getElem? (i := 8) rfl)) rfl (fun j hj => z_df14 j hj) (fun q9 sz9 => zi_X14 l D k q9 sz9) (cwI 0 hg zgl_14 rfl rfl rfl (hg _ (zml (List.mem_of_getElem? (i := 8) rfl))) (hg _ (zml (List.mem_of_getElem? (i := 206) rfl))) (hg _ (zml (List.mem_of_getElem? (i := 207) rfl))) rfl (by decide +kernel) ⟨(Nat.le_of_ble_eq_true rfl), (Nat.le_of_ble_eq_true rfl)⟩) hl.1 (Nat.le_of_ble_eq_true rfl) (Nat.le_of_ble_eq_true rfl) (Nat.le_of_ble_eq_true rfl) dL_law_8 dL_law_11 dL_law_12 (fun mo Γa La Fa Γ L F H locs hmo hn hp hI hk hk2 hL9 hu h' => ?_)
  obtain ⟨hp, hYn, z24⟩ := (show z14 Γa Fa mo ∧ zYn Γa Fa mo ∧ zfld Fa mo 24 = .int 0 from hp)
  obtain ⟨pr, pq, sp, Lp, Lq, Ls, hz, z7, z11, z32, z3, z8⟩ := (show z14 Γa Fa mo from hp)
  have hYn := hYn.mv hn (Γ' := Γ) (F' := F) (fun a t ha => ⟨(hk2 a (hI a t ha).1).1, (hk2 a (hI a t ha).1).2.1⟩)
  obtain ⟨y4, y5, y6, hz⟩ := hz
  have hm2 := hk2 mo (hI mo _ hn).1
  have hF2 := hF2.mv (Γ' := Γ) (F' := F) (fun a t ha => ⟨(hk a (h.2.2.2.1 a t ha).1).1.trans ha, (hk a (h.2.2.2.1 a t ha).1).2.1⟩)
  have hM3 := hM3.mv hth (Γ' := Γ) (F' := F) (fun a t ha => ⟨((hk a (h.2.2.2.1 a t ha).1).1.trans ha).trans ha.symm, (hk a (h.2.2.2.1 a t ha).1).2.1⟩)
  have hDa := hDa.mv (fun f h9 => hPa.ty h9) (Γ' := Γ) (F' := F) (fun a t ha => ⟨(hk a (h.2.2.2.1 a t ha).1).1.trans ha, (hk a (h.2.2.2.1 a t ha).1).2.1⟩)
  have hDb := hDb.mv (fun f h9 => hPb.ty h9) (Γ' := Γ) (F' := F) (fun a t ha => ⟨(hk a (h.2.2.2.1 a t ha).1).1.trans ha, (hk a (h.2.2.2.1 a t ha).1).2.1⟩)
  have hPa := hPa.mv hpn (Γ' := Γ) (F' := F) (fun a t ha => ⟨(hk a (h.2.2.2.1 a t ha).1).1.trans ha, (hk a (h.2.2.2.1 a t ha).1).2.1⟩)
  have hPb := hPb.mv hsn (Γ' := Γ) (F' := F) (fun a t ha => ⟨(hk a (h.2.2.2.1 a t ha).1).1.trans ha, (hk a (h.2.2.2.1 a t ha).1).2.1⟩)
  have hLa := hLa.mv hpn (Γ' := Γ) (F' := F) (fun a t ha => ⟨(hk a (h.2.2.2.1 a t ha).1).1.trans ha, (hk a (h.2.2.2.1 a t ha).1).2.1⟩)
  have hLb := hLb.mv hsn (Γ' := Γ) (F' := F) (fun a t ha => ⟨(hk a (h.2.2.2.1 a t ha).1).1.trans ha, (hk a (h.2.2.2.1 a t ha).1).2.1⟩)
  have g1 := zfld_e ((hk to (h.2.2.2.1 to _ hto).1).2.1) g1
  have g2 := zfld_e ((hk pn (h.2.2.2.1 pn _ hpn).1).2.1) g2
  have g3 := zfld_e ((hk pn (h.2.2.2.1 pn _ hpn).1).2.1) g3
  have g4 := zfld_e ((hk gr (h.2.2.2.1 gr _ hgr).1).2.1) g4
  have hpn := (hk pn (h.2.2.2.1 pn _ hpn).1).1.trans hpn
  have hsn := (hk sn (h.2.2.2.1 sn _ hsn).1).1.trans hsn
  have hto := (hk to (h.2.2.2.1 to _ hto).1).1.trans hto
  have hgr := (hk gr (h.2.2.2.1 gr _ hgr).1).1.trans hgr
  have j2 := zfld_e ((hk th (h.2.2.2.1 th _ hth).1).2.1) j2
  have j3 := zfld_e ((hk th (h.2.2.2.1 th _ hth).1).2.1) j3
  have j10 := zfld_e ((hk th (h.2.2.2.1 th _ hth).1).2.1) j10
  have j11 := zfld_e ((hk th (h.2.2.2.1 th _ hth).1).2.1) j11
  have hP : zFP Γ F pr pq sp Lp Lq Ls := zFP.mv (Γ := Γa) (F := Fa) hz hI (fun a ha => ⟨(hk2 a ha).1, (hk2 a ha).2.1⟩) (fun a ha => (hL9 a (h'.2.2.2.1 a _ ha).1).elim (fun h1 => absurd ((hk a h1).1.symm.trans ha) (h11 a)) (fun h1 => (hk2 a h1).1.symm.trans ha))
  have y4 := zfld_e hm2.2.1 y4
  have y5 := zfld_e hm2.2.1 y5
  have y6 := zfld_e hm2.2.1 y6
  have z7 := zfld_e hm2.2.1 z7
  have z11 := zfld_e hm2.2.1 z11
  have z32 := zfld_e hm2.2.1 z32
  have z3 := zfld_e hm2.2.1 z3
  have z8 := zfld_e hm2.2.1 z8
  have z24 := zfld_e hm2.2.1 z24
  have hth := (hk th thL).1.trans hth
  have kf := zfld_e (hk th thL).2.1 kf
  have kq := zfld_e (hk th thL).2.1 kq
  have k8 := zfld_e (hk th thL).2.1 k8
  have h := h'
  clear h' hk hk2 hL9 hu hp hn hI hz hm2 h11 thL
  refine W.widen (k := 319) (n := 43905) (Nat.le_of_ble_eq_true rfl) (Nat.le_of_ble_eq_true rfl) ?_
  refine lv_astore_n (lv' := [(2, .ref mo), (1, .ref th), (0, .ref b)]) hx hb dL_law_15 rfl hl (by decide) rfl (fun ls hl => ?_)
  refine lv_iconst (v := 1) hx hb dL_law_16 (by decide) ?_
  refine zj_ar (atype := .long) (ty := .long) (κ := 2) (tc := 154) (N' := 1) (a0 := (1, .inr (.inl (fun _ => 0)))) Y h (zml (List.mem_of_getElem? (i := 208) rfl)) rfl rfl (fun _ h9 => h9) (fun _ => rfl) (by decide) (by decide) (by decide) (Nat.le_of_ble_eq_true rfl) (Nat.le_of_ble_eq_true rfl) (by decide) (fun _ _ _ hF9 => zar_l (n := 1) (lo := 0) (hi := 0) rfl hF9) dL_law_17 (fun o Γ1 L1 F1 H ho hk hL9 h' => ?_)
  have hkL : ∀ a t, Γ a = some t → Γ1 a = Γ a ∧ F1 a = F a ∧ a ∈ L1 := fun a t ha => hk a (h.2.2.2.1 a t ha).1
  have hP : zFP Γ1 F1 pr pq sp Lp Lq Ls := zFP.mv hP h.2.2.2.1 (fun a ha => ⟨(hk a ha).1, (hk a ha).2.1⟩) (fun a ha => (hL9 a (h'.2.2.2.1 a _ ha).1).elim (fun h1 => (hk a h1).1.symm.trans ha) (fun h1 => by rw [h1, ho] at ha; injection ha with ha; omega))
  have m2 := (hkL mo _ hmo).2.1
  have hF2 := hF2.mv (Γ' := Γ1) (F' := F1) (fun a t ha => ⟨(hkL a t ha).1.trans ha, (hkL a t ha).2.1⟩)
  have hM3 := hM3.mv hth (Γ' := Γ1) (F' := F1) (fun a t ha => ⟨((hkL a t ha).1.trans ha).trans ha.symm, (hkL a t ha).2.1⟩)
  have hDa := hDa.mv (fun f h9 => hPa.ty h9) (Γ' := Γ1) (F' := F1) (fun a t ha => ⟨(hkL a t ha).1.trans ha, (hkL a t ha).2.1⟩)
  have hDb := hDb.mv (fun f h9 => hPb.ty h9) (Γ' := Γ1) (F' := F1) (fun a t ha => ⟨(hkL a t ha).1.trans ha, (hkL a t ha).2.1⟩)
  have hPa := hPa.mv hpn (Γ' := Γ1) (F' := F1) (fun a t ha => ⟨(hkL a t ha).1.trans ha, (hkL a t ha).2.1⟩)
  have hPb := hPb.mv hsn (Γ' := Γ1) (F' := F1) (fun a t ha => ⟨(hkL a t ha).1.trans ha, (hkL a t ha).2.1⟩)
  have hLa := hLa.mv hpn (Γ' := Γ1) (F' := F1) (fun a t ha => ⟨(hkL a t ha).1.trans ha, (hkL a t ha).2.1⟩)
  have hLb := hLb.mv hsn (Γ' := Γ1) (F' := F1) (fun a t ha => ⟨(hkL a t ha).1.trans ha, (hkL a t ha).2.1⟩)
  have g1 := zfld_e ((hkL to _ hto).2.1) g1
  have g2 := zfld_e ((hkL pn _ hpn).2.1) g2
  have g3 := zfld_e ((hkL pn _ hpn).2.1) g3
  have g4 := zfld_e ((hkL gr _ hgr).2.1) g4
  have hpn := (hkL pn _ hpn).1.trans hpn
  have hsn := (hkL sn _ hsn).1.trans hsn
  have hto := (hkL to _ hto).1.trans hto
  have hgr := (hkL gr _ hgr).1.trans hgr
  have j2 := zfld_e ((hkL th _ hth).2.1) j2
  have j3 := zfld_e ((hkL th _ hth).2.1) j3
  have j10 := zfld_e ((hkL th _ hth).2.1) j10
  have j11 := zfld_e ((hkL th _ hth).2.1) j11
  have hYn := hYn.mv hmo (Γ' := Γ1) (F' := F1) (fun a t ha => ⟨(hkL a t ha).1, (hkL a t ha).2.1⟩)
  have y4 := zfld_e m2 y4
  have y5 := zfld_e m2 y5
  have y6 := zfld_e m2 y6
  have z7 := zfld_e m2 z7
  have z11 := zfld_e m2 z11
  have z32 := zfld_e m2 z32
  have z3 := zfld_e m2 z3
  have z8 := zfld_e m2 z8
  have z24 := zfld_e m2 z24
  have kf := zfld_e (hkL th _ hth).2.1 kf
  have kq := zfld_e (hkL th _ hth).2.1 kq
  have k8 := zfld_e (hkL th _ hth).2.1 k8
  have hth := (hkL th _ hth).1.trans hth
  have hmo := (hkL mo _ hmo).1.trans hmo
  have h := h'
  clear h' hk hL9 hkL m2
  refine W.widen (k := 320) (n := 43906) (Nat.le_of_ble_eq_true rfl) (Nat.le_of_ble_eq_true rfl) ?_
  refine lv_astore_n (lv' := [(3, .ref o), (2, .ref mo), (1, .ref th), (0, .ref b)]) hx hb dL_law_19 rfl hl (by decide) rfl (fun ls hl => ?_)
  refine lv_iconst (v := 0) hx hb dL_law_20 (by decide) ?_
  refine lv_istore (lv' := [(4, .int 0), (3, .ref o), (2, .ref mo), (1, .ref th), (0, .ref b)]) hx hb dL_law_21 hl (by decide) rfl (fun ls hl => ?_)
  obtain ⟨ro, kro, hro⟩ := z_rf (j := 34) (n := 151) h.2.2.2.1 hmo (by decide) rfl
  obtain ⟨tc, k0, htc⟩ := z_rf (j := 0) (n := 100) h.2.2.2.1 hth (by decide) rfl
  obtain ⟨tp, k10, htp⟩ := z_rf (j := 10) (n := 152) h.2.2.2.1 hmo (by decide) rfl
  obtain ⟨ch, kch, hch⟩ := z_rf (j := 9) (n := 0) h.2.2.2.1 hth (by decide) rfl
  obtain ⟨kn, kkn⟩ : ∃ kn : Int32, zfld F1 ch 2 = .int kn := by
    obtain ⟨fs9, -, -, g9⟩ := (h.2.2.2.1 ch _ hch).2.1 (by decide)
    obtain ⟨x9, e9, -⟩ := g9 2 (0, 0, 1) rfl
    exact ⟨x9, e9⟩
  skip
  have hJ : zJw Γ1 F1 th mo 0 := ⟨pn, sn, tc, tp, fa, fb, la, lb, Ln9, Ls9, j2, j3, hF2, ⟨hPa, hPb⟩, ⟨hLa, hLb⟩, ⟨k0, htc⟩, ⟨k10, htp⟩, fun i hi => absurd hi (by have e0 : (0 : Int32).toInt = 0 := (by decide); omega)⟩
  have hMI : zMI Γ1 F1 mo pr := ⟨z_SA h.2.2.2.1 hP.1.2.1, 0, 0, ro, z7, z32, kro, hro, fun _ => by decide, fun h9 => absurd (by decide) h9⟩
  have hAge : ∀ q, zA L1 s.heap.size q → s.heap.size ≤ q := fun q h9 => h9.elim (fun h1 => hA2 q (h.2.2.1 q h1)) id
  have Z : zC p m c cL_law 7 s #[Value.ref b] zGL RL D k L1 := ⟨Y.1, hK, h.2.1, hE.nar (fun q h9 => hA q (hAge q h9))⟩
  have hS := h.2.2.2.2
  have hH : zH D k Γ1 L1 s F1 H _ := ⟨h.1, h.2.2.2.1, hS.1, fun q h1 h2 => hS.2.1 q h1 (fun h9 => h2 (Or.inr (hA2 q h9))), fun q hq => Or.inr (hA2 _ (hS.2.2 q hq))⟩
  exact law_loop hst Z hX hbl (fun h9 => Nat.not_le.mpr hbl (hAge b h9)) hL hr hlocks hAge 512 0 F1 H _ ls 0 (by omega) (by omega) hH ⟨hth, hmo, ho, pr, pq, sp, Lp, Lq, Ls, y4, y5, y6, hP, hMI⟩ ⟨kf, z11, by decide, by decide⟩ hJ ⟨0, kq, z3⟩ ⟨pn, to, pr, fa, la, 0, 0, 0, 0, ⟨⟨j2, j10, y4⟩, ⟨hpn, hto, hP.1.2.1, hPa, hLa, z_SA h.2.2.2.1 hP.1.2.1⟩, ⟨g2, g3, by decide, by decide⟩, g1, z32, z7, Or.inl ⟨by decide, by decide, by decide⟩⟩, fun _ => 0, ch, kn, fun f h9 => absurd h9 (by have : (0 : Int32).toInt = 0 := (by decide); omega), fun f h9 => absurd h9 (by have : (0 : Int32).toInt = 0 := (by decide); omega), kch, hch, kkn, fun _ h9 => absurd h9 (by decide), z_ad (j := 0) (c := 113) h.2.2.2.1 hch (by decide) rfl, z_ad (j := 1) (c := 114) h.2.2.2.1 hch (by decide) rfl⟩ ⟨pn, gr, pr, pq, 0, 0, 0, fun _ => 0, fa, 0, 0, 0, 0, ⟨j2, j11, y4, y5⟩, ⟨hpn, hgr, hP.1.2.1, hP.2.1.2.1, z_SA h.2.2.2.1 hP.1.2.1, z_SA h.2.2.2.1 hP.2.1.2.1, hPa⟩, ⟨g2, by decide, z7, z8, g4⟩, fun h9 => absurd h9 (by decide), Or.inl ⟨by decide, by decide⟩, Or.inl ⟨by decide, by decide⟩, fun f h9 => absurd h9 (by have : (0 : Int32).toInt = 0 := (by decide); omega)⟩ ⟨hM3, pn, sn, pr, fa, fb, la, 0, 0, ⟨j2, j3, y4⟩, ⟨hpn, hsn, hP.1.2.1⟩, ⟨hPa, hPb, hDa, hDb, hLa⟩, ⟨g2, z7⟩, Or.inl ⟨by decide, by decide⟩⟩ ⟨hYn, 0, v_new0 (fun _ => 0) (fun _ => 0) (fun _ => 0) 0, v_new0 (fun _ => 0) (fun _ => 0) (fun _ => 0) 0, v_new0 (fun _ => 0) (fun _ => 0) (fun _ => 0) 0, ⟨k8, z24⟩, fun h9 => absurd (by decide) h9⟩ hl
set_option maxHeartbeats 4000000 in
theorem lw_walk (l : Launch) (hst : l.stackTraces = false) (b : Addr) (xs : List Int32) : MetFree l x (headSpec (Jvm.Cond.code x code maxLocals ret :: tables_1) room_1) (lw_P b xs) (fun _ _ _ _ _ => True) lw_Q := by
  refine MetFree.of_bodyS (code := code) (maxLocals := maxLocals) (ret := ret) (by decide) ?_ ?_
  · intro args s m h hn
    obtain ⟨meth, c, h1, h2, h3, h4, h5, h6, -, -⟩ := Cond.code_spec hn (atoms_spec (ws := Jvm.Cond.code x code maxLocals ret :: tables_1) h _ List.mem_cons_self)
    exact ⟨meth, c, h1, h2, h3, h4, h5, h6⟩
  · intro p e s m args below meth c s₁ B hml0 hP _
    obtain ⟨rfl, hx, hbd, hgv⟩ := hP
    obtain ⟨scr, harrAt, hlist, hof, hsmall⟩ := hx
    obtain ⟨hcb, hkn, -, -⟩ := State.arrayAt?_spec harrAt
    have hown : s.vm.findClass R_law = some m.cls := findClass_of_methodNamed B.named
    have hts0 : ∀ c ∈ (Jvm.Cond.code x code maxLocals ret :: tables_1), c.before #[Value.ref b] s = true := atoms_spec (ws := Jvm.Cond.code x code maxLocals ret :: tables_1) B.pre
    have hts : ∀ w ∈ lw_tbl, w.before #[Value.ref b] s = true := k2_hts_sels lw_privs (fun w hw => hts0 w (List.mem_cons_of_mem _ hw)) lw_privs_ok
    have hml : c.maxLocals = 7 := B.maxLocals_eq (hts0 _ List.mem_cons_self)
    have X₀ : Stand p l e room_1 s m #[Value.ref b] below meth c s₁ [] 0 0 := Stand.of_body B
    have hh0 : s₁.heap = s.heap := by rw [B.state]; rfl
    have hsz : scr.slots.size = xs.length := by rw [← Array.length_toList, hlist, List.length_map]
    have hval : ∀ j : Nat, j < xs.length → scr.slots[j]? = some (.int (xs.getD j 0)) := fun j hj => by
      rw [← Array.getElem?_toList, hlist]
      simp [hj]
    have hbl : b < s.heap.size := (Array.getElem?_eq_some_iff.mp hcb).1
    have hX : va_X b xs.length (fun j => xs.getD j 0) s s.heap := ⟨scr, hcb, hof, hkn, hsz, hval⟩
    have K : W p l e room_1 s m #[Value.ref b] below meth c s₁.heap [] 0 0 (lw_Z below #[Value.ref b] s) (entryFrame m ([Value.ref b] : List Value).toArray 7) := by
      rw [hh0]
      exact whole_start l hst hbd ⟨B.exec, B.bytes, B.returns, hml, hown, hts, hX, hbl, B.notSynchronized, hgv⟩
    obtain ⟨t, a1, o, b1, b2, b3⟩ := K s₁ rfl X₀
    exact ⟨t, o, a1, b1, b2, b3⟩
theorem lw_pre_spec {args : Array Value} {s : State} (h : (Jvm.Cond.and given_1 narrow_1).before args s = true) (hr : rest_1_c.before args s = true) : ∃ (b : Addr) (xs : List Int32), lw_P b xs args s := by
  have hs := flat_of_before _ h
  have hq := flat_of_before _ hr
  have hc : (Cond.count 1).before args s = true := hs _ (by decide +kernel)
  have harr : (Cond.arrayOf (.arg 0) .int).before args s = true := hs _ (by decide +kernel)
  have hle : (Cond.le (.length (.arg 0)) (.int 3072)).before args s = true := hs _ (by decide +kernel)
  have hlen : (Cond.isInt (.length (.arg 0))).before args s = true := hq _ (by decide +kernel)
  have hall : (Cond.all (.arg 0) (.isInt (.elem (.arg 0) (.index 0)))).before args s = true := hq _ (by decide +kernel)
  obtain ⟨b, xs, hb, hx⟩ := State.ints_of_pre rfl harr hlen hall
  have hsm : xs.length < 2 ^ 31 := hx.choose_spec.2.2.2
  have hev : (Term.length (.arg 0)).eval args s none [] s = some (.int xs.length.toInt32) := hx.length_eval hb
  have hv := Cond.le_ints hev (show (Term.int 3072).eval args s none [] s = some (.int 3072) from rfl)
  have hd : xs.length.toInt32 ≤ 3072 := by
    simpa [Cond.before, Cond.holds, hv] using hle
  have hN : xs.length ≤ 3072 := (Int32.ofNat_le_ofNat hsm (by decide)).mp (show Int32.ofNat xs.length ≤ Int32.ofNat 3072 from hd)
  exact ⟨b, xs, Cond.one_arg hc (show args[0]? = some (.ref b) from hb), hx, hN, h⟩
theorem lw_comes (l : Launch) (hst : l.stackTraces = false) : Comes l x (Jvm.Cond.code x code maxLocals ret :: tables_1) room_1 (fun tb e args s => Calls_1 tb e args s ∧ rest_1 tb e args s ∧ Pre_1 tb e args s)
    (fun _ _ args s o t => lw_Q args s o t) := by
  intro p e ha hc hk s m args below hf hfit hheap happ hpre
  obtain ⟨b, xs, hP⟩ := lw_pre_spec hpre.2.2 hpre.2.1
  obtain ⟨k, o, h1, h2, h3, hQ⟩ := lw_walk l hst b xs p e ha hc hk s m args below hf ((Spec.applies_iff_loose hf).mp happ).1 hP trivial
  exact ⟨k, o, h1, h2, h3, hQ⟩
theorem lw_frame {s t : State} {o : Outcome} {args : Array Value} (h : Framed s o t [] 601024 7293034) :
    Framed s o t (fieldLocs frame_1_writes args s ++ arrayLocs frame_1_arrays args s ++ staticLocs frame_1_statics s) 601024 7293034 := h
theorem lw_limb (L : Cond) (hL : ∀ (args : Array Value) (s t : State), L.after args s (.returned (some (.int 1))) t = true) :
    ArmFor flags0 classFile x code maxLocals ret World_1 tables_1 room_1 Calls_1 rest_1 Pre_1
      (fun tb e a s o t => postC L tb e a s o t ∧ Framed s o t (fieldLocs frame_1_writes a s ++ arrayLocs frame_1_arrays a s ++ staticLocs frame_1_statics s) 601024 7293034) := by
  intro l hfl _ _ p e ha hc hk s m args below hf hfit hheap happ hpre
  obtain ⟨k, o, h1, h2, h3, rfl, hF⟩ := lw_comes l (z_fl l hfl) p e ha hc hk s m args below hf hfit hheap happ hpre
  exact ⟨k, _, h1, h2, h3, hL args s _, lw_frame hF⟩
theorem i_vc : Claimed_1_1 ∧ Claimed_1_2 := ⟨lw_limb limb_1_1 (fun args s t => by simp [limb_1_1, Cond.after, Cond.holds, Cond.value]), lw_limb limb_1_2 (fun args s t => Cond.after_iff.mpr (by
  first | (rw [show limb_1_2 = Cond.eq .result (.int 1) from rfl, Cond.eq_ints (x := 1) (y := 1) rfl rfl]; simp; done) | (simp [limb_1_2, Cond.value, Term.eval]; done)))⟩

